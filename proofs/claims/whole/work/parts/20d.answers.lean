/-! ===== what the class's reckoning answers ===== -/
def RnH (s0 m T nt : Nat) (wo : Int → Int) (cn : Nat → Nat) (cc : Nat → Nat → Int × Int) (K : Nat → aKd) (D : Nat → Int → Int) (z : Nat × Nat) : Prop := CI s0 m T nt wo cn cc K D z ∧ D 1 6 = (T : Nat) ∧ (D 1 10 = 0 ∨ (D 1 10 = 1 ∧ RkC D wo T nt cn cc (vwC D) (stC D) (-1) D ∧ (evX D wo T (vwC D) (stC D) (-1)).1 ≤ m))
def RnK (s0 m' T nt : Nat) (wo : Int → Int) (cn : Nat → Nat) (cc : Nat → Nat → Int × Int) (D : Nat → Int → Int) (K' : Nat → aKd) (D' : Nat → Int → Int) (z' : Nat × Nat) : Prop := CI s0 m' T nt wo cn cc K' D' z' ∧ FrI T D D' ∧ D' 1 10 = 1 ∧ RkC D' wo T nt cn cc (vwC D') (stC D') (-1) D' ∧ (evX D' wo T (vwC D') (stC D') (-1)).1 ≤ m' ∧ vwC D' = vwC D ∧ stC D' = stC D
def anE (wo : Int → Int) (T nt : Nat) (cn : Nat → Nat) (cc : Nat → Nat → Int × Int) (D' : Nat → Int → Int) (e : Nat) (what : Int) : Int := if what = 0 then (evX D' wo T (vwC D') (stC D') (-1)).2.1 e else if what = 1 then (evX D' wo T (vwC D') (stC D') (-1)).2.2.2 e else if what = 2 then (slP (WqC D' T nt (vwC D') cn cc) (acP (WqC D' T nt (vwC D') cn cc) (qX D' wo T (vwC D') (stC D') (-1)) e).1 ((qX D' wo T (vwC D') (stC D') (-1)) e)).1 else if what = 3 then (if (slP (WqC D' T nt (vwC D') cn cc) (acP (WqC D' T nt (vwC D') cn cc) (qX D' wo T (vwC D') (stC D') (-1)) e).1 ((qX D' wo T (vwC D') (stC D') (-1)) e)).2.1 = true then 1 else 0) else sumF (fun h : Nat => ((qX D' wo T (vwC D') (stC D') (-1)) e).d h) 12
def anG (wo : Int → Int) (T nt : Nat) (cn : Nat → Nat) (cc : Nat → Nat → Int × Int) (D' : Nat → Int → Int) (e : Nat) (h what : Int) : Int := if what = 0 then ((qX D' wo T (vwC D') (stC D') (-1)) e).d h else if what = 1 then grP (WqC D' T nt (vwC D') cn cc) (acP (WqC D' T nt (vwC D') cn cc) (qX D' wo T (vwC D') (stC D') (-1)) e).1 ((qX D' wo T (vwC D') (stC D') (-1)) e) h else rtP (WqC D' T nt (vwC D') cn cc) (acP (WqC D' T nt (vwC D') cn cc) (qX D' wo T (vwC D') (stC D') (-1)) e).1 ((qX D' wo T (vwC D') (stC D') (-1)) e) h
def anT (wo : Int → Int) (T nt : Nat) (cn : Nat → Nat) (cc : Nat → Nat → Int × Int) (D' : Nat → Int → Int) (e t : Nat) (what : Int) : Int := if what = 0 then baP (WqC D' T nt (vwC D') cn cc) (acP (WqC D' T nt (vwC D') cn cc) (qX D' wo T (vwC D') (stC D') (-1)) e).1 ((qX D' wo T (vwC D') (stC D') (-1)) e) t else if what = 1 then usP (WqC D' T nt (vwC D') cn cc) (acP (WqC D' T nt (vwC D') cn cc) (qX D' wo T (vwC D') (stC D') (-1)) e).1 ((qX D' wo T (vwC D') (stC D') (-1)) e) t else if what = 2 then paP (WqC D' T nt (vwC D') cn cc) (acP (WqC D' T nt (vwC D') cn cc) (qX D' wo T (vwC D') (stC D') (-1)) e).1 ((qX D' wo T (vwC D') (stC D') (-1)) e) t else if what = 3 then rsF ((WqC D' T nt (vwC D') cn cc)).w (acP (WqC D' T nt (vwC D') cn cc) (qX D' wo T (vwC D') (stC D') (-1)) e).2 (usP (WqC D' T nt (vwC D') cn cc) (acP (WqC D' T nt (vwC D') cn cc) (qX D' wo T (vwC D') (stC D') (-1)) e).1 ((qX D' wo T (vwC D') (stC D') (-1)) e)) t else pmF ((WqC D' T nt (vwC D') cn cc)).w (acP (WqC D' T nt (vwC D') cn cc) (qX D' wo T (vwC D') (stC D') (-1)) e).2 (usP (WqC D' T nt (vwC D') cn cc) (acP (WqC D' T nt (vwC D') cn cc) (qX D' wo T (vwC D') (stC D') (-1)) e).1 ((qX D' wo T (vwC D') (stC D') (-1)) e)) t
section
variable {G : aCX} {l : Launch} {d : Nat} {K : Nat → aKd} {D : Nat → Int → Int} {z : Nat × Nat} {P : Int → aSt → Prop}
theorem v_rn {s0 m T nt : Nat} {wo : Int → Int} {cn : Nat → Nat} {cc : Nat → Nat → Int × Int} (h : RnH s0 m T nt wo cn cc K D z) (kk : ∀ K' D' z' m', RnK s0 m' T nt wo cn cc D K' D' z' → P 0 (K', D', z')) : VM G l (d + 5) iX11_reckonIfNeeded [rf 1] (K, D, z) P := v_reckonIfNeeded h.1 h.2.1 h.2.2 (fun K' D' z' m' a1 a2 a3 a4 a5 a6 => kk K' D' z' m' ⟨a1, a2, a3, a4, a5, a6⟩)
theorem v_slot {s0 m e : Nat} (hk : Kn K) (hS : SlI s0 m K D z) (he : e < m) (kk : P ((279 + 10 * e : Nat) : Int) (K, D, z)) : VM G l (d + 1) iX5_happeningAt [rf 101, (0, (e : Int))] (K, D, z) P := by
  obtain ⟨h60, hz, hs0, h1, h2⟩ := id hS
  have q1 := (h1 e he).1
  refine VM_go (tg2 rfl) (Nat.le_of_ble_eq_true rfl) ?_
  refine s_al0 rfl ?_
  refine s_gf rfl (hk.at rfl rfl) rfl rfl ?_
  refine s_il1 rfl ?_
  refine s_aald rfl (hk.at rfl rfl) (by omega) ?_
  rw [q1]
  refine s_as2 rfl rfl ?_
  refine s_al2 rfl ?_
  refine s_nnl rfl ?_ ?_
  · intro h8
    refine s_al2 rfl ?_
    refine s_retr rfl rfl ?_
    exact kk
  · intro h8
    exact absurd h8 (by show ¬ (((279 + 10 * e : Nat) : Int) = 0); omega)
theorem v_events {s0 m T nt : Nat} {wo : Int → Int} {cn : Nat → Nat} {cc : Nat → Nat → Int × Int} (hR : RnH s0 m T nt wo cn cc K D z) (kk : ∀ K' D' z' m', RnK s0 m' T nt wo cn cc D K' D' z' → P ((evX D' wo T (vwC D') (stC D') (-1)).1 : Nat) (K', D', z')) : VM G l (d + 6) iX11_events [rf 1] (K, D, z) P := by
  have hk := hR.1.1
  refine VM_go (tg2 rfl) (Nat.le_of_ble_eq_true rfl) ?_
  refine s_al0 rfl ?_
  refine s_callO rfl rfl (Or.inl rfl) rfl rfl (hk.at rfl rfl) (v_rn hR (fun K' D' z' m' hR' => ?_))
  obtain ⟨hC', hF', h10', hK', hm', hvs'⟩ := id hR'
  have hk' := hC'.1
  have h16' : D' 1 6 = (T : Nat) := by rw [hF'.2 6 (by decide)]; exact hR.2.1
  have hT' := hC'.2.2.2.1
  have n60 := (evX_facts (v := vwC D') (stm := stC D') (ms := -1) hC'.2.2.2).2.1
  show V G l (d + 6) iX11_events 4 [rf 1] [] (K', D', z') P
  refine s_al0 rfl ?_
  refine s_gf rfl (hk'.at rfl rfl) rfl rfl ?_
  refine s_gf rfl (hk'.at rfl rfl) rfl rfl ?_
  refine s_gi rfl (hk'.at rfl rfl) rfl ?_
  rw [hK'.1.1]
  refine s_reti rfl rfl ?_
  exact kk K' D' z' m' hR'
theorem v_eventOf {s0 m T nt : Nat} {wo : Int → Int} {cn : Nat → Nat} {cc : Nat → Nat → Int × Int} {q : Int} (hR : RnH s0 m T nt wo cn cc K D z) (k1 : 0 ≤ q ∧ q < D 89 0 → ∀ K' D' z' m', RnK s0 m' T nt wo cn cc D K' D' z' → P ((evX D' wo T (vwC D') (stC D') (-1)).2.2.1 q) (K', D', z')) (k0 : ¬ (0 ≤ q ∧ q < D 89 0) → P (-1) (K, D, z)) : VM G l (d + 6) iX11_eventOf [rf 1, (0, q)] (K, D, z) P := by
  have hk := hR.1.1
  have hn : 0 ≤ D 89 0 ∧ D 89 0 ≤ 60 := ⟨hR.1.2.2.2.2.1.2.2.2.2.1, hR.1.2.2.2.2.1.2.2.2.2.2⟩
  refine VM_go (tg2 rfl) (Nat.le_of_ble_eq_true rfl) ?_
  refine s_al0 rfl ?_
  refine s_il1 rfl ?_
  refine s_callO rfl rfl (Or.inl rfl) rfl rfl (hk.at rfl rfl) (v_isLoss hk ?_)
  show V G l (d + 6) iX11_eventOf 5 [rf 1, (0, q)] ((0, if 0 ≤ q ∧ q < D 89 0 then 1 else 0) :: []) (K, D, z) P
  generalize h1 : (if 0 ≤ q ∧ q < D 89 0 then (1 : Int) else 0) = c_h1
  refine s_zne rfl ?_ ?_
  · intro h5
    have h1y : 0 ≤ q ∧ q < D 89 0 := Decidable.byContradiction fun x => by rw [if_neg x] at h1; omega
    refine s_al0 rfl ?_
    refine s_callO rfl rfl (Or.inl rfl) rfl rfl (hk.at rfl rfl) (v_rn hR (fun K' D' z' m' hR' => ?_))
    obtain ⟨hC', hF', h10', hK', hm', hvs'⟩ := id hR'
    have hk' := hC'.1
    have h16' : D' 1 6 = (T : Nat) := by rw [hF'.2 6 (by decide)]; exact hR.2.1
    have hT' := hC'.2.2.2.1
    have n60 := (evX_facts (v := vwC D') (stm := stC D') (ms := -1) hC'.2.2.2).2.1
    show V G l (d + 6) iX11_eventOf 14 [rf 1, (0, q)] [] (K', D', z') P
    refine s_al0 rfl ?_
    refine s_gf rfl (hk'.at rfl rfl) rfl rfl ?_
    refine s_gf rfl (hk'.at rfl rfl) rfl rfl ?_
    refine s_gf rfl (hk'.at rfl rfl) rfl rfl ?_
    refine s_il1 rfl ?_
    refine s_iald rfl (hk'.at rfl rfl) (by omega) ?_
    refine s_reti rfl rfl ?_
    have e89 : D' 89 = D 89 := hF'.1 89 (by decide) (by decide) (by unfold rkR; have hT2 : T = 8 ∨ T = 129 := hT'; omega) (by decide)
    have := hK'.2.1 q.toNat (by rw [e89]; omega)
    rw [show ((q.toNat : Nat) : Int) = q by omega] at this
    rw [this]
    exact k1 h1y K' D' z' m' hR'
  · intro h5
    have h1n : ¬ (0 ≤ q ∧ q < D 89 0) := fun x => by rw [if_pos x] at h1; omega
    refine s_ic rfl ?_
    refine s_reti rfl rfl ?_
    exact k0 h1n
theorem v_eventP {s0 m T nt : Nat} {wo : Int → Int} {cn : Nat → Nat} {cc : Nat → Nat → Int × Int} {e what : Int} (hR : RnH s0 m T nt wo cn cc K D z) (k1 : ∀ K' D' z' m', RnK s0 m' T nt wo cn cc D K' D' z' → ∀ i : Nat, e = (i : Int) → i < (evX D' wo T (vwC D') (stC D') (-1)).1 → 0 ≤ what ∧ what ≤ 4 → P (anE wo T nt cn cc D' i what) (K', D', z')) (k0 : ∀ K' D' z' m', RnK s0 m' T nt wo cn cc D K' D' z' → ¬ ((0 ≤ e ∧ e < (((evX D' wo T (vwC D') (stC D') (-1)).1 : Nat) : Int)) ∧ 0 ≤ what ∧ what ≤ 4) → P (-1) (K', D', z')) : VM G l (d + 6) iX11_event [rf 1, (0, e), (0, what)] (K, D, z) P := by
  have hk := hR.1.1
  refine VM_go (tg2 rfl) (Nat.le_of_ble_eq_true rfl) ?_
  refine s_al0 rfl ?_
  refine s_callO rfl rfl (Or.inl rfl) rfl rfl (hk.at rfl rfl) (v_rn hR (fun K' D' z' m' hR' => ?_))
  obtain ⟨hC', hF', h10', hK', hm', hvs'⟩ := id hR'
  have hk' := hC'.1
  have h16' : D' 1 6 = (T : Nat) := by rw [hF'.2 6 (by decide)]; exact hR.2.1
  have hT' := hC'.2.2.2.1
  have n60 := (evX_facts (v := vwC D') (stm := stC D') (ms := -1) hC'.2.2.2).2.1
  show V G l (d + 6) iX11_event 4 [rf 1, (0, e), (0, what), (9, 0)] [] (K', D', z') P
  refine s_al0 rfl ?_
  refine s_il1 rfl ?_
  refine s_callO rfl rfl (Or.inl rfl) rfl rfl (hk'.at rfl rfl) (v_isEvent hk' ?_)
  rw [hK'.1.1]
  show V G l (d + 6) iX11_event 9 [rf 1, (0, e), (0, what), (9, 0)] [(0, if 0 ≤ e ∧ e < (((evX D' wo T (vwC D') (stC D') (-1)).1 : Nat) : Int) then 1 else 0)] (K', D', z') P
  generalize h1 : (if 0 ≤ e ∧ e < (((evX D' wo T (vwC D') (stC D') (-1)).1 : Nat) : Int) then (1 : Int) else 0) = c_h1
  refine s_zne rfl ?_ ?_
  · intro h9
    have h1y : 0 ≤ e ∧ e < (((evX D' wo T (vwC D') (stC D') (-1)).1 : Nat) : Int) := Decidable.byContradiction fun x => by rw [if_neg x] at h1; omega
    obtain ⟨i, rfl⟩ : ∃ i : Nat, e = (i : Int) := ⟨e.toNat, by omega⟩
    have hi : i < (evX D' wo T (vwC D') (stC D') (-1)).1 := by omega
    have kh := (hC'.2.1.2.2.2.1 i (by omega)).2
    obtain ⟨sA1, sA2, ⟨sA3, sA4, sA5, sA6⟩, sA7⟩ := hK'.2.2.1 i hi
    refine s_al0 rfl ?_
    refine s_gf rfl (hk'.at rfl rfl) rfl rfl ?_
    refine s_il1 rfl ?_
    refine s_callO rfl rfl (Or.inl rfl) rfl rfl (hk'.at rfl rfl) (v_slot hk' hC'.2.1 (show i < m' by omega) ?_)
    show V G l (d + 6) iX11_event 22 [rf 1, (0, (i : Int)), (0, what), (9, 0)] ((2, ((279 + 10 * i : Nat) : Int)) :: []) (K', D', z') P
    refine s_as3 rfl rfl ?_
    refine s_il2 rfl ?_
    refine s_sw rfl ?_
    refine And.intro (fun h24 => ?_) (fun h24n0 => ?_)
    · skip
      refine s_al3 rfl ?_
      refine s_gi rfl kh.2.1 rfl ?_
      refine s_reti rfl rfl ?_
      have k1 := k1 K' D' z' m' hR' i rfl hi (by omega)
      unfold anE at k1
      rw [if_pos h24] at k1
      rw [sA1.1]; exact k1
    refine And.intro (fun h24 => ?_) (fun h24n1 => ?_)
    · skip
      refine s_al3 rfl ?_
      refine s_gi rfl kh.2.1 rfl ?_
      refine s_reti rfl rfl ?_
      have k1 := k1 K' D' z' m' hR' i rfl hi (by omega)
      unfold anE at k1
      rw [if_neg (by omega), if_pos h24] at k1
      rw [sA1.2]; exact k1
    refine And.intro (fun h24 => ?_) (fun h24n2 => ?_)
    · skip
      refine s_al3 rfl ?_
      refine s_gi rfl kh.2.1 rfl ?_
      refine s_reti rfl rfl ?_
      have k1 := k1 K' D' z' m' hR' i rfl hi (by omega)
      unfold anE at k1
      rw [if_neg (by omega), if_neg (by omega), if_pos h24] at k1
      rw [sA3]; exact k1
    refine And.intro (fun h24 => ?_) (fun h24n3 => ?_)
    · skip
      refine s_al3 rfl ?_
      refine s_gz rfl kh.2.1 rfl ?_
      rw [sA4]
      have k1 := k1 K' D' z' m' hR' i rfl hi (by omega)
      unfold anE at k1
      rw [if_neg (by omega), if_neg (by omega), if_neg (by omega), if_pos h24] at k1
      generalize (slP (WqC D' T nt (vwC D') cn cc) (acP (WqC D' T nt (vwC D') cn cc) (qX D' wo T (vwC D') (stC D') (-1)) i).1 ((qX D' wo T (vwC D') (stC D') (-1)) i)).2.1 = bb at k1 ⊢
      refine s_zeq rfl ?_ ?_
      · intro h79
        refine s_ic rfl ?_
        refine s_reti rfl rfl ?_
        cases bb
        · first | exact k1 | exact absurd h79 (by decide) | exact absurd rfl h79
        · first | exact k1 | exact absurd h79 (by decide) | exact absurd rfl h79
      · intro h79
        refine s_ic rfl ?_
        refine s_go rfl ?_
        refine s_reti rfl rfl ?_
        cases bb
        · first | exact k1 | exact absurd h79 (by decide) | exact absurd rfl h79
        · first | exact k1 | exact absurd h79 (by decide) | exact absurd rfl h79
    refine And.intro (fun h24 => ?_) (fun h24n4 => ?_)
    · skip
      refine s_al3 rfl ?_
      refine s_callO rfl rfl (Or.inl rfl) rfl rfl kh.2.1 (v_directOfAll kh (fun h hh => ?_) ?_)
      · rw [sA2 h (by omega) (by omega)]
        exact (evX_facts (v := vwC D') (stm := stC D') (ms := -1) hC'.2.2.2).2.2.2.1 i h (by omega) (by omega)
      show V G l (d + 6) iX11_event 92 _ [(0, sumF (fun h : Nat => D' (279 + 10 * i + 1) h) 12)] (K', D', z') P
      refine s_reti rfl rfl ?_
      have k1 := k1 K' D' z' m' hR' i rfl hi (by omega)
      unfold anE at k1
      rw [if_neg (by omega), if_neg (by omega), if_neg (by omega), if_neg (by omega)] at k1
      rw [sumF_congr (g := fun h : Nat => ((qX D' wo T (vwC D') (stC D') (-1)) i).d h) (fun h hh => sA2 h (by omega) (by omega))]; exact k1
    refine s_ic rfl ?_
    refine s_reti rfl rfl ?_
    exact k0 K' D' z' m' hR' (fun q => by omega)
  · intro h9
    have h1n : ¬ (0 ≤ e ∧ e < (((evX D' wo T (vwC D') (stC D') (-1)).1 : Nat) : Int)) := fun x => by rw [if_pos x] at h1; omega
    refine s_ic rfl ?_
    refine s_reti rfl rfl ?_
    exact k0 K' D' z' m' hR' (fun q => h1n q.1)
end
