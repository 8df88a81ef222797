/-! ===== clearIfNeeded: the class ===== -/
def ClC (D0 : Nat → Int → Int) (wo : Int → Int) (T nt : Nat) (cn : Nat → Nat) (cc : Nat → Nat → Int × Int) (n : Nat) (D : Nat → Int → Int) : Prop := D 121 7 = ((clM D0 wo T nt cn cc (stC D0)).1 : Nat) ∧ D 121 8 = cmN (fun a => faX D0 wo T nt cn cc (stC D0) a) n ∧ ∀ i : Nat, i < n → D 123 i = alX D0 wo T nt cn cc (stC D0) i ∧ D 124 i = (clM D0 wo T nt cn cc (stC D0)).2 i ∧ D 125 i = gtP 12 (ntX D0 wo T nt cn cc (stC D0)) (alX D0 wo T nt cn cc (stC D0)) (clM D0 wo T nt cn cc (stC D0)).2 i ∧ D 126 i = if faX D0 wo T nt cn cc (stC D0) i = true then 1 else 0
theorem cmN_same {f g : Nat → Bool} : ∀ n : Nat, (∀ a, a < n → f a = g a) → cmN f n = cmN g n := by
  intro n h
  unfold cmN
  exact sumF_congr fun a ha => by rw [h a ha]
section
variable {G : aCX} {l : Launch} {d : Nat} {K : Nat → aKd} {D : Nat → Int → Int} {z : Nat × Nat} {P : Int → aSt → Prop}
theorem v_clearIfNeeded {s0 m T nt : Nat} {wo : Int → Int} {cn : Nat → Nat} {cc : Nat → Nat → Int × Int} {n : Nat} (hR : RnH s0 m T nt wo cn cc K D z) (hn : D T 0 = (n : Nat)) (hp : ∀ h : Nat, h < 12 → D 122 h = D 272 h) (hpu : ∀ a : Nat, a < 12 → 0 ≤ D 272 a ∧ D 272 a ≤ 99999999) (k1 : ¬ D 1 11 = 0 → P 0 (K, D, z)) (k2 : D 1 11 = 0 → ∀ K' D' z' m', RnK s0 m' T nt wo cn cc D K' D' z' → ∀ D2 : Nat → Int → Int, (∀ r, (r < 121 ∨ 128 < r ∨ r = 122) → D2 r = D' r) → ClC D' wo T nt cn cc n D2 → P 0 (K', aUp D2 1 11 1, z')) : VM G l (d + 6) iX11_clearIfNeeded [rf 1] (K, D, z) P := by
  have hk := hR.1.1
  refine VM_go (tg2 rfl) (Nat.le_of_ble_eq_true rfl) ?_
  refine s_al0 rfl ?_
  refine s_gz rfl (hk.at rfl rfl) rfl ?_
  refine s_zne rfl ?_ ?_
  · intro h4
    refine s_retv rfl rfl ?_
    first
    | exact k1 h4
    | (refine k2 h4 K' D' z' m' hR' D2 hS.1 ⟨?_, ?_, fun i hi => ?_⟩
       · rw [hS.2.1, c1]
       · rw [hS.2.2.1]; exact cmN_same n (fun a ha => (c2 a ha).2.2.2)
       · obtain ⟨q1, q2, q3, q4⟩ := hS.2.2.2 i hi
         obtain ⟨p1, p2, p3, p4⟩ := c2 i hi
         exact ⟨q1.trans p1, q2.trans p2, q3.trans p3, by rw [q4, p4]⟩)
  · intro h4
    refine s_al0 rfl ?_
    refine s_callO rfl rfl (Or.inl rfl) rfl rfl (hk.at rfl rfl) (v_rn hR (fun K' D' z' m' hR' => ?_))
    obtain ⟨hC', hF', h10', hK', hm', hvs'⟩ := id hR'
    have hk' := hC'.1
    have hT' := hC'.2.2.2.1
    have hT2 : T = 8 ∨ T = 129 := hT'
    have h16' : D' 1 6 = (T : Nat) := by rw [hF'.2 6 (by decide)]; exact hR.2.1
    have eT : D' T = D T := hF'.1 T (by omega) (by omega) (by unfold rkR; omega) (by omega)
    have e122 : D' 122 = D 122 := hF'.1 122 (by decide) (by decide) (by unfold rkR; omega) (by decide)
    have e272 : D' 272 = D 272 := hF'.1 272 (by decide) (by decide) (by unfold rkR; omega) (by decide)
    have hn' : D' T 0 = (n : Nat) := by rw [eT]; exact hn
    have n12 : n ≤ 12 := by have := hC'.2.2.2.2.2.2.2.2.1.2.2.1; omega
    obtain ⟨c1, c2, c3, c4⟩ := clear_eq (D := D') (D' := D') (stm := stC D') hC'.2.2.2 hn' hK'.2.2.2.2.2 hK'.2.2.2.2.1 (fun h hh => by rw [e122, e272]; exact hp h hh) (fun a ha => by rw [e272]; exact hpu a ha)
    show V G l (d + 6) iX11_clearIfNeeded 11 [rf 1] [] (K', D', z') P
    refine s_al0 rfl ?_
    refine s_gf rfl (hk'.at rfl rfl) rfl rfl ?_
    refine s_al0 rfl ?_
    refine s_gf rfl (hk'.at rfl rfl) rfl rfl ?_
    refine s_al0 rfl ?_
    refine s_gr rfl (hk'.at rfl rfl) rfl ?_
    rw [h16']
    refine s_gi rfl (KT hk' hT') rfl ?_
    rw [hn']
    refine s_callO rfl rfl (Or.inl rfl) rfl rfl (hk'.at rfl rfl) (v_settleAll hk' n12 (fun a b q1 q2 q3 q4 => ?_) c3 c4 (fun i hi => ?_) (fun i hi => ?_) (fun D2 hS => ?_))
    · rw [hK'.2.2.2.2.2 a b q1 q2 q3 q4]
      have := owX_in (a := a) (b := b) (v := vwC D') (stm := stC D') (ms := -1) hC'.2.2.2 ⟨q3, q4⟩
      omega
    · rw [e122, hp i (by omega)]; exact hpu i (by omega)
    · rw [hK'.2.2.2.2.1 i (by omega)]
      have := drX_in (v := vwC D') (stm := stC D') (ms := -1) hC'.2.2.2 (a := (i : Int)) ⟨by omega, by omega⟩
      omega
    show V G l (d + 6) iX11_clearIfNeeded 29 [rf 1] [] (K', D2, z') P
    refine s_al0 rfl ?_
    refine s_ic rfl ?_
    refine s_pz rfl (hk'.at rfl rfl) rfl (Or.inr rfl) ?_
    refine s_retv rfl rfl ?_
    first
    | exact k1 h4
    | (refine k2 h4 K' D' z' m' hR' D2 hS.1 ⟨?_, ?_, fun i hi => ?_⟩
       · rw [hS.2.1, c1]
       · rw [hS.2.2.1]; exact cmN_same n (fun a ha => (c2 a ha).2.2.2)
       · obtain ⟨q1, q2, q3, q4⟩ := hS.2.2.2 i hi
         obtain ⟨p1, p2, p3, p4⟩ := c2 i hi
         exact ⟨q1.trans p1, q2.trans p2, q3.trans p3, by rw [q4, p4]⟩)
end
