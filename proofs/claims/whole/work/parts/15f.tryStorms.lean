/-! ===== trials: tryStorms ===== -/
def frS (T r : Nat) : Prop := r < 279 ∧ ¬ rkR T r ∧ (r < 111 ∨ 115 < r) ∧ r ≠ 116 ∧ r ≠ 120
abbrev prX (D : Nat → Int → Int) (wo : Int → Int) (T : Nat) (v stm : Int) : Int := prF (evX D wo T v stm (-1)).2.2.1 (D 94) (D 89 0).toNat
def StormD (D : Nat → Int → Int) (wo : Int → Int) (T nt : Nat) (cn : Nat → Nat) (cc : Nat → Nat → Int × Int) (v stm : Int) (D' : Nat → Int → Int) : Prop := (∀ r, frS T r → D' r = D r) ∧ D' 116 = uF (uF (D 116) 7 (prX D wo T v stm)) 2 1 ∧ ∀ s h : Nat, s < 64 → okS (prX D wo T v stm) s = true → (h : Int) < D T 0 → D' 120 (s * 12 + h) = buX D wo T nt cn cc v s (-1) h
theorem prF_congr {jo jo' st st' : Int → Int} {n : Nat} (h : ∀ k : Nat, k < n → jo' k = jo k ∧ st' k = st k) : prF jo' st' n = prF jo st n := by
  induction n with
  | zero => rfl
  | succ n ih => rw [prF, prF, ih (fun k hk => h k (by omega)), (h n (by omega)).1, (h n (by omega)).2]
section
variable {G : aCX} {l : Launch} {d : Nat} {K : Nat → aKd} {D : Nat → Int → Int} {z : Nat × Nat} {P : Int → aSt → Prop}
theorem v_tryStorms {s0 m T nt : Nat} {wo : Int → Int} {cn : Nat → Nat} {cc : Nat → Nat → Int × Int} {v stm : Int} (hC : CI s0 m T nt wo cn cc K D z) (kk : ∀ K' D' z' m', CI s0 m' T nt wo cn cc K' D' z' → StormD D wo T nt cn cc v stm D' → P 0 (K', D', z')) : VM G l (d + 5) iX10_tryStorms [rf 116, rf T, (0, v), (0, stm)] (K, D, z) P := by
  have hW := hC.2.2.2
  have hT := hW.1
  have hT2 : T = 8 ∨ T = 129 := hT
  have h12 := hW.2.2.2.2.2.1.2.2.1
  have h00 := hW.2.2.2.2.2.1.2.1
  obtain ⟨nh, hnh⟩ : ∃ nh : Nat, D T 0 = nh := ⟨(D T 0).toNat, by omega⟩
  have nl60 : 0 ≤ D 89 0 ∧ D 89 0 ≤ 60 := ⟨hW.2.1.2.2.2.2.1, hW.2.1.2.2.2.2.2⟩
  have frK : ∀ {K1 D1 z1 m1} {D2 : Nat → Int → Int}, CI s0 m1 T nt wo cn cc K1 D1 z1 → (∀ r, (r < 116 ∨ 120 < r) → D2 r = D1 r) → CI s0 m1 T nt wo cn cc K1 D2 z1 := fun hc hr => CI_keep hc (fun r q => hr r (by have := inR_ne hT q; omega))
  have inF : ∀ r, inR T r → frS T r := fun r q => by
    have q1 := inR_T hT q
    have q2 := inR_ne hT (Or.inl q)
    exact ⟨q1.1, q1.2.1, q1.2.2, by omega, by omega⟩
  have loop : ∀ (n i : Nat) (K1 : Nat → aKd) (D1 : Nat → Int → Int) (z1 : Nat × Nat) (m1 : Nat) (u5 : aTV), i + n = 64 → CI s0 m1 T nt wo cn cc K1 D1 z1 → (∀ r, frS T r → D1 r = D r) → D1 116 = uF (D 116) 7 (prX D wo T v stm) → (∀ s h : Nat, s < i → okS (prX D wo T v stm) s = true → h < nh → D1 120 (s * 12 + h) = buX D wo T nt cn cc v s (-1) h) → V G l (d + 5) iX10_tryStorms 22 [rf 116, rf T, (0, v), (0, stm), (0, (i : Int)), u5] [] (K1, D1, z1) P := by
    intro n
    induction n with
    | zero =>
      intro i K1 D1 z1 m1 u5 hi c1 f1 g1 g2
      have hi2 : i = 64 := by omega
      subst hi2
      have hk1 := c1.1
      refine s_il4 rfl ?_
      refine s_ic rfl ?_
      refine s_cge rfl ?_ ?_
      · intro h26
        refine s_al0 rfl ?_
        refine s_ic rfl ?_
        refine s_pz rfl (hk1.at rfl rfl) rfl (Or.inr rfl) ?_
        refine s_retv rfl rfl ?_
        refine kk _ _ _ m1 (frK c1 (fun r q => aUp_row (by omega))) ⟨fun r q => by rw [aUp_row q.2.2.2.1]; exact f1 r q, by rw [aUp_same, g1], fun s h hs ho hh => ?_⟩
        rw [aUp_row (by decide)]
        exact g2 s h hs ho (by omega)
      · intro h26
        exact absurd h26 (by decide)
    | succ n ih =>
      intro i K1 D1 z1 m1 u5 hi c1 f1 g1 g2
      have hk1 := c1.1
      have e7 : D1 116 7 = prX D wo T v stm := by rw [g1, uF_at]
      have nx : ∀ (K2 : Nat → aKd) (D2 : Nat → Int → Int) (z2 : Nat × Nat) (m2 : Nat) (u : aTV), CI s0 m2 T nt wo cn cc K2 D2 z2 → (∀ r, frS T r → D2 r = D r) → D2 116 = D1 116 → (∀ s h : Nat, s < i + 1 → okS (prX D wo T v stm) s = true → h < nh → D2 120 (s * 12 + h) = buX D wo T nt cn cc v s (-1) h) → V G l (d + 5) iX10_tryStorms 93 [rf 116, rf T, (0, v), (0, stm), (0, (i : Int)), u] [] (K2, D2, z2) P := by
        intro K2 D2 z2 m2 u c2 f2 a1 a2
        refine s_iinc4 rfl rfl ⟨by omega, by omega⟩ ?_
        refine s_go rfl ?_
        exact ih (i + 1) K2 D2 z2 m2 _ (by omega) c2 f2 (by rw [a1]; exact g1) a2
      refine s_il4 rfl ?_
      refine s_ic rfl ?_
      refine s_cge rfl ?_ ?_
      · intro h26
        omega
      · intro h26
        refine s_il4 rfl ?_
        refine s_al0 rfl ?_
        refine s_gi rfl (hk1.at rfl rfl) rfl ?_
        rw [e7]
        refine s_ic rfl ?_
        refine s_ixor rfl ?_
        refine s_iand rfl ?_
        refine s_zne rfl ?_ ?_
        · intro h38
          refine nx K1 D1 z1 m1 _ c1 f1 rfl (fun s h hs ho hh => ?_)
          rcases (by omega : s < i ∨ s = i) with y | y
          · exact g2 s h y ho hh
          · subst y; exact absurd (of_decide_eq_true ho) h38
        · intro h38
          refine s_al0 rfl ?_
          refine s_gf rfl (hk1.at rfl rfl) rfl rfl ?_
          refine s_al1 rfl ?_
          refine s_il2 rfl ?_
          refine s_il4 rfl ?_
          refine s_ic rfl ?_
          refine s_callO rfl rfl (Or.inl rfl) rfl rfl (hk1.at rfl rfl) (v_reck (d := d) (v := v) (stm := (i : Int)) (ms := -1) c1 (fun K2 D2 z2 m2 c2 c3 R => ?_))
          show V G l (d + 5) iX10_tryStorms 53 [rf 116, rf T, (0, v), (0, stm), (0, (i : Int)), u5] [] (K2, D2, z2) P
          have hk2 := c2.1
          have hi1 : ∀ r, inR T r → D1 r = D r := fun r q => f1 r (inF r q)
          have hi2 := RkX_inR hT R
          have fr2 : ∀ r, frS T r ∨ r = 116 ∨ r = 120 → D2 r = D1 r := fun r q => R.1 r (by unfold frS at q; omega) (by unfold frS rkR at q; unfold rkR; omega) (by unfold frS at q; omega)
          have inner : ∀ (n j : Nat) (D3 : Nat → Int → Int), j + n = nh → (∀ r, r ≠ 120 → D3 r = D2 r) → (∀ s h : Nat, s < i → okS (prX D wo T v stm) s = true → h < nh → D3 120 (s * 12 + h) = buX D wo T nt cn cc v s (-1) h) → (∀ h : Nat, h < j → D3 120 (i * 12 + h) = buX D wo T nt cn cc v i (-1) h) → V G l (d + 5) iX10_tryStorms 56 [rf 116, rf T, (0, v), (0, stm), (0, (i : Int)), (0, (j : Int))] [] (K2, D3, z2) P := by
            intro n
            induction n with
            | zero =>
              intro j D3 hj b1 b2 b3
              have hj2 : j = nh := by omega
              subst hj2
              have eT : D3 T 0 = (j : Int) := by rw [b1 T (by omega), hi2 T (by unfold inR; omega), hi1 T (by unfold inR; omega)]; exact hnh
              refine s_il5 rfl ?_
              refine s_al1 rfl ?_
              refine s_gi rfl (KT hk2 hT) rfl ?_
              rw [eT]
              refine s_cge rfl ?_ ?_
              · intro h62
                refine nx K2 D3 z2 m2 _ (frK c2 (fun r q => b1 r (by omega))) (fun r q => by rw [b1 r (by unfold frS at q; omega), fr2 r (Or.inl q)]; exact f1 r q) (by rw [b1 116 (by decide), fr2 116 (by omega)]) (fun s h hs ho hh => ?_)
                rcases (by omega : s < i ∨ s = i) with y | y
                · exact b2 s h y ho hh
                · subst y; exact b3 h hh
              · intro h62
                omega
            | succ n ihn =>
              intro j D3 hj b1 b2 b3
              have eT : D3 T 0 = (nh : Int) := by rw [b1 T (by omega), hi2 T (by unfold inR; omega), hi1 T (by unfold inR; omega)]; exact hnh
              refine s_il5 rfl ?_
              refine s_al1 rfl ?_
              refine s_gi rfl (KT hk2 hT) rfl ?_
              rw [eT]
              refine s_cge rfl ?_ ?_
              · intro h62
                omega
              · intro h62
                refine s_al0 rfl ?_
                refine s_gf rfl (hk2.at rfl rfl) rfl rfl ?_
                refine s_il4 rfl ?_
                refine s_ic rfl ?_
                refine s_imul rfl ⟨by omega, by omega⟩ ?_
                refine s_il5 rfl ?_
                refine s_iadd rfl ⟨by omega, by omega⟩ ?_
                refine s_al0 rfl ?_
                refine s_gf rfl (hk2.at rfl rfl) rfl rfl ?_
                refine s_il5 rfl ?_
                refine s_callO rfl rfl (Or.inl rfl) rfl rfl (hk2.at rfl rfl) (v_bur (v := v) (stm := (i : Int)) (ms := -1) (D0 := D1) hk2 c1.2.2.2 (by rw [b1 102 (by decide)]; exact RkX_ow R) (by rw [b1 103 (by decide)]; exact RkX_dr R) (by omega) ?_)
                rw [buX_congr hW hi1]
                show V G l (d + 5) iX10_tryStorms 86 [rf 116, rf T, (0, v), (0, stm), (0, (i : Int)), (0, (j : Int))] [(0, buX D wo T nt cn cc v i (-1) j), (0, (i : Int) * 12 + j), rf 120] (K2, D3, z2) P
                refine s_iast rfl (hk2.at rfl rfl) (by omega) ?_
                refine s_iinc5 rfl rfl ⟨by omega, by omega⟩ ?_
                refine s_go rfl ?_
                refine ihn (j + 1) _ (by omega) (fun r q => by rw [aUp_row q]; exact b1 r q) (fun s h hs ho hh => ?_) (fun h hh => ?_)
                · rw [aUp_same, uF_ne (by omega)]; exact b2 s h hs ho hh
                · rw [aUp_same]
                  rcases (by omega : h < j ∨ h = j) with y | y
                  · rw [uF_ne (by omega)]; exact b3 h y
                  · subst y; rw [uF_at]
          refine s_ic rfl ?_
          refine s_is5 rfl rfl ?_
          exact inner nh 0 D2 (by omega) (fun _ _ => rfl) (fun s h hs ho hh => by rw [fr2 120 (by omega)]; exact g2 s h hs ho hh) (fun h hh => absurd hh (Nat.not_lt_zero h))
  have hk := hC.1
  refine VM_go (tg2 rfl) (Nat.le_of_ble_eq_true rfl) ?_
  refine s_al0 rfl ?_
  refine s_gf rfl (hk.at rfl rfl) rfl rfl ?_
  refine s_al1 rfl ?_
  refine s_il2 rfl ?_
  refine s_il3 rfl ?_
  refine s_ic rfl ?_
  refine s_callO rfl rfl (Or.inl rfl) rfl rfl (hk.at rfl rfl) (v_reck (d := d) (v := v) (stm := stm) (ms := -1) hC (fun K1 D1 z1 m1 c1 c2 R => ?_))
  show V G l (d + 5) iX10_tryStorms 11 [rf 116, rf T, (0, v), (0, stm), (9, 0), (9, 0)] [] (K1, D1, z1) P
  have hk1 := c1.1
  have hi1 := RkX_inR hT R
  have e89 : D1 89 = D 89 := hi1 89 (by unfold inR; omega)
  have e94 : D1 94 = D 94 := hi1 94 (by unfold inR; omega)
  have fr1 : ∀ r, frS T r ∨ r = 116 ∨ r = 120 → D1 r = D r := fun r q => R.1 r (by unfold frS at q; omega) (by unfold frS rkR at q; unfold rkR; omega) (by unfold frS at q; omega)
  refine s_al0 rfl ?_
  refine s_al0 rfl ?_
  refine s_callO rfl rfl (Or.inl rfl) rfl rfl (hk1.at rfl rfl) (v_stormsThatCount (n := (D 89 0).toNat) hk1 (by omega) (by rw [e89]; omega) ?_)
  rw [e94, prF_congr (jo := (evX D wo T v stm (-1)).2.2.1) (st := D 94) (fun k hk => ⟨RkX_join hW R k (by omega) (by omega), rfl⟩)]
  show V G l (d + 5) iX10_tryStorms 16 [rf 116, rf T, (0, v), (0, stm), (9, 0), (9, 0)] [(0, prX D wo T v stm), rf 116] (K1, D1, z1) P
  refine s_pi rfl (hk1.at rfl rfl) rfl ?_
  refine s_ic rfl ?_
  refine s_is4 rfl rfl ?_
  exact loop 64 0 K1 _ z1 m1 _ rfl (frK c1 (fun r q => aUp_row (by omega))) (fun r q => by rw [aUp_row q.2.2.2.1]; exact fr1 r (Or.inl q)) (by rw [aUp_same, fr1 116 (by omega)]) (fun s h hs => absurd hs (Nat.not_lt_zero s))
end
