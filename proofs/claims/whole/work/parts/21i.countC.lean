/-! ===== count: the class ===== -/
section
variable {G : aCX} {l : Launch} {d : Nat} {K : Nat → aKd} {D : Nat → Int → Int} {z : Nat × Nat} {P : Int → aSt → Prop}
theorem v_count {s0 m T nt : Nat} {wo : Int → Int} {cn : Nat → Nat} {cc : Nat → Nat → Int × Int} {n : Nat} {what : Int} (hR : RnH s0 m T nt wo cn cc K D z) (hn : D T 0 = (n : Nat)) (hp : ∀ h : Nat, h < 12 → D 122 h = D 272 h) (hpu : ∀ a : Nat, a < 12 → 0 ≤ D 272 a ∧ D 272 a ≤ 99999999) (kk : what ≠ 6 → what ≠ 8 → P (if what = 0 then D T 0 else if what = 1 then D T 1 else if what = 2 then D 89 0 else if what = 3 then D 89 1 else if what = 4 then D 1 7 else if what = 5 then vwC D else if what = 7 then cmN (fun t : Nat => decide (D (T + 9 + 3 * t) 13 ≠ -1 ∧ D (T + 9 + 3 * t) 13 ≤ vwC D)) nt else if what = 9 then D 2 3 else -1) (K, D, z)) (k6 : what = 6 → ∀ K' D' z' m', RnK s0 m' T nt wo cn cc D K' D' z' → P (D' 111 2) (K', D', z')) (k8 : what = 8 → ¬ D 1 11 = 0 → P (D 121 8) (K, D, z)) (k8' : what = 8 → D 1 11 = 0 → ∀ K' D' z' m', RnK s0 m' T nt wo cn cc D K' D' z' → ∀ D2 : Nat → Int → Int, (∀ r, (r < 121 ∨ 128 < r ∨ r = 122) → D2 r = D' r) → ClC D' wo T nt cn cc n D2 → P (D2 121 8) (K', aUp D2 1 11 1, z')) : VM G l (d + 7) iX11_count [rf 1, (0, what)] (K, D, z) P := by
  have hk := hR.1.1
  have hT := hR.1.2.2.2.1
  have n24 := hR.1.2.2.2.2.2.2.2.2.1.1
  have e1 : D T 1 = nt := hR.1.2.2.2.2.2.2.2.1
  refine VM_go (tg2 rfl) (Nat.le_of_ble_eq_true rfl) ?_
  refine s_il1 rfl ?_
  refine s_sw rfl ?_
  refine And.intro (fun h1 => ?_) (fun h1n0 => ?_)
  · skip
    refine s_al0 rfl ?_
    refine s_gr rfl (hk.at rfl rfl) rfl ?_
    rw [hR.2.1]
    refine s_gi rfl (KT hk hT) rfl ?_
    refine s_reti rfl rfl ?_
    have kk := kk (by omega) (by omega)
    rw [if_pos h1] at kk; exact kk
  refine And.intro (fun h1 => ?_) (fun h1n1 => ?_)
  · skip
    refine s_al0 rfl ?_
    refine s_gr rfl (hk.at rfl rfl) rfl ?_
    rw [hR.2.1]
    refine s_gi rfl (KT hk hT) rfl ?_
    refine s_reti rfl rfl ?_
    have kk := kk (by omega) (by omega)
    rw [if_neg (by omega), if_pos h1] at kk; exact kk
  refine And.intro (fun h1 => ?_) (fun h1n2 => ?_)
  · skip
    refine s_al0 rfl ?_
    refine s_gf rfl (hk.at rfl rfl) rfl rfl ?_
    refine s_gi rfl (hk.at rfl rfl) rfl ?_
    refine s_reti rfl rfl ?_
    have kk := kk (by omega) (by omega)
    rw [if_neg (by omega), if_neg (by omega), if_pos h1] at kk; exact kk
  refine And.intro (fun h1 => ?_) (fun h1n3 => ?_)
  · skip
    refine s_al0 rfl ?_
    refine s_gf rfl (hk.at rfl rfl) rfl rfl ?_
    refine s_gi rfl (hk.at rfl rfl) rfl ?_
    refine s_reti rfl rfl ?_
    have kk := kk (by omega) (by omega)
    rw [if_neg (by omega), if_neg (by omega), if_neg (by omega), if_pos h1] at kk; exact kk
  refine And.intro (fun h1 => ?_) (fun h1n4 => ?_)
  · skip
    refine s_al0 rfl ?_
    refine s_gi rfl (hk.at rfl rfl) rfl ?_
    refine s_reti rfl rfl ?_
    have kk := kk (by omega) (by omega)
    rw [if_neg (by omega), if_neg (by omega), if_neg (by omega), if_neg (by omega), if_pos h1] at kk; exact kk
  refine And.intro (fun h1 => ?_) (fun h1n5 => ?_)
  · skip
    refine s_al0 rfl ?_
    refine s_callO rfl rfl (Or.inl rfl) rfl rfl (hk.at rfl rfl) (v_viewDay hk ?_)
    show V G l (d + 7) iX11_count 97 [rf 1, (0, what)] [(0, vwC D)] (K, D, z) P
    refine s_reti rfl rfl ?_
    have kk := kk (by omega) (by omega)
    rw [if_neg (by omega), if_neg (by omega), if_neg (by omega), if_neg (by omega), if_neg (by omega), if_pos h1] at kk; exact kk
  refine And.intro (fun h1 => ?_) (fun h1n6 => ?_)
  · skip
    refine s_al0 rfl ?_
    refine s_callO rfl rfl (Or.inl rfl) rfl rfl (hk.at rfl rfl) (v_rn hR (fun K' D' z' m' hR' => ?_))
    have hk' := hR'.1.1
    show V G l (d + 7) iX11_count 102 [rf 1, (0, what)] [] (K', D', z') P
    refine s_al0 rfl ?_
    refine s_gf rfl (hk'.at rfl rfl) rfl rfl ?_
    refine s_gf rfl (hk'.at rfl rfl) rfl rfl ?_
    refine s_gi rfl (hk'.at rfl rfl) rfl ?_
    refine s_reti rfl rfl ?_
    exact k6 h1 K' D' z' m' hR'
  refine And.intro (fun h1 => ?_) (fun h1n7 => ?_)
  · skip
    refine s_al0 rfl ?_
    refine s_gr rfl (hk.at rfl rfl) rfl ?_
    rw [hR.2.1]
    refine s_al0 rfl ?_
    refine s_callO rfl rfl (Or.inl rfl) rfl rfl (hk.at rfl rfl) (v_viewDay hk ?_)
    show V G l (d + 7) iX11_count 121 [rf 1, (0, what)] [(0, vwC D), rf T] (K, D, z) P
    refine s_callO rfl rfl (Or.inl rfl) rfl rfl (KT hk hT) (v_commutedBy hk hT e1 n24 ?_)
    show V G l (d + 7) iX11_count 124 [rf 1, (0, what)] [(0, _)] (K, D, z) P
    refine s_reti rfl rfl ?_
    have kk := kk (by omega) (by omega)
    rw [if_neg (by omega), if_neg (by omega), if_neg (by omega), if_neg (by omega), if_neg (by omega), if_neg (by omega), if_pos h1] at kk; exact kk
  refine And.intro (fun h1 => ?_) (fun h1n8 => ?_)
  · skip
    refine s_al0 rfl ?_
    refine s_callO rfl rfl (Or.inl rfl) rfl rfl (hk.at rfl rfl) (v_clearIfNeeded hR hn hp hpu (fun q => ?_) (fun q K' D' z' m' hR' D2 f2 c2 => ?_))
    · show V G l (d + 7) iX11_count 129 [rf 1, (0, what)] [] (K, D, z) P
      refine s_al0 rfl ?_
      refine s_gf rfl (hk.at rfl rfl) rfl rfl ?_
      refine s_gi rfl (hk.at rfl rfl) rfl ?_
      refine s_reti rfl rfl ?_
      exact k8 h1 q
    · have hk' := hR'.1.1
      show V G l (d + 7) iX11_count 129 [rf 1, (0, what)] [] (K', _, z') P
      refine s_al0 rfl ?_
      refine s_gf rfl (hk'.at rfl rfl) rfl rfl ?_
      refine s_gi rfl (hk'.at rfl rfl) rfl ?_
      rw [aUp_row (by decide)]
      refine s_reti rfl rfl ?_
      exact k8' h1 q K' D' z' m' hR' D2 f2 c2
  refine And.intro (fun h1 => ?_) (fun h1n9 => ?_)
  · skip
    refine s_al0 rfl ?_
    refine s_gf rfl (hk.at rfl rfl) rfl rfl ?_
    refine s_gi rfl (hk.at rfl rfl) rfl ?_
    refine s_reti rfl rfl ?_
    have kk := kk (by omega) (by omega)
    rw [if_neg (by omega), if_neg (by omega), if_neg (by omega), if_neg (by omega), if_neg (by omega), if_neg (by omega), if_neg (by omega), if_pos h1] at kk; exact kk
  refine s_ic rfl ?_
  refine s_reti rfl rfl ?_
  have kk := kk (by omega) (by omega)
  rw [if_neg (by omega), if_neg (by omega), if_neg (by omega), if_neg (by omega), if_neg (by omega), if_neg (by omega), if_neg (by omega), if_neg (by omega)] at kk; exact kk
end
