/-! ===== clears: the class ===== -/
section
variable {G : aCX} {l : Launch} {d : Nat} {K : Nat → aKd} {D : Nat → Int → Int} {z : Nat × Nat} {P : Int → aSt → Prop}
theorem v_clearsP {s0 m T nt : Nat} {wo : Int → Int} {cn : Nat → Nat} {cc : Nat → Nat → Int × Int} {n : Nat} {h what : Int} (hR : RnH s0 m T nt wo cn cc K D z) (hn : D T 0 = (n : Nat)) (hp : ∀ h : Nat, h < 12 → D 122 h = D 272 h) (hpu : ∀ a : Nat, a < 12 → 0 ≤ D 272 a ∧ D 272 a ≤ 99999999) (hh : 0 ≤ h ∧ h < D T 0) (hw : 0 ≤ what ∧ what ≤ 4) (h126 : ¬ D 1 11 = 0 → ∀ i : Nat, i < n → D 126 i = 0 ∨ D 126 i = 1) (k1 : ¬ D 1 11 = 0 → P (if what = 0 then D 123 h else if what = 1 then D 124 h else if what = 2 then D 125 h else if what = 3 then D 126 h else D 121 7) (K, D, z)) (k2 : D 1 11 = 0 → ∀ K' D' z' m', RnK s0 m' T nt wo cn cc D K' D' z' → ∀ D2 : Nat → Int → Int, (∀ r, (r < 121 ∨ 128 < r ∨ r = 122) → D2 r = D' r) → ClC D' wo T nt cn cc n D2 → P (if what = 0 then D2 123 h else if what = 1 then D2 124 h else if what = 2 then D2 125 h else if what = 3 then D2 126 h else D2 121 7) (K', aUp D2 1 11 1, z')) : VM G l (d + 7) iX11_clears [rf 1, (0, h), (0, what)] (K, D, z) P := by
  have hk := hR.1.1
  have hT := hR.1.2.2.2.1
  have n12 : n ≤ 12 := by have := hR.1.2.2.2.2.2.2.2.2.1.2.2.1; omega
  have end_ : ∀ (K' : Nat → aKd) (E : Nat → Int → Int) (z' : Nat × Nat), Kn K' → (E 126 h = 0 ∨ E 126 h = 1) → P (if what = 0 then E 123 h else if what = 1 then E 124 h else if what = 2 then E 125 h else if what = 3 then E 126 h else E 121 7) (K', E, z') → V G l (d + 7) iX11_clears 31 [rf 1, (0, h), (0, what)] [] (K', E, z') P := by
    intro K' E z' hk' h6 kk
    refine s_il2 rfl ?_
    refine s_sw rfl ?_
    refine And.intro (fun h32 => ?_) (fun h32n0 => ?_)
    · skip
      refine s_al0 rfl ?_
      refine s_gf rfl (hk'.at rfl rfl) rfl rfl ?_
      refine s_gf rfl (hk'.at rfl rfl) rfl rfl ?_
      refine s_il1 rfl ?_
      refine s_iald rfl (hk'.at rfl rfl) (by omega) ?_
      refine s_reti rfl rfl ?_
      rw [if_pos h32] at kk; exact kk
    refine And.intro (fun h32 => ?_) (fun h32n1 => ?_)
    · skip
      refine s_al0 rfl ?_
      refine s_gf rfl (hk'.at rfl rfl) rfl rfl ?_
      refine s_gf rfl (hk'.at rfl rfl) rfl rfl ?_
      refine s_il1 rfl ?_
      refine s_iald rfl (hk'.at rfl rfl) (by omega) ?_
      refine s_reti rfl rfl ?_
      rw [if_neg (by omega), if_pos h32] at kk; exact kk
    refine And.intro (fun h32 => ?_) (fun h32n2 => ?_)
    · skip
      refine s_al0 rfl ?_
      refine s_gf rfl (hk'.at rfl rfl) rfl rfl ?_
      refine s_gf rfl (hk'.at rfl rfl) rfl rfl ?_
      refine s_il1 rfl ?_
      refine s_iald rfl (hk'.at rfl rfl) (by omega) ?_
      refine s_reti rfl rfl ?_
      rw [if_neg (by omega), if_neg (by omega), if_pos h32] at kk; exact kk
    refine And.intro (fun h32 => ?_) (fun h32n3 => ?_)
    · skip
      refine s_al0 rfl ?_
      refine s_gf rfl (hk'.at rfl rfl) rfl rfl ?_
      refine s_gf rfl (hk'.at rfl rfl) rfl rfl ?_
      refine s_il1 rfl ?_
      refine s_bald rfl (hk'.at rfl rfl) (by omega) ?_
      refine s_zeq rfl ?_ ?_
      · intro h103
        refine s_ic rfl ?_
        refine s_reti rfl rfl ?_
        rw [if_neg (by omega), if_neg (by omega), if_neg (by omega), if_pos h32] at kk
        first
        | (rw [h103] at kk; exact kk)
        | (rw [h6.resolve_left h103] at kk; exact kk)
      · intro h103
        refine s_ic rfl ?_
        refine s_go rfl ?_
        refine s_reti rfl rfl ?_
        rw [if_neg (by omega), if_neg (by omega), if_neg (by omega), if_pos h32] at kk
        first
        | (rw [h103] at kk; exact kk)
        | (rw [h6.resolve_left h103] at kk; exact kk)
    refine s_al0 rfl ?_
    refine s_gf rfl (hk'.at rfl rfl) rfl rfl ?_
    refine s_gi rfl (hk'.at rfl rfl) rfl ?_
    refine s_reti rfl rfl ?_
    rw [if_neg (by omega), if_neg (by omega), if_neg (by omega), if_neg (by omega)] at kk; exact kk
  refine VM_go (tg2 rfl) (Nat.le_of_ble_eq_true rfl) ?_
  refine s_al0 rfl ?_
  refine s_il1 rfl ?_
  refine s_callO rfl rfl (Or.inl rfl) rfl rfl (hk.at rfl rfl) (v_isHouse hk hT hR.2.1 ?_)
  show V G l (d + 7) iX11_clears 5 [rf 1, (0, h), (0, what)] ((0, if 0 ≤ h ∧ h < D T 0 then 1 else 0) :: []) (K, D, z) P
  generalize h1 : (if 0 ≤ h ∧ h < D T 0 then (1 : Int) else 0) = c_h1
  refine s_zeq rfl ?_ ?_
  · intro h5
    exact absurd hh (fun x => by rw [if_pos x] at h1; omega)
  · intro h5
    refine s_il2 rfl ?_
    refine s_ic rfl ?_
    refine s_callS rfl rfl rfl rfl (v_isWithin ?_)
    show V G l (d + 7) iX11_clears 13 [rf 1, (0, h), (0, what)] ((0, if 0 ≤ what ∧ what ≤ 4 then 1 else 0) :: []) (K, D, z) P
    generalize h2 : (if 0 ≤ what ∧ what ≤ 4 then (1 : Int) else 0) = c_h2
    refine s_zne rfl ?_ ?_
    · intro h13
      refine s_al0 rfl ?_
      refine s_callO rfl rfl (Or.inl rfl) rfl rfl (hk.at rfl rfl) (v_clearIfNeeded hR hn hp hpu (fun q => ?_) (fun q K' D' z' m' hR' D2 f2 c2 => ?_))
      · refine end_ K D z hk ?_ (k1 q)
        have := h126 q h.toNat (by omega)
        rwa [show ((h.toNat : Nat) : Int) = h by omega] at this
      · have k2 := k2 q K' D' z' m' hR' D2 f2 c2
        have c6 := (c2.2.2 h.toNat (by omega)).2.2.2
        rw [show ((h.toNat : Nat) : Int) = h by omega] at c6
        refine end_ K' _ z' hR'.1.1 ?_ ?_
        · rw [aUp_row (by decide), c6]
          split
          · exact Or.inr rfl
          · exact Or.inl rfl
        · rw [aUp_row (by decide), aUp_row (by decide), aUp_row (by decide), aUp_row (by decide), aUp_row (by decide)]
          exact k2
    · intro h13
      exact absurd hw (fun x => by rw [if_pos x] at h2; omega)
end
