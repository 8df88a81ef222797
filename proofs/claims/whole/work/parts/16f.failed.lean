/-! ===== hasFailed, failed: the reference ===== -/
section
variable {G : aCX} {l : Launch} {d : Nat} {K : Nat → aKd} {D : Nat → Int → Int} {z : Nat × Nat} {P : Int → aSt → Prop}
theorem u_hasFailed {T nt : Nat} {wo : Int → Int} {cn : Nat → Nat} {cc : Nat → Nat → Int × Int} {stm h : Int} {D0 : Nat → Int → Int} (hk : Kn K) (hC : CW T nt wo cn cc D0) (hpu : ∀ a : Nat, a < 12 → 0 ≤ D0 272 a ∧ D0 272 a ≤ 99999999) (hA : CaD D0 wo T nt cn cc stm D) (hh : 0 ≤ h ∧ h < 12) (kk : P (if faX D0 wo T nt cn cc stm h = true then 1 else 0) (K, D, z)) : VM G l (d + 1) iX12_hasFailed [rf 210, (0, h)] (K, D, z) P := by
  obtain ⟨a1, a2, a3, ⟨b1, b2, b3⟩, a5⟩ := hA
  have e7 := a5 h.toNat (by omega)
  rw [show ((h.toNat : Nat) : Int) = h by omega] at e7
  have w72 : D 272 h = D0 272 h := by rw [a1 272 (by decide) (by decide)]
  have fin : ∀ x : Int, x = (if faX D0 wo T nt cn cc stm h = true then 1 else 0) → V G l (d + 1) iX12_hasFailed 37 [rf 210, (0, h)] [(0, x)] (K, D, z) P := by
    intro x hx
    have hx2 : x = 0 ∨ x = 1 := by subst hx; split <;> omega
    refine s_retz rfl rfl hx2 ?_
    rw [hx]; exact kk
  refine VM_go (tg2 rfl) (Nat.le_of_ble_eq_true rfl) ?_
  refine s_al0 rfl ?_
  refine s_gf rfl (hk.at rfl rfl) rfl rfl ?_
  refine s_il1 rfl ?_
  refine s_lald rfl (hk.at rfl rfl) (by omega) ?_
  rw [e7.2.1]
  refine s_al0 rfl ?_
  refine s_gf rfl (hk.at rfl rfl) rfl rfl ?_
  refine s_il1 rfl ?_
  refine s_lald rfl (hk.at rfl rfl) (by omega) ?_
  rw [e7.1]
  refine s_lcmp rfl ?_
  refine s_zlt rfl ?_ ?_
  · intro h13
    have n1 := cmp3_lt.mp h13
    refine s_ic rfl ?_
    refine s_go rfl ?_
    refine fin _ ?_
    unfold faX
    first | rw [if_pos (decide_eq_true (Or.inl n1))] | rw [if_pos (decide_eq_true (Or.inr n2))] | rw [if_neg (fun x => by have := of_decide_eq_true x; omega)]
  · intro h13
    have n1 := cmp3_ge.mp h13
    refine s_al0 rfl ?_
    refine s_gf rfl (hk.at rfl rfl) rfl rfl ?_
    refine s_il1 rfl ?_
    refine s_iald rfl (hk.at rfl rfl) (by omega) ?_
    rw [w72]
    refine s_i2l rfl ?_
    refine s_al0 rfl ?_
    refine s_il1 rfl ?_
    refine s_callO rfl rfl (Or.inl rfl) rfl rfl (hk.at rfl rfl) (u_directOf hk hh b1 (fun e he => b2 e h he hh.1 hh.2) ?_)
    rw [b3 h hh.1 hh.2]
    show V G l (d + 1) iX12_hasFailed 28 [rf 210, (0, h)] [(1, drX D0 wo T (vwC D0) stm (-1) h), (1, D0 272 h)] (K, D, z) P
    refine s_lcmp rfl ?_
    refine s_zge rfl ?_ ?_
    · intro h29
      have n2 := cmp3_ge.mp h29
      refine s_ic rfl ?_
      refine fin _ ?_
      unfold faX
      first | rw [if_pos (decide_eq_true (Or.inl n1))] | rw [if_pos (decide_eq_true (Or.inr n2))] | rw [if_neg (fun x => by have := of_decide_eq_true x; omega)]
    · intro h29
      have n2 := cmp3_lt.mp h29
      refine s_ic rfl ?_
      refine s_go rfl ?_
      refine fin _ ?_
      unfold faX
      first | rw [if_pos (decide_eq_true (Or.inl n1))] | rw [if_pos (decide_eq_true (Or.inr n2))] | rw [if_neg (fun x => by have := of_decide_eq_true x; omega)]
theorem u_failed {T nt : Nat} {wo : Int → Int} {cn : Nat → Nat} {cc : Nat → Nat → Int × Int} {stm : Int} {D0 : Nat → Int → Int} {nh : Nat} (hk : Kn K) (hC : CW T nt wo cn cc D0) (hP : Cp T nt wo cn cc D0) (hst : StR D0 wo T (vwC D0) 63 stm) (hpu : ∀ a : Nat, a < 12 → 0 ≤ D0 272 a ∧ D0 272 a ≤ 99999999) (hnh : D0 T 0 = nh) (kk : ∀ D', CaD D0 wo T nt cn cc stm D' → P (cmN (fun a => faX D0 wo T nt cn cc stm a) nh) (K, D', z)) : VM G l (d + 6) iX12_failed [rf 210] (K, D0, z) P := by
  have h12 := hC.2.2.2.2.2.1.2.2.1
  have h10 := hP.2.2.1.1
  have loop : ∀ (D1 : Nat → Int → Int), CaD D0 wo T nt cn cc stm D1 → ∀ (m i : Nat), i + m = nh → V G l (d + 6) iX12_failed 8 [rf 210, (0, cmN (fun a => faX D0 wo T nt cn cc stm a) i), (0, (i : Int))] [] (K, D1, z) P := by
    intro D1 hA m
    have e10 : D1 210 10 = D0 210 10 := hA.2.1 10 (by decide) (by decide) (by decide) (by decide) (by decide)
    have e16 : D1 216 (D0 210 10) = (nh : Int) := by rw [hA.1 216 (by decide) (by decide), hP.2.2.1.2.1]; exact hnh
    induction m with
    | zero =>
      intro i hm
      have hi : i = nh := by omega
      subst hi
      refine s_il2 rfl ?_
      refine s_al0 rfl ?_
      refine s_gf rfl (hk.at rfl rfl) rfl rfl ?_
      refine s_al0 rfl ?_
      refine s_gi rfl (hk.at rfl rfl) rfl ?_
      rw [e10]
      refine s_iald rfl (hk.at rfl rfl) (by omega) ?_
      rw [e16]
      refine s_cge rfl ?_ ?_
      · intro h18
        refine s_il1 rfl ?_
        refine s_reti rfl rfl ?_
        exact kk D1 hA
      · intro h18
        omega
    | succ m ih =>
      intro i hm
      have hc := cmN_in (c := fun a => faX D0 wo T nt cn cc stm a) (n := i)
      have nx : ∀ x : Int, x = (if faX D0 wo T nt cn cc stm i = true then 1 else 0) → V G l (d + 6) iX12_failed 35 [rf 210, (0, cmN (fun a => faX D0 wo T nt cn cc stm a) i), (0, (i : Int))] [(0, x), (0, cmN (fun a => faX D0 wo T nt cn cc stm a) i)] (K, D1, z) P := by
        intro x hx
        have hx2 : x = 0 ∨ x = 1 := by subst hx; split <;> omega
        have e : cmN (fun a => faX D0 wo T nt cn cc stm a) i + x = cmN (fun a => faX D0 wo T nt cn cc stm a) (i + 1) := by rw [hx]; rfl
        refine s_iadd rfl ⟨by omega, by omega⟩ ?_
        rw [e]
        refine s_is1 rfl rfl ?_
        refine s_iinc2 rfl rfl ⟨by omega, by omega⟩ ?_
        refine s_go rfl ?_
        exact ih (i + 1) (by omega)
      refine s_il2 rfl ?_
      refine s_al0 rfl ?_
      refine s_gf rfl (hk.at rfl rfl) rfl rfl ?_
      refine s_al0 rfl ?_
      refine s_gi rfl (hk.at rfl rfl) rfl ?_
      rw [e10]
      refine s_iald rfl (hk.at rfl rfl) (by omega) ?_
      rw [e16]
      refine s_cge rfl ?_ ?_
      · intro h18
        omega
      · intro h18
        refine s_il1 rfl ?_
        refine s_al0 rfl ?_
        refine s_il2 rfl ?_
        refine s_callO rfl rfl (Or.inl rfl) rfl rfl (hk.at rfl rfl) (u_hasFailed (d := d + 4) hk hC hpu hA (by omega) ?_)
        show V G l (d + 6) iX12_failed 27 [rf 210, (0, cmN (fun a => faX D0 wo T nt cn cc stm a) i), (0, (i : Int))] [(0, if faX D0 wo T nt cn cc stm i = true then 1 else 0), (0, cmN (fun a => faX D0 wo T nt cn cc stm a) i)] (K, D1, z) P
        refine s_zeq rfl ?_ ?_
        · intro h27
          refine s_ic rfl ?_
          refine nx _ ?_
          by_cases y : faX D0 wo T nt cn cc stm i = true
          · rw [if_pos y] at h27 ⊢; first | done | omega
          · rw [if_neg y] at h27 ⊢; first | done | omega
        · intro h27
          refine s_ic rfl ?_
          refine s_go rfl ?_
          refine nx _ ?_
          by_cases y : faX D0 wo T nt cn cc stm i = true
          · rw [if_pos y] at h27 ⊢; first | done | omega
          · rw [if_neg y] at h27 ⊢; first | done | omega
  refine VM_go (tg2 rfl) (Nat.le_of_ble_eq_true rfl) ?_
  refine s_al0 rfl ?_
  refine s_callO rfl rfl (Or.inl rfl) rfl rfl (hk.at rfl rfl) (u_clearsAll (d := d) hk hC hP hst hpu (fun D1 hA => ?_))
  show V G l (d + 6) iX12_failed 4 [rf 210, (9, 0), (9, 0)] [] (K, D1, z) P
  refine s_ic rfl ?_
  refine s_is1 rfl rfl ?_
  refine s_ic rfl ?_
  refine s_is2 rfl rfl ?_
  exact loop D1 hA nh 0 (by omega)
end
