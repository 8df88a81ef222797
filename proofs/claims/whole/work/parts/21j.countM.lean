/-! ===== count: the reference ===== -/
section
variable {G : aCX} {l : Launch} {d : Nat} {K : Nat → aKd} {D : Nat → Int → Int} {z : Nat × Nat} {P : Int → aSt → Prop}
theorem u_count {T nt : Nat} {wo : Int → Int} {cn : Nat → Nat} {cc : Nat → Nat → Int × Int} {n : Nat} {what : Int} {D0 : Nat → Int → Int} (hk : Kn K) (hD : D0 = aUp D 210 0 0) (hC : CW T nt wo cn cc D0) (hP : Cp T nt wo cn cc D0) (hst : StR D0 wo T (vwC D0) 63 (stC D0)) (hn : D0 T 0 = (n : Nat)) (hpu : ∀ a : Nat, a < 12 → 0 ≤ D0 272 a ∧ D0 272 a ≤ 99999999) (kk : what ≠ 6 → what ≠ 8 → P (if what = 0 then D0 216 (D0 210 10) else if what = 1 then D0 221 (D0 210 10) else if what = 2 then D0 210 37 else if what = 3 then D0 210 45 else if what = 4 then D0 210 35 else if what = 5 then vwM D0 else if what = 7 then cmN (fun t : Nat => decide (0 ≤ D0 265 t ∧ D0 265 t ≤ vwM D0)) nt else if what = 9 then D0 210 2 else -1) (K, D0, z)) (k6 : what = 6 → ∀ D', FrE (D2 D0 (-1) 63) D' → P (ncX D0 wo T (vwC D0) (stC D0) : Nat) (K, D', z)) (k8 : what = 8 → ∀ D', CaD D0 wo T nt cn cc (stC D0) D' → P (cmN (fun a => faX D0 wo T nt cn cc (stC D0) a) n) (K, D', z)) : VM G l (d + 7) iX12_count [rf 210, (0, what)] (K, D, z) P := by
  have h10 := hP.2.2.1.1
  have e221 := hP.2.2.1.2.2.1
  have n24 := hC.2.2.2.2.2.1.1
  refine VM_go (tg2 rfl) (Nat.le_of_ble_eq_true rfl) ?_
  refine s_al0 rfl ?_
  refine s_ic rfl ?_
  refine s_pi rfl (hk.at rfl rfl) rfl ?_
  rw [← hD]
  refine s_ic rfl ?_
  refine s_is2 rfl rfl ?_
  refine s_il1 rfl ?_
  refine s_sw rfl ?_
  refine And.intro (fun h8 => ?_) (fun h8n0 => ?_)
  · skip
    refine s_al0 rfl ?_
    refine s_gf rfl (hk.at rfl rfl) rfl rfl ?_
    refine s_al0 rfl ?_
    refine s_gi rfl (hk.at rfl rfl) rfl ?_
    refine s_iald rfl (hk.at rfl rfl) (by omega) ?_
    refine s_reti rfl rfl ?_
    have kk := kk (by omega) (by omega)
    rw [if_pos h8] at kk; exact kk
  refine And.intro (fun h8 => ?_) (fun h8n1 => ?_)
  · skip
    refine s_al0 rfl ?_
    refine s_gf rfl (hk.at rfl rfl) rfl rfl ?_
    refine s_al0 rfl ?_
    refine s_gi rfl (hk.at rfl rfl) rfl ?_
    refine s_iald rfl (hk.at rfl rfl) (by omega) ?_
    refine s_reti rfl rfl ?_
    have kk := kk (by omega) (by omega)
    rw [if_neg (by omega), if_pos h8] at kk; exact kk
  refine And.intro (fun h8 => ?_) (fun h8n2 => ?_)
  · skip
    refine s_al0 rfl ?_
    refine s_gi rfl (hk.at rfl rfl) rfl ?_
    refine s_reti rfl rfl ?_
    have kk := kk (by omega) (by omega)
    rw [if_neg (by omega), if_neg (by omega), if_pos h8] at kk; exact kk
  refine And.intro (fun h8 => ?_) (fun h8n3 => ?_)
  · skip
    refine s_al0 rfl ?_
    refine s_gi rfl (hk.at rfl rfl) rfl ?_
    refine s_reti rfl rfl ?_
    have kk := kk (by omega) (by omega)
    rw [if_neg (by omega), if_neg (by omega), if_neg (by omega), if_pos h8] at kk; exact kk
  refine And.intro (fun h8 => ?_) (fun h8n4 => ?_)
  · skip
    refine s_al0 rfl ?_
    refine s_gi rfl (hk.at rfl rfl) rfl ?_
    refine s_reti rfl rfl ?_
    have kk := kk (by omega) (by omega)
    rw [if_neg (by omega), if_neg (by omega), if_neg (by omega), if_neg (by omega), if_pos h8] at kk; exact kk
  refine And.intro (fun h8 => ?_) (fun h8n5 => ?_)
  · skip
    refine s_al0 rfl ?_
    refine s_callO rfl rfl (Or.inl rfl) rfl rfl (hk.at rfl rfl) (u_viewDay hk ?_)
    show V G l (d + 7) iX12_count 103 [rf 210, (0, what), (0, 0), (9, 0)] [(0, vwM D0)] (K, D0, z) P
    refine s_reti rfl rfl ?_
    have kk := kk (by omega) (by omega)
    rw [if_neg (by omega), if_neg (by omega), if_neg (by omega), if_neg (by omega), if_neg (by omega), if_pos h8] at kk; exact kk
  refine And.intro (fun h8 => ?_) (fun h8n6 => ?_)
  · skip
    refine s_al0 rfl ?_
    refine s_callO rfl rfl (Or.inl rfl) rfl rfl (hk.at rfl rfl) (u_eventsP (D := D0) (D0 := D0) hk (by rw [hD, aUp_two]) hC hP hst (fun D' f1 f2 f3 f4 => ?_))
    show V G l (d + 7) iX12_count 108 [rf 210, (0, what), (0, 0), (9, 0)] [(0, _)] (K, D', z) P
    refine s_is2 rfl rfl ?_
    refine s_al0 rfl ?_
    refine s_gi rfl (hk.at rfl rfl) rfl ?_
    rw [f2]
    refine s_reti rfl rfl ?_
    exact k6 h8 D' f1
  refine And.intro (fun h8 => ?_) (fun h8n7 => ?_)
  · skip
    refine s_ic rfl ?_
    refine s_is3 rfl rfl ?_
    have lp : ∀ (f i : Nat), i + f = nt → V G l (d + 7) iX12_count 116 [rf 210, (0, what), (0, cmN (fun t : Nat => decide (0 ≤ D0 265 t ∧ D0 265 t ≤ vwM D0)) i), (0, (i : Int))] [] (K, D0, z) P := by
      intro f
      induction f with
      | zero =>
        intro i hi
        have hi : i = nt := by omega
        subst hi
        refine s_il3 rfl ?_
        refine s_al0 rfl ?_
        refine s_gf rfl (hk.at rfl rfl) rfl rfl ?_
        refine s_al0 rfl ?_
        refine s_gi rfl (hk.at rfl rfl) rfl ?_
        refine s_iald rfl (hk.at rfl rfl) (by omega) ?_
        rw [e221]
        refine s_cge rfl ?_ ?_
        · intro h126
          refine s_il2 rfl ?_
          refine s_reti rfl rfl ?_
          have kk := kk (by omega) (by omega)
          rw [if_neg (by omega), if_neg (by omega), if_neg (by omega), if_neg (by omega), if_neg (by omega), if_neg (by omega), if_pos h8] at kk; exact kk
        · intro h126
          omega
      | succ f ih =>
        intro i hi
        have st : cmN (fun t : Nat => decide (0 ≤ D0 265 t ∧ D0 265 t ≤ vwM D0)) (i + 1) = cmN (fun t : Nat => decide (0 ≤ D0 265 t ∧ D0 265 t ≤ vwM D0)) i + (if decide (0 ≤ D0 265 i ∧ D0 265 i ≤ vwM D0) = true then 1 else 0) := rfl
        have n0 : 0 ≤ cmN (fun t : Nat => decide (0 ≤ D0 265 t ∧ D0 265 t ≤ vwM D0)) i := sumF_nonneg (fun k _ => by split <;> omega)
        have n1 : cmN (fun t : Nat => decide (0 ≤ D0 265 t ∧ D0 265 t ≤ vwM D0)) i ≤ i * 1 := sumF_le (fun k _ => by split <;> omega)
        have nxt : ∀ x : Int, x = cmN (fun t : Nat => decide (0 ≤ D0 265 t ∧ D0 265 t ≤ vwM D0)) (i + 1) → V G l (d + 7) iX12_count 144 [rf 210, (0, what), (0, cmN (fun t : Nat => decide (0 ≤ D0 265 t ∧ D0 265 t ≤ vwM D0)) i), (0, (i : Int))] [(0, x)] (K, D0, z) P := by
          intro x hx
          subst hx
          refine s_is2 rfl rfl ?_
          refine s_iinc3 rfl rfl ⟨by omega, by omega⟩ ?_
          refine s_go rfl ?_
          exact ih (i + 1) (by omega)
        refine s_il3 rfl ?_
        refine s_al0 rfl ?_
        refine s_gf rfl (hk.at rfl rfl) rfl rfl ?_
        refine s_al0 rfl ?_
        refine s_gi rfl (hk.at rfl rfl) rfl ?_
        refine s_iald rfl (hk.at rfl rfl) (by omega) ?_
        rw [e221]
        refine s_cge rfl ?_ ?_
        · intro h126
          omega
        · intro h126
          refine s_il2 rfl ?_
          refine s_al0 rfl ?_
          refine s_il3 rfl ?_
          refine s_callO rfl rfl (Or.inl rfl) rfl rfl (hk.at rfl rfl) (u_isCommuted hk (by omega) ?_)
          show V G l (d + 7) iX12_count 135 [rf 210, (0, what), (0, cmN (fun t : Nat => decide (0 ≤ D0 265 t ∧ D0 265 t ≤ vwM D0)) i), (0, (i : Int))] ((0, if 0 ≤ D0 265 i ∧ D0 265 i ≤ vwM D0 then 1 else 0) :: [(0, cmN (fun t : Nat => decide (0 ≤ D0 265 t ∧ D0 265 t ≤ vwM D0)) i)]) (K, D0, z) P
          generalize hc : (if 0 ≤ D0 265 i ∧ D0 265 i ≤ vwM D0 then (1 : Int) else 0) = c_hc
          refine s_zeq rfl ?_ ?_
          · intro h135
            have hcn : ¬ (0 ≤ D0 265 i ∧ D0 265 i ≤ vwM D0) := fun x => by rw [if_pos x] at hc; omega
            rw [decide_eq_false hcn, if_neg (by decide)] at st
            refine s_ic rfl ?_
            refine s_iadd rfl ⟨by omega, by omega⟩ ?_
            exact nxt _ (by omega)
          · intro h135
            have hcy : 0 ≤ D0 265 i ∧ D0 265 i ≤ vwM D0 := Decidable.byContradiction fun x => by rw [if_neg x] at hc; omega
            rw [decide_eq_true hcy, if_pos rfl] at st
            refine s_ic rfl ?_
            refine s_go rfl ?_
            refine s_iadd rfl ⟨by omega, by omega⟩ ?_
            exact nxt _ (by omega)
    exact lp nt 0 (by omega)
  refine And.intro (fun h8 => ?_) (fun h8n8 => ?_)
  · skip
    refine s_al0 rfl ?_
    refine s_callO rfl rfl (Or.inl rfl) rfl rfl (hk.at rfl rfl) (u_failed hk hC hP hst hpu hn (fun D' hX => ?_))
    show V G l (d + 7) iX12_count 157 [rf 210, (0, what), (0, 0), (9, 0)] [(0, _)] (K, D', z) P
    refine s_reti rfl rfl ?_
    exact k8 h8 D' hX
  refine And.intro (fun h8 => ?_) (fun h8n9 => ?_)
  · skip
    refine s_al0 rfl ?_
    refine s_gi rfl (hk.at rfl rfl) rfl ?_
    refine s_reti rfl rfl ?_
    have kk := kk (by omega) (by omega)
    rw [if_neg (by omega), if_neg (by omega), if_neg (by omega), if_neg (by omega), if_neg (by omega), if_neg (by omega), if_neg (by omega), if_pos h8] at kk; exact kk
  refine s_ic rfl ?_
  refine s_reti rfl rfl ?_
  have kk := kk (by omega) (by omega)
  rw [if_neg (by omega), if_neg (by omega), if_neg (by omega), if_neg (by omega), if_neg (by omega), if_neg (by omega), if_neg (by omega), if_neg (by omega)] at kk; exact kk
end
