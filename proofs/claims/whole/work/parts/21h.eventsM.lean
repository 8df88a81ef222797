/-! ===== events, eventOf: the reference ===== -/
section
variable {G : aCX} {l : Launch} {d : Nat} {K : Nat → aKd} {D : Nat → Int → Int} {z : Nat × Nat} {P : Int → aSt → Prop}
theorem u_eventsP {T nt : Nat} {wo : Int → Int} {cn : Nat → Nat} {cc : Nat → Nat → Int × Int} {D0 : Nat → Int → Int} (hk : Kn K) (hD : D0 = aUp D 210 0 0) (hC : CW T nt wo cn cc D0) (hP : Cp T nt wo cn cc D0) (hst : StR D0 wo T (vwC D0) 63 (stC D0)) (kk : ∀ D', FrE (D2 D0 (-1) 63) D' → D' 210 51 = ncX D0 wo T (vwC D0) (stC D0) → D' 210 54 = (evX D0 wo T (vwC D0) (stC D0) (-1)).1 → (∀ q : Nat, (q : Int) < D0 89 0 → D' 252 q = (evX D0 wo T (vwC D0) (stC D0) (-1)).2.2.1 q) → P ((evX D0 wo T (vwC D0) (stC D0) (-1)).1 : Nat) (K, D', z)) : VM G l (d + 2) iX12_events [rf 210] (K, D, z) P := by
  have m1 := (MbL_of (sp := -1) (st := 63) hC hP).1
  refine VM_go (tg2 rfl) (Nat.le_of_ble_eq_true rfl) ?_
  refine s_al0 rfl ?_
  refine s_ic rfl ?_
  refine s_pi rfl (hk.at rfl rfl) rfl ?_
  rw [← hD]
  refine s_al0 rfl ?_
  refine s_ic rfl ?_
  refine s_pi rfl (hk.at rfl rfl) rfl ?_
  refine s_al0 rfl ?_
  refine s_ic rfl ?_
  refine s_pi rfl (hk.at rfl rfl) rfl ?_
  refine s_al0 rfl ?_
  refine s_callO rfl rfl (Or.inl rfl) rfl rfl (hk.at rfl rfl) (u_findEvents (D0 := D2 D0 (-1) 63) hk m1 (fun D' xs h => ?_))
  obtain ⟨h1, h2, h3, h4, h5, h6⟩ := h
  have ex := xs_eq hC hP hst h2
  subst ex
  have ee := ev_eqM (sp := -1) (st := 63) (stm := stC D0) hC hP
  rw [ee] at h4 h5
  have e37 : D2 D0 (-1) 63 210 37 = D0 89 0 := by rw [D2_210 (by decide) (by decide), hP.1.1.1]
  show V G l (d + 2) iX12_events 20 [rf 210] [] (K, D', z) P
  refine s_al0 rfl ?_
  refine s_gi rfl (hk.at rfl rfl) rfl ?_
  rw [h4]
  refine s_reti rfl rfl ?_
  exact kk D' h1 h3 h4 (fun q hq => (h5 q (by rw [e37]; exact hq)).2)
theorem u_eventOf {T nt : Nat} {wo : Int → Int} {cn : Nat → Nat} {cc : Nat → Nat → Int × Int} {q : Int} {D0 : Nat → Int → Int} (hk : Kn K) (hD : D0 = aUp D 210 0 0) (hC : CW T nt wo cn cc D0) (hP : Cp T nt wo cn cc D0) (hst : StR D0 wo T (vwC D0) 63 (stC D0)) (hn : D0 89 0 ≤ 60) (k1 : 0 ≤ q ∧ q < D0 89 0 → ∀ D', FrE (D2 D0 (-1) 63) D' → P ((evX D0 wo T (vwC D0) (stC D0) (-1)).2.2.1 q) (K, D', z)) (k0 : ¬ (0 ≤ q ∧ q < D0 89 0) → P (-1) (K, D0, z)) : VM G l (d + 3) iX12_eventOf [rf 210, (0, q)] (K, D, z) P := by
  have e37 : D0 210 37 = D0 89 0 := hP.1.1.1
  refine VM_go (tg2 rfl) (Nat.le_of_ble_eq_true rfl) ?_
  refine s_al0 rfl ?_
  refine s_ic rfl ?_
  refine s_pi rfl (hk.at rfl rfl) rfl ?_
  rw [← hD]
  refine s_al0 rfl ?_
  refine s_il1 rfl ?_
  refine s_callO rfl rfl (Or.inl rfl) rfl rfl (hk.at rfl rfl) (u_isLoss hk ?_)
  rw [e37]
  show V G l (d + 3) iX12_eventOf 10 [rf 210, (0, q), (9, 0)] [(0, if 0 ≤ q ∧ q < D0 89 0 then 1 else 0)] (K, D0, z) P
  generalize h1 : (if 0 ≤ q ∧ q < D0 89 0 then (1 : Int) else 0) = c_h1
  refine s_zne rfl ?_ ?_
  · intro h10
    have h1y : 0 ≤ q ∧ q < D0 89 0 := Decidable.byContradiction fun x => by rw [if_neg x] at h1; omega
    refine s_al0 rfl ?_
    refine s_callO rfl rfl (Or.inl rfl) rfl rfl (hk.at rfl rfl) (u_eventsP (D := D0) (D0 := D0) hk (by rw [hD, aUp_two]) hC hP hst (fun D' f1 f2 f3 f4 => ?_))
    have e := f4 q.toNat (by omega)
    rw [show ((q.toNat : Nat) : Int) = q by omega] at e
    show V G l (d + 3) iX12_eventOf 19 [rf 210, (0, q), (9, 0)] [(0, _)] (K, D', z) P
    refine s_is2 rfl rfl ?_
    refine s_al0 rfl ?_
    refine s_gf rfl (hk.at rfl rfl) rfl rfl ?_
    refine s_il1 rfl ?_
    refine s_iald rfl (hk.at rfl rfl) (by omega) ?_
    rw [e]
    refine s_reti rfl rfl ?_
    exact k1 h1y D' f1
  · intro h10
    have h1n : ¬ (0 ≤ q ∧ q < D0 89 0) := fun x => by rw [if_pos x] at h1; omega
    refine s_ic rfl ?_
    refine s_reti rfl rfl ?_
    exact k0 h1n
end
