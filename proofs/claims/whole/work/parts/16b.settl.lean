/-! ===== the reference's settles, in the class's words ===== -/
def MsX (D : Nat → Int → Int) (wo : Int → Int) (T nt : Nat) (cn : Nat → Nat) (cc : Nat → Nat → Int × Int) (sp stm : Int) (D' : Nat → Int → Int) : Prop := (∀ r, r ≠ 210 → (r < 236 ∨ (237 < r ∧ r < 248) ∨ r = 265 ∨ r = 266 ∨ 271 < r) → D' r = D r) ∧ (∀ j : Int, j ≠ 49 → j ≠ 50 → j ≠ 51 → j ≠ 54 → D' 210 j = D 210 j) ∧ D' 210 51 = ncX D wo T (vwC D) stm ∧ D' 210 54 = (evX D wo T (vwC D) stm sp).1 ∧ (∀ q : Nat, (q : Int) < D 89 0 → D' 252 q = (evX D wo T (vwC D) stm sp).2.2.1 q) ∧ (∀ e : Nat, e < (evX D wo T (vwC D) stm sp).1 → D' 250 e = (evX D wo T (vwC D) stm sp).2.1 e ∧ D' 251 e = (evX D wo T (vwC D) stm sp).2.2.2 e) ∧ (∀ e : Nat, e < (evX D wo T (vwC D) stm sp).1 → AnM (WqC D T nt (vwC D) cn cc) (acP (WqC D T nt (vwC D) cn cc) (qX D wo T (vwC D) stm sp) e).1 (acP (WqC D T nt (vwC D) cn cc) (qX D wo T (vwC D) stm sp) e).2 (qX D wo T (vwC D) stm sp e) e D') ∧ (∀ t : Nat, t < nt → D' 263 t = (acP (WqC D T nt (vwC D) cn cc) (qX D wo T (vwC D) stm sp) (evX D wo T (vwC D) stm sp).1).1 t) ∧ ∀ a b : Int, 0 ≤ a → a < 12 → 0 ≤ b → b < 12 → D' 267 (12 * a + b) = owX D wo T nt cn cc (vwC D) stm sp a b
section
variable {G : aCX} {l : Launch} {d : Nat} {K : Nat → aKd} {D : Nat → Int → Int} {z : Nat × Nat} {P : Int → aSt → Prop}
theorem u_setl {T nt : Nat} {wo : Int → Int} {cn : Nat → Nat} {cc : Nat → Nat → Int × Int} {sp st stm : Int} (hk : Kn K) (hC : CW T nt wo cn cc D) (hP : Cp T nt wo cn cc D) (hst : StR D wo T (vwC D) st stm) (kk : ∀ D', MsX D wo T nt cn cc sp stm D' → P 0 (K, D', z)) : VM G l (d + 3) iX12_settles [rf 210, (0, sp), (0, st)] (K, D, z) P := by
  obtain ⟨m1, m2, m3, m4, m5⟩ := MbL_of (sp := sp) (st := st) hC hP
  refine u_settles (D0 := D2 D sp st) hk rfl m1 m2 m3 m4 m5 (fun D' xs h => kk D' ?_)
  obtain ⟨h1, h2, h3, h4, h5, h6, h7, h8, h9, h10⟩ := h
  have ex := xs_eq hC hP hst h1
  subst ex
  have ee := ev_eqM (sp := sp) (st := st) (stm := stm) hC hP
  have hW := WqM_eq (sp := sp) (st := st) hC hP
  have hQ := QE_eq (sp := sp) (st := st) (stm := stm) hC hP
  have hw := hC.2.2.2.2.2.1
  have h0 : ∀ t, t < (WqC D T nt (vwC D) cn cc).nt → 0 ≤ (WqC D T nt (vwC D) cn cc).w t 0 ∧ (WqC D T nt (vwC D) cn cc).w t 0 < 12 := fun t ht => by
    have q1 := (hw.2.2.2 t ht).1
    have q2 := hw.2.2.1
    have q3 : 0 ≤ wC D T t 0 ∧ wC D T t 0 < 12 := ⟨by omega, by omega⟩
    exact q3
  have ag := fun e he => all_agree (Q := qX D wo T (vwC D) stm sp) (Q' := QE (D2 D sp st) (xsC D wo T (vwC D) stm (D 89 0).toNat)) hW h0 e (fun i hi => hQ i (Nat.lt_of_lt_of_le hi he))
  rw [ee] at h5 h6 h7 h8 h9 h10
  have e37 : D2 D sp st 210 37 = D 89 0 := by rw [D2_210 (by decide) (by decide), hP.1.1.1]
  have ent : ntM (D2 D sp st) = nt := hW.1
  refine ⟨fun r q1 q2 => by rw [h2 r q1 q2, D2_row q1], fun j q1 q2 q3 q4 => by rw [h3 j q3 q4, D2_210 q1 q2], h4, h5, fun q hq => h6 q (by rw [e37]; exact hq), h7, fun e he => ?_, fun t ht => ?_, fun a b q1 q2 q3 q4 => ?_⟩
  · have a := (ag e (Nat.le_of_lt he)).1
    exact An_agree hW (hQ e he) h0 (fun t ht => (a t ht).1) (fun t ht => (a t ht).2) (h8 e he)
  · rw [h9 t (by rw [ent]; exact ht)]
    exact ((ag _ (Nat.le_refl _)).1 t ht).1
  · rw [h10 a b q1 q2 q3 q4, (ag _ (Nat.le_refl _)).2 a b, ent]
    unfold owX
    have := cu_agree2 (cs := fun t => D (T + 9 + 3 * t) 14) (cs' := fun t => D2 D sp st 266 t) (a := a) (b := b) hW (fun t ht hm => by
      have ht' : t < nt := ht
      have x := (hP.2.2.2.1 t ht')
      have hm' : decide (D (T + 9 + 3 * t) 13 ≠ -1 ∧ D (T + 9 + 3 * t) 13 ≤ vwC D) = true := hm
      have hm' := (of_decide_eq_true hm').1
      show D2 D sp st 266 t = D (T + 9 + 3 * t) 14
      rw [D2_row (by decide)]
      exact x.2.1 (by rw [x.1]; exact hm'))
    have e : cuF (WqM (D2 D sp st) cn cc) (fun t => D2 D sp st 266 t) a b nt = cuF (WqC D T nt (vwC D) cn cc) (fun t => D (T + 9 + 3 * t) 14) a b nt := this
    rw [e]
theorem MsX_d {T nt : Nat} {wo : Int → Int} {cn : Nat → Nat} {cc : Nat → Nat → Int × Int} {sp stm : Int} {D' : Nat → Int → Int} (hC : CW T nt wo cn cc D) (h : MsX D wo T nt cn cc sp stm D') : (0 ≤ D' 210 54 ∧ D' 210 54 ≤ 60) ∧ (∀ (e : Nat) (x : Int), (e : Int) < D' 210 54 → 0 ≤ x → x < 12 → D' 255 (12 * e + x) = (qX D wo T (vwC D) stm sp e).d x ∧ 0 ≤ D' 255 (12 * e + x) ∧ D' 255 (12 * e + x) ≤ 6000000) ∧ ∀ x : Int, 0 ≤ x → x < 12 → sumF (fun e : Nat => D' 255 (12 * e + x)) (D' 210 54).toNat = drX D wo T (vwC D) stm sp x := by
  have xf := evX_facts (v := vwC D) (stm := stm) (ms := sp) hC
  have e4 := h.2.2.2.1
  have x60 := xf.2.1
  have key : ∀ (e : Nat) (x : Int), (e : Int) < D' 210 54 → 0 ≤ x → x < 12 → D' 255 (12 * e + x) = (qX D wo T (vwC D) stm sp e).d x := fun e x he q1 q2 => ((h.2.2.2.2.2.2.1 e (by omega)).2.2.1 x q1 q2).1
  refine ⟨by omega, fun e x he q1 q2 => ?_, fun x q1 q2 => ?_⟩
  · rw [key e x he q1 q2]
    exact ⟨rfl, xf.2.2.2.1 e x q1 q2⟩
  · unfold drX
    rw [show (D' 210 54).toNat = (evX D wo T (vwC D) stm sp).1 by omega]
    exact sumF_congr fun e he => key e x (by omega) q1 q2
theorem u_dir {T nt : Nat} {wo : Int → Int} {cn : Nat → Nat} {cc : Nat → Nat → Int × Int} {sp stm h : Int} {D0 : Nat → Int → Int} (hk : Kn K) (hC : CW T nt wo cn cc D0) (hM : MsX D0 wo T nt cn cc sp stm D) (hh : 0 ≤ h ∧ h < 12) (kk : P (drX D0 wo T (vwC D0) stm sp h) (K, D, z)) : VM G l d iX12_directOf [rf 210, (0, h)] (K, D, z) P := by
  obtain ⟨a1, a2, a3⟩ := MsX_d hC hM
  refine u_directOf hk hh a1 (fun e he => (a2 e h he hh.1 hh.2).2) ?_
  rw [a3 h hh.1 hh.2]
  exact kk
theorem u_bur {T nt : Nat} {wo : Int → Int} {cn : Nat → Nat} {cc : Nat → Nat → Int × Int} {sp stm h : Int} {D0 : Nat → Int → Int} (hk : Kn K) (hC : CW T nt wo cn cc D0) (hM : MsX D0 wo T nt cn cc sp stm D) (hh : 0 ≤ h ∧ h < 12) (kk : P (buX D0 wo T nt cn cc (vwC D0) stm sp h) (K, D, z)) : VM G l (d + 1) iX12_bearsNow [rf 210, (0, h)] (K, D, z) P := by
  obtain ⟨a1, a2, a3⟩ := MsX_d hC hM
  have ow := hM.2.2.2.2.2.2.2.2
  refine u_bearsNow hk hh a1 (fun e he => (a2 e h he hh.1 hh.2).2) (fun a b q1 q2 q3 q4 => by rw [ow a b q1 q2 q3 q4]; have := owX_in (a := a) (v := vwC D0) (stm := stm) (ms := sp) hC ⟨q3, q4⟩; exact ⟨this.1, by omega⟩) ?_
  have e : buM D h 12 = buX D0 wo T nt cn cc (vwC D0) stm sp h := by
    unfold buM buX
    rw [a3 h hh.1 hh.2]
    congr 1
    exact sumF_congr fun k hk => by rw [ow h k hh.1 hh.2 (by omega) (by omega), ow k h (by omega) (by omega) hh.1 hh.2]
  rw [e]
  exact kk
theorem u_settlesAll {T nt : Nat} {wo : Int → Int} {cn : Nat → Nat} {cc : Nat → Nat → Int × Int} {stm : Int} (hk : Kn K) (hC : CW T nt wo cn cc D) (hP : Cp T nt wo cn cc D) (hst : StR D wo T (vwC D) 63 stm) (kk : ∀ D', MsX D wo T nt cn cc (-1) stm D' → P 0 (K, D', z)) : VM G l (d + 4) iX12_settlesAll [rf 210] (K, D, z) P := by
  refine VM_go (tg2 rfl) (Nat.le_of_ble_eq_true rfl) ?_
  refine s_al0 rfl ?_
  refine s_ic rfl ?_
  refine s_ic rfl ?_
  refine s_callO rfl rfl (Or.inl rfl) rfl rfl (hk.at rfl rfl) (u_setl (d := d) (sp := -1) (st := 63) hk hC hP hst (fun D1 h1 => ?_))
  show V G l (d + 4) iX12_settlesAll 7 [rf 210] [] (K, D1, z) P
  refine s_retv rfl rfl ?_
  exact kk D1 h1
theorem bit_sum : ∀ s : Nat, s < 64 → sumF (fun k : Nat => bAnd (bShr s k) 1) 6 = popc s ∧ ∀ k : Nat, k < 6 → bAnd (bShr s k) 1 = 0 ∨ bAnd (bShr s k) 1 = 1 := by decide +kernel
theorem u_bits {s : Nat} (hs : s < 64) (kk : P (popc s) (K, D, z)) : VM G l d iX12_bits [(0, (s : Int))] (K, D, z) P := by
  obtain ⟨e1, e2⟩ := bit_sum s hs
  have loop : ∀ (m i : Nat), i + m = 6 → V G l d iX12_bits 4 [(0, (s : Int)), (0, sumF (fun k : Nat => bAnd (bShr s k) 1) i), (0, (i : Int))] [] (K, D, z) P := by
    intro m
    induction m with
    | zero =>
      intro i hm
      have hi : i = 6 := by omega
      subst hi
      refine s_il2 rfl ?_
      refine s_ic rfl ?_
      refine s_cge rfl ?_ ?_
      · intro h7
        refine s_il1 rfl ?_
        refine s_reti rfl rfl ?_
        rw [e1]
        exact kk
      · intro h7
        exact absurd h7 (by decide)
    | succ m ih =>
      intro i hm
      have s0 := sumF_nonneg (f := fun k : Nat => bAnd (bShr s k) 1) (n := i) (fun k hk => by have := e2 k (by omega); omega)
      have s1 := sumF_le (f := fun k : Nat => bAnd (bShr s k) 1) (n := i) (c := 1) (fun k hk => by have := e2 k (by omega); omega)
      have s2 := e2 i (by omega)
      refine s_il2 rfl ?_
      refine s_ic rfl ?_
      refine s_cge rfl ?_ ?_
      · intro h7
        omega
      · intro h7
        refine s_il1 rfl ?_
        refine s_il0 rfl ?_
        refine s_il2 rfl ?_
        refine s_ishr rfl ?_
        refine s_ic rfl ?_
        refine s_iand rfl ?_
        refine s_iadd rfl ⟨by omega, by omega⟩ ?_
        refine s_is1 rfl rfl ?_
        refine s_iinc2 rfl rfl ⟨by omega, by omega⟩ ?_
        refine s_go rfl ?_
        exact ih (i + 1) (by omega)
  refine VM_go (tg2 rfl) (Nat.le_of_ble_eq_true rfl) ?_
  refine s_ic rfl ?_
  refine s_is1 rfl rfl ?_
  refine s_ic rfl ?_
  refine s_is2 rfl rfl ?_
  exact loop 6 0 rfl
end
