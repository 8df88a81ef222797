/-! ===== wants, worst: the reference ===== -/
def FrM (D D' : Nat → Int → Int) : Prop := (∀ r, r ≠ 210 → (r < 236 ∨ (237 < r ∧ r < 248) ∨ r = 265 ∨ r = 266 ∨ 271 < r) → D' r = D r) ∧ ∀ j : Int, j ≠ 0 → j ≠ 49 → j ≠ 50 → j ≠ 51 → j ≠ 54 → D' 210 j = D 210 j
theorem FrM_refl {D : Nat → Int → Int} : FrM D D := ⟨fun _ _ _ => rfl, fun _ _ _ _ _ _ => rfl⟩
theorem FrM_trans {A B C : Nat → Int → Int} (h1 : FrM A B) (h2 : FrM B C) : FrM A C := ⟨fun r q1 q2 => (h2.1 r q1 q2).trans (h1.1 r q1 q2), fun j q0 q1 q2 q3 q4 => (h2.2 j q0 q1 q2 q3 q4).trans (h1.2 j q0 q1 q2 q3 q4)⟩
theorem FrM_thr {D : Nat → Int → Int} {w : Int} : FrM D (aUp D 210 0 w) := ⟨fun r q _ => aUp_row q, fun j q _ _ _ _ => aUp_ne q⟩
section
variable {D D' : Nat → Int → Int} {T nt : Nat} {wo : Int → Int} {cn : Nat → Nat} {cc : Nat → Nat → Int × Int}
theorem FrM_ms {sp stm : Int} (h : MsX D wo T nt cn cc sp stm D') : FrM D D' := ⟨h.1, fun j _ q1 q2 q3 q4 => h.2.1 j q1 q2 q3 q4⟩
theorem FrM_inR (hT : isT T) (h : FrM D D') : ∀ r, inR T r → D' r = D r := fun r q => by
  have hT2 : T = 8 ∨ T = 129 := hT
  unfold inR at q
  exact h.1 r (by omega) (by omega)
theorem FrM_vw (h : FrM D D') : vwC D' = vwC D := by unfold vwC; rw [h.1 1 (by decide) (by decide)]
theorem FrM_wM (h : FrM D D') : wM D' = wM D := by
  funext t j
  unfold wM
  rw [h.2 10 (by decide) (by decide) (by decide) (by decide) (by decide), h.1 224 (by decide) (by decide), h.1 223 (by decide) (by decide), h.1 232 (by decide) (by decide), h.1 231 (by decide) (by decide)]
  split
  · split
    · rfl
    · split
      · rfl
      · split
        · rw [h.1 (223 + j.toNat) (by omega) (by omega)]
        · rfl
  · rfl
theorem FrM_Cp (hT : isT T) (hn : nt ≤ 24) (h : FrM D D') (hP : Cp T nt wo cn cc D) : Cp T nt wo cn cc D' := by
  obtain ⟨⟨⟨b1, b2⟩, b3, b4⟩, ⟨⟨v1, v2⟩, v3, v4, v5⟩, ⟨w1, w2, w3, w4, w5, w6, w7⟩, c1, c2⟩ := hP
  have hT2 : T = 8 ∨ T = 129 := hT
  have r : ∀ r, r ≠ 210 → (r < 236 ∨ (237 < r ∧ r < 248) ∨ r = 265 ∨ r = 266 ∨ 271 < r) → D' r = D r := h.1
  have e10 := h.2 10 (by decide) (by decide) (by decide) (by decide) (by decide)
  have ew := FrM_wM h
  have ewc : ∀ t, t < nt → wC D' T t = wC D T t := wC_keep hn (FrM_inR hT h)
  refine ⟨⟨⟨?_, ?_⟩, ?_, ?_⟩, ⟨⟨?_, ?_⟩, ?_, ?_, ?_⟩, ⟨?_, ?_, ?_, ?_, ?_, ?_, ?_⟩, ?_, ?_⟩
  · rw [h.2 37 (by decide) (by decide) (by decide) (by decide) (by decide), r 89 (by decide) (by decide)]; exact b1
  · rw [h.2 45 (by decide) (by decide) (by decide) (by decide) (by decide), r 89 (by decide) (by decide)]; exact b2
  · rw [r 89 (by decide) (by decide), r 90 (by decide) (by decide), r 91 (by decide) (by decide), r 92 (by decide) (by decide), r 93 (by decide) (by decide), r 94 (by decide) (by decide), r 95 (by decide) (by decide), r 238 (by decide) (by decide), r 239 (by decide) (by decide), r 240 (by decide) (by decide), r 241 (by decide) (by decide), r 242 (by decide) (by decide), r 243 (by decide) (by decide)]; exact b3
  · rw [r 89 (by decide) (by decide), r 98 (by decide) (by decide), r 99 (by decide) (by decide), r 245 (by decide) (by decide), r 246 (by decide) (by decide), r 247 (by decide) (by decide)]; exact b4
  · rw [h.2 35 (by decide) (by decide) (by decide) (by decide) (by decide), r 1 (by decide) (by decide)]; exact v1
  · rw [h.2 36 (by decide) (by decide) (by decide) (by decide) (by decide), r 1 (by decide) (by decide)]; exact v2
  · rw [r 1 (by decide) (by decide)]; exact v3
  · rw [r 1 (by decide) (by decide)]; exact v4
  · rw [r 1 (by decide) (by decide), r 244 (by decide) (by decide)]; exact v5
  · rw [e10]; exact w1
  · rw [e10, r 216 (by decide) (by decide), r T (by omega) (by omega)]; exact w2
  · rw [e10, r 221 (by decide) (by decide)]; exact w3
  · rw [ew]
    intro t ht
    rw [ewc t ht]; exact w4 t ht
  · intro t ht
    rw [ew, ewc t ht]; exact w5 t ht
  · intro t ht
    have := w6 t (by unfold ntM at ht ⊢; rw [e10, r 221 (by decide) (by decide)] at ht; exact ht)
    rw [e10, r 233 (by decide) (by decide), r 234 (by decide) (by decide), r 235 (by decide) (by decide)]
    exact this
  · rw [e10, r 219 (by decide) (by decide), r 220 (by decide) (by decide), r (T + 4) (by omega) (by omega), r (T + 5) (by omega) (by omega), r T (by omega) (by omega)]; exact w7
  · intro t ht
    rw [r 265 (by decide) (by decide), r 266 (by decide) (by decide), r 1 (by decide) (by decide), r (T + 9 + 3 * t) (by omega) (by omega)]; exact c1 t ht
  · rw [r 266 (by decide) (by decide)]; exact c2
theorem FrM_am {v q : Int} (h : FrM D D') : amC D' wo v q = amC D wo v q := by
  unfold amC
  rw [h.1 89 (by decide) (by decide), h.1 98 (by decide) (by decide), h.1 99 (by decide) (by decide)]
theorem FrM_StR {st stm : Int} (hT : isT T) (h : FrM D D') (hS : StR D wo T (vwC D) st stm) : StR D' wo T (vwC D') st stm := by
  intro q
  have hT2 : T = 8 ∨ T = 129 := hT
  rw [FrM_vw h, FrM_am h, h.1 89 (by decide) (by decide), h.1 90 (by decide) (by decide), h.1 94 (by decide) (by decide), h.1 244 (by decide) (by decide), h.1 T (by omega) (by omega)]
  exact hS q
end

section
variable {G : aCX} {l : Launch} {d : Nat} {K : Nat → aKd} {D : Nat → Int → Int} {z : Nat × Nat} {P : Int → aSt → Prop}
theorem u_setl2 {T nt : Nat} {wo : Int → Int} {cn : Nat → Nat} {cc : Nat → Nat → Int × Int} {sp st stm : Int} {D0 : Nat → Int → Int} (hk : Kn K) (hC : CW T nt wo cn cc D0) (hP : Cp T nt wo cn cc D0) (hF : FrM D0 D) (hst : StR D0 wo T (vwC D0) st stm) (kk : ∀ D', FrM D0 D' → MsX D wo T nt cn cc sp stm D' → CW T nt wo cn cc D → (∀ h, buX D wo T nt cn cc (vwC D) stm sp h = buX D0 wo T nt cn cc (vwC D0) stm sp h) → evX D wo T (vwC D) stm sp = evX D0 wo T (vwC D0) stm sp → D 89 = D0 89 → P 0 (K, D', z)) : VM G l (d + 3) iX12_settles [rf 210, (0, sp), (0, st)] (K, D, z) P := by
  have hT := hC.1
  have hi := FrM_inR hT hF
  have hC1 := CW_keep hC hi
  refine u_setl hk hC1 (FrM_Cp hT hC.2.2.2.2.2.1.1 hF hP) (FrM_StR hT hF hst) (fun D' h => kk D' (FrM_trans hF (FrM_ms h)) h hC1 (fun x => ?_) ?_ (hF.1 89 (by decide) (by decide)))
  · rw [FrM_vw hF, buX_congr hC hi]
  · rw [FrM_vw hF, (evX_congr hi).1]
def wtM (D : Nat → Int → Int) (wo : Int → Int) (T : Nat) (stm : Int) (i : Nat) : Bool := decide (cntC D wo T (vwC D) stm i = true ∧ D 95 i = 0)
theorem u_wants {T nt : Nat} {wo : Int → Int} {cn : Nat → Nat} {cc : Nat → Nat → Int × Int} {stm h : Int} {D0 : Nat → Int → Int} (hk : Kn K) (hD : D0 = aUp D 210 0 0) (hC : CW T nt wo cn cc D0) (hP : Cp T nt wo cn cc D0) (hst : StR D0 wo T (vwC D0) 63 stm) (k1 : 0 ≤ h ∧ h < D0 T 0 → ∀ D', FrM D0 D' → D' 210 0 = 0 → P (wnF (wtM D0 wo T stm) (fun i => buX D0 wo T nt cn cc (vwC D0) stm i h) (buX D0 wo T nt cn cc (vwC D0) stm (-1) h) (D0 89 0).toNat).2 (K, D', z)) (k0 : ¬ (0 ≤ h ∧ h < D0 T 0) → P (-1) (K, D0, z)) : VM G l (d + 5) iX12_wants [rf 210, (0, h)] (K, D, z) P := by
  have hT := hC.1
  have hT2 : T = 8 ∨ T = 129 := hT
  have h12 := hC.2.2.2.2.2.1.2.2.1
  have nl60 : 0 ≤ D0 89 0 ∧ D0 89 0 ≤ 60 := ⟨hC.2.1.2.2.2.2.1, hC.2.1.2.2.2.2.2⟩
  obtain ⟨nl, hnl⟩ : ∃ nl : Nat, D0 89 0 = nl := ⟨(D0 89 0).toNat, by omega⟩
  have hnl2 : (D0 89 0).toNat = nl := by omega
  have ehh : D0 216 (D0 210 10) = D0 T 0 := hP.2.2.1.2.1
  have h10 := hP.2.2.1.1
  have ev0 : ∀ (sp : Int) (q : Nat), q < nl → (0 ≤ (evX D0 wo T (vwC D0) stm sp).2.2.1 q ↔ cntC D0 wo T (vwC D0) stm q = true) := fun sp q hq => by
    have xf := evX_facts (v := vwC D0) (stm := stm) (ms := sp) hC
    constructor
    · intro y
      have hm : (q : Int) ∈ xsC D0 wo T (vwC D0) stm (D0 89 0).toNat := Decidable.byContradiction fun x => by have := xf.1.2.2.1 q x; omega
      exact ((xf.2.2.1 _).mp hm).2
    · intro y
      exact xf.1.2.2.2.1 q ((xf.2.2.1 _).mpr ⟨by omega, y⟩)
  have hq0 : 0 ≤ h ∧ h < D0 T 0 → ∀ D1 : Nat → Int → Int, MsX D0 wo T nt cn cc (-1) stm D1 → V G l (d + 5) iX12_wants 19 [rf 210, (0, h), (9, 0), (9, 0), (9, 0), (9, 0)] [] (K, D1, z) P := by
    intro hq D1 hM
    have hh : 0 ≤ h ∧ h < 12 := ⟨hq.1, by omega⟩
    have loop : ∀ (m i : Nat) (D2 : Nat → Int → Int), i + m = nl → FrM D0 D2 → D2 210 0 = 0 → (∀ q : Nat, q < nl → (0 ≤ D2 252 q ↔ cntC D0 wo T (vwC D0) stm q = true)) → V G l (d + 5) iX12_wants 31 [rf 210, (0, h), (1, (wnF (wtM D0 wo T stm) (fun i => buX D0 wo T nt cn cc (vwC D0) stm i h) (buX D0 wo T nt cn cc (vwC D0) stm (-1) h) i).1), (9, 0), (0, (wnF (wtM D0 wo T stm) (fun i => buX D0 wo T nt cn cc (vwC D0) stm i h) (buX D0 wo T nt cn cc (vwC D0) stm (-1) h) i).2), (0, (i : Int))] [] (K, D2, z) P := by
      intro m
      induction m with
      | zero =>
        intro i D2 hi f1 f0 f2
        have hi2 : i = nl := by omega
        subst hi2
        have e37 : D2 210 37 = (i : Int) := by rw [f1.2 37 (by decide) (by decide) (by decide) (by decide) (by decide), hP.1.1.1]; exact hnl
        refine s_il5 rfl ?_
        refine s_al0 rfl ?_
        refine s_gi rfl (hk.at rfl rfl) rfl ?_
        rw [e37]
        refine s_cge rfl ?_ ?_
        · intro h37
          refine s_il4 rfl ?_
          refine s_reti rfl rfl ?_
          rw [hnl2] at k1
          exact k1 hq D2 f1 f0
        · intro h37
          omega
      | succ m ih =>
        intro i D2 hi f1 f0 f2
        have e37 : D2 210 37 = (nl : Int) := by rw [f1.2 37 (by decide) (by decide) (by decide) (by decide) (by decide), hP.1.1.1]; exact hnl
        have e43 : D2 243 i = D0 95 i := by rw [f1.1 243 (by decide) (by decide)]; exact (hP.1.2.1 i (by omega) (by omega)).2.2.2.2.2
        have f2i := f2 i (by omega)
        have nx : ∀ (D3 : Nat → Int → Int) (lb bb : Int), FrM D0 D3 → D3 210 0 = 0 → (∀ q : Nat, q < nl → (0 ≤ D3 252 q ↔ cntC D0 wo T (vwC D0) stm q = true)) → (lb, bb) = (wnF (wtM D0 wo T stm) (fun i => buX D0 wo T nt cn cc (vwC D0) stm i h) (buX D0 wo T nt cn cc (vwC D0) stm (-1) h) (i + 1)) → V G l (d + 5) iX12_wants 88 [rf 210, (0, h), (1, lb), (9, 0), (0, bb), (0, (i : Int))] [] (K, D3, z) P := by
          intro D3 lb bb g1 g0 g2 g3
          have e1 : lb = (wnF (wtM D0 wo T stm) (fun i => buX D0 wo T nt cn cc (vwC D0) stm i h) (buX D0 wo T nt cn cc (vwC D0) stm (-1) h) (i + 1)).1 := by rw [← g3]
          have e2 : bb = (wnF (wtM D0 wo T stm) (fun i => buX D0 wo T nt cn cc (vwC D0) stm i h) (buX D0 wo T nt cn cc (vwC D0) stm (-1) h) (i + 1)).2 := by rw [← g3]
          subst e1 e2
          refine s_iinc5 rfl rfl ⟨by omega, by omega⟩ ?_
          refine s_go rfl ?_
          exact ih (i + 1) D3 (by omega) g1 g0 g2
        refine s_il5 rfl ?_
        refine s_al0 rfl ?_
        refine s_gi rfl (hk.at rfl rfl) rfl ?_
        rw [e37]
        refine s_cge rfl ?_ ?_
        · intro h37
          omega
        · intro h37
          refine s_al0 rfl ?_
          refine s_gf rfl (hk.at rfl rfl) rfl rfl ?_
          refine s_il5 rfl ?_
          refine s_iald rfl (hk.at rfl rfl) (by omega) ?_
          refine s_zlt rfl ?_ ?_
          · intro h47
            refine nx D2 _ _ f1 f0 f2 ?_
            rw [wnF, if_neg (fun x => ?_)]
            have y := (of_decide_eq_true x.1).1
            have := f2i.mpr y
            omega
          · intro h47
            refine s_al0 rfl ?_
            refine s_gf rfl (hk.at rfl rfl) rfl rfl ?_
            refine s_il5 rfl ?_
            refine s_bald rfl (hk.at rfl rfl) (by omega) ?_
            rw [e43]
            refine s_zne rfl ?_ ?_
            · intro h57
              refine nx D2 _ _ f1 f0 f2 ?_
              rw [wnF, if_neg (fun x => ?_)]
              exact h57 (of_decide_eq_true x.1).2
            · intro h57
              have hw : wtM D0 wo T stm i = true := decide_eq_true ⟨f2i.mp h47, h57⟩
              refine s_al0 rfl ?_
              refine s_il5 rfl ?_
              refine s_ic rfl ?_
              refine s_callO rfl rfl (Or.inl rfl) rfl rfl (hk.at rfl rfl) (u_setl2 (d := d + 1) (sp := (i : Int)) (st := 63) (D0 := D0) hk hC hP f1 hst (fun D3 a1 a2 a3 a4 a5 a6 => ?_))
              show V G l (d + 5) iX12_wants 68 [rf 210, (0, h), (1, (wnF (wtM D0 wo T stm) (fun i => buX D0 wo T nt cn cc (vwC D0) stm i h) (buX D0 wo T nt cn cc (vwC D0) stm (-1) h) i).1), (9, 0), (0, (wnF (wtM D0 wo T stm) (fun i => buX D0 wo T nt cn cc (vwC D0) stm i h) (buX D0 wo T nt cn cc (vwC D0) stm (-1) h) i).2), (0, (i : Int))] [] (K, D3, z) P
              have z0 : D3 210 0 = 0 := by rw [a2.2.1 0 (by decide) (by decide) (by decide) (by decide)]; exact f0
              have z2 : ∀ q : Nat, q < nl → (0 ≤ D3 252 q ↔ cntC D0 wo T (vwC D0) stm q = true) := fun q hq => by
                rw [a2.2.2.2.2.1 q (by rw [a6]; omega), a5]
                exact ev0 i q hq
              refine s_al0 rfl ?_
              refine s_il1 rfl ?_
              refine s_callO rfl rfl (Or.inl rfl) rfl rfl (hk.at rfl rfl) (u_bur (d := d + 3) hk a3 a2 hh ?_)
              rw [a4]
              show V G l (d + 5) iX12_wants 73 [rf 210, (0, h), (1, (wnF (wtM D0 wo T stm) (fun i => buX D0 wo T nt cn cc (vwC D0) stm i h) (buX D0 wo T nt cn cc (vwC D0) stm (-1) h) i).1), (9, 0), (0, (wnF (wtM D0 wo T stm) (fun i => buX D0 wo T nt cn cc (vwC D0) stm i h) (buX D0 wo T nt cn cc (vwC D0) stm (-1) h) i).2), (0, (i : Int))] [(1, buX D0 wo T nt cn cc (vwC D0) stm i h)] (K, D3, z) P
              refine s_ll2 rfl ?_
              refine s_lcmp rfl ?_
              refine s_zge rfl ?_ ?_
              · intro h75
                refine nx D3 _ _ a1 z0 z2 ?_
                rw [wnF, if_neg (fun x => ?_)]
                have := cmp3_ge.mp h75
                have := x.2
                omega
              · intro h75
                refine s_al0 rfl ?_
                refine s_il1 rfl ?_
                refine s_callO rfl rfl (Or.inl rfl) rfl rfl (hk.at rfl rfl) (u_bur (d := d + 3) hk a3 a2 hh ?_)
                rw [a4]
                show V G l (d + 5) iX12_wants 83 [rf 210, (0, h), (1, (wnF (wtM D0 wo T stm) (fun i => buX D0 wo T nt cn cc (vwC D0) stm i h) (buX D0 wo T nt cn cc (vwC D0) stm (-1) h) i).1), (9, 0), (0, (wnF (wtM D0 wo T stm) (fun i => buX D0 wo T nt cn cc (vwC D0) stm i h) (buX D0 wo T nt cn cc (vwC D0) stm (-1) h) i).2), (0, (i : Int))] [(1, buX D0 wo T nt cn cc (vwC D0) stm i h)] (K, D3, z) P
                refine s_ls2 rfl rfl ?_
                refine s_il5 rfl ?_
                refine s_is4 rfl rfl ?_
                refine nx D3 _ _ a1 z0 z2 ?_
                rw [wnF, if_pos ⟨hw, cmp3_lt.mp h75⟩]
    refine s_al0 rfl ?_
    refine s_il1 rfl ?_
    refine s_callO rfl rfl (Or.inl rfl) rfl rfl (hk.at rfl rfl) (u_bur (d := d + 3) hk hC hM hh ?_)
    show V G l (d + 5) iX12_wants 24 [rf 210, (0, h), (9, 0), (9, 0), (9, 0), (9, 0)] [(1, buX D0 wo T nt cn cc (vwC D0) stm (-1) h)] (K, D1, z) P
    refine s_ls2 rfl rfl ?_
    refine s_ic rfl ?_
    refine s_is4 rfl rfl ?_
    refine s_ic rfl ?_
    refine s_is5 rfl rfl ?_
    refine loop nl 0 D1 (by omega) (FrM_ms hM) (by rw [hM.2.1 0 (by decide) (by decide) (by decide) (by decide), hD, aUp_at]) (fun q hq => ?_)
    rw [hM.2.2.2.2.1 q (by omega)]
    exact ev0 (-1) q hq
  refine VM_go (tg2 rfl) (Nat.le_of_ble_eq_true rfl) ?_
  refine s_al0 rfl ?_
  refine s_ic rfl ?_
  refine s_pi rfl (hk.at rfl rfl) rfl ?_
  refine s_al0 rfl ?_
  refine s_il1 rfl ?_
  refine s_callO rfl rfl (Or.inl rfl) rfl rfl (hk.at rfl rfl) (u_isHouse (D := aUp D 210 0 0) hk (by rw [← hD]; omega) ?_)
  rw [← hD, ehh]
  show V G l (d + 5) iX12_wants 10 [rf 210, (0, h), (9, 0), (9, 0), (9, 0), (9, 0)] [(0, if 0 ≤ h ∧ h < D0 T 0 then 1 else 0)] (K, D0, z) P
  generalize hc : (if 0 ≤ h ∧ h < D0 T 0 then (1 : Int) else 0) = c
  refine s_zne rfl ?_ ?_
  · intro h10
    have hq : 0 ≤ h ∧ h < D0 T 0 := Decidable.byContradiction fun x => by rw [if_neg x] at hc; omega
    refine s_al0 rfl ?_
    refine s_callO rfl rfl (Or.inl rfl) rfl rfl (hk.at rfl rfl) (u_settlesAll (d := d) hk hC hP hst (fun D1 hM => ?_))
    exact hq0 hq D1 hM
  · intro h10
    have hq : ¬ (0 ≤ h ∧ h < D0 T 0) := fun x => by rw [if_pos x] at hc; omega
    refine s_ic rfl ?_
    refine s_reti rfl rfl ?_
    exact k0 hq
end
