/-! ===== rounds: the reference ===== -/
def wM (D : Nat → Int → Int) : WT := fun t j => if j < 100 then (if j = 0 then D 224 (24 * D 210 10 + t) else if j = 1 then D 223 (24 * D 210 10 + t) else if j < 8 then D (223 + j.toNat) (24 * D 210 10 + t) else 0) else if j < 200 then D 232 (12 * (24 * D 210 10 + t) + (j - 100)) else D 231 (12 * (24 * D 210 10 + t) + (j - 200))
theorem wM_h {D : Nat → Int → Int} {t i : Nat} (h : i < 100) : wM D t (100 + i) = D 232 (12 * (24 * D 210 10 + t) + i) := by
  unfold wM
  rw [if_neg (by omega), if_pos (by omega), show (100 : Int) + i - 100 = i by omega]
theorem wM_s {D : Nat → Int → Int} {t i : Nat} : wM D t (200 + i) = D 231 (12 * (24 * D 210 10 + t) + i) := by
  unfold wM
  rw [if_neg (by omega), if_neg (by omega), show (200 : Int) + i - 200 = i by omega]
def rmM (D : Nat → Int → Int) (t : Nat) : Int := if wM D t 3 * (1 + wM D t 5) - D 263 t < wM D t 3 then wM D t 3 * (1 + wM D t 5) - D 263 t else wM D t 3
/-- what a treaty's act leaves, of what was all, own (s), base b, amount am, paid p -/
def AcD (e t : Nat) (D D' : Nat → Int → Int) : Prop := (∀ r, r ≠ 258 → r ≠ 259 → r ≠ 260 → r ≠ 269 → r ≠ 270 → r ≠ 271 → D' r = D r) ∧
  (∀ h : Int, D' 269 h = D 269 h + ptF (wM D) t h (amtF (wM D) (rmM D) t (if wM D t 2 = 0 then D 270 (wM D t 0) else D 271 (wM D t 0))) (wM D t 7).toNat) ∧
  D' 258 = uF (D 258) (24 * e + t) (if wM D t 2 = 0 then D 270 (wM D t 0) else D 271 (wM D t 0)) ∧
  D' 259 = uF (D 259) (24 * e + t) (if wM D t 1 = 0 then pdF (wM D) t (amtF (wM D) (rmM D) t (if wM D t 2 = 0 then D 270 (wM D t 0) else D 271 (wM D t 0))) else amtF (wM D) (rmM D) t (if wM D t 2 = 0 then D 270 (wM D t 0) else D 271 (wM D t 0))) ∧
  D' 260 = uF (D 260) (24 * e + t) (pdF (wM D) t (amtF (wM D) (rmM D) t (if wM D t 2 = 0 then D 270 (wM D t 0) else D 271 (wM D t 0)))) ∧
  D' 270 = uF (D 270) (wM D t 0) (hsS (wM D) (rmM D) t (D 270 (wM D t 0), D 271 (wM D t 0))).1 ∧
  D' 271 = uF (D 271) (wM D t 0) (hsS (wM D) (rmM D) t (D 270 (wM D t 0), D 271 (wM D t 0))).2
theorem uF_uF {f : Int → Int} {i v v' : Int} : uF (uF f i v) i v' = uF f i v' := by
  funext j
  unfold uF
  split <;> rfl
section
variable {G : aCX} {l : Launch} {d : Nat} {K : Nat → aKd} {D : Nat → Int → Int} {z : Nat × Nat} {P : Int → aSt → Prop}
theorem u_acts {e t nt : Nat} {nh : Int} (hk : Kn K) (he : e < 60) (hh : D 210 10 = 0 ∨ D 210 10 = 1) (hw : wOk (wM D) nt nh) (ht : t < nt) (hL : (0 ≤ wM D t 3 ∧ wM D t 3 ≤ 999999) ∧ (0 ≤ wM D t 5 ∧ wM D t 5 ≤ 9)) (hr : 0 ≤ rmM D t) (hu : 0 ≤ D 263 t ∧ D 263 t ≤ 10000000) (hs : 0 ≤ D 271 (wM D t 0) ∧ D 271 (wM D t 0) ≤ D 270 (wM D t 0) ∧ D 270 (wM D t 0) ≤ 20000000) (hT : ∀ h : Int, 0 ≤ h ∧ h < 12 → 0 ≤ D 269 h ∧ D 269 h ≤ 600000000) (kk : ∀ D', AcD e t D D' → P 0 (K, D', z)) : VM G l d iX12_acts [rf 210, (0, (e : Int)), (0, (t : Int))] (K, D, z) P := by
  have ht24 : t < 24 := Nat.lt_of_lt_of_le ht hw.1
  have hnh := hw.2.2.1
  obtain ⟨h0, h1, h2, h4, h7, hp, hs1⟩ := hw.2.2.2 t ht
  obtain ⟨h3, h5⟩ := hL
  have hlm : 0 ≤ wM D t 3 * (1 + wM D t 5) ∧ wM D t 3 * (1 + wM D t 5) ≤ 999999 * 10 := ⟨Int.mul_nonneg h3.1 (by omega), Int.mul_le_mul h3.2 (by omega) (by omega) (by decide)⟩
  have hlm2 : 0 ≤ D 226 (24 * D 210 10 + (t : Int)) * (1 + D 228 (24 * D 210 10 + (t : Int))) ∧ D 226 (24 * D 210 10 + (t : Int)) * (1 + D 228 (24 * D 210 10 + (t : Int))) ≤ 999999 * 10 := hlm
  have e0 : wM D t 0 = D 224 (24 * D 210 10 + (t : Int)) := rfl
  have e1 : wM D t 1 = D 223 (24 * D 210 10 + (t : Int)) := rfl
  have e2 : wM D t 2 = D 225 (24 * D 210 10 + (t : Int)) := rfl
  have e3 : wM D t 3 = D 226 (24 * D 210 10 + (t : Int)) := rfl
  have e4 : wM D t 4 = D 227 (24 * D 210 10 + (t : Int)) := rfl
  have e5 : wM D t 5 = D 228 (24 * D 210 10 + (t : Int)) := rfl
  have e7 : wM D t 7 = D 230 (24 * D 210 10 + (t : Int)) := rfl
  have hi : 0 ≤ (24 * D 210 10 + (t : Int)) ∧ (24 * D 210 10 + (t : Int)) < 48 := by omega
  have segD : ∀ (b am : Int) (D1 : Nat → Int → Int) (u13 u14 : aTV), b = (if wM D t 2 = 0 then D 270 (wM D t 0) else D 271 (wM D t 0)) → am = amtF (wM D) (rmM D) t b → (∀ r, r ≠ 269 → D1 r = D r) → (∀ h : Int, D1 269 h = D 269 h + ptF (wM D) t h am (wM D t 7).toNat) → V G l d iX12_acts 236 [rf 210, (0, (e : Int)), (0, (t : Int)), (0, (24 * D 210 10 + (t : Int))), (0, 24 * (e : Int) + (t : Int)), (0, wM D t 0), (1, b), (9, 0), (1, am), (9, 0), (1, pdF (wM D) t am), (9, 0), (0, 12 * (24 * D 210 10 + (t : Int)) + wM D t 7), u13, u14] [] (K, D1, z) P := by
    intro b am D1 u13 u14 hb ham g1 g2
    have hb0 : 0 ≤ b ∧ b ≤ D 270 (wM D t 0) := by rw [hb]; split <;> omega
    have ha0 := amtF_in (w := wM D) hr h4.1 hb0.1
    rw [← ham] at ha0
    have hp0 := pdF_in hw ht ha0.1
    have hss : hsS (wM D) (rmM D) t (D 270 (wM D t 0), D 271 (wM D t 0)) = (D 270 (wM D t 0) - pdF (wM D) t am, if D 270 (wM D t 0) - pdF (wM D) t am < (if wM D t 2 = 0 then D 271 (wM D t 0) else mx0 (D 271 (wM D t 0) - pdF (wM D) t am)) then D 270 (wM D t 0) - pdF (wM D) t am else (if wM D t 2 = 0 then D 271 (wM D t 0) else mx0 (D 271 (wM D t 0) - pdF (wM D) t am))) := by
      rw [ham, hb]; rfl
    generalize hpd : pdF (wM D) t am = p at *
    have seg3 : ∀ (q : Int) (D2 : Nat → Int → Int), q = (if wM D t 2 = 0 then 0 else p) → D2 270 = uF (D 270) (wM D t 0) (D 270 (wM D t 0) - p) → D2 271 = D 271 → D2 225 = D 225 → (∀ D3 : Nat → Int → Int, (∀ r, r ≠ 271 → D3 r = D2 r) → D3 271 = uF (D 271) (wM D t 0) (hsS (wM D) (rmM D) t (D 270 (wM D t 0), D 271 (wM D t 0))).2 → AcD e t D D3) → V G l d iX12_acts 312 [rf 210, (0, (e : Int)), (0, (t : Int)), (0, (24 * D 210 10 + (t : Int))), (0, 24 * (e : Int) + (t : Int)), (0, wM D t 0), (1, b), (9, 0), (1, am), (9, 0), (1, p), (9, 0), (0, 12 * (24 * D 210 10 + (t : Int)) + wM D t 7), u13, u14] [(1, q), (1, D 271 (wM D t 0)), (0, wM D t 0), rf 271] (K, D2, z) P := by
      intro q D2 hq f1 f2 f3 fin
      have hq0 : 0 ≤ q ∧ q ≤ 20000000 := by rw [hq]; split <;> omega
      have seg4 : ∀ (x : Int) (D3 : Nat → Int → Int), x = (if D 270 (wM D t 0) - p < (if wM D t 2 = 0 then D 271 (wM D t 0) else mx0 (D 271 (wM D t 0) - p)) then D 270 (wM D t 0) - p else (if wM D t 2 = 0 then D 271 (wM D t 0) else mx0 (D 271 (wM D t 0) - p))) → (∀ r, r ≠ 271 → D3 r = D2 r) → (∀ j, D3 271 j = if j = wM D t 0 then D3 271 j else D 271 j) → V G l d iX12_acts 385 [rf 210, (0, (e : Int)), (0, (t : Int)), (0, (24 * D 210 10 + (t : Int))), (0, 24 * (e : Int) + (t : Int)), (0, wM D t 0), (1, b), (9, 0), (1, am), (9, 0), (1, p), (9, 0), (0, 12 * (24 * D 210 10 + (t : Int)) + wM D t 7), u13, u14] [(1, x), (0, wM D t 0), rf 271] (K, D3, z) P := by
        intro x D3 hx c1 c2
        refine s_last rfl (hk.at rfl rfl) (by omega) ?_
        refine s_retv rfl rfl ?_
        refine kk _ (fin _ (fun r hr => by rw [aUp_row hr]; exact c1 r hr) ?_)
        rw [aUp_same, hss, hx]
        funext j
        unfold uF
        by_cases hj : j = wM D t 0
        · rw [if_pos hj, if_pos hj]
        · rw [if_neg hj, if_neg hj, c2 j, if_neg hj]
      have seg5 : ∀ (x : Int) (D3 : Nat → Int → Int), x = (if wM D t 2 = 0 then D 271 (wM D t 0) else mx0 (D 271 (wM D t 0) - p)) → (∀ r, r ≠ 271 → D3 r = D2 r) → (∀ j, D3 271 j = if j = wM D t 0 then D3 271 j else D 271 j) → V G l d iX12_acts 343 [rf 210, (0, (e : Int)), (0, (t : Int)), (0, (24 * D 210 10 + (t : Int))), (0, 24 * (e : Int) + (t : Int)), (0, wM D t 0), (1, b), (9, 0), (1, am), (9, 0), (1, p), (9, 0), (0, 12 * (24 * D 210 10 + (t : Int)) + wM D t 7), u13, u14] [(1, x), (0, wM D t 0), rf 271] (K, D3, z) P := by
        intro x D3 hx c1 c2
        have r1 : aUp D3 271 (wM D t 0) x 271 (wM D t 0) = x := aUp_at
        have r2 : aUp D3 271 (wM D t 0) x 270 (wM D t 0) = D 270 (wM D t 0) - p := by rw [aUp_row (by omega), c1 _ (by omega), f1, uF_at]
        have fin2 : ∀ y, y = (if D 270 (wM D t 0) - p < x then D 270 (wM D t 0) - p else x) → V G l d iX12_acts 385 [rf 210, (0, (e : Int)), (0, (t : Int)), (0, (24 * D 210 10 + (t : Int))), (0, 24 * (e : Int) + (t : Int)), (0, wM D t 0), (1, b), (9, 0), (1, am), (9, 0), (1, p), (9, 0), (0, 12 * (24 * D 210 10 + (t : Int)) + wM D t 7), u13, u14] [(1, y), (0, wM D t 0), rf 271] (K, aUp D3 271 (wM D t 0) x, z) P := by
          intro y hy
          refine seg4 y _ (by rw [hy, hx]) (fun r hr => by rw [aUp_row hr]; exact c1 r hr) (fun j => ?_)
          by_cases hj : j = wM D t 0
          · rw [if_pos hj]
          · rw [if_neg hj, aUp_ne hj, c2 j, if_neg hj]
        refine s_last rfl (hk.at rfl rfl) (by omega) ?_
        refine s_al0 rfl ?_
        refine s_gf rfl (hk.at rfl rfl) rfl rfl ?_
        refine s_il5 rfl ?_
        refine s_al0 rfl ?_
        refine s_gf rfl (hk.at rfl rfl) rfl rfl ?_
        refine s_il5 rfl ?_
        refine s_lald rfl (hk.at rfl rfl) (by omega) ?_
        rw [r1]
        refine s_al0 rfl ?_
        refine s_gf rfl (hk.at rfl rfl) rfl rfl ?_
        refine s_il5 rfl ?_
        refine s_lald rfl (hk.at rfl rfl) (by omega) ?_
        rw [r2]
        refine s_lcmp rfl ?_
        refine s_zle rfl ?_ ?_
        · intro h365
          have h365 := cmp3_le.mp h365
          refine s_al0 rfl ?_
          refine s_gf rfl (hk.at rfl rfl) rfl rfl ?_
          refine s_il5 rfl ?_
          refine s_lald rfl (hk.at rfl rfl) (by omega) ?_
          rw [r1]
          exact fin2 _ (by first | rw [if_pos (by omega)] | rw [if_neg (by omega)])
        · intro h365
          have h365 := cmp3_gt.mp h365
          refine s_al0 rfl ?_
          refine s_gf rfl (hk.at rfl rfl) rfl rfl ?_
          refine s_il5 rfl ?_
          refine s_lald rfl (hk.at rfl rfl) (by omega) ?_
          rw [r2]
          refine s_go rfl ?_
          exact fin2 _ (by first | rw [if_pos (by omega)] | rw [if_neg (by omega)])
      have r1 : aUp D2 271 (wM D t 0) (D 271 (wM D t 0) - q) 271 (wM D t 0) = D 271 (wM D t 0) - q := aUp_at
      have c2 : ∀ j, aUp D2 271 (wM D t 0) (D 271 (wM D t 0) - q) 271 j = if j = wM D t 0 then aUp D2 271 (wM D t 0) (D 271 (wM D t 0) - q) 271 j else D 271 j := fun j => by
        by_cases hj : j = wM D t 0
        · rw [if_pos hj]
        · rw [if_neg hj, aUp_ne hj, f2]
      have fin3 : ∀ y, y = mx0 (D 271 (wM D t 0) - q) → V G l d iX12_acts 343 [rf 210, (0, (e : Int)), (0, (t : Int)), (0, (24 * D 210 10 + (t : Int))), (0, 24 * (e : Int) + (t : Int)), (0, wM D t 0), (1, b), (9, 0), (1, am), (9, 0), (1, p), (9, 0), (0, 12 * (24 * D 210 10 + (t : Int)) + wM D t 7), u13, u14] [(1, y), (0, wM D t 0), rf 271] (K, aUp D2 271 (wM D t 0) (D 271 (wM D t 0) - q), z) P := by
        intro y hy
        refine seg5 y _ ?_ (fun r hr => aUp_row hr) c2
        rw [hy, hq]
        unfold mx0
        by_cases hz : wM D t 2 = 0
        · rw [if_pos hz, if_pos hz]; split <;> omega
        · rw [if_neg hz, if_neg hz]
      refine s_lsub rfl ⟨by omega, by omega⟩ ?_
      refine s_last rfl (hk.at rfl rfl) (by omega) ?_
      refine s_al0 rfl ?_
      refine s_gf rfl (hk.at rfl rfl) rfl rfl ?_
      refine s_il5 rfl ?_
      refine s_al0 rfl ?_
      refine s_gf rfl (hk.at rfl rfl) rfl rfl ?_
      refine s_il5 rfl ?_
      refine s_lald rfl (hk.at rfl rfl) (by omega) ?_
      rw [r1]
      refine s_lc rfl ?_
      refine s_lcmp rfl ?_
      refine s_zge rfl ?_ ?_
      · intro h329
        have h329 := cmp3_ge.mp h329
        refine s_al0 rfl ?_
        refine s_gf rfl (hk.at rfl rfl) rfl rfl ?_
        refine s_il5 rfl ?_
        refine s_lald rfl (hk.at rfl rfl) (by omega) ?_
        rw [r1]
        refine fin3 _ ?_
        unfold mx0
        split <;> omega
      · intro h329
        have h329 := cmp3_lt.mp h329
        refine s_lc rfl ?_
        refine s_go rfl ?_
        refine fin3 _ ?_
        unfold mx0
        split <;> omega
    have seg6 : ∀ (us : Int) (D2 : Nat → Int → Int), us = (if wM D t 1 = 0 then p else am) → D2 = aUp D1 258 (24 * (e : Int) + t) b → V G l d iX12_acts 267 [rf 210, (0, (e : Int)), (0, (t : Int)), (0, (24 * D 210 10 + (t : Int))), (0, 24 * (e : Int) + (t : Int)), (0, wM D t 0), (1, b), (9, 0), (1, am), (9, 0), (1, p), (9, 0), (0, 12 * (24 * D 210 10 + (t : Int)) + wM D t 7), u13, u14] [(1, us), (0, 24 * (e : Int) + t), rf 259] (K, D2, z) P := by
      intro us D2 hus hD2
      have k70 : ∀ x y, aUp (aUp D2 259 (24 * (e : Int) + t) x) 260 (24 * (e : Int) + t) y 270 = D 270 := fun x y => by rw [aUp_row (by omega), aUp_row (by omega), hD2, aUp_row (by omega), g1 _ (by omega)]
      have k71 : ∀ x y h v, aUp (aUp (aUp D2 259 (24 * (e : Int) + t) x) 260 (24 * (e : Int) + t) y) 270 h v 271 = D 271 := fun x y h v => by rw [aUp_row (by omega), aUp_row (by omega), aUp_row (by omega), hD2, aUp_row (by omega), g1 _ (by omega)]
      have k25 : ∀ x y h v, aUp (aUp (aUp D2 259 (24 * (e : Int) + t) x) 260 (24 * (e : Int) + t) y) 270 h v 225 = D 225 := fun x y h v => by rw [aUp_row (by omega), aUp_row (by omega), aUp_row (by omega), hD2, aUp_row (by omega), g1 _ (by omega)]
      have fin4 : ∀ (q : Int), q = (if wM D t 2 = 0 then 0 else p) → V G l d iX12_acts 312 [rf 210, (0, (e : Int)), (0, (t : Int)), (0, (24 * D 210 10 + (t : Int))), (0, 24 * (e : Int) + (t : Int)), (0, wM D t 0), (1, b), (9, 0), (1, am), (9, 0), (1, p), (9, 0), (0, 12 * (24 * D 210 10 + (t : Int)) + wM D t 7), u13, u14] [(1, q), (1, D 271 (wM D t 0)), (0, wM D t 0), rf 271] (K, aUp (aUp (aUp D2 259 (24 * (e : Int) + t) us) 260 (24 * (e : Int) + t) p) 270 (wM D t 0) (D 270 (wM D t 0) - p), z) P := by
        intro q hq
        refine seg3 q _ hq ?_ (k71 _ _ _ _) (k25 _ _ _ _) (fun D3 c1 c2 => ?_)
        · rw [aUp_same, k70]
        · have hbx := hb
          refine ⟨fun r r1 r2 r3 r4 r5 r6 => ?_, fun h => ?_, ?_, ?_, ?_, ?_, ?_⟩
          · rw [c1 r r6, aUp_row r5, aUp_row r3, aUp_row r2, hD2, aUp_row r1, g1 r r4]
          · rw [c1 _ (by omega), aUp_row (by omega), aUp_row (by omega), aUp_row (by omega), hD2, aUp_row (by omega), g2, ham, hbx]
          · rw [c1 _ (by omega), aUp_row (by omega), aUp_row (by omega), aUp_row (by omega), hD2, aUp_same, g1 _ (by omega), hbx]
          · rw [c1 _ (by omega), aUp_row (by omega), aUp_row (by omega), aUp_same, hD2, aUp_row (by omega), g1 _ (by omega), ← hbx, ← ham, hpd, hus]
          · rw [c1 _ (by omega), aUp_row (by omega), aUp_same, aUp_row (by omega), hD2, aUp_row (by omega), g1 _ (by omega), ← hbx, ← ham, hpd]
          · rw [c1 _ (by omega), aUp_same, k70, hss]
          · exact c2
      refine s_last rfl (hk.at rfl rfl) (by omega) ?_
      refine s_al0 rfl ?_
      refine s_gf rfl (hk.at rfl rfl) rfl rfl ?_
      refine s_il4 rfl ?_
      refine s_ll10 rfl ?_
      refine s_last rfl (hk.at rfl rfl) (by omega) ?_
      refine s_al0 rfl ?_
      refine s_gf rfl (hk.at rfl rfl) rfl rfl ?_
      refine s_il5 rfl ?_
      refine s_dup2 rfl rfl rfl ?_
      refine s_lald rfl (hk.at rfl rfl) (by omega) ?_
      rw [k70]
      refine s_ll10 rfl ?_
      refine s_lsub rfl ⟨by omega, by omega⟩ ?_
      refine s_last rfl (hk.at rfl rfl) (by omega) ?_
      refine s_al0 rfl ?_
      refine s_gf rfl (hk.at rfl rfl) rfl rfl ?_
      refine s_il5 rfl ?_
      refine s_dup2 rfl rfl rfl ?_
      refine s_lald rfl (hk.at rfl rfl) (by omega) ?_
      rw [k71]
      refine s_al0 rfl ?_
      refine s_gf rfl (hk.at rfl rfl) rfl rfl ?_
      refine s_il3 rfl ?_
      refine s_bald rfl (hk.at rfl rfl) (by omega) ?_
      rw [k25]
      refine s_zeq rfl ?_ ?_
      · intro h303
        refine s_lc rfl ?_
        exact fin4 _ (by first | rw [if_pos (show wM D t 2 = 0 from h303)] | rw [if_neg (show ¬ wM D t 2 = 0 from h303)])
      · intro h303
        refine s_ll10 rfl ?_
        refine s_go rfl ?_
        exact fin4 _ (by first | rw [if_pos (show wM D t 2 = 0 from h303)] | rw [if_neg (show ¬ wM D t 2 = 0 from h303)])
    have k23 : ∀ x, aUp D1 258 (24 * (e : Int) + t) x 223 = D 223 := fun x => by rw [aUp_row (by omega), g1 _ (by omega)]
    refine s_al0 rfl ?_
    refine s_gf rfl (hk.at rfl rfl) rfl rfl ?_
    refine s_il4 rfl ?_
    refine s_ll6 rfl ?_
    refine s_last rfl (hk.at rfl rfl) (by omega) ?_
    refine s_al0 rfl ?_
    refine s_gf rfl (hk.at rfl rfl) rfl rfl ?_
    refine s_il4 rfl ?_
    refine s_al0 rfl ?_
    refine s_gf rfl (hk.at rfl rfl) rfl rfl ?_
    refine s_il3 rfl ?_
    refine s_bald rfl (hk.at rfl rfl) (by omega) ?_
    rw [k23]
    refine s_zeq rfl ?_ ?_
    · intro h257
      refine s_ll10 rfl ?_
      exact seg6 _ _ (by first | rw [if_pos (show wM D t 1 = 0 from h257)] | rw [if_neg (show ¬ wM D t 1 = 0 from h257)]) rfl
    · intro h257
      refine s_ll8 rfl ?_
      refine s_go rfl ?_
      exact seg6 _ _ (by first | rw [if_pos (show wM D t 1 = 0 from h257)] | rw [if_neg (show ¬ wM D t 1 = 0 from h257)]) rfl
  have segC : ∀ (b am : Int) (u10 u11 u12 u13 u14 : aTV), Nat.beq u11.1 1 = false → b = (if wM D t 2 = 0 then D 270 (wM D t 0) else D 271 (wM D t 0)) → am = amtF (wM D) (rmM D) t b → V G l d iX12_acts 164 [rf 210, (0, (e : Int)), (0, (t : Int)), (0, (24 * D 210 10 + (t : Int))), (0, 24 * (e : Int) + (t : Int)), (0, wM D t 0), (1, b), (9, 0), (1, am), (9, 0), u10, u11, u12, u13, u14] [] (K, D, z) P := by
    intro b am u10 u11 u12 u13 u14 hu11 hb ham
    have hb0 : 0 ≤ b ∧ b ≤ D 270 (wM D t 0) := by rw [hb]; split <;> omega
    have ha0 := amtF_in (w := wM D) hr h4.1 hb0.1
    rw [← ham] at ha0
    have hpin : ∀ n : Nat, (n : Int) ≤ wM D t 7 → 0 ≤ sumF (fun i => prt am (wM D t (200 + i))) n ∧ sumF (fun i => prt am (wM D t (200 + i))) n ≤ 11 * 20000000 := fun n hn => by
      have q1 := sumF_nonneg (f := fun i => prt am (wM D t (200 + i))) (n := n) (fun i hi => (prt_in ha0.1 (hp i (by omega)).2).1)
      have q2 := sumF_le (f := fun i => prt am (wM D t (200 + i))) (n := n) (c := 20000000) (fun i hi => by have := (prt_in ha0.1 (hp i (by omega)).2).2; omega)
      omega
    have loop : ∀ (m n : Nat) (D1 : Nat → Int → Int) (u13 u14 : aTV), n + m = (wM D t 7).toNat → (∀ r, r ≠ 269 → D1 r = D r) → (∀ h : Int, D1 269 h = D 269 h + ptF (wM D) t h am n) → V G l d iX12_acts 173 [rf 210, (0, (e : Int)), (0, (t : Int)), (0, (24 * D 210 10 + (t : Int))), (0, 24 * (e : Int) + (t : Int)), (0, wM D t 0), (1, b), (9, 0), (1, am), (9, 0), (1, sumF (fun i => prt am (wM D t (200 + i))) n), (9, 0), (0, 12 * (24 * D 210 10 + (t : Int)) + n), u13, u14] [] (K, D1, z) P := by
      intro m
      induction m with
      | zero =>
        intro n D1 u13 u14 hm g1 g2
        have hn : n = (wM D t 7).toNat := by omega
        have hn2 : (n : Int) = wM D t 7 := by omega
        have k30 : D1 230 = D 230 := g1 _ (by omega)
        refine s_il12 rfl ?_
        refine s_ic rfl ?_
        refine s_il3 rfl ?_
        refine s_imul rfl ⟨by omega, by omega⟩ ?_
        refine s_al0 rfl ?_
        refine s_gf rfl (hk.at rfl rfl) rfl rfl ?_
        refine s_il3 rfl ?_
        refine s_iald rfl (hk.at rfl rfl) (by omega) ?_
        rw [k30]
        refine s_iadd rfl ⟨by omega, by omega⟩ ?_
        refine s_cge rfl ?_ ?_
        · intro h186
          have hx := segD b am D1 u13 u14 hb ham g1 (by rw [← hn]; exact g2)
          rw [← hn2] at hx
          unfold pdF at hx
          rw [← hn] at hx
          exact hx
        · intro h186
          omega
      | succ m ih =>
        intro n D1 u13 u14 hm g1 g2
        have hn2 : (n : Int) < wM D t 7 := by omega
        have k30 : D1 230 = D 230 := g1 _ (by omega)
        have k31 : D1 231 (12 * (24 * D 210 10 + (t : Int)) + n) = wM D t (200 + n) := by rw [g1 _ (by omega)]; exact (wM_s (D := D) (t := t) (i := n)).symm
        have k32 : D1 232 (12 * (24 * D 210 10 + (t : Int)) + n) = wM D t (100 + n) := by rw [g1 _ (by omega)]; exact (wM_h (D := D) (t := t) (i := n) (by omega)).symm
        obtain ⟨p1, p2⟩ := hp n (by omega)
        have q0 := hpin n (by omega)
        have q1 := prt_in ha0.1 p2
        have q2 : 0 ≤ am * wM D t (200 + n) ∧ am * wM D t (200 + n) ≤ 20000000 * 1000 := ⟨Int.mul_nonneg ha0.1 p2.1, Int.mul_le_mul (by omega) p2.2 p2.1 (by decide)⟩
        have q3 : (am * wM D t (200 + n)).tdiv 1000 = prt am (wM D t (200 + n)) := Int.tdiv_eq_ediv_of_nonneg q2.1
        have q4 := hT _ (show 0 ≤ wM D t (100 + n) ∧ wM D t (100 + n) < 12 by omega)
        have q5 := ptF_in (h := wM D t (100 + n)) (a := am) (n := n) hw ht ha0.1 (by omega)
        have q6 := pdF_in hw ht ha0.1
        have q7 : D1 269 (wM D t (100 + n)) = D 269 (wM D t (100 + n)) + ptF (wM D) t (wM D t (100 + n)) am n := g2 _
        refine s_il12 rfl ?_
        refine s_ic rfl ?_
        refine s_il3 rfl ?_
        refine s_imul rfl ⟨by omega, by omega⟩ ?_
        refine s_al0 rfl ?_
        refine s_gf rfl (hk.at rfl rfl) rfl rfl ?_
        refine s_il3 rfl ?_
        refine s_iald rfl (hk.at rfl rfl) (by omega) ?_
        rw [k30]
        refine s_iadd rfl ⟨by omega, by omega⟩ ?_
        refine s_cge rfl ?_ ?_
        · intro h186
          omega
        · intro h186
          refine s_ll8 rfl ?_
          refine s_al0 rfl ?_
          refine s_gf rfl (hk.at rfl rfl) rfl rfl ?_
          refine s_il12 rfl ?_
          refine s_iald rfl (hk.at rfl rfl) (by omega) ?_
          rw [k31]
          refine s_i2l rfl ?_
          refine s_lmul rfl ⟨by omega, by omega⟩ ?_
          refine s_lc rfl ?_
          refine s_ldiv rfl (by decide) (by rw [q3]; exact ⟨by omega, by omega⟩) ?_
          rw [q3]
          refine s_ls13 rfl rfl ?_
          refine s_al0 rfl ?_
          refine s_gf rfl (hk.at rfl rfl) rfl rfl ?_
          refine s_al0 rfl ?_
          refine s_gf rfl (hk.at rfl rfl) rfl rfl ?_
          refine s_il12 rfl ?_
          refine s_iald rfl (hk.at rfl rfl) (by omega) ?_
          rw [k32]
          refine s_dup2 rfl rfl rfl ?_
          refine s_lald rfl (hk.at rfl rfl) (by omega) ?_
          rw [q7]
          refine s_ll13 rfl ?_
          refine s_ladd rfl ⟨by omega, by omega⟩ ?_
          refine s_last rfl (hk.at rfl rfl) (by omega) ?_
          refine s_ll10 rfl ?_
          refine s_ll13 rfl ?_
          refine s_ladd rfl ⟨by omega, by omega⟩ ?_
          refine s_ls10 rfl rfl ?_
          refine s_iinc12 rfl rfl ⟨by omega, by omega⟩ ?_
          refine s_go rfl ?_
          have hx := ih (n + 1) (aUp D1 269 (wM D t (100 + n)) (D 269 (wM D t (100 + n)) + ptF (wM D) t (wM D t (100 + n)) am n + prt am (wM D t (200 + n)))) (1, prt am (wM D t (200 + n))) (9, 0) (by omega) (fun r hr => by rw [aUp_row hr]; exact g1 r hr) (fun h => by
            unfold ptF
            rw [sumF, aUp_same]
            unfold uF
            by_cases hq : h = wM D t (100 + n)
            · rw [if_pos hq, if_pos hq.symm, hq]; omega
            · rw [if_neg hq, if_neg (fun x => hq x.symm), g2]; unfold ptF; omega)
          rw [show (12 * (24 * D 210 10 + (t : Int)) + ((n + 1 : Nat) : Int)) = 12 * (24 * D 210 10 + (t : Int)) + n + 1 by omega, sumF] at hx
          exact hx
    refine s_lc rfl ?_
    refine s_ls10 rfl rfl ?_
    refine s_ic rfl ?_
    refine s_il3 rfl ?_
    refine s_imul rfl ⟨by omega, by omega⟩ ?_
    refine s_is12 rfl rfl ?_
    have hx := loop (wM D t 7).toNat 0 D u13 u14 (by omega) (fun _ _ => rfl) (fun h => by rw [show ptF (wM D) t h am 0 = 0 from rfl]; omega)
    rw [show (12 * (24 * D 210 10 + (t : Int)) + ((0 : Nat) : Int)) = 12 * (24 * D 210 10 + (t : Int)) by omega] at hx
    exact hx
  have segB : ∀ (b : Int) (u6 u7 u8 u9 u10 u11 u12 u13 u14 : aTV), Nat.beq u7.1 1 = false → Nat.beq u9.1 1 = false → Nat.beq u11.1 1 = false → b = (if wM D t 2 = 0 then D 270 (wM D t 0) else D 271 (wM D t 0)) → V G l d iX12_acts 52 [rf 210, (0, (e : Int)), (0, (t : Int)), (0, (24 * D 210 10 + (t : Int))), (0, 24 * (e : Int) + (t : Int)), (0, wM D t 0), u6, u7, u8, u9, u10, u11, u12, u13, u14] [(1, b)] (K, D, z) P := by
    intro b u6 u7 u8 u9 u10 u11 u12 u13 u14 hu7 hu9 hu11 hb
    have hb0 : 0 ≤ b ∧ b ≤ D 270 (wM D t 0) := by rw [hb]; split <;> omega
    have s162 : ¬ wM D t 1 = 0 → ∀ (x y : Int), x = mx0 (b - wM D t 4) → y = (if wM D t 3 < x then wM D t 3 else x) → V G l d iX12_acts 147 [rf 210, (0, (e : Int)), (0, (t : Int)), (0, (24 * D 210 10 + (t : Int))), (0, 24 * (e : Int) + (t : Int)), (0, wM D t 0), (1, b), (9, 0), (1, y), (9, 0), (1, wM D t 3 * (1 + wM D t 5) - D 263 t), (9, 0), u12, u13, u14] [] (K, D, z) P := by
      intro hl1 x y hx hy
      have fin : ∀ v, v = (if wM D t 3 * (1 + wM D t 5) - D 263 t < y then wM D t 3 * (1 + wM D t 5) - D 263 t else y) → v = amtF (wM D) (rmM D) t b := by
        intro v hv
        unfold amtF rmM
        rw [if_neg hl1, hv, hy, ← hx]
        split <;> split <;> split <;> (try split) <;> omega
      refine s_ll8 rfl ?_
      refine s_ll10 rfl ?_
      refine s_lcmp rfl ?_
      refine s_zle rfl ?_ ?_
      · intro h152
        have h152 := cmp3_le.mp h152
        refine s_ll8 rfl ?_
        refine s_ls8 rfl rfl ?_
        exact segC b _ _ _ _ _ _ rfl hb (fin _ (by first | rw [if_pos (by omega)] | rw [if_neg (by omega)]))
      · intro h152
        have h152 := cmp3_gt.mp h152
        refine s_ll10 rfl ?_
        refine s_go rfl ?_
        refine s_ls8 rfl rfl ?_
        exact segC b _ _ _ _ _ _ rfl hb (fin _ (by first | rw [if_pos (by omega)] | rw [if_neg (by omega)]))
    have s118 : ¬ wM D t 1 = 0 → ∀ (x : Int), x = mx0 (b - wM D t 4) → V G l d iX12_acts 118 [rf 210, (0, (e : Int)), (0, (t : Int)), (0, (24 * D 210 10 + (t : Int))), (0, 24 * (e : Int) + (t : Int)), (0, wM D t 0), (1, b), (9, 0), (1, b - wM D t 4), (9, 0), (1, wM D t 3 * (1 + wM D t 5) - D 263 t), (9, 0), u12, u13, u14] [(1, x)] (K, D, z) P := by
      intro hl1 x hx
      refine s_ls8 rfl rfl ?_
      refine s_ll8 rfl ?_
      refine s_al0 rfl ?_
      refine s_gf rfl (hk.at rfl rfl) rfl rfl ?_
      refine s_il3 rfl ?_
      refine s_iald rfl (hk.at rfl rfl) (by omega) ?_
      refine s_i2l rfl ?_
      refine s_lcmp rfl ?_
      refine s_zle rfl ?_ ?_
      · intro h130
        have h130 := cmp3_le.mp h130
        have hy : x = (if wM D t 3 < x then wM D t 3 else x) := by rw [if_neg (by omega)]
        refine s_ll8 rfl ?_
        refine s_ls8 rfl rfl ?_
        exact s162 hl1 x _ hx hy
      · intro h130
        have h130 := cmp3_gt.mp h130
        have hy : wM D t 3 = (if wM D t 3 < x then wM D t 3 else x) := by rw [if_pos (by omega)]
        refine s_al0 rfl ?_
        refine s_gf rfl (hk.at rfl rfl) rfl rfl ?_
        refine s_il3 rfl ?_
        refine s_iald rfl (hk.at rfl rfl) (by omega) ?_
        refine s_i2l rfl ?_
        refine s_go rfl ?_
        refine s_ls8 rfl rfl ?_
        exact s162 hl1 x _ hx hy
    refine s_ls6 rfl rfl ?_
    refine s_ll6 rfl ?_
    refine s_ls8 rfl rfl ?_
    refine s_al0 rfl ?_
    refine s_gf rfl (hk.at rfl rfl) rfl rfl ?_
    refine s_il3 rfl ?_
    refine s_bald rfl (hk.at rfl rfl) (by omega) ?_
    refine s_zeq rfl ?_ ?_
    · intro h64
      exact segC b b _ _ _ _ _ hu11 hb (by unfold amtF; rw [if_pos (show wM D t 1 = 0 from h64)])
    · intro h64
      refine s_al0 rfl ?_
      refine s_gf rfl (hk.at rfl rfl) rfl rfl ?_
      refine s_il3 rfl ?_
      refine s_iald rfl (hk.at rfl rfl) (by omega) ?_
      refine s_i2l rfl ?_
      refine s_ic rfl ?_
      refine s_al0 rfl ?_
      refine s_gf rfl (hk.at rfl rfl) rfl rfl ?_
      refine s_il3 rfl ?_
      refine s_iald rfl (hk.at rfl rfl) (by omega) ?_
      refine s_iadd rfl ⟨by omega, by omega⟩ ?_
      refine s_i2l rfl ?_
      refine s_lmul rfl ⟨by omega, by omega⟩ ?_
      refine s_al0 rfl ?_
      refine s_gf rfl (hk.at rfl rfl) rfl rfl ?_
      refine s_il2 rfl ?_
      refine s_lald rfl (hk.at rfl rfl) (by omega) ?_
      refine s_lsub rfl ⟨by omega, by omega⟩ ?_
      refine s_ls10 rfl rfl ?_
      refine s_ll6 rfl ?_
      refine s_al0 rfl ?_
      refine s_gf rfl (hk.at rfl rfl) rfl rfl ?_
      refine s_il3 rfl ?_
      refine s_iald rfl (hk.at rfl rfl) (by omega) ?_
      refine s_i2l rfl ?_
      refine s_lsub rfl ⟨by omega, by omega⟩ ?_
      refine s_ls8 rfl rfl ?_
      refine s_ll8 rfl ?_
      refine s_lc rfl ?_
      refine s_lcmp rfl ?_
      refine s_zge rfl ?_ ?_
      · intro h109
        have h109 := cmp3_ge.mp h109
        refine s_ll8 rfl ?_
        exact s118 h64 _ (by unfold mx0; split <;> omega)
      · intro h109
        have h109 := cmp3_lt.mp h109
        refine s_lc rfl ?_
        refine s_go rfl ?_
        exact s118 h64 _ (by unfold mx0; split <;> omega)
  refine VM_go (tg2 rfl) (Nat.le_of_ble_eq_true rfl) ?_
  refine s_ic rfl ?_
  refine s_al0 rfl ?_
  refine s_gi rfl (hk.at rfl rfl) rfl ?_
  refine s_imul rfl ⟨by omega, by omega⟩ ?_
  refine s_il2 rfl ?_
  refine s_iadd rfl ⟨by omega, by omega⟩ ?_
  refine s_is3 rfl rfl ?_
  refine s_ic rfl ?_
  refine s_il1 rfl ?_
  refine s_imul rfl ⟨by omega, by omega⟩ ?_
  refine s_il2 rfl ?_
  refine s_iadd rfl ⟨by omega, by omega⟩ ?_
  refine s_is4 rfl rfl ?_
  refine s_al0 rfl ?_
  refine s_gf rfl (hk.at rfl rfl) rfl rfl ?_
  refine s_il3 rfl ?_
  refine s_iald rfl (hk.at rfl rfl) (by omega) ?_
  refine s_is5 rfl rfl ?_
  refine s_al0 rfl ?_
  refine s_gf rfl (hk.at rfl rfl) rfl rfl ?_
  refine s_il3 rfl ?_
  refine s_bald rfl (hk.at rfl rfl) (by omega) ?_
  refine s_zeq rfl ?_ ?_
  · intro h32
    refine s_al0 rfl ?_
    refine s_gf rfl (hk.at rfl rfl) rfl rfl ?_
    refine s_il5 rfl ?_
    refine s_lald rfl (hk.at rfl rfl) (by omega) ?_
    exact segB _ _ _ _ _ _ _ _ _ _ rfl rfl rfl (by first | rw [if_pos (show wM D t 2 = 0 from h32)]; rfl | rw [if_neg (show ¬ wM D t 2 = 0 from h32)]; rfl)
  · intro h32
    refine s_al0 rfl ?_
    refine s_gf rfl (hk.at rfl rfl) rfl rfl ?_
    refine s_il5 rfl ?_
    refine s_lald rfl (hk.at rfl rfl) (by omega) ?_
    refine s_go rfl ?_
    exact segB _ _ _ _ _ _ _ _ _ _ rfl rfl rfl (by first | rw [if_pos (show wM D t 2 = 0 from h32)]; rfl | rw [if_neg (show ¬ wM D t 2 = 0 from h32)]; rfl)
end
