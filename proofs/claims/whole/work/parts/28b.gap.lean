/-! ===== a cell that is not ours behind the last of ours ===== -/
def gp (G : aCX) (nx g : Nat) : aCX := ((G.1.1, fun r => if r + 1 = nx then G.1.2 r + g else G.1.2 r), G.2)
abbrev aS6 (st : aSt) : aSt := (st.1, st.2.1, (st.2.2.1, st.2.2.2 + 6))
theorem gS_lo {G : aCX} {nx g : Nat} : ∀ {r : Nat}, r < nx → gS (gp G nx g).1.2 r = gS G.1.2 r := by
  intro r
  induction r with
  | zero => intro _; rfl
  | succ r ih =>
    intro h
    have e : (gp G nx g).1.2 r = G.1.2 r := if_neg (by omega)
    rw [gS, gS, ih (by omega), e]
theorem gS_hi {G : aCX} {nx g : Nat} (h : 1 ≤ nx) : gS (gp G nx g).1.2 nx = gS G.1.2 nx + g := by
  obtain ⟨r, rfl⟩ : ∃ r, nx = r + 1 := ⟨nx - 1, by omega⟩
  have e : (gp G (r + 1) g).1.2 r = G.1.2 r + g := if_pos rfl
  rw [gS, gS, gS_lo (by omega), e]
  omega
theorem ad_lo {G : aCX} {nx g r : Nat} (h : r < nx) : aAd (gp G nx g) r = aAd G r := by
  unfold aAd
  rw [gS_lo h]
  rfl
theorem rf_lo {G : aCX} {nx g : Nat} {w : Int} (h : w < nx) : aRf (gp G nx g) w = aRf G w := by
  unfold aRf
  split
  · rfl
  · rw [ad_lo (by omega)]
/-- the references that the cell r holds are of cells made -/
def RfC (st : aSt) (r : Nat) : Prop :=
  ((st.1 r).1 < 13 → ∀ k : Nat, k < aNf (st.1 r).1 → (aFc (st.1 r).1 k = 2 → (st.1 r).2.2.getD k 0 < st.2.2.1) ∧ (aFc (st.1 r).1 k = 3 → st.2.1 r k < st.2.2.1) ∧ aFc (st.1 r).1 k < 5) ∧
  ((st.1 r).1 = 17 → ∀ i : Nat, i < (st.1 r).2.1 → st.2.1 r i < st.2.2.1) ∧ ((st.1 r).1 = 18 → ∀ i : Nat, i < (st.1 r).2.1 → (st.1 r).2.2.getD i 0 < st.2.2.1)
theorem arr_same {cA : ClassId} {n : Nat} {f g : Nat → Value} (h : ∀ i, i < n → f i = g i) : arrV cA n f = arrV cA n g := by
  unfold arrV
  congr 1
  congr 1
  funext j
  exact h j j.isLt
theorem fs_gap {G : aCX} {nx g t : Nat} {f : Int → Int} {rs : List Nat} (h : ∀ k : Nat, k < aNf t → (aFc t k = 2 → rs.getD k 0 < nx) ∧ (aFc t k = 3 → f k < nx) ∧ aFc t k < 5) : aFs (gp G nx g) f t rs = aFs G f t rs := by
  unfold aFs
  refine List.map_congr_left fun k hk => ?_
  obtain ⟨h1, h2, h3⟩ := h k (List.mem_range.mp hk)
  unfold aFv
  split
  · rfl
  · rfl
  · rfl
  · rename_i e
    rw [rf_lo (by have := h1 (by omega); show ((rs.getD k 0 : Nat) : Int) < (nx : Nat); omega)]
  · rename_i e0 e4 e1 e2
    rw [rf_lo (h2 (by have : ¬ aFc t k = 0 := e0; have : ¬ aFc t k = 4 := e4; have : ¬ aFc t k = 1 := e1; have : ¬ aFc t k = 2 := e2; omega))]
theorem at_gap {G : aCX} {st : aSt} {g r : Nat} {H H' : Heap} (hr : r < st.2.2.1) (hR : RfC st r) (hs : H'[aAd G r]? = H[aAd G r]?) (h : va_at G.2.1 vwCl (aAd G r, aEnt G st r) H) : va_at (gp G st.2.2.1 g).2.1 vwCl (aAd (gp G st.2.2.1 g) r, aEnt (gp G st.2.2.1 g) (aS6 st) r) H' := by
  rw [ad_lo hr]
  have h := va_at.kept h hs
  obtain ⟨h1, h2, h3⟩ := hR
  show va_at G.2.1 vwCl (aAd G r, aEnt (gp G st.2.2.1 g) (aS6 st) r) H'
  unfold aEnt at h ⊢
  generalize hk : st.1 r = k at h h1 h2 h3
  obtain ⟨t, n, rs⟩ := k
  dsimp only at h h1 h2 h3 ⊢
  by_cases q : t < 13
  · rw [if_pos q] at h ⊢
    rw [fs_gap (h1 q)]
    exact h
  · rw [if_neg q] at h ⊢
    by_cases q15 : t = 15
    · rw [if_pos q15] at h ⊢
      exact h
    · rw [if_neg q15] at h ⊢
      by_cases q17 : t = 17
      · rw [if_pos q17] at h ⊢
        have e : vp_cell (G.2.2.1 4) (n, .inr (.inr (.inr (.inr (fun i => aRf (gp G st.2.2.1 g) (st.2.1 r i)))))) = vp_cell (G.2.2.1 4) (n, .inr (.inr (.inr (.inr (fun i => aRf G (st.2.1 r i)))))) := by
          rw [vp_cell_q, vp_cell_q]
          exact arr_same (fun i hi => by rw [rf_lo (h2 q17 i hi)])
        show H'[aAd G r]? = some (vp_cell (G.2.2.1 4) (n, .inr (.inr (.inr (.inr (fun i => aRf (gp G st.2.2.1 g) (st.2.1 r i)))))))
        rw [e]
        exact h
      · rw [if_neg q17] at h ⊢
        by_cases q18 : t = 18
        · rw [if_pos q18] at h ⊢
          have e : vp_cell (G.2.2.1 5) (n, .inr (.inr (.inr (.inr (fun i => aRf (gp G st.2.2.1 g) (Int.ofNat (rs.getD i 0))))))) = vp_cell (G.2.2.1 5) (n, .inr (.inr (.inr (.inr (fun i => aRf G (Int.ofNat (rs.getD i 0))))))) := by
            rw [vp_cell_q, vp_cell_q]
            exact arr_same (fun i hi => by rw [rf_lo (by have := h3 q18 i hi; show ((rs.getD i 0 : Nat) : Int) < (st.2.2.1 : Nat); omega)])
          show H'[aAd G r]? = some (vp_cell (G.2.2.1 5) (n, .inr (.inr (.inr (.inr (fun i => aRf (gp G st.2.2.1 g) (Int.ofNat (rs.getD i 0))))))))
          rw [e]
          exact h
        · rw [if_neg q18] at h ⊢
          exact h
theorem hold_gap {G : aCX} {st : aSt} {H H' : Heap} (hC : aCan st) (hR : ∀ r, 1 ≤ r → r < st.2.2.1 → (st.1 r).1 < 19 → RfC st r) (hg : gS G.1.2 st.2.2.1 < 1000) (h1 : H.size ≤ H'.size) (h2 : H'.size ≤ H.size + 1) (hs : ∀ q : Nat, q < H.size → H'[q]? = H[q]?) (hq : hSum (G.1.1 + 1) H' ≤ hSum (G.1.1 + 1) H + 6) (h : aHold G st H) : aHold (gp G st.2.2.1 (H'.size - H.size)) (aS6 st) H' := by
  obtain ⟨a1, ⟨a2, a3, a4⟩, a5, a6⟩ := h
  have hz : 1 ≤ st.2.2.1 := hC.2.1.1
  have ge := gS_hi (G := G) (nx := st.2.2.1) (g := H'.size - H.size) hz
  refine ⟨?_, ⟨?_, fun r hr => ?_, ?_⟩, fun q hq' => ?_, fun r r1 r2 r3 => ?_⟩
  · show H'.size = G.1.1 + st.2.2.1 + gS (gp G st.2.2.1 (H'.size - H.size)).1.2 st.2.2.1
    rw [ge]
    unfold aAd at a1
    omega
  · show hSum (G.1.1 + 1) H' ≤ st.2.2.2 + 6
    omega
  · have hr : st.2.2.1 ≤ r := hr
    show (if r + 1 = st.2.2.1 then G.1.2 r + _ else G.1.2 r) = 0
    rw [if_neg (by omega)]
    exact a3 r hr
  · show gS (gp G st.2.2.1 (H'.size - H.size)).1.2 st.2.2.1 ≤ 1000
    rw [ge]; omega
  · have := aAd_pos (G := G) hz
    show H'[q]? = G.2.2.2.1[q]?
    rw [hs q (by rw [a1]; have : q ≤ G.1.1 := hq'; omega)]
    exact a5 q hq'
  · have r2 : r < st.2.2.1 := r2
    have r3 : (st.1 r).1 < 19 := r3
    exact at_gap r2 (hR r r1 r2 r3) (hs _ (by rw [a1]; exact aAd_lt r2)) (a6 r r1 r2 r3)
