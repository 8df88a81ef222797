/-! ===== clearing: the reference ===== -/
def ntX (D : Nat → Int → Int) (wo : Int → Int) (T nt : Nat) (cn : Nat → Nat) (cc : Nat → Nat → Int × Int) (stm : Int) (a b : Int) : Int := if 0 < owX D wo T nt cn cc (vwC D) stm (-1) a b - owX D wo T nt cn cc (vwC D) stm (-1) b a then owX D wo T nt cn cc (vwC D) stm (-1) a b - owX D wo T nt cn cc (vwC D) stm (-1) b a else 0
def alX (D : Nat → Int → Int) (wo : Int → Int) (T nt : Nat) (cn : Nat → Nat) (cc : Nat → Nat → Int × Int) (stm : Int) (a : Int) : Int := sumF (fun b : Nat => ntX D wo T nt cn cc stm a b) 12
def spX (D : Nat → Int → Int) (wo : Int → Int) (T nt : Nat) (cn : Nat → Nat) (cc : Nat → Nat → Int × Int) (stm : Int) (a : Int) : Int := if 0 < D 272 a - drX D wo T (vwC D) stm (-1) a then D 272 a - drX D wo T (vwC D) stm (-1) a else 0
def clM (D : Nat → Int → Int) (wo : Int → Int) (T nt : Nat) (cn : Nat → Nat) (cc : Nat → Nat → Int × Int) (stm : Int) : Nat × (Int → Int) := clP 12 (ntX D wo T nt cn cc stm) (alX D wo T nt cn cc stm) (spX D wo T nt cn cc stm) 200 0 (alX D wo T nt cn cc stm)
def faX (D : Nat → Int → Int) (wo : Int → Int) (T nt : Nat) (cn : Nat → Nat) (cc : Nat → Nat → Int × Int) (stm : Int) (a : Int) : Bool := decide ((clM D wo T nt cn cc stm).2 a < alX D wo T nt cn cc stm a ∨ D 272 a < drX D wo T (vwC D) stm (-1) a)
def CaD (D : Nat → Int → Int) (wo : Int → Int) (T nt : Nat) (cn : Nat → Nat) (cc : Nat → Nat → Int × Int) (stm : Int) (D' : Nat → Int → Int) : Prop := (∀ r, r ≠ 210 → (r < 236 ∨ (237 < r ∧ r < 248) ∨ r = 265 ∨ r = 266 ∨ r = 272 ∨ 277 < r) → D' r = D r) ∧ (∀ j : Int, j ≠ 49 → j ≠ 50 → j ≠ 51 → j ≠ 54 → j ≠ 83 → D' 210 j = D 210 j) ∧ D' 210 83 = (clM D wo T nt cn cc stm).1 ∧ ((0 ≤ D' 210 54 ∧ D' 210 54 ≤ 60) ∧ (∀ (e : Nat) (x : Int), (e : Int) < D' 210 54 → 0 ≤ x → x < 12 → 0 ≤ D' 255 (12 * e + x) ∧ D' 255 (12 * e + x) ≤ 6000000) ∧ ∀ x : Int, 0 ≤ x → x < 12 → sumF (fun e : Nat => D' 255 (12 * e + x)) (D' 210 54).toNat = drX D wo T (vwC D) stm (-1) x) ∧ ∀ a : Nat, a < 12 → D' 274 a = alX D wo T nt cn cc stm a ∧ D' 276 a = (clM D wo T nt cn cc stm).2 a ∧ D' 277 a = gtP 12 (ntX D wo T nt cn cc stm) (alX D wo T nt cn cc stm) (clM D wo T nt cn cc stm).2 a
section
variable {D : Nat → Int → Int} {T nt : Nat} {wo : Int → Int} {cn : Nat → Nat} {cc : Nat → Nat → Int × Int} {stm : Int}
theorem ntX_in (hC : CW T nt wo cn cc D) {a b : Int} (ha : 0 ≤ a ∧ a < 12) (hb : 0 ≤ b ∧ b < 12) : 0 ≤ ntX D wo T nt cn cc stm a b ∧ ntX D wo T nt cn cc stm a b ≤ owX D wo T nt cn cc (vwC D) stm (-1) a b ∧ ntX D wo T nt cn cc stm a b ≤ 1600000000 := by
  have h1 := owX_in (a := a) (v := vwC D) (stm := stm) (ms := -1) hC hb
  have h2 := owX_in (a := b) (v := vwC D) (stm := stm) (ms := -1) hC ha
  unfold ntX
  split <;> omega
theorem alX_in (hC : CW T nt wo cn cc D) {a : Int} (ha : 0 ≤ a ∧ a < 12) : 0 ≤ alX D wo T nt cn cc stm a ∧ alX D wo T nt cn cc stm a ≤ 1439999760 := by
  refine ⟨sumF_nonneg fun b hb => (ntX_in hC ha (by omega)).1, ?_⟩
  exact Int.le_trans (sumF_le2 fun b hb => (ntX_in hC ha (by omega)).2.1) (owX_sums hC ha).1
theorem clX_col (hC : CW T nt wo cn cc D) {a : Int} (ha : 0 ≤ a ∧ a < 12) : sumF (fun b : Nat => ntX D wo T nt cn cc stm b a) 12 ≤ 1439999760 :=
  Int.le_trans (sumF_le2 fun b hb => (ntX_in hC (by omega) ha).2.1) (owX_sums hC ha).2
end
section
variable {G : aCX} {l : Launch} {d : Nat} {K : Nat → aKd} {D : Nat → Int → Int} {z : Nat × Nat} {P : Int → aSt → Prop}
theorem u_clearsAll {T nt : Nat} {wo : Int → Int} {cn : Nat → Nat} {cc : Nat → Nat → Int × Int} {stm : Int} {D0 : Nat → Int → Int} (hk : Kn K) (hC : CW T nt wo cn cc D0) (hP : Cp T nt wo cn cc D0) (hst : StR D0 wo T (vwC D0) 63 stm) (hpu : ∀ a : Nat, a < 12 → 0 ≤ D0 272 a ∧ D0 272 a ≤ 99999999) (kk : ∀ D', CaD D0 wo T nt cn cc stm D' → P 0 (K, D', z)) : VM G l (d + 5) iX12_clearsAll [rf 210] (K, D0, z) P := by
  have spb : ∀ a : Nat, a < 12 → 0 ≤ (spX D0 wo T nt cn cc stm) a ∧ (spX D0 wo T nt cn cc stm) a ≤ 99999999 := fun a ha => by
    have := hpu a ha
    have := drX_in (v := vwC D0) (stm := stm) (ms := -1) hC (a := a) (by omega)
    unfold spX
    split <;> omega
  have main : ∀ D1 : Nat → Int → Int, MsX D0 wo T nt cn cc (-1) stm D1 → V G l (d + 5) iX12_clearsAll 4 [rf 210, (9, 0), (9, 0), (9, 0), (9, 0)] [] (K, D1, z) P := by
    intro D1 hM
    obtain ⟨m1, m2, m3⟩ := MsX_d hC hM
    have ow := hM.2.2.2.2.2.2.2.2
    have e72 : D1 272 = D0 272 := hM.1 272 (by decide) (by decide)
    have cB : ∀ (D2 : Nat → Int → Int) (p : Int → Int), (∀ a b : Nat, a < 12 → b < 12 → D2 273 (12 * a + b) = (ntX D0 wo T nt cn cc stm) a b) → (∀ a : Nat, a < 12 → D2 274 a = (alX D0 wo T nt cn cc stm) a) → (∀ a : Nat, a < 12 → D2 276 a = p a) → (∀ a : Nat, a < 12 → 0 ≤ p a ∧ p a ≤ (alX D0 wo T nt cn cc stm) a) → ClM D2 ∧ ∀ i : Nat, i < 12 → gtM D2 i 12 = gtP 12 (ntX D0 wo T nt cn cc stm) (alX D0 wo T nt cn cc stm) p i ∧ 0 ≤ gtP 12 (ntX D0 wo T nt cn cc stm) (alX D0 wo T nt cn cc stm) p i ∧ gtP 12 (ntX D0 wo T nt cn cc stm) (alX D0 wo T nt cn cc stm) p i ≤ 1439999760 := by
      intro D2 p g1 g2 g3 g4
      refine ⟨fun a ha => ⟨⟨by rw [g2 a ha, g3 a ha]; exact g4 a ha, by rw [g2 a ha]; have := (alX_in (stm := stm) hC (a := a) (by omega)).2; omega⟩, fun b hb => ?_⟩, fun i hi => ⟨sumF_congr fun j hj => by rw [g3 j hj, g1 j i hj hi, g2 j hj], sumF_nonneg fun j hj => (shF_in (g4 j hj) (ntX_in hC (by omega) (by omega)).1).1, ?_⟩⟩
      · rw [g1 a b ha hb]
        have := ntX_in (stm := stm) hC (a := a) (b := b) (by omega) (by omega)
        exact ⟨this.1, by omega⟩
      · exact Int.le_trans (sumF_le2 fun j hj => (shF_in (g4 j hj) (ntX_in hC (by omega) (by omega)).1).2) (clX_col hC (by omega))
    have fin : ∀ (D2 : Nat → Int → Int) (u1 u2 u3 u4 : aTV), (∀ r, (r < 273 ∨ 277 < r) → r ≠ 210 → D2 r = D1 r) → (∀ j : Int, j ≠ 83 → D2 210 j = D1 210 j) → (∀ a b : Nat, a < 12 → b < 12 → D2 273 (12 * a + b) = (ntX D0 wo T nt cn cc stm) a b) → (∀ a : Nat, a < 12 → D2 274 a = (alX D0 wo T nt cn cc stm) a ∧ D2 275 a = (spX D0 wo T nt cn cc stm) a) → D2 210 83 = (clM D0 wo T nt cn cc stm).1 → (∀ a : Nat, a < 12 → D2 276 a = (clM D0 wo T nt cn cc stm).2 a) → (∀ a : Nat, a < 12 → 0 ≤ (clM D0 wo T nt cn cc stm).2 a ∧ (clM D0 wo T nt cn cc stm).2 a ≤ (alX D0 wo T nt cn cc stm) a) → V G l (d + 5) iX12_clearsAll 266 [rf 210, u1, u2, u3, u4] [] (K, D2, z) P := by
      intro D2 u1 u2 u3 u4 f1 f2 f3 f4 f5 f6 f7
      obtain ⟨c1, c2⟩ := cB D2 (clM D0 wo T nt cn cc stm).2 f3 (fun a ha => (f4 a ha).1) f6 f7
      refine s_al0 rfl ?_
      refine s_callO rfl rfl (Or.inl rfl) rfl rfl (hk.at rfl rfl) (u_findGets hk c1 (fun D3 a1 a2 => ?_))
      show V G l (d + 5) iX12_clearsAll 270 [rf 210, u1, u2, u3, u4] [] (K, D3, z) P
      refine s_retv rfl rfl ?_
      refine kk D3 ⟨fun r q1 q2 => ?_, fun j q1 q2 q3 q4 q5 => ?_, by rw [a1 210 (by decide)]; exact f5, ⟨?_, ?_, ?_⟩, fun a ha => ⟨?_, ?_, ?_⟩⟩
      · rw [a1 r (by omega), f1 r (by omega) q1]; exact hM.1 r q1 (by omega)
      · rw [a1 210 (by decide), f2 j q5]; exact hM.2.1 j q1 q2 q3 q4
      · rw [a1 210 (by decide), f2 54 (by decide)]; exact m1
      · rw [a1 210 (by decide), f2 54 (by decide), a1 255 (by decide), f1 255 (by decide) (by decide)]
        intro e x q1 q2 q3
        exact (m2 e x q1 q2 q3).2
      · rw [a1 210 (by decide), f2 54 (by decide), a1 255 (by decide), f1 255 (by decide) (by decide)]; exact m3
      · rw [a1 274 (by decide)]; exact (f4 a ha).1
      · rw [a1 276 (by decide)]; exact f6 a ha
      · rw [a2 a ha]; exact (c2 a ha).1
    have loop : ∀ (f k : Nat) (D2 : Nat → Int → Int) (p : Int → Int) (c : Int) (u2 u3 u4 : aTV), k + f = 200 → (∀ r, (r < 273 ∨ 277 < r) → r ≠ 210 → D2 r = D1 r) → (∀ j : Int, j ≠ 83 → D2 210 j = D1 210 j) → (∀ a b : Nat, a < 12 → b < 12 → D2 273 (12 * a + b) = (ntX D0 wo T nt cn cc stm) a b) → (∀ a : Nat, a < 12 → D2 274 a = (alX D0 wo T nt cn cc stm) a ∧ D2 275 a = (spX D0 wo T nt cn cc stm) a) → D2 210 83 = k → (∀ a : Nat, a < 12 → D2 276 a = p a) → (∀ a : Nat, a < 12 → 0 ≤ p a ∧ p a ≤ (alX D0 wo T nt cn cc stm) a) → (clM D0 wo T nt cn cc stm) = (if c = 0 then (k, p) else clP 12 (ntX D0 wo T nt cn cc stm) (alX D0 wo T nt cn cc stm) (spX D0 wo T nt cn cc stm) f k p) → V G l (d + 5) iX12_clearsAll 155 [rf 210, (0, c), u2, u3, u4] [] (K, D2, z) P := by
      intro f
      induction f with
      | zero =>
        intro k D2 p c u2 u3 u4 hf f1 f2 f3 f4 f5 f6 f7 f8
        have hX : (clM D0 wo T nt cn cc stm) = (k, p) := by rw [f8]; split <;> rfl
        have hk2 : k = 200 := by omega
        refine s_il1 rfl ?_
        refine s_zeq rfl ?_ ?_
        · intro h156
          exact fin D2 _ _ _ _ f1 f2 f3 f4 (by rw [hX]; exact f5) (by rw [hX]; exact f6) (by rw [hX]; exact f7)
        · intro h156
          refine s_al0 rfl ?_
          refine s_gi rfl (hk.at rfl rfl) rfl ?_
          rw [f5]
          refine s_ic rfl ?_
          refine s_cge rfl ?_ ?_
          · intro h166
            exact fin D2 _ _ _ _ f1 f2 f3 f4 (by rw [hX]; exact f5) (by rw [hX]; exact f6) (by rw [hX]; exact f7)
          · intro h166
            omega
      | succ f ih =>
        intro k D2 p c u2 u3 u4 hf f1 f2 f3 f4 f5 f6 f7 f8
        refine s_il1 rfl ?_
        refine s_zeq rfl ?_ ?_
        · intro h156
          have hX : (clM D0 wo T nt cn cc stm) = (k, p) := by rw [f8, if_pos h156]
          exact fin D2 _ _ _ _ f1 f2 f3 f4 (by rw [hX]; exact f5) (by rw [hX]; exact f6) (by rw [hX]; exact f7)
        · intro h156
          refine s_al0 rfl ?_
          refine s_gi rfl (hk.at rfl rfl) rfl ?_
          rw [f5]
          refine s_ic rfl ?_
          refine s_cge rfl ?_ ?_
          · intro h166
            omega
          · intro h166
            refine s_al0 rfl ?_
            refine s_dup rfl (by decide) ?_
            refine s_gi rfl (hk.at rfl rfl) rfl ?_
            rw [f5]
            refine s_ic rfl ?_
            refine s_iadd rfl ⟨by omega, by omega⟩ ?_
            refine s_pi rfl (hk.at rfl rfl) rfl ?_
            refine s_al0 rfl ?_
            refine s_callO rfl rfl (Or.inl rfl) rfl rfl (hk.at rfl rfl) (u_findGets (D := aUp D2 210 83 ((k : Int) + 1)) hk (cB _ p (by rw [aUp_row (by decide)]; exact f3) (by rw [aUp_row (by decide)]; exact fun a ha => (f4 a ha).1) (by rw [aUp_row (by decide)]; exact f6) f7).1 (fun D3 a1 a2 => ?_))
            show V G l (d + 5) iX12_clearsAll 183 [rf 210, (0, c), u2, u3, u4] [] (K, D3, z) P
            obtain ⟨-, gg⟩ := cB (aUp D2 210 83 ((k : Int) + 1)) p (by rw [aUp_row (by decide)]; exact f3) (by rw [aUp_row (by decide)]; exact fun a ha => (f4 a ha).1) (by rw [aUp_row (by decide)]; exact f6) f7
            have b0 : ∀ r, r ≠ 210 → r ≠ 277 → D3 r = D2 r := fun r q1 q2 => by rw [a1 r q2, aUp_row q1]
            have b1 : ∀ j : Int, j ≠ 83 → D3 210 j = D2 210 j := fun j q => by rw [a1 210 (by decide), aUp_ne q]
            have b2 : D3 210 83 = ((k + 1 : Nat) : Int) := by rw [a1 210 (by decide), aUp_at]; rfl
            have b3 : ∀ i : Nat, i < 12 → D3 277 i = gtP 12 (ntX D0 wo T nt cn cc stm) (alX D0 wo T nt cn cc stm) p i := fun i hi => by rw [a2 i hi]; exact (gg i hi).1
            have hq : ∀ a : Nat, a < 12 → 0 ≤ prP 12 (ntX D0 wo T nt cn cc stm) (alX D0 wo T nt cn cc stm) (spX D0 wo T nt cn cc stm) p a ∧ prP 12 (ntX D0 wo T nt cn cc stm) (alX D0 wo T nt cn cc stm) (spX D0 wo T nt cn cc stm) p a ≤ (alX D0 wo T nt cn cc stm) a := fun a h => by
              have h1 := (gg a h).2.1
              have h2 := (spb a h).1
              have h3 := (alX_in (stm := stm) hC (a := a) (by omega)).1
              unfold prP
              split <;> omega
            have inner : ∀ (m i : Nat) (D4 : Nat → Int → Int) (u3 u4 : aTV), i + m = 12 → (∀ r, r ≠ 276 → D4 r = D3 r) → (∀ a : Nat, a < i → D4 276 a = prP 12 (ntX D0 wo T nt cn cc stm) (alX D0 wo T nt cn cc stm) (spX D0 wo T nt cn cc stm) p a) → (∀ a : Nat, i ≤ a → a < 12 → D4 276 a = p a) → V G l (d + 5) iX12_clearsAll 187 [rf 210, (0, if chB p (prP 12 (ntX D0 wo T nt cn cc stm) (alX D0 wo T nt cn cc stm) (spX D0 wo T nt cn cc stm) p) i = true then 1 else 0), (0, (i : Int)), u3, u4] [] (K, D4, z) P := by
              intro m
              induction m with
              | zero =>
                intro i D4 u3 u4 hm g1 g2 g3
                have hi : i = 12 := by omega
                subst hi
                refine s_il2 rfl ?_
                refine s_ic rfl ?_
                refine s_cge rfl ?_ ?_
                · intro h190
                  refine s_go rfl ?_
                  refine ih (k + 1) D4 (prP 12 (ntX D0 wo T nt cn cc stm) (alX D0 wo T nt cn cc stm) (spX D0 wo T nt cn cc stm) p) _ _ u3 u4 (by omega) (fun r q1 q2 => by rw [g1 r (by omega), b0 r q2 (by omega)]; exact f1 r q1 q2) (fun j q => by rw [g1 210 (by decide), b1 j q]; exact f2 j q) (fun a b ha hb => by rw [g1 273 (by decide), b0 273 (by decide) (by decide)]; exact f3 a b ha hb) (fun a ha => by rw [g1 274 (by decide), b0 274 (by decide) (by decide), g1 275 (by decide), b0 275 (by decide) (by decide)]; exact f4 a ha) (by rw [g1 210 (by decide)]; exact b2) g2 hq ?_
                  rw [f8, if_neg h156, clP]
                  by_cases y : chB p (prP 12 (ntX D0 wo T nt cn cc stm) (alX D0 wo T nt cn cc stm) (spX D0 wo T nt cn cc stm) p) 12 = true
                  · rw [if_pos y, if_pos y, if_neg (by decide)]
                  · rw [if_neg y, if_neg y, if_pos rfl]
                · intro h190
                  exact absurd h190 (by decide)
              | succ m ihm =>
                intro i D4 u3 u4 hm g1 g2 g3
                have w5 : D4 275 i = (spX D0 wo T nt cn cc stm) i := by rw [g1 275 (by decide), b0 275 (by decide) (by decide)]; exact (f4 i (by omega)).2
                have w4 : D4 274 i = (alX D0 wo T nt cn cc stm) i := by rw [g1 274 (by decide), b0 274 (by decide) (by decide)]; exact (f4 i (by omega)).1
                have w7 : D4 277 i = gtP 12 (ntX D0 wo T nt cn cc stm) (alX D0 wo T nt cn cc stm) p i := by rw [g1 277 (by decide)]; exact b3 i (by omega)
                have w6 := g3 i (Nat.le_refl _) (by omega)
                have q1 := spb i (by omega)
                have q2 := (gg i (by omega)).2
                have e : chB p (prP 12 (ntX D0 wo T nt cn cc stm) (alX D0 wo T nt cn cc stm) (spX D0 wo T nt cn cc stm) p) (i + 1) = (chB p (prP 12 (ntX D0 wo T nt cn cc stm) (alX D0 wo T nt cn cc stm) (spX D0 wo T nt cn cc stm) p) i || !decide (prP 12 (ntX D0 wo T nt cn cc stm) (alX D0 wo T nt cn cc stm) (spX D0 wo T nt cn cc stm) p i = p i)) := rfl
                have nx2 : ∀ x : Int, x = (if chB p (prP 12 (ntX D0 wo T nt cn cc stm) (alX D0 wo T nt cn cc stm) (spX D0 wo T nt cn cc stm) p) (i + 1) = true then 1 else 0) → V G l (d + 5) iX12_clearsAll 249 [rf 210, (0, if chB p (prP 12 (ntX D0 wo T nt cn cc stm) (alX D0 wo T nt cn cc stm) (spX D0 wo T nt cn cc stm) p) i = true then 1 else 0), (0, (i : Int)), (1, prP 12 (ntX D0 wo T nt cn cc stm) (alX D0 wo T nt cn cc stm) (spX D0 wo T nt cn cc stm) p i), (9, 0)] [(0, x)] (K, D4, z) P := by
                  intro x hx
                  subst hx
                  refine s_is1 rfl rfl ?_
                  refine s_al0 rfl ?_
                  refine s_gf rfl (hk.at rfl rfl) rfl rfl ?_
                  refine s_il2 rfl ?_
                  refine s_ll3 rfl ?_
                  refine s_last rfl (hk.at rfl rfl) (by omega) ?_
                  refine s_iinc2 rfl rfl ⟨by omega, by omega⟩ ?_
                  refine s_go rfl ?_
                  refine ihm (i + 1) _ _ _ (by omega) (fun r q => by rw [aUp_row q]; exact g1 r q) (fun a ha => ?_) (fun a h1 h2 => by rw [aUp_same, uF_ne (by omega)]; exact g3 a (by omega) h2)
                  rw [aUp_same]
                  rcases (by omega : a < i ∨ a = i) with y | y
                  · rw [uF_ne (by omega)]; exact g2 a y
                  · subst y; rw [uF_at]
                have nx : ∀ x : Int, x = prP 12 (ntX D0 wo T nt cn cc stm) (alX D0 wo T nt cn cc stm) (spX D0 wo T nt cn cc stm) p i → V G l (d + 5) iX12_clearsAll 228 [rf 210, (0, if chB p (prP 12 (ntX D0 wo T nt cn cc stm) (alX D0 wo T nt cn cc stm) (spX D0 wo T nt cn cc stm) p) i = true then 1 else 0), (0, (i : Int)), (1, (spX D0 wo T nt cn cc stm) i + gtP 12 (ntX D0 wo T nt cn cc stm) (alX D0 wo T nt cn cc stm) p i), (9, 0)] [(1, x)] (K, D4, z) P := by
                  intro x hx
                  subst hx
                  refine s_ls3 rfl rfl ?_
                  refine s_il1 rfl ?_
                  refine s_zne rfl ?_ ?_
                  · intro h230
                    have c1 : chB p (prP 12 (ntX D0 wo T nt cn cc stm) (alX D0 wo T nt cn cc stm) (spX D0 wo T nt cn cc stm) p) i = true := Decidable.byContradiction fun q => h230 (if_neg q)
                    refine s_ic rfl ?_
                    refine s_go rfl ?_
                    refine nx2 _ ?_
                    rw [e]
                    first | (rw [c1]; rfl) | (rw [Bool.eq_false_iff.mpr c0, decide_eq_true c2]; rfl) | (rw [Bool.eq_false_iff.mpr c0, decide_eq_false c2]; rfl)
                  · intro h230
                    have c0 : ¬ chB p (prP 12 (ntX D0 wo T nt cn cc stm) (alX D0 wo T nt cn cc stm) (spX D0 wo T nt cn cc stm) p) i = true := fun q => by rw [if_pos q] at h230; omega
                    refine s_ll3 rfl ?_
                    refine s_al0 rfl ?_
                    refine s_gf rfl (hk.at rfl rfl) rfl rfl ?_
                    refine s_il2 rfl ?_
                    refine s_lald rfl (hk.at rfl rfl) (by omega) ?_
                    rw [w6]
                    refine s_lcmp rfl ?_
                    refine s_zeq rfl ?_ ?_
                    · intro h241
                      have c2 := cmp3_eq.mp h241
                      refine s_ic rfl ?_
                      refine nx2 _ ?_
                      rw [e]
                      first | (rw [c1]; rfl) | (rw [Bool.eq_false_iff.mpr c0, decide_eq_true c2]; rfl) | (rw [Bool.eq_false_iff.mpr c0, decide_eq_false c2]; rfl)
                    · intro h241
                      have c2 : ¬ prP 12 (ntX D0 wo T nt cn cc stm) (alX D0 wo T nt cn cc stm) (spX D0 wo T nt cn cc stm) p i = p i := fun q => h241 (cmp3_eq.mpr q)
                      refine s_ic rfl ?_
                      refine s_go rfl ?_
                      refine nx2 _ ?_
                      rw [e]
                      first | (rw [c1]; rfl) | (rw [Bool.eq_false_iff.mpr c0, decide_eq_true c2]; rfl) | (rw [Bool.eq_false_iff.mpr c0, decide_eq_false c2]; rfl)
                refine s_il2 rfl ?_
                refine s_ic rfl ?_
                refine s_cge rfl ?_ ?_
                · intro h190
                  omega
                · intro h190
                  refine s_al0 rfl ?_
                  refine s_gf rfl (hk.at rfl rfl) rfl rfl ?_
                  refine s_il2 rfl ?_
                  refine s_lald rfl (hk.at rfl rfl) (by omega) ?_
                  rw [w5]
                  refine s_al0 rfl ?_
                  refine s_gf rfl (hk.at rfl rfl) rfl rfl ?_
                  refine s_il2 rfl ?_
                  refine s_lald rfl (hk.at rfl rfl) (by omega) ?_
                  rw [w7]
                  refine s_ladd rfl ⟨by omega, by omega⟩ ?_
                  refine s_ls3 rfl rfl ?_
                  refine s_ll3 rfl ?_
                  refine s_al0 rfl ?_
                  refine s_gf rfl (hk.at rfl rfl) rfl rfl ?_
                  refine s_il2 rfl ?_
                  refine s_lald rfl (hk.at rfl rfl) (by omega) ?_
                  rw [w4]
                  refine s_lcmp rfl ?_
                  refine s_zle rfl ?_ ?_
                  · intro h215
                    have n1 := cmp3_le.mp h215
                    refine s_ll3 rfl ?_
                    exact nx _ (by unfold prP; split <;> omega)
                  · intro h215
                    have n1 := cmp3_gt.mp h215
                    refine s_al0 rfl ?_
                    refine s_gf rfl (hk.at rfl rfl) rfl rfl ?_
                    refine s_il2 rfl ?_
                    refine s_lald rfl (hk.at rfl rfl) (by omega) ?_
                    rw [w4]
                    refine s_go rfl ?_
                    exact nx _ (by unfold prP; split <;> omega)
            refine s_ic rfl ?_
            refine s_is1 rfl rfl ?_
            refine s_ic rfl ?_
            refine s_is2 rfl rfl ?_
            exact inner 12 0 D3 _ _ rfl (fun _ _ => rfl) (fun a ha => absurd ha (Nat.not_lt_zero a)) (fun a _ h2 => by rw [b0 276 (by decide) (by decide)]; exact f6 a h2)
    have start : ∀ (m i : Nat) (D2 : Nat → Int → Int) (u2 u3 u4 : aTV), i + m = 12 → (∀ r, (r < 273 ∨ 276 < r) → D2 r = D1 r) → (∀ a b : Nat, a < i → b < 12 → D2 273 (12 * a + b) = (ntX D0 wo T nt cn cc stm) a b) → (∀ a : Nat, a < i → D2 274 a = (alX D0 wo T nt cn cc stm) a ∧ D2 275 a = (spX D0 wo T nt cn cc stm) a ∧ D2 276 a = (alX D0 wo T nt cn cc stm) a) → V G l (d + 5) iX12_clearsAll 6 [rf 210, (0, (i : Int)), u2, u3, u4] [] (K, D2, z) P := by
      intro m
      induction m with
      | zero =>
        intro i D2 u2 u3 u4 hm f1 f2 f3
        have hi : i = 12 := by omega
        subst hi
        refine s_il1 rfl ?_
        refine s_ic rfl ?_
        refine s_cge rfl ?_ ?_
        · intro h9
          refine s_al0 rfl ?_
          refine s_ic rfl ?_
          refine s_pi rfl (hk.at rfl rfl) rfl ?_
          refine s_ic rfl ?_
          refine s_is1 rfl rfl ?_
          exact loop 200 0 _ (alX D0 wo T nt cn cc stm) 1 _ _ _ rfl (fun r q1 q2 => by rw [aUp_row q2]; exact f1 r (by omega)) (fun j q => by rw [aUp_ne q, f1 210 (by omega)]) (by rw [aUp_row (by decide)]; exact f2) (by rw [aUp_row (by decide), aUp_row (by decide)]; exact fun a ha => ⟨(f3 a ha).1, (f3 a ha).2.1⟩) (by rw [aUp_at]; rfl) (by rw [aUp_row (by decide)]; exact fun a ha => (f3 a ha).2.2) (fun a ha => ⟨(alX_in hC (by omega)).1, Int.le_refl _⟩) (by rw [if_neg (by decide)]; rfl)
        · intro h9
          exact absurd h9 (by decide)
      | succ m ih =>
        intro i D2 u2 u3 u4 hm f1 f2 f3
        have inner : ∀ (n j : Nat) (D3 : Nat → Int → Int) (u3 u4 : aTV), j + n = 12 → (∀ r, (r < 273 ∨ 274 < r) → D3 r = D2 r) → (∀ a b : Nat, a < i → b < 12 → D3 273 (12 * a + b) = (ntX D0 wo T nt cn cc stm) a b) → (∀ b : Nat, b < j → D3 273 (12 * i + b) = (ntX D0 wo T nt cn cc stm) i b) → D3 274 = uF (D2 274) i (sumF (fun b : Nat => (ntX D0 wo T nt cn cc stm) i b) j) → V G l (d + 5) iX12_clearsAll 21 [rf 210, (0, (i : Int)), (0, (j : Int)), u3, u4] [] (K, D3, z) P := by
          intro n
          induction n with
          | zero =>
            intro j D3 u3 u4 hj g1 g2 g3 g4
            have hj2 : j = 12 := by omega
            subst hj2
            have g4' : D3 274 = uF (D2 274) i ((alX D0 wo T nt cn cc stm) i) := g4
            have w72 : D3 272 i = D0 272 i := by rw [g1 272 (by omega), f1 272 (by omega), e72]
            have hpi := hpu i (by omega)
            have hdi := drX_in (v := vwC D0) (stm := stm) (ms := -1) hC (a := i) (by omega)
            have nx : ∀ x : Int, x = (spX D0 wo T nt cn cc stm) i → V G l (d + 5) iX12_clearsAll 129 [rf 210, (0, (i : Int)), (1, D0 272 i - drX D0 wo T (vwC D0) stm (-1) i), (9, 0), u4] [(1, x), (0, (i : Int)), rf 275] (K, D3, z) P := by
              intro x hx
              subst hx
              refine s_last rfl (hk.at rfl rfl) (by omega) ?_
              refine s_al0 rfl ?_
              refine s_gf rfl (hk.at rfl rfl) rfl rfl ?_
              refine s_il1 rfl ?_
              refine s_al0 rfl ?_
              refine s_gf rfl (hk.at rfl rfl) rfl rfl ?_
              refine s_il1 rfl ?_
              refine s_lald rfl (hk.at rfl rfl) (by omega) ?_
              rw [aUp_row (by decide), g4', uF_at]
              refine s_last rfl (hk.at rfl rfl) (by omega) ?_
              refine s_iinc1 rfl rfl ⟨by omega, by omega⟩ ?_
              refine s_go rfl ?_
              refine ih (i + 1) _ _ _ _ (by omega) (fun r q => by rw [aUp_row (by omega), aUp_row (by omega), g1 r (by omega)]; exact f1 r q) (fun a b ha hb => ?_) (fun a ha => ?_)
              · rw [aUp_row (by decide), aUp_row (by decide)]
                rcases (by omega : a < i ∨ a = i) with y | y
                · exact g2 a b y hb
                · subst y; exact g3 b hb
              · rw [aUp_row (by decide), aUp_row (by decide), aUp_row (by decide), aUp_same, aUp_same, g4', aUp_row (by decide), g1 275 (by omega), g1 276 (by omega)]
                rcases (by omega : a < i ∨ a = i) with y | y
                · rw [uF_ne (by omega), uF_ne (by omega), uF_ne (by omega)]; exact f3 a y
                · subst y; rw [uF_at, uF_at, uF_at]; exact ⟨rfl, rfl, rfl⟩
            refine s_il2 rfl ?_
            refine s_ic rfl ?_
            refine s_cge rfl ?_ ?_
            · intro h24
              refine s_al0 rfl ?_
              refine s_gf rfl (hk.at rfl rfl) rfl rfl ?_
              refine s_il1 rfl ?_
              refine s_iald rfl (hk.at rfl rfl) (by omega) ?_
              rw [w72]
              refine s_i2l rfl ?_
              refine s_al0 rfl ?_
              refine s_il1 rfl ?_
              refine s_callO rfl rfl (Or.inl rfl) rfl rfl (hk.at rfl rfl) (u_directOf hk (by omega) (by rw [g1 210 (by omega), f1 210 (by omega)]; exact m1) (fun e he => by rw [g1 255 (by omega), f1 255 (by omega)]; rw [g1 210 (by omega), f1 210 (by omega)] at he; exact (m2 e i he (by omega) (by omega)).2) ?_)
              rw [g1 255 (by omega), f1 255 (by omega), g1 210 (by omega), f1 210 (by omega), m3 i (by omega) (by omega)]
              show V G l (d + 5) iX12_clearsAll 111 [rf 210, (0, (i : Int)), (0, ((12 : Nat) : Int)), u3, u4] [(1, drX D0 wo T (vwC D0) stm (-1) i), (1, D0 272 i)] (K, D3, z) P
              refine s_lsub rfl ⟨by omega, by omega⟩ ?_
              refine s_ls2 rfl rfl ?_
              refine s_al0 rfl ?_
              refine s_gf rfl (hk.at rfl rfl) rfl rfl ?_
              refine s_il1 rfl ?_
              refine s_ll2 rfl ?_
              refine s_lc rfl ?_
              refine s_lcmp rfl ?_
              refine s_zge rfl ?_ ?_
              · intro h121
                have n1 := cmp3_ge.mp h121
                refine s_ll2 rfl ?_
                exact nx _ (by unfold spX; split <;> omega)
              · intro h121
                have n1 := cmp3_lt.mp h121
                refine s_lc rfl ?_
                refine s_go rfl ?_
                exact nx _ (by unfold spX; split <;> omega)
            · intro h24
              exact absurd h24 (by decide)
          | succ n ihn =>
            intro j D3 u3 u4 hj g1 g2 g3 g4
            have w1 : D3 267 (12 * i + j) = owX D0 wo T nt cn cc (vwC D0) stm (-1) i j := by rw [g1 267 (by omega), f1 267 (by omega)]; exact ow i j (by omega) (by omega) (by omega) (by omega)
            have w2 : D3 267 (12 * j + i) = owX D0 wo T nt cn cc (vwC D0) stm (-1) j i := by rw [g1 267 (by omega), f1 267 (by omega)]; exact ow j i (by omega) (by omega) (by omega) (by omega)
            have o1 := owX_in (a := i) (b := j) (v := vwC D0) (stm := stm) (ms := -1) hC (by omega)
            have o2 := owX_in (a := j) (b := i) (v := vwC D0) (stm := stm) (ms := -1) hC (by omega)
            have s0 : 0 ≤ sumF (fun b : Nat => (ntX D0 wo T nt cn cc stm) i b) j := sumF_nonneg fun b hb => (ntX_in hC (by omega) (by omega)).1
            have s1 : sumF (fun b : Nat => (ntX D0 wo T nt cn cc stm) i b) j ≤ j * 1600000000 := sumF_le fun b hb => (ntX_in hC (by omega) (by omega)).2.2
            have s2 := ntX_in (stm := stm) hC (a := i) (b := j) (by omega) (by omega)
            have nx : ∀ x : Int, x = (ntX D0 wo T nt cn cc stm) i j → V G l (d + 5) iX12_clearsAll 72 [rf 210, (0, (i : Int)), (0, (j : Int)), (1, owX D0 wo T nt cn cc (vwC D0) stm (-1) i j - owX D0 wo T nt cn cc (vwC D0) stm (-1) j i), (9, 0)] [(1, x), (0, 12 * (i : Int) + j), rf 273] (K, D3, z) P := by
              intro x hx
              subst hx
              refine s_last rfl (hk.at rfl rfl) (by omega) ?_
              refine s_al0 rfl ?_
              refine s_gf rfl (hk.at rfl rfl) rfl rfl ?_
              refine s_il1 rfl ?_
              refine s_dup2 rfl rfl rfl ?_
              refine s_lald rfl (hk.at rfl rfl) (by omega) ?_
              rw [aUp_row (by decide), g4, uF_at]
              refine s_al0 rfl ?_
              refine s_gf rfl (hk.at rfl rfl) rfl rfl ?_
              refine s_ic rfl ?_
              refine s_il1 rfl ?_
              refine s_imul rfl ⟨by omega, by omega⟩ ?_
              refine s_il2 rfl ?_
              refine s_iadd rfl ⟨by omega, by omega⟩ ?_
              refine s_lald rfl (hk.at rfl rfl) (by omega) ?_
              rw [aUp_at]
              refine s_ladd rfl ⟨by omega, by omega⟩ ?_
              refine s_last rfl (hk.at rfl rfl) (by omega) ?_
              refine s_iinc2 rfl rfl ⟨by omega, by omega⟩ ?_
              refine s_go rfl ?_
              refine ihn (j + 1) _ _ _ (by omega) (fun r q => by rw [aUp_row (by omega), aUp_row (by omega)]; exact g1 r q) (fun a b ha hb => by rw [aUp_row (by decide), aUp_same, uF_ne (by omega)]; exact g2 a b ha hb) (fun b hb => ?_) (by rw [aUp_same, aUp_row (by decide), g4, uF_uF]; rfl)
              rw [aUp_row (by decide), aUp_same]
              rcases (by omega : b < j ∨ b = j) with y | y
              · rw [uF_ne (by omega)]; exact g3 b y
              · subst y; rw [uF_at]
            refine s_il2 rfl ?_
            refine s_ic rfl ?_
            refine s_cge rfl ?_ ?_
            · intro h24
              omega
            · intro h24
              refine s_al0 rfl ?_
              refine s_gf rfl (hk.at rfl rfl) rfl rfl ?_
              refine s_ic rfl ?_
              refine s_il1 rfl ?_
              refine s_imul rfl ⟨by omega, by omega⟩ ?_
              refine s_il2 rfl ?_
              refine s_iadd rfl ⟨by omega, by omega⟩ ?_
              refine s_lald rfl (hk.at rfl rfl) (by omega) ?_
              rw [w1]
              refine s_al0 rfl ?_
              refine s_gf rfl (hk.at rfl rfl) rfl rfl ?_
              refine s_ic rfl ?_
              refine s_il2 rfl ?_
              refine s_imul rfl ⟨by omega, by omega⟩ ?_
              refine s_il1 rfl ?_
              refine s_iadd rfl ⟨by omega, by omega⟩ ?_
              refine s_lald rfl (hk.at rfl rfl) (by omega) ?_
              rw [w2]
              refine s_lsub rfl ⟨by omega, by omega⟩ ?_
              refine s_ls3 rfl rfl ?_
              refine s_al0 rfl ?_
              refine s_gf rfl (hk.at rfl rfl) rfl rfl ?_
              refine s_ic rfl ?_
              refine s_il1 rfl ?_
              refine s_imul rfl ⟨by omega, by omega⟩ ?_
              refine s_il2 rfl ?_
              refine s_iadd rfl ⟨by omega, by omega⟩ ?_
              refine s_ll3 rfl ?_
              refine s_lc rfl ?_
              refine s_lcmp rfl ?_
              refine s_zge rfl ?_ ?_
              · intro h64
                have n1 := cmp3_ge.mp h64
                refine s_ll3 rfl ?_
                exact nx _ (by unfold ntX; split <;> omega)
              · intro h64
                have n1 := cmp3_lt.mp h64
                refine s_lc rfl ?_
                refine s_go rfl ?_
                exact nx _ (by unfold ntX; split <;> omega)
        refine s_il1 rfl ?_
        refine s_ic rfl ?_
        refine s_cge rfl ?_ ?_
        · intro h9
          omega
        · intro h9
          refine s_al0 rfl ?_
          refine s_gf rfl (hk.at rfl rfl) rfl rfl ?_
          refine s_il1 rfl ?_
          refine s_lc rfl ?_
          refine s_last rfl (hk.at rfl rfl) (by omega) ?_
          refine s_ic rfl ?_
          refine s_is2 rfl rfl ?_
          exact inner 12 0 _ _ _ rfl (fun r q => aUp_row (by omega)) (fun a b ha hb => by rw [aUp_row (by decide)]; exact f2 a b ha hb) (fun b hb => absurd hb (Nat.not_lt_zero b)) (by rw [aUp_same]; rfl)
    refine s_ic rfl ?_
    refine s_is1 rfl rfl ?_
    exact start 12 0 D1 _ _ _ rfl (fun _ _ => rfl) (fun a b ha => absurd ha (Nat.not_lt_zero a)) (fun a ha => absurd ha (Nat.not_lt_zero a))
  refine VM_go (tg2 rfl) (Nat.le_of_ble_eq_true rfl) ?_
  refine s_al0 rfl ?_
  refine s_callO rfl rfl (Or.inl rfl) rfl rfl (hk.at rfl rfl) (u_settlesAll (d := d) hk hC hP hst (fun D1 hM => ?_))
  exact main D1 hM
end
