/-! ===== gather: the class ===== -/
def dF (hs a : Int → Int) (nl : Nat) (jo : Int → Int) (e h : Int) : Int := sumF (fun k : Nat => if jo k = e ∧ hs k = h then a k else 0) nl
theorem dF_uF {hs a jo : Int → Int} {nl : Nat} {lo e' e h : Int} (h0 : 0 ≤ lo ∧ lo < nl) (hj : jo lo = -1) (he : 0 ≤ e) : dF hs a nl (uF jo lo e') e h = dF hs a nl jo e h + (if e' = e ∧ hs lo = h then a lo else 0) := by
  unfold dF
  have e1 := sumF_one (x := if e' = e ∧ hs lo = h then a lo else 0) (a := lo.toNat) (n := nl) (by omega)
  rw [← e1, ← sumF_add]
  refine sumF_congr fun k _ => ?_
  by_cases hk : (k : Int) = lo
  · rw [if_pos (show k = lo.toNat by omega), hk, uF_at, hj, if_neg (fun q : -1 = e ∧ _ => by omega), Int.zero_add]
  · rw [if_neg (show ¬ k = lo.toNat by omega), uF_ne hk, Int.add_zero]
theorem dF_none {hs a jo : Int → Int} {nl : Nat} {e h : Int} (hj : ∀ k : Nat, k < nl → jo k ≠ e) : dF hs a nl jo e h = 0 := by
  unfold dF
  rw [sumF_congr (g := fun _ => 0) (fun k hk => if_neg (fun q => hj k hk q.1)), sumF_zero]
theorem dF_in {hs a jo : Int → Int} {nl : Nat} {e h : Int} (hn : nl ≤ 60) (ha : ∀ k : Nat, k < nl → jo k = e → 0 ≤ a k ∧ a k ≤ 100000) : 0 ≤ dF hs a nl jo e h ∧ dF hs a nl jo e h ≤ 6000000 := by
  unfold dF
  have h1 := sumF_nonneg (f := fun k : Nat => if jo k = e ∧ hs k = h then a k else 0) (n := nl) (fun k hk => by
    split
    · rename_i q; exact (ha k hk q.1).1
    · exact Int.le_refl 0)
  have h2 := sumF_le (f := fun k : Nat => if jo k = e ∧ hs k = h then a k else 0) (n := nl) (c := 100000) (fun k hk => by
    split
    · rename_i q; exact (ha k hk q.1).2
    · decide)
  omega
/-- the losses by their hours, by their numbers -/
def OrdC (D : Nat → Int → Int) : Prop := (∀ i j : Nat, i < j → (j : Int) < D 89 0 → D 91 (D 96 i) * 60 + D 96 i < D 91 (D 96 j) * 60 + D 96 j) ∧ (∀ i : Nat, (i : Int) < D 89 0 → 0 ≤ D 96 i ∧ D 96 i < D 89 0) ∧ ∀ q : Int, 0 ≤ q → q < D 89 0 → ∃ i : Nat, (i : Int) < D 89 0 ∧ D 96 i = q
abbrev amC (D : Nat → Int → Int) (wo : Int → Int) (v : Int) : Int → Int := fun q => amF wo (D 98) (D 99) q v (D 89 1).toNat
def cntC (D : Nat → Int → Int) (wo : Int → Int) (T : Nat) (v stm : Int) (q : Int) : Bool := decide (0 < amC D wo v q ∧ D 90 q < D T 0 ∧ bAnd (bShr stm (D 94 q)) 1 = 1)
abbrev xsC (D : Nat → Int → Int) (wo : Int → Int) (T : Nat) (v stm : Int) (i : Nat) : List Int := (rowL (D 96) i).filter (cntC D wo T v stm)
abbrev evC (D : Nat → Int → Int) (T : Nat) (ms : Int) (xs : List Int) : ES := EV (D 91) (D 92) (D 93) (D 95) (D (T + 4)) (D (T + 5)) ms xs
/-- behind i losses of the order: the events E, c losses counted -/
def GaM (D0 : Nat → Int → Int) (wo : Int → Int) (v : Int) (i : Nat) (E : ES) (c : Nat) (D : Nat → Int → Int) : Prop :=
  (∀ r : Nat, r < 111 ∨ 115 < r → D r = D0 r) ∧ D 111 1 = E.1 ∧ D 111 2 = c ∧ (∀ j : Nat, j < i → D 112 (D0 96 j) = E.2.2.1 (D0 96 j)) ∧
  ∀ e : Nat, e < E.1 → D 113 e = E.2.1 e ∧ D 114 e = E.2.2.2 e ∧ ∀ h : Int, 0 ≤ h → h < 12 → D 115 (e * 12 + h) = dF (D0 90) (amC D0 wo v) (D0 89 0).toNat E.2.2.1 e h
theorem ChR.of {D D1 : Nat → Int → Int} {wo : Int → Int} (h : ChR D wo) (e1 : D1 89 = D 89) (e2 : D1 97 = D 97) (e3 : D1 100 = D 100) : ChR D1 wo := by unfold ChR at h ⊢; rw [e1, e2, e3]; exact h
theorem BkB.of {D D1 : Nat → Int → Int} (h : BkB D) (g : ∀ r : Nat, 89 ≤ r → r ≤ 99 → D1 r = D r) : BkB D1 := by
  unfold BkB at h ⊢
  rw [g 89 (by decide) (by decide), g 90 (by decide) (by decide), g 91 (by decide) (by decide), g 92 (by decide) (by decide), g 93 (by decide) (by decide), g 94 (by decide) (by decide), g 95 (by decide) (by decide), g 99 (by decide) (by decide)]
  exact h
theorem xsC_mem {D : Nat → Int → Int} {wo : Int → Int} {T : Nat} {v stm q : Int} {i : Nat} : q ∈ xsC D wo T v stm i ↔ (∃ j : Nat, j < i ∧ D 96 j = q) ∧ cntC D wo T v stm q = true := by
  unfold xsC
  rw [List.mem_filter, rowL_mem]
theorem xsC_sorted {D : Nat → Int → Int} {wo : Int → Int} {T : Nat} {v stm : Int} {i : Nat} (h : OrdC D) (hi : (i : Int) ≤ D 89 0) : (xsC D wo T v stm i).Pairwise (fun a b => D 91 a * 60 + a < D 91 b * 60 + b) :=
  (rowL_sorted (κ := fun q => D 91 q * 60 + q) (fun a b h1 h2 => h.1 a b h1 (by omega))).filter _
theorem xsC_nodup {D : Nat → Int → Int} {wo : Int → Int} {T : Nat} {v stm : Int} {i : Nat} (h : OrdC D) (hi : (i : Int) ≤ D 89 0) : (xsC D wo T v stm i).Nodup := sorted_nodup (κ := fun q => D 91 q * 60 + q) (xsC_sorted h hi)
theorem xsC_len {D : Nat → Int → Int} {wo : Int → Int} {T : Nat} {v stm : Int} {i : Nat} : (xsC D wo T v stm i).length ≤ i := by
  have h1 := List.length_filter_le (cntC D wo T v stm) (rowL (D 96) i)
  rw [rowL_len] at h1
  exact h1
theorem xsC_yes {D : Nat → Int → Int} {wo : Int → Int} {T : Nat} {v stm : Int} {i : Nat} (h : cntC D wo T v stm (D 96 i) = true) : xsC D wo T v stm (i + 1) = xsC D wo T v stm i ++ [D 96 i] := by
  unfold xsC
  rw [rowL_succ, List.filter_append]
  simp [h]
theorem xsC_no {D : Nat → Int → Int} {wo : Int → Int} {T : Nat} {v stm : Int} {i : Nat} (h : cntC D wo T v stm (D 96 i) = false) : xsC D wo T v stm (i + 1) = xsC D wo T v stm i := by
  unfold xsC
  rw [rowL_succ, List.filter_append]
  simp [h]
section
variable {G : aCX} {l : Launch} {d : Nat} {K : Nat → aKd} {D : Nat → Int → Int} {z : Nat × Nat} {P : Int → aSt → Prop}
theorem v_gather {T : Nat} {v stm ms : Int} {wo : Int → Int} {D0 : Nat → Int → Int} (hk : Kn K) (hT : isT T) (hc : ChR D0 wo) (hb : BkB D0) (hO : OrdC D0) (kk : ∀ D, GaM D0 wo v (D0 89 0).toNat (evC D0 T ms (xsC D0 wo T v stm (D0 89 0).toNat)) (xsC D0 wo T v stm (D0 89 0).toNat).length D → P 0 (K, D, z)) : VM G l (d + 1) iX2_gather [rf 111, rf T, (0, v), (0, stm), (0, ms)] (K, D0, z) P := by
  have n0 := hc.2.2.2.2.1
  have n60 := hc.2.2.2.2.2
  have loop : ∀ (n i : Nat) (D : Nat → Int → Int) (u6 u7 u8 u9 u10 : aTV), i + n = (D0 89 0).toNat → GaM D0 wo v i (evC D0 T ms (xsC D0 wo T v stm i)) (xsC D0 wo T v stm i).length D → Nat.beq u6.1 1 = false → Nat.beq u7.1 1 = false → Nat.beq u8.1 1 = false → Nat.beq u9.1 1 = false → V G l (d + 1) iX2_gather 13 [rf 111, rf T, (0, v), (0, stm), (0, ms), (0, (i : Int)), u6, u7, u8, u9, u10] [] (K, D, z) P := by
    intro n
    induction n with
    | zero =>
      intro i D u6 u7 u8 u9 u10 h1 hG t6 t7 t8 t9
      have hi : i = (D0 89 0).toNat := by omega
      have g89 : D 89 = D0 89 := hG.1 89 (Or.inl (by decide))
      have g90 : D 90 = D0 90 := hG.1 90 (Or.inl (by decide))
      have g91 : D 91 = D0 91 := hG.1 91 (Or.inl (by decide))
      have g92 : D 92 = D0 92 := hG.1 92 (Or.inl (by decide))
      have g93 : D 93 = D0 93 := hG.1 93 (Or.inl (by decide))
      have g94 : D 94 = D0 94 := hG.1 94 (Or.inl (by decide))
      have g95 : D 95 = D0 95 := hG.1 95 (Or.inl (by decide))
      have g96 : D 96 = D0 96 := hG.1 96 (Or.inl (by decide))
      have g97 : D 97 = D0 97 := hG.1 97 (Or.inl (by decide))
      have g98 : D 98 = D0 98 := hG.1 98 (Or.inl (by decide))
      have g99 : D 99 = D0 99 := hG.1 99 (Or.inl (by decide))
      have g100 : D 100 = D0 100 := hG.1 100 (Or.inl (by decide))
      have gT : D T = D0 T := hG.1 T (by rcases hT with rfl | rfl <;> decide)
      have gT4 : D (T + 4) = D0 (T + 4) := hG.1 _ (by rcases hT with rfl | rfl <;> decide)
      have gT5 : D (T + 5) = D0 (T + 5) := hG.1 _ (by rcases hT with rfl | rfl <;> decide)
      refine s_il5 rfl ?_
      refine s_al0 rfl ?_
      refine s_gf rfl (hk.at rfl rfl) rfl rfl ?_
      refine s_gi rfl (hk.at rfl rfl) rfl ?_
      simp only [g89, g90, g91, g92, g93, g94, g95, g96, g97, g98, g99, g100, gT]
      refine s_cge rfl ?_ ?_
      · intro h22
        refine s_retv rfl rfl ?_
        exact kk D (hi ▸ hG)
      · intro h22
        omega
    | succ n ih =>
      intro i D u6 u7 u8 u9 u10 h1 hG t6 t7 t8 t9
      have hir := hO.2.1 i (by omega)
      obtain ⟨p1, p2, p3, p4, p5, p6⟩ := hb.1 _ hir.1 hir.2
      have hnd := xsC_nodup (wo := wo) (T := T) (v := v) (stm := stm) hO (i := i) (by omega)
      have hEv : evInv (xsC D0 wo T v stm i) (evC D0 T ms (xsC D0 wo T v stm i)) := EV_inv hnd
      have hlen := xsC_len (D := D0) (wo := wo) (T := T) (v := v) (stm := stm) (i := i)
      have hnot : D0 96 i ∉ xsC D0 wo T v stm i := fun q => by
        obtain ⟨⟨j, hj, e⟩, -⟩ := xsC_mem.mp q
        have := hO.1 j i hj (by omega)
        rw [e] at this
        omega
      have hinj : ∀ j : Nat, j < i → D0 96 j ≠ D0 96 i := fun j hj e => by
        have := hO.1 j i hj (by omega)
        rw [e] at this
        omega
      have tail : ∀ (D : Nat → Int → Int) (u6 u7 u8 u9 u10 : aTV), GaM D0 wo v (i + 1) (evC D0 T ms (xsC D0 wo T v stm (i + 1))) (xsC D0 wo T v stm (i + 1)).length D → Nat.beq u6.1 1 = false → Nat.beq u7.1 1 = false → Nat.beq u8.1 1 = false → Nat.beq u9.1 1 = false → V G l (d + 1) iX2_gather 183 [rf 111, rf T, (0, v), (0, stm), (0, ms), (0, (i : Int)), u6, u7, u8, u9, u10] [] (K, D, z) P := by
        intro D u6 u7 u8 u9 u10 hG t6 t7 t8 t9
        refine s_iinc5 rfl rfl ⟨by omega, by omega⟩ ?_
        refine s_go rfl ?_
        exact ih (i + 1) D _ _ _ _ _ (by omega) hG t6 t7 t8 t9
      generalize hq : D0 96 i = q at *
      have hjo : (evC D0 T ms (xsC D0 wo T v stm i)).2.2.1 q = -1 := hEv.2.2.1 q hnot
      have hE60 : (evC D0 T ms (xsC D0 wo T v stm i)).1 ≤ i := Nat.le_trans hEv.1 hlen
      generalize hE : evC D0 T ms (xsC D0 wo T v stm i) = E at *
      have joinTo : ∀ (D : Nat → Int → Int) (E' : ES) (e : Nat) (am : Int) (u7 u9 u10 : aTV), GaM D0 wo v i E' (xsC D0 wo T v stm i).length D → e < E'.1 → E'.1 ≤ 60 → E'.2.2.1 = E.2.2.1 → (∀ k : Nat, k < E'.1 → 0 ≤ E'.2.2.2 k ∧ E'.2.2.2 k ≤ 60) → am = amC D0 wo v q → cntC D0 wo T v stm q = true → evC D0 T ms (xsC D0 wo T v stm (i + 1)) = evJoin q e E' → Nat.beq u7.1 1 = false → Nat.beq u9.1 1 = false → V G l (d + 1) iX2_gather 176 [rf 111, rf T, (0, v), (0, stm), (0, ms), (0, (i : Int)), (0, q), u7, (0, am), u9, u10] [(0, (e : Int)), rf 111] (K, D, z) P := by
        intro D E' e am u7 u9 u10 hG he h60 hjE hsz ham hcn hEs t7 t9
        have hcn' : 0 < amC D0 wo v q := (of_decide_eq_true hcn).1
        have ham2 : amC D0 wo v q ≤ 100000 := (amF_in (wo := wo) (wd := D0 98) (l := q) (day := v) hb.2 (by decide)).2
        obtain ⟨G1, G2, G3, G4, G5⟩ := id hG
        obtain ⟨a1, a2, a3⟩ := G5 e he
        have g90 : D 90 = D0 90 := G1 90 (Or.inl (by decide))
        have hdd : ∀ k : Nat, k < E'.1 → ∀ h, 0 ≤ dF (D0 90) (amC D0 wo v) (D0 89 0).toNat E'.2.2.1 k h ∧ dF (D0 90) (amC D0 wo v) (D0 89 0).toNat E'.2.2.1 k h ≤ 6000000 := fun k hk h => dF_in (by omega) (fun j hj hje => by
          have hm : (j : Int) ∈ xsC D0 wo T v stm i := Decidable.byContradiction fun hno => by
            have := hEv.2.2.1 j hno
            rw [hjE] at hje
            omega
          have hcj : 0 < amC D0 wo v j := (of_decide_eq_true (xsC_mem.mp hm).2).1
          exact ⟨Int.le_of_lt hcj, (amF_in (wo := wo) (wd := D0 98) hb.2 (by decide)).2⟩)
        have hd0 := hdd e he (D0 90 q)
        rw [← a3 _ p1.1 p1.2] at hd0
        have hs0 := hsz e he
        rw [← a2] at hs0
        refine s_il6 rfl ?_
        refine s_il8 rfl ?_
        refine s_callO rfl rfl (Or.inl rfl) rfl rfl (hk.at rfl rfl) (v_join hk (by omega) (by omega) (by rw [g90]; omega) hs0 (by omega) (by rw [g90]; exact hd0) (by omega) ?_)
        refine tail _ _ _ _ _ _ ?_ rfl t7 rfl t9
        rw [hEs, g90, xsC_yes (by rw [hq]; exact hcn), hq]
        have hlen1 : (xsC D0 wo T v stm i ++ [q]).length = (xsC D0 wo T v stm i).length + 1 := by simp
        rw [hlen1]
        refine ⟨fun r hr => ?_, ?_, ?_, fun j hj => ?_, fun k hk => ?_⟩
        · rw [aUp_row (by omega), aUp_row (by omega), aUp_row (by omega), aUp_row (by omega)]
          exact G1 r hr
        · rw [aUp_same, uF_ne (by decide)]
          exact G2
        · rw [aUp_same, uF_at, G3]
          omega
        · rw [aUp_row (by decide), aUp_row (by decide), aUp_row (by decide), aUp_same]
          show uF (D 112) q e (D0 96 j) = uF E'.2.2.1 q e (D0 96 j)
          by_cases hji : j = i
          · subst hji
            rw [hq, uF_at, uF_at]
          · rw [uF_ne (hinj j (by omega)), uF_ne (hinj j (by omega))]
            exact G4 j (by omega)
        · have hk : k < E'.1 := hk
          obtain ⟨b1, b2, b3⟩ := G5 k hk
          refine ⟨?_, ?_, fun h q1 q2 => ?_⟩
          · rw [aUp_row (by decide), aUp_row (by decide), aUp_row (by decide), aUp_row (by decide)]
            exact b1
          · rw [aUp_row (by decide), aUp_row (by decide), aUp_same, aUp_row (by decide)]
            show uF (D 114) e (D 114 e + 1) k = uF E'.2.2.2 e (E'.2.2.2 e + 1) k
            by_cases hke : (k : Int) = e
            · rw [hke, uF_at, uF_at, a2]
            · rw [uF_ne hke, uF_ne hke]
              exact b2
          · rw [aUp_row (by decide), aUp_same, aUp_row (by decide), aUp_row (by decide)]
            show uF (D 115) (e * 12 + D0 90 q) (D 115 (e * 12 + D0 90 q) + am) (k * 12 + h) = dF _ _ _ (uF E'.2.2.1 q e) k h
            rw [dF_uF ⟨hir.1, by omega⟩ (by rw [hjE]; exact hjo) (by omega)]
            by_cases hke : (k : Int) = e ∧ h = D0 90 q
            · rw [hke.1, hke.2, uF_at, if_pos ⟨rfl, rfl⟩, a3 _ p1.1 p1.2, ham]
            · rw [uF_ne (by omega), b3 h q1 q2, if_neg (by omega), Int.add_zero]
      have hG0 : ∀ D, GaM D0 wo v i E (xsC D0 wo T v stm i).length D → GaM D0 wo v i E (xsC D0 wo T v stm i).length (aUp D 112 q (-1)) := fun D hG => by
        obtain ⟨G1, G2, G3, G4, G5⟩ := hG
        refine ⟨fun r hr => ?_, ?_, ?_, fun j hj => ?_, fun k hk => ?_⟩
        · rw [aUp_row (by omega)]; exact G1 r hr
        · rw [aUp_row (by decide)]; exact G2
        · rw [aUp_row (by decide)]; exact G3
        · rw [aUp_same, uF_ne (hinj j hj)]; exact G4 j hj
        · rw [aUp_row (by decide), aUp_row (by decide), aUp_row (by decide)]; exact G5 k hk
      have counted : ∀ (D : Nat → Int → Int) (u7 u9 u10 : aTV), GaM D0 wo v i E (xsC D0 wo T v stm i).length D → cntC D0 wo T v stm q = true → Nat.beq u7.1 1 = false → Nat.beq u9.1 1 = false → V G l (d + 1) iX2_gather 113 [rf 111, rf T, (0, v), (0, stm), (0, ms), (0, (i : Int)), (0, q), u7, (0, amC D0 wo v q), u9, u10] [] (K, D, z) P := by
        intro D u7 u9 u10 hG hcn t7 t9
        have hstep : evC D0 T ms (xsC D0 wo T v stm (i + 1)) = evStep (D0 91) (D0 92) (D0 93) (D0 95) (D0 (T + 4)) (D0 (T + 5)) ms E q := by
          rw [xsC_yes (by rw [hq]; exact hcn), hq]
          show EV _ _ _ _ _ _ _ _ = _
          rw [EV_snoc]
          show evStep _ _ _ _ _ _ _ (evC D0 T ms (xsC D0 wo T v stm i)) q = _
          rw [hE]
        have hpl := evPick_lt (hr := D0 91) (pl := D0 92) (ca := D0 93) (sp := D0 95) (hrs := D0 (T + 4)) (mls := D0 (T + 5)) (ms := ms) (l := q) (E := E)
        have picked : ∀ (x : Int) (u9 u10 : aTV), x = evPick (D0 91) (D0 92) (D0 93) (D0 95) (D0 (T + 4)) (D0 (T + 5)) ms q E → Nat.beq u9.1 1 = false → V G l (d + 1) iX2_gather 156 [rf 111, rf T, (0, v), (0, stm), (0, ms), (0, (i : Int)), (0, q), u7, (0, amC D0 wo v q), u9, u10] [(0, x)] (K, D, z) P := by
          intro x u9 u10 hx t9
          unfold evStep at hstep
          rw [← hx] at hstep hpl
          obtain ⟨G1, G2, G3, G4, G5⟩ := id hG
          refine s_is10 rfl t9 ?_
          refine s_al0 rfl ?_
          refine s_il10 rfl ?_
          refine s_ic rfl ?_
          refine s_cne rfl ?_ ?_
          · intro h162
            rw [if_neg (by omega)] at hstep
            obtain ⟨e, he⟩ : ∃ e : Nat, x = e := ⟨x.toNat, by omega⟩
            subst he
            refine s_il10 rfl ?_
            first
            | exact joinTo D E e _ u7 u9 _ hG (by omega) (by omega) rfl (fun k hk => by have := hEv.2.2.2.2.2 k hk; omega) rfl hcn hstep t7 t9
            | (rw [G2]
               refine joinTo D2 (evOpen q E) E.1 _ u7 u9 _ ?_ (Nat.lt_succ_self _) (by show E.1 + 1 ≤ 60; omega) rfl (fun k hk => ?_) rfl hcn hstep t7 t9
               · rw [G2] at m2 m3 m4 m5
                 refine ⟨fun r hr => ?_, ?_, ?_, fun j hj => ?_, fun k hk => ?_⟩
                 · rw [m1 r (by omega) (by omega) (by omega) (by omega)]; exact G1 r hr
                 · rw [m5, uF_at]; show (E.1 : Int) + 1 = ((E.1 + 1 : Nat) : Int); omega
                 · rw [m5, uF_ne (by decide)]; exact G3
                 · rw [m1 112 (by decide) (by decide) (by decide) (by decide)]; exact G4 j hj
                 · have hk : k < E.1 + 1 := hk
                   rw [m2, m3]
                   by_cases hke : k = E.1
                   · subst hke
                     refine ⟨uF_at.trans uF_at.symm, uF_at.trans uF_at.symm, fun h q1 q2 => ?_⟩
                     rw [m4, if_pos (by omega)]
                     show 0 = dF _ _ _ E.2.2.1 _ h
                     rw [dF_none (fun j _ => by have := hEv.2.1 j; omega)]
                   · obtain ⟨b1, b2, b3⟩ := G5 k (by omega)
                     refine ⟨?_, ?_, fun h q1 q2 => ?_⟩
                     · show uF (D 113) E.1 q k = uF E.2.1 E.1 q k
                       rw [uF_ne (by omega), uF_ne (by omega)]; exact b1
                     · show uF (D 114) E.1 0 k = uF E.2.2.2 E.1 0 k
                       rw [uF_ne (by omega), uF_ne (by omega)]; exact b2
                     · rw [m4, if_neg (by omega)]; exact b3 h q1 q2
               · have hk : k < E.1 + 1 := hk
                 show 0 ≤ uF E.2.2.2 E.1 0 k ∧ uF E.2.2.2 E.1 0 k ≤ 60
                 by_cases hke : k = E.1
                 · subst hke; rw [uF_at]; omega
                 · rw [uF_ne (by omega)]; have := hEv.2.2.2.2.2 k (by omega); omega)
          · intro h162
            rw [if_pos (by omega)] at hstep
            refine s_al0 rfl ?_
            refine s_il6 rfl ?_
            refine s_callO rfl rfl (Or.inl rfl) rfl rfl (hk.at rfl rfl) (v_begin hk (by omega) (fun D2 m1 m2 m3 m4 m5 => ?_))
            refine s_go rfl ?_
            first
            | exact joinTo D E e _ u7 u9 _ hG (by omega) (by omega) rfl (fun k hk => by have := hEv.2.2.2.2.2 k hk; omega) rfl hcn hstep t7 t9
            | (rw [G2]
               refine joinTo D2 (evOpen q E) E.1 _ u7 u9 _ ?_ (Nat.lt_succ_self _) (by show E.1 + 1 ≤ 60; omega) rfl (fun k hk => ?_) rfl hcn hstep t7 t9
               · rw [G2] at m2 m3 m4 m5
                 refine ⟨fun r hr => ?_, ?_, ?_, fun j hj => ?_, fun k hk => ?_⟩
                 · rw [m1 r (by omega) (by omega) (by omega) (by omega)]; exact G1 r hr
                 · rw [m5, uF_at]; show (E.1 : Int) + 1 = ((E.1 + 1 : Nat) : Int); omega
                 · rw [m5, uF_ne (by decide)]; exact G3
                 · rw [m1 112 (by decide) (by decide) (by decide) (by decide)]; exact G4 j hj
                 · have hk : k < E.1 + 1 := hk
                   rw [m2, m3]
                   by_cases hke : k = E.1
                   · subst hke
                     refine ⟨uF_at.trans uF_at.symm, uF_at.trans uF_at.symm, fun h q1 q2 => ?_⟩
                     rw [m4, if_pos (by omega)]
                     show 0 = dF _ _ _ E.2.2.1 _ h
                     rw [dF_none (fun j _ => by have := hEv.2.1 j; omega)]
                   · obtain ⟨b1, b2, b3⟩ := G5 k (by omega)
                     refine ⟨?_, ?_, fun h q1 q2 => ?_⟩
                     · show uF (D 113) E.1 q k = uF E.2.1 E.1 q k
                       rw [uF_ne (by omega), uF_ne (by omega)]; exact b1
                     · show uF (D 114) E.1 0 k = uF E.2.2.2 E.1 0 k
                       rw [uF_ne (by omega), uF_ne (by omega)]; exact b2
                     · rw [m4, if_neg (by omega)]; exact b3 h q1 q2
               · have hk : k < E.1 + 1 := hk
                 show 0 ≤ uF E.2.2.2 E.1 0 k ∧ uF E.2.2.2 E.1 0 k ≤ 60
                 by_cases hke : k = E.1
                 · subst hke; rw [uF_at]; omega
                 · rw [uF_ne (by omega)]; have := hEv.2.2.2.2.2 k (by omega); omega)
        have g89 : D 89 = D0 89 := hG.1 89 (Or.inl (by decide))
        have g90 : D 90 = D0 90 := hG.1 90 (Or.inl (by decide))
        have g91 : D 91 = D0 91 := hG.1 91 (Or.inl (by decide))
        have g92 : D 92 = D0 92 := hG.1 92 (Or.inl (by decide))
        have g93 : D 93 = D0 93 := hG.1 93 (Or.inl (by decide))
        have g94 : D 94 = D0 94 := hG.1 94 (Or.inl (by decide))
        have g95 : D 95 = D0 95 := hG.1 95 (Or.inl (by decide))
        have g96 : D 96 = D0 96 := hG.1 96 (Or.inl (by decide))
        have g97 : D 97 = D0 97 := hG.1 97 (Or.inl (by decide))
        have g98 : D 98 = D0 98 := hG.1 98 (Or.inl (by decide))
        have g99 : D 99 = D0 99 := hG.1 99 (Or.inl (by decide))
        have g100 : D 100 = D0 100 := hG.1 100 (Or.inl (by decide))
        have gT : D T = D0 T := hG.1 T (by rcases hT with rfl | rfl <;> decide)
        have gT4 : D (T + 4) = D0 (T + 4) := hG.1 _ (by rcases hT with rfl | rfl <;> decide)
        have gT5 : D (T + 5) = D0 (T + 5) := hG.1 _ (by rcases hT with rfl | rfl <;> decide)
        have alone : ∀ (b : Int) (u9 u10 : aTV), (b = 1 ∧ (D0 95 q ≠ 0 ∨ q = ms)) ∨ (b = 0 ∧ ¬ (D0 95 q ≠ 0 ∨ q = ms)) → V G l (d + 1) iX2_gather 138 [rf 111, rf T, (0, v), (0, stm), (0, ms), (0, (i : Int)), (0, q), u7, (0, amC D0 wo v q), u9, u10] [(0, b)] (K, D, z) P := by
          intro b u9 u10 hb1
          refine s_is9 rfl rfl ?_
          refine s_il9 rfl ?_
          refine s_zeq rfl ?_ ?_
          · intro h142
            have hn : ¬ (D0 95 q ≠ 0 ∨ q = ms) := by omega
            refine s_al0 rfl ?_
            refine s_al1 rfl ?_
            refine s_il6 rfl ?_
            refine s_callO rfl rfl (Or.inl rfl) rfl rfl (hk.at rfl rfl) (v_eventToJoin hk hT (hb.of (fun r h1 h2 => hG.1 r (Or.inl (by omega)))) (by rw [g89]; omega) (by rw [g89]; omega) (by rw [hG.2.1]; omega) (fun e he => ?_) ?_)
            · have he : e < E.1 := by rw [hG.2.1] at he; omega
              rw [g89, (hG.2.2.2.2 e he).1]
              obtain ⟨⟨j, hj, ej⟩, -⟩ := xsC_mem.mp (hEv.2.2.2.2.1 e he).1
              rw [← ej]
              exact hO.2.1 j (by omega)
            rw [g91, g92, g93, gT4, gT5]
            first
            | exact picked _ _ _ (by unfold evPick; rw [if_pos hn]) rfl
            | (refine picked _ _ _ ?_ rfl
               unfold evPick
               rw [if_neg hn, hG.2.1, show ((E.1 : Nat) : Int).toNat = E.1 from rfl]
               exact efF_congr ⟨rfl, rfl, rfl⟩ ⟨rfl, rfl⟩ (fun k hk => ⟨(hG.2.2.2.2 k hk).1, rfl, rfl, rfl⟩))
          · intro h142
            have hn : D0 95 q ≠ 0 ∨ q = ms := by omega
            refine s_ic rfl ?_
            refine s_go rfl ?_
            first
            | exact picked _ _ _ (by unfold evPick; rw [if_pos hn]) rfl
            | (refine picked _ _ _ ?_ rfl
               unfold evPick
               rw [if_neg hn, hG.2.1, show ((E.1 : Nat) : Int).toNat = E.1 from rfl]
               exact efF_congr ⟨rfl, rfl, rfl⟩ ⟨rfl, rfl⟩ (fun k hk => ⟨(hG.2.2.2.2 k hk).1, rfl, rfl, rfl⟩))
        refine s_al0 rfl ?_
        refine s_gf rfl (hk.at rfl rfl) rfl rfl ?_
        refine s_gf rfl (hk.at rfl rfl) rfl rfl ?_
        refine s_il6 rfl ?_
        refine s_bald rfl (hk.at rfl rfl) (by omega) ?_
        simp only [g89, g90, g91, g92, g93, g94, g95, g96, g97, g98, g99, g100, gT]
        refine s_zne rfl ?_ ?_
        · intro h123
          refine s_ic rfl ?_
          refine s_go rfl ?_
          exact alone _ _ _ (by omega)
        · intro h123
          refine s_il6 rfl ?_
          refine s_il4 rfl ?_
          refine s_cne rfl ?_ ?_
          · intro h130
            refine s_ic rfl ?_
            exact alone _ _ _ (by omega)
          · intro h130
            refine s_ic rfl ?_
            refine s_go rfl ?_
            exact alone _ _ _ (by omega)
      have amt : ∀ (D : Nat → Int → Int) (am : Int) (u7 u8 u9 u10 : aTV), GaM D0 wo v i E (xsC D0 wo T v stm i).length D → D 112 q = -1 → am = (if D0 90 q < D0 T 0 ∧ bAnd (bShr stm (D0 94 q)) 1 = 1 then amC D0 wo v q else 0) → Nat.beq u7.1 1 = false → Nat.beq u9.1 1 = false → V G l (d + 1) iX2_gather 106 [rf 111, rf T, (0, v), (0, stm), (0, ms), (0, (i : Int)), (0, q), u7, u8, u9, u10] [(0, am)] (K, D, z) P := by
        intro D am u7 u8 u9 u10 hG hm1 ham t7 t9
        refine s_is8 rfl t7 ?_
        refine s_il8 rfl ?_
        refine s_zle rfl ?_ ?_
        · intro h110
          have hcn : cntC D0 wo T v stm q = false := decide_eq_false fun hcn => by
            rw [if_pos hcn.2] at ham
            omega
          refine tail D _ _ _ _ _ ?_ rfl t7 rfl t9
          rw [xsC_no (by rw [hq]; exact hcn), hE]
          obtain ⟨G1, G2, G3, G4, G5⟩ := hG
          refine ⟨G1, G2, G3, fun j hj => ?_, G5⟩
          by_cases hji : j = i
          · subst hji; rw [hq, hm1]; exact hjo.symm
          · exact G4 j (by omega)
        · intro h110
          have hcd : D0 90 q < D0 T 0 ∧ bAnd (bShr stm (D0 94 q)) 1 = 1 := Decidable.byContradiction fun hn => by
            rw [if_neg hn] at ham
            omega
          rw [if_pos hcd] at ham
          subst ham
          exact counted D _ _ _ hG (decide_eq_true ⟨h110, hcd⟩) t7 t9
      have g89 : D 89 = D0 89 := hG.1 89 (Or.inl (by decide))
      have g90 : D 90 = D0 90 := hG.1 90 (Or.inl (by decide))
      have g91 : D 91 = D0 91 := hG.1 91 (Or.inl (by decide))
      have g92 : D 92 = D0 92 := hG.1 92 (Or.inl (by decide))
      have g93 : D 93 = D0 93 := hG.1 93 (Or.inl (by decide))
      have g94 : D 94 = D0 94 := hG.1 94 (Or.inl (by decide))
      have g95 : D 95 = D0 95 := hG.1 95 (Or.inl (by decide))
      have g96 : D 96 = D0 96 := hG.1 96 (Or.inl (by decide))
      have g97 : D 97 = D0 97 := hG.1 97 (Or.inl (by decide))
      have g98 : D 98 = D0 98 := hG.1 98 (Or.inl (by decide))
      have g99 : D 99 = D0 99 := hG.1 99 (Or.inl (by decide))
      have g100 : D 100 = D0 100 := hG.1 100 (Or.inl (by decide))
      have gT : D T = D0 T := hG.1 T (by rcases hT with rfl | rfl <;> decide)
      have gT4 : D (T + 4) = D0 (T + 4) := hG.1 _ (by rcases hT with rfl | rfl <;> decide)
      have gT5 : D (T + 5) = D0 (T + 5) := hG.1 _ (by rcases hT with rfl | rfl <;> decide)
      have hG1 := hG0 D hG
      have hm1 : (aUp D 112 q (-1)) 112 q = -1 := by rw [aUp_same, uF_at]
      refine s_il5 rfl ?_
      refine s_al0 rfl ?_
      refine s_gf rfl (hk.at rfl rfl) rfl rfl ?_
      refine s_gi rfl (hk.at rfl rfl) rfl ?_
      simp only [g89, g90, g91, g92, g93, g94, g95, g96, g97, g98, g99, g100, gT]
      refine s_cge rfl ?_ ?_
      · intro h22
        omega
      · intro h22
        refine s_al0 rfl ?_
        refine s_gf rfl (hk.at rfl rfl) rfl rfl ?_
        refine s_gf rfl (hk.at rfl rfl) rfl rfl ?_
        refine s_il5 rfl ?_
        refine s_iald rfl (hk.at rfl rfl) (by omega) ?_
        simp only [g89, g90, g91, g92, g93, g94, g95, g96, g97, g98, g99, g100, gT]
        rw [hq]
        refine s_is6 rfl rfl ?_
        refine s_al0 rfl ?_
        refine s_gf rfl (hk.at rfl rfl) rfl rfl ?_
        refine s_il6 rfl ?_
        refine s_ic rfl ?_
        refine s_iast rfl (hk.at rfl rfl) (by omega) ?_
        generalize hD1 : aUp D 112 q (-1) = D1 at hG1 hm1 ⊢
        clear hD1 hG g89 g90 g91 g92 g93 g94 g95 g96 g97 g98 g99 g100 gT gT4 gT5
        have hG := hG1
        have g89 : D1 89 = D0 89 := hG.1 89 (Or.inl (by decide))
        have g90 : D1 90 = D0 90 := hG.1 90 (Or.inl (by decide))
        have g91 : D1 91 = D0 91 := hG.1 91 (Or.inl (by decide))
        have g92 : D1 92 = D0 92 := hG.1 92 (Or.inl (by decide))
        have g93 : D1 93 = D0 93 := hG.1 93 (Or.inl (by decide))
        have g94 : D1 94 = D0 94 := hG.1 94 (Or.inl (by decide))
        have g95 : D1 95 = D0 95 := hG.1 95 (Or.inl (by decide))
        have g96 : D1 96 = D0 96 := hG.1 96 (Or.inl (by decide))
        have g97 : D1 97 = D0 97 := hG.1 97 (Or.inl (by decide))
        have g98 : D1 98 = D0 98 := hG.1 98 (Or.inl (by decide))
        have g99 : D1 99 = D0 99 := hG.1 99 (Or.inl (by decide))
        have g100 : D1 100 = D0 100 := hG.1 100 (Or.inl (by decide))
        have gT : D1 T = D0 T := hG.1 T (by rcases hT with rfl | rfl <;> decide)
        have gT4 : D1 (T + 4) = D0 (T + 4) := hG.1 _ (by rcases hT with rfl | rfl <;> decide)
        have gT5 : D1 (T + 5) = D0 (T + 5) := hG.1 _ (by rcases hT with rfl | rfl <;> decide)
        refine s_al0 rfl ?_
        refine s_gf rfl (hk.at rfl rfl) rfl rfl ?_
        refine s_gf rfl (hk.at rfl rfl) rfl rfl ?_
        refine s_il6 rfl ?_
        refine s_iald rfl (hk.at rfl rfl) (by omega) ?_
        simp only [g89, g90, g91, g92, g93, g94, g95, g96, g97, g98, g99, g100, gT]
        refine s_al1 rfl ?_
        refine s_gi rfl (KT hk hT) rfl ?_
        simp only [g89, g90, g91, g92, g93, g94, g95, g96, g97, g98, g99, g100, gT]
        refine s_cge rfl ?_ ?_
        · intro h59
          refine s_ic rfl ?_
          refine s_is7 rfl rfl ?_
          refine s_il7 rfl ?_
          refine s_zeq rfl ?_ ?_
          · intro h89
            refine s_ic rfl ?_
            first
            | exact amt D1 _ _ _ _ _ hG1 hm1 (if_pos ⟨by omega, by omega⟩).symm rfl t9
            | exact amt D1 _ _ _ _ _ hG1 hm1 (if_neg (by omega)).symm rfl t9
          · intro h89
            refine s_al0 rfl ?_
            refine s_gf rfl (hk.at rfl rfl) rfl rfl ?_
            refine s_il6 rfl ?_
            refine s_il2 rfl ?_
            refine s_callO rfl rfl (Or.inl rfl) rfl rfl (hk.at rfl rfl) (v_amountOn hk (hc.of g89 g97 g100) (by rw [g89]; omega) ?_)
            rw [g98, g99, g89]
            refine s_go rfl ?_
            first
            | exact amt D1 _ _ _ _ _ hG1 hm1 (if_pos ⟨by omega, by omega⟩).symm rfl t9
            | exact amt D1 _ _ _ _ _ hG1 hm1 (if_neg (by omega)).symm rfl t9
        · intro h59
          refine s_il3 rfl ?_
          refine s_al0 rfl ?_
          refine s_gf rfl (hk.at rfl rfl) rfl rfl ?_
          refine s_gf rfl (hk.at rfl rfl) rfl rfl ?_
          refine s_il6 rfl ?_
          refine s_iald rfl (hk.at rfl rfl) (by omega) ?_
          simp only [g89, g90, g91, g92, g93, g94, g95, g96, g97, g98, g99, g100, gT]
          refine s_ishr rfl ?_
          refine s_ic rfl ?_
          refine s_iand rfl ?_
          refine s_ic rfl ?_
          refine s_cne rfl ?_ ?_
          · intro h77
            refine s_ic rfl ?_
            refine s_is7 rfl rfl ?_
            refine s_il7 rfl ?_
            refine s_zeq rfl ?_ ?_
            · intro h89
              refine s_ic rfl ?_
              first
              | exact amt D1 _ _ _ _ _ hG1 hm1 (if_pos ⟨by omega, by omega⟩).symm rfl t9
              | exact amt D1 _ _ _ _ _ hG1 hm1 (if_neg (by omega)).symm rfl t9
            · intro h89
              refine s_al0 rfl ?_
              refine s_gf rfl (hk.at rfl rfl) rfl rfl ?_
              refine s_il6 rfl ?_
              refine s_il2 rfl ?_
              refine s_callO rfl rfl (Or.inl rfl) rfl rfl (hk.at rfl rfl) (v_amountOn hk (hc.of g89 g97 g100) (by rw [g89]; omega) ?_)
              rw [g98, g99, g89]
              refine s_go rfl ?_
              first
              | exact amt D1 _ _ _ _ _ hG1 hm1 (if_pos ⟨by omega, by omega⟩).symm rfl t9
              | exact amt D1 _ _ _ _ _ hG1 hm1 (if_neg (by omega)).symm rfl t9
          · intro h77
            refine s_ic rfl ?_
            refine s_go rfl ?_
            refine s_is7 rfl rfl ?_
            refine s_il7 rfl ?_
            refine s_zeq rfl ?_ ?_
            · intro h89
              refine s_ic rfl ?_
              first
              | exact amt D1 _ _ _ _ _ hG1 hm1 (if_pos ⟨by omega, by omega⟩).symm rfl t9
              | exact amt D1 _ _ _ _ _ hG1 hm1 (if_neg (by omega)).symm rfl t9
            · intro h89
              refine s_al0 rfl ?_
              refine s_gf rfl (hk.at rfl rfl) rfl rfl ?_
              refine s_il6 rfl ?_
              refine s_il2 rfl ?_
              refine s_callO rfl rfl (Or.inl rfl) rfl rfl (hk.at rfl rfl) (v_amountOn hk (hc.of g89 g97 g100) (by rw [g89]; omega) ?_)
              rw [g98, g99, g89]
              refine s_go rfl ?_
              first
              | exact amt D1 _ _ _ _ _ hG1 hm1 (if_pos ⟨by omega, by omega⟩).symm rfl t9
              | exact amt D1 _ _ _ _ _ hG1 hm1 (if_neg (by omega)).symm rfl t9
  refine VM_go (tg2 rfl) (Nat.le_of_ble_eq_true rfl) ?_
  refine s_al0 rfl ?_
  refine s_ic rfl ?_
  refine s_pi rfl (hk.at rfl rfl) rfl ?_
  refine s_al0 rfl ?_
  refine s_ic rfl ?_
  refine s_pi rfl (hk.at rfl rfl) rfl ?_
  refine s_ic rfl ?_
  refine s_is5 rfl rfl ?_
  refine loop (D0 89 0).toNat 0 _ _ _ _ _ _ (by omega) ?_ rfl rfl rfl rfl
  refine ⟨fun r hr => ?_, ?_, ?_, fun j hj => absurd hj (Nat.not_lt_zero j), fun e he => absurd he (Nat.not_lt_zero e)⟩
  · rw [aUp_row (by omega), aUp_row (by omega)]
  · rw [aUp_same, uF_ne (by decide), aUp_same, uF_at]; rfl
  · rw [aUp_same, uF_at]; rfl
end
