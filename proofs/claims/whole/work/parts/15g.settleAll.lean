/-! ===== clearing as plain functions: net debts, all net debts, what is spare ===== -/
section
variable (n : Nat) (net : Int → Int → Int) (al sp : Int → Int)
def gtP (p : Int → Int) (i : Int) : Int := sumF (fun j : Nat => shF (p j) (net j i) (al j)) n
def prP (p : Int → Int) (i : Int) : Int := if sp i + gtP n net al p i < al i then sp i + gtP n net al p i else al i
def clP : Nat → Nat → (Int → Int) → Nat × (Int → Int)
  | 0, k, p => (k, p)
  | f + 1, k, p => if chB p (prP n net al sp p) n = true then clP f (k + 1) (prP n net al sp p) else (k + 1, prP n net al sp p)
end
theorem clP_in {n : Nat} {net : Int → Int → Int} {al sp : Int → Int} (hn : ∀ a b : Nat, a < n → b < n → 0 ≤ net a b) (ha : ∀ a : Nat, a < n → 0 ≤ al a) (hs : ∀ a : Nat, a < n → 0 ≤ sp a) : ∀ (f k : Nat) (p : Int → Int), (∀ a : Nat, a < n → 0 ≤ p a ∧ p a ≤ al a) → k ≤ (clP n net al sp f k p).1 ∧ (clP n net al sp f k p).1 ≤ k + f ∧ ∀ a : Nat, a < n → 0 ≤ (clP n net al sp f k p).2 a ∧ (clP n net al sp f k p).2 a ≤ al a := by
  intro f
  induction f with
  | zero => intro k p hp; exact ⟨Nat.le_refl _, Nat.le_refl _, hp⟩
  | succ f ih =>
    intro k p hp
    have hq : ∀ a : Nat, a < n → 0 ≤ prP n net al sp p a ∧ prP n net al sp p a ≤ al a := fun a h => by
      have h1 : 0 ≤ gtP n net al p a := sumF_nonneg fun j hj => (shF_in (hp j hj) (hn j a hj h)).1
      have h2 := hs a h
      have h3 := ha a h
      unfold prP
      split <;> omega
    rw [clP]
    split
    · have := ih (k + 1) (prP n net al sp p) hq
      exact ⟨by omega, by omega, this.2.2⟩
    · exact ⟨by omega, by omega, hq⟩
def clAl (D : Nat → Int → Int) (n : Nat) (a : Int) : Int := sumF (fun i : Nat => ntC D a i) n
def clSp (D : Nat → Int → Int) (a : Int) : Int := if 0 < D 122 a - D 103 a then D 122 a - D 103 a else 0
abbrev clX (D : Nat → Int → Int) (n : Nat) : Nat × (Int → Int) := clP n (ntC D) (clAl D n) (clSp D) 200 0 (clAl D n)
def faB (D : Nat → Int → Int) (n : Nat) (a : Int) : Bool := decide ((clX D n).2 a < clAl D n a ∨ D 122 a < D 103 a)
def SaD (D : Nat → Int → Int) (n : Nat) (D' : Nat → Int → Int) : Prop := (∀ r, (r < 121 ∨ 128 < r ∨ r = 122) → D' r = D r) ∧ D' 121 7 = (clX D n).1 ∧ D' 121 8 = cmN (fun a => faB D n a) n ∧ ∀ i : Nat, i < n → D' 123 i = clAl D n i ∧ D' 124 i = (clX D n).2 i ∧ D' 125 i = gtP n (ntC D) (clAl D n) (clX D n).2 i ∧ D' 126 i = if faB D n i = true then 1 else 0
section
variable {G : aCX} {l : Launch} {d : Nat} {K : Nat → aKd} {D : Nat → Int → Int} {z : Nat × Nat} {P : Int → aSt → Prop}
theorem v_settleAll {n : Nat} (hk : Kn K) (hn : n ≤ 12) (hO : ∀ a b : Int, 0 ≤ a → a < 12 → 0 ≤ b → b < 12 → 0 ≤ D 102 (a * 12 + b) ∧ D 102 (a * 12 + b) ≤ 2000000000) (hrow : ∀ a : Nat, a < n → clAl D n a ≤ 2000000000) (hcol : ∀ i : Nat, i < n → sumF (fun j : Nat => ntC D j i) n ≤ 2000000000) (hp : ∀ i : Nat, i < n → 0 ≤ D 122 i ∧ D 122 i ≤ 99999999) (hd : ∀ i : Nat, i < n → 0 ≤ D 103 i ∧ D 103 i ≤ 400000000) (kk : ∀ D', SaD D n D' → P 0 (K, D', z)) : VM G l (d + 2) iX1_settleAll [rf 121, rf 101, (0, (n : Int))] (K, D, z) P := by
  have al0 : ∀ a : Nat, 0 ≤ clAl D n a := fun a => sumF_nonneg fun i _ => ntC_nn
  have sp0 : ∀ a : Nat, a < n → 0 ≤ clSp D a ∧ clSp D a ≤ 99999999 := fun a ha => by have := hp a ha; have := hd a ha; unfold clSp; split <;> omega
  have ntb : ∀ a b : Nat, a < n → b < n → 0 ≤ ntC D a b ∧ ntC D a b ≤ 2000000000 := fun a b ha hb => by
    refine ⟨ntC_nn, ?_⟩
    have q1 := hO a b (by omega) (by omega) (by omega) (by omega)
    have q2 := hO b a (by omega) (by omega) (by omega) (by omega)
    unfold ntC; split <;> omega
  have gtb : ∀ (p : Int → Int) (i : Nat), i < n → (∀ a : Nat, a < n → 0 ≤ p a ∧ p a ≤ clAl D n a) → 0 ≤ gtP n (ntC D) (clAl D n) p i ∧ gtP n (ntC D) (clAl D n) p i ≤ 2000000000 := fun p i hi hp => by
    refine ⟨sumF_nonneg fun j hj => (shF_in (hp j hj) ntC_nn).1, Int.le_trans (sumF_le2 fun j hj => (shF_in (hp j hj) ntC_nn).2) (hcol i hi)⟩
  have clB : ∀ (D1 : Nat → Int → Int) (p : Int → Int), (∀ i j : Nat, i < n → j < n → D1 127 (i * 12 + j) = ntC D i j) → (∀ i : Nat, i < n → D1 123 i = clAl D n i ∧ D1 128 i = clSp D i) → (∀ i : Nat, i < n → D1 124 i = p i) → (∀ a : Nat, a < n → 0 ≤ p a ∧ p a ≤ clAl D n a) → (∀ i : Nat, gtC D1 i n = gtP n (ntC D) (clAl D n) p i ∨ n ≤ i) ∧ ClB D1 n := by
    intro D1 p g1 g2 g3 g4
    have e : ∀ i : Nat, i < n → gtC D1 i n = gtP n (ntC D) (clAl D n) p i := fun i hi => sumF_congr fun j hj => by rw [g3 j hj, g1 j i hj hi, (g2 j hj).1]
    refine ⟨fun i => (Nat.lt_or_ge i n).elim (fun q => Or.inl (e i q)) Or.inr, ⟨fun a ha => ⟨⟨?_, ?_⟩, fun b hb => ?_⟩, fun i hi => ?_⟩⟩
    · rw [g3 a ha, (g2 a ha).1]; exact g4 a ha
    · rw [(g2 a ha).1]; exact hrow a ha
    · rw [g1 a b ha hb]; exact ntb a b ha hb
    · rw [e i hi]; exact (gtb p i hi g4).2
  have fin : ∀ (m i : Nat) (D1 : Nat → Int → Int) (u3 : Int), i + m = n → (∀ r, (r < 121 ∨ 128 < r ∨ r = 122) → D1 r = D r) → (∀ i j : Nat, i < n → j < n → D1 127 (i * 12 + j) = ntC D i j) → (∀ i : Nat, i < n → D1 123 i = clAl D n i ∧ D1 128 i = clSp D i) → D1 121 7 = (clX D n).1 → D1 121 8 = cmN (fun a => faB D n a) i → (∀ j : Nat, j < n → D1 124 j = (clX D n).2 j ∧ D1 125 j = gtP n (ntC D) (clAl D n) (clX D n).2 j) → (∀ j : Nat, j < i → D1 126 j = if faB D n j = true then 1 else 0) → V G l (d + 2) iX1_settleAll 113 [rf 121, rf 101, (0, (n : Int)), (0, u3), (0, (i : Int))] [] (K, D1, z) P := by
    intro m
    induction m with
    | zero =>
      intro i D1 u3 hm f1 f2 f3 f4 f5 f6 f7
      have hi : i = n := by omega
      subst hi
      refine s_il4 rfl ?_
      refine s_il2 rfl ?_
      refine s_cge rfl ?_ ?_
      · intro h116
        refine s_retv rfl rfl ?_
        exact kk D1 ⟨f1, f4, f5, fun j hj => ⟨(f3 j hj).1, (f6 j hj).1, (f6 j hj).2, f7 j hj⟩⟩
      · intro h116
        omega
    | succ m ih =>
      intro i D1 u3 hm f1 f2 f3 f4 f5 f6 f7
      have w4 := (f6 i (by omega)).1
      have w3 := (f3 i (by omega)).1
      have w2 : D1 122 = D 122 := f1 _ (by omega)
      have w1 : D1 103 = D 103 := f1 _ (by omega)
      have ef : ∀ j, cmN (fun a => faB D n a) (j + 1) = cmN (fun a => faB D n a) j + (if faB D n j = true then 1 else 0) := fun j => rfl
      have hc := cmN_in (c := fun a => faB D n a) (n := i)
      have nx : ∀ w : Int, w = (if faB D n i = true then 1 else 0) → V G l (d + 2) iX1_settleAll 164 [rf 121, rf 101, (0, (n : Int)), (0, u3), (0, (i : Int))] [(0, w), (0, (i : Int)), rf 126] (K, D1, z) P := by
        intro w hw
        have hw2 : w = 0 ∨ w = 1 := by subst hw; split <;> omega
        have nx2 : ∀ x : Int, x = w → V G l (d + 2) iX1_settleAll 185 [rf 121, rf 101, (0, (n : Int)), (0, u3), (0, (i : Int))] [(0, x), (0, cmN (fun a => faB D n a) i), rf 121] (K, aUp D1 126 i w, z) P := by
          intro x hx
          subst hx
          refine s_iadd rfl ⟨by omega, by omega⟩ ?_
          refine s_pi rfl (hk.at rfl rfl) rfl ?_
          refine s_iinc4 rfl rfl ⟨by omega, by omega⟩ ?_
          refine s_go rfl ?_
          refine ih (i + 1) _ u3 (by omega) (fun r q => by rw [aUp_row (by omega), aUp_row (by omega)]; exact f1 r q) (fun a b ha hb => by rw [aUp_row (by decide), aUp_row (by decide)]; exact f2 a b ha hb) (fun a ha => by rw [aUp_row (by decide), aUp_row (by decide), aUp_row (by decide), aUp_row (by decide)]; exact f3 a ha) (by rw [aUp_same, uF_ne (by decide), aUp_row (by decide)]; exact f4) (by rw [aUp_same, uF_at, ef, hw]) (fun j hj => by rw [aUp_row (by decide), aUp_row (by decide), aUp_row (by decide), aUp_row (by decide)]; exact f6 j hj) (fun j hj => ?_)
          rw [aUp_row (by decide), aUp_same]
          rcases (by omega : j < i ∨ j = i) with y | y
          · rw [uF_ne (by omega)]; exact f7 j y
          · subst y; rw [uF_at]; exact hw
        refine s_bast rfl (hk.at rfl rfl) (by omega) hw2 ?_
        refine s_al0 rfl ?_
        refine s_dup rfl (by decide) ?_
        refine s_gi rfl (hk.at rfl rfl) rfl ?_
        rw [aUp_row (by decide), f5]
        refine s_al0 rfl ?_
        refine s_gf rfl (hk.at rfl rfl) rfl rfl ?_
        refine s_il4 rfl ?_
        refine s_bald rfl (hk.at rfl rfl) (by omega) ?_
        rw [aUp_at]
        refine s_zeq rfl ?_ ?_
        · intro h177
          refine s_ic rfl ?_
          exact nx2 _ (by omega)
        · intro h177
          refine s_ic rfl ?_
          refine s_go rfl ?_
          exact nx2 _ (by omega)
      refine s_il4 rfl ?_
      refine s_il2 rfl ?_
      refine s_cge rfl ?_ ?_
      · intro h116
        omega
      · intro h116
        refine s_al0 rfl ?_
        refine s_gf rfl (hk.at rfl rfl) rfl rfl ?_
        refine s_il4 rfl ?_
        refine s_al0 rfl ?_
        refine s_gf rfl (hk.at rfl rfl) rfl rfl ?_
        refine s_il4 rfl ?_
        refine s_iald rfl (hk.at rfl rfl) (by omega) ?_
        rw [w4]
        refine s_al0 rfl ?_
        refine s_gf rfl (hk.at rfl rfl) rfl rfl ?_
        refine s_il4 rfl ?_
        refine s_iald rfl (hk.at rfl rfl) (by omega) ?_
        rw [w3]
        refine s_clt rfl ?_ ?_
        · intro h139
          refine s_ic rfl ?_
          refine s_go rfl ?_
          refine nx _ ?_
          unfold faB
          first | rw [if_pos (decide_eq_true (Or.inl h139))] | rw [if_pos (decide_eq_true (Or.inr h156))] | rw [if_neg (fun x => by have := of_decide_eq_true x; omega)]
        · intro h139
          refine s_al0 rfl ?_
          refine s_gf rfl (hk.at rfl rfl) rfl rfl ?_
          refine s_il4 rfl ?_
          refine s_iald rfl (hk.at rfl rfl) (by omega) ?_
          rw [w2]
          refine s_al1 rfl ?_
          refine s_gf rfl (hk.at rfl rfl) rfl rfl ?_
          refine s_il4 rfl ?_
          refine s_iald rfl (hk.at rfl rfl) (by omega) ?_
          rw [w1]
          refine s_cge rfl ?_ ?_
          · intro h156
            refine s_ic rfl ?_
            refine nx _ ?_
            unfold faB
            first | rw [if_pos (decide_eq_true (Or.inl h139))] | rw [if_pos (decide_eq_true (Or.inr h156))] | rw [if_neg (fun x => by have := of_decide_eq_true x; omega)]
          · intro h156
            refine s_ic rfl ?_
            refine s_go rfl ?_
            refine nx _ ?_
            unfold faB
            first | rw [if_pos (decide_eq_true (Or.inl h139))] | rw [if_pos (decide_eq_true (Or.inr h156))] | rw [if_neg (fun x => by have := of_decide_eq_true x; omega)]
  have loop : ∀ (f k : Nat) (D1 : Nat → Int → Int) (p : Int → Int) (c : Int) (u4 : aTV), k + f = 200 → (∀ r, (r < 121 ∨ 128 < r ∨ r = 122) → D1 r = D r) → (∀ i j : Nat, i < n → j < n → D1 127 (i * 12 + j) = ntC D i j) → (∀ i : Nat, i < n → D1 123 i = clAl D n i ∧ D1 128 i = clSp D i) → D1 121 7 = k → (∀ i : Nat, i < n → D1 124 i = p i ∧ D1 125 i = gtP n (ntC D) (clAl D n) p i) → (∀ a : Nat, a < n → 0 ≤ p a ∧ p a ≤ clAl D n a) → clX D n = (if c = 0 then (k, p) else clP n (ntC D) (clAl D n) (clSp D) f k p) → V G l (d + 2) iX1_settleAll 67 [rf 121, rf 101, (0, (n : Int)), (0, c), u4] [] (K, D1, z) P := by
    intro f
    induction f with
    | zero =>
      intro k D1 p c u4 hf f1 f2 f3 f4 f5 f6 f7
      have hX : clX D n = (k, p) := by rw [f7]; split <;> rfl
      have hk2 : k = 200 := by omega
      refine s_al0 rfl ?_
      refine s_gi rfl (hk.at rfl rfl) rfl ?_
      rw [f4]
      refine s_ic rfl ?_
      refine s_cge rfl ?_ ?_
      · intro h74
        refine s_al0 rfl ?_
        refine s_ic rfl ?_
        refine s_pi rfl (hk.at rfl rfl) rfl ?_
        refine s_ic rfl ?_
        refine s_is4 rfl rfl ?_
        exact fin n 0 _ _ (by omega) (fun r q => by rw [aUp_row (by omega)]; exact f1 r q) (fun a b ha hb => by rw [aUp_row (by decide)]; exact f2 a b ha hb) (fun a ha => by rw [aUp_row (by decide), aUp_row (by decide)]; exact f3 a ha) (by rw [aUp_same, uF_ne (by decide), f4, hX]) (by rw [aUp_same, uF_at]; rfl) (fun j hj => by rw [aUp_row (by decide), aUp_row (by decide), hX]; exact f5 j hj) (fun j hj => absurd hj (Nat.not_lt_zero j))
      · intro h74
        omega
    | succ f ih =>
      intro k D1 p c u4 hf f1 f2 f3 f4 f5 f6 f7
      refine s_al0 rfl ?_
      refine s_gi rfl (hk.at rfl rfl) rfl ?_
      rw [f4]
      refine s_ic rfl ?_
      refine s_cge rfl ?_ ?_
      · intro h74
        omega
      · intro h74
        refine s_il3 rfl ?_
        refine s_zeq rfl ?_ ?_
        · intro h78
          have hX : clX D n = (k, p) := by rw [f7, if_pos h78]
          refine s_al0 rfl ?_
          refine s_ic rfl ?_
          refine s_pi rfl (hk.at rfl rfl) rfl ?_
          refine s_ic rfl ?_
          refine s_is4 rfl rfl ?_
          exact fin n 0 _ _ (by omega) (fun r q => by rw [aUp_row (by omega)]; exact f1 r q) (fun a b ha hb => by rw [aUp_row (by decide)]; exact f2 a b ha hb) (fun a ha => by rw [aUp_row (by decide), aUp_row (by decide)]; exact f3 a ha) (by rw [aUp_same, uF_ne (by decide), f4, hX]) (by rw [aUp_same, uF_at]; rfl) (fun j hj => by rw [aUp_row (by decide), aUp_row (by decide), hX]; exact f5 j hj) (fun j hj => absurd hj (Nat.not_lt_zero j))
        · intro h78
          refine s_al0 rfl ?_
          refine s_dup rfl (by decide) ?_
          refine s_gi rfl (hk.at rfl rfl) rfl ?_
          rw [f4]
          refine s_ic rfl ?_
          refine s_iadd rfl ⟨by omega, by omega⟩ ?_
          refine s_pi rfl (hk.at rfl rfl) rfl ?_
          refine s_al0 rfl ?_
          refine s_il2 rfl ?_
          refine s_callO rfl rfl (Or.inl rfl) rfl rfl (hk.at rfl rfl) (v_payRound (D := aUp D1 121 7 ((k : Int) + 1)) hk hn (fun i hi => ?_) (fun D2 a1 a2 a3 => ?_))
          · rw [aUp_row (by decide), aUp_row (by decide), (f3 i hi).2, (f5 i hi).2]
            have := sp0 i hi
            exact ⟨⟨this.1, by omega⟩, gtb p i hi f6⟩
          have prE : ∀ i : Nat, i < n → prC (aUp D1 121 7 ((k : Int) + 1)) i = prP n (ntC D) (clAl D n) (clSp D) p i := fun i hi => by
            unfold prC prP
            rw [aUp_row (by decide), aUp_row (by decide), aUp_row (by decide), (f3 i hi).1, (f3 i hi).2, (f5 i hi).2]
          have chE : chB (aUp D1 121 7 ((k : Int) + 1) 124) (prC (aUp D1 121 7 ((k : Int) + 1))) n = chB p (prP n (ntC D) (clAl D n) (clSp D) p) n := chB_congr (fun i hi => by rw [aUp_row (by decide)]; exact (f5 i hi).1) prE
          rw [chE]
          have hq : ∀ a : Nat, a < n → 0 ≤ prP n (ntC D) (clAl D n) (clSp D) p a ∧ prP n (ntC D) (clAl D n) (clSp D) p a ≤ clAl D n a := fun a h => by
            have h1 := (gtb p a h f6).1
            have h2 := (sp0 a h).1
            have h3 := al0 a
            unfold prP
            split <;> omega
          have b1 : ∀ r, r ≠ 124 → r ≠ 121 → D2 r = D1 r := fun r q1 q2 => by rw [a1 r q1, aUp_row q2]
          have b2 : D2 121 7 = ((k + 1 : Nat) : Int) := by rw [a1 121 (by decide), aUp_at]; rfl
          have g2 : ∀ i j : Nat, i < n → j < n → D2 127 (i * 12 + j) = ntC D i j := fun a b ha hb => by rw [b1 127 (by decide) (by decide)]; exact f2 a b ha hb
          have g3 : ∀ i : Nat, i < n → D2 123 i = clAl D n i ∧ D2 128 i = clSp D i := fun a ha => by rw [b1 123 (by decide) (by decide), b1 128 (by decide) (by decide)]; exact f3 a ha
          obtain ⟨cl1, cl2⟩ := clB D2 (prP n (ntC D) (clAl D n) (clSp D) p) g2 g3 (fun i hi => by rw [a2 i hi]; exact prE i hi) hq
          generalize hcc : (if chB p (prP n (ntC D) (clAl D n) (clSp D) p) n = true then (1 : Int) else 0) = c2
          show V G l (d + 2) iX1_settleAll 96 [rf 121, rf 101, (0, (n : Int)), (0, c), u4] [(0, c2)] (K, D2, z) P
          refine s_is3 rfl rfl ?_
          refine s_al0 rfl ?_
          refine s_il2 rfl ?_
          refine s_callO rfl rfl (Or.inl rfl) rfl rfl (hk.at rfl rfl) (v_takeShares hk hn cl2 (fun D3 e1 e2 e3 => ?_))
          show V G l (d + 2) iX1_settleAll 102 [rf 121, rf 101, (0, (n : Int)), (0, c2), u4] [] (K, D3, z) P
          refine s_go rfl ?_
          refine ih (k + 1) D3 (prP n (ntC D) (clAl D n) (clSp D) p) c2 u4 (by omega) (fun r q => by rw [e1 r (by omega), b1 r (by omega) (by omega)]; exact f1 r q) (fun a b ha hb => by rw [e1 127 (by decide)]; exact g2 a b ha hb) (fun a ha => by rw [e1 123 (by decide), e1 128 (by decide)]; exact g3 a ha) (by rw [e1 121 (by decide)]; exact b2) (fun i hi => ⟨by rw [e1 124 (by decide), a2 i hi]; exact prE i hi, ?_⟩) hq ?_
          · rw [e2 i hi]
            exact (cl1 i).elim id (fun q => by omega)
          · rw [f7, if_neg h78, clP]
            by_cases y : chB p (prP n (ntC D) (clAl D n) (clSp D) p) n = true
            · rw [if_pos y] at hcc ⊢
              rw [if_neg (by omega)]
            · rw [if_neg y] at hcc ⊢
              rw [if_pos (by omega)]
  have start : ∀ (m i : Nat) (D1 : Nat → Int → Int), i + m = n → (∀ r, (r < 121 ∨ 128 < r ∨ r = 122 ∨ r = 121) → D1 r = D r) → (∀ a b : Nat, a < i → b < n → D1 127 (a * 12 + b) = ntC D a b) → (∀ a : Nat, a < i → D1 123 a = clAl D n a ∧ D1 124 a = clAl D n a ∧ D1 128 a = clSp D a) → V G l (d + 2) iX1_settleAll 2 [rf 121, rf 101, (0, (n : Int)), (0, (i : Int)), (9, 0)] [] (K, D1, z) P := by
    intro m
    induction m with
    | zero =>
      intro i D1 hm f1 f2 f3
      have hi : i = n := by omega
      subst hi
      refine s_il3 rfl ?_
      refine s_il2 rfl ?_
      refine s_cge rfl ?_ ?_
      · intro h4
        refine s_al0 rfl ?_
        refine s_il2 rfl ?_
        refine s_callO rfl rfl (Or.inl rfl) rfl rfl (hk.at rfl rfl) (v_takeShares hk hn (clB D1 (clAl D i) f2 (fun a ha => ⟨(f3 a ha).1, (f3 a ha).2.2⟩) (fun a ha => (f3 a ha).2.1) (fun a ha => ⟨al0 a, Int.le_refl _⟩)).2 (fun D3 e1 e2 e3 => ?_))
        show V G l (d + 2) iX1_settleAll 60 [rf 121, rf 101, (0, (i : Int)), (0, (i : Int)), (9, 0)] [] (K, D3, z) P
        have cl1 := (clB D1 (clAl D i) f2 (fun a ha => ⟨(f3 a ha).1, (f3 a ha).2.2⟩) (fun a ha => (f3 a ha).2.1) (fun a ha => ⟨al0 a, Int.le_refl _⟩)).1
        refine s_ic rfl ?_
        refine s_is3 rfl rfl ?_
        refine s_al0 rfl ?_
        refine s_ic rfl ?_
        refine s_pi rfl (hk.at rfl rfl) rfl ?_
        refine loop 200 0 _ (clAl D i) 1 _ rfl (fun r q => by rw [aUp_row (by omega), e1 r (by omega)]; exact f1 r (by omega)) (fun a b ha hb => by rw [aUp_row (by decide), e1 127 (by decide)]; exact f2 a b ha hb) (fun a ha => by rw [aUp_row (by decide), aUp_row (by decide), e1 123 (by decide), e1 128 (by decide)]; exact ⟨(f3 a ha).1, (f3 a ha).2.2⟩) (by rw [aUp_same, uF_at]; rfl) (fun j hj => ⟨by rw [aUp_row (by decide), e1 124 (by decide)]; exact (f3 j hj).2.1, ?_⟩) (fun a ha => ⟨al0 a, Int.le_refl _⟩) (by rw [if_neg (by decide)])
        rw [aUp_row (by decide), e2 j hj]
        exact (cl1 j).elim id (fun q => by omega)
      · intro h4
        omega
    | succ m ih =>
      intro i D1 hm f1 f2 f3
      have w2 : D1 102 = D 102 := f1 _ (by omega)
      have hnt : ∀ a b, ntC D1 a b = ntC D a b := fun a b => by unfold ntC; rw [w2]
      have hal : ∀ a : Int, sumF (fun b : Nat => ntC D1 a b) n = clAl D n a := fun a => sumF_congr fun b _ => hnt a b
      have hpi := hp i (by omega)
      have hdi := hd i (by omega)
      refine s_il3 rfl ?_
      refine s_il2 rfl ?_
      refine s_cge rfl ?_ ?_
      · intro h4
        omega
      · intro h4
        refine s_al0 rfl ?_
        refine s_al1 rfl ?_
        refine s_il3 rfl ?_
        refine s_il2 rfl ?_
        refine s_callO rfl rfl (Or.inl rfl) rfl rfl (hk.at rfl rfl) (v_takeNet hk (by omega) hn (by rw [w2]; exact hO) (by rw [hal]; exact hrow i (by omega)) (fun D2 e1 e2 e3 e4 => ?_))
        show V G l (d + 2) iX1_settleAll 14 [rf 121, rf 101, (0, (n : Int)), (0, (i : Int)), (9, 0)] [] (K, D2, z) P
        rw [hal] at e2
        have x3 : D2 123 i = clAl D n i := by rw [e2, uF_at]
        have x2 : aUp D2 124 i (clAl D n i) 122 = D 122 := by rw [aUp_row (by decide), e1 122 (by decide) (by decide)]; exact f1 122 (by omega)
        have x1 : aUp D2 124 i (clAl D n i) 103 = D 103 := by rw [aUp_row (by decide), e1 103 (by decide) (by decide)]; exact f1 103 (by omega)
        refine s_al0 rfl ?_
        refine s_gf rfl (hk.at rfl rfl) rfl rfl ?_
        refine s_il3 rfl ?_
        refine s_al0 rfl ?_
        refine s_gf rfl (hk.at rfl rfl) rfl rfl ?_
        refine s_il3 rfl ?_
        refine s_iald rfl (hk.at rfl rfl) (by omega) ?_
        rw [x3]
        refine s_iast rfl (hk.at rfl rfl) (by omega) ?_
        refine s_al0 rfl ?_
        refine s_gf rfl (hk.at rfl rfl) rfl rfl ?_
        refine s_il3 rfl ?_
        refine s_ic rfl ?_
        refine s_al0 rfl ?_
        refine s_gf rfl (hk.at rfl rfl) rfl rfl ?_
        refine s_il3 rfl ?_
        refine s_iald rfl (hk.at rfl rfl) (by omega) ?_
        rw [x2]
        refine s_al1 rfl ?_
        refine s_gf rfl (hk.at rfl rfl) rfl rfl ?_
        refine s_il3 rfl ?_
        refine s_iald rfl (hk.at rfl rfl) (by omega) ?_
        rw [x1]
        refine s_isub rfl ⟨by omega, by omega⟩ ?_
        refine s_max rfl rfl ?_
        refine s_iast rfl (hk.at rfl rfl) (by omega) ?_
        refine s_iinc3 rfl rfl ⟨by omega, by omega⟩ ?_
        refine s_go rfl ?_
        refine ih (i + 1) _ (by omega) (fun r q => by rw [aUp_row (by omega), aUp_row (by omega), e1 r (by omega) (by omega)]; exact f1 r q) (fun a b ha hb => ?_) (fun a ha => ?_)
        · rw [aUp_row (by decide), aUp_row (by decide)]
          rcases (by omega : a < i ∨ a = i) with y | y
          · rw [e4 _ (by omega)]; exact f2 a b y hb
          · subst y; rw [e3 b hb, hnt]
        · rw [aUp_row (by decide), aUp_row (by decide), aUp_row (by decide), aUp_same, aUp_same, e2, aUp_row (by decide), e1 128 (by decide) (by decide), e1 124 (by decide) (by decide)]
          rcases (by omega : a < i ∨ a = i) with y | y
          · rw [uF_ne (by omega), uF_ne (by omega), uF_ne (by omega)]; exact f3 a y
          · subst y; rw [uF_at, uF_at, uF_at]; exact ⟨rfl, rfl, rfl⟩
  refine VM_go (tg2 rfl) (Nat.le_of_ble_eq_true rfl) ?_
  refine s_ic rfl ?_
  refine s_is3 rfl rfl ?_
  exact start n 0 D (by omega) (fun _ _ => rfl) (fun a b ha => absurd ha (Nat.not_lt_zero a)) (fun a ha => absurd ha (Nat.not_lt_zero a))
end
