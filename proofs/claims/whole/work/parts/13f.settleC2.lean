theorem rs_congr2 {w w' : WT} {ra ra' U U' : Nat → Int} {t : Nat} (h0 : w' t = w t) (h1 : ra' t = ra t) (h2 : U' t = U t) : rsF w' ra' U' t = rsF w ra U t ∧ pmF w' ra' U' t = pmF w ra U t := by
  have h : rsF w' ra' U' t = rsF w ra U t := by unfold rsF; rw [h0, h1, h2]
  refine ⟨h, ?_⟩
  unfold pmF
  rw [h0, h]
theorem prt_zero {x : Int} : prt 0 x = 0 := by unfold prt; simp
theorem cuT_zero {w : WT} {t n : Nat} {a b : Int} : cuT w t 0 a b n = 0 := by
  unfold cuT
  rw [sumF_congr (g := fun _ => 0) (fun i _ => by rw [prt_zero]; split <;> rfl), sumF_zero]
theorem cuO_zero {w : WT} {t n : Nat} {a b : Int} : cuO w t 0 a b n = 0 := by
  unfold cuO
  rw [sumF_congr (g := fun _ => 0) (fun i _ => by rw [prt_zero]; split <;> rfl), sumF_zero]
def SeC (T a n : Nat) (D D' : Nat → Int → Int) : Prop := (∀ r, r ≠ 102 → r ≠ 103 → r ≠ 109 → r ≠ 110 → r ≠ a + 8 → r ≠ a + 9 → D' r = D r) ∧ (∀ h : Nat, h < 12 → D' 103 h = D 103 h + D (a + 1) h) ∧ (∀ t : Nat, t < n → D' 109 t = D 109 t + (if wC D T t 1 = 0 then 0 else useC D a t) ∧ D' 110 t = D 110 t + rsF (wC D T) (raC D) (useC D a) t ∧ D' (a + 8) t = rsF (wC D T) (raC D) (useC D a) t ∧ D' (a + 9) t = pmF (wC D T) (raC D) (useC D a) t) ∧ (∀ j : Int, (n : Int) ≤ j → D' 109 j = D 109 j ∧ D' 110 j = D 110 j) ∧ ∀ a' b : Int, 0 ≤ a' → a' < 12 → 0 ≤ b → b < 12 → D' 102 (a' * 12 + b) = D 102 (a' * 12 + b) + owF (wC D T) (raC D) (useC D a) (basC D a) a' b n
section
variable {G : aCX} {l : Launch} {d : Nat} {K : Nat → aKd} {D : Nat → Int → Int} {z : Nat × Nat} {P : Int → aSt → Prop}
theorem v_settle {T a nt : Nat} {nh : Int} (hk : Kn K) (hT : isT T) (ha : Kh K a) (hw : wOk (wC D T) nt nh) (hn : D T 1 = nt) (hB : WcB D T nt) (hd : ∀ h : Nat, h < 12 → (0 ≤ D (a + 1) h ∧ D (a + 1) h ≤ 6000000) ∧ (0 ≤ D 103 h ∧ D 103 h ≤ 400000000)) (hU : ∀ t : Nat, t < nt → (0 ≤ useC D a t ∧ useC D a t ≤ 20000000) ∧ (0 ≤ basC D a t ∧ basC D a t ≤ 20000000) ∧ (0 ≤ D 109 t ∧ D 109 t ≤ 10000000) ∧ (0 ≤ raC D t ∧ raC D t ≤ wC D T t 3 * wC D T t 5)) (hO : ∀ a' b : Int, 0 ≤ a' → a' < 12 → 0 ≤ b → b < 12 → 0 ≤ D 102 (a' * 12 + b) ∧ D 102 (a' * 12 + b) + owF (wC D T) (raC D) (useC D a) (basC D a) a' b nt ≤ 2000000000) (kk : ∀ D', SeC T a nt D D' → P 0 (K, D', z)) : VM G l (d + 3) iX5_settle [rf 101, rf a, rf T] (K, D, z) P := by
  have hT2 : T = 8 ∨ T = 129 := hT
  have n24 := hw.1
  have ha' := ha
  obtain ⟨ha0, k0, k1, k2, k3, k4, k5, k6, k7, k8, k9⟩ := ha
  have pin : ∀ t : Nat, t < nt → (0 ≤ rsF (wC D T) (raC D) (useC D a) t ∧ rsF (wC D T) (raC D) (useC D a) t ≤ useC D a t) ∧ 0 ≤ pmF (wC D T) (raC D) (useC D a) t ∧ (useC D a t = 0 → rsF (wC D T) (raC D) (useC D a) t = 0 ∧ pmF (wC D T) (raC D) (useC D a) t = 0) := fun t ht => by
    obtain ⟨l3, l5, l6, l1⟩ := hB t ht
    obtain ⟨u1, u2, u3, u4⟩ := hU t ht
    have h1 : (0 ≤ rsF (wC D T) (raC D) (useC D a) t ∧ rsF (wC D T) (raC D) (useC D a) t ≤ useC D a t) ∧ (useC D a t = 0 → rsF (wC D T) (raC D) (useC D a) t = 0) := by
      unfold rsF
      split
      · exact ⟨by omega, fun _ => rfl⟩
      · split
        · exact ⟨by omega, fun q => by omega⟩
        · exact ⟨by omega, fun q => by omega⟩
    refine ⟨h1.1, ?_, fun q => ⟨h1.2 q, ?_⟩⟩
    · unfold pmF
      split
      · omega
      · exact Int.ediv_nonneg (Int.mul_nonneg l6.1 h1.1.1) l3.1
    · unfold pmF
      split
      · rfl
      · rw [h1.2 q, Int.mul_zero, Int.zero_ediv]
  have tin : ∀ (t : Nat) (a' b : Int), t < nt → 0 ≤ owT (wC D T) t (if wC D T t 1 = 0 then basC D a t else useC D a t) (pmF (wC D T) (raC D) (useC D a) t) a' b (wC D T t 7).toNat := fun t a' b ht => by
    obtain ⟨u1, u2, u3, u4⟩ := hU t ht
    have h7 := (hw.2.2.2 t ht).2.2.2.2.1
    rw [owT_split]
    have q1 := cuT_mono (a := a') (b := b) (am := (if wC D T t 1 = 0 then basC D a t else useC D a t)) (n := (wC D T t 7).toNat) (m := (wC D T t 7).toNat) hw ht (by split <;> omega) (by omega) (Nat.le_refl _)
    have q2 := cuO_mono (a := a') (b := b) (am := pmF (wC D T) (raC D) (useC D a) t) (n := (wC D T t 7).toNat) (m := (wC D T t 7).toNat) hw ht (pin t ht).2.1 (by omega) (Nat.le_refl _)
    omega
  have om : ∀ (n m : Nat) (a' b : Int), n ≤ m → m ≤ nt → owF (wC D T) (raC D) (useC D a) (basC D a) a' b n ≤ owF (wC D T) (raC D) (useC D a) (basC D a) a' b m := fun n m a' b h1 h2 => by
    unfold owF
    exact sumF_mono (fun t ht => tin t a' b (by omega)) h1
  have os : ∀ (t : Nat) (a' b : Int), owF (wC D T) (raC D) (useC D a) (basC D a) a' b (t + 1) = owF (wC D T) (raC D) (useC D a) (basC D a) a' b t + owT (wC D T) t (if wC D T t 1 = 0 then basC D a t else useC D a t) (pmF (wC D T) (raC D) (useC D a) t) a' b (wC D T t 7).toNat := fun t a' b => rfl
  have loop : ∀ (m t : Nat) (D1 : Nat → Int → Int) (u4 u5 : aTV), t + m = nt → SeC T a t D D1 → Nat.beq u4.1 1 = false → V G l (d + 3) iX5_settle 7 [rf 101, rf a, rf T, (0, (t : Int)), u4, u5] [] (K, D1, z) P := by
    intro m
    induction m with
    | zero =>
      intro t D1 u4 u5 hm hC hu4
      have ht : t = nt := by omega
      have w1 : D1 T = D T := hC.1 _ (by omega) (by omega) (by omega) (by omega) (by omega) (by omega)
      refine s_il3 rfl ?_
      refine s_al2 rfl ?_
      refine s_gi rfl (KT hk hT) rfl ?_
      rw [w1, hn]
      refine s_cge rfl ?_ ?_
      · intro h12
        refine s_retv rfl rfl ?_
        subst ht
        exact kk D1 hC
      · intro h12
        omega
    | succ m ih =>
      intro t D1 u4 u5 hm hC hu4
      have ht : t < nt := by omega
      have ht24 : t < 24 := by omega
      obtain ⟨c1, c2, c3, c4, c5⟩ := id hC
      obtain ⟨t1, t2, t3⟩ := KTt hk hT ht24
      have w1 : D1 T = D T := c1 _ (by omega) (by omega) (by omega) (by omega) (by omega) (by omega)
      have h7 := (hw.2.2.2 t ht).2.2.2.2.1
      have h01 := (hw.2.2.2 t ht).2.1
      obtain ⟨u1, u2, u3, u4'⟩ := hU t ht
      obtain ⟨p1, p2, p3⟩ := pin t ht
      generalize hE : aUp (aUp D1 (a + 8) t 0) (a + 9) t 0 = E
      have er : ∀ r, r ≠ a + 8 → r ≠ a + 9 → E r = D1 r := fun r r1 r2 => by rw [← hE, aUp_row r2, aUp_row r1]
      have e8 : E (a + 8) = uF (D1 (a + 8)) t 0 := by rw [← hE, aUp_row (by omega), aUp_same]
      have e9 : E (a + 9) = uF (D1 (a + 9)) t 0 := by rw [← hE, aUp_same, aUp_row (by omega)]
      have eD : ∀ r, r ≠ 102 → r ≠ 103 → r ≠ 109 → r ≠ 110 → r ≠ a + 8 → r ≠ a + 9 → E r = D r := fun r r1 r2 r3 r4 r5 r6 => by rw [er r r5 r6, c1 r r1 r2 r3 r4 r5 r6]
      have ewt : ∀ s, s < nt → wC E T s = wC D T s := wC_congr n24 (fun r q1 q2 => eD r (by omega) (by omega) (by omega) (by omega) (by omega) (by omega))
      have e6 : E (a + 6) = D (a + 6) := eD _ (by omega) (by omega) (by omega) (by omega) (by omega) (by omega)
      have e5 : E (a + 5) = D (a + 5) := eD _ (by omega) (by omega) (by omega) (by omega) (by omega) (by omega)
      have et1 : E (T + 9 + 3 * t) 1 = wC D T t 1 := by rw [eD _ (by omega) (by omega) (by omega) (by omega) (by omega) (by omega)]; exact (wC_f (by decide)).symm
      have next : ∀ (D4 : Nat → Int → Int) (u4 u5 : aTV), Nat.beq u4.1 1 = false → (∀ r, r ≠ 102 → r ≠ 109 → r ≠ 110 → r ≠ a + 8 → r ≠ a + 9 → D4 r = D1 r) → D4 109 = uF (D1 109) t (D 109 t + (if wC D T t 1 = 0 then 0 else useC D a t)) → D4 110 = uF (D1 110) t (D 110 t + rsF (wC D T) (raC D) (useC D a) t) → D4 (a + 8) = uF (D1 (a + 8)) t (rsF (wC D T) (raC D) (useC D a) t) → D4 (a + 9) = uF (D1 (a + 9)) t (pmF (wC D T) (raC D) (useC D a) t) → (∀ a' b : Int, 0 ≤ a' → a' < 12 → 0 ≤ b → b < 12 → D4 102 (a' * 12 + b) = D1 102 (a' * 12 + b) + owT (wC D T) t (if wC D T t 1 = 0 then basC D a t else useC D a t) (pmF (wC D T) (raC D) (useC D a) t) a' b (wC D T t 7).toNat) → V G l (d + 3) iX5_settle 107 [rf 101, rf a, rf T, (0, (t : Int)), u4, u5] [] (K, D4, z) P := by
        intro D4 u4 u5 hu4 g1 g09 g10 g8 g9 g2
        refine s_iinc3 rfl rfl ⟨by omega, by omega⟩ ?_
        refine s_go rfl ?_
        refine ih (t + 1) D4 _ _ (by omega) ⟨fun r r1 r2 r3 r4 r5 r6 => by rw [g1 r r1 r3 r4 r5 r6, c1 r r1 r2 r3 r4 r5 r6], fun h hh => by rw [g1 _ (by omega) (by omega) (by omega) (by omega) (by omega)]; exact c2 h hh, fun s hs => ?_, fun j hj => ?_, fun a' b a1 a2 b1 b2 => ?_⟩ hu4
        · rw [g09, g10, g8, g9]
          rcases (by omega : s < t ∨ s = t) with q | q
          · rw [uF_ne (by omega), uF_ne (by omega), uF_ne (by omega), uF_ne (by omega)]; exact c3 s q
          · subst q; rw [uF_at, uF_at, uF_at, uF_at]; exact ⟨rfl, rfl, rfl, rfl⟩
        · rw [g09, g10, uF_ne (by omega), uF_ne (by omega)]; exact c4 j (by omega)
        · rw [g2 a' b a1 a2 b1 b2, c5 a' b a1 a2 b1 b2, os]; omega
      have q9 : D1 109 t = D 109 t := (c4 t (Int.le_refl _)).1
      have q10 : D1 110 t = D 110 t := (c4 t (Int.le_refl _)).2
      have same : ∀ {f : Int → Int} {x y : Int}, f x = y → uF f x y = f := fun {f x y} h => by
        funext j; unfold uF; split
        · rename_i q; rw [q, h]
        · rfl
      have hsp : ∀ a' b, owT (wC D T) t (if wC D T t 1 = 0 then basC D a t else useC D a t) (pmF (wC D T) (raC D) (useC D a) t) a' b (wC D T t 7).toNat = cuT (wC D T) t (if wC D T t 1 = 0 then basC D a t else useC D a t) a' b (wC D T t 7).toNat + cuO (wC D T) t (pmF (wC D T) (raC D) (useC D a) t) a' b (wC D T t 7).toNat := fun a' b => owT_split
      have cup : ∀ a' b, 0 ≤ cuO (wC D T) t (pmF (wC D T) (raC D) (useC D a) t) a' b (wC D T t 7).toNat := fun a' b => (cuO_mono (a := a') (b := b) (am := pmF (wC D T) (raC D) (useC D a) t) (n := (wC D T t 7).toNat) (m := (wC D T t 7).toNat) hw ht p2 (by omega) (Nat.le_refl _)).1
      have bnd : ∀ a' b : Int, 0 ≤ a' → a' < 12 → 0 ≤ b → b < 12 → 0 ≤ D1 102 (a' * 12 + b) ∧ D1 102 (a' * 12 + b) + owT (wC D T) t (if wC D T t 1 = 0 then basC D a t else useC D a t) (pmF (wC D T) (raC D) (useC D a) t) a' b (wC D T t 7).toNat ≤ 2000000000 := fun a' b a1 a2 b1 b2 => by
        have z1 := hO a' b a1 a2 b1 b2
        have z2 := om 0 t a' b (by omega) (by omega)
        have z3 := om (t + 1) nt a' b (by omega) (by omega)
        have z4 := os t a' b
        have z5 : owF (wC D T) (raC D) (useC D a) (basC D a) a' b 0 = 0 := rfl
        rw [c5 a' b a1 a2 b1 b2]
        omega
      have have75 : ∀ (am : Int), am = (if wC D T t 1 = 0 then basC D a t else useC D a t) → V G l (d + 3) iX5_settle 62 [rf 101, rf a, rf T, (0, (t : Int)), rf (T + 9 + 3 * t), (0, am)] [] (K, E, z) P := by
        intro am hAm
        have ham0 : 0 ≤ am ∧ am ≤ 20000000 := by rw [hAm]; split <;> omega
        have none : am = 0 → V G l (d + 3) iX5_settle 107 [rf 101, rf a, rf T, (0, (t : Int)), rf (T + 9 + 3 * t), (0, am)] [] (K, E, z) P := fun q0 => by
          have z : rsF (wC D T) (raC D) (useC D a) t = 0 ∧ pmF (wC D T) (raC D) (useC D a) t = 0 ∧ (if wC D T t 1 = 0 then 0 else useC D a t) = 0 := by
            by_cases q : wC D T t 1 = 0
            · rw [if_pos q]; unfold pmF rsF; rw [if_pos q, if_pos q]; exact ⟨rfl, rfl, rfl⟩
            · rw [if_neg q] at hAm; rw [if_neg q]
              have := p3 (by omega)
              exact ⟨this.1, this.2, by omega⟩
          refine next E _ _ rfl (fun r _ _ _ r4 r5 => er r r4 r5) ?_ ?_ ?_ ?_ (fun a' b a1 a2 b1 b2 => ?_)
          · rw [z.2.2, er 109 (by omega) (by omega)]; exact (same (by rw [q9]; omega)).symm
          · rw [z.1, er 110 (by omega) (by omega)]; exact (same (by rw [q10]; omega)).symm
          · rw [z.1, e8]
          · rw [z.2.1, e9]
          · rw [hsp, ← hAm, q0, z.2.1, cuT_zero, cuO_zero, er 102 (by omega) (by omega)]; omega
        have some : 0 < am → V G l (d + 3) iX5_settle 67 [rf 101, rf a, rf T, (0, (t : Int)), rf (T + 9 + 3 * t), (0, am)] [] (K, E, z) P := fun q0 => by
          have main : ∀ D2 : Nat → Int → Int, (∀ r, r ≠ 102 → D2 r = E r) → (∀ a' b : Int, 0 ≤ a' → a' < 12 → 0 ≤ b → b < 12 → D2 102 (a' * 12 + b) = D1 102 (a' * 12 + b) + cuT (wC D T) t am a' b (wC D T t 7).toNat) → V G l (d + 3) iX5_settle 75 [rf 101, rf a, rf T, (0, (t : Int)), rf (T + 9 + 3 * t), (0, am)] [] (K, D2, z) P := by
            intro D2 f1 f2
            have ft1 : D2 (T + 9 + 3 * t) 1 = wC D T t 1 := by rw [f1 _ (by omega), et1]
            have f9 : D2 109 t = D 109 t := by rw [f1 _ (by omega), er _ (by omega) (by omega), q9]
            refine s_il5 rfl ?_
            refine s_zle rfl ?_ ?_
            · intro h77
              omega
            · intro h77
              refine s_al4 rfl ?_
              refine s_gz rfl t1 rfl ?_
              rw [ft1]
              refine s_zeq rfl ?_ ?_
              · intro h85
                have hz : rsF (wC D T) (raC D) (useC D a) t = 0 ∧ pmF (wC D T) (raC D) (useC D a) t = 0 := by unfold pmF rsF; rw [if_pos h85, if_pos h85]; exact ⟨rfl, rfl⟩
                refine next D2 _ _ rfl (fun r r1 _ _ r4 r5 => by rw [f1 r r1, er r r4 r5]) ?_ ?_ ?_ ?_ (fun a' b a1 a2 b1 b2 => ?_)
                · rw [f1 _ (by omega), er 109 (by omega) (by omega), if_pos h85]; exact (same (by rw [q9]; omega)).symm
                · rw [hz.1, f1 _ (by omega), er 110 (by omega) (by omega)]; exact (same (by rw [q10]; omega)).symm
                · rw [hz.1, f1 _ (by omega), e8]
                · rw [hz.2, f1 _ (by omega), e9]
                · rw [f2 a' b a1 a2 b1 b2, hsp, ← hAm, hz.2, cuO_zero]; omega
              · intro h85
                refine s_al0 rfl ?_
                refine s_gf rfl (hk.at rfl rfl) rfl rfl ?_
                refine s_il3 rfl ?_
                refine s_dup2 rfl rfl rfl ?_
                refine s_iald rfl (hk.at rfl rfl) (by omega) ?_
                rw [f9]
                refine s_il5 rfl ?_
                refine s_iadd rfl ⟨by omega, by omega⟩ ?_
                refine s_iast rfl (hk.at rfl rfl) (by omega) ?_
                refine s_al0 rfl ?_
                refine s_al1 rfl ?_
                refine s_al4 rfl ?_
                refine s_il3 rfl ?_
                have hAu : am = useC D a t := by rw [hAm, if_neg h85]
                have ewF : ∀ s, s < nt → wC (aUp D2 109 t (D 109 t + am)) T s = wC D T s := wC_congr n24 (fun r q1 q2 => by rw [aUp_row (by omega), f1 r (by omega)]; exact eD r (by omega) (by omega) (by omega) (by omega) (by omega) (by omega))
                have hUF : useC (aUp D2 109 t (D 109 t + am)) a t = useC D a t := by show aUp D2 109 t (D 109 t + am) (a + 6) t = _; rw [aUp_row (by omega), f1 _ (by omega), e6]
                have hRF : raC (aUp D2 109 t (D 109 t + am)) t = raC D t := by show aUp D2 109 t (D 109 t + am) 110 t = _; rw [aUp_row (by omega), f1 _ (by omega), er _ (by omega) (by omega), q10]
                obtain ⟨v1, v2⟩ := rs_congr2 (ewF t ht) hRF hUF
                refine s_callO rfl rfl (Or.inl rfl) rfl rfl (hk.at rfl rfl) (v_reinstate (D := aUp D2 109 t (D 109 t + am)) (nt := nt) (nh := nh) hk hT ha' (wOk_congr hw ewF) ht (fun s hs => by rw [ewF s hs]; exact hB s hs) (by rw [ewF t ht]; exact h85) (by rw [hUF]; exact u1) (by rw [hRF, ewF t ht]; exact u4') (fun a' b a1 a2 b1 b2 => ?_) (fun D3 g1 g10 g8 g9 g2 => ?_))
                · rw [aUp_row (by omega), f2 a' b a1 a2 b1 b2, v2, cuO_congr (ewF t ht), ewF t ht]
                  have z1 := bnd a' b a1 a2 b1 b2
                  have z2 := cuT_mono (a := a') (b := b) (am := am) (n := (wC D T t 7).toNat) (m := (wC D T t 7).toNat) hw ht ham0.1 (by omega) (Nat.le_refl _)
                  rw [hsp, ← hAm] at z1
                  omega
                show V G l (d + 3) iX5_settle 107 [rf 101, rf a, rf T, (0, (t : Int)), rf (T + 9 + 3 * t), (0, am)] [] (K, D3, z) P
                rw [v1] at g10 g8
                rw [v2] at g9
                refine next D3 _ _ rfl (fun r r1 r2 r3 r4 r5 => by rw [g1 r r1 r3 r4 r5, aUp_row r2, f1 r r1, er r r4 r5]) ?_ ?_ ?_ ?_ (fun a' b a1 a2 b1 b2 => ?_)
                · rw [g1 _ (by omega) (by omega) (by omega) (by omega), aUp_same, f1 _ (by omega), er _ (by omega) (by omega), if_neg h85, hAu]
                · rw [g10, aUp_row (by omega), f1 _ (by omega), er _ (by omega) (by omega), q10]
                · rw [g8, aUp_row (by omega), f1 _ (by omega), e8, uF_uF]
                · rw [g9, aUp_row (by omega), f1 _ (by omega), e9, uF_uF]
                · rw [g2 a' b a1 a2 b1 b2, aUp_row (by omega), f2 a' b a1 a2 b1 b2, v2, cuO_congr (ewF t ht), ewF t ht, hsp, ← hAm]; omega
          refine s_al0 rfl ?_
          refine s_al4 rfl ?_
          refine s_il5 rfl ?_
          refine s_callO rfl rfl (Or.inl rfl) rfl rfl (hk.at rfl rfl) (v_partsOweOwner (D := E) (nt := nt) (nh := nh) hk hT (wOk_congr hw ewt) ht ⟨ham0.1, by omega⟩ (fun a' b a1 a2 b1 b2 => ?_) (fun D2 f1 f2 => ?_))
          · rw [er _ (by omega) (by omega), cuT_congr (ewt t ht), ewt t ht]
            have z1 := bnd a' b a1 a2 b1 b2
            have z2 := cup a' b
            rw [hsp, ← hAm] at z1
            omega
          show V G l (d + 3) iX5_settle 75 [rf 101, rf a, rf T, (0, (t : Int)), rf (T + 9 + 3 * t), (0, am)] [] (K, D2, z) P
          exact main D2 f1 (fun a' b a1 a2 b1 b2 => by rw [f2 a' b a1 a2 b1 b2, er _ (by omega) (by omega), cuT_congr (ewt t ht), ewt t ht])
        refine s_il5 rfl ?_
        refine s_zle rfl ?_ ?_
        · intro h64
          have q0 : am = 0 := by omega
          refine s_il5 rfl ?_
          refine s_zle rfl ?_ ?_
          · intro h77
            exact none q0
          · intro h77
            omega
        · intro h64
          exact some (by omega)
      refine s_il3 rfl ?_
      refine s_al2 rfl ?_
      refine s_gi rfl (KT hk hT) rfl ?_
      rw [w1, hn]
      refine s_cge rfl ?_ ?_
      · intro h12
        omega
      · intro h12
        refine s_al2 rfl ?_
        refine s_gf rfl (KT hk hT) rfl rfl ?_
        refine s_il3 rfl ?_
        refine s_aaldT rfl (KTa hk hT).1 (by omega) (by rw [Int.toNat_natCast, List.getElem?_map, List.getElem?_range (by omega)]; rfl) ?_
        refine s_as4 rfl rfl ?_
        refine s_al1 rfl ?_
        refine s_gf rfl k0 rfl rfl ?_
        refine s_il3 rfl ?_
        refine s_ic rfl ?_
        refine s_iast rfl k8 (by omega) ?_
        refine s_al1 rfl ?_
        refine s_gf rfl k0 rfl rfl ?_
        refine s_il3 rfl ?_
        refine s_ic rfl ?_
        refine s_iast rfl k9 (by omega) ?_
        rw [hE]
        refine s_al4 rfl ?_
        refine s_gz rfl t1 rfl ?_
        rw [et1]
        refine s_zeq rfl ?_ ?_
        · intro h42
          refine s_al1 rfl ?_
          refine s_gf rfl k0 rfl rfl ?_
          refine s_il3 rfl ?_
          refine s_iald rfl k5 (by omega) ?_
          rw [e5]
          refine s_is5 rfl rfl ?_
          exact have75 _ (by first | rw [if_pos h42] | rw [if_neg h42])
        · intro h42
          refine s_al1 rfl ?_
          refine s_gf rfl k0 rfl rfl ?_
          refine s_il3 rfl ?_
          refine s_iald rfl k6 (by omega) ?_
          rw [e6]
          refine s_go rfl ?_
          refine s_is5 rfl rfl ?_
          exact have75 _ (by first | rw [if_pos h42] | rw [if_neg h42])
  refine VM_go (tg2 rfl) (Nat.le_of_ble_eq_true rfl) ?_
  refine s_al0 rfl ?_
  refine s_al1 rfl ?_
  refine s_callO rfl rfl (Or.inl rfl) rfl rfl (hk.at rfl rfl) (v_addDirect hk ha' hd (fun D1 f1 f2 => ?_))
  show V G l (d + 3) iX5_settle 5 [rf 101, rf a, rf T, (9, 0), (9, 0), (9, 0)] [] (K, D1, z) P
  refine s_ic rfl ?_
  refine s_is3 rfl rfl ?_
  exact loop nt 0 D1 _ _ (by omega) ⟨fun r _ r2 _ _ _ _ => f1 r r2, f2, fun s hs => absurd hs (Nat.not_lt_zero s), fun j _ => by rw [f1 109 (by omega), f1 110 (by omega)]; exact ⟨rfl, rfl⟩, fun a' b _ _ _ _ => by rw [f1 102 (by omega)]; exact (Int.add_zero _).symm⟩ rfl
end
