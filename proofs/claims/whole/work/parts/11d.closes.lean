/-! ===== what an event leaves owed. U, B: uses and bases; ra: restored ahead ===== -/
def rsF (w : WT) (ra U : Nat → Int) (t : Nat) : Int := if w t 1 = 0 then 0 else if U t < w t 3 * w t 5 - ra t then U t else w t 3 * w t 5 - ra t
def pmF (w : WT) (ra U : Nat → Int) (t : Nat) : Int := if w t 1 = 0 then 0 else w t 6 * rsF w ra U t / w t 3
/-- what a treaty's n first parts add to what a owes b, at amount am and premium pm -/
def owT (w : WT) (t : Nat) (am pm a b : Int) (n : Nat) : Int := sumF (fun i => (if w t (100 + i) = a ∧ w t 0 = b then prt am (w t (200 + i)) else 0) + (if w t 0 = a ∧ w t (100 + i) = b then prt pm (w t (200 + i)) else 0)) n
def owF (w : WT) (ra U B : Nat → Int) (a b : Int) (n : Nat) : Int := sumF (fun t => owT w t (if w t 1 = 0 then B t else U t) (pmF w ra U t) a b (w t 7).toNat) n
abbrev useM (D : Nat → Int → Int) (e : Nat) : Nat → Int := fun t => D 259 (24 * e + t)
abbrev basM (D : Nat → Int → Int) (e : Nat) : Nat → Int := fun t => D 258 (24 * e + t)
abbrev raM (D : Nat → Int → Int) : Nat → Int := fun t => D 264 t
def ClD (e n : Nat) (D D' : Nat → Int → Int) : Prop := (∀ r, r ≠ 261 → r ≠ 262 → r ≠ 263 → r ≠ 264 → r ≠ 267 → D' r = D r) ∧
  (∀ t : Nat, t < n → D' 261 (24 * e + t) = rsF (wM D) (raM D) (useM D e) t ∧ D' 262 (24 * e + t) = pmF (wM D) (raM D) (useM D e) t ∧ D' 263 t = D 263 t + (if wM D t 1 = 0 then 0 else useM D e t) ∧ D' 264 t = D 264 t + rsF (wM D) (raM D) (useM D e) t) ∧
  (∀ j : Int, ¬ (24 * (e : Int) ≤ j ∧ j < 24 * e + n) → D' 261 j = D 261 j ∧ D' 262 j = D 262 j) ∧ (∀ j : Int, ¬ (0 ≤ j ∧ j < n) → D' 263 j = D 263 j ∧ D' 264 j = D 264 j) ∧
  ∀ a b : Int, 0 ≤ a → a < 12 → 0 ≤ b → b < 12 → D' 267 (12 * a + b) = D 267 (12 * a + b) + owF (wM D) (raM D) (useM D e) (basM D e) a b n
theorem owT_in {w : WT} {nt t n : Nat} {nh am pm a b m : Int} (hw : wOk w nt nh) (ht : t < nt) (ha : 0 ≤ am ∧ am ≤ m) (hp : 0 ≤ pm ∧ pm ≤ m) (hn : (n : Int) ≤ w t 7) : 0 ≤ owT w t am pm a b n ∧ owT w t am pm a b n ≤ 22 * m := by
  obtain ⟨-, -, -, -, h7, hpp, -⟩ := hw.2.2.2 t ht
  have hin : ∀ i, i < n → 0 ≤ (if w t (100 + i) = a ∧ w t 0 = b then prt am (w t (200 + i)) else 0) + (if w t 0 = a ∧ w t (100 + i) = b then prt pm (w t (200 + i)) else 0) ∧ (if w t (100 + i) = a ∧ w t 0 = b then prt am (w t (200 + i)) else 0) + (if w t 0 = a ∧ w t (100 + i) = b then prt pm (w t (200 + i)) else 0) ≤ 2 * m := fun i hi => by
    have h1 := prt_in ha.1 (hpp i (by omega)).2
    have h2 := prt_in hp.1 (hpp i (by omega)).2
    split <;> split <;> omega
  have h1 := sumF_nonneg (n := n) (fun i hi => (hin i hi).1)
  have h2 := sumF_le (n := n) (fun i hi => (hin i hi).2)
  have h3 : (n : Int) * (2 * m) ≤ 11 * (2 * m) := Int.mul_le_mul_of_nonneg_right (by omega) (by omega)
  unfold owT
  omega
section
variable {G : aCX} {l : Launch} {d : Nat} {K : Nat → aKd} {D : Nat → Int → Int} {z : Nat × Nat} {P : Int → aSt → Prop}
theorem u_closes {e : Nat} {nh : Int} (hk : Kn K) (he : e < 60) (hh : D 210 10 = 0 ∨ D 210 10 = 1) (hn0 : 0 ≤ D 221 (D 210 10)) (hw : wOk (wM D) (ntM D) nh) (hL : ∀ t, t < ntM D → (0 ≤ wM D t 3 ∧ wM D t 3 ≤ 999999) ∧ (0 ≤ wM D t 5 ∧ wM D t 5 ≤ 9) ∧ (0 ≤ wM D t 6 ∧ wM D t 6 ≤ 999999) ∧ (¬ wM D t 1 = 0 → 1 ≤ wM D t 3)) (hU : ∀ t, t < ntM D → (0 ≤ useM D e t ∧ useM D e t ≤ 20000000) ∧ (0 ≤ basM D e t ∧ basM D e t ≤ 20000000) ∧ (0 ≤ D 263 t ∧ D 263 t ≤ 10000000) ∧ (0 ≤ D 264 t ∧ D 264 t ≤ wM D t 3 * wM D t 5)) (hO : ∀ j : Int, 0 ≤ j → j < 144 → 0 ≤ D 267 j ∧ D 267 j ≤ 1000000000000) (kk : ∀ D', ClD e (ntM D) D D' → P 0 (K, D', z)) : VM G l d iX12_closes [rf 210, (0, (e : Int))] (K, D, z) P := by
  have n24 := hw.1
  have h12 := hw.2.2.1
  have en : ((ntM D : Nat) : Int) = D 221 (D 210 10) := by show ((D 221 (D 210 10)).toNat : Int) = _; omega
  have pin : ∀ t, t < ntM D → (0 ≤ rsF (wM D) (raM D) (useM D e) t ∧ rsF (wM D) (raM D) (useM D e) t ≤ 20000000) ∧ (0 ≤ wM D t 3 * wM D t 5 ∧ wM D t 3 * wM D t 5 ≤ 999999 * 9) ∧ (0 ≤ pmF (wM D) (raM D) (useM D e) t ∧ pmF (wM D) (raM D) (useM D e) t ≤ 999999 * 20000000) ∧ (0 ≤ wM D t 6 * rsF (wM D) (raM D) (useM D e) t ∧ wM D t 6 * rsF (wM D) (raM D) (useM D e) t ≤ 999999 * 20000000) := fun t ht => by
    obtain ⟨l3, l5, l6, l1⟩ := hL t ht
    obtain ⟨u1, u2, u3, u4⟩ := hU t ht
    have hr : 0 ≤ rsF (wM D) (raM D) (useM D e) t ∧ rsF (wM D) (raM D) (useM D e) t ≤ 20000000 := by
      unfold rsF
      have u4' : 0 ≤ raM D t ∧ raM D t ≤ wM D t 3 * wM D t 5 := u4
      split
      · omega
      · split <;> omega
    have hm : 0 ≤ wM D t 3 * wM D t 5 ∧ wM D t 3 * wM D t 5 ≤ 999999 * 9 := ⟨Int.mul_nonneg l3.1 l5.1, Int.mul_le_mul l3.2 l5.2 l5.1 (by decide)⟩
    have hp : 0 ≤ wM D t 6 * rsF (wM D) (raM D) (useM D e) t ∧ wM D t 6 * rsF (wM D) (raM D) (useM D e) t ≤ 999999 * 20000000 := ⟨Int.mul_nonneg l6.1 hr.1, Int.mul_le_mul l6.2 hr.2 hr.1 (by decide)⟩
    refine ⟨hr, hm, ?_, hp⟩
    unfold pmF
    split
    · exact ⟨by decide, by decide⟩
    · refine ⟨Int.ediv_nonneg hp.1 l3.1, ?_⟩
      have := Int.ediv_le_self (wM D t 3) hp.1
      omega
  have loop : ∀ (m t : Nat) (D1 : Nat → Int → Int) (u3 u4 u5 u6 u7 u8 u9 : aTV), Nat.beq u3.1 1 = false → Nat.beq u4.1 1 = false → Nat.beq u6.1 1 = false → Nat.beq u8.1 1 = false → t + m = ntM D → ClD e t D D1 → V G l d iX12_closes 2 [rf 210, (0, (e : Int)), (0, (t : Int)), u3, u4, u5, u6, u7, u8, u9] [] (K, D1, z) P := by
    intro m
    induction m with
    | zero =>
      intro t D1 u3 u4 u5 u6 u7 u8 u9 hu3 hu4 hu6 hu8 hm hC
      have ht : t = ntM D := by omega
      have k21 : D1 221 = D 221 := hC.1 _ (by omega) (by omega) (by omega) (by omega) (by omega)
      have k10 : D1 210 = D 210 := hC.1 _ (by omega) (by omega) (by omega) (by omega) (by omega)
      refine s_il2 rfl ?_
      refine s_al0 rfl ?_
      refine s_gf rfl (hk.at rfl rfl) rfl rfl ?_
      refine s_al0 rfl ?_
      refine s_gi rfl (hk.at rfl rfl) rfl ?_
      rw [k10]
      refine s_iald rfl (hk.at rfl rfl) (by rcases hh with q | q <;> rw [q] <;> decide) ?_
      rw [k21]
      refine s_cge rfl ?_ ?_
      · intro h12
        refine s_retv rfl rfl ?_
        subst ht
        exact kk D1 hC
      · intro h12
        omega
    | succ m ih =>
      intro t D1 u3 u4 u5 u6 u7 u8 u9 hu3 hu4 hu6 hu8 hm hC
      have ht : t < ntM D := by omega
      obtain ⟨c1, c2, c3, c4, c5⟩ := id hC
      have k21 : D1 221 = D 221 := c1 _ (by omega) (by omega) (by omega) (by omega) (by omega)
      have k10 : D1 210 = D 210 := c1 _ (by omega) (by omega) (by omega) (by omega) (by omega)
      obtain ⟨l3, l5, l6, l1⟩ := hL t ht
      obtain ⟨u1, u2, us, ur⟩ := hU t ht
      obtain ⟨p1, p2, p3, p4⟩ := pin t ht
      obtain ⟨h0, h1, h2, h4, h7, hp, hs1⟩ := hw.2.2.2 t ht
      have e0 : wM D t 0 = D 224 (24 * D 210 10 + (t : Int)) := rfl
      have e1 : wM D t 1 = D 223 (24 * D 210 10 + (t : Int)) := rfl
      have e3 : wM D t 3 = D 226 (24 * D 210 10 + (t : Int)) := rfl
      have e5 : wM D t 5 = D 228 (24 * D 210 10 + (t : Int)) := rfl
      have e6 : wM D t 6 = D 229 (24 * D 210 10 + (t : Int)) := rfl
      have e7 : wM D t 7 = D 230 (24 * D 210 10 + (t : Int)) := rfl
      have p2' : 0 ≤ D 226 (24 * D 210 10 + (t : Int)) * D 228 (24 * D 210 10 + (t : Int)) ∧ D 226 (24 * D 210 10 + (t : Int)) * D 228 (24 * D 210 10 + (t : Int)) ≤ 999999 * 9 := p2
      have hi : 0 ≤ (24 * D 210 10 + (t : Int)) ∧ (24 * D 210 10 + (t : Int)) < 48 := by omega
      have q3 : D1 263 t = D 263 t := (c4 t (by omega)).1
      have q4 : D1 264 t = D 264 t := (c4 t (by omega)).2
      have BOUND0 : ∀ a b : Int, 0 ≤ a → a < 12 → 0 ≤ b → b < 12 → 0 ≤ D1 267 (12 * a + b) ∧ D1 267 (12 * a + b) ≤ 1000000000000 + 24 * (22 * (999999 * 20000000)) := fun a b a1 a2 b1 b2 => by
        rw [c5 a b a1 a2 b1 b2]
        have z1 := hO (12 * a + b) (by omega) (by omega)
        have z2 : ∀ s, s < t → 0 ≤ owT (wM D) s (if wM D s 1 = 0 then basM D e s else useM D e s) (pmF (wM D) (raM D) (useM D e) s) a b (wM D s 7).toNat ∧ owT (wM D) s (if wM D s 1 = 0 then basM D e s else useM D e s) (pmF (wM D) (raM D) (useM D e) s) a b (wM D s 7).toNat ≤ 22 * (999999 * 20000000) := fun s hs => by
          obtain ⟨v1, v2, -, -⟩ := hU s (by omega)
          have h7 := (hw.2.2.2 s (by omega)).2.2.2.2.1
          exact owT_in hw (by omega) (by split <;> omega) (pin s (by omega)).2.2.1 (by omega)
        have z3 := sumF_nonneg (n := t) (fun s hs => (z2 s hs).1)
        have z4 := sumF_le (n := t) (fun s hs => (z2 s hs).2)
        unfold owF
        omega
      have parts : ∀ (D2 : Nat → Int → Int) (u5 u6 u7 u8 u9 : aTV), Nat.beq u6.1 1 = false → Nat.beq u8.1 1 = false → (∀ r, r ≠ 261 → r ≠ 262 → r ≠ 263 → r ≠ 264 → D2 r = D1 r) → D2 261 = uF (D1 261) (24 * e + t) (rsF (wM D) (raM D) (useM D e) t) → D2 262 = uF (D1 262) (24 * e + t) (pmF (wM D) (raM D) (useM D e) t) → D2 263 = uF (D1 263) t (D 263 t + (if wM D t 1 = 0 then 0 else useM D e t)) → D2 264 = uF (D1 264) t (D 264 t + rsF (wM D) (raM D) (useM D e) t) → V G l d iX12_closes 176 [rf 210, (0, (e : Int)), (0, (t : Int)), (0, (24 * D 210 10 + (t : Int))), (0, 24 * (e : Int) + (t : Int)), u5, u6, u7, u8, u9] [] (K, D2, z) P := by
        intro D2 u5 u6 u7 u8 u9 hu6 hu8 g1 g61 g62 g63 g64
        have gD : ∀ r, r ≠ 261 → r ≠ 262 → r ≠ 263 → r ≠ 264 → r ≠ 267 → D2 r = D r := fun r r1 r2 r3 r4 r5 => by rw [g1 r r1 r2 r3 r4, c1 r r1 r2 r3 r4 r5]
        have inner : ∀ (m n : Nat) (D3 : Nat → Int → Int), n + m = (wM D t 7).toNat → (∀ r, r ≠ 267 → D3 r = D2 r) → (∀ a b : Int, 0 ≤ a → a < 12 → 0 ≤ b → b < 12 → D3 267 (12 * a + b) = D1 267 (12 * a + b) + owT (wM D) t (if wM D t 1 = 0 then basM D e t else useM D e t) (pmF (wM D) (raM D) (useM D e) t) a b n) → V G l d iX12_closes 200 [rf 210, (0, (e : Int)), (0, (t : Int)), (0, (24 * D 210 10 + (t : Int))), (0, 24 * (e : Int) + (t : Int)), (1, useM D e t), (9, 0), (1, basM D e t), (9, 0), (0, 12 * (24 * D 210 10 + (t : Int)) + (n : Int))] [] (K, D3, z) P := by
          intro m
          induction m with
          | zero =>
            intro n D3 hm2 f1 f2
            have hn : n = (wM D t 7).toNat := by omega
            have k30 : D3 230 = D 230 := by rw [f1 _ (by omega), gD _ (by omega) (by omega) (by omega) (by omega) (by omega)]
            refine s_il9 rfl ?_
            refine s_ic rfl ?_
            refine s_il3 rfl ?_
            refine s_imul rfl ⟨by omega, by omega⟩ ?_
            refine s_al0 rfl ?_
            refine s_gf rfl (hk.at rfl rfl) rfl rfl ?_
            refine s_il3 rfl ?_
            refine s_iald rfl (hk.at rfl rfl) (by omega) ?_
            rw [k30]
            refine s_iadd rfl ⟨by omega, by omega⟩ ?_
            refine s_cge rfl ?_ ?_
            · intro h213
              refine s_iinc2 rfl rfl ⟨by omega, by omega⟩ ?_
              refine s_go rfl ?_
              refine ih (t + 1) D3 _ _ _ _ _ _ _ rfl rfl rfl rfl (by omega) ⟨fun r r1 r2 r3 r4 r5 => by rw [f1 r r5, gD r r1 r2 r3 r4 r5], fun s hs => ?_, fun j hj => ?_, fun j hj => ?_, fun a b a1 a2 b1 b2 => ?_⟩
              · rw [f1 261 (by omega), f1 262 (by omega), f1 263 (by omega), f1 264 (by omega), g61, g62, g63, g64]
                rcases (by omega : s < t ∨ s = t) with q | q
                · rw [uF_ne (by omega), uF_ne (by omega), uF_ne (by omega), uF_ne (by omega)]; exact c2 s q
                · subst q; rw [uF_at, uF_at, uF_at, uF_at]; exact ⟨rfl, rfl, rfl, rfl⟩
              · rw [f1 261 (by omega), f1 262 (by omega), g61, g62, uF_ne (by omega), uF_ne (by omega)]; exact c3 j (by omega)
              · rw [f1 263 (by omega), f1 264 (by omega), g63, g64, uF_ne (by omega), uF_ne (by omega)]; exact c4 j (by omega)
              · rw [f2 a b a1 a2 b1 b2, c5 a b a1 a2 b1 b2, hn]
                unfold owF
                rw [sumF]
                omega
            · intro h213
              omega
          | succ m ihn =>
            intro n D3 hm2 f1 f2
            have hn : (n : Int) < wM D t 7 := by omega
            have fD : ∀ r, r ≠ 261 → r ≠ 262 → r ≠ 263 → r ≠ 264 → r ≠ 267 → D3 r = D r := fun r r1 r2 r3 r4 r5 => by rw [f1 r r5, gD r r1 r2 r3 r4 r5]
            have k30 : D3 230 = D 230 := fD _ (by omega) (by omega) (by omega) (by omega) (by omega)
            have k32 : D3 232 (12 * (24 * D 210 10 + (t : Int)) + n) = wM D t (100 + n) := by rw [fD _ (by omega) (by omega) (by omega) (by omega) (by omega)]; exact (wM_h (D := D) (t := t) (i := n) (by omega)).symm
            have k31 : D3 231 (12 * (24 * D 210 10 + (t : Int)) + n) = wM D t (200 + n) := by rw [fD _ (by omega) (by omega) (by omega) (by omega) (by omega)]; exact (wM_s (D := D) (t := t) (i := n)).symm
            have k24 : D3 224 (24 * D 210 10 + (t : Int)) = wM D t 0 := by rw [fD _ (by omega) (by omega) (by omega) (by omega) (by omega)]; rfl
            have k23 : D3 223 (24 * D 210 10 + (t : Int)) = wM D t 1 := by rw [fD _ (by omega) (by omega) (by omega) (by omega) (by omega)]; rfl
            obtain ⟨s1, s2⟩ := hp n hn
            generalize ham : (if wM D t 1 = 0 then basM D e t else useM D e t) = am at f2 ihn
            have hm0 : 0 ≤ am ∧ am ≤ 20000000 := by rw [← ham]; split <;> assumption
            generalize hpm : pmF (wM D) (raM D) (useM D e) t = pm at f2 ihn g62 p3
            have oin : ∀ a b : Int, 0 ≤ owT (wM D) t am pm a b n ∧ owT (wM D) t am pm a b n ≤ 22 * (999999 * 20000000) := fun a b => owT_in hw ht ⟨hm0.1, by omega⟩ p3 (by omega)
            have q1 := prt_in hm0.1 s2
            have q2 := prt_in p3.1 s2
            have m1 : 0 ≤ am * wM D t (200 + n) ∧ am * wM D t (200 + n) ≤ 20000000 * 1000 := ⟨Int.mul_nonneg hm0.1 s2.1, Int.mul_le_mul hm0.2 s2.2 s2.1 (by decide)⟩
            have m2 : 0 ≤ pm * wM D t (200 + n) ∧ pm * wM D t (200 + n) ≤ (999999 * 20000000) * 1000 := ⟨Int.mul_nonneg p3.1 s2.1, Int.mul_le_mul p3.2 s2.2 s2.1 (by decide)⟩
            have d1 : (am * wM D t (200 + n)).tdiv 1000 = prt am (wM D t (200 + n)) := Int.tdiv_eq_ediv_of_nonneg m1.1
            have d2 : (pm * wM D t (200 + n)).tdiv 1000 = prt pm (wM D t (200 + n)) := Int.tdiv_eq_ediv_of_nonneg m2.1
            have o1 := oin (wM D t (100 + n)) (wM D t 0)
            have o2 := oin (wM D t 0) (wM D t (100 + n))
            have x1 := f2 (wM D t (100 + n)) (wM D t 0) s1.1 (by omega) h0.1 (by omega)
            have x2 := f2 (wM D t 0) (wM D t (100 + n)) h0.1 (by omega) s1.1 (by omega)
            have y1 := BOUND0 (wM D t (100 + n)) (wM D t 0) s1.1 (by omega) h0.1 (by omega)
            have y2 := BOUND0 (wM D t 0) (wM D t (100 + n)) h0.1 (by omega) s1.1 (by omega)
            have s255 : V G l d iX12_closes 255 [rf 210, (0, (e : Int)), (0, (t : Int)), (0, (24 * D 210 10 + (t : Int))), (0, 24 * (e : Int) + (t : Int)), (1, useM D e t), (9, 0), (1, basM D e t), (9, 0), (0, 12 * (24 * D 210 10 + (t : Int)) + (n : Int))] [(1, am), (1, D3 267 (12 * wM D t (100 + n) + wM D t 0)), (0, 12 * wM D t (100 + n) + wM D t 0), rf 267] (K, D3, z) P := by
              have r4 : ∀ i v, aUp D3 267 i v 224 (24 * D 210 10 + (t : Int)) = wM D t 0 := fun i v => by rw [aUp_row (by omega)]; exact k24
              have r32 : ∀ i v, aUp D3 267 i v 232 (12 * (24 * D 210 10 + (t : Int)) + n) = wM D t (100 + n) := fun i v => by rw [aUp_row (by omega)]; exact k32
              have r31 : ∀ i v, aUp D3 267 i v 231 (12 * (24 * D 210 10 + (t : Int)) + n) = wM D t (200 + n) := fun i v => by rw [aUp_row (by omega)]; exact k31
              have r62 : ∀ i v, aUp D3 267 i v 262 (24 * (e : Int) + t) = pm := fun i v => by rw [aUp_row (by omega), f1 _ (by omega), g62, uF_at]
              generalize hE : aUp D3 267 (12 * wM D t (100 + n) + wM D t 0) (D3 267 (12 * wM D t (100 + n) + wM D t 0) + prt am (wM D t (200 + n))) 267 (12 * wM D t 0 + wM D t (100 + n)) = E
              have hE0 : 0 ≤ E ∧ E ≤ 20000000000000000 := by
                rw [← hE, aUp_app]
                split
                · omega
                · omega
              refine s_al0 rfl ?_
              refine s_gf rfl (hk.at rfl rfl) rfl rfl ?_
              refine s_il9 rfl ?_
              refine s_iald rfl (hk.at rfl rfl) (by omega) ?_
              rw [k31]
              refine s_i2l rfl ?_
              refine s_lmul rfl ⟨by omega, by omega⟩ ?_
              refine s_lc rfl ?_
              refine s_ldiv rfl (by decide) (by rw [d1]; exact ⟨by omega, by omega⟩) ?_
              rw [d1]
              refine s_ladd rfl ⟨by omega, by omega⟩ ?_
              refine s_last rfl (hk.at rfl rfl) (by omega) ?_
              refine s_al0 rfl ?_
              refine s_gf rfl (hk.at rfl rfl) rfl rfl ?_
              refine s_ic rfl ?_
              refine s_al0 rfl ?_
              refine s_gf rfl (hk.at rfl rfl) rfl rfl ?_
              refine s_il3 rfl ?_
              refine s_iald rfl (hk.at rfl rfl) (by omega) ?_
              rw [r4]
              refine s_imul rfl ⟨by omega, by omega⟩ ?_
              refine s_al0 rfl ?_
              refine s_gf rfl (hk.at rfl rfl) rfl rfl ?_
              refine s_il9 rfl ?_
              refine s_iald rfl (hk.at rfl rfl) (by omega) ?_
              rw [r32]
              refine s_iadd rfl ⟨by omega, by omega⟩ ?_
              refine s_dup2 rfl rfl rfl ?_
              refine s_lald rfl (hk.at rfl rfl) (by omega) ?_
              rw [hE]
              refine s_al0 rfl ?_
              refine s_gf rfl (hk.at rfl rfl) rfl rfl ?_
              refine s_il4 rfl ?_
              refine s_lald rfl (hk.at rfl rfl) (by omega) ?_
              rw [r62]
              refine s_al0 rfl ?_
              refine s_gf rfl (hk.at rfl rfl) rfl rfl ?_
              refine s_il9 rfl ?_
              refine s_iald rfl (hk.at rfl rfl) (by omega) ?_
              rw [r31]
              refine s_i2l rfl ?_
              refine s_lmul rfl ⟨by omega, by omega⟩ ?_
              refine s_lc rfl ?_
              refine s_ldiv rfl (by decide) (by rw [d2]; exact ⟨by omega, by omega⟩) ?_
              rw [d2]
              refine s_ladd rfl ⟨by omega, by omega⟩ ?_
              refine s_last rfl (hk.at rfl rfl) (by omega) ?_
              refine s_iinc9 rfl rfl ⟨by omega, by omega⟩ ?_
              refine s_go rfl ?_
              rw [← hE]
              have hx := ihn (n + 1) (aUp (aUp D3 267 (12 * wM D t (100 + n) + wM D t 0) (D3 267 (12 * wM D t (100 + n) + wM D t 0) + prt am (wM D t (200 + n)))) 267 (12 * wM D t 0 + wM D t (100 + n)) (aUp D3 267 (12 * wM D t (100 + n) + wM D t 0) (D3 267 (12 * wM D t (100 + n) + wM D t 0) + prt am (wM D t (200 + n))) 267 (12 * wM D t 0 + wM D t (100 + n)) + prt pm (wM D t (200 + n)))) (by omega) (fun r hr => by rw [aUp_row hr, aUp_row hr]; exact f1 r hr) (fun a b a1 a2 b1 b2 => ?_)
              · rw [show (12 * (24 * D 210 10 + (t : Int)) + ((n + 1 : Nat) : Int)) = 12 * (24 * D 210 10 + (t : Int)) + n + 1 by omega] at hx
                exact hx
              · have z0 := f2 a b a1 a2 b1 b2
                have z1 : owT (wM D) t am pm a b (n + 1) = owT (wM D) t am pm a b n + ((if wM D t (100 + n) = a ∧ wM D t 0 = b then prt am (wM D t (200 + n)) else 0) + (if wM D t 0 = a ∧ wM D t (100 + n) = b then prt pm (wM D t (200 + n)) else 0)) := rfl
                have i1 : (12 * a + b = 12 * wM D t (100 + n) + wM D t 0) ↔ (wM D t (100 + n) = a ∧ wM D t 0 = b) := by omega
                have i2 : (12 * a + b = 12 * wM D t 0 + wM D t (100 + n)) ↔ (wM D t 0 = a ∧ wM D t (100 + n) = b) := by omega
                rw [z1, aUp_app]
                by_cases w1 : 12 * a + b = 12 * wM D t 0 + wM D t (100 + n)
                · rw [if_pos ⟨rfl, w1⟩, if_pos (i2.mp w1), aUp_app]
                  by_cases w2 : 12 * a + b = 12 * wM D t (100 + n) + wM D t 0
                  · rw [if_pos ⟨rfl, by omega⟩, if_pos (i1.mp w2)]
                    rw [w2] at z0 ⊢
                    omega
                  · rw [if_neg (fun q => w2 (by omega)), if_neg (fun q => w2 (i1.mpr q)), ← w1]
                    omega
                · rw [if_neg (fun q => w1 q.2), if_neg (fun q => w1 (i2.mpr q)), aUp_app]
                  by_cases w2 : 12 * a + b = 12 * wM D t (100 + n) + wM D t 0
                  · rw [if_pos ⟨rfl, w2⟩, if_pos (i1.mp w2), ← w2]
                    omega
                  · rw [if_neg (fun q => w2 q.2), if_neg (fun q => w2 (i1.mpr q))]
                    omega
            refine s_il9 rfl ?_
            refine s_ic rfl ?_
            refine s_il3 rfl ?_
            refine s_imul rfl ⟨by omega, by omega⟩ ?_
            refine s_al0 rfl ?_
            refine s_gf rfl (hk.at rfl rfl) rfl rfl ?_
            refine s_il3 rfl ?_
            refine s_iald rfl (hk.at rfl rfl) (by omega) ?_
            rw [k30]
            refine s_iadd rfl ⟨by omega, by omega⟩ ?_
            refine s_cge rfl ?_ ?_
            · intro h213
              omega
            · intro h213
              refine s_al0 rfl ?_
              refine s_gf rfl (hk.at rfl rfl) rfl rfl ?_
              refine s_ic rfl ?_
              refine s_al0 rfl ?_
              refine s_gf rfl (hk.at rfl rfl) rfl rfl ?_
              refine s_il9 rfl ?_
              refine s_iald rfl (hk.at rfl rfl) (by omega) ?_
              rw [k32]
              refine s_imul rfl ⟨by omega, by omega⟩ ?_
              refine s_al0 rfl ?_
              refine s_gf rfl (hk.at rfl rfl) rfl rfl ?_
              refine s_il3 rfl ?_
              refine s_iald rfl (hk.at rfl rfl) (by omega) ?_
              rw [k24]
              refine s_iadd rfl ⟨by omega, by omega⟩ ?_
              refine s_dup2 rfl rfl rfl ?_
              refine s_lald rfl (hk.at rfl rfl) (by omega) ?_
              refine s_al0 rfl ?_
              refine s_gf rfl (hk.at rfl rfl) rfl rfl ?_
              refine s_il3 rfl ?_
              refine s_bald rfl (hk.at rfl rfl) (by omega) ?_
              rw [k23]
              refine s_zeq rfl ?_ ?_
              · intro h245
                refine s_ll7 rfl ?_
                have hz := s255
                rw [← ham] at hz
                first | (rw [if_pos h245] at hz; exact hz) | (rw [if_neg h245] at hz; exact hz)
              · intro h245
                refine s_ll5 rfl ?_
                refine s_go rfl ?_
                have hz := s255
                rw [← ham] at hz
                first | (rw [if_pos h245] at hz; exact hz) | (rw [if_neg h245] at hz; exact hz)
        have r59 : D2 259 (24 * (e : Int) + t) = useM D e t := by rw [gD _ (by omega) (by omega) (by omega) (by omega) (by omega)]
        have r58 : D2 258 (24 * (e : Int) + t) = basM D e t := by rw [gD _ (by omega) (by omega) (by omega) (by omega) (by omega)]
        refine s_al0 rfl ?_
        refine s_gf rfl (hk.at rfl rfl) rfl rfl ?_
        refine s_il4 rfl ?_
        refine s_lald rfl (hk.at rfl rfl) (by omega) ?_
        rw [r59]
        refine s_ls5 rfl rfl ?_
        refine s_al0 rfl ?_
        refine s_gf rfl (hk.at rfl rfl) rfl rfl ?_
        refine s_il4 rfl ?_
        refine s_lald rfl (hk.at rfl rfl) (by omega) ?_
        rw [r58]
        refine s_ls7 rfl rfl ?_
        refine s_ic rfl ?_
        refine s_il3 rfl ?_
        refine s_imul rfl ⟨by omega, by omega⟩ ?_
        refine s_is9 rfl rfl ?_
        have hx := inner (wM D t 7).toNat 0 D2 (by omega) (fun _ _ => rfl) (fun a b a1 a2 b1 b2 => by rw [g1 _ (by omega) (by omega) (by omega) (by omega)]; show _ = _ + 0; omega)
        rw [show (12 * (24 * D 210 10 + (t : Int)) + ((0 : Nat) : Int)) = 12 * (24 * D 210 10 + (t : Int)) by omega] at hx
        exact hx
      generalize hD2 : aUp (aUp D1 261 (24 * (e : Int) + t) 0) 262 (24 * (e : Int) + t) 0 = D2
      have g1 : ∀ r, r ≠ 261 → r ≠ 262 → D2 r = D1 r := fun r r1 r2 => by rw [← hD2, aUp_row r2, aUp_row r1]
      have g61 : D2 261 = uF (D1 261) (24 * e + t) 0 := by rw [← hD2, aUp_row (by omega), aUp_same]
      have g62 : D2 262 = uF (D1 262) (24 * e + t) 0 := by rw [← hD2, aUp_same, aUp_row (by omega)]
      have gD : ∀ r, r ≠ 261 → r ≠ 262 → r ≠ 263 → r ≠ 264 → r ≠ 267 → D2 r = D r := fun r r1 r2 r3 r4 r5 => by rw [g1 r r1 r2, c1 r r1 r2 r3 r4 r5]
      have share : wM D t 1 = 0 → V G l d iX12_closes 176 [rf 210, (0, (e : Int)), (0, (t : Int)), (0, (24 * D 210 10 + (t : Int))), (0, 24 * (e : Int) + (t : Int)), u5, u6, u7, u8, u9] [] (K, D2, z) P := fun q => by
        have y1 : rsF (wM D) (raM D) (useM D e) t = 0 := if_pos q
        have y2 : pmF (wM D) (raM D) (useM D e) t = 0 := if_pos q
        refine parts D2 u5 u6 u7 u8 u9 hu6 hu8 (fun r r1 r2 _ _ => g1 r r1 r2) (by rw [y1, g61]) (by rw [y2, g62]) ?_ ?_
        · rw [g1 _ (by omega) (by omega), if_pos q, ← q3]
          funext j; unfold uF; split
          · rename_i hj; rw [hj]; omega
          · rfl
        · rw [g1 _ (by omega) (by omega), y1, ← q4]
          funext j; unfold uF; split
          · rename_i hj; rw [hj]; omega
          · rfl
      have layer : ¬ wM D t 1 = 0 → V G l d iX12_closes 58 [rf 210, (0, (e : Int)), (0, (t : Int)), (0, (24 * D 210 10 + (t : Int))), (0, 24 * (e : Int) + (t : Int)), u5, u6, u7, u8, u9] [] (K, D2, z) P := fun q => by
        have r26 : D2 226 = D 226 := gD _ (by omega) (by omega) (by omega) (by omega) (by omega)
        have r28 : D2 228 = D 228 := gD _ (by omega) (by omega) (by omega) (by omega) (by omega)
        have r64 : D2 264 t = D 264 t := by rw [g1 _ (by omega) (by omega), q4]
        have r59 : D2 259 (24 * (e : Int) + t) = useM D e t := by rw [gD _ (by omega) (by omega) (by omega) (by omega) (by omega)]
        have s113 : ∀ v, v = rsF (wM D) (raM D) (useM D e) t → V G l d iX12_closes 113 [rf 210, (0, (e : Int)), (0, (t : Int)), (0, (24 * D 210 10 + (t : Int))), (0, 24 * (e : Int) + (t : Int)), (1, wM D t 3 * wM D t 5 - D 264 t), (9, 0), u7, u8, u9] [(1, v), (0, 24 * (e : Int) + t), rf 261] (K, D2, z) P := by
          intro v hv
          subst hv
          have hq := l1 q
          have v29 : ∀ i v, aUp D2 261 i v 229 = D 229 := fun i v => by rw [aUp_row (by omega), gD _ (by omega) (by omega) (by omega) (by omega) (by omega)]
          have v26 : ∀ i v, aUp D2 261 i v 226 = D 226 := fun i v => by rw [aUp_row (by omega), r26]
          have v61 : ∀ v, aUp D2 261 (24 * (e : Int) + t) v 261 (24 * (e : Int) + t) = v := fun v => aUp_at
          have epm : (wM D t 6 * rsF (wM D) (raM D) (useM D e) t).tdiv (wM D t 3) = pmF (wM D) (raM D) (useM D e) t := by
            unfold pmF
            rw [if_neg q]
            exact Int.tdiv_eq_ediv_of_nonneg p4.1
          have v63 : ∀ i v j x, aUp (aUp D2 261 i v) 262 j x 263 t = D 263 t := fun i v j x => by rw [aUp_row (by omega), aUp_row (by omega), g1 _ (by omega) (by omega), q3]
          have v59 : ∀ i v j x, aUp (aUp D2 261 i v) 262 j x 259 (24 * (e : Int) + t) = useM D e t := fun i v j x => by rw [aUp_row (by omega), aUp_row (by omega), r59]
          have v64 : ∀ i v j x k y, aUp (aUp (aUp D2 261 i v) 262 j x) 263 k y 264 t = D 264 t := fun i v j x k y => by rw [aUp_row (by omega), aUp_row (by omega), aUp_row (by omega), r64]
          have v61b : ∀ v j x k y, aUp (aUp (aUp D2 261 (24 * (e : Int) + t) v) 262 j x) 263 k y 261 (24 * (e : Int) + t) = v := fun v j x k y => by rw [aUp_row (by omega), aUp_row (by omega), aUp_at]
          refine s_last rfl (hk.at rfl rfl) (by omega) ?_
          refine s_al0 rfl ?_
          refine s_gf rfl (hk.at rfl rfl) rfl rfl ?_
          refine s_il4 rfl ?_
          refine s_al0 rfl ?_
          refine s_gf rfl (hk.at rfl rfl) rfl rfl ?_
          refine s_il3 rfl ?_
          refine s_iald rfl (hk.at rfl rfl) (by omega) ?_
          rw [v29]
          refine s_i2l rfl ?_
          refine s_al0 rfl ?_
          refine s_gf rfl (hk.at rfl rfl) rfl rfl ?_
          refine s_il4 rfl ?_
          refine s_lald rfl (hk.at rfl rfl) (by omega) ?_
          rw [v61]
          change V G l d iX12_closes 134 _ ((1, rsF (wM D) (raM D) (useM D e) t) :: (1, wM D t 6) :: _) _ P
          refine s_lmul rfl ⟨by omega, by omega⟩ ?_
          refine s_al0 rfl ?_
          refine s_gf rfl (hk.at rfl rfl) rfl rfl ?_
          refine s_il3 rfl ?_
          refine s_iald rfl (hk.at rfl rfl) (by omega) ?_
          rw [v26]
          refine s_i2l rfl ?_
          change V G l d iX12_closes 142 _ ((1, wM D t 3) :: (1, wM D t 6 * rsF (wM D) (raM D) (useM D e) t) :: _) _ P
          refine s_ldiv rfl (by omega) (by rw [epm]; exact ⟨by omega, by omega⟩) ?_
          rw [epm]
          refine s_last rfl (hk.at rfl rfl) (by omega) ?_
          refine s_al0 rfl ?_
          refine s_gf rfl (hk.at rfl rfl) rfl rfl ?_
          refine s_il2 rfl ?_
          refine s_dup2 rfl rfl rfl ?_
          refine s_lald rfl (hk.at rfl rfl) (by omega) ?_
          rw [v63]
          refine s_al0 rfl ?_
          refine s_gf rfl (hk.at rfl rfl) rfl rfl ?_
          refine s_il4 rfl ?_
          refine s_lald rfl (hk.at rfl rfl) (by omega) ?_
          rw [v59]
          refine s_ladd rfl ⟨by omega, by omega⟩ ?_
          refine s_last rfl (hk.at rfl rfl) (by omega) ?_
          refine s_al0 rfl ?_
          refine s_gf rfl (hk.at rfl rfl) rfl rfl ?_
          refine s_il2 rfl ?_
          refine s_dup2 rfl rfl rfl ?_
          refine s_lald rfl (hk.at rfl rfl) (by omega) ?_
          rw [v64]
          refine s_al0 rfl ?_
          refine s_gf rfl (hk.at rfl rfl) rfl rfl ?_
          refine s_il4 rfl ?_
          refine s_lald rfl (hk.at rfl rfl) (by omega) ?_
          rw [v61b]
          refine s_ladd rfl ⟨by omega, by omega⟩ ?_
          refine s_last rfl (hk.at rfl rfl) (by omega) ?_
          refine parts _ _ _ _ _ _ rfl hu8 (fun r r1 r2 r3 r4 => by rw [aUp_row r4, aUp_row r3, aUp_row r2, aUp_row r1]; exact g1 r r1 r2) ?_ ?_ ?_ ?_
          · rw [aUp_row (by omega), aUp_row (by omega), aUp_row (by omega), aUp_same, g61, uF_uF]
          · rw [aUp_row (by omega), aUp_row (by omega), aUp_same, aUp_row (by omega), g62, uF_uF]
          · rw [aUp_row (by omega), aUp_same, aUp_row (by omega), aUp_row (by omega), g1 _ (by omega) (by omega), if_neg q]
          · rw [aUp_same, aUp_row (by omega), aUp_row (by omega), aUp_row (by omega), g1 _ (by omega) (by omega)]
        refine s_al0 rfl ?_
        refine s_gf rfl (hk.at rfl rfl) rfl rfl ?_
        refine s_il3 rfl ?_
        refine s_iald rfl (hk.at rfl rfl) (by omega) ?_
        rw [r26]
        refine s_i2l rfl ?_
        refine s_al0 rfl ?_
        refine s_gf rfl (hk.at rfl rfl) rfl rfl ?_
        refine s_il3 rfl ?_
        refine s_iald rfl (hk.at rfl rfl) (by omega) ?_
        rw [r28]
        refine s_i2l rfl ?_
        refine s_lmul rfl ⟨by omega, by omega⟩ ?_
        refine s_al0 rfl ?_
        refine s_gf rfl (hk.at rfl rfl) rfl rfl ?_
        refine s_il2 rfl ?_
        refine s_lald rfl (hk.at rfl rfl) (by omega) ?_
        rw [r64]
        refine s_lsub rfl ⟨by omega, by omega⟩ ?_
        refine s_ls5 rfl rfl ?_
        refine s_al0 rfl ?_
        refine s_gf rfl (hk.at rfl rfl) rfl rfl ?_
        refine s_il4 rfl ?_
        refine s_al0 rfl ?_
        refine s_gf rfl (hk.at rfl rfl) rfl rfl ?_
        refine s_il4 rfl ?_
        refine s_lald rfl (hk.at rfl rfl) (by omega) ?_
        rw [r59]
        refine s_ll5 rfl ?_
        refine s_lcmp rfl ?_
        refine s_zge rfl ?_ ?_
        · intro h98
          have h98 := cmp3_ge.mp h98
          refine s_ll5 rfl ?_
          refine s113 _ ?_
          unfold rsF
          rw [if_neg q]
          have e64 : raM D t = D 264 t := rfl
          have epr : wM D t 3 * wM D t 5 = D 226 (24 * D 210 10 + (t : Int)) * D 228 (24 * D 210 10 + (t : Int)) := rfl
          first | (rw [if_pos (by omega)]) | (rw [if_neg (by omega)]; rfl)
        · intro h98
          have h98 := cmp3_lt.mp h98
          refine s_al0 rfl ?_
          refine s_gf rfl (hk.at rfl rfl) rfl rfl ?_
          refine s_il4 rfl ?_
          refine s_lald rfl (hk.at rfl rfl) (by omega) ?_
          rw [r59]
          refine s_go rfl ?_
          refine s113 _ ?_
          unfold rsF
          rw [if_neg q]
          have e64 : raM D t = D 264 t := rfl
          have epr : wM D t 3 * wM D t 5 = D 226 (24 * D 210 10 + (t : Int)) * D 228 (24 * D 210 10 + (t : Int)) := rfl
          first | (rw [if_pos (by omega)]) | (rw [if_neg (by omega)]; rfl)
      refine s_il2 rfl ?_
      refine s_al0 rfl ?_
      refine s_gf rfl (hk.at rfl rfl) rfl rfl ?_
      refine s_al0 rfl ?_
      refine s_gi rfl (hk.at rfl rfl) rfl ?_
      rw [k10]
      refine s_iald rfl (hk.at rfl rfl) (by rcases hh with q | q <;> rw [q] <;> decide) ?_
      rw [k21]
      refine s_cge rfl ?_ ?_
      · intro h12
        omega
      · intro h12
        refine s_ic rfl ?_
        refine s_al0 rfl ?_
        refine s_gi rfl (hk.at rfl rfl) rfl ?_
        rw [k10]
        refine s_imul rfl ⟨by omega, by omega⟩ ?_
        refine s_il2 rfl ?_
        refine s_iadd rfl ⟨by omega, by omega⟩ ?_
        refine s_is3 rfl rfl ?_
        refine s_ic rfl ?_
        refine s_il1 rfl ?_
        refine s_imul rfl ⟨by omega, by omega⟩ ?_
        refine s_il2 rfl ?_
        refine s_iadd rfl ⟨by omega, by omega⟩ ?_
        refine s_is4 rfl rfl ?_
        refine s_al0 rfl ?_
        refine s_gf rfl (hk.at rfl rfl) rfl rfl ?_
        refine s_il4 rfl ?_
        refine s_lc rfl ?_
        refine s_last rfl (hk.at rfl rfl) (by omega) ?_
        refine s_al0 rfl ?_
        refine s_gf rfl (hk.at rfl rfl) rfl rfl ?_
        refine s_il4 rfl ?_
        refine s_lc rfl ?_
        refine s_last rfl (hk.at rfl rfl) (by omega) ?_
        refine s_al0 rfl ?_
        refine s_gf rfl (hk.at rfl rfl) rfl rfl ?_
        refine s_il3 rfl ?_
        rw [hD2]
        refine s_bald rfl (hk.at rfl rfl) (by omega) ?_
        rw [show D2 223 (24 * D 210 10 + (t : Int)) = wM D t 1 by rw [gD _ (by omega) (by omega) (by omega) (by omega) (by omega)]; rfl]
        refine s_zeq rfl ?_ ?_
        · intro h55
          exact share h55
        · intro h55
          exact layer h55
  refine VM_go (tg2 rfl) (Nat.le_of_ble_eq_true rfl) ?_
  refine s_ic rfl ?_
  refine s_is2 rfl rfl ?_
  exact loop (ntM D) 0 D _ _ _ _ _ _ _ rfl rfl rfl rfl (by omega) ⟨fun _ _ _ _ _ _ => rfl, fun s hs => absurd hs (Nat.not_lt_zero s), fun _ _ => ⟨rfl, rfl⟩, fun _ _ => ⟨rfl, rfl⟩, fun _ _ _ _ _ _ => (Int.add_zero _).symm⟩
end
