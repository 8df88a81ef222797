/-! ===== asksAnew: the class ===== -/
def rmC2 (D : Nat → Int → Int) (T t : Nat) : Int := if D (T + 9 + 3 * t) 3 * (1 + D (T + 9 + 3 * t) 5) - D 109 t < D (T + 9 + 3 * t) 3 then D (T + 9 + 3 * t) 3 * (1 + D (T + 9 + 3 * t) 5) - D 109 t else D (T + 9 + 3 * t) 3
def aaF (D : Nat → Int → Int) (a e : Nat) : Int → Int := uF (uF (uF (uF (uF (D a) 0 1) 1 (D 113 e)) 2 (D 114 e)) 3 (D 93 (D 113 e))) 4 (D 91 (D 113 e) / 24)
def AaD (D : Nat → Int → Int) (T a e nt : Nat) (p : Int) (D' : Nat → Int → Int) : Prop := (∀ r, r ≠ a → r ≠ a + 1 → r ≠ a + 4 → r ≠ T + 8 → D' r = D r) ∧ D' a = uF (aaF D a e) 5 p ∧ (∀ h : Nat, h < 12 → D' (a + 1) h = D 115 (e * 12 + h)) ∧ ∀ t : Nat, t < nt → D' (a + 4) t = rmC2 D T t
section
variable {G : aCX} {l : Launch} {d : Nat} {K : Nat → aKd} {D : Nat → Int → Int} {z : Nat × Nat} {P : Int → aSt → Prop}
theorem v_asksAnew {T a e nt : Nat} {v : Int} {cn : Nat → Nat} {cc : Nat → Nat → Int × Int} (hk : Kn K) (hT : isT T) (ha : Kh K a) (he : e < 60) (hn : D T 1 = nt) (h24 : nt ≤ 24) (ho : ∀ t, t < nt → 0 ≤ D (T + 9 + 3 * t) 0 ∧ D (T + 9 + 3 * t) 0 < 12) (hL : ∀ t, t < nt → (0 ≤ D (T + 9 + 3 * t) 3 ∧ D (T + 9 + 3 * t) 3 ≤ 999999) ∧ (0 ≤ D (T + 9 + 3 * t) 5 ∧ D (T + 9 + 3 * t) 5 ≤ 9) ∧ (0 ≤ D 109 t ∧ D 109 t ≤ 10000000)) (hc : CoC D T nt cn cc) (hf : 0 ≤ D 113 e ∧ D 113 e < 60) (hh : 0 ≤ D 91 (D 113 e) ∧ D 91 (D 113 e) < 240000) (hb0 : D a 0 = 0 ∨ D a 0 = 1)
    (kk : ∀ D' w p, AaD D T a e nt p D' → (∀ t, t < nt → decide (bAnd (bShr p t) 1 = 1) = pyC D' T a v cn cc t) → (w = 0 ∨ w = 1) → (w = 0 → D a 0 = 1 ∧ (∀ h : Nat, h < 12 → D (a + 1) h = D 115 (e * 12 + h)) ∧ (∀ t : Nat, t < nt → D (a + 4) t = rmC2 D T t) ∧ D a 5 = p) → P w (K, D', z)) : VM G l (d + 3) iX5_asksAnew [rf 101, rf a, rf T, (0, v), (0, (e : Int))] (K, D, z) P := by
  have hT2 : T = 8 ∨ T = 129 := hT
  have ha' := ha
  obtain ⟨ha0, k0, k1, k2, k3, k4, k5, k6, k7, k8, k9⟩ := ha
  have e24 : (D 91 (D 113 e)).tdiv 24 = D 91 (D 113 e) / 24 := Int.tdiv_eq_ediv_of_nonneg hh.1
  have loop2 : ∀ (m n : Nat) (D1 : Nat → Int → Int) (x : Int) (u8 : aTV), n + m = nt → (∀ r, r ≠ a → r ≠ a + 1 → r ≠ a + 4 → D1 r = D r) → D1 a = aaF D a e → (∀ h : Nat, h < 12 → D1 (a + 1) h = D 115 (e * 12 + h)) → (∀ t : Nat, t < n → D1 (a + 4) t = rmC2 D T t) → (∀ j : Int, (n : Int) ≤ j → D1 (a + 4) j = D (a + 4) j) → (x = 0 ∨ x = 1) → (x = 0 → D a 0 = 1 ∧ (∀ h : Nat, h < 12 → D (a + 1) h = D 115 (e * 12 + h)) ∧ (∀ t : Nat, t < n → D (a + 4) t = rmC2 D T t)) → V G l (d + 3) iX5_asksAnew 152 [rf 101, rf a, rf T, (0, v), (0, (e : Int)), (0, x), (0, D 113 e), (0, (n : Int)), u8] [] (K, D1, z) P := by
    intro m
    induction m with
    | zero =>
      intro n D1 x u8 hm g1 g2 g3 g4 g5 gx gz
      have hn2 : n = nt := by omega
      subst hn2
      have w1 : D1 T = D T := g1 _ (by omega) (by omega) (by omega)
      have cB : CoC D1 T n cn cc := fun t ht => by
        rw [g1 (T + 9 + 3 * t) (by omega) (by omega) (by omega), g1 (T + 7) (by omega) (by omega) (by omega)]; exact hc t ht
      have key : ∀ (D2 : Nat → Int → Int) (p : Int), (∀ r, r ≠ T + 8 → D2 r = D1 r) → AaD D T a e n p (aUp D2 a 5 p) := fun D2 p f => by
        refine ⟨fun r r1 r2 r3 r4 => by rw [aUp_row r1, f r r4, g1 r r1 r2 r3], ?_, fun h q => ?_, fun t ht => ?_⟩
        · rw [aUp_same, f _ (by omega), g2]
        · rw [aUp_row (by omega), f _ (by omega)]; exact g3 h q
        · rw [aUp_row (by omega), f _ (by omega)]; exact g4 t ht
      have pyc : ∀ (D2 : Nat → Int → Int) (p : Int), (∀ r, r ≠ T + 8 → D2 r = D1 r) → ∀ t, t < n → pyC D1 T a v cn cc t = pyC (aUp D2 a 5 p) T a v cn cc t := fun D2 p f t ht => by
        have z1 : aUp D2 a 5 p (T + 9 + 3 * t) = D1 (T + 9 + 3 * t) := by rw [aUp_row (by omega), f _ (by omega)]
        have z2 : aUp D2 a 5 p (a + 1) = D1 (a + 1) := by rw [aUp_row (by omega), f _ (by omega)]
        have z3 : ∀ j, j ≠ 5 → aUp D2 a 5 p a j = D1 a j := fun j hj => by rw [aUp_ne hj, f _ (by omega)]
        unfold pyC knC5
        rw [z1, z2, z3 3 (by decide), z3 4 (by decide), z3 2 (by decide)]
      refine s_il7 rfl ?_
      refine s_al2 rfl ?_
      refine s_gi rfl (KT hk hT) rfl ?_
      rw [w1, hn]
      refine s_cge rfl ?_ ?_
      · intro h158
        refine s_al2 rfl ?_
        refine s_al1 rfl ?_
        refine s_il3 rfl ?_
        refine s_callO rfl rfl (Or.inl rfl) rfl rfl (KT hk hT) (v_payingTreaties hk hT ha' (by rw [w1, hn]) h24 (fun t ht => by rw [g1 (T + 9 + 3 * t) (by omega) (by omega) (by omega)]; exact ho t ht) cB (fun D2 p f1 f2 => ?_))
        have a5 : D2 a 5 = D a 5 := by rw [f1 _ (by omega), g2]; rfl
        show V G l (d + 3) iX5_asksAnew 228 [rf 101, rf a, rf T, (0, v), (0, (e : Int)), (0, x), (0, D 113 e), (0, (n : Int)), u8] [(0, p)] (K, D2, z) P
        refine s_is7 rfl rfl ?_
        refine s_il5 rfl ?_
        refine s_zne rfl ?_ ?_
        · intro h232
          have hx1 : x = 1 := by omega
          refine s_ic rfl ?_
          refine s_go rfl ?_
          refine s_is5 rfl rfl ?_
          refine s_al1 rfl ?_
          refine s_il7 rfl ?_
          refine s_pi rfl k0 rfl ?_
          refine s_il5 rfl ?_
          refine s_retz rfl rfl (Or.inr rfl) ?_
          exact kk _ _ p (key D2 p f1) (fun t ht => (f2 t ht).trans (pyc D2 p f1 t ht)) (Or.inr rfl) (fun q => absurd q (by decide))
        · intro h232
          have hx0 : x = 0 := by omega
          refine s_al1 rfl ?_
          refine s_gi rfl k0 rfl ?_
          rw [a5]
          refine s_il7 rfl ?_
          refine s_ceq rfl ?_ ?_
          · intro h241
            refine s_ic rfl ?_
            refine s_is5 rfl rfl ?_
            refine s_al1 rfl ?_
            refine s_il7 rfl ?_
            refine s_pi rfl k0 rfl ?_
            refine s_il5 rfl ?_
            refine s_retz rfl rfl (Or.inl rfl) ?_
            obtain ⟨y1, y2, y3⟩ := gz hx0
            exact kk _ _ p (key D2 p f1) (fun t ht => (f2 t ht).trans (pyc D2 p f1 t ht)) (Or.inl rfl) (fun _ => ⟨y1, y2, y3, h241⟩)
          · intro h241
            refine s_ic rfl ?_
            refine s_go rfl ?_
            refine s_is5 rfl rfl ?_
            refine s_al1 rfl ?_
            refine s_il7 rfl ?_
            refine s_pi rfl k0 rfl ?_
            refine s_il5 rfl ?_
            refine s_retz rfl rfl (Or.inr rfl) ?_
            exact kk _ _ p (key D2 p f1) (fun t ht => (f2 t ht).trans (pyc D2 p f1 t ht)) (Or.inr rfl) (fun q => absurd q (by decide))
      · intro h158
        omega
    | succ m ih =>
      intro n D1 x u8 hm g1 g2 g3 g4 g5 gx gz
      have hn2 : n < nt := by omega
      have w1 : D1 T = D T := g1 _ (by omega) (by omega) (by omega)
      have wt : D1 (T + 9 + 3 * n) = D (T + 9 + 3 * n) := g1 _ (by omega) (by omega) (by omega)
      have w9 : D1 109 = D 109 := g1 _ (by omega) (by omega) (by omega)
      obtain ⟨l3, l5, lu⟩ := hL n hn2
      have h24n : n < 24 := by omega
      obtain ⟨t1, t2, t3⟩ := KTt hk hT h24n
      have w4 : D1 (a + 4) n = D (a + 4) n := g5 n (Int.le_refl _)
      have nx : ∀ (y : Int), (y = 0 ∨ y = 1) → (y = 0 → x = 0 ∧ D (a + 4) n = rmC2 D T n) → V G l (d + 3) iX5_asksAnew 205 [rf 101, rf a, rf T, (0, v), (0, (e : Int)), (0, x), (0, D 113 e), (0, (n : Int)), (0, rmC2 D T n)] [(0, y)] (K, D1, z) P := by
        intro y hy hy0
        refine s_is5 rfl rfl ?_
        refine s_al1 rfl ?_
        refine s_gf rfl k0 rfl rfl ?_
        refine s_il7 rfl ?_
        refine s_il8 rfl ?_
        refine s_iast rfl k4 (by omega) ?_
        refine s_iinc7 rfl rfl ⟨by omega, by omega⟩ ?_
        refine s_go rfl ?_
        refine ih (n + 1) _ y _ (by omega) (fun r r1 r2 r3 => by rw [aUp_row r3]; exact g1 r r1 r2 r3) (by rw [aUp_row (by omega)]; exact g2) (fun h q => by rw [aUp_row (by omega)]; exact g3 h q) (fun t ht => ?_) (fun j hj => by rw [aUp_ne (by omega)]; exact g5 j (by omega)) hy (fun q => ?_)
        · rw [aUp_same]
          rcases (by omega : t < n ∨ t = n) with q | q
          · rw [uF_ne (by omega)]; exact g4 t q
          · subst q; rw [uF_at]
        · obtain ⟨q1, q2⟩ := hy0 q
          obtain ⟨y1, y2, y3⟩ := gz q1
          refine ⟨y1, y2, fun t ht => ?_⟩
          rcases (by omega : t < n ∨ t = n) with q | q
          · exact y3 t q
          · subst q; exact q2
      refine s_il7 rfl ?_
      refine s_al2 rfl ?_
      refine s_gi rfl (KT hk hT) rfl ?_
      rw [w1, hn]
      refine s_cge rfl ?_ ?_
      · intro h158
        omega
      · intro h158
        refine s_al2 rfl ?_
        refine s_gf rfl (KT hk hT) rfl rfl ?_
        refine s_il7 rfl ?_
        refine s_aaldT rfl (KTa hk hT).1 (by omega) (by rw [Int.toNat_natCast, List.getElem?_map, List.getElem?_range (by omega)]; rfl) ?_
        refine s_gi rfl t1 rfl ?_
        rw [wt]
        refine s_al0 rfl ?_
        refine s_al2 rfl ?_
        refine s_il7 rfl ?_
        refine s_callO rfl rfl (Or.inl rfl) rfl rfl (hk.at rfl rfl) (v_leftOf hk hT h24n (by rw [wt]; exact l3) (by rw [wt]; exact l5) (by rw [w9]; exact lu) ?_)
        rw [wt, w9]
        show V G l (d + 3) iX5_asksAnew 178 [rf 101, rf a, rf T, (0, v), (0, (e : Int)), (0, x), (0, D 113 e), (0, (n : Int)), u8] [(0, D (T + 9 + 3 * n) 3 * (1 + D (T + 9 + 3 * n) 5) - D 109 n), (0, D (T + 9 + 3 * n) 3)] (K, D1, z) P
        refine s_min rfl rfl ?_
        change V G l (d + 3) iX5_asksAnew 181 _ [(0, rmC2 D T n)] _ P
        refine s_is8 rfl rfl ?_
        refine s_il5 rfl ?_
        refine s_zne rfl ?_ ?_
        · intro h185
          have hx1 : x = 1 := by omega
          refine s_ic rfl ?_
          refine s_go rfl ?_
          first | exact nx 1 (Or.inr rfl) (fun q => absurd q (by decide)) | exact nx 0 (Or.inl rfl) (fun _ => ⟨hx0, h197⟩)
        · intro h185
          have hx0 : x = 0 := by omega
          refine s_al1 rfl ?_
          refine s_gf rfl k0 rfl rfl ?_
          refine s_il7 rfl ?_
          refine s_iald rfl k4 (by omega) ?_
          rw [w4]
          refine s_il8 rfl ?_
          refine s_ceq rfl ?_ ?_
          · intro h197
            refine s_ic rfl ?_
            first | exact nx 1 (Or.inr rfl) (fun q => absurd q (by decide)) | exact nx 0 (Or.inl rfl) (fun _ => ⟨hx0, h197⟩)
          · intro h197
            refine s_ic rfl ?_
            refine s_go rfl ?_
            first | exact nx 1 (Or.inr rfl) (fun q => absurd q (by decide)) | exact nx 0 (Or.inl rfl) (fun _ => ⟨hx0, h197⟩)
  have loop1 : ∀ (m n : Nat) (D1 : Nat → Int → Int) (x : Int) (u8 : aTV), n + m = 12 → (∀ r, r ≠ a → r ≠ a + 1 → D1 r = D r) → D1 a = aaF D a e → (∀ h : Nat, h < n → D1 (a + 1) h = D 115 (e * 12 + h)) → (∀ j : Int, (n : Int) ≤ j → D1 (a + 1) j = D (a + 1) j) → (x = 0 ∨ x = 1) → (x = 0 → D a 0 = 1 ∧ (∀ h : Nat, h < n → D (a + 1) h = D 115 (e * 12 + h))) → V G l (d + 3) iX5_asksAnew 85 [rf 101, rf a, rf T, (0, v), (0, (e : Int)), (0, x), (0, D 113 e), (0, (n : Int)), u8] [] (K, D1, z) P := by
    intro m
    induction m with
    | zero =>
      intro n D1 x u8 hm g1 g2 g3 g4 gx gz
      have hn2 : n = 12 := by omega
      subst hn2
      refine s_il7 rfl ?_
      refine s_ic rfl ?_
      refine s_cge rfl ?_ ?_
      · intro h89
        refine s_ic rfl ?_
        refine s_is7 rfl rfl ?_
        exact loop2 nt 0 D1 x _ (by omega) (fun r r1 r2 _ => g1 r r1 r2) g2 g3 (fun t ht => absurd ht (Nat.not_lt_zero t)) (fun j _ => by rw [g1 (a + 4) (by omega) (by omega)]) gx (fun q => ⟨(gz q).1, (gz q).2, fun t ht => absurd ht (Nat.not_lt_zero t)⟩)
      · intro h89
        exact absurd h89 (by decide)
    | succ m ih =>
      intro n D1 x u8 hm g1 g2 g3 g4 gx gz
      have w15 : D1 115 = D 115 := g1 _ (by omega) (by omega)
      have w1 : D1 (a + 1) n = D (a + 1) n := g4 n (Int.le_refl _)
      have nx : ∀ (y : Int), (y = 0 ∨ y = 1) → (y = 0 → x = 0 ∧ D (a + 1) n = D 115 (e * 12 + n)) → V G l (d + 3) iX5_asksAnew 132 [rf 101, rf a, rf T, (0, v), (0, (e : Int)), (0, x), (0, D 113 e), (0, (n : Int)), (0, D 115 (e * 12 + n))] [(0, y)] (K, D1, z) P := by
        intro y hy hy0
        refine s_is5 rfl rfl ?_
        refine s_al1 rfl ?_
        refine s_gf rfl k0 rfl rfl ?_
        refine s_il7 rfl ?_
        refine s_il8 rfl ?_
        refine s_iast rfl k1 (by omega) ?_
        refine s_iinc7 rfl rfl ⟨by omega, by omega⟩ ?_
        refine s_go rfl ?_
        refine ih (n + 1) _ y _ (by omega) (fun r r1 r2 => by rw [aUp_row r2]; exact g1 r r1 r2) (by rw [aUp_row (by omega)]; exact g2) (fun h hh => ?_) (fun j hj => by rw [aUp_ne (by omega)]; exact g4 j (by omega)) hy (fun q => ?_)
        · rw [aUp_same]
          rcases (by omega : h < n ∨ h = n) with q | q
          · rw [uF_ne (by omega)]; exact g3 h q
          · subst q; rw [uF_at]
        · obtain ⟨q1, q2⟩ := hy0 q
          obtain ⟨y1, y2⟩ := gz q1
          refine ⟨y1, fun h hh => ?_⟩
          rcases (by omega : h < n ∨ h = n) with q | q
          · exact y2 h q
          · subst q; exact q2
      refine s_il7 rfl ?_
      refine s_ic rfl ?_
      refine s_cge rfl ?_ ?_
      · intro h89
        omega
      · intro h89
        refine s_al0 rfl ?_
        refine s_gf rfl (hk.at rfl rfl) rfl rfl ?_
        refine s_gf rfl (hk.at rfl rfl) rfl rfl ?_
        refine s_il4 rfl ?_
        refine s_ic rfl ?_
        refine s_imul rfl ⟨by omega, by omega⟩ ?_
        refine s_il7 rfl ?_
        refine s_iadd rfl ⟨by omega, by omega⟩ ?_
        refine s_iald rfl (hk.at rfl rfl) (by omega) ?_
        rw [w15]
        refine s_is8 rfl rfl ?_
        refine s_il5 rfl ?_
        refine s_zne rfl ?_ ?_
        · intro h112
          have hx1 : x = 1 := by omega
          refine s_ic rfl ?_
          refine s_go rfl ?_
          first | exact nx 1 (Or.inr rfl) (fun q => absurd q (by decide)) | exact nx 0 (Or.inl rfl) (fun _ => ⟨hx0, h124⟩)
        · intro h112
          have hx0 : x = 0 := by omega
          refine s_al1 rfl ?_
          refine s_gf rfl k0 rfl rfl ?_
          refine s_il7 rfl ?_
          refine s_iald rfl k1 (by omega) ?_
          rw [w1]
          refine s_il8 rfl ?_
          refine s_ceq rfl ?_ ?_
          · intro h124
            refine s_ic rfl ?_
            first | exact nx 1 (Or.inr rfl) (fun q => absurd q (by decide)) | exact nx 0 (Or.inl rfl) (fun _ => ⟨hx0, h124⟩)
          · intro h124
            refine s_ic rfl ?_
            refine s_go rfl ?_
            first | exact nx 1 (Or.inr rfl) (fun q => absurd q (by decide)) | exact nx 0 (Or.inl rfl) (fun _ => ⟨hx0, h124⟩)
  have start : ∀ (x : Int), (x = 0 ∨ x = 1) → (x = 0 → D a 0 = 1) → V G l (d + 3) iX5_asksAnew 12 [rf 101, rf a, rf T, (0, v), (0, (e : Int)), (9, 0), (9, 0), (9, 0), (9, 0)] [(0, x)] (K, D, z) P := by
    intro x hx hx0
    have p13 : ∀ i w, aUp D a i w 113 = D 113 := fun i w => aUp_row (by omega)
    have p14 : ∀ i w j x, aUp (aUp D a i w) a j x 114 = D 114 := fun i w j x => by rw [aUp_row (by omega), aUp_row (by omega)]
    have p93 : ∀ i w j x k y, aUp (aUp (aUp D a i w) a j x) a k y 93 = D 93 := fun i w j x k y => by rw [aUp_row (by omega), aUp_row (by omega), aUp_row (by omega)]
    have p91 : ∀ i w j x k y m u, aUp (aUp (aUp (aUp D a i w) a j x) a k y) a m u 91 = D 91 := fun i w j x k y m u => by rw [aUp_row (by omega), aUp_row (by omega), aUp_row (by omega), aUp_row (by omega)]
    refine s_is5 rfl rfl ?_
    refine s_al1 rfl ?_
    refine s_ic rfl ?_
    refine s_pz rfl k0 rfl (Or.inr rfl) ?_
    refine s_al0 rfl ?_
    refine s_gf rfl (hk.at rfl rfl) rfl rfl ?_
    refine s_gf rfl (hk.at rfl rfl) rfl rfl ?_
    refine s_il4 rfl ?_
    refine s_iald rfl (hk.at rfl rfl) (by omega) ?_
    rw [p13]
    refine s_is6 rfl rfl ?_
    refine s_al1 rfl ?_
    refine s_il6 rfl ?_
    refine s_pi rfl k0 rfl ?_
    refine s_al1 rfl ?_
    refine s_al0 rfl ?_
    refine s_gf rfl (hk.at rfl rfl) rfl rfl ?_
    refine s_gf rfl (hk.at rfl rfl) rfl rfl ?_
    refine s_il4 rfl ?_
    refine s_iald rfl (hk.at rfl rfl) (by omega) ?_
    rw [p14]
    refine s_pi rfl k0 rfl ?_
    refine s_al1 rfl ?_
    refine s_al0 rfl ?_
    refine s_gf rfl (hk.at rfl rfl) rfl rfl ?_
    refine s_gf rfl (hk.at rfl rfl) rfl rfl ?_
    refine s_il6 rfl ?_
    refine s_iald rfl (hk.at rfl rfl) (by omega) ?_
    rw [p93]
    refine s_pi rfl k0 rfl ?_
    refine s_al1 rfl ?_
    refine s_al0 rfl ?_
    refine s_gf rfl (hk.at rfl rfl) rfl rfl ?_
    refine s_gf rfl (hk.at rfl rfl) rfl rfl ?_
    refine s_il6 rfl ?_
    refine s_iald rfl (hk.at rfl rfl) (by omega) ?_
    rw [p91]
    refine s_ic rfl ?_
    refine s_idiv rfl (by decide) (by rw [e24]; exact ⟨by omega, by omega⟩) ?_
    rw [e24]
    refine s_pi rfl k0 rfl ?_
    refine s_ic rfl ?_
    refine s_is7 rfl rfl ?_
    refine loop1 12 0 _ x _ rfl (fun r r1 r2 => by rw [aUp_row r1, aUp_row r1, aUp_row r1, aUp_row r1, aUp_row r1]) ?_ (fun h hh => absurd hh (Nat.not_lt_zero h)) (fun j _ => by rw [aUp_row (by omega), aUp_row (by omega), aUp_row (by omega), aUp_row (by omega), aUp_row (by omega)]) hx (fun q => ⟨hx0 q, fun h hh => absurd hh (Nat.not_lt_zero h)⟩)
    rw [aUp_same, aUp_same, aUp_same, aUp_same, aUp_same]
    rfl
  refine VM_go (tg2 rfl) (Nat.le_of_ble_eq_true rfl) ?_
  refine s_al1 rfl ?_
  refine s_gz rfl k0 rfl ?_
  refine s_zne rfl ?_ ?_
  · intro h4
    refine s_ic rfl ?_
    first | exact start 1 (Or.inr rfl) (fun q => absurd q (by decide)) | exact start 0 (Or.inl rfl) (fun _ => by omega)
  · intro h4
    refine s_ic rfl ?_
    refine s_go rfl ?_
    first | exact start 1 (Or.inr rfl) (fun q => absurd q (by decide)) | exact start 0 (Or.inl rfl) (fun _ => by omega)
end
