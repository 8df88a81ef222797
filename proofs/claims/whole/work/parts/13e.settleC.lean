/-! ===== an event's settling: the class ===== -/
theorem wC_congr {D D' : Nat → Int → Int} {T nt : Nat} (h24 : nt ≤ 24) (h : ∀ r, T + 9 ≤ r → r < T + 81 → D' r = D r) : ∀ t, t < nt → wC D' T t = wC D T t := fun t ht => by
  funext j
  unfold wC
  rw [h _ (by omega) (by omega), h (T + 10 + 3 * t) (by omega) (by omega), h (T + 11 + 3 * t) (by omega) (by omega)]
theorem wOk_congr {w w' : WT} {nt : Nat} {nh : Int} (hw : wOk w nt nh) (h : ∀ t, t < nt → w' t = w t) : wOk w' nt nh := ⟨hw.1, hw.2.1, hw.2.2.1, fun t ht => by rw [h t ht]; exact hw.2.2.2 t ht⟩
theorem cuT_congr {w w' : WT} {t n : Nat} {am a b : Int} (h : w' t = w t) : cuT w' t am a b n = cuT w t am a b n := by unfold cuT; rw [h]
theorem cuO_congr {w w' : WT} {t n : Nat} {am a b : Int} (h : w' t = w t) : cuO w' t am a b n = cuO w t am a b n := by unfold cuO; rw [h]
abbrev useC (D : Nat → Int → Int) (a : Nat) : Nat → Int := fun t => D (a + 6) t
abbrev basC (D : Nat → Int → Int) (a : Nat) : Nat → Int := fun t => D (a + 5) t
abbrev raC (D : Nat → Int → Int) : Nat → Int := fun t => D 110 t
def WcB (D : Nat → Int → Int) (T nt : Nat) : Prop := ∀ t, t < nt → (0 ≤ wC D T t 3 ∧ wC D T t 3 ≤ 999999) ∧ (0 ≤ wC D T t 5 ∧ wC D T t 5 ≤ 9) ∧ (0 ≤ wC D T t 6 ∧ wC D T t 6 ≤ 999999) ∧ (¬ wC D T t 1 = 0 → 1 ≤ wC D T t 3)
section
variable {G : aCX} {l : Launch} {d : Nat} {K : Nat → aKd} {D : Nat → Int → Int} {z : Nat × Nat} {P : Int → aSt → Prop}
theorem v_reinstate {T t a nt : Nat} {nh : Int} (hk : Kn K) (hT : isT T) (ha : Kh K a) (hw : wOk (wC D T) nt nh) (ht : t < nt) (hB : WcB D T nt) (hl : ¬ wC D T t 1 = 0) (hU : 0 ≤ useC D a t ∧ useC D a t ≤ 20000000) (hr : 0 ≤ raC D t ∧ raC D t ≤ wC D T t 3 * wC D T t 5) (hO : ∀ a' b : Int, 0 ≤ a' → a' < 12 → 0 ≤ b → b < 12 → 0 ≤ D 102 (a' * 12 + b) ∧ D 102 (a' * 12 + b) + cuO (wC D T) t (pmF (wC D T) (raC D) (useC D a) t) a' b (wC D T t 7).toNat ≤ 2000000000)
    (kk : ∀ D', (∀ r, r ≠ 102 → r ≠ 110 → r ≠ a + 8 → r ≠ a + 9 → D' r = D r) → D' 110 = uF (D 110) t (D 110 t + rsF (wC D T) (raC D) (useC D a) t) → D' (a + 8) = uF (D (a + 8)) t (rsF (wC D T) (raC D) (useC D a) t) → D' (a + 9) = uF (D (a + 9)) t (pmF (wC D T) (raC D) (useC D a) t) → (∀ a' b : Int, 0 ≤ a' → a' < 12 → 0 ≤ b → b < 12 → D' 102 (a' * 12 + b) = D 102 (a' * 12 + b) + cuO (wC D T) t (pmF (wC D T) (raC D) (useC D a) t) a' b (wC D T t 7).toNat) → P 0 (K, D', z)) : VM G l (d + 2) iX5_reinstate [rf 101, rf a, rf (T + 9 + 3 * t), (0, (t : Int))] (K, D, z) P := by
  have hT2 : T = 8 ∨ T = 129 := hT
  have n24 := hw.1
  have ht24 : t < 24 := Nat.lt_of_lt_of_le ht hw.1
  obtain ⟨ha0, k0, k1, k2, k3, k4, k5, k6, k7, k8, k9⟩ := ha
  obtain ⟨t1, t2, t3⟩ := KTt hk hT ht24
  obtain ⟨l3, l5, l6, l1⟩ := hB t ht
  have l1 := l1 hl
  have e3 : wC D T t 3 = D (T + 9 + 3 * t) 3 := wC_f (by decide)
  have e5 : wC D T t 5 = D (T + 9 + 3 * t) 5 := wC_f (by decide)
  have e6 : wC D T t 6 = D (T + 9 + 3 * t) 6 := wC_f (by decide)
  have hm35 : 0 ≤ wC D T t 3 * wC D T t 5 ∧ wC D T t 3 * wC D T t 5 ≤ 999999 * 9 := ⟨Int.mul_nonneg l3.1 l5.1, Int.mul_le_mul l3.2 l5.2 l5.1 (by decide)⟩
  rw [e3, e5] at hm35 hr
  have hrs : rsF (wC D T) (raC D) (useC D a) t = (if D (T + 9 + 3 * t) 3 * D (T + 9 + 3 * t) 5 - D 110 t < D (a + 6) t then D (T + 9 + 3 * t) 3 * D (T + 9 + 3 * t) 5 - D 110 t else D (a + 6) t) := by
    unfold rsF
    rw [if_neg hl, e3, e5]
    show (if D (a + 6) t < _ - D 110 t then D (a + 6) t else _ - D 110 t) = _
    split <;> split <;> omega
  have hr0 : 0 ≤ rsF (wC D T) (raC D) (useC D a) t ∧ rsF (wC D T) (raC D) (useC D a) t ≤ 20000000 := by
    rw [hrs]
    have hU' : 0 ≤ D (a + 6) t ∧ D (a + 6) t ≤ 20000000 := hU
    have hr' : 0 ≤ D 110 t ∧ D 110 t ≤ D (T + 9 + 3 * t) 3 * D (T + 9 + 3 * t) 5 := hr
    split <;> omega
  have hpm : pmF (wC D T) (raC D) (useC D a) t = D (T + 9 + 3 * t) 6 * rsF (wC D T) (raC D) (useC D a) t / D (T + 9 + 3 * t) 3 := by
    unfold pmF
    rw [if_neg hl, e6, e3]
  generalize rsF (wC D T) (raC D) (useC D a) t = rs at *
  rw [e3] at l1 l3
  rw [e6] at l6
  have hm6 : 0 ≤ D (T + 9 + 3 * t) 6 * rs ∧ D (T + 9 + 3 * t) 6 * rs ≤ 999999 * 20000000 := ⟨Int.mul_nonneg l6.1 hr0.1, Int.mul_le_mul l6.2 hr0.2 hr0.1 (by decide)⟩
  have ed : (D (T + 9 + 3 * t) 6 * rs).tdiv (D (T + 9 + 3 * t) 3) = pmF (wC D T) (raC D) (useC D a) t := by rw [hpm]; exact Int.tdiv_eq_ediv_of_nonneg hm6.1
  have hp9 : 0 ≤ pmF (wC D T) (raC D) (useC D a) t ∧ pmF (wC D T) (raC D) (useC D a) t ≤ 8999991 := by
    rw [hpm]
    refine ⟨Int.ediv_nonneg hm6.1 l3.1, Int.ediv_le_of_le_mul (by omega) ?_⟩
    have hr' : 0 ≤ D 110 t ∧ D 110 t ≤ D (T + 9 + 3 * t) 3 * D (T + 9 + 3 * t) 5 := hr
    have q1 : rs ≤ D (T + 9 + 3 * t) 3 * 9 := by
      have q0 : D (T + 9 + 3 * t) 3 * D (T + 9 + 3 * t) 5 ≤ D (T + 9 + 3 * t) 3 * 9 := Int.mul_le_mul_of_nonneg_left (by omega) l3.1
      rw [hrs]
      split <;> omega
    have q2 : D (T + 9 + 3 * t) 6 * rs ≤ 999999 * (D (T + 9 + 3 * t) 3 * 9) := Int.mul_le_mul l6.2 q1 hr0.1 (by decide)
    omega
  generalize hPm : pmF (wC D T) (raC D) (useC D a) t = pm at *
  have d110 : 0 ≤ D 110 t ∧ D 110 t ≤ 999999 * 9 := by
    have hr' : 0 ≤ D 110 t ∧ D 110 t ≤ D (T + 9 + 3 * t) 3 * D (T + 9 + 3 * t) 5 := hr
    omega
  refine VM_go (tg2 rfl) (Nat.le_of_ble_eq_true rfl) ?_
  refine s_al2 rfl ?_
  refine s_gi rfl t1 rfl ?_
  refine s_al2 rfl ?_
  refine s_gi rfl t1 rfl ?_
  refine s_imul rfl ⟨by omega, by omega⟩ ?_
  refine s_al0 rfl ?_
  refine s_gf rfl (hk.at rfl rfl) rfl rfl ?_
  refine s_il3 rfl ?_
  refine s_iald rfl (hk.at rfl rfl) (by omega) ?_
  refine s_isub rfl ⟨by omega, by omega⟩ ?_
  refine s_is4 rfl rfl ?_
  refine s_al1 rfl ?_
  refine s_gf rfl k0 rfl rfl ?_
  refine s_il3 rfl ?_
  refine s_iald rfl k6 (by omega) ?_
  refine s_il4 rfl ?_
  refine s_min rfl rfl ?_
  rw [← hrs]
  refine s_is5 rfl rfl ?_
  refine s_al2 rfl ?_
  refine s_gi rfl t1 rfl ?_
  refine s_zle rfl ?_ ?_
  · intro h35
    omega
  · intro h35
    refine s_al2 rfl ?_
    refine s_gi rfl t1 rfl ?_
    refine s_i2l rfl ?_
    refine s_il5 rfl ?_
    refine s_i2l rfl ?_
    refine s_lmul rfl ⟨by omega, by omega⟩ ?_
    refine s_al2 rfl ?_
    refine s_gi rfl t1 rfl ?_
    refine s_i2l rfl ?_
    refine s_ldiv rfl (by omega) (by rw [ed]; exact ⟨by omega, by omega⟩) ?_
    rw [ed]
    refine s_l2i rfl ⟨by omega, by omega⟩ ?_
    refine s_go rfl ?_
    refine s_is6 rfl rfl ?_
    refine s_al0 rfl ?_
    refine s_gf rfl (hk.at rfl rfl) rfl rfl ?_
    refine s_il3 rfl ?_
    refine s_dup2 rfl rfl rfl ?_
    refine s_iald rfl (hk.at rfl rfl) (by omega) ?_
    refine s_il5 rfl ?_
    refine s_iadd rfl ⟨by omega, by omega⟩ ?_
    refine s_iast rfl (hk.at rfl rfl) (by omega) ?_
    refine s_al1 rfl ?_
    refine s_gf rfl k0 rfl rfl ?_
    refine s_il3 rfl ?_
    refine s_il5 rfl ?_
    refine s_iast rfl k8 (by omega) ?_
    refine s_al1 rfl ?_
    refine s_gf rfl k0 rfl rfl ?_
    refine s_il3 rfl ?_
    refine s_il6 rfl ?_
    refine s_iast rfl k9 (by omega) ?_
    refine s_al0 rfl ?_
    refine s_al2 rfl ?_
    refine s_il6 rfl ?_
    generalize hE : aUp (aUp (aUp D 110 t (D 110 t + rs)) (a + 8) t rs) (a + 9) t pm = E
    have er : ∀ r, r ≠ 110 → r ≠ a + 8 → r ≠ a + 9 → E r = D r := fun r r1 r2 r3 => by rw [← hE, aUp_row r3, aUp_row r2, aUp_row r1]
    have ewt : ∀ s, s < nt → wC E T s = wC D T s := wC_congr n24 (fun r q1 q2 => er r (by omega) (by omega) (by omega))
    refine s_callO rfl rfl (Or.inl rfl) rfl rfl (hk.at rfl rfl) (v_ownerOwesParts (D := E) hk hT (wOk_congr hw ewt) ht ⟨hp9.1, by omega⟩ (fun a' b a1 a2 b1 b2 => by rw [er 102 (by omega) (by omega) (by omega), cuO_congr (ewt t ht), ewt t ht]; exact hO a' b a1 a2 b1 b2) (fun D' f1 f2 => ?_))
    refine s_retv rfl rfl ?_
    refine kk D' (fun r r1 r2 r3 r4 => by rw [f1 r r1, er r r2 r3 r4]) ?_ ?_ ?_ (fun a' b a1 a2 b1 b2 => ?_)
    · rw [f1 _ (by omega), ← hE, aUp_row (by omega), aUp_row (by omega), aUp_same]
    · rw [f1 _ (by omega), ← hE, aUp_row (by omega), aUp_same, aUp_row (by omega)]
    · rw [f1 _ (by omega), ← hE, aUp_same, aUp_row (by omega), aUp_row (by omega)]
    · rw [f2 a' b a1 a2 b1 b2, er 102 (by omega) (by omega) (by omega), cuO_congr (ewt t ht), ewt t ht]
theorem v_addDirect {a : Nat} (hk : Kn K) (ha : Kh K a) (hd : ∀ h : Nat, h < 12 → (0 ≤ D (a + 1) h ∧ D (a + 1) h ≤ 6000000) ∧ (0 ≤ D 103 h ∧ D 103 h ≤ 400000000)) (kk : ∀ D', (∀ r, r ≠ 103 → D' r = D r) → (∀ h : Nat, h < 12 → D' 103 h = D 103 h + D (a + 1) h) → P 0 (K, D', z)) : VM G l d iX5_addDirect [rf 101, rf a] (K, D, z) P := by
  obtain ⟨ha0, k0, k1, k2, k3, k4, k5, k6, k7, k8, k9⟩ := ha
  have loop : ∀ (m n : Nat) (D1 : Nat → Int → Int), n + m = 12 → (∀ r, r ≠ 103 → D1 r = D r) → (∀ h : Nat, h < n → D1 103 h = D 103 h + D (a + 1) h) → (∀ j : Int, (n : Int) ≤ j → D1 103 j = D 103 j) → V G l d iX5_addDirect 2 [rf 101, rf a, (0, (n : Int))] [] (K, D1, z) P := by
    intro m
    induction m with
    | zero =>
      intro n D1 hm g1 g2 g3
      have hn : n = 12 := by omega
      subst hn
      refine s_il2 rfl ?_
      refine s_ic rfl ?_
      refine s_cge rfl ?_ ?_
      · intro h5
        refine s_retv rfl rfl ?_
        exact kk D1 g1 g2
      · intro h5
        exact absurd h5 (by decide)
    | succ m ih =>
      intro n D1 hm g1 g2 g3
      have w1 : D1 (a + 1) = D (a + 1) := g1 _ (by omega)
      have w3 : D1 103 n = D 103 n := g3 n (Int.le_refl _)
      obtain ⟨q1, q2⟩ := hd n (by omega)
      refine s_il2 rfl ?_
      refine s_ic rfl ?_
      refine s_cge rfl ?_ ?_
      · intro h5
        omega
      · intro h5
        refine s_al0 rfl ?_
        refine s_gf rfl (hk.at rfl rfl) rfl rfl ?_
        refine s_il2 rfl ?_
        refine s_dup2 rfl rfl rfl ?_
        refine s_iald rfl (hk.at rfl rfl) (by omega) ?_
        rw [w3]
        refine s_al1 rfl ?_
        refine s_gf rfl k0 rfl rfl ?_
        refine s_il2 rfl ?_
        refine s_iald rfl k1 (by omega) ?_
        rw [w1]
        refine s_iadd rfl ⟨by omega, by omega⟩ ?_
        refine s_iast rfl (hk.at rfl rfl) (by omega) ?_
        refine s_iinc2 rfl rfl ⟨by omega, by omega⟩ ?_
        refine s_go rfl ?_
        refine ih (n + 1) _ (by omega) (fun r hr => by rw [aUp_row hr]; exact g1 r hr) (fun h hh => ?_) (fun j hj => by rw [aUp_ne (by omega)]; exact g3 j (by omega))
        rw [aUp_same]
        rcases (by omega : h < n ∨ h = n) with q | q
        · rw [uF_ne (by omega)]; exact g2 h q
        · subst q; rw [uF_at]
  refine VM_go (tg2 rfl) (Nat.le_of_ble_eq_true rfl) ?_
  refine s_ic rfl ?_
  refine s_is2 rfl rfl ?_
  exact loop 12 0 D rfl (fun _ _ => rfl) (fun h hh => absurd hh (Nat.not_lt_zero h)) (fun _ _ => rfl)
end
