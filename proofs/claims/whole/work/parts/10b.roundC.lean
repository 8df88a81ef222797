/-! ===== rounds: the class ===== -/
def wC (D : Nat → Int → Int) (T : Nat) : WT := fun t j => if j < 100 then D (T + 9 + 3 * t) j else if j < 200 then D (T + 10 + 3 * t) (j - 100) else D (T + 11 + 3 * t) (j - 200)
theorem wC_f {D : Nat → Int → Int} {T t : Nat} {j : Int} (h : j < 100) : wC D T t j = D (T + 9 + 3 * t) j := if_pos h
theorem wC_h {D : Nat → Int → Int} {T t i : Nat} (h : i < 100) : wC D T t (100 + i) = D (T + 10 + 3 * t) i := by
  unfold wC
  rw [if_neg (by omega), if_pos (by omega), show (100 : Int) + i - 100 = i by omega]
theorem wC_s {D : Nat → Int → Int} {T t i : Nat} : wC D T t (200 + i) = D (T + 11 + 3 * t) i := by
  unfold wC
  rw [if_neg (by omega), if_neg (by omega), show (200 : Int) + i - 200 = i by omega]
/-- the cells of an event's record -/
def Kh (K : Nat → aKd) (a : Nat) : Prop := 279 ≤ a ∧ K a = (3, 0, [0, 0, 0, 0, 0, 0, 0, 0, a + 1, a + 2, a + 3, a + 4, a + 5, a + 6, a + 7, a + 8, a + 9]) ∧ K (a + 1) = (14, 12, []) ∧ K (a + 2) = (14, 12, []) ∧ K (a + 3) = (14, 12, []) ∧ K (a + 4) = (14, 24, []) ∧ K (a + 5) = (14, 24, []) ∧ K (a + 6) = (14, 24, []) ∧ K (a + 7) = (14, 24, []) ∧ K (a + 8) = (14, 24, []) ∧ K (a + 9) = (14, 24, [])
def aFl (D : Nat → Int → Int) (r n : Nat) (x : Int) : Nat → Int → Int := fun r' j => if r' = r ∧ 0 ≤ j ∧ j < n then x else D r' j
theorem aFl_row {D : Nat → Int → Int} {r n q : Nat} {x : Int} (h : q ≠ r) : aFl D r n x q = D q := by
  funext j
  unfold aFl
  rw [if_neg (fun z => h z.1)]
theorem aFl_at {D : Nat → Int → Int} {r n : Nat} {x j : Int} (h : 0 ≤ j ∧ j < n) : aFl D r n x r j = x := if_pos ⟨rfl, h.1, h.2⟩
theorem aUc_at {D : Nat → Int → Int} {r s : Nat} {n j : Int} (h : 0 ≤ j ∧ j < n) : aUc D r s 0 0 n s j = D r j := by
  unfold aUc
  rw [if_pos ⟨rfl, h.1, by omega⟩, show (0 : Int) + (j - 0) = j by omega]
abbrev payC (D : Nat → Int → Int) (a : Nat) : Nat → Bool := fun t => decide (bAnd (bShr (D a 5) t) 1 = 1)
section
variable {G : aCX} {l : Launch} {d : Nat} {K : Nat → aKd} {D : Nat → Int → Int} {z : Nat × Nat} {P : Int → aSt → Prop}
theorem v_fill {r n : Nat} {x : Int} (hkr : K r = (14, n, [])) (hn : n ≤ 200000) (kk : P 0 (K, aFl D r n x, z)) : VM G l d iJ7_fill_53178 [rf r, (0, x)] (K, D, z) P := by
  have loop : ∀ (m i : Nat), i + m = n → V G l d iJ7_fill_53178 5 [rf r, (0, x), (0, (i : Int)), (0, Int.ofNat n)] [] (K, aFl D r i x, z) P := by
    intro m
    induction m with
    | zero =>
      intro i h
      have hi : i = n := by omega
      subst hi
      refine s_il2 rfl ?_
      refine s_il3 rfl ?_
      refine s_cge rfl ?_ ?_
      · intro h7
        refine s_retv rfl rfl ?_
        exact kk
      · intro h7
        exact absurd h7 (by show ¬ (i : Int) < (i : Int); omega)
    | succ m ih =>
      intro i h
      have hin : (i : Int) < Int.ofNat n := by show (i : Int) < (n : Int); omega
      refine s_il2 rfl ?_
      refine s_il3 rfl ?_
      refine s_cge rfl ?_ ?_
      · intro h7
        exact absurd h7 (by omega)
      · intro h7
        refine s_al0 rfl ?_
        refine s_il2 rfl ?_
        refine s_il1 rfl ?_
        refine s_iast rfl hkr (by omega) ?_
        refine s_iinc2 rfl rfl ⟨by omega, by omega⟩ ?_
        refine s_go rfl ?_
        have e : aUp (aFl D r i x) r i x = aFl D r (i + 1) x := by
          funext r' j
          unfold aUp aFl
          by_cases hr : r' = r
          · by_cases hj : j = i
            · rw [if_pos ⟨hr, hj⟩, if_pos ⟨hr, by omega, by omega⟩]
            · rw [if_neg (fun q => hj q.2)]
              by_cases hq : 0 ≤ j ∧ j < i
              · rw [if_pos ⟨hr, hq.1, hq.2⟩, if_pos ⟨hr, by omega, by omega⟩]
              · rw [if_neg (fun q => hq q.2), if_neg (fun q => hq ⟨q.2.1, by omega⟩)]
          · rw [if_neg (fun q => hr q.1), if_neg (fun q => hr q.1), if_neg (fun q => hr q.1)]
        rw [e]
        exact ih (i + 1) (by omega)
  refine VM_go (tg2 rfl) (Nat.le_of_ble_eq_true rfl) ?_
  have e0 : aFl D r 0 x = D := by
    funext r' j
    unfold aFl
    rw [if_neg (by omega)]
  have h0 := loop n 0 (by omega)
  rw [e0] at h0
  refine s_ic rfl ?_
  refine s_is2 rfl rfl ?_
  refine s_al0 rfl ?_
  refine s_alen rfl hkr (by have : Nat.ble n 200000 = true := Nat.ble_eq_true_of_le hn; rw [this]; rfl) ?_
  refine s_is3 rfl rfl ?_
  exact h0
theorem v_partOf {a n : Int} (ha : 0 ≤ a ∧ a ≤ 1000000000) (hn : 0 ≤ n ∧ n ≤ 1000) (kk : P (prt a n) (K, D, z)) : VM G l d iX6_partOf [(0, a), (0, n)] (K, D, z) P := by
  have h1 : 0 ≤ a * n ∧ a * n ≤ 1000000000 * 1000 := ⟨Int.mul_nonneg ha.1 hn.1, Int.mul_le_mul ha.2 hn.2 hn.1 (by decide)⟩
  have e : (a * n).tdiv 1000 = a * n / 1000 := Int.tdiv_eq_ediv_of_nonneg h1.1
  refine VM_go (tg2 rfl) (Nat.le_of_ble_eq_true rfl) ?_
  refine s_il0 rfl ?_
  refine s_i2l rfl ?_
  refine s_il1 rfl ?_
  refine s_i2l rfl ?_
  refine s_lmul rfl ⟨by omega, by omega⟩ ?_
  refine s_lc rfl ?_
  refine s_ldiv rfl (by decide) (by rw [e]; exact ⟨by omega, by omega⟩) ?_
  rw [e]
  refine s_l2i rfl ⟨by omega, by omega⟩ ?_
  refine s_reti rfl rfl ?_
  exact kk
theorem v_amountOf {T t : Nat} {b rm0 : Int} (hk : Kn K) (hT : isT T) (ht : t < 24) (h4 : 0 ≤ D (T + 9 + 3 * t) 4 ∧ D (T + 9 + 3 * t) 4 ≤ 999999) (hb : 0 ≤ b ∧ b ≤ 1000000000) (kk : P (amtF (wC D T) (fun _ => rm0) t b) (K, D, z)) : VM G l d iX6_amountOf [rf (T + 9 + 3 * t), (0, b), (0, rm0)] (K, D, z) P := by
  obtain ⟨k1, k2, k3⟩ := KTt hk hT ht
  unfold amtF at kk
  rw [wC_f (by decide), wC_f (by decide)] at kk
  refine VM_go (tg2 rfl) (Nat.le_of_ble_eq_true rfl) ?_
  refine s_al0 rfl ?_
  refine s_gz rfl k1 rfl ?_
  refine s_zeq rfl ?_ ?_
  · intro hz
    rw [if_pos hz] at kk
    refine s_il1 rfl ?_
    refine s_reti rfl rfl ?_
    exact kk
  · intro hz
    rw [if_neg hz] at kk
    refine s_il2 rfl ?_
    refine s_ic rfl ?_
    refine s_il1 rfl ?_
    refine s_al0 rfl ?_
    refine s_gi rfl k1 rfl ?_
    refine s_isub rfl ⟨by omega, by omega⟩ ?_
    refine s_max rfl rfl ?_
    refine s_min rfl rfl ?_
    refine s_go rfl ?_
    refine s_reti rfl rfl ?_
    exact kk
theorem v_isPaying {a : Nat} {t : Int} (ha : Kh K a) (kk : P (if bAnd (bShr (D a 5) t) 1 = 1 then 1 else 0) (K, D, z)) : VM G l d iX3_isPaying [rf a, (0, t)] (K, D, z) P := by
  refine VM_go (tg2 rfl) (Nat.le_of_ble_eq_true rfl) ?_
  refine s_al0 rfl ?_
  refine s_gi rfl ha.2.1 rfl ?_
  refine s_il1 rfl ?_
  refine s_ishr rfl ?_
  refine s_ic rfl ?_
  refine s_iand rfl ?_
  refine s_ic rfl ?_
  refine s_cne rfl ?_ ?_
  · intro h9
    rw [if_neg h9] at kk
    refine s_ic rfl ?_
    refine s_retz rfl rfl (by omega) ?_
    exact kk
  · intro h9
    rw [if_pos h9] at kk
    refine s_ic rfl ?_
    refine s_go rfl ?_
    refine s_retz rfl rfl (by omega) ?_
    exact kk
/-- nothing is paid: gross and rest as direct, nothing else -/
def PnD (a : Nat) (D D' : Nat → Int → Int) : Prop := (∀ r, r ≠ a + 2 → r ≠ a + 3 → r ≠ a + 5 → r ≠ a + 6 → r ≠ a + 7 → D' r = D r) ∧ (∀ h : Int, 0 ≤ h ∧ h < 12 → D' (a + 2) h = D (a + 1) h ∧ D' (a + 3) h = D (a + 1) h) ∧ ∀ t : Int, 0 ≤ t ∧ t < 24 → D' (a + 5) t = 0 ∧ D' (a + 6) t = 0 ∧ D' (a + 7) t = 0
theorem v_payNothing {a : Nat} (ha : Kh K a) (kk : ∀ D', PnD a D D' → P 0 (K, D', z)) : VM G l (d + 1) iX3_payNothing [rf a] (K, D, z) P := by
  obtain ⟨h0, k0, k1, k2, k3, k4, k5, k6, k7, k8, k9⟩ := ha
  refine VM_go (tg2 rfl) (Nat.le_of_ble_eq_true rfl) ?_
  have nb : ∀ x y : Nat, x ≠ y → (!(Nat.beq x y) && Nat.ble (aCat []) 8) = true := fun x y h => by
    have : Nat.beq x y = false := by
      cases hb : Nat.beq x y with
      | false => rfl
      | true => exact absurd (beq_of hb) h
    rw [this]; rfl
  refine s_al0 rfl ?_
  refine s_gf rfl k0 rfl rfl ?_
  refine s_ic rfl ?_
  refine s_al0 rfl ?_
  refine s_gf rfl k0 rfl rfl ?_
  refine s_ic rfl ?_
  refine s_ic rfl ?_
  refine s_copy rfl k1 k2 (nb _ _ (by omega)) (by omega) ?_
  refine s_al0 rfl ?_
  refine s_gf rfl k0 rfl rfl ?_
  refine s_ic rfl ?_
  refine s_al0 rfl ?_
  refine s_gf rfl k0 rfl rfl ?_
  refine s_ic rfl ?_
  refine s_ic rfl ?_
  refine s_copy rfl k1 k3 (nb _ _ (by omega)) (by omega) ?_
  refine s_al0 rfl ?_
  refine s_gf rfl k0 rfl rfl ?_
  refine s_ic rfl ?_
  refine s_callS rfl rfl rfl rfl (v_fill k5 (by decide) ?_)
  refine s_al0 rfl ?_
  refine s_gf rfl k0 rfl rfl ?_
  refine s_ic rfl ?_
  refine s_callS rfl rfl rfl rfl (v_fill k6 (by decide) ?_)
  refine s_al0 rfl ?_
  refine s_gf rfl k0 rfl rfl ?_
  refine s_ic rfl ?_
  refine s_callS rfl rfl rfl rfl (v_fill k7 (by decide) ?_)
  refine s_retv rfl rfl ?_
  refine kk _ ⟨fun r h2 h3 h5 h6 h7 => ?_, fun h hh => ⟨?_, ?_⟩, fun t ht => ⟨?_, ?_, ?_⟩⟩
  · rw [aFl_row h7, aFl_row h6, aFl_row h5, aUc_row h3, aUc_row h2]
  · rw [aFl_row (by omega), aFl_row (by omega), aFl_row (by omega), aUc_row (by omega), aUc_at hh]
  · rw [aFl_row (by omega), aFl_row (by omega), aFl_row (by omega), aUc_at hh, aUc_row (by omega)]
  · rw [aFl_row (by omega), aFl_row (by omega), aFl_at (by omega)]
  · rw [aFl_row (by omega), aFl_at (by omega)]
  · rw [aFl_at (by omega)]
/-- what a treaty's parts pay now, in place of what they paid -/
def PpD (T t : Nat) (am : Int) (D : Nat → Int → Int) (n : Nat) (D' : Nat → Int → Int) : Prop := (∀ r, r ≠ 105 → r ≠ 107 → D' r = D r) ∧ (∀ i : Nat, i < n → D' 107 (11 * t + i) = prt am (wC D T t (200 + i))) ∧ (∀ j : Int, ¬ (11 * (t : Int) ≤ j ∧ j < 11 * t + n) → D' 107 j = D 107 j) ∧ ∀ h : Int, D' 105 h = D 105 h + sumF (fun i => if wC D T t (100 + i) = h then prt am (wC D T t (200 + i)) - D 107 (11 * t + i) else 0) n
theorem v_payParts {T t nt : Nat} {nh am : Int} (hk : Kn K) (hT : isT T) (hw : wOk (wC D T) nt nh) (ht : t < nt) (ha : 0 ≤ am ∧ am ≤ 20000000) (hq : ∀ i : Nat, i < 11 → 0 ≤ D 107 (11 * t + i) ∧ D 107 (11 * t + i) ≤ 20000000) (hf : ∀ h : Int, 0 ≤ h ∧ h < 12 → -600000000 ≤ D 105 h ∧ D 105 h ≤ 600000000) (kk : ∀ D', PpD T t am D (wC D T t 7).toNat D' → P (pdF (wC D T) t am) (K, D', z)) : VM G l (d + 1) iX6_payParts [rf 104, rf (T + 9 + 3 * t), (0, 11 * (t : Int)), (0, am)] (K, D, z) P := by
  have ht24 : t < 24 := Nat.lt_of_lt_of_le ht hw.1
  have hnh := hw.2.2.1
  obtain ⟨k1, k2, k3⟩ := KTt hk hT ht24
  obtain ⟨-, -, -, -, h7, hp, -⟩ := hw.2.2.2 t ht
  have hT2 : T = 8 ∨ T = 129 := hT
  have e7 : wC D T t 7 = D (T + 9 + 3 * t) 7 := wC_f (by decide)
  have loop : ∀ (m n : Nat) (D1 : Nat → Int → Int) (u : aTV), n + m = (wC D T t 7).toNat → PpD T t am D n D1 → V G l (d + 1) iX6_payParts 6 [rf 104, rf (T + 9 + 3 * t), (0, 11 * (t : Int)), (0, am), (0, sumF (fun i => prt am (wC D T t (200 + i))) n), (0, (n : Int)), u] [] (K, D1, z) P := by
    intro m
    induction m with
    | zero =>
      intro n D1 u h1 hD
      have hn : n = (wC D T t 7).toNat := by omega
      have f7 : D1 (T + 9 + 3 * t) = D (T + 9 + 3 * t) := hD.1 _ (by omega) (by omega)
      refine s_il5 rfl ?_
      refine s_al1 rfl ?_
      refine s_gi rfl k1 rfl ?_
      rw [f7, ← e7]
      refine s_cge rfl ?_ ?_
      · intro h12
        refine s_il4 rfl ?_
        refine s_reti rfl rfl ?_
        rw [hn]
        exact kk D1 (hn ▸ hD)
      · intro h12
        omega
    | succ m ih =>
      intro n D1 u h1 hD
      obtain ⟨f1, f2, f3, f4⟩ := id hD
      have f7 : D1 (T + 9 + 3 * t) = D (T + 9 + 3 * t) := f1 _ (by omega) (by omega)
      have f8 : D1 (T + 10 + 3 * t) n = wC D T t (100 + n) := by rw [f1 _ (by omega) (by omega), wC_h (by omega)]
      have f9 : D1 (T + 11 + 3 * t) n = wC D T t (200 + n) := by rw [f1 _ (by omega) (by omega), wC_s]
      obtain ⟨q1, q2⟩ := hp n (by omega)
      have hpr := prt_in ha.1 q2
      have hqn := hq n (by omega)
      have hfh := hf (wC D T t (100 + n)) (by omega)
      have f107 : D1 107 (11 * t + n) = D 107 (11 * t + n) := f3 _ (by omega)
      have hs : -220000000 ≤ D1 105 (wC D T t (100 + n)) - D 105 (wC D T t (100 + n)) ∧ D1 105 (wC D T t (100 + n)) - D 105 (wC D T t (100 + n)) ≤ 220000000 := by
        rw [f4]
        have key : ∀ j : Nat, j ≤ 11 → (j : Int) ≤ wC D T t 7 → -20000000 * (j : Int) ≤ sumF (fun i => if wC D T t (100 + i) = wC D T t (100 + n) then prt am (wC D T t (200 + i)) - D 107 (11 * t + i) else 0) j ∧ sumF (fun i => if wC D T t (100 + i) = wC D T t (100 + n) then prt am (wC D T t (200 + i)) - D 107 (11 * t + i) else 0) j ≤ 20000000 * (j : Int) := by
          intro j
          induction j with
          | zero => intro _ _; exact ⟨by simp [sumF], by simp [sumF]⟩
          | succ j ihj =>
            intro hj1 hj2
            have h9 := ihj (by omega) (by omega)
            have h8 := prt_in ha.1 (hp j (by omega)).2
            have h6 := hq j (by omega)
            rw [sumF]
            split <;> omega
        have := key n (by omega) (by omega)
        omega
      have hsum : 0 ≤ sumF (fun i => prt am (wC D T t (200 + i))) n ∧ sumF (fun i => prt am (wC D T t (200 + i))) n ≤ 220000000 := by
        have g1 := sumF_nonneg (f := fun i : Nat => prt am (wC D T t (200 + i))) (n := n) (fun i hi => (prt_in ha.1 (hp i (by omega)).2).1)
        have g2 := sumF_le (f := fun i : Nat => prt am (wC D T t (200 + i))) (n := n) (c := 20000000) (fun i hi => Int.le_trans (prt_in ha.1 (hp i (by omega)).2).2 ha.2)
        omega
      refine s_il5 rfl ?_
      refine s_al1 rfl ?_
      refine s_gi rfl k1 rfl ?_
      rw [f7, ← e7]
      refine s_cge rfl ?_ ?_
      · intro h12
        omega
      · intro h12
        refine s_il3 rfl ?_
        refine s_al1 rfl ?_
        refine s_gf rfl k1 rfl rfl ?_
        refine s_il5 rfl ?_
        refine s_iald rfl k3 (by omega) ?_
        rw [f9]
        refine s_callS rfl rfl rfl rfl (v_partOf (by omega) q2 ?_)
        refine s_is6 rfl rfl ?_
        refine s_al0 rfl ?_
        refine s_gf rfl (hk.at rfl rfl) rfl rfl ?_
        refine s_al1 rfl ?_
        refine s_gf rfl k1 rfl rfl ?_
        refine s_il5 rfl ?_
        refine s_iald rfl k2 (by omega) ?_
        rw [f8]
        refine s_dup2 rfl rfl rfl ?_
        refine s_iald rfl (hk.at rfl rfl) (by omega) ?_
        refine s_il6 rfl ?_
        refine s_al0 rfl ?_
        refine s_gf rfl (hk.at rfl rfl) rfl rfl ?_
        refine s_il2 rfl ?_
        refine s_il5 rfl ?_
        refine s_iadd rfl ⟨by omega, by omega⟩ ?_
        refine s_iald rfl (hk.at rfl rfl) (by omega) ?_
        rw [f107]
        refine s_isub rfl ⟨by omega, by omega⟩ ?_
        refine s_iadd rfl ⟨by omega, by omega⟩ ?_
        refine s_iast rfl (hk.at rfl rfl) (by omega) ?_
        refine s_al0 rfl ?_
        refine s_gf rfl (hk.at rfl rfl) rfl rfl ?_
        refine s_il2 rfl ?_
        refine s_il5 rfl ?_
        refine s_iadd rfl ⟨by omega, by omega⟩ ?_
        refine s_il6 rfl ?_
        refine s_iast rfl (hk.at rfl rfl) (by omega) ?_
        refine s_il4 rfl ?_
        refine s_il6 rfl ?_
        refine s_iadd rfl ⟨by omega, by omega⟩ ?_
        refine s_is4 rfl rfl ?_
        refine s_iinc5 rfl rfl ⟨by omega, by omega⟩ ?_
        refine s_go rfl ?_
        have e5 : sumF (fun i => prt am (wC D T t (200 + i))) n + prt am (wC D T t (200 + n)) = sumF (fun i => prt am (wC D T t (200 + i))) (n + 1) := rfl
        rw [e5]
        refine ih (n + 1) _ _ (by omega) ⟨fun r h1 h2 => ?_, fun i hi => ?_, fun j hj => ?_, fun h => ?_⟩
        · rw [aUp_row h2, aUp_row h1]; exact f1 r h1 h2
        · rw [aUp_same]
          unfold uF
          by_cases hin : i = n
          · subst hin; rw [if_pos rfl]
          · rw [if_neg (by omega), aUp_row (by decide)]; exact f2 i (by omega)
        · rw [aUp_same, uF_ne (by omega), aUp_row (by decide)]; exact f3 j (by omega)
        · rw [aUp_row (by decide), aUp_same, sumF]
          unfold uF
          by_cases hh : h = wC D T t (100 + n)
          · rw [if_pos hh, if_pos hh.symm, f4, hh]; omega
          · rw [if_neg hh, if_neg (fun q => hh q.symm), f4]; omega
  refine VM_go (tg2 rfl) (Nat.le_of_ble_eq_true rfl) ?_
  refine s_ic rfl ?_
  refine s_is4 rfl rfl ?_
  refine s_ic rfl ?_
  refine s_is5 rfl rfl ?_
  refine loop (wC D T t 7).toNat 0 D _ (by omega) ⟨fun _ _ _ => rfl, fun i hi => absurd hi (Nat.not_lt_zero i), fun _ _ => rfl, fun h => ?_⟩
  rw [sumF]; omega
end
