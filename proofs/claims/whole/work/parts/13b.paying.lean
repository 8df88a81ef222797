/-! ===== which treaties pay: the class ===== -/
def pyC (D : Nat → Int → Int) (T a : Nat) (v : Int) (cn : Nat → Nat) (cc : Nat → Nat → Int × Int) (t : Nat) : Bool := decide (¬ (D (T + 9 + 3 * t) 13 ≠ -1 ∧ D (T + 9 + 3 * t) 13 ≤ v) ∧ resC (knC5 D a (D (T + 9 + 3 * t) 0) (hitF (D (a + 1)) 12)) (cc t) (cn t) ≠ 0)
def CoC (D : Nat → Int → Int) (T nt : Nat) (cn : Nat → Nat) (cc : Nat → Nat → Int × Int) : Prop := ∀ t, t < nt → WfC (cc t) (cn t) ∧ (0 ≤ D (T + 9 + 3 * t) 10 ∧ D (T + 9 + 3 * t) 10 + cn t ≤ 1500) ∧ D (T + 9 + 3 * t) 11 = D (T + 9 + 3 * t) 10 + cn t ∧ ∀ k : Nat, k < cn t → encR (cc t k) (D (T + 7) (D (T + 9 + 3 * t) 10 + k))
section
variable {G : aCX} {l : Launch} {d : Nat} {K : Nat → aKd} {D : Nat → Int → Int} {z : Nat × Nat} {P : Int → aSt → Prop}
theorem v_housesHit {a : Nat} (ha : Kh K a) (kk : P (hitF (D (a + 1)) 12) (K, D, z)) : VM G l d iX3_housesHit [rf a] (K, D, z) P := by
  obtain ⟨ha0, k0, k1, k2, k3, k4, k5, k6, k7, k8, k9⟩ := ha
  have loop : ∀ (m n : Nat), n + m = 12 → V G l d iX3_housesHit 4 [rf a, (0, hitF (D (a + 1)) n), (0, (n : Int))] [] (K, D, z) P := by
    intro m
    induction m with
    | zero =>
      intro n hm
      have hn : n = 12 := by omega
      subst hn
      refine s_il2 rfl ?_
      refine s_ic rfl ?_
      refine s_cge rfl ?_ ?_
      · intro h7
        refine s_il1 rfl ?_
        refine s_reti rfl rfl ?_
        exact kk
      · intro h7
        exact absurd h7 (by decide)
    | succ m ih =>
      intro n hm
      have e : hitF (D (a + 1)) (n + 1) = hitF (D (a + 1)) n + (if 0 < D (a + 1) n then 1 else 0) := rfl
      have hi := hitF_in (f := D (a + 1)) (n := n)
      have nx : ∀ b : Int, b = (if 0 < D (a + 1) n then 1 else 0) → V G l d iX3_housesHit 25 [rf a, (0, hitF (D (a + 1)) n), (0, (n : Int))] [(0, b), (0, hitF (D (a + 1)) n)] (K, D, z) P := by
        intro b hb
        have : 0 ≤ b ∧ b ≤ 1 := by rw [hb]; split <;> omega
        refine s_iadd rfl ⟨by omega, by omega⟩ ?_
        refine s_is1 rfl rfl ?_
        refine s_iinc2 rfl rfl ⟨by omega, by omega⟩ ?_
        refine s_go rfl ?_
        rw [hb, ← e]
        exact ih (n + 1) (by omega)
      refine s_il2 rfl ?_
      refine s_ic rfl ?_
      refine s_cge rfl ?_ ?_
      · intro h7
        omega
      · intro h7
        refine s_il1 rfl ?_
        refine s_al0 rfl ?_
        refine s_gf rfl k0 rfl rfl ?_
        refine s_il2 rfl ?_
        refine s_iald rfl k1 (by omega) ?_
        refine s_zle rfl ?_ ?_
        · intro h17
          refine s_ic rfl ?_
          exact nx _ (by first | rw [if_pos (by omega)] | rw [if_neg (by omega)])
        · intro h17
          refine s_ic rfl ?_
          refine s_go rfl ?_
          exact nx _ (by first | rw [if_pos (by omega)] | rw [if_neg (by omega)])
  refine VM_go (tg2 rfl) (Nat.le_of_ble_eq_true rfl) ?_
  refine s_ic rfl ?_
  refine s_is1 rfl rfl ?_
  refine s_ic rfl ?_
  refine s_is2 rfl rfl ?_
  exact loop 12 0 rfl
theorem v_directOfAll {a : Nat} (ha : Kh K a) (hd : ∀ h : Nat, h < 12 → 0 ≤ D (a + 1) h ∧ D (a + 1) h ≤ 6000000) (kk : P (sumF (fun h : Nat => D (a + 1) h) 12) (K, D, z)) : VM G l d iX3_directOfAll [rf a] (K, D, z) P := by
  obtain ⟨ha0, k0, k1, k2, k3, k4, k5, k6, k7, k8, k9⟩ := ha
  have loop : ∀ (m n : Nat), n + m = 12 → V G l d iX3_directOfAll 4 [rf a, (0, sumF (fun h : Nat => D (a + 1) h) n), (0, (n : Int))] [] (K, D, z) P := by
    intro m
    induction m with
    | zero =>
      intro n hm
      have hn : n = 12 := by omega
      subst hn
      refine s_il2 rfl ?_
      refine s_ic rfl ?_
      refine s_cge rfl ?_ ?_
      · intro h7
        refine s_il1 rfl ?_
        refine s_reti rfl rfl ?_
        exact kk
      · intro h7
        exact absurd h7 (by decide)
    | succ m ih =>
      intro n hm
      have e : sumF (fun h : Nat => D (a + 1) h) (n + 1) = sumF (fun h : Nat => D (a + 1) h) n + D (a + 1) n := rfl
      have h1 := sumF_nonneg (f := fun h : Nat => D (a + 1) h) (n := n) (fun h hh => (hd h (by omega)).1)
      have h2 := sumF_le (f := fun h : Nat => D (a + 1) h) (n := n) (fun h hh => (hd h (by omega)).2)
      have h3 := hd n (by omega)
      refine s_il2 rfl ?_
      refine s_ic rfl ?_
      refine s_cge rfl ?_ ?_
      · intro h7
        omega
      · intro h7
        refine s_il1 rfl ?_
        refine s_al0 rfl ?_
        refine s_gf rfl k0 rfl rfl ?_
        refine s_il2 rfl ?_
        refine s_iald rfl k1 (by omega) ?_
        refine s_iadd rfl ⟨by omega, by omega⟩ ?_
        refine s_is1 rfl rfl ?_
        refine s_iinc2 rfl rfl ⟨by omega, by omega⟩ ?_
        refine s_go rfl ?_
        rw [← e]
        exact ih (n + 1) (by omega)
  refine VM_go (tg2 rfl) (Nat.le_of_ble_eq_true rfl) ?_
  refine s_ic rfl ?_
  refine s_is1 rfl rfl ?_
  refine s_ic rfl ?_
  refine s_is2 rfl rfl ?_
  exact loop 12 0 rfl
theorem v_isCommutedBy {T t : Nat} {v : Int} (hk : Kn K) (hT : isT T) (ht : t < 24) (kk : P (if D (T + 9 + 3 * t) 13 ≠ -1 ∧ D (T + 9 + 3 * t) 13 ≤ v then 1 else 0) (K, D, z)) : VM G l d iX9_isCommutedBy [rf (T + 9 + 3 * t), (0, v)] (K, D, z) P := by
  obtain ⟨t1, t2, t3⟩ := KTt hk hT ht
  refine VM_go (tg2 rfl) (Nat.le_of_ble_eq_true rfl) ?_
  refine s_al0 rfl ?_
  refine s_gi rfl t1 rfl ?_
  refine s_ic rfl ?_
  refine s_ceq rfl ?_ ?_
  · intro h5
    refine s_ic rfl ?_
    refine s_retz rfl rfl (by omega) ?_
    first | (rw [if_pos (by omega)] at kk; exact kk) | (rw [if_neg (by omega)] at kk; exact kk)
  · intro h5
    refine s_al0 rfl ?_
    refine s_gi rfl t1 rfl ?_
    refine s_il1 rfl ?_
    refine s_cgt rfl ?_ ?_
    · intro h13
      refine s_ic rfl ?_
      refine s_retz rfl rfl (by omega) ?_
      first | (rw [if_pos (by omega)] at kk; exact kk) | (rw [if_neg (by omega)] at kk; exact kk)
    · intro h13
      refine s_ic rfl ?_
      refine s_go rfl ?_
      refine s_retz rfl rfl (by omega) ?_
      first | (rw [if_pos (by omega)] at kk; exact kk) | (rw [if_neg (by omega)] at kk; exact kk)
theorem v_mostInAll {T t : Nat} (hk : Kn K) (hT : isT T) (ht : t < 24) (h3 : 0 ≤ D (T + 9 + 3 * t) 3 ∧ D (T + 9 + 3 * t) 3 ≤ 999999) (h5 : 0 ≤ D (T + 9 + 3 * t) 5 ∧ D (T + 9 + 3 * t) 5 ≤ 9) (kk : P (D (T + 9 + 3 * t) 3 * (1 + D (T + 9 + 3 * t) 5)) (K, D, z)) : VM G l d iX9_mostInAll [rf (T + 9 + 3 * t)] (K, D, z) P := by
  obtain ⟨t1, t2, t3⟩ := KTt hk hT ht
  have hlm : 0 ≤ D (T + 9 + 3 * t) 3 * (1 + D (T + 9 + 3 * t) 5) ∧ D (T + 9 + 3 * t) 3 * (1 + D (T + 9 + 3 * t) 5) ≤ 999999 * 10 := ⟨Int.mul_nonneg h3.1 (by omega), Int.mul_le_mul h3.2 (by omega) (by omega) (by decide)⟩
  refine VM_go (tg2 rfl) (Nat.le_of_ble_eq_true rfl) ?_
  refine s_al0 rfl ?_
  refine s_gi rfl t1 rfl ?_
  refine s_ic rfl ?_
  refine s_al0 rfl ?_
  refine s_gi rfl t1 rfl ?_
  refine s_iadd rfl ⟨by omega, by omega⟩ ?_
  refine s_imul rfl ⟨by omega, by omega⟩ ?_
  refine s_reti rfl rfl ?_
  exact kk
theorem v_leftOf {T t : Nat} (hk : Kn K) (hT : isT T) (ht : t < 24) (h3 : 0 ≤ D (T + 9 + 3 * t) 3 ∧ D (T + 9 + 3 * t) 3 ≤ 999999) (h5 : 0 ≤ D (T + 9 + 3 * t) 5 ∧ D (T + 9 + 3 * t) 5 ≤ 9) (hu : 0 ≤ D 109 t ∧ D 109 t ≤ 10000000) (kk : P (D (T + 9 + 3 * t) 3 * (1 + D (T + 9 + 3 * t) 5) - D 109 t) (K, D, z)) : VM G l (d + 1) iX5_leftOf [rf 101, rf T, (0, (t : Int))] (K, D, z) P := by
  obtain ⟨t1, t2, t3⟩ := KTt hk hT ht
  have hlm : 0 ≤ D (T + 9 + 3 * t) 3 * (1 + D (T + 9 + 3 * t) 5) ∧ D (T + 9 + 3 * t) 3 * (1 + D (T + 9 + 3 * t) 5) ≤ 999999 * 10 := ⟨Int.mul_nonneg h3.1 (by omega), Int.mul_le_mul h3.2 (by omega) (by omega) (by decide)⟩
  refine VM_go (tg2 rfl) (Nat.le_of_ble_eq_true rfl) ?_
  refine s_al1 rfl ?_
  refine s_gf rfl (KT hk hT) rfl rfl ?_
  refine s_il2 rfl ?_
  refine s_aaldT rfl (KTa hk hT).1 (by omega) (by rw [Int.toNat_natCast, List.getElem?_map, List.getElem?_range (by omega)]; rfl) ?_
  refine s_callO rfl rfl (Or.inl rfl) rfl rfl t1 (v_mostInAll hk hT ht h3 h5 ?_)
  show V G l (d + 1) iX5_leftOf 9 [rf 101, rf T, (0, (t : Int))] [(0, D (T + 9 + 3 * t) 3 * (1 + D (T + 9 + 3 * t) 5))] (K, D, z) P
  refine s_al0 rfl ?_
  refine s_gf rfl (hk.at rfl rfl) rfl rfl ?_
  refine s_il2 rfl ?_
  refine s_iald rfl (hk.at rfl rfl) (by omega) ?_
  refine s_isub rfl ⟨by omega, by omega⟩ ?_
  refine s_reti rfl rfl ?_
  exact kk
theorem v_payingTreaties {T a nt : Nat} {v : Int} {cn : Nat → Nat} {cc : Nat → Nat → Int × Int} (hk : Kn K) (hT : isT T) (ha : Kh K a) (hn : D T 1 = nt) (h24 : nt ≤ 24) (ho : ∀ t, t < nt → 0 ≤ D (T + 9 + 3 * t) 0 ∧ D (T + 9 + 3 * t) 0 < 12) (hc : CoC D T nt cn cc) (kk : ∀ D' p, (∀ r, r ≠ T + 8 → D' r = D r) → (∀ t, t < nt → decide (bAnd (bShr p t) 1 = 1) = pyC D T a v cn cc t) → P p (K, D', z)) : VM G l (d + 2) iX8_payingTreaties [rf T, rf a, (0, v)] (K, D, z) P := by
  have hT2 : T = 8 ∨ T = 129 := hT
  have ha279 := ha.1
  have loop : ∀ (m n : Nat) (D1 : Nat → Int → Int) (p : Int) (u6 : aTV), n + m = nt → (∀ r, r ≠ T + 8 → D1 r = D r) → (∀ t, t < 32 → tb p t = (decide (t < n) && pyC D T a v cn cc t)) → V G l (d + 2) iX8_payingTreaties 11 [rf T, rf a, (0, v), (0, hitF (D (a + 1)) 12), (0, p), (0, (n : Int)), u6] [] (K, D1, z) P := by
    intro m
    induction m with
    | zero =>
      intro n D1 p u6 hm g1 g2
      have hn2 : n = nt := by omega
      have w1 : D1 T = D T := g1 _ (by omega)
      refine s_il5 rfl ?_
      refine s_al0 rfl ?_
      refine s_gi rfl (KT hk hT) rfl ?_
      rw [w1, hn]
      refine s_cge rfl ?_ ?_
      · intro h17
        refine s_il4 rfl ?_
        refine s_reti rfl rfl ?_
        refine kk D1 p g1 (fun t ht => ?_)
        have := g2 t (by omega)
        rw [decide_eq_true (by omega : t < n), Bool.true_and] at this
        rw [← this]
        by_cases q : bAnd (bShr p t) 1 = 1
        · rw [decide_eq_true q, (tb_shr (by omega)).mp q]
        · rw [decide_eq_false q]
          cases hq : tb p t with
          | false => rfl
          | true => exact absurd ((tb_shr (by omega)).mpr hq) q
      · intro h17
        omega
    | succ m ih =>
      intro n D1 p u6 hm g1 g2
      have hn2 : n < nt := by omega
      have w1 : D1 T = D T := g1 _ (by omega)
      have wt : D1 (T + 9 + 3 * n) = D (T + 9 + 3 * n) := g1 _ (by omega)
      obtain ⟨c1, c2, c3, c4⟩ := hc n hn2
      have h24n : n < 24 := by omega
      obtain ⟨t1, t2, t3⟩ := KTt hk hT h24n
      have skip : ∀ (D2 : Nat → Int → Int), (∀ r, r ≠ T + 8 → D2 r = D r) → pyC D T a v cn cc n = false → V G l (d + 2) iX8_payingTreaties 58 [rf T, rf a, (0, v), (0, hitF (D (a + 1)) 12), (0, p), (0, (n : Int)), rf (T + 9 + 3 * n)] [] (K, D2, z) P := by
        intro D2 g hq
        refine s_iinc5 rfl rfl ⟨by omega, by omega⟩ ?_
        refine s_go rfl ?_
        refine ih (n + 1) D2 p _ (by omega) g (fun t ht => ?_)
        rw [g2 t ht]
        rcases (by omega : t < n ∨ t = n ∨ n < t) with q | q | q
        · rw [decide_eq_true q, decide_eq_true (by omega : t < n + 1)]
        · subst q; rw [hq, Bool.and_false, Bool.and_false]
        · rw [decide_eq_false (by omega), decide_eq_false (by omega : ¬ t < n + 1)]
      refine s_il5 rfl ?_
      refine s_al0 rfl ?_
      refine s_gi rfl (KT hk hT) rfl ?_
      rw [w1, hn]
      refine s_cge rfl ?_ ?_
      · intro h17
        omega
      · intro h17
        refine s_al0 rfl ?_
        refine s_gf rfl (KT hk hT) rfl rfl ?_
        refine s_il5 rfl ?_
        refine s_aaldT rfl (KTa hk hT).1 (by omega) (by rw [Int.toNat_natCast, List.getElem?_map, List.getElem?_range (by omega)]; rfl) ?_
        refine s_as6 rfl rfl ?_
        refine s_al6 rfl ?_
        refine s_il2 rfl ?_
        refine s_callO rfl rfl (Or.inl rfl) rfl rfl t1 (v_isCommutedBy hk hT h24n ?_)
        rw [wt]
        show V G l (d + 2) iX8_payingTreaties 35 [rf T, rf a, (0, v), (0, hitF (D (a + 1)) 12), (0, p), (0, (n : Int)), rf (T + 9 + 3 * n)] [(0, if D (T + 9 + 3 * n) 13 ≠ -1 ∧ D (T + 9 + 3 * n) 13 ≤ v then 1 else 0)] (K, D1, z) P
        generalize hcv : (if D (T + 9 + 3 * n) 13 ≠ -1 ∧ D (T + 9 + 3 * n) 13 ≤ v then (1 : Int) else 0) = cv
        refine s_zne rfl ?_ ?_
        · intro h35
          have hy : D (T + 9 + 3 * n) 13 ≠ -1 ∧ D (T + 9 + 3 * n) 13 ≤ v := Decidable.byContradiction fun q => by rw [if_neg q] at hcv; omega
          exact skip D1 g1 (decide_eq_false (fun q => q.1 hy))
        · intro h35
          have hy : ¬ (D (T + 9 + 3 * n) 13 ≠ -1 ∧ D (T + 9 + 3 * n) 13 ≤ v) := fun q => by rw [if_pos q] at hcv; omega
          refine s_al0 rfl ?_
          refine s_al1 rfl ?_
          refine s_al6 rfl ?_
          refine s_il3 rfl ?_
          refine s_callO rfl rfl (Or.inl rfl) rfl rfl (KT hk hT) (v_worth (c := cc n) (n := cn n) hk hT h24n ha (by rw [wt]; exact ho n hn2) (fun k hk => by rw [wt, g1 (T + 7) (by omega)]; exact c4 k hk) (by rw [wt]; exact c2) (by rw [wt]; exact c3) c1 (fun D2 f1 => ?_))
          have ekn : knC5 D1 a (D1 (T + 9 + 3 * n) 0) (hitF (D (a + 1)) 12) = knC5 D a (D (T + 9 + 3 * n) 0) (hitF (D (a + 1)) 12) := by
            funext j
            unfold knC5
            rw [wt, g1 a (by omega), g1 (a + 1) (by omega)]
          rw [ekn]
          have g3 : ∀ r, r ≠ T + 8 → D2 r = D r := fun r hr => by rw [f1 r hr, g1 r hr]
          show V G l (d + 2) iX8_payingTreaties 46 [rf T, rf a, (0, v), (0, hitF (D (a + 1)) 12), (0, p), (0, (n : Int)), rf (T + 9 + 3 * n)] [(0, resC (knC5 D a (D (T + 9 + 3 * n) 0) (hitF (D (a + 1)) 12)) (cc n) (cn n))] (K, D2, z) P
          refine s_zeq rfl ?_ ?_
          · intro h46
            exact skip D2 g3 (decide_eq_false (fun q => q.2 h46))
          · intro h46
            have hyes : pyC D T a v cn cc n = true := decide_eq_true ⟨hy, h46⟩
            refine s_il4 rfl ?_
            refine s_ic rfl ?_
            refine s_il5 rfl ?_
            refine s_ishl rfl ?_
            refine s_ior rfl ?_
            refine s_is4 rfl rfl ?_
            refine s_iinc5 rfl rfl ⟨by omega, by omega⟩ ?_
            refine s_go rfl ?_
            refine ih (n + 1) D2 _ _ (by omega) g3 (fun t ht => ?_)
            rw [tb_or, tb_bit (by omega) ht, g2 t ht]
            rcases (by omega : t < n ∨ t = n ∨ n < t) with q | q | q
            · rw [decide_eq_true q, decide_eq_true (by omega : t < n + 1), decide_eq_false (by omega : ¬ t = n), Bool.or_false]
            · subst q; rw [hyes, decide_eq_true rfl, Bool.or_true, decide_eq_true (by omega : t < t + 1)]; rfl
            · rw [decide_eq_false (by omega : ¬ t < n), decide_eq_false (by omega : ¬ t < n + 1), decide_eq_false (by omega : ¬ t = n)]; rfl
  refine VM_go (tg2 rfl) (Nat.le_of_ble_eq_true rfl) ?_
  refine s_al1 rfl ?_
  refine s_callO rfl rfl (Or.inl rfl) rfl rfl ha.2.1 (v_housesHit ha ?_)
  show V G l (d + 2) iX8_payingTreaties 4 [rf T, rf a, (0, v), (9, 0), (9, 0), (9, 0), (9, 0)] [(0, hitF (D (a + 1)) 12)] (K, D, z) P
  refine s_is3 rfl rfl ?_
  refine s_ic rfl ?_
  refine s_is4 rfl rfl ?_
  refine s_ic rfl ?_
  refine s_is5 rfl rfl ?_
  exact loop nt 0 D 0 _ (by omega) (fun _ _ => rfl) (fun t ht => by rw [tb_zero, decide_eq_false (Nat.not_lt_zero t)]; rfl)
end
