section
variable {G : aCX} {l : Launch} {d : Nat} {K : Nat → aKd} {D : Nat → Int → Int} {z : Nat × Nat} {P : Int → aSt → Prop}
theorem v_worth {T t a n : Nat} {hit : Int} {c : Nat → Int × Int} (hk : Kn K) (hT : isT T) (ht : t < 24) (ha : Kh K a) (ho : 0 ≤ D (T + 9 + 3 * t) 0 ∧ D (T + 9 + 3 * t) 0 < 12) (hc : ∀ k : Nat, k < n → encR (c k) (D (T + 7) (D (T + 9 + 3 * t) 10 + k))) (hfr : 0 ≤ D (T + 9 + 3 * t) 10 ∧ D (T + 9 + 3 * t) 10 + n ≤ 1500) (hto : D (T + 9 + 3 * t) 11 = D (T + 9 + 3 * t) 10 + n) (hw : WfC c n) (kk : ∀ D', (∀ r, r ≠ T + 8 → D' r = D r) → P (resC (knC5 D a (D (T + 9 + 3 * t) 0) hit) c n) (K, D', z)) : VM G l (d + 1) iX8_worth [rf T, rf a, rf (T + 9 + 3 * t), (0, hit)] (K, D, z) P := by
  have hT2 : T = 8 ∨ T = 129 := hT
  obtain ⟨t1, t2, t3⟩ := KTt hk hT ht
  obtain ⟨a1, a2, a3, a4, a5, a6, k7, k8⟩ := KTa hk hT
  have kT := KT hk hT
  have ha279 := ha.1
  have loop : ∀ (m k : Nat) (D1 : Nat → Int → Int) (u : aTV), k + m = n → (∀ r, r ≠ T + 8 → D1 r = D r) → StI (D1 (T + 8)) (runC (knC5 D a (D (T + 9 + 3 * t) 0) hit) c k) → V G l (d + 1) iX8_worth 9 [rf T, rf a, rf (T + 9 + 3 * t), (0, hit), (0, (hgt c k : Int)), (0, D (T + 9 + 3 * t) 10 + (k : Int)), u] [] (K, D1, z) P := by
    intro m
    induction m with
    | zero =>
      intro k D1 u hm g1 g2
      have hkn : k = n := by omega
      subst hkn
      have w11 : D1 (T + 9 + 3 * t) = D (T + 9 + 3 * t) := g1 _ (by omega)
      have fin : V G l (d + 1) iX8_worth 163 [rf T, rf a, rf (T + 9 + 3 * t), (0, hit), (0, (hgt c k : Int)), (0, D (T + 9 + 3 * t) 10 + (k : Int)), u] [] (K, D1, z) P := by
        rcases (by omega : k = 0 ∨ 0 < k) with q | q
        · subst q
          have kk' := kk D1 g1
          refine s_il4 rfl ?_
          refine s_zle rfl ?_ ?_
          · intro h165
            refine s_ic rfl ?_
            refine s_reti rfl rfl ?_
            exact kk'
          · intro h165
            exact absurd h165 (by show ¬ ((0 : Int) > 0); decide)
        · obtain ⟨r1, r2⟩ := run_pos hw q g2
          have i1 : (hgt c k : Int) - 1 = 0 := by rw [r2]; rfl
          have kk' := kk D1 g1
          refine s_il4 rfl ?_
          refine s_zle rfl ?_ ?_
          · intro h165
            omega
          · intro h165
            refine s_al0 rfl ?_
            refine s_gf rfl kT rfl rfl ?_
            refine s_il4 rfl ?_
            refine s_ic rfl ?_
            refine s_isub rfl ⟨by omega, by omega⟩ ?_
            rw [i1]
            refine s_iald rfl k8 ⟨by decide, by decide⟩ ?_
            rw [r1]
            refine s_go rfl ?_
            refine s_reti rfl rfl ?_
            exact kk'
      refine s_il5 rfl ?_
      refine s_al2 rfl ?_
      refine s_gi rfl t1 rfl ?_
      rw [w11]
      refine s_cge rfl ?_ ?_
      · intro h15
        exact fin
      · intro h15
        omega
    | succ m ih =>
      intro k D1 u hm g1 g2
      obtain ⟨b1, b2, b3, b4, b5⟩ := hw.1 k (by omega)
      have hl := run_len (kn := (knC5 D a (D (T + 9 + 3 * t) 0) hit)) hw k (by omega)
      have w11 : D1 (T + 9 + 3 * t) = D (T + 9 + 3 * t) := g1 _ (by omega)
      have w7 : D1 (T + 7) = D (T + 7) := g1 _ (by omega)
      have hE := hc k (by omega)
      generalize hs0 : D (T + 7) (D (T + 9 + 3 * t) 10 + k) = s0 at hE
      have ekn : knC5 D1 a (D1 (T + 9 + 3 * t) 0) hit = (knC5 D a (D (T + 9 + 3 * t) 0) hit) := by
        funext j
        unfold knC5
        rw [w11, g1 a (by omega), g1 (a + 1) (by omega)]
      have nxt : ∀ (v : Int) (i h : Int) (u : aTV), h = hgt c (k + 1) → StI (uF (D1 (T + 8)) i v) (runC (knC5 D a (D (T + 9 + 3 * t) 0) hit) c (k + 1)) → V G l (d + 1) iX8_worth 157 [rf T, rf a, rf (T + 9 + 3 * t), (0, hit), (0, h), (0, D (T + 9 + 3 * t) 10 + (k : Int)), u] [] (K, aUp D1 (T + 8) i v, z) P := by
        intro v i h u hh hS
        subst hh
        refine s_iinc5 rfl rfl ⟨by omega, by omega⟩ ?_
        refine s_go rfl ?_
        have hx := ih (k + 1) (aUp D1 (T + 8) i v) u (by omega) (fun r hr => by rw [aUp_row hr]; exact g1 r hr) (by rw [aUp_same]; exact hS)
        rw [show D (T + 9 + 3 * t) 10 + ((k + 1 : Nat) : Int) = D (T + 9 + 3 * t) 10 + k + 1 by omega] at hx
        exact hx
      have er : runC (knC5 D a (D (T + 9 + 3 * t) 0) hit) c (k + 1) = stp (knC5 D a (D (T + 9 + 3 * t) 0) hit) (c k) (runC (knC5 D a (D (T + 9 + 3 * t) 0) hit) c k) := rfl
      have eh : hgt c (k + 1) = if (c k).1 = 1 ∨ (c k).1 = 2 then hgt c k + 1 else if (c k).1 = 3 then hgt c k else hgt c k - 1 := rfl
      unfold stp at er
      have push : ∀ (v : Int), ((c k).1 = 1 ∧ v = (c k).2 ∨ (c k).1 = 2 ∧ v = (knC5 D a (D (T + 9 + 3 * t) 0) hit) (c k).2) → V G l (d + 1) iX8_worth 153 [rf T, rf a, rf (T + 9 + 3 * t), (0, hit), (0, (hgt c k : Int)), (0, D (T + 9 + 3 * t) 10 + (k : Int)), (0, s0)] [(0, v), (0, (hgt c k : Int)), rf (T + 8)] (K, D1, z) P := by
        intro v hv
        have er2 : runC (knC5 D a (D (T + 9 + 3 * t) 0) hit) c (k + 1) = v :: runC (knC5 D a (D (T + 9 + 3 * t) 0) hit) c k := by
          rw [er]
          rcases hv with ⟨q1, q2⟩ | ⟨q1, q2⟩
          · rw [if_pos q1, q2]
          · rw [if_neg (by omega), if_pos q1, q2]
        have eh2 : hgt c (k + 1) = hgt c k + 1 := by rw [eh, if_pos (by omega)]
        refine s_iast rfl k8 (by omega) ?_
        refine s_iinc4 rfl rfl ⟨by omega, by omega⟩ ?_
        refine nxt _ _ _ _ (by rw [eh2]; omega) ?_
        rw [er2]
        exact ⟨by rw [hl, uF_at], StI_up g2 (by rw [hl]; omega)⟩
      have two : jkR (c k).1 (-s0) → V G l (d + 1) iX8_worth 91 [rf T, rf a, rf (T + 9 + 3 * t), (0, hit), (0, (hgt c k : Int)), (0, D (T + 9 + 3 * t) 10 + (k : Int)), (0, s0)] [] (K, D1, z) P := by
        intro hj
        have h4 : 4 ≤ (c k).1 := by unfold jkR at hj; omega
        have h2 := b3 h4
        rw [if_neg (by omega), if_neg (by omega), if_neg (by omega)] at er
        have eh2 : hgt c (k + 1) = hgt c k - 1 := by rw [eh, if_neg (by omega), if_neg (by omega)]
        match hs : runC (knC5 D a (D (T + 9 + 3 * t) 0) hit) c k with
        | [] => rw [hs, List.length_nil] at hl; omega
        | [x] => rw [hs, List.length_cons, List.length_nil] at hl; omega
        | b :: a' :: s =>
          rw [hs, List.length_cons, List.length_cons] at hl
          rw [hs] at er g2
          obtain ⟨p1, p2, p3⟩ := g2
          rw [List.length_cons] at p1
          have i1 : (hgt c k : Int) + -1 = ((s.length + 1 : Nat) : Int) := by omega
          have i2 : ((s.length + 1 : Nat) : Int) - 1 = s.length := by omega
          have hs0r : -100 ≤ s0 ∧ s0 ≤ 0 := by unfold jkR at hj; omega
          refine s_iinc4 rfl rfl ⟨by omega, by omega⟩ ?_
          rw [i1]
          refine s_al0 rfl ?_
          refine s_gf rfl kT rfl rfl ?_
          refine s_il4 rfl ?_
          refine s_ic rfl ?_
          refine s_isub rfl ⟨by omega, by omega⟩ ?_
          rw [i2]
          refine s_il6 rfl ?_
          refine s_ineg rfl ⟨by omega, by omega⟩ ?_
          refine s_al0 rfl ?_
          refine s_gf rfl kT rfl rfl ?_
          refine s_il4 rfl ?_
          refine s_ic rfl ?_
          refine s_isub rfl ⟨by omega, by omega⟩ ?_
          rw [i2]
          refine s_iald rfl k8 (by omega) ?_
          rw [p2]
          refine s_al0 rfl ?_
          refine s_gf rfl kT rfl rfl ?_
          refine s_il4 rfl ?_
          refine s_iald rfl k8 (by omega) ?_
          rw [p1]
          refine s_callS rfl rfl rfl rfl (v_joinT hj ?_)
          show V G l (d + 1) iX8_worth 124 [rf T, rf a, rf (T + 9 + 3 * t), (0, hit), (0, ((s.length + 1 : Nat) : Int)), (0, D (T + 9 + 3 * t) 10 + (k : Int)), (0, s0)] [(0, bth (c k).1 a' b), (0, (s.length : Int)), rf (T + 8)] (K, D1, z) P
          refine s_iast rfl k8 (by omega) ?_
          refine s_go rfl ?_
          refine nxt _ _ _ _ (by rw [eh2]; omega) ?_
          rw [er]
          exact ⟨uF_at, StI_up p3 (by omega)⟩
      have notS : (c k).1 = 3 → V G l (d + 1) iX8_worth 47 [rf T, rf a, rf (T + 9 + 3 * t), (0, hit), (0, (hgt c k : Int)), (0, D (T + 9 + 3 * t) 10 + (k : Int)), (0, s0)] [] (K, D1, z) P := by
        intro h3
        have h2 := b2 h3
        rw [if_neg (by omega), if_neg (by omega), if_pos h3] at er
        have eh2 : hgt c (k + 1) = hgt c k := by rw [eh, if_neg (by omega), if_pos h3]
        match hs : runC (knC5 D a (D (T + 9 + 3 * t) 0) hit) c k with
        | [] => rw [hs, List.length_nil] at hl; omega
        | x :: s =>
          rw [hs, List.length_cons] at hl
          rw [hs] at er g2
          obtain ⟨p1, p2⟩ := g2
          have i1 : (hgt c k : Int) - 1 = (s.length : Int) := by omega
          have s72 : ∀ v, v = (if x = 0 then 1 else 0) → V G l (d + 1) iX8_worth 72 [rf T, rf a, rf (T + 9 + 3 * t), (0, hit), (0, (hgt c k : Int)), (0, D (T + 9 + 3 * t) 10 + (k : Int)), (0, s0)] [(0, v), (0, (s.length : Int)), rf (T + 8)] (K, D1, z) P := by
            intro v hv
            refine s_iast rfl k8 (by omega) ?_
            refine s_go rfl ?_
            refine nxt _ _ _ _ (by rw [eh2]) ?_
            rw [er, hv]
            exact ⟨uF_at, StI_up p2 (by omega)⟩
          refine s_al0 rfl ?_
          refine s_gf rfl kT rfl rfl ?_
          refine s_il4 rfl ?_
          refine s_ic rfl ?_
          refine s_isub rfl ⟨by omega, by omega⟩ ?_
          rw [i1]
          refine s_al0 rfl ?_
          refine s_gf rfl kT rfl rfl ?_
          refine s_il4 rfl ?_
          refine s_ic rfl ?_
          refine s_isub rfl ⟨by omega, by omega⟩ ?_
          rw [i1]
          refine s_iald rfl k8 (by omega) ?_
          rw [p1]
          refine s_zne rfl ?_ ?_
          · intro h64
            refine s_ic rfl ?_
            exact s72 _ (by first | rw [if_pos h64] | rw [if_neg h64] | rw [if_pos (by omega)])
          · intro h64
            refine s_ic rfl ?_
            refine s_go rfl ?_
            exact s72 _ (by first | rw [if_pos h64] | rw [if_neg h64] | rw [if_pos (by omega)])
      have hin : -100 ≤ s0 ∧ s0 ≤ 999999 := by
        rcases hE with q | q | q | q
        · omega
        · omega
        · omega
        · unfold jkR at q; omega
      have hkd : (c k).1 ≠ 3 → V G l (d + 1) iX8_worth 76 [rf T, rf a, rf (T + 9 + 3 * t), (0, hit), (0, (hgt c k : Int)), (0, D (T + 9 + 3 * t) 10 + (k : Int)), (0, s0)] [] (K, D1, z) P := by
        intro n3
        rcases hE with ⟨q1, q2, q3⟩ | ⟨q1, q2, q3⟩ | ⟨q1, q2⟩ | hj
        · skip
          refine s_il6 rfl ?_
          refine s_ineg rfl ⟨by omega, by omega⟩ ?_
          refine s_callS rfl rfl rfl rfl (v_isJoin ?_)
          rw [if_neg (by omega)]
          show V G l (d + 1) iX8_worth 82 [rf T, rf a, rf (T + 9 + 3 * t), (0, hit), (0, (hgt c k : Int)), (0, D (T + 9 + 3 * t) 10 + (k : Int)), (0, s0)] [(0, 0)] (K, D1, z) P
          refine s_zeq rfl ?_ ?_
          · intro h82
            refine s_al0 rfl ?_
            refine s_gf rfl kT rfl rfl ?_
            refine s_il4 rfl ?_
            refine s_il6 rfl ?_
            refine s_zlt rfl ?_ ?_
            · intro h136
              omega
            · intro h136
              refine s_il6 rfl ?_
              refine s_go rfl ?_
              exact push _ (Or.inl ⟨q1, q2⟩)
          · intro h82
            exact absurd rfl h82
        · skip
          refine s_il6 rfl ?_
          refine s_ineg rfl ⟨by omega, by omega⟩ ?_
          refine s_callS rfl rfl rfl rfl (v_isJoin ?_)
          rw [if_neg (by omega)]
          show V G l (d + 1) iX8_worth 82 [rf T, rf a, rf (T + 9 + 3 * t), (0, hit), (0, (hgt c k : Int)), (0, D (T + 9 + 3 * t) 10 + (k : Int)), (0, s0)] [(0, 0)] (K, D1, z) P
          refine s_zeq rfl ?_ ?_
          · intro h82
            refine s_al0 rfl ?_
            refine s_gf rfl kT rfl rfl ?_
            refine s_il4 rfl ?_
            refine s_il6 rfl ?_
            refine s_zlt rfl ?_ ?_
            · intro h136
              refine s_il6 rfl ?_
              refine s_ineg rfl ⟨by omega, by omega⟩ ?_
              refine s_al1 rfl ?_
              refine s_al2 rfl ?_
              refine s_il3 rfl ?_
              rw [show -s0 = 28 + (c k).2 by omega]
              refine s_callS rfl rfl rfl rfl (v_fact hk hT ht ha q3 (by rw [w11]; exact ho) ?_)
              rw [ekn]
              exact push _ (Or.inr ⟨q1, rfl⟩)
            · intro h136
              omega
          · intro h82
            exact absurd rfl h82
        · exact absurd q1 n3
        · skip
          refine s_il6 rfl ?_
          refine s_ineg rfl ⟨by omega, by omega⟩ ?_
          refine s_callS rfl rfl rfl rfl (v_isJoin ?_)
          rw [if_pos (by unfold jkR at hj; omega)]
          show V G l (d + 1) iX8_worth 82 [rf T, rf a, rf (T + 9 + 3 * t), (0, hit), (0, (hgt c k : Int)), (0, D (T + 9 + 3 * t) 10 + (k : Int)), (0, s0)] [(0, 1)] (K, D1, z) P
          refine s_zeq rfl ?_ ?_
          · intro h82
            exact absurd h82 (by decide)
          · intro h82
            refine s_il4 rfl ?_
            refine s_ic rfl ?_
            refine s_clt rfl ?_ ?_
            · intro h88
              exact absurd (b3 (by unfold jkR at hj; omega)) (by omega)
            · intro h88
              exact two hj
      refine s_il5 rfl ?_
      refine s_al2 rfl ?_
      refine s_gi rfl t1 rfl ?_
      rw [w11]
      refine s_cge rfl ?_ ?_
      · intro h15
        omega
      · intro h15
        refine s_il4 rfl ?_
        refine s_ic rfl ?_
        refine s_cge rfl ?_ ?_
        · intro h22
          omega
        · intro h22
          refine s_al0 rfl ?_
          refine s_gf rfl kT rfl rfl ?_
          refine s_il5 rfl ?_
          refine s_iald rfl k7 (by omega) ?_
          rw [w7, hs0]
          refine s_is6 rfl rfl ?_
          refine s_il6 rfl ?_
          refine s_ic rfl ?_
          refine s_cne rfl ?_ ?_
          · intro h38
            exact hkd (fun q => h38 (by unfold encR jkR at hE; omega))
          · intro h38
            refine s_il4 rfl ?_
            refine s_ic rfl ?_
            refine s_clt rfl ?_ ?_
            · intro h44
              exact hkd (fun q => absurd (b2 q) (by omega))
            · intro h44
              exact notS (by unfold encR jkR at hE; omega)
  refine VM_go (tg2 rfl) (Nat.le_of_ble_eq_true rfl) ?_
  refine s_ic rfl ?_
  refine s_is4 rfl rfl ?_
  refine s_al2 rfl ?_
  refine s_gi rfl t1 rfl ?_
  refine s_is5 rfl rfl ?_
  have hx := loop n 0 D (9, 0) (by omega) (fun _ _ => rfl) trivial
  rw [show D (T + 9 + 3 * t) 10 + ((0 : Nat) : Int) = D (T + 9 + 3 * t) 10 by omega] at hx
  exact hx
end
