theorem run_pos {kn : Int → Int} {c : Nat → Int × Int} {n : Nat} (h : WfC c n) (hn : 0 < n) {f : Int → Int} (hf : StI f (runC kn c n)) : f 0 = resC kn c n ∧ hgt c n = 1 := by
  have h1 := run_len (kn := kn) h n (Nat.le_refl _)
  have h2 : hgt c n = 1 := by rcases h.2 with q | q; omega; exact q
  refine ⟨?_, h2⟩
  unfold resC
  match hs : runC kn c n with
  | [] => rw [hs, List.length_nil] at h1; omega
  | [x] => rw [hs] at hf; exact hf.1
  | x :: y :: s => rw [hs, List.length_cons, List.length_cons] at h1; omega
section
variable {G : aCX} {l : Launch} {d : Nat} {K : Nat → aKd} {D : Nat → Int → Int} {z : Nat × Nat} {P : Int → aSt → Prop}
theorem u_worth {fr : Int} {n : Nat} {c : Nat → Int × Int} (hk : Kn K) (hc : ∀ k : Nat, k < n → D 234 (fr + k) = (c k).1 ∧ D 235 (fr + k) = (c k).2) (hz : D 234 (fr + n) = 0) (hw : WfC c n) (hn : 0 < n) (hr : 0 ≤ fr ∧ fr + n < 3200) (kk : ∀ D', (∀ r, r ≠ 237 → D' r = D r) → P (resC (D 236) c n) (K, D', z)) : VM G l (d + 1) iX12_worth [rf 210, (0, fr)] (K, D, z) P := by
  have loop : ∀ (m k : Nat) (D1 : Nat → Int → Int) (u : aTV), k + m = n → (∀ r, r ≠ 237 → D1 r = D r) → StI (D1 237) (runC (D 236) c k) → V G l (d + 1) iX12_worth 4 [rf 210, (0, fr), (0, (hgt c k : Int)), (0, fr + (k : Int)), u] [] (K, D1, z) P := by
    intro m
    induction m with
    | zero =>
      intro k D1 u hm g1 g2
      have hkn : k = n := by omega
      subst hkn
      obtain ⟨r1, r2⟩ := run_pos hw hn g2
      have e4 : D1 234 (fr + k) = 0 := by rw [g1 _ (by omega), hz]
      refine s_al0 rfl ?_
      refine s_gf rfl (hk.at rfl rfl) rfl rfl ?_
      refine s_il3 rfl ?_
      refine s_iald rfl (hk.at rfl rfl) (by omega) ?_
      rw [e4]
      refine s_zeq rfl ?_ ?_
      · intro h10
        refine s_al0 rfl ?_
        refine s_gf rfl (hk.at rfl rfl) rfl rfl ?_
        refine s_ic rfl ?_
        refine s_iald rfl (hk.at rfl rfl) ⟨by decide, by decide⟩ ?_
        rw [r1]
        refine s_reti rfl rfl ?_
        exact kk D1 g1
      · intro h10
        exact absurd rfl h10
    | succ m ih =>
      intro k D1 u hm g1 g2
      obtain ⟨a1, a2, a3, a4, a5⟩ := hw.1 k (by omega)
      have hl := run_len (kn := D 236) hw k (by omega)
      have e4 : D1 234 (fr + k) = (c k).1 := by rw [g1 _ (by omega), (hc k (by omega)).1]
      have e5 : ∀ D2 : Nat → Int → Int, (∀ r, r ≠ 237 → D2 r = D1 r) → D2 235 (fr + k) = (c k).2 := fun D2 h2 => by rw [h2 _ (by omega), g1 _ (by omega), (hc k (by omega)).2]
      have e5' := e5 D1 (fun _ _ => rfl)
      have e6 : D1 236 = D 236 := g1 _ (by omega)
      have nxt : ∀ (v : Int) (i h : Int) (u : aTV), h = hgt c (k + 1) → StI (uF (D1 237) i v) (runC (D 236) c (k + 1)) → V G l (d + 1) iX12_worth 134 [rf 210, (0, fr), (0, h), (0, fr + (k : Int)), u] [] (K, aUp D1 237 i v, z) P := by
        intro v i h u hh hS
        subst hh
        refine s_iinc3 rfl rfl ⟨by omega, by omega⟩ ?_
        refine s_go rfl ?_
        have hx := ih (k + 1) (aUp D1 237 i v) u (by omega) (fun r hr => by rw [aUp_row hr]; exact g1 r hr) (by rw [aUp_same]; exact hS)
        rw [show fr + ((k + 1 : Nat) : Int) = fr + k + 1 by omega] at hx
        exact hx
      have er : runC (D 236) c (k + 1) = stp (D 236) (c k) (runC (D 236) c k) := rfl
      have eh : hgt c (k + 1) = if (c k).1 = 1 ∨ (c k).1 = 2 then hgt c k + 1 else if (c k).1 = 3 then hgt c k else hgt c k - 1 := rfl
      unfold stp at er
      have s64 : ∀ (v : Int) (u : aTV), ((c k).1 = 1 ∧ v = (c k).2 ∨ (c k).1 = 2 ∧ v = D 236 (c k).2) → V G l (d + 1) iX12_worth 64 [rf 210, (0, fr), (0, (hgt c k : Int)), (0, fr + (k : Int)), (0, (c k).1)] [(0, v), (0, (hgt c k : Int)), rf 237] (K, D1, z) P := by
        intro v u hv
        have er2 : runC (D 236) c (k + 1) = v :: runC (D 236) c k := by
          rw [er]
          rcases hv with ⟨q1, q2⟩ | ⟨q1, q2⟩
          · rw [if_pos q1, q2]
          · rw [if_neg (by omega), if_pos q1, q2]
        have eh2 : hgt c (k + 1) = hgt c k + 1 := by rw [eh, if_pos (by omega)]
        refine s_iast rfl (hk.at rfl rfl) (by omega) ?_
        refine s_iinc2 rfl rfl ⟨by omega, by omega⟩ ?_
        refine s_go rfl ?_
        refine nxt _ _ _ _ (by rw [eh2]; omega) ?_
        rw [er2]
        exact ⟨by rw [hl, uF_at], StI_up g2 (by rw [hl]; omega)⟩
      have two : 4 ≤ (c k).1 → V G l (d + 1) iX12_worth 104 [rf 210, (0, fr), (0, (hgt c k : Int)), (0, fr + (k : Int)), (0, (c k).1)] [] (K, D1, z) P := by
        intro h4
        have h2 := a3 h4
        rw [if_neg (by omega), if_neg (by omega), if_neg (by omega)] at er
        have eh2 : hgt c (k + 1) = hgt c k - 1 := by rw [eh, if_neg (by omega), if_neg (by omega)]
        match hs : runC (D 236) c k with
        | [] => rw [hs, List.length_nil] at hl; omega
        | [x] => rw [hs, List.length_cons, List.length_nil] at hl; omega
        | b :: a :: s =>
          rw [hs, List.length_cons, List.length_cons] at hl
          rw [hs] at er g2
          obtain ⟨p1, p2, p3⟩ := g2
          rw [List.length_cons] at p1
          have i1 : (hgt c k : Int) + -1 = ((s.length + 1 : Nat) : Int) := by omega
          have i2 : ((s.length + 1 : Nat) : Int) - 1 = s.length := by omega
          refine s_iinc2 rfl rfl ⟨by omega, by omega⟩ ?_
          rw [i1]
          refine s_al0 rfl ?_
          refine s_gf rfl (hk.at rfl rfl) rfl rfl ?_
          refine s_il2 rfl ?_
          refine s_ic rfl ?_
          refine s_isub rfl ⟨by omega, by omega⟩ ?_
          rw [i2]
          refine s_il4 rfl ?_
          refine s_al0 rfl ?_
          refine s_gf rfl (hk.at rfl rfl) rfl rfl ?_
          refine s_il2 rfl ?_
          refine s_ic rfl ?_
          refine s_isub rfl ⟨by omega, by omega⟩ ?_
          rw [i2]
          refine s_iald rfl (hk.at rfl rfl) (by omega) ?_
          rw [p2]
          refine s_al0 rfl ?_
          refine s_gf rfl (hk.at rfl rfl) rfl rfl ?_
          refine s_il2 rfl ?_
          refine s_iald rfl (hk.at rfl rfl) (by omega) ?_
          rw [p1]
          refine s_callS rfl rfl rfl rfl (u_both ⟨h4, a1.2⟩ ?_)
          show V G l (d + 1) iX12_worth 133 [rf 210, (0, fr), (0, ((s.length + 1 : Nat) : Int)), (0, fr + (k : Int)), (0, (c k).1)] [(0, bth (c k).1 a b), (0, (s.length : Int)), rf 237] (K, D1, z) P
          refine s_iast rfl (hk.at rfl rfl) (by omega) ?_
          refine nxt _ _ _ _ (by rw [eh2]; omega) ?_
          rw [er]
          exact ⟨uF_at, StI_up p3 (by omega)⟩
      have notS : (c k).1 = 3 → V G l (d + 1) iX12_worth 77 [rf 210, (0, fr), (0, (hgt c k : Int)), (0, fr + (k : Int)), (0, (c k).1)] [] (K, D1, z) P := by
        intro h3
        have h2 := a2 h3
        rw [if_neg (by omega), if_neg (by omega), if_pos h3] at er
        have eh2 : hgt c (k + 1) = hgt c k := by rw [eh, if_neg (by omega), if_pos h3]
        match hs : runC (D 236) c k with
        | [] => rw [hs, List.length_nil] at hl; omega
        | x :: s =>
          rw [hs, List.length_cons] at hl
          rw [hs] at er g2
          obtain ⟨p1, p2⟩ := g2
          have i1 : (hgt c k : Int) - 1 = (s.length : Int) := by omega
          have s100 : ∀ v, v = (if x = 0 then 1 else 0) → V G l (d + 1) iX12_worth 100 [rf 210, (0, fr), (0, (hgt c k : Int)), (0, fr + (k : Int)), (0, (c k).1)] [(0, v), (0, (s.length : Int)), rf 237] (K, D1, z) P := by
            intro v hv
            refine s_iast rfl (hk.at rfl rfl) (by omega) ?_
            refine s_go rfl ?_
            refine nxt _ _ _ _ (by rw [eh2]) ?_
            rw [er, hv]
            exact ⟨uF_at, StI_up p2 (by omega)⟩
          refine s_al0 rfl ?_
          refine s_gf rfl (hk.at rfl rfl) rfl rfl ?_
          refine s_il2 rfl ?_
          refine s_ic rfl ?_
          refine s_isub rfl ⟨by omega, by omega⟩ ?_
          rw [i1]
          refine s_al0 rfl ?_
          refine s_gf rfl (hk.at rfl rfl) rfl rfl ?_
          refine s_il2 rfl ?_
          refine s_ic rfl ?_
          refine s_isub rfl ⟨by omega, by omega⟩ ?_
          rw [i1]
          refine s_iald rfl (hk.at rfl rfl) (by omega) ?_
          rw [p1]
          refine s_zne rfl ?_ ?_
          · intro h92
            refine s_ic rfl ?_
            exact s100 _ (by first | rw [if_pos h92] | rw [if_neg h92] | rw [if_pos (by omega)])
          · intro h92
            refine s_ic rfl ?_
            refine s_go rfl ?_
            exact s100 _ (by first | rw [if_pos h92] | rw [if_neg h92] | rw [if_pos (by omega)])
      refine s_al0 rfl ?_
      refine s_gf rfl (hk.at rfl rfl) rfl rfl ?_
      refine s_il3 rfl ?_
      refine s_iald rfl (hk.at rfl rfl) (by omega) ?_
      rw [e4]
      refine s_zeq rfl ?_ ?_
      · intro h10
        omega
      · intro h10
        refine s_al0 rfl ?_
        refine s_gf rfl (hk.at rfl rfl) rfl rfl ?_
        refine s_il3 rfl ?_
        refine s_iald rfl (hk.at rfl rfl) (by omega) ?_
        rw [e4]
        refine s_is4 rfl rfl ?_
        refine s_il4 rfl ?_
        refine s_ic rfl ?_
        refine s_ceq rfl ?_ ?_
        · intro h24
          refine s_al0 rfl ?_
          refine s_gf rfl (hk.at rfl rfl) rfl rfl ?_
          refine s_il2 rfl ?_
          refine s_il4 rfl ?_
          refine s_ic rfl ?_
          refine s_cne rfl ?_ ?_
          · intro h41
            refine s_al0 rfl ?_
            refine s_gf rfl (hk.at rfl rfl) rfl rfl ?_
            refine s_al0 rfl ?_
            refine s_gf rfl (hk.at rfl rfl) rfl rfl ?_
            refine s_il3 rfl ?_
            refine s_iald rfl (hk.at rfl rfl) (by omega) ?_
            rw [e5']
            refine s_iald rfl (hk.at rfl rfl) (by have := a5 (by omega); omega) ?_
            rw [e6]
            exact s64 _ u (by omega)
          · intro h41
            refine s_al0 rfl ?_
            refine s_gf rfl (hk.at rfl rfl) rfl rfl ?_
            refine s_il3 rfl ?_
            refine s_iald rfl (hk.at rfl rfl) (by omega) ?_
            rw [e5']
            refine s_go rfl ?_
            exact s64 _ u (by omega)
        · intro h24
          refine s_il4 rfl ?_
          refine s_ic rfl ?_
          refine s_cne rfl ?_ ?_
          · intro h30
            refine s_il4 rfl ?_
            refine s_ic rfl ?_
            refine s_cne rfl ?_ ?_
            · intro h74
              exact two (by omega)
            · intro h74
              exact notS (by omega)
          · intro h30
            refine s_al0 rfl ?_
            refine s_gf rfl (hk.at rfl rfl) rfl rfl ?_
            refine s_il2 rfl ?_
            refine s_il4 rfl ?_
            refine s_ic rfl ?_
            refine s_cne rfl ?_ ?_
            · intro h41
              refine s_al0 rfl ?_
              refine s_gf rfl (hk.at rfl rfl) rfl rfl ?_
              refine s_al0 rfl ?_
              refine s_gf rfl (hk.at rfl rfl) rfl rfl ?_
              refine s_il3 rfl ?_
              refine s_iald rfl (hk.at rfl rfl) (by omega) ?_
              rw [e5']
              refine s_iald rfl (hk.at rfl rfl) (by have := a5 (by omega); omega) ?_
              rw [e6]
              exact s64 _ u (by omega)
            · intro h41
              refine s_al0 rfl ?_
              refine s_gf rfl (hk.at rfl rfl) rfl rfl ?_
              refine s_il3 rfl ?_
              refine s_iald rfl (hk.at rfl rfl) (by omega) ?_
              rw [e5']
              refine s_go rfl ?_
              exact s64 _ u (by omega)
  refine VM_go (tg2 rfl) (Nat.le_of_ble_eq_true rfl) ?_
  refine s_ic rfl ?_
  refine s_is2 rfl rfl ?_
  refine s_il1 rfl ?_
  refine s_is3 rfl rfl ?_
  have hx := loop n 0 D (9, 0) (by omega) (fun _ _ => rfl) trivial
  rw [show fr + ((0 : Nat) : Int) = fr by omega] at hx
  exact hx
end
