/-! ===== the tokens: the reference ===== -/
def srt (s : Int → Int) (n p : Nat) : Int := if n ≤ p then 0 else if isL (s p) = true then (if 8 < runE isL s n p - p then 4 else 1) else if isD (s p) = true then (if 6 < runE isD s n p - p then 4 else 2) else (if sgF (s p) = 1 then 4 else 3)
def RtA (s : Int → Int) (n : Nat) (j : Nat) (D : Nat → Int → Int) : Prop := D 213 j = (tpF s n j : Nat) ∧ D 212 j = srt s n (tpF s n j) ∧ (srt s n (tpF s n j) = 1 → D 214 j = mT s n j) ∧ (srt s n (tpF s n j) = 2 → D 214 j = nT s n j) ∧ (srt s n (tpF s n j) = 3 → D 214 j = s (tpF s n j))
def CuI (s : Int → Int) (n : Nat) (D : Nat → Int → Int) (m : Nat) (D1 : Nat → Int → Int) : Prop := (∀ r, r ≠ 210 → r ≠ 212 → r ≠ 213 → r ≠ 214 → D1 r = D r) ∧ D1 210 3 = n ∧ D1 210 2 = 0 ∧ (∀ j : Int, j ≠ 2 → j ≠ 3 → D1 210 j = D 210 j) ∧ ∀ j, j < m → tpF s n j < n ∧ RtA s n j D1
section
variable {G : aCX} {l : Launch} {d : Nat} {K : Nat → aKd} {D : Nat → Int → Int} {z : Nat × Nat} {P : Int → aSt → Prop}
theorem u_isLetter {c : Int} (kk : P (if isL c = true then 1 else 0) (K, D, z)) : VM G l d iX12_isLetter [(0, c)] (K, D, z) P := by
  refine VM_go (tg2 rfl) (Nat.le_of_ble_eq_true rfl) ?_
  refine s_il0 rfl ?_
  refine s_ic rfl ?_
  refine s_clt rfl ?_ ?_
  · intro h3
    refine s_ic rfl ?_
    refine s_retz rfl rfl (by omega) ?_
    first | (rw [if_pos (show isL c = true from decide_eq_true ⟨by omega, by omega⟩)] at kk; exact kk) | (rw [if_neg (fun y => by have := of_decide_eq_true y; omega)] at kk; exact kk)
  · intro h3
    refine s_il0 rfl ?_
    refine s_ic rfl ?_
    refine s_cgt rfl ?_ ?_
    · intro h9
      refine s_ic rfl ?_
      refine s_retz rfl rfl (by omega) ?_
      first | (rw [if_pos (show isL c = true from decide_eq_true ⟨by omega, by omega⟩)] at kk; exact kk) | (rw [if_neg (fun y => by have := of_decide_eq_true y; omega)] at kk; exact kk)
    · intro h9
      refine s_ic rfl ?_
      refine s_go rfl ?_
      refine s_retz rfl rfl (by omega) ?_
      first | (rw [if_pos (show isL c = true from decide_eq_true ⟨by omega, by omega⟩)] at kk; exact kk) | (rw [if_neg (fun y => by have := of_decide_eq_true y; omega)] at kk; exact kk)
theorem u_isDigit {c : Int} (kk : P (if isD c = true then 1 else 0) (K, D, z)) : VM G l d iX12_isDigit [(0, c)] (K, D, z) P := by
  refine VM_go (tg2 rfl) (Nat.le_of_ble_eq_true rfl) ?_
  refine s_il0 rfl ?_
  refine s_ic rfl ?_
  refine s_clt rfl ?_ ?_
  · intro h3
    refine s_ic rfl ?_
    refine s_retz rfl rfl (by omega) ?_
    first | (rw [if_pos (show isD c = true from decide_eq_true ⟨by omega, by omega⟩)] at kk; exact kk) | (rw [if_neg (fun y => by have := of_decide_eq_true y; omega)] at kk; exact kk)
  · intro h3
    refine s_il0 rfl ?_
    refine s_ic rfl ?_
    refine s_cgt rfl ?_ ?_
    · intro h9
      refine s_ic rfl ?_
      refine s_retz rfl rfl (by omega) ?_
      first | (rw [if_pos (show isD c = true from decide_eq_true ⟨by omega, by omega⟩)] at kk; exact kk) | (rw [if_neg (fun y => by have := of_decide_eq_true y; omega)] at kk; exact kk)
    · intro h9
      refine s_ic rfl ?_
      refine s_go rfl ?_
      refine s_retz rfl rfl (by omega) ?_
      first | (rw [if_pos (show isD c = true from decide_eq_true ⟨by omega, by omega⟩)] at kk; exact kk) | (rw [if_neg (fun y => by have := of_decide_eq_true y; omega)] at kk; exact kk)
theorem u_isSignOf {c : Int} (kk : P (if sgF c = 1 then 0 else 1) (K, D, z)) : VM G l d iX12_isSignOf [(0, c)] (K, D, z) P := by
  have e : sgF c = 1 ↔ ¬ (c = 40 ∨ c = 41 ∨ c = 60 ∨ c = 61 ∨ c = 43 ∨ c = 45 ∨ c = 58 ∨ c = 59) := by unfold sgF; (repeat' split) <;> omega
  refine VM_go (tg2 rfl) (Nat.le_of_ble_eq_true rfl) ?_
  refine s_il0 rfl ?_
  refine s_ic rfl ?_
  refine s_ceq rfl ?_ ?_
  · intro h3
    refine s_ic rfl ?_
    refine s_go rfl ?_
    refine s_retz rfl rfl (by omega) ?_
    first | (rw [if_neg (fun y => by have := e.mp y; omega)] at kk; exact kk) | (rw [if_pos (e.mpr (by omega))] at kk; exact kk)
  · intro h3
    refine s_il0 rfl ?_
    refine s_ic rfl ?_
    refine s_ceq rfl ?_ ?_
    · intro h9
      refine s_ic rfl ?_
      refine s_go rfl ?_
      refine s_retz rfl rfl (by omega) ?_
      first | (rw [if_neg (fun y => by have := e.mp y; omega)] at kk; exact kk) | (rw [if_pos (e.mpr (by omega))] at kk; exact kk)
    · intro h9
      refine s_il0 rfl ?_
      refine s_ic rfl ?_
      refine s_ceq rfl ?_ ?_
      · intro h15
        refine s_ic rfl ?_
        refine s_go rfl ?_
        refine s_retz rfl rfl (by omega) ?_
        first | (rw [if_neg (fun y => by have := e.mp y; omega)] at kk; exact kk) | (rw [if_pos (e.mpr (by omega))] at kk; exact kk)
      · intro h15
        refine s_il0 rfl ?_
        refine s_ic rfl ?_
        refine s_ceq rfl ?_ ?_
        · intro h21
          refine s_ic rfl ?_
          refine s_go rfl ?_
          refine s_retz rfl rfl (by omega) ?_
          first | (rw [if_neg (fun y => by have := e.mp y; omega)] at kk; exact kk) | (rw [if_pos (e.mpr (by omega))] at kk; exact kk)
        · intro h21
          refine s_il0 rfl ?_
          refine s_ic rfl ?_
          refine s_ceq rfl ?_ ?_
          · intro h27
            refine s_ic rfl ?_
            refine s_go rfl ?_
            refine s_retz rfl rfl (by omega) ?_
            first | (rw [if_neg (fun y => by have := e.mp y; omega)] at kk; exact kk) | (rw [if_pos (e.mpr (by omega))] at kk; exact kk)
          · intro h27
            refine s_il0 rfl ?_
            refine s_ic rfl ?_
            refine s_ceq rfl ?_ ?_
            · intro h33
              refine s_ic rfl ?_
              refine s_go rfl ?_
              refine s_retz rfl rfl (by omega) ?_
              first | (rw [if_neg (fun y => by have := e.mp y; omega)] at kk; exact kk) | (rw [if_pos (e.mpr (by omega))] at kk; exact kk)
            · intro h33
              refine s_il0 rfl ?_
              refine s_ic rfl ?_
              refine s_ceq rfl ?_ ?_
              · intro h39
                refine s_ic rfl ?_
                refine s_go rfl ?_
                refine s_retz rfl rfl (by omega) ?_
                first | (rw [if_neg (fun y => by have := e.mp y; omega)] at kk; exact kk) | (rw [if_pos (e.mpr (by omega))] at kk; exact kk)
              · intro h39
                refine s_il0 rfl ?_
                refine s_ic rfl ?_
                refine s_cne rfl ?_ ?_
                · intro h45
                  refine s_ic rfl ?_
                  refine s_retz rfl rfl (by omega) ?_
                  first | (rw [if_neg (fun y => by have := e.mp y; omega)] at kk; exact kk) | (rw [if_pos (e.mpr (by omega))] at kk; exact kk)
                · intro h45
                  refine s_ic rfl ?_
                  refine s_go rfl ?_
                  refine s_retz rfl rfl (by omega) ?_
                  first | (rw [if_neg (fun y => by have := e.mp y; omega)] at kk; exact kk) | (rw [if_pos (e.mpr (by omega))] at kk; exact kk)
theorem u_rank {c : Int} (hc : isL c = true) (kk : P (c - 96) (K, D, z)) : VM G l (d + 1) iX12_rank [(0, c)] (K, D, z) P := by
  have hb := of_decide_eq_true hc
  refine VM_go (tg2 rfl) (Nat.le_of_ble_eq_true rfl) ?_
  refine s_il0 rfl ?_
  refine s_callS rfl rfl rfl rfl (u_isLetter ?_)
  rw [if_pos hc]
  show V G l (d + 1) iX12_rank 4 [(0, c)] [(0, 1)] (K, D, z) P
  refine s_zeq rfl ?_ ?_
  · intro h4
    exact absurd h4 (by decide)
  · intro h4
    refine s_il0 rfl ?_
    refine s_ic rfl ?_
    refine s_isub rfl ⟨by omega, by omega⟩ ?_
    refine s_go rfl ?_
    refine s_reti rfl rfl ?_
    exact kk
theorem u_cutAll {s : Int → Int} {n : Nat} (hk : Kn K) (h11 : D 211 = s) (hn : D 210 2 = n) (h15 : n ≤ 1500) (hc : ∀ i : Nat, i < n → 0 ≤ s i ∧ s i < 128) (kk : ∀ (D' : Nat → Int → Int) (m : Nat), (∀ r, r ≠ 210 → r ≠ 212 → r ≠ 213 → r ≠ 214 → D' r = D r) → (∀ j : Int, j ≠ 2 → j ≠ 3 → j ≠ 7 → j ≠ 8 → D' 210 j = D 210 j) → (D' 210 2 = 0 ∧ D' 210 7 = 0 ∧ D' 210 8 = 0) → m ≤ n → tpF s n m = n → (∀ j, j < m → tpF s n j < n ∧ RtA s n j D') → (D' 212 m = 0 ∧ D' 213 m = n) → P 0 (K, D', z)) : VM G l (d + 2) iX12_cutAll [rf 210] (K, D, z) P := by
  have done0 : ∀ (k m : Nat) (D1 : Nat → Int → Int) (u3 u4 u5 u6 : aTV), k = n → m ≤ k → runE isB s n k = tpF s n m → CuI s n D m D1 → V G l (d + 2) iX12_cutAll 281 [rf 210, (0, (m : Int)), (0, (k : Int)), u3, u4, u5, u6] [] (K, D1, z) P := by
    intro k m D1 u3 u4 u5 u6 hkn hmk hr hI
    obtain ⟨c1, c2, c3, c4, c5⟩ := hI
    subst hkn
    rw [runE_out (Or.inl (Nat.le_refl _))] at hr
    have e3 : aUp D1 212 (m : Int) 0 210 3 = (k : Int) := by rw [aUp_row (by decide)]; exact c2
    refine s_al0 rfl ?_
    refine s_gf rfl (hk.at rfl rfl) rfl rfl ?_
    refine s_il1 rfl ?_
    refine s_ic rfl ?_
    refine s_iast rfl (hk.at rfl rfl) (by omega) ?_
    refine s_al0 rfl ?_
    refine s_gf rfl (hk.at rfl rfl) rfl rfl ?_
    refine s_il1 rfl ?_
    refine s_al0 rfl ?_
    refine s_gi rfl (hk.at rfl rfl) rfl ?_
    rw [e3]
    refine s_iast rfl (hk.at rfl rfl) (by omega) ?_
    refine s_al0 rfl ?_
    refine s_ic rfl ?_
    refine s_pi rfl (hk.at rfl rfl) rfl ?_
    refine s_al0 rfl ?_
    refine s_ic rfl ?_
    refine s_pi rfl (hk.at rfl rfl) rfl ?_
    refine s_retv rfl rfl ?_
    refine kk _ m (fun r r1 r2 r3 r4 => by rw [aUp_row r1, aUp_row r1, aUp_row r3, aUp_row r2]; exact c1 r r1 r2 r3 r4) (fun j j2 j3 j7 j8 => by rw [aUp_ne j8, aUp_ne j7, aUp_row (by decide), aUp_row (by decide)]; exact c4 j j2 j3) ⟨by rw [aUp_ne (by decide), aUp_ne (by decide), aUp_row (by decide), aUp_row (by decide)]; exact c3, by rw [aUp_ne (by decide), aUp_at], aUp_at⟩ hmk hr.symm (fun j hj => ⟨(c5 j hj).1, ?_⟩) ⟨?_, ?_⟩
    · have := (c5 j hj).2
      have q3 : aUp (aUp (aUp (aUp D1 212 (m : Int) 0) 213 (m : Int) (k : Int)) 210 7 0) 210 8 0 213 (j : Int) = D1 213 j := by rw [aUp_row (by decide), aUp_row (by decide), aUp_ne (by omega), aUp_row (by decide)]
      have q2 : aUp (aUp (aUp (aUp D1 212 (m : Int) 0) 213 (m : Int) (k : Int)) 210 7 0) 210 8 0 212 (j : Int) = D1 212 j := by rw [aUp_row (by decide), aUp_row (by decide), aUp_row (by decide), aUp_ne (by omega)]
      have q4 : aUp (aUp (aUp (aUp D1 212 (m : Int) 0) 213 (m : Int) (k : Int)) 210 7 0) 210 8 0 214 (j : Int) = D1 214 j := by rw [aUp_row (by decide), aUp_row (by decide), aUp_row (by decide), aUp_row (by decide)]
      unfold RtA at this ⊢
      rw [q3, q2, q4]
      exact this
    · rw [aUp_row (by decide), aUp_row (by decide), aUp_row (by decide), aUp_at]
    · rw [aUp_row (by decide), aUp_row (by decide), aUp_at]
  have loop : ∀ (f k m : Nat) (D1 : Nat → Int → Int) (u3 u4 u5 u6 : aTV), n - k ≤ f → k ≤ n → m ≤ k → runE isB s n k = tpF s n m → CuI s n D m D1 → V G l (d + 2) iX12_cutAll 17 [rf 210, (0, (m : Int)), (0, (k : Int)), u3, u4, u5, u6] [] (K, D1, z) P := by
    intro f
    induction f with
    | zero =>
      intro k m D1 u3 u4 u5 u6 hf hkn hmk hr hI
      have c2 := hI.2.1
      refine s_il2 rfl ?_
      refine s_al0 rfl ?_
      refine s_gi rfl (hk.at rfl rfl) rfl ?_
      rw [c2]
      refine s_cge rfl ?_ ?_
      · intro h22
        exact done0 k m D1 _ _ _ _ (by omega) hmk hr hI
      · intro h22
        omega
    | succ f ih =>
      intro k m D1 u3 u4 u5 u6 hf hkn hmk hr hI
      obtain ⟨c1, c2, c3, c4, c5⟩ := id hI
      have e11 : D1 211 = s := (c1 211 (by decide) (by decide) (by decide) (by decide)).trans h11
      -- a token is done
      have fin : ∀ (p i : Nat) (v so : Int) (D2 : Nat → Int → Int), p < n → p = k → tpF s n m = p → i = enF s n p → D2 = aUp (aUp D1 213 m p) 212 m so → so = srt s n p → (so = 1 → v = mT s n m) → (so = 2 → v = nT s n m) → (so = 3 → v = s p) → V G l (d + 2) iX12_cutAll 267 [rf 210, (0, (m : Int)), (0, (i : Int)), (0, s p), (0, (p : Int)), (1, v), (9, 0)] [] (K, D2, z) P := by
        intro p i v so D2 hpn hpk htp hi hD2 hso v1 v2 v3
        have en := enF_in (s := s) hpn
        have r10 : D2 210 = D1 210 := by rw [hD2, aUp_row (by decide), aUp_row (by decide)]
        refine s_al0 rfl ?_
        refine s_gf rfl (hk.at rfl rfl) rfl rfl ?_
        refine s_il1 rfl ?_
        refine s_ll5 rfl ?_
        refine s_last rfl (hk.at rfl rfl) (by omega) ?_
        refine s_iinc1 rfl rfl ⟨by omega, by omega⟩ ?_
        refine s_go rfl ?_
        refine ih i (m + 1) _ _ _ _ _ (by omega) (by omega) (by omega) (by rw [hi, tpF, htp]) ⟨fun r r1 r2 r3 r4 => by rw [aUp_row r4, hD2, aUp_row r2, aUp_row r3]; exact c1 r r1 r2 r3 r4, by rw [aUp_row (by decide), r10]; exact c2, by rw [aUp_row (by decide), r10]; exact c3, fun j j2 j3 => by rw [aUp_row (by decide), r10]; exact c4 j j2 j3, fun j hj => ?_⟩
        rcases (by omega : j < m ∨ j = m) with q | q
        · refine ⟨(c5 j q).1, ?_⟩
          have := (c5 j q).2
          unfold RtA at this ⊢
          rw [aUp_row (r := 214) (q := 213) (by decide), aUp_row (r := 214) (q := 212) (by decide), aUp_same, uF_ne (by omega), hD2, aUp_row (q := 213) (by decide), aUp_same, aUp_same, uF_ne (by omega), uF_ne (by omega), aUp_row (q := 212) (by decide), aUp_row (q := 214) (by decide), aUp_row (q := 214) (by decide)]
          exact this
        · subst q
          refine ⟨by omega, ?_⟩
          unfold RtA
          rw [aUp_row (r := 214) (q := 213) (by decide), aUp_row (r := 214) (q := 212) (by decide), aUp_same, uF_at, hD2, aUp_row (q := 213) (by decide), aUp_same, aUp_same, uF_at, uF_at, htp, ← hso]
          exact ⟨rfl, rfl, v1, v2, v3⟩
      have tok : k < n → ¬ isB (s k) = true → V G l (d + 2) iX12_cutAll 50 [rf 210, (0, (m : Int)), (0, (k : Int)), (0, s k), u4, u5, u6] [] (K, D1, z) P := by
        intro hlt hnb
        have htp : tpF s n m = k := by rw [← hr, runE_out (Or.inr hnb)]
        have hs := hc k hlt
        have en := enF_in (s := s) hlt
        generalize hp : k = p at *
        generalize hD2 : aUp D1 213 m p = D2
        have q3 : D2 210 3 = n := by rw [← hD2, aUp_row (by decide)]; exact c2
        have e2 : D2 211 = s := by rw [← hD2, aUp_row (by decide)]; exact e11
        -- letters
        have lw : isL (s p) = true → ∀ (g i : Nat) (v : Int), i + g = n → p ≤ i → runE isL s n i = runE isL s n p → (∀ j, p ≤ j → j < i → isL (s j) = true) → (i - p ≤ 8 → v = pkF 37 96 s p (i - p)) → V G l (d + 2) iX12_cutAll 70 [rf 210, (0, (m : Int)), (0, (i : Int)), (0, s p), (0, (p : Int)), (1, v), (9, 0)] [] (K, D2, z) P := by
          intro hl g
          have done : ∀ (i : Nat) (v : Int), i ≤ n → runE isL s n p = i → (i - p ≤ 8 → v = pkF 37 96 s p (i - p)) → V G l (d + 2) iX12_cutAll 129 [rf 210, (0, (m : Int)), (0, (i : Int)), (0, s p), (0, (p : Int)), (1, v), (9, 0)] [] (K, D2, z) P := by
            intro i v hin he hv
            have en2 : enF s n p = i := by unfold enF; rw [if_neg (by omega), if_pos hl, he]
            have so : srt s n p = (if 8 < i - p then 4 else 1) := by unfold srt; rw [if_neg (by omega), if_pos hl, he]
            have end2 : ∀ x : Int, x = (if 8 < i - p then 4 else 1) → V G l (d + 2) iX12_cutAll 148 [rf 210, (0, (m : Int)), (0, (i : Int)), (0, s p), (0, (p : Int)), (1, v), (9, 0)] [(0, x), (0, (m : Int)), rf 212] (K, D2, z) P := by
              intro x hx
              refine s_iast rfl (hk.at rfl rfl) (by omega) ?_
              refine s_go rfl ?_
              refine fin p i v x _ hlt rfl htp en2.symm (by rw [hD2]) (by rw [so]; exact hx) (fun y => ?_) (fun y => ?_) (fun y => ?_)
              · have : i - p ≤ 8 := by rw [hx] at y; split at y <;> omega
                rw [hv this]
                show _ = pkF 37 96 s (tpF s n m) (runE isL s n (tpF s n m) - tpF s n m)
                rw [htp, he]
              · rw [hx] at y; split at y <;> omega
              · rw [hx] at y; split at y <;> omega
            refine s_al0 rfl ?_
            refine s_gf rfl (hk.at rfl rfl) rfl rfl ?_
            refine s_il1 rfl ?_
            refine s_il2 rfl ?_
            refine s_il4 rfl ?_
            refine s_isub rfl ⟨by omega, by omega⟩ ?_
            refine s_ic rfl ?_
            refine s_cle rfl ?_ ?_
            · intro h140
              refine s_ic rfl ?_
              exact end2 _ (by rw [if_neg (by omega)])
            · intro h140
              refine s_ic rfl ?_
              refine s_go rfl ?_
              exact end2 _ (by rw [if_pos (by omega)])
          induction g with
          | zero =>
            intro i v hi hpi he hd hv
            refine s_il2 rfl ?_
            refine s_al0 rfl ?_
            refine s_gi rfl (hk.at rfl rfl) rfl ?_
            rw [q3]
            refine s_cge rfl ?_ ?_
            · intro h75
              exact done i v (by omega) (by rw [← he, runE_out (Or.inl (by omega))]) hv
            · intro h75
              omega
          | succ g ihg =>
            intro i v hi hpi he hd hv
            have nx : ∀ x : Int, isL (s i) = true → (i + 1 - p ≤ 8 → x = pkF 37 96 s p (i + 1 - p)) → V G l (d + 2) iX12_cutAll 121 [rf 210, (0, (m : Int)), (0, (i : Int)), (0, s p), (0, (p : Int)), (1, v), (9, 0)] [(1, x)] (K, D2, z) P := by
              intro x hl2 hx
              refine s_ls5 rfl rfl ?_
              refine s_iinc2 rfl rfl ⟨by omega, by omega⟩ ?_
              refine s_go rfl ?_
              refine ihg (i + 1) x (by omega) (by omega) (by rw [← he, runE_in (by omega) hl2]) (fun j j1 j2 => ?_) hx
              rcases (by omega : j < i ∨ j = i) with q | q
              · exact hd j j1 q
              · subst q; exact hl2
            refine s_il2 rfl ?_
            refine s_al0 rfl ?_
            refine s_gi rfl (hk.at rfl rfl) rfl ?_
            rw [q3]
            refine s_cge rfl ?_ ?_
            · intro h75
              omega
            · intro h75
              refine s_al0 rfl ?_
              refine s_gf rfl (hk.at rfl rfl) rfl rfl ?_
              refine s_il2 rfl ?_
              refine s_iald rfl (hk.at rfl rfl) (by omega) ?_
              rw [e2]
              refine s_callS rfl rfl rfl rfl (u_isLetter ?_)
              show V G l (d + 2) iX12_cutAll 87 [rf 210, (0, (m : Int)), (0, (i : Int)), (0, s p), (0, (p : Int)), (1, v), (9, 0)] [(0, if isL (s i) = true then 1 else 0)] (K, D2, z) P
              generalize hcc : (if isL (s i) = true then (1 : Int) else 0) = cc
              refine s_zeq rfl ?_ ?_
              · intro h87
                have nl : ¬ isL (s i) = true := fun q => by rw [if_pos q] at hcc; omega
                exact done i v (by omega) (by rw [← he, runE_out (Or.inr nl)]) hv
              · intro h87
                have nl : isL (s i) = true := Classical.byContradiction fun q => by rw [if_neg q] at hcc; omega
                have bl := of_decide_eq_true nl
                refine s_il2 rfl ?_
                refine s_il4 rfl ?_
                refine s_isub rfl ⟨by omega, by omega⟩ ?_
                refine s_ic rfl ?_
                refine s_cge rfl ?_ ?_
                · intro h96
                  refine s_ll5 rfl ?_
                  exact nx v nl (fun y => by omega)
                · intro h96
                  have b := let_in (B := 37) (s := s) (i := p) (m := i - p) (by decide) (fun j hj => hd (p + j) (by omega) (by omega)) (by omega)
                  have b7 := b.2.2 (by omega)
                  rw [hv (by omega)]
                  refine s_lc rfl ?_
                  refine s_ll5 rfl ?_
                  refine s_lmul rfl ⟨by omega, by omega⟩ ?_
                  refine s_al0 rfl ?_
                  refine s_gf rfl (hk.at rfl rfl) rfl rfl ?_
                  refine s_il2 rfl ?_
                  refine s_iald rfl (hk.at rfl rfl) (by omega) ?_
                  rw [e2]
                  refine s_callS rfl rfl rfl rfl (u_rank nl ?_)
                  show V G l (d + 2) iX12_cutAll 114 [rf 210, (0, (m : Int)), (0, (i : Int)), (0, s p), (0, (p : Int)), (1, pkF 37 96 s p (i - p)), (9, 0)] [(0, s i - 96), (1, 37 * pkF 37 96 s p (i - p))] (K, D2, z) P
                  refine s_i2l rfl ?_
                  refine s_ladd rfl ⟨by omega, by omega⟩ ?_
                  refine s_go rfl ?_
                  rw [← hv (by omega)]
                  refine nx _ nl (fun y => ?_)
                  rw [hv (by omega), show i + 1 - p = (i - p) + 1 by omega, pkF, show p + (i - p) = i by omega]
        have ld : ¬ isL (s p) = true → isD (s p) = true → ∀ (g i : Nat) (v : Int), i + g = n → p ≤ i → runE isD s n i = runE isD s n p → (∀ j, p ≤ j → j < i → isD (s j) = true) → (i - p ≤ 6 → v = pkF 10 48 s p (i - p)) → V G l (d + 2) iX12_cutAll 159 [rf 210, (0, (m : Int)), (0, (i : Int)), (0, s p), (0, (p : Int)), (1, v), (9, 0)] [] (K, D2, z) P := by
          intro hnl hl g
          have done : ∀ (i : Nat) (v : Int), i ≤ n → runE isD s n p = i → (i - p ≤ 6 → v = pkF 10 48 s p (i - p)) → V G l (d + 2) iX12_cutAll 219 [rf 210, (0, (m : Int)), (0, (i : Int)), (0, s p), (0, (p : Int)), (1, v), (9, 0)] [] (K, D2, z) P := by
            intro i v hin he hv
            have en2 : enF s n p = i := by unfold enF; rw [if_neg (by omega), if_neg hnl, if_pos hl, he]
            have so : srt s n p = (if 6 < i - p then 4 else 2) := by unfold srt; rw [if_neg (by omega), if_neg hnl, if_pos hl, he]
            have end2 : ∀ x : Int, x = (if 6 < i - p then 4 else 2) → V G l (d + 2) iX12_cutAll 238 [rf 210, (0, (m : Int)), (0, (i : Int)), (0, s p), (0, (p : Int)), (1, v), (9, 0)] [(0, x), (0, (m : Int)), rf 212] (K, D2, z) P := by
              intro x hx
              refine s_iast rfl (hk.at rfl rfl) (by omega) ?_
              refine s_go rfl ?_
              refine fin p i v x _ hlt rfl htp en2.symm (by rw [hD2]) (by rw [so]; exact hx) (fun y => ?_) (fun y => ?_) (fun y => ?_)
              · rw [hx] at y; split at y <;> omega
              · have : i - p ≤ 6 := by rw [hx] at y; split at y <;> omega
                rw [hv this]
                show _ = pkF 10 48 s (tpF s n m) (runE isD s n (tpF s n m) - tpF s n m)
                rw [htp, he]
              · rw [hx] at y; split at y <;> omega
            refine s_al0 rfl ?_
            refine s_gf rfl (hk.at rfl rfl) rfl rfl ?_
            refine s_il1 rfl ?_
            refine s_il2 rfl ?_
            refine s_il4 rfl ?_
            refine s_isub rfl ⟨by omega, by omega⟩ ?_
            refine s_ic rfl ?_
            refine s_cle rfl ?_ ?_
            · intro h230
              refine s_ic rfl ?_
              exact end2 _ (by rw [if_neg (by omega)])
            · intro h230
              refine s_ic rfl ?_
              refine s_go rfl ?_
              exact end2 _ (by rw [if_pos (by omega)])
          induction g with
          | zero =>
            intro i v hi hpi he hd hv
            refine s_il2 rfl ?_
            refine s_al0 rfl ?_
            refine s_gi rfl (hk.at rfl rfl) rfl ?_
            rw [q3]
            refine s_cge rfl ?_ ?_
            · intro h164
              exact done i v (by omega) (by rw [← he, runE_out (Or.inl (by omega))]) hv
            · intro h164
              omega
          | succ g ihg =>
            intro i v hi hpi he hd hv
            have nx : ∀ x : Int, isD (s i) = true → (i + 1 - p ≤ 6 → x = pkF 10 48 s p (i + 1 - p)) → V G l (d + 2) iX12_cutAll 211 [rf 210, (0, (m : Int)), (0, (i : Int)), (0, s p), (0, (p : Int)), (1, v), (9, 0)] [(1, x)] (K, D2, z) P := by
              intro x hl2 hx
              refine s_ls5 rfl rfl ?_
              refine s_iinc2 rfl rfl ⟨by omega, by omega⟩ ?_
              refine s_go rfl ?_
              refine ihg (i + 1) x (by omega) (by omega) (by rw [← he, runE_in (by omega) hl2]) (fun j j1 j2 => ?_) hx
              rcases (by omega : j < i ∨ j = i) with q | q
              · exact hd j j1 q
              · subst q; exact hl2
            refine s_il2 rfl ?_
            refine s_al0 rfl ?_
            refine s_gi rfl (hk.at rfl rfl) rfl ?_
            rw [q3]
            refine s_cge rfl ?_ ?_
            · intro h164
              omega
            · intro h164
              refine s_al0 rfl ?_
              refine s_gf rfl (hk.at rfl rfl) rfl rfl ?_
              refine s_il2 rfl ?_
              refine s_iald rfl (hk.at rfl rfl) (by omega) ?_
              rw [e2]
              refine s_callS rfl rfl rfl rfl (u_isDigit ?_)
              show V G l (d + 2) iX12_cutAll 176 [rf 210, (0, (m : Int)), (0, (i : Int)), (0, s p), (0, (p : Int)), (1, v), (9, 0)] [(0, if isD (s i) = true then 1 else 0)] (K, D2, z) P
              generalize hcc : (if isD (s i) = true then (1 : Int) else 0) = cc
              refine s_zeq rfl ?_ ?_
              · intro h176
                have nl : ¬ isD (s i) = true := fun q => by rw [if_pos q] at hcc; omega
                exact done i v (by omega) (by rw [← he, runE_out (Or.inr nl)]) hv
              · intro h176
                have nl : isD (s i) = true := Classical.byContradiction fun q => by rw [if_neg q] at hcc; omega
                have bl := of_decide_eq_true nl
                refine s_il2 rfl ?_
                refine s_il4 rfl ?_
                refine s_isub rfl ⟨by omega, by omega⟩ ?_
                refine s_ic rfl ?_
                refine s_cge rfl ?_ ?_
                · intro h185
                  refine s_ll5 rfl ?_
                  exact nx v nl (fun y => by omega)
                · intro h185
                  have b := dig_in (s := s) (i := p) (m := i - p) (fun j hj => hd (p + j) (by omega) (by omega)) (by omega)
                  rw [hv (by omega)]
                  refine s_lc rfl ?_
                  refine s_ll5 rfl ?_
                  refine s_lmul rfl ⟨by omega, by omega⟩ ?_
                  refine s_al0 rfl ?_
                  refine s_gf rfl (hk.at rfl rfl) rfl rfl ?_
                  refine s_il2 rfl ?_
                  refine s_iald rfl (hk.at rfl rfl) (by omega) ?_
                  rw [e2]
                  refine s_i2l rfl ?_
                  refine s_ladd rfl ⟨by omega, by omega⟩ ?_
                  refine s_lc rfl ?_
                  refine s_lsub rfl ⟨by omega, by omega⟩ ?_
                  refine s_go rfl ?_
                  rw [← hv (by omega)]
                  refine nx _ nl (fun y => ?_)
                  rw [hv (by omega), show i + 1 - p = (i - p) + 1 by omega, pkF, show p + (i - p) = i by omega]
                  omega
        refine s_il2 rfl ?_
        refine s_is4 rfl rfl ?_
        refine s_lc rfl ?_
        refine s_ls5 rfl rfl ?_
        refine s_al0 rfl ?_
        refine s_gf rfl (hk.at rfl rfl) rfl rfl ?_
        refine s_il1 rfl ?_
        refine s_il2 rfl ?_
        refine s_iast rfl (hk.at rfl rfl) (by omega) ?_
        rw [hD2]
        refine s_il3 rfl ?_
        refine s_callS rfl rfl rfl rfl (u_isLetter ?_)
        show V G l (d + 2) iX12_cutAll 67 [rf 210, (0, (m : Int)), (0, (p : Int)), (0, s p), (0, (p : Int)), (1, 0), (9, 0)] [(0, if isL (s p) = true then 1 else 0)] (K, D2, z) P
        generalize hcc : (if isL (s p) = true then (1 : Int) else 0) = cc
        refine s_zeq rfl ?_ ?_
        · intro h67
          have nl : ¬ isL (s p) = true := fun q => by rw [if_pos q] at hcc; omega
          refine s_il3 rfl ?_
          refine s_callS rfl rfl rfl rfl (u_isDigit ?_)
          show V G l (d + 2) iX12_cutAll 156 [rf 210, (0, (m : Int)), (0, (p : Int)), (0, s p), (0, (p : Int)), (1, 0), (9, 0)] [(0, if isD (s p) = true then 1 else 0)] (K, D2, z) P
          generalize hcd : (if isD (s p) = true then (1 : Int) else 0) = cd
          refine s_zeq rfl ?_ ?_
          · intro h156
            have nd : ¬ isD (s p) = true := fun q => by rw [if_pos q] at hcd; omega
            have so : srt s n p = (if sgF (s p) = 1 then 4 else 3) := by unfold srt; rw [if_neg (by omega), if_neg nl, if_neg nd]
            have en2 : enF s n p = p + 1 := by unfold enF; rw [if_neg (by omega), if_neg nl, if_neg nd]
            have end2 : ∀ x : Int, x = (if sgF (s p) = 1 then 4 else 3) → V G l (d + 2) iX12_cutAll 263 [rf 210, (0, (m : Int)), (0, (p : Int)), (0, s p), (0, (p : Int)), (1, s p), (9, 0)] [(0, x), (0, (m : Int)), rf 212] (K, D2, z) P := by
              intro x hx
              refine s_iast rfl (hk.at rfl rfl) (by omega) ?_
              refine s_iinc2 rfl rfl ⟨by omega, by omega⟩ ?_
              refine fin p (p + 1) (s p) x _ hlt rfl htp en2.symm (by rw [hD2]) (by rw [so]; exact hx) (fun y => ?_) (fun y => ?_) (fun _ => rfl)
              · rw [hx] at y; split at y <;> omega
              · rw [hx] at y; split at y <;> omega
            refine s_il3 rfl ?_
            refine s_i2l rfl ?_
            refine s_ls5 rfl rfl ?_
            refine s_al0 rfl ?_
            refine s_gf rfl (hk.at rfl rfl) rfl rfl ?_
            refine s_il1 rfl ?_
            refine s_il3 rfl ?_
            refine s_callS rfl rfl rfl rfl (u_isSignOf ?_)
            show V G l (d + 2) iX12_cutAll 255 [rf 210, (0, (m : Int)), (0, (p : Int)), (0, s p), (0, (p : Int)), (1, s p), (9, 0)] [(0, if sgF (s p) = 1 then 0 else 1), (0, (m : Int)), rf 212] (K, D2, z) P
            refine s_zeq rfl ?_ ?_
            · intro h255
              refine s_ic rfl ?_
              exact end2 _ (by split at h255 <;> (first | (rename_i y; rw [if_pos y]) | omega))
            · intro h255
              refine s_ic rfl ?_
              refine s_go rfl ?_
              exact end2 _ (by split at h255 <;> (first | (rename_i y; rw [if_neg y]) | omega))
          · intro h156
            have nd : isD (s p) = true := Classical.byContradiction fun q => by rw [if_neg q] at hcd; omega
            exact ld nl nd (n - p) p 0 (by omega) (by omega) rfl (fun j j1 j2 => by omega) (fun _ => by rw [Nat.sub_self]; rfl)
        · intro h67
          have nl : isL (s p) = true := Classical.byContradiction fun q => by rw [if_neg q] at hcc; omega
          exact lw nl (n - p) p 0 (by omega) (by omega) rfl (fun j j1 j2 => by omega) (fun _ => by rw [Nat.sub_self]; rfl)
      refine s_il2 rfl ?_
      refine s_al0 rfl ?_
      refine s_gi rfl (hk.at rfl rfl) rfl ?_
      rw [c2]
      refine s_cge rfl ?_ ?_
      · intro h22
        exact done0 k m D1 _ _ _ _ (by omega) hmk hr hI
      · intro h22
        refine s_al0 rfl ?_
        refine s_gf rfl (hk.at rfl rfl) rfl rfl ?_
        refine s_il2 rfl ?_
        refine s_iald rfl (hk.at rfl rfl) (by omega) ?_
        rw [e11]
        refine s_is3 rfl rfl ?_
        refine s_il3 rfl ?_
        refine s_ic rfl ?_
        refine s_ceq rfl ?_ ?_
        · intro h35
          refine s_iinc2 rfl rfl ⟨by omega, by omega⟩ ?_
          refine s_go rfl ?_
          exact ih (k + 1) m D1 _ _ _ _ (by omega) (by omega) (by omega) (by rw [← runE_in (p := isB) (s := s) (n := n) (i := k) (by omega) (decide_eq_true (by omega))]; exact hr) hI
        · intro h35
          refine s_il3 rfl ?_
          refine s_ic rfl ?_
          refine s_cne rfl ?_ ?_
          · intro h41
            exact tok (by omega) (fun y => by have := of_decide_eq_true y; omega)
          · intro h41
            refine s_iinc2 rfl rfl ⟨by omega, by omega⟩ ?_
            refine s_go rfl ?_
            exact ih (k + 1) m D1 _ _ _ _ (by omega) (by omega) (by omega) (by rw [← runE_in (p := isB) (s := s) (n := n) (i := k) (by omega) (decide_eq_true (by omega))]; exact hr) hI
  refine VM_go (tg2 rfl) (Nat.le_of_ble_eq_true rfl) ?_
  refine s_al0 rfl ?_
  refine s_al0 rfl ?_
  refine s_gi rfl (hk.at rfl rfl) rfl ?_
  rw [hn]
  refine s_pi rfl (hk.at rfl rfl) rfl ?_
  refine s_al0 rfl ?_
  refine s_ic rfl ?_
  refine s_pi rfl (hk.at rfl rfl) rfl ?_
  refine s_ic rfl ?_
  refine s_is1 rfl rfl ?_
  refine s_ic rfl ?_
  refine s_is2 rfl rfl ?_
  refine loop n 0 0 _ _ _ _ _ (by omega) (by omega) (by omega) rfl ⟨fun r r1 _ _ _ => by rw [aUp_row r1, aUp_row r1], by rw [aUp_ne (by decide), aUp_at], aUp_at, fun j j2 j3 => by rw [aUp_ne j2, aUp_ne j3], fun j hj => absurd hj (Nat.not_lt_zero j)⟩
end
