/-! ===== EVENT lines: the reference ===== -/
section
variable {G : aCX} {l : Launch} {d : Nat} {K : Nat → aKd} {D : Nat → Int → Int} {z : Nat × Nat} {P : Int → aSt → Prop}
theorem u_readEvent {s ws : Int → Int} {n N k nx : Nat} {S : PS} (hk : Kn K) (hx2 : nx ≤ 1) (hI : PsI (kT s n ws) (mT s n) S k) (hA : AtM s ws n N nx k S D) (hS : StM s ws n nx S D) (hk1 : k + 1 ≤ N) (hnu : ∀ k, kT s n ws k = 2 → 0 ≤ nT s n k ∧ nT s n k ≤ 999999) (kk : ∀ D', RdM s ws n N nx D (qFo (qNm (kT s n ws) (nT s n) (pT2 s n) 0 7 (k + 1)) (qFo (qE6 (nT s n) (pT2 s n) (k + 1) S) (qFo (qTk (kT s n ws) (pT2 s n) 16 (k + 2)) (qFo (qNm (kT s n ws) (nT s n) (pT2 s n) 1 999 (k + 3)) (qFo (qTk (kT s n ws) (pT2 s n) 17 (k + 4)) (qNm (kT s n ws) (nT s n) (pT2 s n) 0 999 (k + 5))))))) (k + 6) (qEv (kT s n ws) (nT s n) (pT2 s n) k S).2.2 D' → P 0 (K, D', z)) : VM G l (d + 3) iX12_readEvent [rf 210] (K, D, z) P := by
  obtain ⟨hH, h8, h7, hkN, hnx, hM⟩ := id hA
  obtain ⟨b1, b2, b3, b4, b5⟩ := id hH
  have hpl : ∀ k, 0 ≤ pT2 s n k := fun k => (pl_in (s := s) (n := n) (k := k) b4).1
  obtain ⟨⟨h12, h24⟩, i2, hdi, i4, i5, i6, i7, i8, i9⟩ := id hI
  obtain ⟨F, hF⟩ : ∃ F, qFo (qNm (kT s n ws) (nT s n) (pT2 s n) 0 7 (k + 1)) (qFo (qE6 (nT s n) (pT2 s n) (k + 1) S) (qFo (qTk (kT s n ws) (pT2 s n) 16 (k + 2)) (qFo (qNm (kT s n ws) (nT s n) (pT2 s n) 1 999 (k + 3)) (qFo (qTk (kT s n ws) (pT2 s n) 17 (k + 4)) (qNm (kT s n ws) (nT s n) (pT2 s n) 0 999 (k + 5)))))) = F := ⟨_, rfl⟩
  have kk : ∀ D', RdM s ws n N nx D F (k + 6) (qEv (kT s n ws) (nT s n) (pT2 s n) k S).2.2 D' → P 0 (K, D', z) := fun D' q => kk D' (hF ▸ q)
  have dead109 : 0 < F → ∀ (D1 : Nat → Int → Int) (c h : Int), FrN nx D D1 → D1 210 8 = F → 0 ≤ D1 210 7 → D1 210 7 ≤ 1500 → V G l (d + 3) iX12_readEvent 109 [rf 210, (0, c), (0, h), (9, 0)] [] (K, D1, z) P := by
    intro hF0 D1 c h q1 q2 q3 q4
    refine s_al0 rfl ?_
    refine s_lc rfl ?_
    refine s_lc rfl ?_
    refine s_callO rfl rfl (Or.inl rfl) rfl rfl (hk.at rfl rfl) (u_takeNumberD hk (by rw [q2]; exact hF0) ?_)
    show V G l (d + 3) iX12_readEvent 117 [rf 210, (0, c), (0, h), (9, 0)] ((1, 1) :: []) (K, D1, z) P
    refine s_l2i rfl ⟨by omega, by omega⟩ ?_
    refine s_is3 rfl rfl ?_
    refine s_al0 rfl ?_
    refine s_gi rfl (hk.at rfl rfl) rfl ?_
    rw [q2]
    refine s_zne rfl ?_ ?_
    · intro h123
      refine s_retv rfl rfl ?_
      exact kk D1 ⟨q1, fun y => absurd y (by omega), fun _ => ⟨hF0, q2, q3, q4⟩⟩
    · intro h123
      omega
  have dead104 : 0 < F → ∀ (D1 : Nat → Int → Int) (c h : Int), FrN nx D D1 → D1 210 8 = F → 0 ≤ D1 210 7 → D1 210 7 ≤ 1500 → V G l (d + 3) iX12_readEvent 104 [rf 210, (0, c), (0, h), (9, 0)] [] (K, D1, z) P := by
    intro hF0 D1 c h q1 q2 q3 q4
    refine s_al0 rfl ?_
    refine s_ic rfl ?_
    refine s_callO rfl rfl (Or.inl rfl) rfl rfl (hk.at rfl rfl) (u_takeWordD hk (by rw [q2]; exact hF0) (by omega) ?_)
    show V G l (d + 3) iX12_readEvent 109 [rf 210, (0, c), (0, h), (9, 0)] [] (K, D1, z) P
    exact dead109 hF0 D1 c h q1 q2 q3 q4
  have dead94 : 0 < F → ∀ (D1 : Nat → Int → Int) (c : Int), FrN nx D D1 → D1 210 8 = F → 0 ≤ D1 210 7 → D1 210 7 ≤ 1500 → V G l (d + 3) iX12_readEvent 94 [rf 210, (0, c), (9, 0), (9, 0)] [] (K, D1, z) P := by
    intro hF0 D1 c q1 q2 q3 q4
    refine s_al0 rfl ?_
    refine s_lc rfl ?_
    refine s_lc rfl ?_
    refine s_callO rfl rfl (Or.inl rfl) rfl rfl (hk.at rfl rfl) (u_takeNumberD hk (by rw [q2]; exact hF0) ?_)
    show V G l (d + 3) iX12_readEvent 102 [rf 210, (0, c), (9, 0), (9, 0)] ((1, 1) :: []) (K, D1, z) P
    refine s_l2i rfl ⟨by omega, by omega⟩ ?_
    refine s_is2 rfl rfl ?_
    exact dead104 hF0 D1 c _ q1 q2 q3 q4
  have dead89 : 0 < F → ∀ (D1 : Nat → Int → Int) (c : Int), FrN nx D D1 → D1 210 8 = F → 0 ≤ D1 210 7 → D1 210 7 ≤ 1500 → V G l (d + 3) iX12_readEvent 89 [rf 210, (0, c), (9, 0), (9, 0)] [] (K, D1, z) P := by
    intro hF0 D1 c q1 q2 q3 q4
    refine s_al0 rfl ?_
    refine s_ic rfl ?_
    refine s_callO rfl rfl (Or.inl rfl) rfl rfl (hk.at rfl rfl) (u_takeWordD hk (by rw [q2]; exact hF0) (by omega) ?_)
    show V G l (d + 3) iX12_readEvent 94 [rf 210, (0, c), (9, 0), (9, 0)] [] (K, D1, z) P
    exact dead94 hF0 D1 c q1 q2 q3 q4
  have dead71 : 0 < F → ∀ (D1 : Nat → Int → Int) , FrN nx D D1 → D1 210 8 = F → 0 ≤ D1 210 7 → D1 210 7 ≤ 1500 → V G l (d + 3) iX12_readEvent 71 [rf 210, (9, 0), (9, 0), (9, 0)] [] (K, D1, z) P := by
    intro hF0 D1  q1 q2 q3 q4
    refine s_ic rfl ?_
    refine s_al0 rfl ?_
    refine s_gi rfl (hk.at rfl rfl) rfl ?_
    rw [show D1 210 11 = (nx : Nat) by rw [q1.2.1 11 (by decide) (by decide) (by decide)]; exact hnx]
    refine s_imul rfl ⟨by omega, by omega⟩ ?_
    refine s_al0 rfl ?_
    refine s_lc rfl ?_
    refine s_lc rfl ?_
    refine s_callO rfl rfl (Or.inl rfl) rfl rfl (hk.at rfl rfl) (u_takeNumberD hk (by rw [q2]; exact hF0) ?_)
    show V G l (d + 3) iX12_readEvent 86 [rf 210, (9, 0), (9, 0), (9, 0)] ((1, 1) :: [(0, 8 * (nx : Int))]) (K, D1, z) P
    refine s_l2i rfl ⟨by omega, by omega⟩ ?_
    refine s_iadd rfl ⟨by omega, by omega⟩ ?_
    refine s_is1 rfl rfl ?_
    exact dead89 hF0 D1 _ q1 q2 q3 q4
  have hN0 := hkN
  have fr0 : FrN nx D D := FrN_refl
  have hN1 := hk1
  have hA1 := AtM_to hA hN1
  obtain ⟨D1, hD1⟩ : ∃ X, aUp D 210 7 ((k + 1 : Nat) : Int) = X := ⟨_, rfl⟩
  have fr1 : FrN nx D D1 := hD1 ▸ FrN_210 (Or.inl rfl)
  have g1 : ∀ r, r ≠ 210 → D1 r = D r := fun r q => by rw [← hD1, aUp_row q]
  have g301 : D1 210 30 = D 210 30 := by rw [← hD1, aUp_ne (by decide)]
  rw [hD1] at hA1
  obtain ⟨hH1, h81, h71, -, hnx1, hM1⟩ := id hA1
  have at71 : (qNm (kT s n ws) (nT s n) (pT2 s n) 0 7 (k + 1) = 0 → qE6 (nT s n) (pT2 s n) (k + 1) S = 0) → V G l (d + 3) iX12_readEvent 71 [rf 210, (9, 0), (9, 0), (9, 0)] [] (K, D1, z) P := by
    intro h6
    refine s_ic rfl ?_
    refine s_al0 rfl ?_
    refine s_gi rfl (hk.at rfl rfl) rfl ?_
    rw [hnx1]
    refine s_imul rfl ⟨by omega, by omega⟩ ?_
    refine s_al0 rfl ?_
    refine s_lc rfl ?_
    refine s_lc rfl ?_
    refine s_callO rfl rfl (Or.inl rfl) rfl rfl (hk.at rfl rfl) (u_takeNumber hk hH1 h81 h71 hN1 (fun y => ?_) (fun y => ?_))
    rotate_left
    · show V G l (d + 3) iX12_readEvent 86 [rf 210, (9, 0), (9, 0), (9, 0)] ((1, 1) :: [(0, 8 * (nx : Int))]) (K, _, z) P
      rw [qFo_l y] at hF
      have hF0 : 0 < F := by have := qNm_nn (kd := kT s n ws) (nu := nT s n) (lo := 0) (hi := 7) (k := k + 1) hpl; omega
      rw [hF]
      refine s_l2i rfl ⟨by omega, by omega⟩ ?_
      refine s_iadd rfl ⟨by omega, by omega⟩ ?_
      refine s_is1 rfl rfl ?_
      exact dead89 hF0 _ _ (FrN_trans fr1 (FrN_210 (Or.inr (Or.inl rfl)))) aUp_at (by rw [aUp_ne (by decide), h71]; omega) (by rw [aUp_ne (by decide), h71]; omega)
    have e6 := h6 y
    rw [y, qFo_r rfl, e6, qFo_r rfl] at hF
    have y3 := (qNm_z (hpl (k + 1))).mp y
    have hN2 : k + 2 ≤ N := tk_nx (kd := kT s n ws) b3 hN1 (by omega)
    have hA2 := AtM_to hA1 hN2
    rw [show ((k + 1 : Nat) : Int) + 1 = ((k + 2 : Nat) : Int) from rfl]
    obtain ⟨D2, hD2⟩ : ∃ X, aUp D1 210 7 ((k + 2 : Nat) : Int) = X := ⟨_, rfl⟩
    have fr2 : FrN nx D D2 := FrN_trans fr1 (hD2 ▸ FrN_210 (Or.inl rfl))
    have g2 : ∀ r, r ≠ 210 → D2 r = D1 r := fun r q => by rw [← hD2, aUp_row q]
    have g302 : D2 210 30 = D1 210 30 := by rw [← hD2, aUp_ne (by decide)]
    rw [hD2] at hA2 ⊢
    obtain ⟨hH2, h82, h72, -, hnx2, hM2⟩ := id hA2
    show V G l (d + 3) iX12_readEvent 86 [rf 210, (9, 0), (9, 0), (9, 0)] ((1, nT s n (k + 1)) :: [(0, 8 * (nx : Int))]) (K, D2, z) P
    have yc := y3.2
    refine s_l2i rfl ⟨by omega, by omega⟩ ?_
    refine s_iadd rfl ⟨by omega, by omega⟩ ?_
    refine s_is1 rfl rfl ?_
    refine s_al0 rfl ?_
    refine s_ic rfl ?_
    refine s_callO rfl rfl (Or.inl rfl) rfl rfl (hk.at rfl rfl) (u_takeWord (w := 4) hk hH2 h82 h72 hN2 (by decide) (fun y => ?_) (fun y => ?_))
    rotate_left
    · show V G l (d + 3) iX12_readEvent 94 [rf 210, (0, 8 * (nx : Int) + nT s n (k + 1)), (9, 0), (9, 0)] [] (K, _, z) P
      have y : kT s n ws (k + 2) ≠ 16 := y
      have e := qTk_1 (pl := pT2 s n) y
      have hF0 := hpl (k + 2)
      rw [e, qFo_l (by omega)] at hF
      have hF0 : 0 < F := by omega
      rw [hF]
      exact dead94 hF0 _ _ (FrN_trans fr2 (FrN_210 (Or.inr (Or.inl rfl)))) aUp_at (by rw [aUp_ne (by decide), h72]; omega) (by rw [aUp_ne (by decide), h72]; omega)
    have y : kT s n ws (k + 2) = 16 := y
    have e := qTk_0 (pl := pT2 s n) y
    rw [e, qFo_r rfl] at hF
    have hN3 : k + 3 ≤ N := tk_nx (kd := kT s n ws) b3 hN2 (by omega)
    have hA3 := AtM_to hA2 hN3
    rw [show ((k + 2 : Nat) : Int) + 1 = ((k + 3 : Nat) : Int) from rfl]
    obtain ⟨D3, hD3⟩ : ∃ X, aUp D2 210 7 ((k + 3 : Nat) : Int) = X := ⟨_, rfl⟩
    have fr3 : FrN nx D D3 := FrN_trans fr2 (hD3 ▸ FrN_210 (Or.inl rfl))
    have g3 : ∀ r, r ≠ 210 → D3 r = D2 r := fun r q => by rw [← hD3, aUp_row q]
    have g303 : D3 210 30 = D2 210 30 := by rw [← hD3, aUp_ne (by decide)]
    rw [hD3] at hA3 ⊢
    obtain ⟨hH3, h83, h73, -, hnx3, hM3⟩ := id hA3
    show V G l (d + 3) iX12_readEvent 94 [rf 210, (0, 8 * (nx : Int) + nT s n (k + 1)), (9, 0), (9, 0)] [] (K, D3, z) P
    refine s_al0 rfl ?_
    refine s_lc rfl ?_
    refine s_lc rfl ?_
    refine s_callO rfl rfl (Or.inl rfl) rfl rfl (hk.at rfl rfl) (u_takeNumber hk hH3 h83 h73 hN3 (fun y => ?_) (fun y => ?_))
    rotate_left
    · show V G l (d + 3) iX12_readEvent 102 [rf 210, (0, 8 * (nx : Int) + nT s n (k + 1)), (9, 0), (9, 0)] ((1, 1) :: []) (K, _, z) P
      rw [qFo_l y] at hF
      have hF0 : 0 < F := by have := qNm_nn (kd := kT s n ws) (nu := nT s n) (lo := 1) (hi := 999) (k := k + 3) hpl; omega
      rw [hF]
      refine s_l2i rfl ⟨by omega, by omega⟩ ?_
      refine s_is2 rfl rfl ?_
      exact dead104 hF0 _ _ _ (FrN_trans fr3 (FrN_210 (Or.inr (Or.inl rfl)))) aUp_at (by rw [aUp_ne (by decide), h73]; omega) (by rw [aUp_ne (by decide), h73]; omega)
    rw [y, qFo_r rfl] at hF
    have y3 := (qNm_z (hpl (k + 3))).mp y
    have hN4 : k + 4 ≤ N := tk_nx (kd := kT s n ws) b3 hN3 (by omega)
    have hA4 := AtM_to hA3 hN4
    rw [show ((k + 3 : Nat) : Int) + 1 = ((k + 4 : Nat) : Int) from rfl]
    obtain ⟨D4, hD4⟩ : ∃ X, aUp D3 210 7 ((k + 4 : Nat) : Int) = X := ⟨_, rfl⟩
    have fr4 : FrN nx D D4 := FrN_trans fr3 (hD4 ▸ FrN_210 (Or.inl rfl))
    have g4 : ∀ r, r ≠ 210 → D4 r = D3 r := fun r q => by rw [← hD4, aUp_row q]
    have g304 : D4 210 30 = D3 210 30 := by rw [← hD4, aUp_ne (by decide)]
    rw [hD4] at hA4 ⊢
    obtain ⟨hH4, h84, h74, -, hnx4, hM4⟩ := id hA4
    show V G l (d + 3) iX12_readEvent 102 [rf 210, (0, 8 * (nx : Int) + nT s n (k + 1)), (9, 0), (9, 0)] ((1, nT s n (k + 3)) :: []) (K, D4, z) P
    have yh := y3.2
    refine s_l2i rfl ⟨by omega, by omega⟩ ?_
    refine s_is2 rfl rfl ?_
    refine s_al0 rfl ?_
    refine s_ic rfl ?_
    refine s_callO rfl rfl (Or.inl rfl) rfl rfl (hk.at rfl rfl) (u_takeWord (w := 5) hk hH4 h84 h74 hN4 (by decide) (fun y => ?_) (fun y => ?_))
    rotate_left
    · show V G l (d + 3) iX12_readEvent 109 [rf 210, (0, 8 * (nx : Int) + nT s n (k + 1)), (0, nT s n (k + 3)), (9, 0)] [] (K, _, z) P
      have y : kT s n ws (k + 4) ≠ 17 := y
      have e := qTk_1 (pl := pT2 s n) y
      have hF0 := hpl (k + 4)
      rw [e, qFo_l (by omega)] at hF
      have hF0 : 0 < F := by omega
      rw [hF]
      exact dead109 hF0 _ _ _ (FrN_trans fr4 (FrN_210 (Or.inr (Or.inl rfl)))) aUp_at (by rw [aUp_ne (by decide), h74]; omega) (by rw [aUp_ne (by decide), h74]; omega)
    have y : kT s n ws (k + 4) = 17 := y
    have e := qTk_0 (pl := pT2 s n) y
    rw [e, qFo_r rfl] at hF
    have hN5 : k + 5 ≤ N := tk_nx (kd := kT s n ws) b3 hN4 (by omega)
    have hA5 := AtM_to hA4 hN5
    rw [show ((k + 4 : Nat) : Int) + 1 = ((k + 5 : Nat) : Int) from rfl]
    obtain ⟨D5, hD5⟩ : ∃ X, aUp D4 210 7 ((k + 5 : Nat) : Int) = X := ⟨_, rfl⟩
    have fr5 : FrN nx D D5 := FrN_trans fr4 (hD5 ▸ FrN_210 (Or.inl rfl))
    have g5 : ∀ r, r ≠ 210 → D5 r = D4 r := fun r q => by rw [← hD5, aUp_row q]
    have g305 : D5 210 30 = D4 210 30 := by rw [← hD5, aUp_ne (by decide)]
    rw [hD5] at hA5 ⊢
    obtain ⟨hH5, h85, h75, -, hnx5, hM5⟩ := id hA5
    show V G l (d + 3) iX12_readEvent 109 [rf 210, (0, 8 * (nx : Int) + nT s n (k + 1)), (0, nT s n (k + 3)), (9, 0)] [] (K, D5, z) P
    refine s_al0 rfl ?_
    refine s_lc rfl ?_
    refine s_lc rfl ?_
    refine s_callO rfl rfl (Or.inl rfl) rfl rfl (hk.at rfl rfl) (u_takeNumber hk hH5 h85 h75 hN5 (fun y => ?_) (fun y => ?_))
    rotate_left
    · show V G l (d + 3) iX12_readEvent 117 [rf 210, (0, 8 * (nx : Int) + nT s n (k + 1)), (0, nT s n (k + 3)), (9, 0)] ((1, 1) :: []) (K, _, z) P
      have hF0 : 0 < F := by have := qNm_nn (kd := kT s n ws) (nu := nT s n) (lo := 0) (hi := 999) (k := k + 5) hpl; omega
      rw [hF]
      refine s_l2i rfl ⟨by omega, by omega⟩ ?_
      refine s_is3 rfl rfl ?_
      refine s_al0 rfl ?_
      refine s_gi rfl (hk.at rfl rfl) rfl ?_
      rw [aUp_at]
      refine s_zne rfl (fun _ => ?_) (fun q => by omega)
      refine s_retv rfl rfl ?_
      exact kk _ ((fun (D1 : Nat → Int → Int) (q1 : FrN nx D D1) (q2 : D1 210 8 = F) (q3 : 0 ≤ D1 210 7) (q4 : D1 210 7 ≤ 1500) => (⟨q1, fun y => absurd y (by omega), fun _ => ⟨hF0, q2, q3, q4⟩⟩ : RdM s ws n N nx D F (k + 6) (qEv (kT s n ws) (nT s n) (pT2 s n) k S).2.2 D1)) _ (FrN_trans fr5 (FrN_210 (Or.inr (Or.inl rfl)))) aUp_at (by rw [aUp_ne (by decide), h75]; omega) (by rw [aUp_ne (by decide), h75]; omega))
    rw [y] at hF
    have y3 := (qNm_z (hpl (k + 5))).mp y
    have hN6 : k + 6 ≤ N := tk_nx (kd := kT s n ws) b3 hN5 (by omega)
    have hA6 := AtM_to hA5 hN6
    rw [show ((k + 5 : Nat) : Int) + 1 = ((k + 6 : Nat) : Int) from rfl]
    obtain ⟨D6, hD6⟩ : ∃ X, aUp D5 210 7 ((k + 6 : Nat) : Int) = X := ⟨_, rfl⟩
    have fr6 : FrN nx D D6 := FrN_trans fr5 (hD6 ▸ FrN_210 (Or.inl rfl))
    have g6 : ∀ r, r ≠ 210 → D6 r = D5 r := fun r q => by rw [← hD6, aUp_row q]
    have g306 : D6 210 30 = D5 210 30 := by rw [← hD6, aUp_ne (by decide)]
    rw [hD6] at hA6 ⊢
    obtain ⟨hH6, h86, h76, -, hnx6, hM6⟩ := id hA6
    show V G l (d + 3) iX12_readEvent 117 [rf 210, (0, 8 * (nx : Int) + nT s n (k + 1)), (0, nT s n (k + 3)), (9, 0)] ((1, nT s n (k + 5)) :: []) (K, D6, z) P
    have ym := y3.2
    refine s_l2i rfl ⟨by omega, by omega⟩ ?_
    refine s_is3 rfl rfl ?_
    refine s_al0 rfl ?_
    refine s_gi rfl (hk.at rfl rfl) rfl ?_
    rw [h86]
    refine s_zne rfl ?_ ?_
    · intro h123
      exact absurd rfl h123
    · intro h123
      obtain ⟨c, hc⟩ : ∃ c : Nat, nT s n (k + 1) = (c : Nat) := ⟨(nT s n (k + 1)).toNat, by omega⟩
      rw [hc]
      rw [show 8 * (nx : Int) + ((c : Nat) : Int) = ((8 * nx + c : Nat) : Int) by omega]
      refine s_al0 rfl ?_
      refine s_gf rfl (hk.at rfl rfl) rfl rfl ?_
      refine s_il1 rfl ?_
      refine s_ic rfl ?_
      refine s_bast rfl (hk.at rfl rfl) (by omega) (Or.inr rfl) ?_
      refine s_al0 rfl ?_
      refine s_gf rfl (hk.at rfl rfl) rfl rfl ?_
      refine s_il1 rfl ?_
      refine s_il2 rfl ?_
      refine s_iast rfl (hk.at rfl rfl) (by omega) ?_
      refine s_al0 rfl ?_
      refine s_gf rfl (hk.at rfl rfl) rfl rfl ?_
      refine s_il1 rfl ?_
      refine s_il3 rfl ?_
      refine s_iast rfl (hk.at rfl rfl) (by omega) ?_
      refine s_retv rfl rfl ?_
      have gg : ∀ r, r ≠ 210 → D6 r = D r := fun r q => by rw [g6 r q, g5 r q, g4 r q, g3 r q, g2 r q, g1 r q]
      have in8 : ∀ r, r = 218 ∨ r = 219 ∨ r = 220 → inN nx r ((8 * nx + c : Nat) : Int) := fun r q => by
        rcases q with rfl | rfl | rfl <;> exact ⟨by show 8 * (nx : Int) ≤ _; omega, by show _ < 8 * (nx : Int) + 8; omega⟩
      refine kk _ ⟨?_, fun _ => ⟨?_, ?_, hN6, fun _ => ⟨⟨?_, fun i hi => ?_, ?_, fun i hi => ?_⟩, fun t ht => ?_, ?_, fun c' hc' => ?_⟩⟩, fun q => absurd hF.symm q⟩
      · exact FrN_trans fr6 (FrN_trans (FrN_up (by decide) (in8 _ (Or.inl rfl))) (FrN_trans (FrN_up (by decide) (in8 _ (Or.inr (Or.inl rfl)))) (FrN_up (by decide) (in8 _ (Or.inr (Or.inr rfl))))))
      · rw [aUp_row (by decide), aUp_row (by decide), aUp_row (by decide)]; exact h86
      · rw [aUp_row (by decide), aUp_row (by decide), aUp_row (by decide)]; exact h76
      · rw [aUp_row (by decide), aUp_row (by decide), aUp_row (by decide)]; exact hM6.1
      · rw [aUp_row (by decide), aUp_row (by decide), aUp_row (by decide)]; exact hM6.2.1 i hi
      · rw [aUp_row (by decide), aUp_row (by decide), aUp_row (by decide)]; exact hM6.2.2.1
      · rw [aUp_row (by decide), aUp_row (by decide), aUp_row (by decide)]; exact hM6.2.2.2 i hi
      · refine TrM_keep (D := D) (S := S) (by have := (i5.2.2.2 t ht).2.2.2.2.1; omega) (hS.2.1 t ht) (fun r q => ?_) (fun i _ => ⟨?_, ?_⟩) (fun j _ => ⟨?_, ?_⟩)
        · rw [aUp_row (by omega), aUp_row (by omega), aUp_row (by omega), gg r (by omega)]
        all_goals rw [aUp_row (by decide), aUp_row (by decide), aUp_row (by decide), gg _ (by decide)]
      · rw [aUp_row (by decide), aUp_row (by decide), aUp_row (by decide), g306, g305, g304, g303, g302, g301]; exact hS.2.2.1
      · show _ = uF S.ct (nT s n (k + 1)) 1 c' ∧ _ = uF S.hs (nT s n (k + 1)) (nT s n (k + 3)) c' ∧ _ = uF S.ms (nT s n (k + 1)) (nT s n (k + 5)) c'
        rw [hc]
        have old := hS.2.2.2 c' hc'
        rw [← gg 218 (by decide), ← gg 219 (by decide), ← gg 220 (by decide)] at old
        by_cases q : c' = c
        · subst q
          rw [uF_at, uF_at, uF_at, aUp_row (by decide), aUp_row (by decide), aUp_at, aUp_row (by decide), aUp_at, aUp_at]
          exact ⟨rfl, rfl, rfl⟩
        · rw [uF_ne (by omega), uF_ne (by omega), uF_ne (by omega), aUp_row (by decide), aUp_row (by decide), aUp_ne (by omega), aUp_row (by decide), aUp_ne (by omega), aUp_row (by decide), aUp_ne (by omega), aUp_row (by decide), aUp_row (by decide)]
          exact old
  obtain ⟨r0, r1, r2, r3, r4, r5, r6, r7, r8⟩ := hH1.1 (k + 1) hN1
  refine VM_go (tg2 rfl) (Nat.le_of_ble_eq_true rfl) ?_
  refine s_al0 rfl ?_
  refine s_dup rfl (by first | decide | (show (2 : Nat) ≠ 1; decide)) ?_
  refine s_gi rfl (hk.at rfl rfl) rfl ?_
  rw [h7]
  refine s_ic rfl ?_
  refine s_iadd rfl ⟨by omega, by omega⟩ ?_
  refine s_pi rfl (hk.at rfl rfl) rfl ?_
  rw [show ((k : Nat) : Int) + 1 = ((k + 1 : Nat) : Int) from rfl, hD1]
  refine s_al0 rfl ?_
  refine s_gf rfl (hk.at rfl rfl) rfl rfl ?_
  refine s_al0 rfl ?_
  refine s_gi rfl (hk.at rfl rfl) rfl ?_
  rw [h71]
  refine s_iald rfl (hk.at rfl rfl) (by omega) ?_
  refine s_ic rfl ?_
  refine s_cne rfl ?_ ?_
  · intro h20
    exact at71 (fun y => absurd (r2.mpr ((qNm_z (hpl (k + 1))).mp y).1) h20)
  · intro h20
    have y2 := r2.mp h20
    have nb := hnu _ y2
    refine s_al0 rfl ?_
    refine s_gf rfl (hk.at rfl rfl) rfl rfl ?_
    refine s_al0 rfl ?_
    refine s_gi rfl (hk.at rfl rfl) rfl ?_
    rw [h71]
    refine s_lald rfl (hk.at rfl rfl) (by omega) ?_
    rw [r3 y2]
    refine s_lc rfl ?_
    refine s_lcmp rfl ?_
    refine s_zgt rfl ?_ ?_
    · intro h36
      exact at71 (fun y => by have := ((qNm_z (hpl (k + 1))).mp y).2; have := cmp3_gt.mp h36; omega)
    · intro h36
      have y7 : nT s n (k + 1) ≤ 7 := cmp3_le.mp h36
      refine s_al0 rfl ?_
      refine s_gf rfl (hk.at rfl rfl) rfl rfl ?_
      refine s_ic rfl ?_
      refine s_al0 rfl ?_
      refine s_gi rfl (hk.at rfl rfl) rfl ?_
      rw [hnx1]
      refine s_imul rfl ⟨by omega, by omega⟩ ?_
      refine s_al0 rfl ?_
      refine s_gf rfl (hk.at rfl rfl) rfl rfl ?_
      refine s_al0 rfl ?_
      refine s_gi rfl (hk.at rfl rfl) rfl ?_
      rw [h71]
      refine s_lald rfl (hk.at rfl rfl) (by omega) ?_
      rw [r3 y2]
      refine s_l2i rfl ⟨by omega, by omega⟩ ?_
      refine s_iadd rfl ⟨by omega, by omega⟩ ?_
      refine s_bald rfl (hk.at rfl rfl) (by omega) ?_
      obtain ⟨c, hc⟩ : ∃ c : Nat, nT s n (k + 1) = (c : Nat) := ⟨(nT s n (k + 1)).toNat, by omega⟩
      rw [hc, show 8 * (nx : Int) + ((c : Nat) : Int) = ((8 * nx + c : Nat) : Int) by omega, g1 218 (by decide), (hS.2.2.2 c (by omega)).1]
      refine s_zeq rfl ?_ ?_
      · intro h62
        exact at71 (fun _ => by unfold qE6; rw [hc]; exact if_pos h62)
      · intro h62
        refine s_al0 rfl ?_
        refine s_ic rfl ?_
        refine s_callO rfl rfl (Or.inl rfl) rfl rfl (hk.at rfl rfl) (u_wrong (c := 6) hk hH1 h81 h71 hN1 (by decide) ?_)
        show V G l (d + 3) iX12_readEvent 71 [rf 210, (9, 0), (9, 0), (9, 0)] [] (K, _, z) P
        have e0 : qNm (kT s n ws) (nT s n) (pT2 s n) 0 7 (k + 1) = 0 := qNm_0 y2 ⟨nb.1, y7⟩
        have e6 : qE6 (nT s n) (pT2 s n) (k + 1) S = 6 + 16 * pT2 s n (k + 1) := by unfold qE6; rw [hc]; exact if_neg h62
        have hF0 := hpl (k + 1)
        rw [e0, qFo_r rfl, e6, qFo_l (by omega)] at hF
        have hF0 : 0 < F := by omega
        rw [hF]
        exact dead71 hF0 _ (FrN_trans fr1 (FrN_210 (Or.inr (Or.inl rfl)))) aUp_at (by rw [aUp_ne (by decide), h71]; omega) (by rw [aUp_ne (by decide), h71]; omega)
end
