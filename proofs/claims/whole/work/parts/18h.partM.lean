/-! ===== a part of a treaty line: the reference ===== -/
def Fr7 (D D' : Nat → Int → Int) : Prop := (∀ q, q ≠ 210 → D' q = D q) ∧ ∀ j : Int, j ≠ 7 → j ≠ 8 → D' 210 j = D 210 j
theorem Fr7_refl {D : Nat → Int → Int} : Fr7 D D := ⟨fun _ _ => rfl, fun _ _ _ => rfl⟩
theorem Fr7_trans {A B C : Nat → Int → Int} (h : Fr7 A B) (g : Fr7 B C) : Fr7 A C := ⟨fun q y => (g.1 q y).trans (h.1 q y), fun j y1 y2 => (g.2 j y1 y2).trans (h.2 j y1 y2)⟩
theorem Fr7_210 {D : Nat → Int → Int} {i v : Int} (h : i = 7 ∨ i = 8 ∨ False) : Fr7 D (aUp D 210 i v) := ⟨fun q y => aUp_row y, fun j y1 y2 => aUp_ne (by rcases h with h | h | h; omega; omega; exact h.elim)⟩
def PtM (x : Nat) (r : PT5) (D : Nat → Int → Int) : Prop := D 230 (x : Int) = (r.2.2.1 : Nat) ∧ ∀ i : Nat, i < r.2.2.1 → D 232 ((12 * x + i : Nat) : Int) = r.2.2.2.1 i ∧ D 231 ((12 * x + i : Nat) : Int) = r.2.2.2.2 i
section
variable {G : aCX} {l : Launch} {d : Nat} {K : Nat → aKd} {D : Nat → Int → Int} {z : Nat × Nat} {P : Int → aSt → Prop}
theorem pD143 {x m : Nat} (hk : Kn K) (hx : x < 48) (hm : D 230 (x : Int) = (m : Nat)) (h12 : m ≤ 12) (h8 : 0 < D 210 8) (h7 : 0 ≤ D 210 7 ∧ D 210 7 ≤ 1500) (kk : P 0 (K, D, z)) {a b c e : Int} : ∀ (g i : Nat) (f : Int), i + g = m → V G l (d + 3) iX12_readPart 143 [rf 210, (0, (x : Int)), (0, a), (0, b), (0, c), (0, e), (0, f), (0, (i : Int))] [] (K, D, z) P := by
  intro g
  induction g with
  | zero =>
    intro i f hi
    refine s_il7 rfl ?_
    refine s_al0 rfl ?_
    refine s_gf rfl (hk.at rfl rfl) rfl rfl ?_
    refine s_il1 rfl ?_
    refine s_iald rfl (hk.at rfl rfl) (by omega) ?_
    rw [hm]
    refine s_cge rfl ?_ ?_
    · intro h151
      refine s_al0 rfl ?_
      refine s_gi rfl (hk.at rfl rfl) rfl ?_
      refine s_zne rfl ?_ ?_
      · intro h193
        refine s_al0 rfl ?_
        refine s_gi rfl (hk.at rfl rfl) rfl ?_
        refine s_zne rfl ?_ ?_
        · intro h222
          refine s_retv rfl rfl ?_
          exact kk
        · intro h222
          omega
      · intro h193
        omega
    · intro h151
      omega
  | succ g ih =>
    intro i f hi
    refine s_il7 rfl ?_
    refine s_al0 rfl ?_
    refine s_gf rfl (hk.at rfl rfl) rfl rfl ?_
    refine s_il1 rfl ?_
    refine s_iald rfl (hk.at rfl rfl) (by omega) ?_
    rw [hm]
    refine s_cge rfl ?_ ?_
    · intro h151
      omega
    · intro h151
      refine s_il6 rfl ?_
      refine s_zne rfl ?_ ?_
      · intro h156
        refine s_ic rfl ?_
        refine s_go rfl ?_
        refine s_is6 rfl rfl ?_
        refine s_iinc7 rfl rfl ⟨by omega, by omega⟩ ?_
        refine s_go rfl ?_
        exact ih (i + 1) _ (by omega)
      · intro h156
        refine s_al0 rfl ?_
        refine s_gf rfl (hk.at rfl rfl) rfl rfl ?_
        refine s_ic rfl ?_
        refine s_il1 rfl ?_
        refine s_imul rfl ⟨by omega, by omega⟩ ?_
        refine s_il7 rfl ?_
        refine s_iadd rfl ⟨by omega, by omega⟩ ?_
        refine s_iald rfl (hk.at rfl rfl) (by omega) ?_
        refine s_il5 rfl ?_
        refine s_cne rfl ?_ ?_
        · intro h173
          refine s_ic rfl ?_
          refine s_is6 rfl rfl ?_
          refine s_iinc7 rfl rfl ⟨by omega, by omega⟩ ?_
          refine s_go rfl ?_
          exact ih (i + 1) _ (by omega)
        · intro h173
          refine s_ic rfl ?_
          refine s_go rfl ?_
          refine s_is6 rfl rfl ?_
          refine s_iinc7 rfl rfl ⟨by omega, by omega⟩ ?_
          refine s_go rfl ?_
          exact ih (i + 1) _ (by omega)
theorem pD122 {x m : Nat} (hk : Kn K) (hx : x < 48) (hm : D 230 (x : Int) = (m : Nat)) (h12 : m ≤ 12) (h8 : 0 < D 210 8) (h7 : 0 ≤ D 210 7 ∧ D 210 7 ≤ 1500) (kk : P 0 (K, D, z)) {a b c e : Int} : V G l (d + 3) iX12_readPart 122 [rf 210, (0, (x : Int)), (0, a), (0, b), (0, c), (0, e), (9, 0), (9, 0)] [] (K, D, z) P := by
  refine s_il5 rfl ?_
  refine s_al0 rfl ?_
  refine s_gf rfl (hk.at rfl rfl) rfl rfl ?_
  refine s_il1 rfl ?_
  refine s_iald rfl (hk.at rfl rfl) (by omega) ?_
  refine s_cne rfl ?_ ?_
  · intro h130
    refine s_ic rfl ?_
    refine s_is6 rfl rfl ?_
    refine s_ic rfl ?_
    refine s_is7 rfl rfl ?_
    exact pD143 hk hx hm h12 h8 h7 kk m 0 _ (by omega)
  · intro h130
    refine s_ic rfl ?_
    refine s_go rfl ?_
    refine s_is6 rfl rfl ?_
    refine s_ic rfl ?_
    refine s_is7 rfl rfl ?_
    exact pD143 hk hx hm h12 h8 h7 kk m 0 _ (by omega)
theorem pD110 {x m : Nat} (hk : Kn K) (hx : x < 48) (hm : D 230 (x : Int) = (m : Nat)) (h12 : m ≤ 12) (h8 : 0 < D 210 8) (h7 : 0 ≤ D 210 7 ∧ D 210 7 ≤ 1500) (kk : P 0 (K, D, z)) {a b : Int} : V G l (d + 3) iX12_readPart 110 [rf 210, (0, (x : Int)), (0, a), (0, b), (9, 0), (9, 0), (9, 0), (9, 0)] [] (K, D, z) P := by
  refine s_al0 rfl ?_
  refine s_gi rfl (hk.at rfl rfl) rfl ?_
  refine s_is4 rfl rfl ?_
  refine s_al0 rfl ?_
  refine s_callO rfl rfl (Or.inl rfl) rfl rfl (hk.at rfl rfl) (u_takeHouseD hk h8 ?_)
  show V G l (d + 3) iX12_readPart 120 [rf 210, (0, (x : Int)), (0, a), (0, b), (0, D 210 7), (9, 0), (9, 0), (9, 0)] [(0, 0)] (K, D, z) P
  refine s_is5 rfl rfl ?_
  exact pD122 hk hx hm h12 h8 h7 kk
theorem pD104 {x m : Nat} (hk : Kn K) (hx : x < 48) (hm : D 230 (x : Int) = (m : Nat)) (h12 : m ≤ 12) (h8 : 0 < D 210 8) (h7 : 0 ≤ D 210 7 ∧ D 210 7 ≤ 1500) (kk : P 0 (K, D, z)) {a b : Int} : V G l (d + 3) iX12_readPart 104 [rf 210, (0, (x : Int)), (0, a), (0, b), (9, 0), (9, 0), (9, 0), (9, 0)] [] (K, D, z) P := by
  refine s_al0 rfl ?_
  refine s_ic rfl ?_
  refine s_callO rfl rfl (Or.inl rfl) rfl rfl (hk.at rfl rfl) (u_takeWordD hk h8 (by omega) ?_)
  show V G l (d + 3) iX12_readPart 110 [rf 210, (0, (x : Int)), (0, a), (0, b), (9, 0), (9, 0), (9, 0), (9, 0)] [] (K, D, z) P
  exact pD110 hk hx hm h12 h8 h7 kk
theorem pD94 {x m : Nat} (hk : Kn K) (hx : x < 48) (hm : D 230 (x : Int) = (m : Nat)) (h12 : m ≤ 12) (h8 : 0 < D 210 8) (h7 : 0 ≤ D 210 7 ∧ D 210 7 ≤ 1500) (kk : P 0 (K, D, z)) {a b : Int} : V G l (d + 3) iX12_readPart 94 [rf 210, (0, (x : Int)), (0, a), (0, b), (9, 0), (9, 0), (9, 0), (9, 0)] [] (K, D, z) P := by
  refine s_al0 rfl ?_
  refine s_lc rfl ?_
  refine s_lc rfl ?_
  refine s_callO rfl rfl (Or.inl rfl) rfl rfl (hk.at rfl rfl) (u_takeNumberD hk h8 ?_)
  show V G l (d + 3) iX12_readPart 102 [rf 210, (0, (x : Int)), (0, a), (0, b), (9, 0), (9, 0), (9, 0), (9, 0)] [(1, 1)] (K, D, z) P
  refine s_l2i rfl ⟨by omega, by omega⟩ ?_
  refine s_is3 rfl rfl ?_
  exact pD104 hk hx hm h12 h8 h7 kk
theorem u_readPartD {x : Nat} (hk : Kn K) (hx : x < 48) (hm : D 230 (x : Int) = 0) (h8 : 0 < D 210 8) (h7 : 0 ≤ D 210 7 ∧ D 210 7 ≤ 1500) (kk : P 0 (K, D, z)) : VM G l (d + 3) iX12_readPart [rf 210, (0, (x : Int))] (K, D, z) P := by
  refine VM_go (tg2 rfl) (Nat.le_of_ble_eq_true rfl) ?_
  refine s_ic rfl ?_
  refine s_is2 rfl rfl ?_
  refine s_ic rfl ?_
  refine s_is3 rfl rfl ?_
  refine s_il3 rfl ?_
  refine s_al0 rfl ?_
  refine s_gf rfl (hk.at rfl rfl) rfl rfl ?_
  refine s_il1 rfl ?_
  refine s_iald rfl (hk.at rfl rfl) (by omega) ?_
  rw [hm]
  refine s_cge rfl ?_ ?_
  · intro h11
    refine s_al0 rfl ?_
    refine s_gi rfl (hk.at rfl rfl) rfl ?_
    refine s_zne rfl ?_ ?_
    · intro h38
      exact pD94 (m := 0) hk hx hm (by omega) h8 h7 kk
    · intro h38
      omega
  · intro h11
    omega
theorem u_readPart {s ws : Int → Int} {n N k nx : Nat} {S : PS} {x : Nat} {own : Int} {r : PT5} (hk : Kn K) (hx2 : nx ≤ 1) (hA : AtM s ws n N nx k S D) (h12 : S.nh ≤ 12) (h24 : S.nt ≤ 24) (hdi : ∀ i j, i < j → j < S.nh → mT s n (S.hn i) ≠ mT s n (S.hn j)) (hx : x < 48) (how : D 224 (x : Int) = own) (ho : 0 ≤ own ∧ own < S.nh) (hP : PtM x r D) (hI : PtI S.nh own r) (hnu : ∀ k, kT s n ws k = 2 → 0 ≤ nT s n k ∧ nT s n k ≤ 999999) (k1 : qPf (kT s n ws) (nT s n) (mT s n) (pT2 s n) S.nh S.hn own k r = 0 → k + 3 ≤ N → P 0 (K, aUp (aUp (aUp (aUp D 210 7 ((k + 3 : Nat) : Int)) 231 ((12 * x + r.2.2.1 : Nat) : Int) (nT s n k)) 232 ((12 * x + r.2.2.1 : Nat) : Int) (qIx (mT s n) S.nh S.hn (k + 2))) 230 (x : Int) ((r.2.2.1 + 1 : Nat) : Int), z)) (k0 : 0 < qPf (kT s n ws) (nT s n) (mT s n) (pT2 s n) S.nh S.hn own k r → ∀ D' : Nat → Int → Int, Fr7 D D' → D' 210 8 = qPf (kT s n ws) (nT s n) (mT s n) (pT2 s n) S.nh S.hn own k r → 0 ≤ D' 210 7 → D' 210 7 ≤ 1500 → P 0 (K, D', z)) : VM G l (d + 3) iX12_readPart [rf 210, (0, (x : Int))] (K, D, z) P := by
  obtain ⟨hH, h8, h7, hkN, hnx, hM⟩ := id hA
  obtain ⟨b1, b2, b3, b4, b5⟩ := id hH
  have hpl : ∀ k, 0 ≤ pT2 s n k := fun k => (pl_in (s := s) (n := n) (k := k) b4).1
  have h11 := PtI_many hI h12 ho
  obtain ⟨p7, pp⟩ := hP
  obtain ⟨j1, j2, j3⟩ := id hI
  have nsum := sumF_nonneg (f := fun i : Nat => r.2.2.2.2 i) (n := r.2.2.1) (fun i hi => (j1 i hi).2.2.1)
  obtain ⟨F, hF⟩ : ∃ F, qPf (kT s n ws) (nT s n) (mT s n) (pT2 s n) S.nh S.hn own k r = F := ⟨_, rfl⟩
  rw [hF] at k1 k0
  have hF : qFo (qNm (kT s n ws) (nT s n) (pT2 s n) 1 (1000 - sumF (fun i : Nat => r.2.2.2.2 i) r.2.2.1) k) (qFo (qTk (kT s n ws) (pT2 s n) 24 (k + 1)) (qFo (qHf (kT s n ws) (mT s n) (pT2 s n) S.nh S.hn (k + 2)) (qP6 (pT2 s n) own r.2.2.1 r.2.2.2.1 (qIx (mT s n) S.nh S.hn (k + 2)) (k + 2)))) = F := hF
  have fr0 : Fr7 D D := Fr7_refl
  have gg0 : ∀ q, q ≠ 210 → D q = D q := fun _ _ => rfl
  have hN0 := hkN
  obtain ⟨D0, hD0⟩ : ∃ X, X = D := ⟨_, rfl⟩
  have hA0 : AtM s ws n N nx k S D0 := by rw [hD0]; exact hA
  have fr0 : Fr7 D D0 := by rw [hD0]; exact Fr7_refl
  have gg0 : ∀ q, q ≠ 210 → D0 q = D q := fun _ _ => by rw [hD0]
  obtain ⟨hH0, h80, h70, -, hnx0, hM0⟩ := id hA0
  have at94 : (kT s n ws k = 2 → nT s n k ≤ 1000 → sumF (fun i : Nat => r.2.2.2.2 i) r.2.2.1 + nT s n k ≤ 1000) → V G l (d + 3) iX12_readPart 94 [rf 210, (0, (x : Int)), (0, sumF (fun i : Nat => r.2.2.2.2 i) r.2.2.1), (0, ((r.2.2.1 : Nat) : Int)), (9, 0), (9, 0), (9, 0), (9, 0)] [] (K, D0, z) P := by
    intro hc
    have eq : qNm (kT s n ws) (nT s n) (pT2 s n) 1 (1000 - sumF (fun i : Nat => r.2.2.2.2 i) r.2.2.1) k = qNm (kT s n ws) (nT s n) (pT2 s n) 1 1000 k := by
      unfold qNm
      by_cases y : kT s n ws k = 2
      · rw [if_pos y, if_pos y]
        by_cases y2 : 1 ≤ nT s n k ∧ nT s n k ≤ 1000
        · have := hc y y2.2
          rw [if_pos (by omega), if_pos y2]
        · rw [if_neg (by omega), if_neg y2]
      · rw [if_neg y, if_neg y]
    rw [eq] at hF
    refine s_al0 rfl ?_
    refine s_lc rfl ?_
    refine s_lc rfl ?_
    refine s_callO rfl rfl (Or.inl rfl) rfl rfl (hk.at rfl rfl) (u_takeNumber hk hH0 h80 h70 hN0 (fun y => ?_) (fun y => ?_))
    rotate_left
    · show V G l (d + 3) iX12_readPart 102 [rf 210, (0, (x : Int)), (0, sumF (fun i : Nat => r.2.2.2.2 i) r.2.2.1), (0, ((r.2.2.1 : Nat) : Int)), (9, 0), (9, 0), (9, 0), (9, 0)] ((1, 1) :: []) (K, _, z) P
      rw [qFo_l y] at hF
      have hF0 : 0 < F := by have := qNm_nn (kd := kT s n ws) (nu := nT s n) (lo := 1) (hi := 1000) (k := k) hpl; omega
      rw [hF]
      refine s_l2i rfl ⟨by omega, by omega⟩ ?_
      refine s_is3 rfl rfl ?_
      exact pD104 (m := r.2.2.1) hk hx (by rw [aUp_row (by decide), gg0 230 (by decide)]; exact p7) (by omega) (by rw [aUp_at]; exact hF0) (by rw [aUp_ne (by decide), h70]; omega) (k0 hF0 _ (Fr7_trans fr0 (Fr7_210 (Or.inr (Or.inl rfl)))) aUp_at (by rw [aUp_ne (by decide), h70]; omega) (by rw [aUp_ne (by decide), h70]; omega))
    rw [y, qFo_r rfl] at hF
    have y3 := (qNm_z (hpl (k))).mp y
    have hN1 : k + 1 ≤ N := tk_nx (kd := kT s n ws) b3 hN0 (by omega)
    have hA1 := AtM_to hA0 hN1
    rw [show ((k : Nat) : Int) + 1 = ((k + 1 : Nat) : Int) from rfl]
    obtain ⟨D1, hD1⟩ : ∃ X, aUp D0 210 7 ((k + 1 : Nat) : Int) = X := ⟨_, rfl⟩
    have fr1 : Fr7 D D1 := Fr7_trans fr0 (hD1 ▸ Fr7_210 (Or.inl rfl))
    have g1 : ∀ r, r ≠ 210 → D1 r = D0 r := fun r q => by rw [← hD1, aUp_row q]
    have g301 : D1 210 30 = D0 210 30 := by rw [← hD1, aUp_ne (by decide)]
    rw [hD1] at hA1 ⊢
    obtain ⟨hH1, h81, h71, -, hnx1, hM1⟩ := id hA1
    show V G l (d + 3) iX12_readPart 102 [rf 210, (0, (x : Int)), (0, sumF (fun i : Nat => r.2.2.2.2 i) r.2.2.1), (0, ((r.2.2.1 : Nat) : Int)), (9, 0), (9, 0), (9, 0), (9, 0)] ((1, nT s n (k)) :: []) (K, D1, z) P
    have gg1 : ∀ q, q ≠ 210 → D1 q = D q := fun q y => by rw [g1 q y, gg0 q y]
    refine s_l2i rfl ⟨by omega, by omega⟩ ?_
    refine s_is3 rfl rfl ?_
    refine s_al0 rfl ?_
    refine s_ic rfl ?_
    refine s_callO rfl rfl (Or.inl rfl) rfl rfl (hk.at rfl rfl) (u_takeWord (w := 14) hk hH1 h81 h71 hN1 (by decide) (fun y => ?_) (fun y => ?_))
    rotate_left
    · show V G l (d + 3) iX12_readPart 110 [rf 210, (0, (x : Int)), (0, sumF (fun i : Nat => r.2.2.2.2 i) r.2.2.1), (0, nT s n k), (9, 0), (9, 0), (9, 0), (9, 0)] [] (K, _, z) P
      have y : kT s n ws (k + 1) ≠ 24 := y
      have e := qTk_1 (pl := pT2 s n) y
      have hF0 := hpl (k + 1)
      rw [e, qFo_l (by omega)] at hF
      have hF0 : 0 < F := by omega
      rw [hF]
      exact pD110 (m := r.2.2.1) hk hx (by rw [aUp_row (by decide), gg1 230 (by decide)]; exact p7) (by omega) (by rw [aUp_at]; exact hF0) (by rw [aUp_ne (by decide), h71]; omega) (k0 hF0 _ (Fr7_trans fr1 (Fr7_210 (Or.inr (Or.inl rfl)))) aUp_at (by rw [aUp_ne (by decide), h71]; omega) (by rw [aUp_ne (by decide), h71]; omega))
    have y : kT s n ws (k + 1) = 24 := y
    have e := qTk_0 (pl := pT2 s n) y
    rw [e, qFo_r rfl] at hF
    have hN2 : k + 2 ≤ N := tk_nx (kd := kT s n ws) b3 hN1 (by omega)
    have hA2 := AtM_to hA1 hN2
    rw [show ((k + 1 : Nat) : Int) + 1 = ((k + 2 : Nat) : Int) from rfl]
    obtain ⟨D2, hD2⟩ : ∃ X, aUp D1 210 7 ((k + 2 : Nat) : Int) = X := ⟨_, rfl⟩
    have fr2 : Fr7 D D2 := Fr7_trans fr1 (hD2 ▸ Fr7_210 (Or.inl rfl))
    have g2 : ∀ r, r ≠ 210 → D2 r = D1 r := fun r q => by rw [← hD2, aUp_row q]
    have g302 : D2 210 30 = D1 210 30 := by rw [← hD2, aUp_ne (by decide)]
    rw [hD2] at hA2 ⊢
    obtain ⟨hH2, h82, h72, -, hnx2, hM2⟩ := id hA2
    show V G l (d + 3) iX12_readPart 110 [rf 210, (0, (x : Int)), (0, sumF (fun i : Nat => r.2.2.2.2 i) r.2.2.1), (0, nT s n k), (9, 0), (9, 0), (9, 0), (9, 0)] [] (K, D2, z) P
    have gg2 : ∀ q, q ≠ 210 → D2 q = D q := fun q y => by rw [g2 q y, gg1 q y]
    refine s_al0 rfl ?_
    refine s_gi rfl (hk.at rfl rfl) rfl ?_
    rw [h72]
    refine s_is4 rfl rfl ?_
    refine s_al0 rfl ?_
    refine s_callO rfl rfl (Or.inl rfl) rfl rfl (hk.at rfl rfl) (u_takeHouse hk hH2 h82 h72 hN2 hnx2 hx2 hM2 h12 h24 hdi (fun y => ?_) (fun y => ?_))
    rotate_left
    · show V G l (d + 3) iX12_readPart 120 [rf 210, (0, (x : Int)), (0, sumF (fun i : Nat => r.2.2.2.2 i) r.2.2.1), (0, nT s n k), (0, ((k + 2 : Nat) : Int)), (9, 0), (9, 0), (9, 0)] [(0, 0)] (K, _, z) P
      rw [qFo_l y] at hF
      have hF0 : 0 < F := by have := qHf_nn (kd := kT s n ws) (nm := mT s n) (nh := S.nh) (hn := S.hn) (k := k + 2) hpl; omega
      rw [hF]
      refine s_is5 rfl rfl ?_
      exact pD122 (m := r.2.2.1) hk hx (by rw [aUp_row (by decide), gg2 230 (by decide)]; exact p7) (by omega) (by rw [aUp_at]; exact hF0) (by rw [aUp_ne (by decide), h72]; omega) (k0 hF0 _ (Fr7_trans fr2 (Fr7_210 (Or.inr (Or.inl rfl)))) aUp_at (by rw [aUp_ne (by decide), h72]; omega) (by rw [aUp_ne (by decide), h72]; omega))
    rw [y, qFo_r rfl] at hF
    have y3 := (qHf_z (hpl (k + 2))).mp y
    have hN3 : k + 3 ≤ N := tk_nx (kd := kT s n ws) b3 hN2 (by omega)
    have hA3 := AtM_to hA2 hN3
    rw [show ((k + 2 : Nat) : Int) + 1 = ((k + 3 : Nat) : Int) from rfl]
    obtain ⟨D3, hD3⟩ : ∃ X, aUp D2 210 7 ((k + 3 : Nat) : Int) = X := ⟨_, rfl⟩
    have fr3 : Fr7 D D3 := Fr7_trans fr2 (hD3 ▸ Fr7_210 (Or.inl rfl))
    have g3 : ∀ r, r ≠ 210 → D3 r = D2 r := fun r q => by rw [← hD3, aUp_row q]
    have g303 : D3 210 30 = D2 210 30 := by rw [← hD3, aUp_ne (by decide)]
    rw [hD3] at hA3 ⊢
    obtain ⟨hH3, h83, h73, -, hnx3, hM3⟩ := id hA3
    have gg3 : ∀ q, q ≠ 210 → D3 q = D q := fun q y => by rw [g3 q y, gg2 q y]
    have e3 : aUp D 210 7 ((k + 3 : Nat) : Int) = D3 := by rw [← hD3, ← hD2, ← hD1, hD0, aUp_two, aUp_two]
    obtain ⟨t0, -⟩ := hH3.1 (k + 2) hN2
    have ix := qIx_in (nm := mT s n) (nh := S.nh) (hn := S.hn) (k := k + 2)
    show V G l (d + 3) iX12_readPart 120 [rf 210, (0, (x : Int)), (0, sumF (fun i : Nat => r.2.2.2.2 i) r.2.2.1), (0, nT s n k), (0, ((k + 2 : Nat) : Int)), (9, 0), (9, 0), (9, 0)] [(0, qIx (mT s n) S.nh S.hn (k + 2))] (K, D3, z) P
    refine s_is5 rfl rfl ?_
    -- the loop over the parts there are
    have fin : ∀ b : Int, (b = 0 ∨ b = 1) → (b = 1 ↔ qIx (mT s n) S.nh S.hn (k + 2) = own ∨ ixF r.2.2.2.1 (qIx (mT s n) S.nh S.hn (k + 2)) r.2.2.1 ≠ -1) → V G l (d + 3) iX12_readPart 189 [rf 210, (0, (x : Int)), (0, sumF (fun i : Nat => r.2.2.2.2 i) r.2.2.1), (0, nT s n k), (0, ((k + 2 : Nat) : Int)), (0, qIx (mT s n) S.nh S.hn (k + 2)), (0, b), (0, ((r.2.2.1 : Nat) : Int))] [] (K, D3, z) P := by
      intro b hb hq
      refine s_al0 rfl ?_
      refine s_gi rfl (hk.at rfl rfl) rfl ?_
      rw [h83]
      refine s_zne rfl ?_ ?_
      · intro h193
        exact absurd rfl h193
      · intro h193
        refine s_il6 rfl ?_
        refine s_zeq rfl ?_ ?_
        · intro h198
          have e6 : qP6 (pT2 s n) own r.2.2.1 r.2.2.2.1 (qIx (mT s n) S.nh S.hn (k + 2)) (k + 2) = 0 := if_neg (fun q => by have := hq.mpr q; omega)
          rw [e6] at hF
          refine s_al0 rfl ?_
          refine s_gi rfl (hk.at rfl rfl) rfl ?_
          rw [h83]
          refine s_zne rfl ?_ ?_
          · intro h222
            exact absurd rfl h222
          · intro h222
            refine s_al0 rfl ?_
            refine s_gf rfl (hk.at rfl rfl) rfl rfl ?_
            refine s_ic rfl ?_
            refine s_il1 rfl ?_
            refine s_imul rfl ⟨by omega, by omega⟩ ?_
            refine s_al0 rfl ?_
            refine s_gf rfl (hk.at rfl rfl) rfl rfl ?_
            refine s_il1 rfl ?_
            refine s_iald rfl (hk.at rfl rfl) (by omega) ?_
            rw [gg3 230 (by decide), p7]
            refine s_iadd rfl ⟨by omega, by omega⟩ ?_
            rw [show 12 * (x : Int) + ((r.2.2.1 : Nat) : Int) = ((12 * x + r.2.2.1 : Nat) : Int) by omega]
            refine s_il3 rfl ?_
            refine s_iast rfl (hk.at rfl rfl) (by omega) ?_
            refine s_al0 rfl ?_
            refine s_gf rfl (hk.at rfl rfl) rfl rfl ?_
            refine s_ic rfl ?_
            refine s_il1 rfl ?_
            refine s_imul rfl ⟨by omega, by omega⟩ ?_
            refine s_al0 rfl ?_
            refine s_gf rfl (hk.at rfl rfl) rfl rfl ?_
            refine s_il1 rfl ?_
            refine s_iald rfl (hk.at rfl rfl) (by omega) ?_
            rw [aUp_row (by decide), gg3 230 (by decide), p7]
            refine s_iadd rfl ⟨by omega, by omega⟩ ?_
            rw [show 12 * (x : Int) + ((r.2.2.1 : Nat) : Int) = ((12 * x + r.2.2.1 : Nat) : Int) by omega]
            refine s_il5 rfl ?_
            refine s_iast rfl (hk.at rfl rfl) (by omega) ?_
            refine s_al0 rfl ?_
            refine s_gf rfl (hk.at rfl rfl) rfl rfl ?_
            refine s_il1 rfl ?_
            refine s_dup2 rfl rfl rfl ?_
            refine s_iald rfl (hk.at rfl rfl) (by omega) ?_
            refine s_ic rfl ?_
            rw [aUp_row (by decide), aUp_row (by decide), gg3 230 (by decide), p7]
            refine s_iadd rfl ⟨by omega, by omega⟩ ?_
            refine s_iast rfl (hk.at rfl rfl) (by omega) ?_
            refine s_retv rfl rfl ?_
            have := k1 hF.symm hN3
            rw [e3] at this
            exact this
        · intro h198
          have e6 : qP6 (pT2 s n) own r.2.2.1 r.2.2.2.1 (qIx (mT s n) S.nh S.hn (k + 2)) (k + 2) = 6 + 16 * pT2 s n (k + 2) := if_pos (hq.mp (by omega))
          rw [e6] at hF
          have hp2 := pl_in (s := s) (n := n) (k := k + 2) b4
          have hF0 : 0 < F := by omega
          refine s_al0 rfl ?_
          refine s_ic rfl ?_
          refine s_ic rfl ?_
          refine s_al0 rfl ?_
          refine s_gf rfl (hk.at rfl rfl) rfl rfl ?_
          refine s_il4 rfl ?_
          refine s_iald rfl (hk.at rfl rfl) (by omega) ?_
          rw [t0]
          refine s_imul rfl ⟨by omega, by omega⟩ ?_
          refine s_iadd rfl ⟨by omega, by omega⟩ ?_
          refine s_pi rfl (hk.at rfl rfl) rfl ?_
          rw [hF]
          refine s_al0 rfl ?_
          refine s_gi rfl (hk.at rfl rfl) rfl ?_
          rw [aUp_at]
          refine s_zne rfl (fun _ => ?_) (fun q => by omega)
          refine s_retv rfl rfl ?_
          exact k0 hF0 _ (Fr7_trans fr3 (Fr7_210 (Or.inr (Or.inl rfl)))) aUp_at (by rw [aUp_ne (by decide), h73]; omega) (by rw [aUp_ne (by decide), h73]; omega)
    have loop : ∀ (g i : Nat) (b : Int), i + g = r.2.2.1 → (b = 0 ∨ b = 1) → (b = 1 ↔ qIx (mT s n) S.nh S.hn (k + 2) = own ∨ ixF r.2.2.2.1 (qIx (mT s n) S.nh S.hn (k + 2)) i ≠ -1) → V G l (d + 3) iX12_readPart 143 [rf 210, (0, (x : Int)), (0, sumF (fun i : Nat => r.2.2.2.2 i) r.2.2.1), (0, nT s n k), (0, ((k + 2 : Nat) : Int)), (0, qIx (mT s n) S.nh S.hn (k + 2)), (0, b), (0, (i : Int))] [] (K, D3, z) P := by
      intro g
      induction g with
      | zero =>
        intro i b hi hb hq
        have hi : i = r.2.2.1 := by omega
        subst hi
        refine s_il7 rfl ?_
        refine s_al0 rfl ?_
        refine s_gf rfl (hk.at rfl rfl) rfl rfl ?_
        refine s_il1 rfl ?_
        refine s_iald rfl (hk.at rfl rfl) (by omega) ?_
        rw [gg3 230 (by decide), p7]
        refine s_cge rfl ?_ ?_
        · intro h151
          exact fin b hb hq
        · intro h151
          omega
      | succ g ih =>
        intro i b hi hb hq
        have e2 := (pp i (by omega)).1
        have st : ixF r.2.2.2.1 (qIx (mT s n) S.nh S.hn (k + 2)) (i + 1) = (if ixF r.2.2.2.1 (qIx (mT s n) S.nh S.hn (k + 2)) i = -1 then (if r.2.2.2.1 i = qIx (mT s n) S.nh S.hn (k + 2) then (i : Int) else -1) else ixF r.2.2.2.1 (qIx (mT s n) S.nh S.hn (k + 2)) i) := rfl
        have nxt : ∀ b' : Int, (b' = 0 ∨ b' = 1) → (b' = 1 ↔ b = 1 ∨ r.2.2.2.1 i = qIx (mT s n) S.nh S.hn (k + 2)) → V G l (d + 3) iX12_readPart 181 [rf 210, (0, (x : Int)), (0, sumF (fun i : Nat => r.2.2.2.2 i) r.2.2.1), (0, nT s n k), (0, ((k + 2 : Nat) : Int)), (0, qIx (mT s n) S.nh S.hn (k + 2)), (0, b), (0, (i : Int))] [(0, b')] (K, D3, z) P := by
          intro b' hb' hq'
          refine s_is6 rfl rfl ?_
          refine s_iinc7 rfl rfl ⟨by omega, by omega⟩ ?_
          refine s_go rfl ?_
          refine ih (i + 1) b' (by omega) hb' ?_
          rw [hq', hq, st]
          by_cases y : ixF r.2.2.2.1 (qIx (mT s n) S.nh S.hn (k + 2)) i = -1
          · rw [if_pos y]
            by_cases y2 : r.2.2.2.1 i = qIx (mT s n) S.nh S.hn (k + 2)
            · rw [if_pos y2]
              exact ⟨fun _ => Or.inr (by omega), fun _ => Or.inr y2⟩
            · rw [if_neg y2]
              exact ⟨fun q => by rcases q with (q | q) | q; exact Or.inl q; exact absurd y q; exact absurd q y2, fun q => by rcases q with q | q; exact Or.inl (Or.inl q); exact absurd rfl q⟩
          · rw [if_neg y]
            exact ⟨fun _ => Or.inr y, fun _ => Or.inl (Or.inr y)⟩
        refine s_il7 rfl ?_
        refine s_al0 rfl ?_
        refine s_gf rfl (hk.at rfl rfl) rfl rfl ?_
        refine s_il1 rfl ?_
        refine s_iald rfl (hk.at rfl rfl) (by omega) ?_
        rw [gg3 230 (by decide), p7]
        refine s_cge rfl ?_ ?_
        · intro h151
          omega
        · intro h151
          refine s_il6 rfl ?_
          refine s_zne rfl ?_ ?_
          · intro h156
            refine s_ic rfl ?_
            refine s_go rfl ?_
            exact nxt 1 (Or.inr rfl) ⟨fun _ => Or.inl (by omega), fun _ => rfl⟩
          · intro h156
            refine s_al0 rfl ?_
            refine s_gf rfl (hk.at rfl rfl) rfl rfl ?_
            refine s_ic rfl ?_
            refine s_il1 rfl ?_
            refine s_imul rfl ⟨by omega, by omega⟩ ?_
            refine s_il7 rfl ?_
            refine s_iadd rfl ⟨by omega, by omega⟩ ?_
            rw [show 12 * (x : Int) + (i : Int) = ((12 * x + i : Nat) : Int) by omega]
            refine s_iald rfl (hk.at rfl rfl) (by omega) ?_
            rw [gg3 232 (by decide), e2]
            refine s_il5 rfl ?_
            refine s_cne rfl ?_ ?_
            · intro h173
              refine s_ic rfl ?_
              exact nxt 0 (Or.inl rfl) ⟨fun q => by omega, fun q => by rcases q with q | q; omega; exact absurd q h173⟩
            · intro h173
              refine s_ic rfl ?_
              refine s_go rfl ?_
              exact nxt 1 (Or.inr rfl) ⟨fun _ => Or.inr h173, fun _ => rfl⟩
    refine s_il5 rfl ?_
    refine s_al0 rfl ?_
    refine s_gf rfl (hk.at rfl rfl) rfl rfl ?_
    refine s_il1 rfl ?_
    refine s_iald rfl (hk.at rfl rfl) (by omega) ?_
    rw [gg3 224 (by decide), how]
    refine s_cne rfl ?_ ?_
    · intro h130
      refine s_ic rfl ?_
      refine s_is6 rfl rfl ?_
      refine s_ic rfl ?_
      refine s_is7 rfl rfl ?_
      first
      | exact loop r.2.2.1 0 1 (by omega) (Or.inr rfl) ⟨fun _ => Or.inl h130, fun _ => rfl⟩
      | exact loop r.2.2.1 0 0 (by omega) (Or.inl rfl) ⟨fun q => by omega, fun q => by rcases q with q | q; exact absurd q h130; exact absurd rfl q⟩
    · intro h130
      refine s_ic rfl ?_
      refine s_go rfl ?_
      refine s_is6 rfl rfl ?_
      refine s_ic rfl ?_
      refine s_is7 rfl rfl ?_
      first
      | exact loop r.2.2.1 0 1 (by omega) (Or.inr rfl) ⟨fun _ => Or.inl h130, fun _ => rfl⟩
      | exact loop r.2.2.1 0 0 (by omega) (Or.inl rfl) ⟨fun q => by omega, fun q => by rcases q with q | q; exact absurd q h130; exact absurd rfl q⟩
  have loop : ∀ (g i : Nat), i + g = r.2.2.1 → V G l (d + 3) iX12_readPart 4 [rf 210, (0, (x : Int)), (0, sumF (fun i : Nat => r.2.2.2.2 i) i), (0, (i : Int)), (9, 0), (9, 0), (9, 0), (9, 0)] [] (K, D0, z) P := by
    intro g
    induction g with
    | zero =>
      intro i hi
      have hi : i = r.2.2.1 := by omega
      subst hi
      refine s_il3 rfl ?_
      refine s_al0 rfl ?_
      refine s_gf rfl (hk.at rfl rfl) rfl rfl ?_
      refine s_il1 rfl ?_
      refine s_iald rfl (hk.at rfl rfl) (by omega) ?_
      rw [gg0 230 (by decide), p7]
      refine s_cge rfl ?_ ?_
      · intro h11
        refine s_al0 rfl ?_
        refine s_gi rfl (hk.at rfl rfl) rfl ?_
        obtain ⟨r0, r1, r2, r3, r4, r5, r6, r7, r8⟩ := hH0.1 k hkN
        rw [h80]
        refine s_zne rfl ?_ ?_
        · intro h38
          exact absurd rfl h38
        · intro h38
          refine s_al0 rfl ?_
          refine s_gf rfl (hk.at rfl rfl) rfl rfl ?_
          refine s_al0 rfl ?_
          refine s_gi rfl (hk.at rfl rfl) rfl ?_
          rw [h70]
          refine s_iald rfl (hk.at rfl rfl) (by omega) ?_
          refine s_ic rfl ?_
          refine s_cne rfl ?_ ?_
          · intro h51
            exact at94 (fun y => absurd (r2.mpr y) h51)
          · intro h51
            have y2 := r2.mp h51
            have nb := hnu _ y2
            refine s_al0 rfl ?_
            refine s_gf rfl (hk.at rfl rfl) rfl rfl ?_
            refine s_al0 rfl ?_
            refine s_gi rfl (hk.at rfl rfl) rfl ?_
            rw [h70]
            refine s_lald rfl (hk.at rfl rfl) (by omega) ?_
            rw [r3 y2]
            refine s_lc rfl ?_
            refine s_lcmp rfl ?_
            refine s_zgt rfl ?_ ?_
            · intro h67
              exact at94 (fun _ y => by have := cmp3_gt.mp h67; omega)
            · intro h67
              have y7 := cmp3_le.mp h67
              refine s_il2 rfl ?_
              refine s_i2l rfl ?_
              refine s_al0 rfl ?_
              refine s_gf rfl (hk.at rfl rfl) rfl rfl ?_
              refine s_al0 rfl ?_
              refine s_gi rfl (hk.at rfl rfl) rfl ?_
              rw [h70]
              refine s_lald rfl (hk.at rfl rfl) (by omega) ?_
              rw [r3 y2]
              refine s_ladd rfl ⟨by omega, by omega⟩ ?_
              refine s_lc rfl ?_
              refine s_lcmp rfl ?_
              refine s_zle rfl ?_ ?_
              · intro h86
                exact at94 (fun _ _ => cmp3_le.mp h86)
              · intro h86
                have y8 := cmp3_gt.mp h86
                refine s_al0 rfl ?_
                refine s_ic rfl ?_
                refine s_callO rfl rfl (Or.inl rfl) rfl rfl (hk.at rfl rfl) (u_wrong (c := 4) hk hH0 h80 h70 hN0 (by decide) ?_)
                show V G l (d + 3) iX12_readPart 94 [rf 210, (0, (x : Int)), (0, sumF (fun i : Nat => r.2.2.2.2 i) r.2.2.1), (0, ((r.2.2.1 : Nat) : Int)), (9, 0), (9, 0), (9, 0), (9, 0)] [] (K, _, z) P
                have e4 : qNm (kT s n ws) (nT s n) (pT2 s n) 1 (1000 - sumF (fun i : Nat => r.2.2.2.2 i) r.2.2.1) k = 4 + 16 * pT2 s n k := qNm_4 y2 (by omega)
                have hF0 := hpl k
                rw [e4, qFo_l (by omega)] at hF
                have hF0 : 0 < F := by omega
                rw [hF]
                exact pD94 (m := r.2.2.1) hk hx (by rw [aUp_row (by decide), gg0 230 (by decide)]; exact p7) (by omega) (by rw [aUp_at]; exact hF0) (by rw [aUp_ne (by decide), h70]; omega) (k0 hF0 _ (Fr7_trans fr0 (Fr7_210 (Or.inr (Or.inl rfl)))) aUp_at (by rw [aUp_ne (by decide), h70]; omega) (by rw [aUp_ne (by decide), h70]; omega))
      · intro h11
        omega
    | succ g ih =>
      intro i hi
      have e1 := (pp i (by omega)).2
      have n0 := sumF_nonneg (f := fun i : Nat => r.2.2.2.2 i) (n := i) (fun i' hi' => (j1 i' (by omega)).2.2.1)
      have n1 := sumF_mono (f := fun i : Nat => r.2.2.2.2 i) (n := i + 1) (m := r.2.2.1) (fun i' hi' => (j1 i' hi').2.2.1) (by omega)
      have st : sumF (fun i : Nat => r.2.2.2.2 i) (i + 1) = sumF (fun i : Nat => r.2.2.2.2 i) i + r.2.2.2.2 i := rfl
      have nn := (j1 i (by omega)).2.2
      refine s_il3 rfl ?_
      refine s_al0 rfl ?_
      refine s_gf rfl (hk.at rfl rfl) rfl rfl ?_
      refine s_il1 rfl ?_
      refine s_iald rfl (hk.at rfl rfl) (by omega) ?_
      rw [gg0 230 (by decide), p7]
      refine s_cge rfl ?_ ?_
      · intro h11
        omega
      · intro h11
        refine s_il2 rfl ?_
        refine s_al0 rfl ?_
        refine s_gf rfl (hk.at rfl rfl) rfl rfl ?_
        refine s_ic rfl ?_
        refine s_il1 rfl ?_
        refine s_imul rfl ⟨by omega, by omega⟩ ?_
        refine s_il3 rfl ?_
        refine s_iadd rfl ⟨by omega, by omega⟩ ?_
        rw [show 12 * (x : Int) + (i : Int) = ((12 * x + i : Nat) : Int) by omega]
        refine s_iald rfl (hk.at rfl rfl) (by omega) ?_
        rw [gg0 231 (by decide), e1]
        refine s_iadd rfl ⟨by omega, by omega⟩ ?_
        refine s_is2 rfl rfl ?_
        refine s_iinc3 rfl rfl ⟨by omega, by omega⟩ ?_
        refine s_go rfl ?_
        exact ih (i + 1) (by omega)
  refine VM_go (tg2 rfl) (Nat.le_of_ble_eq_true rfl) ?_
  rw [← hD0]
  refine s_ic rfl ?_
  refine s_is2 rfl rfl ?_
  refine s_ic rfl ?_
  refine s_is3 rfl rfl ?_
  exact loop r.2.2.1 0 (by omega)
end
