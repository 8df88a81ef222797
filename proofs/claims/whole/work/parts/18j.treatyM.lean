/-! ===== treaty lines: the reference ===== -/
theorem PtM_keep {x : Nat} {r : PT5} {D D' : Nat → Int → Int} (h : PtM x r D) (e : ∀ q, 230 ≤ q → q ≤ 232 → D' q = D q) : PtM x r D' := by
  unfold PtM at h ⊢
  rw [e 230 (by decide) (by decide), e 231 (by decide) (by decide), e 232 (by decide) (by decide)]; exact h
theorem AlM_o {s ws : Int → Int} {n N k nx x c r : Nat} {S : PS} {g : Nat → Int} {D D1 : Nat → Int → Int} {i v : Int} (h : AlM s ws n N nx x c k S g D D1) (hr : 230 ≤ r) (hf : FrT nx x c D1 (aUp D1 r i v)) : AlM s ws n N nx x c k S g D (aUp D1 r i v) := ⟨AtM_keep h.1 (fun q y => aUp_row (by omega)), FrT_trans h.2.1 hf, fun j hj => by rw [aUp_row (by omega)]; exact h.2.2.1 j hj, by rw [aUp_row (by omega)]; exact h.2.2.2⟩
theorem Pt_add {s ws : Int → Int} {n N k nx x c : Nat} {S : PS} {g : Nat → Int} {own : Int} {r : PT5} {D D1 : Nat → Int → Int} (h : AlM s ws n N nx x c k S g D D1) (hP : PtM x r D1) (hk : k + 3 ≤ N) (hm : r.2.2.1 < 12) : AlM s ws n N nx x c (k + 3) S g D (aUp (aUp (aUp (aUp D1 210 7 ((k + 3 : Nat) : Int)) 231 ((12 * x + r.2.2.1 : Nat) : Int) (nT s n k)) 232 ((12 * x + r.2.2.1 : Nat) : Int) (qIx (mT s n) S.nh S.hn (k + 2))) 230 (x : Int) ((r.2.2.1 + 1 : Nat) : Int)) ∧ PtM x (qPt (kT s n ws) (nT s n) (mT s n) (pT2 s n) S.nh S.hn own k r) (aUp (aUp (aUp (aUp D1 210 7 ((k + 3 : Nat) : Int)) 231 ((12 * x + r.2.2.1 : Nat) : Int) (nT s n k)) 232 ((12 * x + r.2.2.1 : Nat) : Int) (qIx (mT s n) S.nh S.hn (k + 2))) 230 (x : Int) ((r.2.2.1 + 1 : Nat) : Int)) := by
  refine ⟨AlM_o (AlM_o (AlM_o (AlM_to h hk) (by decide) (FrT_pt (Or.inl rfl) hm)) (by decide) (FrT_pt (Or.inr rfl) hm)) (by decide) (FrT_up (by decide)), ?_, fun i hi => ?_⟩
  · rw [aUp_at]; rfl
  · have hi : i < r.2.2.1 + 1 := hi
    show _ = uF r.2.2.2.1 r.2.2.1 (qIx (mT s n) S.nh S.hn (k + 2)) i ∧ _ = uF r.2.2.2.2 r.2.2.1 (nT s n k) i
    rw [aUp_row (show 232 ≠ 230 by decide), aUp_row (show 231 ≠ 230 by decide), aUp_row (show 231 ≠ 232 by decide)]
    rcases (by omega : i < r.2.2.1 ∨ i = r.2.2.1) with q | q
    · rw [uF_ne (by omega), uF_ne (by omega), aUp_ne (show ((12 * x + i : Nat) : Int) ≠ ((12 * x + r.2.2.1 : Nat) : Int) by omega), aUp_ne (show ((12 * x + i : Nat) : Int) ≠ ((12 * x + r.2.2.1 : Nat) : Int) by omega), aUp_ne (show ((12 * x + i : Nat) : Int) ≠ ((12 * x + r.2.2.1 : Nat) : Int) by omega), aUp_row (show 232 ≠ 210 by decide), aUp_row (show 231 ≠ 210 by decide)]; exact hP.2 i q
    · subst q; rw [uF_at, uF_at, aUp_at, aUp_at]; exact ⟨rfl, rfl⟩
theorem Dd7 {s ws : Int → Int} {n N k nx x c : Nat} {S : PS} {g : Nat → Int} {D D1 D' : Nat → Int → Int} {F : Int} (hx : 24 * nx ≤ x ∧ x < 24 * nx + 24) (h : AlM s ws n N nx x c k S g D D1) (f : Fr7 D1 D') (e : D' 210 8 = F) (a : 0 ≤ D' 210 7) (b : D' 210 7 ≤ 1500) : DdM nx S.nt F D D' := ⟨FrN_trans (FrT_N hx h.2.1) ⟨fun r q _ => f.1 r q, fun j q1 q2 _ => f.2 j q1 q2, fun r j q1 q2 _ => by rw [f.1 r (by omega)]⟩, e, ⟨a, b⟩, by rw [f.2 11 (by decide) (by decide)]; exact h.1.2.2.2.2.1, by rw [f.1 221 (by decide)]; exact h.1.2.2.2.2.2.2.2.1⟩
section
variable {G : aCX} {l : Launch} {d : Nat} {K : Nat → aKd} {D : Nat → Int → Int} {z : Nat × Nat} {P : Int → aSt → Prop}
theorem u_readTreaty {s ws : Int → Int} {n N k nx : Nat} {S : PS} {ly : Int} (hk : Kn K) (hx2 : nx ≤ 1) (hI : PsI (kT s n ws) (mT s n) S k) (hA : AtM s ws n N nx k S D) (hS : StM s ws n nx S D) (hk1 : k + 1 ≤ N) (hnu : ∀ k, kT s n ws k = 2 → 0 ≤ nT s n k ∧ nT s n k ≤ 999999) (hly : ly = 0 ∧ kT s n ws k = 14 ∨ ly = 1 ∧ kT s n ws k = 15) (kk : ∀ D', RdM s ws n N nx D (if 24 ≤ S.nt then 5 + 16 * pT2 s n k else qFo (qNn (kT s n ws) (mT s n) (pT2 s n) S.nh S.hn S.nt S.tn (k + 1)) (qFo (qTk (kT s n ws) (pT2 s n) 18 (k + 2)) (qFo (qHf (kT s n ws) (mT s n) (pT2 s n) S.nh S.hn (k + 3)) (qFo (qTk (kT s n ws) (pT2 s n) 10 (qT1 (kT s n ws) k)) (qFo (if ly = 0 then 0 else qLm (kT s n ws) (nT s n) (pT2 s n) (qT1 (kT s n ws) k + 1)) (qFo (qT4 (kT s n ws) (nT s n) (mT s n) (pT2 s n) ly k S).1 (qFo (qA5 (kT s n ws) (nT s n) (pT2 s n) ly (qT4 (kT s n ws) (nT s n) (mT s n) (pT2 s n) ly k S).2.1) (qT6 (kT s n ws) (nT s n) (mT s n) (pT2 s n) ly k S).1))))))) (qT6 (kT s n ws) (nT s n) (mT s n) (pT2 s n) ly k S).2.1 (qTr (kT s n ws) (nT s n) (mT s n) (pT2 s n) ly k S).2.2 D' → P 0 (K, D', z)) : VM G l (d + 24) iX12_readTreaty [rf 210] (K, D, z) P := by
  obtain ⟨hH, h8, h7, hkN, hnx, hM⟩ := id hA
  obtain ⟨b1, b2, b3, b4, b5⟩ := id hH
  have hpl : ∀ k, 0 ≤ pT2 s n k := fun k => (pl_in (s := s) (n := n) (k := k) b4).1
  have h32 : ∀ k, kT s n ws k ≤ 32 := fun k => (kdF_in (s := s) (n := n) (ws := ws) (p := tpF s n k)).2
  obtain ⟨⟨h12, h24⟩, i2, hdi, i4, i5, i6, i7, i8, i9⟩ := id hI
  refine VM_go (tg2 rfl) (Nat.le_of_ble_eq_true rfl) ?_
  by_cases q24 : 24 ≤ S.nt
  · rw [if_pos q24] at kk
    have hp := hpl k
    refine s_al0 rfl ?_
    refine s_gf rfl (hk.at rfl rfl) rfl rfl ?_
    refine s_al0 rfl ?_
    refine s_gi rfl (hk.at rfl rfl) rfl ?_
    rw [hnx]
    refine s_iald rfl (hk.at rfl rfl) (by omega) ?_
    rw [hM.2.2.1]
    refine s_ic rfl ?_
    refine s_cne rfl ?_ ?_
    · intro h11
      omega
    · intro h11
      refine s_al0 rfl ?_
      refine s_ic rfl ?_
      refine s_callO rfl rfl (Or.inl rfl) rfl rfl (hk.at rfl rfl) (u_wrong (c := 5) hk hH h8 h7 hkN (by decide) ?_)
      show V G l (d + 24) iX12_readTreaty 19 [rf 210, (9, 0)] [] (K, _, z) P
      refine s_retv rfl rfl ?_
      exact kk _ ⟨FrN_210 (Or.inr (Or.inl rfl)), fun y => by omega, fun _ => ⟨by omega, aUp_at, by rw [aUp_ne (by decide), h7]; omega, by rw [aUp_ne (by decide), h7]; omega⟩⟩
  rw [if_neg q24] at kk
  obtain ⟨F, hF⟩ : ∃ F, qFo (qNn (kT s n ws) (mT s n) (pT2 s n) S.nh S.hn S.nt S.tn (k + 1)) (qFo (qTk (kT s n ws) (pT2 s n) 18 (k + 2)) (qFo (qHf (kT s n ws) (mT s n) (pT2 s n) S.nh S.hn (k + 3)) (qFo (qTk (kT s n ws) (pT2 s n) 10 (qT1 (kT s n ws) k)) (qFo (if ly = 0 then 0 else qLm (kT s n ws) (nT s n) (pT2 s n) (qT1 (kT s n ws) k + 1)) (qFo (qT4 (kT s n ws) (nT s n) (mT s n) (pT2 s n) ly k S).1 (qFo (qA5 (kT s n ws) (nT s n) (pT2 s n) ly (qT4 (kT s n ws) (nT s n) (mT s n) (pT2 s n) ly k S).2.1) (qT6 (kT s n ws) (nT s n) (mT s n) (pT2 s n) ly k S).1)))))) = F := ⟨_, rfl⟩
  rw [hF] at kk
  obtain ⟨x, hx⟩ : ∃ x : Nat, x = 24 * nx + S.nt := ⟨_, rfl⟩
  have hxx : 24 * nx ≤ x ∧ x < 24 * nx + 24 := by omega
  obtain ⟨c, hc⟩ : ∃ c : Nat, rTo S.cl S.nt = c := ⟨_, rfl⟩
  have hck : c ≤ k := by omega
  have dead : 0 < F → ∀ D1 : Nat → Int → Int, DdM nx S.nt F D D1 → (V G l (d + 24) iX12_readTreaty 305 [rf 210, (0, (x : Int))] [] (K, D1, z) P) ∧ (V G l (d + 24) iX12_readTreaty 259 [rf 210, (0, (x : Int))] [] (K, D1, z) P) ∧ (V G l (d + 24) iX12_readTreaty 244 [rf 210, (0, (x : Int))] [] (K, D1, z) P) ∧ (V G l (d + 24) iX12_readTreaty 238 [rf 210, (0, (x : Int))] [] (K, D1, z) P) ∧ (V G l (d + 24) iX12_readTreaty 174 [rf 210, (0, (x : Int))] [] (K, D1, z) P) ∧ (V G l (d + 24) iX12_readTreaty 162 [rf 210, (0, (x : Int))] [] (K, D1, z) P) ∧ (V G l (d + 24) iX12_readTreaty 147 [rf 210, (0, (x : Int))] [] (K, D1, z) P) ∧ (V G l (d + 24) iX12_readTreaty 141 [rf 210, (0, (x : Int))] [] (K, D1, z) P) ∧ (V G l (d + 24) iX12_readTreaty 103 [rf 210, (0, (x : Int))] [] (K, D1, z) P) ∧ (V G l (d + 24) iX12_readTreaty 97 [rf 210, (0, (x : Int))] [] (K, D1, z) P) ∧ (V G l (d + 24) iX12_readTreaty 85 [rf 210, (0, (x : Int))] [] (K, D1, z) P) ∧ (V G l (d + 24) iX12_readTreaty 75 [rf 210, (0, (x : Int))] [] (K, D1, z) P) ∧ (V G l (d + 24) iX12_readTreaty 69 [rf 210, (0, (x : Int))] [] (K, D1, z) P) := by
    intro hF0
    have e305 : ∀ D1 : Nat → Int → Int, DdM nx S.nt F D D1 → V G l (d + 24) iX12_readTreaty 305 [rf 210, (0, (x : Int))] [] (K, D1, z) P := by
      intro D1 q
      obtain ⟨q1, q2, q3, q4, q5⟩ := id q
      refine s_al0 rfl ?_
      refine s_gf rfl (hk.at rfl rfl) rfl rfl ?_
      refine s_al0 rfl ?_
      refine s_gi rfl (hk.at rfl rfl) rfl ?_
      rw [q4]
      refine s_dup2 rfl rfl rfl ?_
      refine s_iald rfl (hk.at rfl rfl) (by omega) ?_
      rw [q5]
      refine s_al0 rfl ?_
      refine s_gi rfl (hk.at rfl rfl) rfl ?_
      rw [q2]
      refine s_zne rfl ?_ ?_
      · intro h319
        refine s_ic rfl ?_
        refine s_iadd rfl ⟨by omega, by omega⟩ ?_
        refine s_iast rfl (hk.at rfl rfl) (by omega) ?_
        refine s_retv rfl rfl ?_
        refine kk _ ⟨FrN_trans q1 (FrN_up (by decide) ⟨by show 1 * (nx : Int) ≤ _; omega, by show _ < 1 * (nx : Int) + 1; omega⟩), fun y => absurd y (by omega), fun _ => ⟨hF0, ?_, ?_, ?_⟩⟩
        · rw [aUp_row (by decide)]; exact q2
        · rw [aUp_row (by decide)]; exact q3.1
        · rw [aUp_row (by decide)]; exact q3.2
      · intro h319
        omega
    have e266 : ∀ D1 : Nat → Int → Int, DdM nx S.nt F D D1 → V G l (d + 24) iX12_readTreaty 266 [rf 210, (0, (x : Int))] [] (K, D1, z) P := by
      intro D1 q
      obtain ⟨q1, q2, q3, q4, q5⟩ := id q
      refine s_al0 rfl ?_
      refine s_ic rfl ?_
      refine s_callO rfl rfl (Or.inl rfl) rfl rfl (hk.at rfl rfl) (u_hasWordD hk (by omega) (by omega) ?_)
      show V G l (d + 24) iX12_readTreaty 272 [rf 210, (0, (x : Int))] [(0, 0)] (K, D1, z) P
      refine s_zeq rfl ?_ ?_
      · intro h272
        exact e305 _ q
      · intro h272
        exact absurd rfl h272
    have e259 : ∀ D1 : Nat → Int → Int, DdM nx S.nt F D D1 → V G l (d + 24) iX12_readTreaty 259 [rf 210, (0, (x : Int))] [] (K, D1, z) P := by
      intro D1 q
      obtain ⟨q1, q2, q3, q4, q5⟩ := id q
      refine s_al0 rfl ?_
      refine s_gf rfl (hk.at rfl rfl) rfl rfl ?_
      refine s_il1 rfl ?_
      refine s_ic rfl ?_
      refine s_iast rfl (hk.at rfl rfl) (by omega) ?_
      exact e266 _ (DdM_up hxx q (by decide))
    have e244 : ∀ D1 : Nat → Int → Int, DdM nx S.nt F D D1 → V G l (d + 24) iX12_readTreaty 244 [rf 210, (0, (x : Int))] [] (K, D1, z) P := by
      intro D1 q
      obtain ⟨q1, q2, q3, q4, q5⟩ := id q
      refine s_al0 rfl ?_
      refine s_gf rfl (hk.at rfl rfl) rfl rfl ?_
      refine s_il1 rfl ?_
      refine s_al0 rfl ?_
      refine s_lc rfl ?_
      refine s_lc rfl ?_
      refine s_callO rfl rfl (Or.inl rfl) rfl rfl (hk.at rfl rfl) (u_takeNumberD hk (by omega) ?_)
      show V G l (d + 24) iX12_readTreaty 257 [rf 210, (0, (x : Int))] [(1, 1), (0, (x : Int)), rf 229] (K, D1, z) P
      refine s_l2i rfl ⟨by omega, by omega⟩ ?_
      refine s_iast rfl (hk.at rfl rfl) (by omega) ?_
      exact e259 _ (DdM_up hxx q (by decide))
    have e238 : ∀ D1 : Nat → Int → Int, DdM nx S.nt F D D1 → V G l (d + 24) iX12_readTreaty 238 [rf 210, (0, (x : Int))] [] (K, D1, z) P := by
      intro D1 q
      obtain ⟨q1, q2, q3, q4, q5⟩ := id q
      refine s_al0 rfl ?_
      refine s_ic rfl ?_
      refine s_callO rfl rfl (Or.inl rfl) rfl rfl (hk.at rfl rfl) (u_takeWordD hk (by omega) (by omega) ?_)
      show V G l (d + 24) iX12_readTreaty 244 [rf 210, (0, (x : Int))] [] (K, D1, z) P
      exact e244 _ q
    have e205 : ∀ D1 : Nat → Int → Int, DdM nx S.nt F D D1 → V G l (d + 24) iX12_readTreaty 205 [rf 210, (0, (x : Int))] [] (K, D1, z) P := by
      intro D1 q
      obtain ⟨q1, q2, q3, q4, q5⟩ := id q
      refine s_al0 rfl ?_
      refine s_gf rfl (hk.at rfl rfl) rfl rfl ?_
      refine s_il1 rfl ?_
      refine s_bald rfl (hk.at rfl rfl) (by omega) ?_
      refine s_zeq rfl ?_ ?_
      · intro h211
        exact e259 _ q
      · intro h211
        refine s_al0 rfl ?_
        refine s_ic rfl ?_
        refine s_callO rfl rfl (Or.inl rfl) rfl rfl (hk.at rfl rfl) (u_hasWordD hk (by omega) (by omega) ?_)
        show V G l (d + 24) iX12_readTreaty 220 [rf 210, (0, (x : Int))] [(0, 0)] (K, D1, z) P
        refine s_zeq rfl ?_ ?_
        · intro h220
          exact e259 _ q
        · intro h220
          exact absurd rfl h220
    have e191 : ∀ D1 : Nat → Int → Int, DdM nx S.nt F D D1 → V G l (d + 24) iX12_readTreaty 191 [rf 210, (0, (x : Int))] [] (K, D1, z) P := by
      intro D1 q
      obtain ⟨q1, q2, q3, q4, q5⟩ := id q
      refine s_al0 rfl ?_
      refine s_gf rfl (hk.at rfl rfl) rfl rfl ?_
      refine s_il1 rfl ?_
      refine s_ic rfl ?_
      refine s_iast rfl (hk.at rfl rfl) (by omega) ?_
      refine s_al0 rfl ?_
      refine s_gf rfl (hk.at rfl rfl) rfl rfl ?_
      refine s_il1 rfl ?_
      refine s_ic rfl ?_
      refine s_iast rfl (hk.at rfl rfl) (by omega) ?_
      exact e205 _ (DdM_up hxx (DdM_up hxx q (by decide)) (by decide))
    have e174 : ∀ D1 : Nat → Int → Int, DdM nx S.nt F D D1 → V G l (d + 24) iX12_readTreaty 174 [rf 210, (0, (x : Int))] [] (K, D1, z) P := by
      intro D1 q
      obtain ⟨q1, q2, q3, q4, q5⟩ := id q
      refine s_al0 rfl ?_
      refine s_ic rfl ?_
      refine s_callO rfl rfl (Or.inl rfl) rfl rfl (hk.at rfl rfl) (u_hasWordD hk (by omega) (by omega) ?_)
      show V G l (d + 24) iX12_readTreaty 180 [rf 210, (0, (x : Int))] [(0, 0)] (K, D1, z) P
      refine s_zeq rfl ?_ ?_
      · intro h180
        exact e191 _ q
      · intro h180
        exact absurd rfl h180
    have e162 : ∀ D1 : Nat → Int → Int, DdM nx S.nt F D D1 → V G l (d + 24) iX12_readTreaty 162 [rf 210, (0, (x : Int))] [] (K, D1, z) P := by
      intro D1 q
      obtain ⟨q1, q2, q3, q4, q5⟩ := id q
      refine s_al0 rfl ?_
      refine s_gf rfl (hk.at rfl rfl) rfl rfl ?_
      refine s_il1 rfl ?_
      refine s_ic rfl ?_
      refine s_iast rfl (hk.at rfl rfl) (by omega) ?_
      have qq := DdM_up (r := 230) (v := 0) hxx q (by decide)
      obtain ⟨u1, u2, u3, u4, u5⟩ := id qq
      refine s_al0 rfl ?_
      refine s_il1 rfl ?_
      refine s_callO rfl rfl (Or.inl rfl) rfl rfl (hk.at rfl rfl) (u_readPartD (x := x) hk (by omega) aUp_at (by rw [u2]; exact hF0) u3 ?_)
      show V G l (d + 24) iX12_readTreaty 174 [rf 210, (0, (x : Int))] [] (K, _, z) P
      exact e174 _ qq
    have e147 : ∀ D1 : Nat → Int → Int, DdM nx S.nt F D D1 → V G l (d + 24) iX12_readTreaty 147 [rf 210, (0, (x : Int))] [] (K, D1, z) P := by
      intro D1 q
      obtain ⟨q1, q2, q3, q4, q5⟩ := id q
      refine s_al0 rfl ?_
      refine s_gf rfl (hk.at rfl rfl) rfl rfl ?_
      refine s_il1 rfl ?_
      refine s_al0 rfl ?_
      refine s_lc rfl ?_
      refine s_lc rfl ?_
      refine s_callO rfl rfl (Or.inl rfl) rfl rfl (hk.at rfl rfl) (u_takeNumberD hk (by omega) ?_)
      show V G l (d + 24) iX12_readTreaty 160 [rf 210, (0, (x : Int))] [(1, 1), (0, (x : Int)), rf 227] (K, D1, z) P
      refine s_l2i rfl ⟨by omega, by omega⟩ ?_
      refine s_iast rfl (hk.at rfl rfl) (by omega) ?_
      exact e162 _ (DdM_up hxx q (by decide))
    have e141 : ∀ D1 : Nat → Int → Int, DdM nx S.nt F D D1 → V G l (d + 24) iX12_readTreaty 141 [rf 210, (0, (x : Int))] [] (K, D1, z) P := by
      intro D1 q
      obtain ⟨q1, q2, q3, q4, q5⟩ := id q
      refine s_al0 rfl ?_
      refine s_ic rfl ?_
      refine s_callO rfl rfl (Or.inl rfl) rfl rfl (hk.at rfl rfl) (u_takeWordD hk (by omega) (by omega) ?_)
      show V G l (d + 24) iX12_readTreaty 147 [rf 210, (0, (x : Int))] [] (K, D1, z) P
      exact e147 _ q
    have e117 : ∀ D1 : Nat → Int → Int, DdM nx S.nt F D D1 → V G l (d + 24) iX12_readTreaty 117 [rf 210, (0, (x : Int))] [] (K, D1, z) P := by
      intro D1 q
      obtain ⟨q1, q2, q3, q4, q5⟩ := id q
      refine s_al0 rfl ?_
      refine s_gf rfl (hk.at rfl rfl) rfl rfl ?_
      refine s_il1 rfl ?_
      refine s_bald rfl (hk.at rfl rfl) (by omega) ?_
      refine s_zeq rfl ?_ ?_
      · intro h123
        exact e162 _ q
      · intro h123
        refine s_al0 rfl ?_
        refine s_gf rfl (hk.at rfl rfl) rfl rfl ?_
        refine s_il1 rfl ?_
        refine s_al0 rfl ?_
        refine s_lc rfl ?_
        refine s_lc rfl ?_
        refine s_callO rfl rfl (Or.inl rfl) rfl rfl (hk.at rfl rfl) (u_takeNumberD hk (by omega) ?_)
        show V G l (d + 24) iX12_readTreaty 139 [rf 210, (0, (x : Int))] [(1, 1), (0, (x : Int)), rf 226] (K, D1, z) P
        refine s_l2i rfl ⟨by omega, by omega⟩ ?_
        refine s_iast rfl (hk.at rfl rfl) (by omega) ?_
        exact e141 _ (DdM_up hxx q (by decide))
    have e103 : ∀ D1 : Nat → Int → Int, DdM nx S.nt F D D1 → V G l (d + 24) iX12_readTreaty 103 [rf 210, (0, (x : Int))] [] (K, D1, z) P := by
      intro D1 q
      obtain ⟨q1, q2, q3, q4, q5⟩ := id q
      refine s_al0 rfl ?_
      refine s_gf rfl (hk.at rfl rfl) rfl rfl ?_
      refine s_il1 rfl ?_
      refine s_ic rfl ?_
      refine s_iast rfl (hk.at rfl rfl) (by omega) ?_
      refine s_al0 rfl ?_
      refine s_gf rfl (hk.at rfl rfl) rfl rfl ?_
      refine s_il1 rfl ?_
      refine s_ic rfl ?_
      refine s_iast rfl (hk.at rfl rfl) (by omega) ?_
      exact e117 _ (DdM_up hxx (DdM_up hxx q (by decide)) (by decide))
    have e97 : ∀ D1 : Nat → Int → Int, DdM nx S.nt F D D1 → V G l (d + 24) iX12_readTreaty 97 [rf 210, (0, (x : Int))] [] (K, D1, z) P := by
      intro D1 q
      obtain ⟨q1, q2, q3, q4, q5⟩ := id q
      refine s_al0 rfl ?_
      refine s_ic rfl ?_
      refine s_callO rfl rfl (Or.inl rfl) rfl rfl (hk.at rfl rfl) (u_takeSignD hk (by omega) ?_)
      show V G l (d + 24) iX12_readTreaty 103 [rf 210, (0, (x : Int))] [] (K, D1, z) P
      exact e103 _ q
    have e85 : ∀ D1 : Nat → Int → Int, DdM nx S.nt F D D1 → V G l (d + 24) iX12_readTreaty 85 [rf 210, (0, (x : Int))] [] (K, D1, z) P := by
      intro D1 q
      obtain ⟨q1, q2, q3, q4, q5⟩ := id q
      refine s_al0 rfl ?_
      refine s_gf rfl (hk.at rfl rfl) rfl rfl ?_
      refine s_il1 rfl ?_
      refine s_al0 rfl ?_
      refine s_ic rfl ?_
      refine s_callO rfl rfl (Or.inl rfl) rfl rfl (hk.at rfl rfl) (u_hasWordD hk (by omega) (by omega) ?_)
      show V G l (d + 24) iX12_readTreaty 96 [rf 210, (0, (x : Int))] [(0, 0), (0, (x : Int)), rf 225] (K, D1, z) P
      refine s_bast rfl (hk.at rfl rfl) (by omega) (Or.inl rfl) ?_
      exact e97 _ (DdM_up hxx q (by decide))
    have e75 : ∀ D1 : Nat → Int → Int, DdM nx S.nt F D D1 → V G l (d + 24) iX12_readTreaty 75 [rf 210, (0, (x : Int))] [] (K, D1, z) P := by
      intro D1 q
      obtain ⟨q1, q2, q3, q4, q5⟩ := id q
      refine s_al0 rfl ?_
      refine s_gf rfl (hk.at rfl rfl) rfl rfl ?_
      refine s_il1 rfl ?_
      refine s_al0 rfl ?_
      refine s_callO rfl rfl (Or.inl rfl) rfl rfl (hk.at rfl rfl) (u_takeHouseD hk (by omega) ?_)
      show V G l (d + 24) iX12_readTreaty 84 [rf 210, (0, (x : Int))] [(0, 0), (0, (x : Int)), rf 224] (K, D1, z) P
      refine s_iast rfl (hk.at rfl rfl) (by omega) ?_
      exact e85 _ (DdM_up hxx q (by decide))
    have e69 : ∀ D1 : Nat → Int → Int, DdM nx S.nt F D D1 → V G l (d + 24) iX12_readTreaty 69 [rf 210, (0, (x : Int))] [] (K, D1, z) P := by
      intro D1 q
      obtain ⟨q1, q2, q3, q4, q5⟩ := id q
      refine s_al0 rfl ?_
      refine s_ic rfl ?_
      refine s_callO rfl rfl (Or.inl rfl) rfl rfl (hk.at rfl rfl) (u_takeWordD hk (by omega) (by omega) ?_)
      show V G l (d + 24) iX12_readTreaty 75 [rf 210, (0, (x : Int))] [] (K, D1, z) P
      exact e75 _ q
    exact fun D1 q => ⟨e305 D1 q, e259 D1 q, e244 D1 q, e238 D1 q, e174 D1 q, e162 D1 q, e147 D1 q, e141 D1 q, e103 D1 q, e97 D1 q, e85 D1 q, e75 D1 q, e69 D1 q⟩
  obtain ⟨j1, hj1⟩ : ∃ X, qT1 (kT s n ws) k = X := ⟨_, rfl⟩
  obtain ⟨r4, hr4⟩ : ∃ X, qT4 (kT s n ws) (nT s n) (mT s n) (pT2 s n) ly k S = X := ⟨_, rfl⟩
  obtain ⟨r6, hr6⟩ : ∃ X, qT6 (kT s n ws) (nT s n) (mT s n) (pT2 s n) ly k S = X := ⟨_, rfl⟩
  have hr4' : qPs (kT s n ws) (nT s n) (mT s n) (pT2 s n) S.nh S.hn (qIx (mT s n) S.nh S.hn (k + 3)) (qT3 (kT s n ws) ly k) = r4 := hr4
  have hr6' : qCd (kT s n ws) (nT s n) (pT2 s n) (qT5 (kT s n ws) ly r4.2.1) = r6 := by rw [← hr6, ← hr4]; rfl
  have eT3 : qT3 (kT s n ws) ly k = (if ly = 0 then j1 + 1 else j1 + 4) := by unfold qT3; rw [hj1]
  rw [hj1, hr4, hr6] at hF
  rw [hr6] at kk
  have e6 : ∀ {g : Nat → Int} {D4 : Nat → Int → Int}, RwM x g D4 → (g 0 = mT s n (k + 1) ∧ g 1 = ly ∧ g 2 = qIx (mT s n) S.nh S.hn (k + 3) ∧ g 3 = (if kT s n ws (k + 4) = 19 then 1 else 0) ∧ g 4 = (if ly = 0 then 1 else nT s n (j1 + 1)) ∧ g 5 = (if ly = 0 then 0 else nT s n (j1 + 3)) ∧ g 6 = (if qHa (kT s n ws) ly r4.2.1 = true then nT s n (r4.2.1 + 1) else 0) ∧ g 7 = (if qHa (kT s n ws) ly r4.2.1 = true then nT s n (r4.2.1 + 3) else 0)) → PtM x r4 D4 → r4.2.2.1 ≤ 11 → (r6.2.2 = [] → D4 233 (x : Int) = -1) → (r6.2.2 ≠ [] → D4 233 (x : Int) = ((1600 * nx + c : Nat) : Int) ∧ OpL (D4 234) (D4 235) ((1600 * nx + c : Nat) : Int) r6.2.2 ∧ D4 234 ((1600 * nx + c + r6.2.2.length : Nat) : Int) = 0) → D4 210 30 = ((c + (if r6.2.2 = [] then 0 else r6.2.2.length + 1) : Nat) : Int) → FrT nx x c D D4 → StM s ws n nx (qTr (kT s n ws) (nT s n) (mT s n) (pT2 s n) ly k S).2.2 (aUp D4 221 (nx : Int) ((S.nt + 1 : Nat) : Int)) := fun hrw hg hpt h11 w0 w1 h30 hfr => by
    refine StM_add (N := N) (ly := ly) (k := k) (x := x) hI hS (by omega) hx (by rw [hc]; exact hfr) hrw (by rw [hr4, hj1]; exact hg) (by rw [hr4]; exact hpt) (by rw [hr4]; exact h11) (by rw [hr6]; exact w0) (by rw [hr6, hc]; exact w1) (by rw [hr6, hc]; exact h30)
  -- the end
  have atE : F = 0 → ∀ D4 : Nat → Int → Int, AtM s ws n N nx r6.2.1 S D4 → FrT nx x c D D4 → StM s ws n nx (qTr (kT s n ws) (nT s n) (mT s n) (pT2 s n) ly k S).2.2 (aUp D4 221 (nx : Int) ((S.nt + 1 : Nat) : Int)) → V G l (d + 24) iX12_readTreaty 305 [rf 210, (0, (x : Int))] [] (K, D4, z) P := by
    intro hF D4 hAE hf4 hS4
    obtain ⟨hH4, h84, h74, hkN4, hnx4, hM4⟩ := id hAE
    have fN : ∀ v : Int, FrN nx D (aUp D4 221 (nx : Int) v) := fun v => FrN_trans (FrT_N hxx hf4) (FrN_up (by decide) ⟨by show 1 * (nx : Int) ≤ _; omega, by show _ < 1 * (nx : Int) + 1; omega⟩)
    have fin : ∀ v : Int, (kT s n ws r6.2.1 = 11 → v = ((S.nt + 1 : Nat) : Int)) → P 0 (K, aUp D4 221 (nx : Int) v, z) := fun v hv => kk _ ⟨fN v, fun _ => ⟨by rw [aUp_row (by decide)]; exact h84, by rw [aUp_row (by decide)]; exact h74, hkN4, fun y => by rw [hv y]; exact hS4⟩, fun q => absurd hF q⟩
    refine s_al0 rfl ?_
    refine s_gf rfl (hk.at rfl rfl) rfl rfl ?_
    refine s_al0 rfl ?_
    refine s_gi rfl (hk.at rfl rfl) rfl ?_
    rw [hnx4]
    refine s_dup2 rfl rfl rfl ?_
    refine s_iald rfl (hk.at rfl rfl) (by omega) ?_
    rw [hM4.2.2.1]
    refine s_al0 rfl ?_
    refine s_gi rfl (hk.at rfl rfl) rfl ?_
    rw [h84]
    refine s_zne rfl ?_ ?_
    · intro h319
      exact absurd rfl h319
    · intro h319
      refine s_al0 rfl ?_
      refine s_ic rfl ?_
      refine s_callO rfl rfl (Or.inl rfl) rfl rfl (hk.at rfl rfl) (u_isSign (c := 59) hk hH4 h84 h74 hkN4 (by decide) ?_)
      show V G l (d + 24) iX12_readTreaty 328 [rf 210, (0, (x : Int))] [(0, if kT s n ws r6.2.1 = 11 then 1 else 0), (0, ((S.nt : Nat) : Int)), (0, (nx : Int)), rf 221] (K, D4, z) P
      generalize hcc : (if kT s n ws r6.2.1 = 11 then (1 : Int) else 0) = cc
      refine s_zeq rfl ?_ ?_
      · intro h328
        have e11 : ¬ kT s n ws r6.2.1 = 11 := fun q => by rw [if_pos q] at hcc; omega
        refine s_ic rfl ?_
        refine s_iadd rfl ⟨by omega, by omega⟩ ?_
        refine s_iast rfl (hk.at rfl rfl) (by omega) ?_
        refine s_retv rfl rfl ?_
        first | exact fin _ (fun _ => rfl) | exact fin _ (fun q => absurd q e11)
      · intro h328
        have e11 : kT s n ws r6.2.1 = 11 := Decidable.byContradiction fun q => by rw [if_neg q] at hcc; omega
        refine s_ic rfl ?_
        refine s_go rfl ?_
        refine s_iadd rfl ⟨by omega, by omega⟩ ?_
        refine s_iast rfl (hk.at rfl rfl) (by omega) ?_
        refine s_retv rfl rfl ?_
        first | exact fin _ (fun _ => rfl) | exact fin _ (fun q => absurd q e11)
  have atD : r6.1 = F → r4.2.2.1 ≤ 11 → ∀ (D1 : Nat → Int → Int) (g : Nat → Int) (k5 : Nat), k5 = qT5 (kT s n ws) ly r4.2.1 → k ≤ k5 → AlM s ws n N nx x c k5 S g D D1 → PtM x r4 D1 → (g 0 = mT s n (k + 1) ∧ g 1 = ly ∧ g 2 = qIx (mT s n) S.nh S.hn (k + 3) ∧ g 3 = (if kT s n ws (k + 4) = 19 then 1 else 0) ∧ g 4 = (if ly = 0 then 1 else nT s n (j1 + 1)) ∧ g 5 = (if ly = 0 then 0 else nT s n (j1 + 3)) ∧ g 6 = (if qHa (kT s n ws) ly r4.2.1 = true then nT s n (r4.2.1 + 1) else 0) ∧ g 7 = (if qHa (kT s n ws) ly r4.2.1 = true then nT s n (r4.2.1 + 3) else 0)) → V G l (d + 24) iX12_readTreaty 259 [rf 210, (0, (x : Int))] [] (K, D1, z) P := by
    intro hF h11 D1 g k5 hk5 hkk5 B1 hP1 hg
    rw [← hk5] at hr6'
    have cok := cd_ok (kd := (kT s n ws)) (nu := nT s n) (pl := pT2 s n) (k := k5) hpl hnu h32 b3 B1.1.2.2.2.1
    rw [hr6'] at cok
    have B2 := AlM_o (v := -1) B1 (show 230 ≤ 233 by decide) (FrT_up (by decide))
    have hP2 : PtM x r4 (aUp D1 233 (x : Int) (-1)) := PtM_keep hP1 (fun q q1 q2 => aUp_row (by omega))
    have w2 : aUp D1 233 (x : Int) (-1) 233 (x : Int) = -1 := aUp_at
    refine s_al0 rfl ?_
    refine s_gf rfl (hk.at rfl rfl) rfl rfl ?_
    refine s_il1 rfl ?_
    refine s_ic rfl ?_
    refine s_iast rfl (hk.at rfl rfl) (by omega) ?_
    obtain ⟨D2, hD2⟩ : ∃ X, aUp D1 233 (x : Int) (-1) = X := ⟨_, rfl⟩
    rw [hD2] at B2 hP2 w2 ⊢
    refine s_al0 rfl ?_
    refine s_ic rfl ?_
    refine s_callO rfl rfl (Or.inl rfl) rfl rfl (hk.at rfl rfl) (u_hasWord (w := 10) hk B2.1.1 B2.1.2.1 B2.1.2.2.1 B2.1.2.2.2.1 (by decide) (fun y => ?_) (fun y => ?_))
    rotate_left
    · have y : ¬ kT s n ws k5 = 20 := y
      show V G l (d + 24) iX12_readTreaty 272 [rf 210, (0, (x : Int))] [(0, 0)] (K, D2, z) P
      have e : r6 = (0, k5, []) := by rw [← hr6']; exact if_neg y
      refine s_zeq rfl (fun _ => ?_) (fun q => absurd rfl q)
      refine atE (by rw [← hF, e]) D2 (by rw [e]; exact B2.1) B2.2.1 (e6 B2.2.2.1 hg hP2 h11 (fun _ => w2) (fun q => absurd (by rw [e]) q) (by rw [e]; exact B2.2.2.2) B2.2.1)
    have y : kT s n ws k5 = 20 := y
    have e : chE (kT s n ws) (vaE (kT s n ws) (nT s n) (pT2 s n) 4) 3 (k5 + 1) = r6 := by rw [← hr6']; exact (if_pos y).symm
    have hN3 : k5 + 1 ≤ N := tk_nx (kd := kT s n ws) b3 B2.1.2.2.2.1 (by omega)
    have B3 := AlM_to B2 hN3
    rw [show ((k5 : Nat) : Int) + 1 = ((k5 + 1 : Nat) : Int) from rfl]
    obtain ⟨D3, hD3⟩ : ∃ X, aUp D2 210 7 ((k5 + 1 : Nat) : Int) = X := ⟨_, rfl⟩
    rw [hD3] at B3 ⊢
    have hP3 : PtM x r4 D3 := PtM_keep hP2 (fun q q1 q2 => by rw [← hD3, aUp_row (by omega)])
    show V G l (d + 24) iX12_readTreaty 272 [rf 210, (0, (x : Int))] [(0, 1)] (K, D3, z) P
    refine s_zeq rfl ?_ ?_
    · intro h272
      exact absurd h272 (by decide)
    · intro h272
      refine s_al0 rfl ?_
      refine s_gf rfl (hk.at rfl rfl) rfl rfl ?_
      refine s_il1 rfl ?_
      refine s_ic rfl ?_
      refine s_al0 rfl ?_
      refine s_gi rfl (hk.at rfl rfl) rfl ?_
      rw [B3.1.2.2.2.2.1]
      refine s_imul rfl ⟨by omega, by omega⟩ ?_
      refine s_al0 rfl ?_
      refine s_gi rfl (hk.at rfl rfl) rfl ?_
      rw [B3.2.2.2]
      refine s_iadd rfl ⟨by omega, by omega⟩ ?_
      rw [show 1600 * (nx : Int) + ((c : Nat) : Int) = ((1600 * nx + c : Nat) : Int) by omega]
      refine s_iast rfl (hk.at rfl rfl) (by omega) ?_
      have B4 := AlM_o (v := ((1600 * nx + c : Nat) : Int)) B3 (show 230 ≤ 233 by decide) (FrT_up (by decide))
      have hP4 : PtM x r4 (aUp D3 233 (x : Int) ((1600 * nx + c : Nat) : Int)) := PtM_keep hP3 (fun q q1 q2 => aUp_row (by omega))
      have w4 : aUp D3 233 (x : Int) ((1600 * nx + c : Nat) : Int) 233 (x : Int) = ((1600 * nx + c : Nat) : Int) := aUp_at
      obtain ⟨D4, hD4⟩ : ∃ X, aUp D3 233 (x : Int) ((1600 * nx + c : Nat) : Int) = X := ⟨_, rfl⟩
      rw [hD4] at B4 hP4 w4 ⊢
      refine s_al0 rfl ?_
      refine s_ic rfl ?_
      refine s_callO rfl rfl (Or.inl rfl) rfl rfl (hk.at rfl rfl) (u_cond (z := z) hk hx2 b3 hpl hnu (d + 23) (by omega) _ D4 (k5 + 1) c B4.1.1 B4.1.2.2.2.2.1 B4.1.2.1 B4.1.2.2.1 B4.1.2.2.2.1 B4.2.2.2 (by omega) (fun D5 hX => ?_))
      rw [e] at hX
      show V G l (d + 24) iX12_readTreaty 299 [rf 210, (0, (x : Int))] [] (K, D5, z) P
      refine s_al0 rfl ?_
      refine s_ic rfl ?_
      refine s_ic rfl ?_
      have hn5 : D5 210 11 = (nx : Nat) := by rw [hX.1.2.1 11 (by decide) (by decide) (by decide)]; exact B4.1.2.2.2.2.1
      have f5 : FrT nx x c D D5 := FrT_trans B4.2.1 (FrT_K hX.1)
      by_cases v0 : r6.1 = 0
      · obtain ⟨y8, y7, y30, yo⟩ := hX.2.1 v0
        obtain ⟨z1, z2, z3⟩ := cok.2 v0
        rcases z3 with ⟨z3, -, z4⟩ | ⟨-, z3, z4, z5, z6⟩
        · exact absurd y z4
        have c16 : c + r6.2.2.length < 1600 := by omega
        refine s_callO rfl rfl (Or.inl rfl) rfl rfl (hk.at rfl rfl) (u_emit hk hn5 hx2 y30 c16 ?_)
        show V G l (d + 24) iX12_readTreaty 305 [rf 210, (0, (x : Int))] [] (K, _, z) P
        have fe : FrK nx c D5 (emU nx (c + r6.2.2.length) 0 0 D5) := FrK_em (by omega) c16
        have f6 : FrT nx x c D (emU nx (c + r6.2.2.length) 0 0 D5) := FrT_trans f5 (FrT_K fe)
        have row : ∀ q, q ≠ 210 → q ≠ 234 → q ≠ 235 → emU nx (c + r6.2.2.length) 0 0 D5 q = D4 q := fun q q1 q2 q3 => by rw [em_row q1 q2 q3, hX.1.1 q q1 q2 q3]
        have a6 : AtM s ws n N nx r6.2.1 S (emU nx (c + r6.2.2.length) 0 0 D5) := ⟨FrK_RfH fe (FrK_RfH hX.1 B4.1.1), by rw [em_210 (by decide)]; exact y8, by rw [em_210 (by decide)]; exact y7, z2, by rw [em_210 (by decide)]; exact hn5, NmM_keep B4.1.2.2.2.2.2 (row _ (by decide) (by decide) (by decide)) (row _ (by decide) (by decide) (by decide)) (row _ (by decide) (by decide) (by decide)) (row _ (by decide) (by decide) (by decide))⟩
        refine atE (by rw [← hF, v0]) (emU nx (c + r6.2.2.length) 0 0 D5) a6 f6 (e6 (D4 := emU nx (c + r6.2.2.length) 0 0 D5) (fun j hj => by rw [row _ (by omega) (by omega) (by omega)]; exact B4.2.2.1 j hj) hg (PtM_keep hP4 (fun q q1 q2 => row q (by omega) (by omega) (by omega))) h11 (fun q => absurd q z5) (fun _ => ⟨by rw [row 233 (by decide) (by decide) (by decide)]; exact w4, ?_, ?_⟩) ?_ f6)
        · rw [em_234, em_235]
          exact OpL_congr (fun j j1 j2 => ⟨uF_ne (by omega), uF_ne (by omega)⟩) yo
        · rw [em_234, show ((1600 * nx + c + r6.2.2.length : Nat) : Int) = ((1600 * nx + (c + r6.2.2.length) : Nat) : Int) by omega, uF_at]
        · rw [em_30, if_neg z5]; rfl
      · obtain ⟨y8, y7, c', y30, yc, ym⟩ := hX.2.2 v0
        have p0 := cok.1
        have hF0 : 0 < F := by omega
        refine s_callO rfl rfl (Or.inl rfl) rfl rfl (hk.at rfl rfl) (u_emit hk hn5 hx2 y30 (by omega) ?_)
        show V G l (d + 24) iX12_readTreaty 305 [rf 210, (0, (x : Int))] [] (K, _, z) P
        have fe : FrK nx c D5 (emU nx c' 0 0 D5) := FrK_em yc (by omega)
        exact (dead hF0 _ ⟨FrT_N hxx (FrT_trans f5 (FrT_K fe)), by rw [em_210 (by decide), y8]; exact hF, by rw [em_210 (by decide)]; exact y7, by rw [em_210 (by decide)]; exact hn5, by rw [em_row (by decide) (by decide) (by decide), hX.1.1 221 (by decide) (by decide) (by decide)]; exact B4.1.2.2.2.2.2.2.2.1⟩).1
  have atC : qFo (qA5 (kT s n ws) (nT s n) (pT2 s n) ly r4.2.1) r6.1 = F → r4.2.2.1 ≤ 11 → k ≤ r4.2.1 → ∀ (D1 : Nat → Int → Int) (g : Nat → Int), AlM s ws n N nx x c r4.2.1 S g D D1 → PtM x r4 D1 → (g 0 = mT s n (k + 1) ∧ g 1 = ly ∧ g 2 = qIx (mT s n) S.nh S.hn (k + 3) ∧ g 3 = (if kT s n ws (k + 4) = 19 then 1 else 0) ∧ g 4 = (if ly = 0 then 1 else nT s n (j1 + 1)) ∧ g 5 = (if ly = 0 then 0 else nT s n (j1 + 3))) → V G l (d + 24) iX12_readTreaty 191 [rf 210, (0, (x : Int))] [] (K, D1, z) P := by
    intro hF h11 hkk4 D1 g B1 hP1 hg
    obtain ⟨k4, hk4⟩ : ∃ X, r4.2.1 = X := ⟨_, rfl⟩
    rw [hk4] at hF hkk4 B1 atD
    obtain ⟨hg0, hg1, hg2, hg3, hg4, hg5⟩ := hg
    have non : qHa (kT s n ws) ly k4 = false → ∀ (D9 : Nat → Int → Int) (g' : Nat → Int), AlM s ws n N nx x c k4 S g' D D9 → PtM x r4 D9 → g' 0 = g 0 ∧ g' 1 = g 1 ∧ g' 2 = g 2 ∧ g' 3 = g 3 ∧ g' 4 = g 4 ∧ g' 5 = g 5 ∧ g' 6 = 0 ∧ g' 7 = 0 → V G l (d + 24) iX12_readTreaty 259 [rf 210, (0, (x : Int))] [] (K, D9, z) P := by
      intro hno D9 g' B9 hP9 ⟨u0, u1, u2, u3, u4, u5, u6, u7⟩
      have nt : ¬ qHa (kT s n ws) ly k4 = true := by rw [hno]; decide
      have ea : qA5 (kT s n ws) (nT s n) (pT2 s n) ly k4 = 0 := if_neg nt
      have et : qT5 (kT s n ws) ly k4 = k4 := if_neg nt
      rw [ea, qFo_r rfl] at hF
      exact atD hF h11 D9 g' k4 et.symm hkk4 B9 hP9 ⟨u0.trans hg0, u1.trans hg1, u2.trans hg2, u3.trans hg3, u4.trans hg4, u5.trans hg5, by rw [if_neg nt]; exact u6, by rw [if_neg nt]; exact u7⟩
    refine s_al0 rfl ?_
    refine s_gf rfl (hk.at rfl rfl) rfl rfl ?_
    refine s_il1 rfl ?_
    refine s_ic rfl ?_
    refine s_iast rfl (hk.at rfl rfl) (by omega) ?_
    have B2 := AlM_st (r := 228) (j := 6) (v := 0) B1 rfl (by decide)
    obtain ⟨D2, hD2⟩ : ∃ X, aUp D1 228 (x : Int) (0) = X := ⟨_, rfl⟩
    rw [hD2] at B2 ⊢
    have hP2 : PtM x r4 D2 := PtM_keep hP1 (fun q q1 q2 => by rw [← hD2, aUp_row (by omega)])
    refine s_al0 rfl ?_
    refine s_gf rfl (hk.at rfl rfl) rfl rfl ?_
    refine s_il1 rfl ?_
    refine s_ic rfl ?_
    refine s_iast rfl (hk.at rfl rfl) (by omega) ?_
    have B3 := AlM_st (r := 229) (j := 7) (v := 0) B2 rfl (by decide)
    obtain ⟨D3, hD3⟩ : ∃ X, aUp D2 229 (x : Int) (0) = X := ⟨_, rfl⟩
    rw [hD3] at B3 ⊢
    have hP3 : PtM x r4 D3 := PtM_keep hP2 (fun q q1 q2 => by rw [← hD3, aUp_row (by omega)])
    have ely : D3 223 (x : Int) = ly := (B3.2.2.1 1 (by decide)).trans hg1
    refine s_al0 rfl ?_
    refine s_gf rfl (hk.at rfl rfl) rfl rfl ?_
    refine s_il1 rfl ?_
    refine s_bald rfl (hk.at rfl rfl) (by omega) ?_
    rw [ely]
    refine s_zeq rfl ?_ ?_
    · intro h211
      exact non (decide_eq_false (fun q => q.1 h211)) D3 _ B3 hP3 ⟨rfl, rfl, rfl, rfl, rfl, rfl, rfl, rfl⟩
    · intro h211
      refine s_al0 rfl ?_
      refine s_ic rfl ?_
      refine s_callO rfl rfl (Or.inl rfl) rfl rfl (hk.at rfl rfl) (u_hasWord (w := 12) hk B3.1.1 B3.1.2.1 B3.1.2.2.1 B3.1.2.2.2.1 (by decide) (fun y => ?_) (fun y => ?_))
      rotate_left
      · have y : ¬ kT s n ws k4 = 22 := y
        show V G l (d + 24) iX12_readTreaty 220 [rf 210, (0, (x : Int))] [(0, 0)] (K, D3, z) P
        refine s_zeq rfl (fun _ => ?_) (fun q => absurd rfl q)
        exact non (decide_eq_false (fun q => y q.2)) D3 _ B3 hP3 ⟨rfl, rfl, rfl, rfl, rfl, rfl, rfl, rfl⟩
      have y : kT s n ws k4 = 22 := y
      have yes : qHa (kT s n ws) ly k4 = true := decide_eq_true ⟨h211, y⟩
      have ea : qA5 (kT s n ws) (nT s n) (pT2 s n) ly k4 = qAg (kT s n ws) (nT s n) (pT2 s n) k4 := if_pos yes
      have et : qT5 (kT s n ws) ly k4 = k4 + 4 := if_pos yes
      rw [ea] at hF
      unfold qAg at hF
      rw [qFo_as, qFo_as] at hF
      have hN4 : k4 + 1 ≤ N := tk_nx (kd := kT s n ws) b3 B3.1.2.2.2.1 (by omega)
      have B4 := AlM_to B3 hN4
      rw [show ((k4 : Nat) : Int) + 1 = ((k4 + 1 : Nat) : Int) from rfl]
      obtain ⟨D4, hD4⟩ : ∃ X, aUp D3 210 7 ((k4 + 1 : Nat) : Int) = X := ⟨_, rfl⟩
      rw [hD4] at B4 ⊢
      have hP4 : PtM x r4 D4 := PtM_keep hP3 (fun q q1 q2 => by rw [← hD4, aUp_row (by omega)])
      show V G l (d + 24) iX12_readTreaty 220 [rf 210, (0, (x : Int))] [(0, 1)] (K, D4, z) P
      refine s_zeq rfl ?_ ?_
      · intro h220
        exact absurd h220 (by decide)
      · intro h220
        refine s_al0 rfl ?_
        refine s_gf rfl (hk.at rfl rfl) rfl rfl ?_
        refine s_il1 rfl ?_
        refine s_al0 rfl ?_
        refine s_lc rfl ?_
        refine s_lc rfl ?_
        refine s_callO rfl rfl (Or.inl rfl) rfl rfl (hk.at rfl rfl) (u_takeNumber hk B4.1.1 B4.1.2.1 B4.1.2.2.1 B4.1.2.2.2.1 (fun y => ?_) (fun y => ?_))
        rotate_left
        · show V G l (d + 24) iX12_readTreaty 236 [rf 210, (0, (x : Int))] ((1, 1) :: [(0, (x : Int)), rf 228]) (K, _, z) P
          rw [qFo_l y] at hF
          have hF0 : 0 < F := by have := qNm_nn (kd := kT s n ws) (nu := nT s n) (lo := 0) (hi := 9) (k := k4 + 1) hpl; omega
          rw [hF]
          refine s_l2i rfl ⟨by omega, by omega⟩ ?_
          refine s_iast rfl (hk.at rfl rfl) (by omega) ?_
          exact (dead hF0 _ (DdM_up hxx (AlM_dead hxx b2 B4) (by decide))).2.2.2.1
        rw [y, qFo_r rfl] at hF
        have y3 := (qNm_z (hpl (k4 + 1))).mp y
        have hN5 : k4 + 2 ≤ N := tk_nx (kd := kT s n ws) b3 B4.1.2.2.2.1 (by omega)
        have B5 := AlM_to B4 hN5
        rw [show ((k4 + 1 : Nat) : Int) + 1 = ((k4 + 2 : Nat) : Int) from rfl]
        obtain ⟨D5, hD5⟩ : ∃ X, aUp D4 210 7 ((k4 + 2 : Nat) : Int) = X := ⟨_, rfl⟩
        rw [hD5] at B5 ⊢
        show V G l (d + 24) iX12_readTreaty 236 [rf 210, (0, (x : Int))] ((1, nT s n (k4 + 1)) :: [(0, (x : Int)), rf 228]) (K, D5, z) P
        have hP5 : PtM x r4 D5 := PtM_keep hP4 (fun q q1 q2 => by rw [← hD5, aUp_row (by omega)])
        have ya := y3.2
        refine s_l2i rfl ⟨by omega, by omega⟩ ?_
        refine s_iast rfl (hk.at rfl rfl) (by omega) ?_
        have B6 := AlM_st (r := 228) (j := 6) (v := nT s n (k4 + 1)) B5 rfl (by decide)
        obtain ⟨D6, hD6⟩ : ∃ X, aUp D5 228 (x : Int) (nT s n (k4 + 1)) = X := ⟨_, rfl⟩
        rw [hD6] at B6 ⊢
        have hP6 : PtM x r4 D6 := PtM_keep hP5 (fun q q1 q2 => by rw [← hD6, aUp_row (by omega)])
        refine s_al0 rfl ?_
        refine s_ic rfl ?_
        refine s_callO rfl rfl (Or.inl rfl) rfl rfl (hk.at rfl rfl) (u_takeWord (w := 13) hk B6.1.1 B6.1.2.1 B6.1.2.2.1 B6.1.2.2.2.1 (by decide) (fun y => ?_) (fun y => ?_))
        rotate_left
        · show V G l (d + 24) iX12_readTreaty 244 [rf 210, (0, (x : Int))] [] (K, _, z) P
          have y : kT s n ws (k4 + 2) ≠ 23 := y
          have e := qTk_1 (pl := pT2 s n) y
          have hF0 := hpl (k4 + 2)
          rw [e, qFo_l (by omega)] at hF
          have hF0 : 0 < F := by omega
          rw [hF]
          exact (dead hF0 _ (AlM_dead hxx b2 B6)).2.2.1
        have y : kT s n ws (k4 + 2) = 23 := y
        have e := qTk_0 (pl := pT2 s n) y
        rw [e, qFo_r rfl] at hF
        have hN7 : k4 + 3 ≤ N := tk_nx (kd := kT s n ws) b3 B6.1.2.2.2.1 (by omega)
        have B7 := AlM_to B6 hN7
        rw [show ((k4 + 2 : Nat) : Int) + 1 = ((k4 + 3 : Nat) : Int) from rfl]
        obtain ⟨D7, hD7⟩ : ∃ X, aUp D6 210 7 ((k4 + 3 : Nat) : Int) = X := ⟨_, rfl⟩
        rw [hD7] at B7 ⊢
        show V G l (d + 24) iX12_readTreaty 244 [rf 210, (0, (x : Int))] [] (K, D7, z) P
        have hP7 : PtM x r4 D7 := PtM_keep hP6 (fun q q1 q2 => by rw [← hD7, aUp_row (by omega)])
        refine s_al0 rfl ?_
        refine s_gf rfl (hk.at rfl rfl) rfl rfl ?_
        refine s_il1 rfl ?_
        refine s_al0 rfl ?_
        refine s_lc rfl ?_
        refine s_lc rfl ?_
        refine s_callO rfl rfl (Or.inl rfl) rfl rfl (hk.at rfl rfl) (u_takeNumber hk B7.1.1 B7.1.2.1 B7.1.2.2.1 B7.1.2.2.2.1 (fun y => ?_) (fun y => ?_))
        rotate_left
        · show V G l (d + 24) iX12_readTreaty 257 [rf 210, (0, (x : Int))] ((1, 1) :: [(0, (x : Int)), rf 229]) (K, _, z) P
          rw [qFo_l y] at hF
          have hF0 : 0 < F := by have := qNm_nn (kd := kT s n ws) (nu := nT s n) (lo := 0) (hi := 999999) (k := k4 + 3) hpl; omega
          rw [hF]
          refine s_l2i rfl ⟨by omega, by omega⟩ ?_
          refine s_iast rfl (hk.at rfl rfl) (by omega) ?_
          exact (dead hF0 _ (DdM_up hxx (AlM_dead hxx b2 B7) (by decide))).2.1
        rw [y, qFo_r rfl] at hF
        have y3 := (qNm_z (hpl (k4 + 3))).mp y
        have hN8 : k4 + 4 ≤ N := tk_nx (kd := kT s n ws) b3 B7.1.2.2.2.1 (by omega)
        have B8 := AlM_to B7 hN8
        rw [show ((k4 + 3 : Nat) : Int) + 1 = ((k4 + 4 : Nat) : Int) from rfl]
        obtain ⟨D8, hD8⟩ : ∃ X, aUp D7 210 7 ((k4 + 4 : Nat) : Int) = X := ⟨_, rfl⟩
        rw [hD8] at B8 ⊢
        show V G l (d + 24) iX12_readTreaty 257 [rf 210, (0, (x : Int))] ((1, nT s n (k4 + 3)) :: [(0, (x : Int)), rf 229]) (K, D8, z) P
        have hP8 : PtM x r4 D8 := PtM_keep hP7 (fun q q1 q2 => by rw [← hD8, aUp_row (by omega)])
        have ym := y3.2
        refine s_l2i rfl ⟨by omega, by omega⟩ ?_
        refine s_iast rfl (hk.at rfl rfl) (by omega) ?_
        have B9 := AlM_st (r := 229) (j := 7) (v := nT s n (k4 + 3)) B8 rfl (by decide)
        obtain ⟨D9, hD9⟩ : ∃ X, aUp D8 229 (x : Int) (nT s n (k4 + 3)) = X := ⟨_, rfl⟩
        rw [hD9] at B9 ⊢
        have hP9 : PtM x r4 D9 := PtM_keep hP8 (fun q q1 q2 => by rw [← hD9, aUp_row (by omega)])
        exact atD hF h11 D9 _ (k4 + 4) et.symm (by omega) B9 hP9 ⟨hg0, hg1, hg2, hg3, hg4, hg5, by rw [if_pos yes]; rfl, by rw [if_pos yes]; rfl⟩
  have atB : qFo r4.1 (qFo (qA5 (kT s n ws) (nT s n) (pT2 s n) ly r4.2.1) r6.1) = F → (0 ≤ qIx (mT s n) S.nh S.hn (k + 3) ∧ qIx (mT s n) S.nh S.hn (k + 3) < S.nh) → ∀ (D1 : Nat → Int → Int) (g : Nat → Int) (k3 : Nat), k3 = qT3 (kT s n ws) ly k → k ≤ k3 → AlM s ws n N nx x c k3 S g D D1 → (g 0 = mT s n (k + 1) ∧ g 1 = ly ∧ g 2 = qIx (mT s n) S.nh S.hn (k + 3) ∧ g 3 = (if kT s n ws (k + 4) = 19 then 1 else 0) ∧ g 4 = (if ly = 0 then 1 else nT s n (j1 + 1)) ∧ g 5 = (if ly = 0 then 0 else nT s n (j1 + 3))) → V G l (d + 24) iX12_readTreaty 162 [rf 210, (0, (x : Int))] [] (K, D1, z) P := by
    intro hF how D1 g k3 hk3 hkk3 B1 hg
    rw [← hk3] at hr4'
    have pok := ps_ok (kd := (kT s n ws)) (nu := nT s n) (nm := mT s n) (pl := pT2 s n) (N := N) (nh := S.nh) (hn := S.hn) (own := qIx (mT s n) S.nh S.hn (k + 3)) (k := k3) hpl b3 h12 how B1.1.2.2.2.1
    rw [hr4'] at pok
    have hr4' : qLp (kT s n ws) (nT s n) (mT s n) (pT2 s n) S.nh S.hn (qIx (mT s n) S.nh S.hn (k + 3)) 12 (qPt (kT s n ws) (nT s n) (mT s n) (pT2 s n) S.nh S.hn (qIx (mT s n) S.nh S.hn (k + 3)) k3 (qP0 k3)) = r4 := hr4'
    have bad : ∀ (r : PT5) (f : Nat) (D9 D' : Nat → Int → Int) (k9 : Nat), AlM s ws n N nx x c k9 S g D D9 → qLp (kT s n ws) (nT s n) (mT s n) (pT2 s n) S.nh S.hn (qIx (mT s n) S.nh S.hn (k + 3)) f r = r4 → 0 < r.1 → Fr7 D9 D' → D' 210 8 = r.1 → 0 ≤ D' 210 7 → D' 210 7 ≤ 1500 → V G l (d + 24) iX12_readTreaty 174 [rf 210, (0, (x : Int))] [] (K, D', z) P := by
      intro r f D9 D' k9 B9 he h0 q1 q2 q3 q4
      have er : qLp (kT s n ws) (nT s n) (mT s n) (pT2 s n) S.nh S.hn (qIx (mT s n) S.nh S.hn (k + 3)) f r = r := by
        cases f with
        | zero => rfl
        | succ f => rw [qLp, if_neg (fun q => by omega)]
      rw [er] at he
      subst he
      rw [qFo_l (by omega)] at hF
      have hF0 : 0 < F := by omega
      exact (dead hF0 _ (Dd7 hxx B9 q1 (q2.trans hF) q3 q4)).2.2.2.2.1
    have own : ∀ {D9 : Nat → Int → Int} {k9 : Nat}, AlM s ws n N nx x c k9 S g D D9 → D9 224 (x : Int) = qIx (mT s n) S.nh S.hn (k + 3) := fun B => (B.2.2.1 2 (by decide)).trans hg.2.2.1
    have loop : ∀ (f : Nat) (r : PT5) (D9 : Nat → Int → Int), r.1 = 0 → PtI S.nh (qIx (mT s n) S.nh S.hn (k + 3)) r → 13 ≤ r.2.2.1 + f → qLp (kT s n ws) (nT s n) (mT s n) (pT2 s n) S.nh S.hn (qIx (mT s n) S.nh S.hn (k + 3)) f r = r4 → k ≤ r.2.1 → AlM s ws n N nx x c r.2.1 S g D D9 → PtM x r D9 → V G l (d + 24) iX12_readTreaty 174 [rf 210, (0, (x : Int))] [] (K, D9, z) P := by
      intro f
      induction f with
      | zero =>
        intro r D9 r0 hI9 h13 he hkr B9 hP9
        have := PtI_many hI9 h12 how
        omega
      | succ f ih =>
        intro r D9 r0 hI9 h13 he hkr B9 hP9
        have h11 := PtI_many hI9 h12 how
        rw [qLp] at he
        obtain ⟨k9, hk9⟩ : ∃ X, r.2.1 = X := ⟨_, rfl⟩
        rw [hk9] at B9 hkr he
        refine s_al0 rfl ?_
        refine s_ic rfl ?_
        refine s_callO rfl rfl (Or.inl rfl) rfl rfl (hk.at rfl rfl) (u_hasWord (w := 8) hk B9.1.1 B9.1.2.1 B9.1.2.2.1 B9.1.2.2.2.1 (by decide) (fun y => ?_) (fun y => ?_))
        rotate_left
        · have y : ¬ kT s n ws k9 = 25 := y
          show V G l (d + 24) iX12_readTreaty 180 [rf 210, (0, (x : Int))] [(0, 0)] (K, D9, z) P
          rw [if_neg (fun q => y q.2)] at he
          refine s_zeq rfl (fun _ => ?_) (fun q => absurd rfl q)
          subst he
          rw [hk9] at atC hF
          rw [r0, qFo_r rfl] at hF
          exact atC hF h11 hkr D9 g B9 hP9 hg
        have y : kT s n ws k9 = 25 := y
        rw [if_pos ⟨r0, y⟩] at he
        have hN10 : k9 + 1 ≤ N := tk_nx (kd := kT s n ws) b3 B9.1.2.2.2.1 (by omega)
        have B10 := AlM_to B9 hN10
        rw [show ((k9 : Nat) : Int) + 1 = ((k9 + 1 : Nat) : Int) from rfl]
        obtain ⟨D10, hD10⟩ : ∃ X, aUp D9 210 7 ((k9 + 1 : Nat) : Int) = X := ⟨_, rfl⟩
        rw [hD10] at B10 ⊢
        have hP10 : PtM x r D10 := PtM_keep hP9 (fun q q1 q2 => by rw [← hD10, aUp_row (by omega)])
        show V G l (d + 24) iX12_readTreaty 180 [rf 210, (0, (x : Int))] [(0, 1)] (K, D10, z) P
        refine s_zeq rfl ?_ ?_
        · intro h180
          exact absurd h180 (by decide)
        · intro h180
          refine s_al0 rfl ?_
          refine s_il1 rfl ?_
          refine s_callO rfl rfl (Or.inl rfl) rfl rfl (hk.at rfl rfl) (u_readPart (x := x) hk hx2 B10.1 h12 h24 hdi (by omega) (own B10) how hP10 hI9 hnu (fun y1 y2 => ?_) (fun y1 D' q1 q2 q3 q4 => ?_))
          rotate_left
          · show V G l (d + 24) iX12_readTreaty 188 [rf 210, (0, (x : Int))] [] (K, D', z) P
            refine s_go rfl ?_
            exact bad (qPt (kT s n ws) (nT s n) (mT s n) (pT2 s n) S.nh S.hn (qIx (mT s n) S.nh S.hn (k + 3)) (k9 + 1) r) f D10 D' _ B10 he y1 q1 q2 q3 q4
          have pa := Pt_add (own := qIx (mT s n) S.nh S.hn (k + 3)) B10 hP10 y2 (by omega)
          show V G l (d + 24) iX12_readTreaty 188 [rf 210, (0, (x : Int))] [] (K, _, z) P
          refine s_go rfl ?_
          exact ih (qPt (kT s n ws) (nT s n) (mT s n) (pT2 s n) S.nh S.hn (qIx (mT s n) S.nh S.hn (k + 3)) (k9 + 1) r) _ y1 (pt_ok hpl hI9 y1) (by show 13 ≤ r.2.2.1 + 1 + f; omega) he (by show k ≤ k9 + 1 + 3; omega) pa.1 pa.2
    refine s_al0 rfl ?_
    refine s_gf rfl (hk.at rfl rfl) rfl rfl ?_
    refine s_il1 rfl ?_
    refine s_ic rfl ?_
    refine s_iast rfl (hk.at rfl rfl) (by omega) ?_
    have B2 := AlM_o (v := 0) B1 (show 230 ≤ 230 by decide) (FrT_up (by decide))
    have hP2 : PtM x (qP0 k3) (aUp D1 230 (x : Int) 0) := ⟨aUp_at, fun i hi => absurd hi (Nat.not_lt_zero i)⟩
    obtain ⟨D2, hD2⟩ : ∃ X, aUp D1 230 (x : Int) 0 = X := ⟨_, rfl⟩
    rw [hD2] at B2 hP2 ⊢
    have i0 : PtI S.nh (qIx (mT s n) S.nh S.hn (k + 3)) (qP0 k3) := ⟨fun i hi => absurd hi (Nat.not_lt_zero i), fun i j _ hj => absurd hj (Nat.not_lt_zero j), by show (0 : Int) ≤ 1000; omega⟩
    refine s_al0 rfl ?_
    refine s_il1 rfl ?_
    refine s_callO rfl rfl (Or.inl rfl) rfl rfl (hk.at rfl rfl) (u_readPart (x := x) hk hx2 B2.1 h12 h24 hdi (by omega) (own B2) how hP2 i0 hnu (fun y1 y2 => ?_) (fun y1 D' q1 q2 q3 q4 => ?_))
    rotate_left
    · exact bad (qPt (kT s n ws) (nT s n) (mT s n) (pT2 s n) S.nh S.hn (qIx (mT s n) S.nh S.hn (k + 3)) k3 (qP0 k3)) 12 D2 D' _ B2 hr4' y1 q1 q2 q3 q4
    have pa := Pt_add (own := qIx (mT s n) S.nh S.hn (k + 3)) B2 hP2 y2 (by show 0 < 12; omega)
    exact loop 12 (qPt (kT s n ws) (nT s n) (mT s n) (pT2 s n) S.nh S.hn (qIx (mT s n) S.nh S.hn (k + 3)) k3 (qP0 k3)) _ y1 (pt_ok hpl i0 y1) (by show 13 ≤ 0 + 1 + 12; omega) hr4' (by show k ≤ k3 + 3; omega) pa.1 pa.2
  have at97 : qFo (qTk (kT s n ws) (pT2 s n) 10 j1) (qFo (if ly = 0 then 0 else qLm (kT s n ws) (nT s n) (pT2 s n) (j1 + 1)) (qFo r4.1 (qFo (qA5 (kT s n ws) (nT s n) (pT2 s n) ly r4.2.1) r6.1))) = F → (0 ≤ qIx (mT s n) S.nh S.hn (k + 3) ∧ qIx (mT s n) S.nh S.hn (k + 3) < S.nh) → k ≤ j1 → ∀ (D1 : Nat → Int → Int) (g : Nat → Int), AlM s ws n N nx x c j1 S g D D1 → (g 0 = mT s n (k + 1) ∧ g 1 = ly ∧ g 2 = qIx (mT s n) S.nh S.hn (k + 3) ∧ g 3 = (if kT s n ws (k + 4) = 19 then 1 else 0)) → V G l (d + 24) iX12_readTreaty 97 [rf 210, (0, (x : Int))] [] (K, D1, z) P := by
    intro hF how hkj D1 g B1 ⟨hg0, hg1, hg2, hg3⟩
    refine s_al0 rfl ?_
    refine s_ic rfl ?_
    refine s_callO rfl rfl (Or.inl rfl) rfl rfl (hk.at rfl rfl) (u_takeSign (c := 58) hk B1.1.1 B1.1.2.1 B1.1.2.2.1 B1.1.2.2.2.1 (by decide) (fun y => ?_) (fun y => ?_))
    rotate_left
    · show V G l (d + 24) iX12_readTreaty 103 [rf 210, (0, (x : Int))] [] (K, _, z) P
      have y : kT s n ws (j1) ≠ 10 := y
      have e := qTk_1 (pl := pT2 s n) y
      have hF0 := hpl (j1)
      rw [e, qFo_l (by omega)] at hF
      have hF0 : 0 < F := by omega
      rw [hF]
      exact (dead hF0 _ (AlM_dead hxx b2 B1)).2.2.2.2.2.2.2.2.1
    have y : kT s n ws (j1) = 10 := y
    have e := qTk_0 (pl := pT2 s n) y
    rw [e, qFo_r rfl] at hF
    have hN2 : j1 + 1 ≤ N := tk_nx (kd := kT s n ws) b3 B1.1.2.2.2.1 (by omega)
    have B2 := AlM_to B1 hN2
    rw [show ((j1 : Nat) : Int) + 1 = ((j1 + 1 : Nat) : Int) from rfl]
    obtain ⟨D2, hD2⟩ : ∃ X, aUp D1 210 7 ((j1 + 1 : Nat) : Int) = X := ⟨_, rfl⟩
    rw [hD2] at B2 ⊢
    show V G l (d + 24) iX12_readTreaty 103 [rf 210, (0, (x : Int))] [] (K, D2, z) P
    refine s_al0 rfl ?_
    refine s_gf rfl (hk.at rfl rfl) rfl rfl ?_
    refine s_il1 rfl ?_
    refine s_ic rfl ?_
    refine s_iast rfl (hk.at rfl rfl) (by omega) ?_
    have B3 := AlM_st (r := 226) (j := 4) (v := 1) B2 rfl (by decide)
    obtain ⟨D3, hD3⟩ : ∃ X, aUp D2 226 (x : Int) (1) = X := ⟨_, rfl⟩
    rw [hD3] at B3 ⊢
    refine s_al0 rfl ?_
    refine s_gf rfl (hk.at rfl rfl) rfl rfl ?_
    refine s_il1 rfl ?_
    refine s_ic rfl ?_
    refine s_iast rfl (hk.at rfl rfl) (by omega) ?_
    have B4 := AlM_st (r := 227) (j := 5) (v := 0) B3 rfl (by decide)
    obtain ⟨D4, hD4⟩ : ∃ X, aUp D3 227 (x : Int) (0) = X := ⟨_, rfl⟩
    rw [hD4] at B4 ⊢
    have ely : D4 223 (x : Int) = ly := (B4.2.2.1 1 (by decide)).trans hg1
    refine s_al0 rfl ?_
    refine s_gf rfl (hk.at rfl rfl) rfl rfl ?_
    refine s_il1 rfl ?_
    refine s_bald rfl (hk.at rfl rfl) (by omega) ?_
    rw [ely]
    refine s_zeq rfl ?_ ?_
    · intro h123
      rw [if_pos h123, qFo_r rfl] at hF
      rw [if_pos h123] at eT3
      exact atB hF how D4 _ (j1 + 1) eT3.symm (by omega) B4 ⟨hg0, hg1, hg2, hg3, by rw [if_pos h123]; rfl, by rw [if_pos h123]; rfl⟩
    · intro h123
      rw [if_neg h123] at hF eT3
      unfold qLm at hF
      rw [qFo_as, qFo_as] at hF
      refine s_al0 rfl ?_
      refine s_gf rfl (hk.at rfl rfl) rfl rfl ?_
      refine s_il1 rfl ?_
      refine s_al0 rfl ?_
      refine s_lc rfl ?_
      refine s_lc rfl ?_
      refine s_callO rfl rfl (Or.inl rfl) rfl rfl (hk.at rfl rfl) (u_takeNumber hk B4.1.1 B4.1.2.1 B4.1.2.2.1 B4.1.2.2.2.1 (fun y => ?_) (fun y => ?_))
      rotate_left
      · show V G l (d + 24) iX12_readTreaty 139 [rf 210, (0, (x : Int))] ((1, 1) :: [(0, (x : Int)), rf 226]) (K, _, z) P
        rw [qFo_l y] at hF
        have hF0 : 0 < F := by have := qNm_nn (kd := kT s n ws) (nu := nT s n) (lo := 1) (hi := 999999) (k := j1 + 1) hpl; omega
        rw [hF]
        refine s_l2i rfl ⟨by omega, by omega⟩ ?_
        refine s_iast rfl (hk.at rfl rfl) (by omega) ?_
        exact (dead hF0 _ (DdM_up hxx (AlM_dead hxx b2 B4) (by decide))).2.2.2.2.2.2.2.1
      rw [y, qFo_r rfl] at hF
      have y3 := (qNm_z (hpl (j1 + 1))).mp y
      have hN5 : j1 + 2 ≤ N := tk_nx (kd := kT s n ws) b3 B4.1.2.2.2.1 (by omega)
      have B5 := AlM_to B4 hN5
      rw [show ((j1 + 1 : Nat) : Int) + 1 = ((j1 + 2 : Nat) : Int) from rfl]
      obtain ⟨D5, hD5⟩ : ∃ X, aUp D4 210 7 ((j1 + 2 : Nat) : Int) = X := ⟨_, rfl⟩
      rw [hD5] at B5 ⊢
      show V G l (d + 24) iX12_readTreaty 139 [rf 210, (0, (x : Int))] ((1, nT s n (j1 + 1)) :: [(0, (x : Int)), rf 226]) (K, D5, z) P
      have yl := y3.2
      refine s_l2i rfl ⟨by omega, by omega⟩ ?_
      refine s_iast rfl (hk.at rfl rfl) (by omega) ?_
      have B6 := AlM_st (r := 226) (j := 4) (v := nT s n (j1 + 1)) B5 rfl (by decide)
      obtain ⟨D6, hD6⟩ : ∃ X, aUp D5 226 (x : Int) (nT s n (j1 + 1)) = X := ⟨_, rfl⟩
      rw [hD6] at B6 ⊢
      refine s_al0 rfl ?_
      refine s_ic rfl ?_
      refine s_callO rfl rfl (Or.inl rfl) rfl rfl (hk.at rfl rfl) (u_takeWord (w := 11) hk B6.1.1 B6.1.2.1 B6.1.2.2.1 B6.1.2.2.2.1 (by decide) (fun y => ?_) (fun y => ?_))
      rotate_left
      · show V G l (d + 24) iX12_readTreaty 147 [rf 210, (0, (x : Int))] [] (K, _, z) P
        have y : kT s n ws (j1 + 2) ≠ 21 := y
        have e := qTk_1 (pl := pT2 s n) y
        have hF0 := hpl (j1 + 2)
        rw [e, qFo_l (by omega)] at hF
        have hF0 : 0 < F := by omega
        rw [hF]
        exact (dead hF0 _ (AlM_dead hxx b2 B6)).2.2.2.2.2.2.1
      have y : kT s n ws (j1 + 2) = 21 := y
      have e := qTk_0 (pl := pT2 s n) y
      rw [e, qFo_r rfl] at hF
      have hN7 : j1 + 3 ≤ N := tk_nx (kd := kT s n ws) b3 B6.1.2.2.2.1 (by omega)
      have B7 := AlM_to B6 hN7
      rw [show ((j1 + 2 : Nat) : Int) + 1 = ((j1 + 3 : Nat) : Int) from rfl]
      obtain ⟨D7, hD7⟩ : ∃ X, aUp D6 210 7 ((j1 + 3 : Nat) : Int) = X := ⟨_, rfl⟩
      rw [hD7] at B7 ⊢
      show V G l (d + 24) iX12_readTreaty 147 [rf 210, (0, (x : Int))] [] (K, D7, z) P
      refine s_al0 rfl ?_
      refine s_gf rfl (hk.at rfl rfl) rfl rfl ?_
      refine s_il1 rfl ?_
      refine s_al0 rfl ?_
      refine s_lc rfl ?_
      refine s_lc rfl ?_
      refine s_callO rfl rfl (Or.inl rfl) rfl rfl (hk.at rfl rfl) (u_takeNumber hk B7.1.1 B7.1.2.1 B7.1.2.2.1 B7.1.2.2.2.1 (fun y => ?_) (fun y => ?_))
      rotate_left
      · show V G l (d + 24) iX12_readTreaty 160 [rf 210, (0, (x : Int))] ((1, 1) :: [(0, (x : Int)), rf 227]) (K, _, z) P
        rw [qFo_l y] at hF
        have hF0 : 0 < F := by have := qNm_nn (kd := kT s n ws) (nu := nT s n) (lo := 0) (hi := 999999) (k := j1 + 3) hpl; omega
        rw [hF]
        refine s_l2i rfl ⟨by omega, by omega⟩ ?_
        refine s_iast rfl (hk.at rfl rfl) (by omega) ?_
        exact (dead hF0 _ (DdM_up hxx (AlM_dead hxx b2 B7) (by decide))).2.2.2.2.2.1
      rw [y, qFo_r rfl] at hF
      have y3 := (qNm_z (hpl (j1 + 3))).mp y
      have hN8 : j1 + 4 ≤ N := tk_nx (kd := kT s n ws) b3 B7.1.2.2.2.1 (by omega)
      have B8 := AlM_to B7 hN8
      rw [show ((j1 + 3 : Nat) : Int) + 1 = ((j1 + 4 : Nat) : Int) from rfl]
      obtain ⟨D8, hD8⟩ : ∃ X, aUp D7 210 7 ((j1 + 4 : Nat) : Int) = X := ⟨_, rfl⟩
      rw [hD8] at B8 ⊢
      show V G l (d + 24) iX12_readTreaty 160 [rf 210, (0, (x : Int))] ((1, nT s n (j1 + 3)) :: [(0, (x : Int)), rf 227]) (K, D8, z) P
      have yo := y3.2
      refine s_l2i rfl ⟨by omega, by omega⟩ ?_
      refine s_iast rfl (hk.at rfl rfl) (by omega) ?_
      have B9 := AlM_st (r := 227) (j := 5) (v := nT s n (j1 + 3)) B8 rfl (by decide)
      obtain ⟨D9, hD9⟩ : ∃ X, aUp D8 227 (x : Int) (nT s n (j1 + 3)) = X := ⟨_, rfl⟩
      rw [hD9] at B9 ⊢
      exact atB hF how D9 _ (j1 + 4) eT3.symm (by omega) B9 ⟨hg0, hg1, hg2, hg3, by rw [if_neg h123]; rfl, by rw [if_neg h123]; rfl⟩
  obtain ⟨g, hg⟩ : ∃ g : Nat → Int, RwM x g D := ⟨fun j => D (222 + j) (x : Int), fun _ _ => rfl⟩
  have B0 : AlM s ws n N nx x c k S g D D := ⟨hA, FrT_refl, hg, by rw [← hc]; exact hS.2.2.1⟩
  obtain ⟨D0, hD0⟩ : ∃ X, X = D := ⟨_, rfl⟩
  have B0 : AlM s ws n N nx x c k S g D D0 := by rw [hD0]; exact B0
  have go : V G l (d + 24) iX12_readTreaty 0 [rf 210, (9, 0)] [] (K, D0, z) P := by
    refine s_al0 rfl ?_
    refine s_gf rfl (hk.at rfl rfl) rfl rfl ?_
    refine s_al0 rfl ?_
    refine s_gi rfl (hk.at rfl rfl) rfl ?_
    rw [B0.1.2.2.2.2.1]
    refine s_iald rfl (hk.at rfl rfl) (by omega) ?_
    rw [B0.1.2.2.2.2.2.2.2.1]
    refine s_ic rfl ?_
    refine s_cne rfl ?_ ?_
    · intro h11
      refine s_ic rfl ?_
      refine s_al0 rfl ?_
      refine s_gi rfl (hk.at rfl rfl) rfl ?_
      rw [B0.1.2.2.2.2.1]
      refine s_imul rfl ⟨by omega, by omega⟩ ?_
      refine s_al0 rfl ?_
      refine s_gf rfl (hk.at rfl rfl) rfl rfl ?_
      refine s_al0 rfl ?_
      refine s_gi rfl (hk.at rfl rfl) rfl ?_
      rw [B0.1.2.2.2.2.1]
      refine s_iald rfl (hk.at rfl rfl) (by omega) ?_
      rw [B0.1.2.2.2.2.2.2.2.1]
      refine s_iadd rfl ⟨by omega, by omega⟩ ?_
      rw [show 24 * (nx : Int) + ((S.nt : Nat) : Int) = (x : Int) by omega]
      refine s_is1 rfl rfl ?_
      refine s_al0 rfl ?_
      refine s_gf rfl (hk.at rfl rfl) rfl rfl ?_
      refine s_il1 rfl ?_
      refine s_al0 rfl ?_
      refine s_ic rfl ?_
      refine s_callO rfl rfl (Or.inl rfl) rfl rfl (hk.at rfl rfl) (u_isWord (w := 3) hk B0.1.1 B0.1.2.1 B0.1.2.2.1 B0.1.2.2.2.1 (by decide) ?_)
      have ely : (if kT s n ws k = wdK 3 then (1 : Int) else 0) = ly := by
        show (if kT s n ws k = 15 then (1 : Int) else 0) = ly
        rcases hly with ⟨q1, q2⟩ | ⟨q1, q2⟩
        · rw [q2, q1]; rfl
        · rw [q2, q1]; rfl
      rw [ely]
      show V G l (d + 24) iX12_readTreaty 48 [rf 210, (0, (x : Int))] [(0, ly), (0, (x : Int)), rf 223] (K, D0, z) P
      refine s_bast rfl (hk.at rfl rfl) (by omega) (by omega) ?_
      have B1 := AlM_st (r := 223) (j := 1) (v := ly) B0 rfl (by decide)
      obtain ⟨D1, hD1⟩ : ∃ X, aUp D0 223 (x : Int) (ly) = X := ⟨_, rfl⟩
      rw [hD1] at B1 ⊢
      refine s_al0 rfl ?_
      refine s_dup rfl (by first | decide | (show (2 : Nat) ≠ 1; decide)) ?_
      refine s_gi rfl (hk.at rfl rfl) rfl ?_
      rw [B1.1.2.2.1]
      refine s_ic rfl ?_
      refine s_iadd rfl ⟨by omega, by omega⟩ ?_
      refine s_pi rfl (hk.at rfl rfl) rfl ?_
      have B2 := AlM_to B1 hk1
      rw [show ((k : Nat) : Int) + 1 = ((k + 1 : Nat) : Int) from rfl]
      obtain ⟨D2, hD2⟩ : ∃ X, aUp D1 210 7 ((k + 1 : Nat) : Int) = X := ⟨_, rfl⟩
      rw [hD2] at B2 ⊢
      refine s_al0 rfl ?_
      refine s_gf rfl (hk.at rfl rfl) rfl rfl ?_
      refine s_il1 rfl ?_
      refine s_al0 rfl ?_
      refine s_callO rfl rfl (Or.inl rfl) rfl rfl (hk.at rfl rfl) (u_takeNewName hk B2.1.1 B2.1.2.1 B2.1.2.2.1 B2.1.2.2.2.1 B2.1.2.2.2.2.1 hx2 B2.1.2.2.2.2.2 h12 h24 hdi (fun y => ?_) (fun y => ?_))
      rotate_left
      · show V G l (d + 24) iX12_readTreaty 68 [rf 210, (0, (x : Int))] [(1, 0), (0, (x : Int)), rf 222] (K, _, z) P
        rw [qFo_l y] at hF
        have hF0 : 0 < F := by have := qNn_nn (kd := kT s n ws) (nm := mT s n) (nh := S.nh) (hn := S.hn) (nt := S.nt) (tn := S.tn) (k := k + 1) hpl; omega
        rw [hF]
        refine s_last rfl (hk.at rfl rfl) (by omega) ?_
        exact (dead hF0 _ (DdM_up hxx (AlM_dead hxx b2 B2) (by decide))).2.2.2.2.2.2.2.2.2.2.2.2
      rw [y, qFo_r rfl] at hF
      have y3 := (qNn_z (hpl (k + 1))).mp y
      have hN3 : k + 2 ≤ N := tk_nx (kd := kT s n ws) b3 B2.1.2.2.2.1 (by omega)
      have B3 := AlM_to B2 hN3
      rw [show ((k + 1 : Nat) : Int) + 1 = ((k + 2 : Nat) : Int) from rfl]
      obtain ⟨D3, hD3⟩ : ∃ X, aUp D2 210 7 ((k + 2 : Nat) : Int) = X := ⟨_, rfl⟩
      rw [hD3] at B3 ⊢
      show V G l (d + 24) iX12_readTreaty 68 [rf 210, (0, (x : Int))] [(1, mT s n (k + 1)), (0, (x : Int)), rf 222] (K, D3, z) P
      refine s_last rfl (hk.at rfl rfl) (by omega) ?_
      have B4 := AlM_nm (v := mT s n (k + 1)) hx B3
      obtain ⟨D4, hD4⟩ : ∃ X, aUp D3 222 (x : Int) (mT s n (k + 1)) = X := ⟨_, rfl⟩
      rw [hD4] at B4 ⊢
      refine s_al0 rfl ?_
      refine s_ic rfl ?_
      refine s_callO rfl rfl (Or.inl rfl) rfl rfl (hk.at rfl rfl) (u_takeWord (w := 6) hk B4.1.1 B4.1.2.1 B4.1.2.2.1 B4.1.2.2.2.1 (by decide) (fun y => ?_) (fun y => ?_))
      rotate_left
      · show V G l (d + 24) iX12_readTreaty 75 [rf 210, (0, (x : Int))] [] (K, _, z) P
        have y : kT s n ws (k + 2) ≠ 18 := y
        have e := qTk_1 (pl := pT2 s n) y
        have hF0 := hpl (k + 2)
        rw [e, qFo_l (by omega)] at hF
        have hF0 : 0 < F := by omega
        rw [hF]
        exact (dead hF0 _ (AlM_dead hxx b2 B4)).2.2.2.2.2.2.2.2.2.2.2.1
      have y : kT s n ws (k + 2) = 18 := y
      have e := qTk_0 (pl := pT2 s n) y
      rw [e, qFo_r rfl] at hF
      have hN5 : k + 3 ≤ N := tk_nx (kd := kT s n ws) b3 B4.1.2.2.2.1 (by omega)
      have B5 := AlM_to B4 hN5
      rw [show ((k + 2 : Nat) : Int) + 1 = ((k + 3 : Nat) : Int) from rfl]
      obtain ⟨D5, hD5⟩ : ∃ X, aUp D4 210 7 ((k + 3 : Nat) : Int) = X := ⟨_, rfl⟩
      rw [hD5] at B5 ⊢
      show V G l (d + 24) iX12_readTreaty 75 [rf 210, (0, (x : Int))] [] (K, D5, z) P
      refine s_al0 rfl ?_
      refine s_gf rfl (hk.at rfl rfl) rfl rfl ?_
      refine s_il1 rfl ?_
      refine s_al0 rfl ?_
      refine s_callO rfl rfl (Or.inl rfl) rfl rfl (hk.at rfl rfl) (u_takeHouse hk B5.1.1 B5.1.2.1 B5.1.2.2.1 B5.1.2.2.2.1 B5.1.2.2.2.2.1 hx2 B5.1.2.2.2.2.2 h12 h24 hdi (fun y => ?_) (fun y => ?_))
      rotate_left
      · show V G l (d + 24) iX12_readTreaty 84 [rf 210, (0, (x : Int))] [(0, 0), (0, (x : Int)), rf 224] (K, _, z) P
        rw [qFo_l y] at hF
        have hF0 : 0 < F := by have := qHf_nn (kd := kT s n ws) (nm := mT s n) (nh := S.nh) (hn := S.hn) (k := k + 3) hpl; omega
        rw [hF]
        refine s_iast rfl (hk.at rfl rfl) (by omega) ?_
        exact (dead hF0 _ (DdM_up hxx (AlM_dead hxx b2 B5) (by decide))).2.2.2.2.2.2.2.2.2.2.1
      rw [y, qFo_r rfl] at hF
      have y3 := (qHf_z (hpl (k + 3))).mp y
      have ix := qIx_in (nm := mT s n) (nh := S.nh) (hn := S.hn) (k := k + 3)
      have hN6 : k + 4 ≤ N := tk_nx (kd := kT s n ws) b3 B5.1.2.2.2.1 (by omega)
      have B6 := AlM_to B5 hN6
      rw [show ((k + 3 : Nat) : Int) + 1 = ((k + 4 : Nat) : Int) from rfl]
      obtain ⟨D6, hD6⟩ : ∃ X, aUp D5 210 7 ((k + 4 : Nat) : Int) = X := ⟨_, rfl⟩
      rw [hD6] at B6 ⊢
      show V G l (d + 24) iX12_readTreaty 84 [rf 210, (0, (x : Int))] [(0, qIx (mT s n) S.nh S.hn (k + 3)), (0, (x : Int)), rf 224] (K, D6, z) P
      refine s_iast rfl (hk.at rfl rfl) (by omega) ?_
      have B7 := AlM_st (r := 224) (j := 2) (v := qIx (mT s n) S.nh S.hn (k + 3)) B6 rfl (by decide)
      obtain ⟨D7, hD7⟩ : ∃ X, aUp D6 224 (x : Int) (qIx (mT s n) S.nh S.hn (k + 3)) = X := ⟨_, rfl⟩
      rw [hD7] at B7 ⊢
      refine s_al0 rfl ?_
      refine s_gf rfl (hk.at rfl rfl) rfl rfl ?_
      refine s_il1 rfl ?_
      refine s_al0 rfl ?_
      refine s_ic rfl ?_
      refine s_callO rfl rfl (Or.inl rfl) rfl rfl (hk.at rfl rfl) (u_hasWord (w := 7) hk B7.1.1 B7.1.2.1 B7.1.2.2.1 B7.1.2.2.2.1 (by decide) (fun y => ?_) (fun y => ?_))
      rotate_left
      · have y : ¬ kT s n ws (k + 4) = 19 := y
        show V G l (d + 24) iX12_readTreaty 96 [rf 210, (0, (x : Int))] [(0, 0), (0, (x : Int)), rf 225] (K, D7, z) P
        refine s_bast rfl (hk.at rfl rfl) (by omega) (Or.inl rfl) ?_
        have ej : j1 = k + 4 := by rw [← hj1]; exact if_neg y
        have B8 := AlM_st (r := 225) (j := 3) (v := 0) B7 rfl (by decide)
        rw [← ej] at B8
        exact at97 hF (by omega) (by omega) _ _ B8 ⟨rfl, rfl, rfl, by rw [if_neg y]; rfl⟩
      have y : kT s n ws (k + 4) = 19 := y
      have ej : j1 = k + 5 := by rw [← hj1]; exact if_pos y
      have hN8 : k + 5 ≤ N := tk_nx (kd := kT s n ws) b3 B7.1.2.2.2.1 (by omega)
      have B8 := AlM_to B7 hN8
      rw [show ((k + 4 : Nat) : Int) + 1 = ((k + 5 : Nat) : Int) from rfl]
      obtain ⟨D8, hD8⟩ : ∃ X, aUp D7 210 7 ((k + 5 : Nat) : Int) = X := ⟨_, rfl⟩
      rw [hD8] at B8 ⊢
      show V G l (d + 24) iX12_readTreaty 96 [rf 210, (0, (x : Int))] [(0, 1), (0, (x : Int)), rf 225] (K, D8, z) P
      refine s_bast rfl (hk.at rfl rfl) (by omega) (Or.inr rfl) ?_
      have B9 := AlM_st (r := 225) (j := 3) (v := 1) B8 rfl (by decide)
      obtain ⟨D9, hD9⟩ : ∃ X, aUp D8 225 (x : Int) (1) = X := ⟨_, rfl⟩
      rw [hD9] at B9 ⊢
      rw [← ej] at B9
      exact at97 hF (by omega) (by omega) _ _ B9 ⟨rfl, rfl, rfl, by rw [if_pos y]; rfl⟩
    · intro h11
      omega
  rw [hD0] at go
  exact go
end
