/-! ===== the draft, as the reference holds it ===== -/
theorem aUp_two {D : Nat → Int → Int} {r : Nat} {i v w : Int} : aUp (aUp D r i v) r i w = aUp D r i w := by
  funext q j
  rw [aUp_app, aUp_app, aUp_app]
  split
  · rfl
  · rfl
def TrM (nx : Nat) (S : PS) (D : Nat → Int → Int) (t : Nat) : Prop := (D 223 ((24 * nx + t : Nat) : Int) = S.w t 1 ∧ D 224 ((24 * nx + t : Nat) : Int) = S.w t 0 ∧ D 225 ((24 * nx + t : Nat) : Int) = S.w t 2) ∧ (D 226 ((24 * nx + t : Nat) : Int) = (if S.w t 1 = 0 then 1 else S.w t 3) ∧ D 227 ((24 * nx + t : Nat) : Int) = S.w t 4 ∧ D 228 ((24 * nx + t : Nat) : Int) = S.w t 5 ∧ D 229 ((24 * nx + t : Nat) : Int) = S.w t 6) ∧ D 230 ((24 * nx + t : Nat) : Int) = S.w t 7 ∧ (∀ i : Nat, (i : Int) < S.w t 7 → D 232 ((12 * (24 * nx + t) + i : Nat) : Int) = S.w t (100 + i) ∧ D 231 ((12 * (24 * nx + t) + i : Nat) : Int) = S.w t (200 + i)) ∧ (S.cl t = [] → D 233 ((24 * nx + t : Nat) : Int) = -1) ∧ (S.cl t ≠ [] → D 233 ((24 * nx + t : Nat) : Int) = ((1600 * nx + rTo S.cl t : Nat) : Int) ∧ OpL (D 234) (D 235) ((1600 * nx + rTo S.cl t : Nat) : Int) (S.cl t) ∧ D 234 ((1600 * nx + rTo S.cl t + (S.cl t).length : Nat) : Int) = 0)
def StM (s ws : Int → Int) (n nx : Nat) (S : PS) (D : Nat → Int → Int) : Prop := NmM s ws n nx S D ∧ (∀ t, t < S.nt → TrM nx S D t) ∧ D 210 30 = ((rTo S.cl S.nt : Nat) : Int) ∧ ∀ c : Nat, c < 8 → D 218 ((8 * nx + c : Nat) : Int) = S.ct c ∧ D 219 ((8 * nx + c : Nat) : Int) = S.hs c ∧ D 220 ((8 * nx + c : Nat) : Int) = S.ms c
theorem TrM_keep {nx t : Nat} {S : PS} {D D' : Nat → Int → Int} (h7 : S.w t 7 ≤ 12) (h : TrM nx S D t) (h1 : ∀ r, (223 ≤ r ∧ r ≤ 230 ∨ r = 233) → D' r ((24 * nx + t : Nat) : Int) = D r ((24 * nx + t : Nat) : Int)) (h2 : ∀ i : Nat, i < 12 → D' 232 ((12 * (24 * nx + t) + i : Nat) : Int) = D 232 ((12 * (24 * nx + t) + i : Nat) : Int) ∧ D' 231 ((12 * (24 * nx + t) + i : Nat) : Int) = D 231 ((12 * (24 * nx + t) + i : Nat) : Int)) (h3 : ∀ j : Int, j < ((1600 * nx + rTo S.cl (t + 1) : Nat) : Int) → D' 234 j = D 234 j ∧ D' 235 j = D 235 j) : TrM nx S D' t := by
  obtain ⟨⟨a1, a2, a3⟩, ⟨b1, b2, b3, b4⟩, c, e, f, g⟩ := h
  rw [rTo] at h3
  refine ⟨⟨?_, ?_, ?_⟩, ⟨?_, ?_, ?_, ?_⟩, ?_, fun i hi => ?_, fun q => ?_, fun q => ?_⟩
  · rw [h1 223 (by decide)]; exact a1
  · rw [h1 224 (by decide)]; exact a2
  · rw [h1 225 (by decide)]; exact a3
  · rw [h1 226 (by decide)]; exact b1
  · rw [h1 227 (by decide)]; exact b2
  · rw [h1 228 (by decide)]; exact b3
  · rw [h1 229 (by decide)]; exact b4
  · rw [h1 230 (by decide)]; exact c
  · have := h2 i (by omega)
    rw [this.1, this.2]; exact e i hi
  · rw [h1 233 (by decide)]; exact f q
  · obtain ⟨g1, g2, g3⟩ := g q
    rw [if_neg q] at h3
    exact ⟨by rw [h1 233 (by decide)]; exact g1, OpL_congr (fun j j1 j2 => h3 j (by omega)) g2, by rw [(h3 _ (by omega)).1]; exact g3⟩
theorem NmM_keep {s ws : Int → Int} {n nx : Nat} {S : PS} {D D' : Nat → Int → Int} (h : NmM s ws n nx S D) (h1 : D' 216 = D 216) (h2 : D' 217 = D 217) (h3 : D' 221 = D 221) (h4 : D' 222 = D 222) : NmM s ws n nx S D' := by
  unfold NmM at h ⊢
  rw [h1, h2, h3, h4]; exact h
/-- alive, at token k -/
def AtM (s ws : Int → Int) (n N nx k : Nat) (S : PS) (D : Nat → Int → Int) : Prop := RfH s ws n N D ∧ D 210 8 = 0 ∧ D 210 7 = (k : Nat) ∧ k ≤ N ∧ D 210 11 = (nx : Nat) ∧ NmM s ws n nx S D
theorem AtM_to {s ws : Int → Int} {n N nx k : Nat} {j : Nat} {S : PS} {D : Nat → Int → Int} (h : AtM s ws n N nx k S D) (hj : j ≤ N) : AtM s ws n N nx j S (aUp D 210 7 (j : Nat)) := ⟨RfH_keep h.1 (aUp_row (by decide)) (aUp_row (by decide)) (aUp_row (by decide)) (aUp_row (by decide)), by rw [aUp_ne (by decide)]; exact h.2.1, aUp_at, hj, by rw [aUp_ne (by decide)]; exact h.2.2.2.2.1, NmM_keep h.2.2.2.2.2 (aUp_row (by decide)) (aUp_row (by decide)) (aUp_row (by decide)) (aUp_row (by decide))⟩
theorem AtM_keep {s ws : Int → Int} {n N nx k : Nat} {S : PS} {D D' : Nat → Int → Int} (h : AtM s ws n N nx k S D) (h1 : ∀ r, r < 223 → D' r = D r) : AtM s ws n N nx k S D' := ⟨RfH_keep h.1 (h1 _ (by decide)) (h1 _ (by decide)) (h1 _ (by decide)) (h1 _ (by decide)), by rw [h1 210 (by decide)]; exact h.2.1, by rw [h1 210 (by decide)]; exact h.2.2.1, h.2.2.2.1, by rw [h1 210 (by decide)]; exact h.2.2.2.2.1, NmM_keep h.2.2.2.2.2 (h1 _ (by decide)) (h1 _ (by decide)) (h1 _ (by decide)) (h1 _ (by decide))⟩
/-- what a reader leaves: f its FAULT, k' the token where the sign must stand, S' what is told then -/
def RdM (s ws : Int → Int) (n N nx : Nat) (D : Nat → Int → Int) (f : Int) (k' : Nat) (S' : PS) (D' : Nat → Int → Int) : Prop := FrN nx D D' ∧ (f = 0 → D' 210 8 = 0 ∧ D' 210 7 = (k' : Nat) ∧ k' ≤ N ∧ (kT s n ws k' = 11 → StM s ws n nx S' D')) ∧ (f ≠ 0 → 0 < f ∧ D' 210 8 = f ∧ 0 ≤ D' 210 7 ∧ D' 210 7 ≤ 1500)
section
variable {G : aCX} {l : Launch} {d : Nat} {K : Nat → aKd} {D : Nat → Int → Int} {z : Nat × Nat} {P : Int → aSt → Prop}
theorem u_readHouse {s ws : Int → Int} {n N k nx : Nat} {S : PS} (hk : Kn K) (hx2 : nx ≤ 1) (hI : PsI (kT s n ws) (mT s n) S k) (hA : AtM s ws n N nx k S D) (hS : StM s ws n nx S D) (hk1 : k + 1 ≤ N) (kk : ∀ D', RdM s ws n N nx D (if 12 ≤ S.nh then 5 + 16 * pT2 s n k else qNn (kT s n ws) (mT s n) (pT2 s n) S.nh S.hn S.nt S.tn (k + 1)) (k + 2) (qHo (kT s n ws) (mT s n) (pT2 s n) k S).2.2 D' → P 0 (K, D', z)) : VM G l (d + 3) iX12_readHouse [rf 210] (K, D, z) P := by
  obtain ⟨hH, h8, h7, hkN, hnx, hM⟩ := id hA
  obtain ⟨b1, b2, b3, b4, b5⟩ := id hH
  have hpl : ∀ k, 0 ≤ pT2 s n k := fun k => (pl_in (s := s) (n := n) (k := k) b4).1
  obtain ⟨⟨h12, h24⟩, i2, hdi, i4, i5, i6, i7, i8, i9⟩ := id hI
  refine VM_go (tg2 rfl) (Nat.le_of_ble_eq_true rfl) ?_
  refine s_al0 rfl ?_
  refine s_gf rfl (hk.at rfl rfl) rfl rfl ?_
  refine s_al0 rfl ?_
  refine s_gi rfl (hk.at rfl rfl) rfl ?_
  rw [hnx]
  refine s_iald rfl (hk.at rfl rfl) (by omega) ?_
  rw [hM.1]
  refine s_ic rfl ?_
  refine s_cne rfl ?_ ?_
  · intro h11
    refine s_al0 rfl ?_
    refine s_dup rfl (by first | decide | (show (2 : Nat) ≠ 1; decide)) ?_
    refine s_gi rfl (hk.at rfl rfl) rfl ?_
    rw [h7]
    refine s_ic rfl ?_
    refine s_iadd rfl ⟨by omega, by omega⟩ ?_
    refine s_pi rfl (hk.at rfl rfl) rfl ?_
    have hA1 := AtM_to hA hk1
    have e1 : ((k : Nat) : Int) + 1 = ((k + 1 : Nat) : Int) := rfl
    rw [e1]
    obtain ⟨D1, hD1⟩ : ∃ D1, aUp D 210 7 ((k + 1 : Nat) : Int) = D1 := ⟨_, rfl⟩
    have fr1 : FrN nx D D1 := hD1 ▸ FrN_210 (Or.inl rfl)
    rw [hD1] at hA1 ⊢
    obtain ⟨hH1, h81, h71, -, hnx1, hM1⟩ := id hA1
    have q12 : ¬ 12 ≤ S.nh := by omega
    refine s_al0 rfl ?_
    refine s_callO rfl rfl (Or.inl rfl) rfl rfl (hk.at rfl rfl) (u_takeNewName hk hH1 h81 h71 hk1 hnx1 hx2 hM1 h12 h24 hdi (fun y => ?_) (fun y => ?_))
    rotate_left
    · show V G l (d + 3) iX12_readHouse 34 [rf 210, (9, 0), (9, 0)] [(1, 0)] (K, _, z) P
      have hp := qNn_nn (kd := kT s n ws) (nm := mT s n) (nh := S.nh) (hn := S.hn) (nt := S.nt) (tn := S.tn) (k := k + 1) hpl
      refine s_ls1 rfl rfl ?_
      refine s_al0 rfl ?_
      refine s_gi rfl (hk.at rfl rfl) rfl ?_
      rw [aUp_at]
      refine s_zne rfl (fun _ => ?_) (fun q => absurd q y)
      refine s_retv rfl rfl ?_
      refine kk _ ⟨FrN_trans fr1 (FrN_210 (Or.inr (Or.inl rfl))), fun q => ?_, fun _ => ?_⟩
      · rw [if_neg q12] at q; exact absurd q y
      · rw [if_neg q12]
        exact ⟨by omega, aUp_at, by rw [aUp_ne (by decide), h71]; omega, by rw [aUp_ne (by decide), h71]; omega⟩
    have y3 := (qNn_z (hpl (k + 1))).mp y
    have hk2 : k + 2 ≤ N := tk_nx (kd := kT s n ws) b3 hk1 (by omega)
    have hA2 := AtM_to hA1 hk2
    have e2 : ((k + 1 : Nat) : Int) + 1 = ((k + 2 : Nat) : Int) := rfl
    rw [e2]
    obtain ⟨D2, hD2⟩ : ∃ D2, aUp D1 210 7 ((k + 2 : Nat) : Int) = D2 := ⟨_, rfl⟩
    have fr2 : FrN nx D D2 := FrN_trans fr1 (hD2 ▸ FrN_210 (Or.inl rfl))
    have g2 : ∀ r, r ≠ 210 → D2 r = D r := fun r q => by rw [← hD2, aUp_row q, ← hD1, aUp_row q]
    have g30 : D2 210 30 = D 210 30 := by rw [← hD2, aUp_ne (by decide), ← hD1, aUp_ne (by decide)]
    rw [hD2] at hA2 ⊢
    obtain ⟨hH2, h82, h72, -, hnx2, hM2⟩ := id hA2
    show V G l (d + 3) iX12_readHouse 34 [rf 210, (9, 0), (9, 0)] [(1, mT s n (k + 1))] (K, D2, z) P
    refine s_ls1 rfl rfl ?_
    refine s_al0 rfl ?_
    refine s_gi rfl (hk.at rfl rfl) rfl ?_
    rw [h82]
    refine s_zne rfl ?_ ?_
    · intro h39
      exact absurd rfl h39
    · intro h39
      refine s_al0 rfl ?_
      refine s_gf rfl (hk.at rfl rfl) rfl rfl ?_
      refine s_ic rfl ?_
      refine s_al0 rfl ?_
      refine s_gi rfl (hk.at rfl rfl) rfl ?_
      rw [hnx2]
      refine s_imul rfl ⟨by omega, by omega⟩ ?_
      refine s_al0 rfl ?_
      refine s_gf rfl (hk.at rfl rfl) rfl rfl ?_
      refine s_al0 rfl ?_
      refine s_gi rfl (hk.at rfl rfl) rfl ?_
      rw [hnx2]
      refine s_iald rfl (hk.at rfl rfl) (by omega) ?_
      rw [hM2.1]
      refine s_iadd rfl ⟨by omega, by omega⟩ ?_
      refine s_ll1 rfl ?_
      refine s_last rfl (hk.at rfl rfl) (by omega) ?_
      rw [show 12 * (nx : Int) + ((S.nh : Nat) : Int) = ((12 * nx + S.nh : Nat) : Int) by omega]
      refine s_al0 rfl ?_
      refine s_gf rfl (hk.at rfl rfl) rfl rfl ?_
      refine s_al0 rfl ?_
      refine s_gi rfl (hk.at rfl rfl) rfl ?_
      rw [aUp_row (by decide), hnx2]
      refine s_dup2 rfl rfl rfl ?_
      refine s_iald rfl (hk.at rfl rfl) (by omega) ?_
      rw [aUp_row (by decide), hM2.1]
      refine s_ic rfl ?_
      refine s_iadd rfl ⟨by omega, by omega⟩ ?_
      refine s_iast rfl (hk.at rfl rfl) (by omega) ?_
      refine s_retv rfl rfl ?_
      refine kk _ ⟨?_, fun _ => ⟨?_, ?_, hk2, fun _ => ⟨⟨?_, fun i hi => ?_, ?_, fun i hi => ?_⟩, fun t ht => ?_, ?_, fun c hc => ?_⟩⟩, fun q => ?_⟩
      · exact FrN_trans fr2 (FrN_trans (FrN_up (by decide) ⟨by show 12 * (nx : Int) ≤ _; omega, by show _ < 12 * (nx : Int) + 12; omega⟩) (FrN_up (by decide) ⟨by show 1 * (nx : Int) ≤ _; omega, by show _ < 1 * (nx : Int) + 1; omega⟩))
      · rw [aUp_row (by decide), aUp_row (by decide)]; exact h82
      · rw [aUp_row (by decide), aUp_row (by decide)]; exact h72
      · rw [aUp_at]; rfl
      · have hi : i < S.nh + 1 := hi
        show _ = mT s n (uN S.hn S.nh (k + 1) i)
        rw [aUp_row (by decide)]
        rcases (by omega : i < S.nh ∨ i = S.nh) with q | q
        · rw [aUp_ne (by omega), uN_ne (by omega)]; exact hM2.2.1 i q
        · subst q; rw [aUp_at, uN_at]
      · rw [aUp_row (by decide), aUp_row (by decide)]; exact hM2.2.2.1
      · rw [aUp_row (by decide), aUp_row (by decide)]; exact hM2.2.2.2 i hi
      · refine TrM_keep (D := D) (S := S) (by have := (i5.2.2.2 t ht).2.2.2.2.1; omega) (hS.2.1 t ht) (fun r q => ?_) (fun i _ => ⟨?_, ?_⟩) (fun j _ => ⟨?_, ?_⟩)
        · rw [aUp_row (by omega), aUp_row (by omega), g2 r (by omega)]
        all_goals rw [aUp_row (by decide), aUp_row (by decide), g2 _ (by decide)]
      · rw [aUp_row (by decide), aUp_row (by decide), g30]; exact hS.2.2.1
      · rw [aUp_row (by decide), aUp_row (by decide), aUp_row (by decide), aUp_row (by decide), aUp_row (by decide), aUp_row (by decide), g2 _ (by decide), g2 _ (by decide), g2 _ (by decide)]; exact hS.2.2.2 c hc
      · rw [if_neg q12] at q; exact absurd y q
  · intro h11
    refine s_al0 rfl ?_
    refine s_ic rfl ?_
    refine s_callO rfl rfl (Or.inl rfl) rfl rfl (hk.at rfl rfl) (u_wrong (c := 5) hk hH h8 h7 hkN (by decide) ?_)
    show V G l (d + 3) iX12_readHouse 19 [rf 210, (9, 0), (9, 0)] [] (K, _, z) P
    refine s_retv rfl rfl ?_
    have q : 12 ≤ S.nh := by omega
    have hp := hpl k
    refine kk _ ⟨FrN_210 (Or.inr (Or.inl rfl)), fun y => ?_, fun y => ?_⟩
    · rw [if_pos q] at y; omega
    · rw [if_pos q]
      exact ⟨by omega, aUp_at, by rw [aUp_ne (by decide), h7]; omega, by rw [aUp_ne (by decide), h7]; omega⟩
end
