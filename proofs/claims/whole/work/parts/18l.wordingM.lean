/-! ===== wording: the reference ===== -/
def WrM (s ws : Int → Int) (n nx : Nat) (R : Int × Nat × PS) (D D' : Nat → Int → Int) : Prop := (∀ r, r ≠ 210 → (r < 212 ∨ r = 215 ∨ (235 < r ∧ r ≠ 265)) → D' r = D r) ∧ (∀ j : Int, (j = 1 ∨ 4 ≤ j) → j ≠ 7 → j ≠ 8 → j ≠ 10 → j ≠ 11 → j ≠ 30 → D' 210 j = D 210 j) ∧ (∀ (r : Nat) (j : Int), 216 ≤ r → r ≤ 235 → ¬ inN nx r j → D' r j = D r j) ∧ (D' 210 0 = 0 ∧ D' 210 2 = 0) ∧ (R.1 ≠ 0 → D' 210 10 = D 210 10 ∧ D' 265 = D 265) ∧ (R.1 = 0 → D' 210 10 = (nx : Nat) ∧ StM s ws n nx R.2.2 D' ∧ ∀ t : Nat, t < 24 → D' 265 t = -1)
theorem StM_keep {s ws : Int → Int} {n nx : Nat} {S : PS} {D D' : Nat → Int → Int} (h : StM s ws n nx S D) (hr : ∀ r, 216 ≤ r → r ≤ 235 → D' r = D r) (h30 : D' 210 30 = D 210 30) : StM s ws n nx S D' := by
  unfold StM NmM TrM at h ⊢
  rw [hr 216 (by decide) (by decide), hr 217 (by decide) (by decide), hr 218 (by decide) (by decide), hr 219 (by decide) (by decide), hr 220 (by decide) (by decide), hr 221 (by decide) (by decide), hr 222 (by decide) (by decide), hr 223 (by decide) (by decide), hr 224 (by decide) (by decide), hr 225 (by decide) (by decide), hr 226 (by decide) (by decide), hr 227 (by decide) (by decide), hr 228 (by decide) (by decide), hr 229 (by decide) (by decide), hr 230 (by decide) (by decide), hr 231 (by decide) (by decide), hr 232 (by decide) (by decide), hr 233 (by decide) (by decide), hr 234 (by decide) (by decide), hr 235 (by decide) (by decide), h30]
  exact h
section
variable {G : aCX} {l : Launch} {d : Nat} {K : Nat → aKd} {D : Nat → Int → Int} {z : Nat × Nat} {P : Int → aSt → Prop}
theorem u_wordingM {s ws : Int → Int} {n ho nx : Nat} (hk : Kn K) (h11 : D 211 = s) (hn : D 210 2 = n) (h15 : n ≤ 1500) (hc : ∀ i : Nat, i < n → 0 ≤ s i ∧ s i < 128) (hw : ∀ i : Nat, i < 21 → ws i = kw32 i) (h215 : ∀ w : Nat, w < 21 → D 215 w = wdV w) (hho : D 210 10 = (ho : Nat)) (hnx : nx + ho = 1) (kk : ∀ D', WrM s ws n nx (qDr (kT s n ws) (nT s n) (mT s n) (pT2 s n) 1500 0 qS0) D D' → P (qDr (kT s n ws) (nT s n) (mT s n) (pT2 s n) 1500 0 qS0).1 (K, D', z)) : VM G l (d + 26) iX12_wording [rf 210] (K, D, z) P := by
  obtain ⟨R, hR⟩ : ∃ X, qDr (kT s n ws) (nT s n) (mT s n) (pT2 s n) 1500 0 qS0 = X := ⟨_, rfl⟩
  rw [hR] at kk
  have hpl : ∀ k, 0 ≤ pT2 s n k := fun k => (pl_in (s := s) (n := n) (k := k) h15).1
  have h32 : ∀ k, kT s n ws k ≤ 32 := fun k => (kdF_in (s := s) (n := n) (ws := ws) (p := tpF s n k)).2
  have fin : ∀ (D9 : Nat → Int → Int) (u : aTV), WrM s ws n nx R D D9 → D9 210 8 = R.1 → V G l (d + 26) iX12_wording 159 [rf 210, u] [] (K, D9, z) P := by
    intro D9 u hW h9
    refine s_al0 rfl ?_
    refine s_gi rfl (hk.at rfl rfl) rfl ?_
    rw [h9]
    refine s_reti rfl rfl ?_
    exact kk _ hW
  refine VM_go (tg2 rfl) (Nat.le_of_ble_eq_true rfl) ?_
  refine s_al0 rfl ?_
  refine s_ic rfl ?_
  refine s_pi rfl (hk.at rfl rfl) rfl ?_
  refine s_al0 rfl ?_
  refine s_callO rfl rfl (Or.inl rfl) rfl rfl (hk.at rfl rfl) (u_cutAll (s := s) (n := n) hk (by rw [aUp_row (by decide)]; exact h11) (by rw [aUp_ne (by decide)]; exact hn) h15 hc (fun D1 N g1 g2 g3 hNn hpN hrt hend => ?_))
  show V G l (d + 26) iX12_wording 9 [rf 210, (9, 0)] [] (K, D1, z) P
  have kN : kT s n ws N = 0 := by show kdF s n ws (tpF s n N) = 0; rw [hpN]; unfold kdF; exact if_pos (Nat.le_refl n)
  have g1' : ∀ r, r ≠ 210 → r ≠ 212 → r ≠ 213 → r ≠ 214 → D1 r = D r := fun r q1 q2 q3 q4 => by rw [g1 r q1 q2 q3 q4, aUp_row q1]
  have hH1 : RfH s ws n N D1 := by
    refine ⟨fun j hj => ?_, by omega, kN, h15, fun w hw => by rw [g1' 215 (by decide) (by decide) (by decide) (by decide)]; exact h215 w hw⟩
    rcases (by omega : j < N ∨ j = N) with q | q
    · exact RtB_of hw (hrt j q).1 (hrt j q).2
    · subst q
      unfold RtB
      rw [hend.1, hend.2, kN]
      have w12 : ∀ w : Nat, 12 ≤ wdK w := fun w => by unfold wdK; omega
      exact ⟨by show (n : Int) = ((tpF s n j : Nat) : Int); rw [hpN], by omega, by omega, fun y => by omega, by omega, fun y => by omega, by omega, fun y => by omega, fun w h => ⟨fun y => by omega, fun y => by have := w12 w; omega⟩⟩
  have h10 : D1 210 10 = (ho : Nat) := by rw [g2 10 (by decide) (by decide) (by decide) (by decide), aUp_ne (by decide)]; exact hho
  refine s_al0 rfl ?_
  refine s_ic rfl ?_
  refine s_al0 rfl ?_
  refine s_gi rfl (hk.at rfl rfl) rfl ?_
  rw [h10]
  refine s_isub rfl ⟨by omega, by omega⟩ ?_
  rw [show (1 : Int) - ((ho : Nat) : Int) = (nx : Int) by omega]
  refine s_pi rfl (hk.at rfl rfl) rfl ?_
  refine s_al0 rfl ?_
  refine s_gf rfl (hk.at rfl rfl) rfl rfl ?_
  refine s_al0 rfl ?_
  refine s_gi rfl (hk.at rfl rfl) rfl ?_
  rw [aUp_at]
  refine s_ic rfl ?_
  refine s_iast rfl (hk.at rfl rfl) (by omega) ?_
  refine s_al0 rfl ?_
  refine s_gf rfl (hk.at rfl rfl) rfl rfl ?_
  refine s_al0 rfl ?_
  refine s_gi rfl (hk.at rfl rfl) rfl ?_
  rw [aUp_row (by decide), aUp_at]
  refine s_ic rfl ?_
  refine s_iast rfl (hk.at rfl rfl) (by omega) ?_
  refine s_al0 rfl ?_
  refine s_ic rfl ?_
  refine s_pi rfl (hk.at rfl rfl) rfl ?_
  obtain ⟨D5, hD5⟩ : ∃ X, aUp (aUp (aUp (aUp D1 210 11 (nx : Int)) 216 (nx : Int) 0) 221 (nx : Int) 0) 210 30 0 = X := ⟨_, rfl⟩
  have r5 : ∀ r, r ≠ 210 → r ≠ 216 → r ≠ 221 → D5 r = D1 r := fun r q1 q2 q3 => by rw [← hD5, aUp_row q1, aUp_row q3, aUp_row q2, aUp_row q1]
  have f5 : ∀ j : Int, j ≠ 11 → j ≠ 30 → D5 210 j = D1 210 j := fun j q1 q2 => by rw [← hD5, aUp_ne q2, aUp_row (by decide), aUp_row (by decide), aUp_ne q1]
  have n5 : D5 210 11 = (nx : Nat) ∧ D5 210 30 = 0 ∧ D5 216 (nx : Int) = 0 ∧ D5 221 (nx : Int) = 0 := by
    rw [← hD5]
    refine ⟨?_, aUp_at, ?_, ?_⟩
    · rw [aUp_ne (by decide), aUp_row (by decide), aUp_row (by decide), aUp_at]
    · rw [aUp_row (by decide), aUp_row (by decide), aUp_at]
    · rw [aUp_row (by decide), aUp_at]
  have e5 : ∀ (r : Nat) (j : Int), 216 ≤ r → r ≤ 235 → ¬ inN nx r j → D5 r j = D1 r j := fun r j q1 q2 q3 => by
    rw [← hD5, aUp_row (by omega), aUp_app]
    by_cases y : r = 221 ∧ j = (nx : Int)
    · exact absurd (by obtain ⟨rfl, rfl⟩ := y; exact ⟨by show 1 * (nx : Int) ≤ _; omega, by show _ < 1 * (nx : Int) + 1; omega⟩) q3
    · rw [if_neg y, aUp_app]
      by_cases y2 : r = 216 ∧ j = (nx : Int)
      · exact absurd (by obtain ⟨rfl, rfl⟩ := y2; exact ⟨by show 1 * (nx : Int) ≤ _; omega, by show _ < 1 * (nx : Int) + 1; omega⟩) q3
      · rw [if_neg y2, aUp_row (by omega)]
  have hH5 : RfH s ws n N D5 := RfH_keep hH1 (r5 _ (by decide) (by decide) (by decide)) (r5 _ (by decide) (by decide) (by decide)) (r5 _ (by decide) (by decide) (by decide)) (r5 _ (by decide) (by decide) (by decide))
  rw [hD5]
  refine s_ic rfl ?_
  refine s_al0 rfl ?_
  refine s_gi rfl (hk.at rfl rfl) rfl ?_
  rw [n5.1]
  refine s_imul rfl ⟨by omega, by omega⟩ ?_
  refine s_is1 rfl rfl ?_
  -- what a wording leaves
  have wr : ∀ D9 : Nat → Int → Int, FrN nx D5 D9 → R.1 ≠ 0 → WrM s ws n nx R D D9 := fun D9 q h0 => by
    refine ⟨fun r q1 q2 => ?_, fun j q1 q2 q3 q4 q5 q6 => ?_, fun r j q1 q2 q3 => ?_, ⟨?_, ?_⟩, fun _ => ⟨?_, ?_⟩, fun y => absurd y h0⟩
    · rw [q.1 r q1 (by omega), r5 r q1 (by omega) (by omega), g1' r q1 (by omega) (by omega) (by omega)]
    · rw [q.2.1 j q2 q3 q6, f5 j q5 q6, g2 j (by omega) (by omega) q2 q3, aUp_ne (by omega)]
    · rw [q.2.2 r j q1 q2 q3, e5 r j q1 q2 q3, g1' r (by omega) (by omega) (by omega) (by omega)]
    · rw [q.2.1 0 (by decide) (by decide) (by decide), f5 0 (by decide) (by decide), g2 0 (by decide) (by decide) (by decide) (by decide), aUp_at]
    · rw [q.2.1 2 (by decide) (by decide) (by decide), f5 2 (by decide) (by decide)]; exact g3.1
    · rw [q.2.1 10 (by decide) (by decide) (by decide), f5 10 (by decide) (by decide), h10, hho]
    · rw [q.1 265 (by decide) (by decide), r5 265 (by decide) (by decide) (by decide), g1' 265 (by decide) (by decide) (by decide) (by decide)]
  have wr0 : ∀ D9 D' : Nat → Int → Int, FrN nx D5 D9 → R.1 = 0 → StM s ws n nx R.2.2 D9 → (∀ r, r ≠ 210 → r ≠ 265 → D' r = D9 r) → (∀ j : Int, j ≠ 10 → D' 210 j = D9 210 j) → D' 210 10 = (nx : Nat) → (∀ t : Nat, t < 24 → D' 265 t = -1) → WrM s ws n nx R D D' := fun D9 D' q h0 hS u1 u2 u3 u4 => by
    refine ⟨fun r q1 q2 => ?_, fun j q1 q2 q3 q4 q5 q6 => ?_, fun r j q1 q2 q3 => ?_, ⟨?_, ?_⟩, fun y => absurd h0 y, fun _ => ⟨u3, StM_keep hS (fun r q1 q2 => u1 r (by omega) (by omega)) (u2 30 (by decide)), u4⟩⟩
    · rw [u1 r q1 (by omega), q.1 r q1 (by omega), r5 r q1 (by omega) (by omega), g1' r q1 (by omega) (by omega) (by omega)]
    · rw [u2 j q4, q.2.1 j q2 q3 q6, f5 j q5 q6, g2 j (by omega) (by omega) q2 q3, aUp_ne (by omega)]
    · rw [u1 r (by omega) (by omega), q.2.2 r j q1 q2 q3, e5 r j q1 q2 q3, g1' r (by omega) (by omega) (by omega) (by omega)]
    · rw [u2 0 (by decide), q.2.1 0 (by decide) (by decide) (by decide), f5 0 (by decide) (by decide), g2 0 (by decide) (by decide) (by decide) (by decide), aUp_at]
    · rw [u2 2 (by decide), q.2.1 2 (by decide) (by decide) (by decide), f5 2 (by decide) (by decide)]; exact g3.1
  -- no FAULT: the draft is taken
  have last : ∀ (D9 : Nat → Int → Int) (k : Nat) (u : aTV), FrN nx D5 D9 → R = (0, k, R.2.2) → AtM s ws n N nx k R.2.2 D9 → StM s ws n nx R.2.2 D9 → V G l (d + 26) iX12_wording 123 [rf 210, u] [] (K, D9, z) P := by
    intro D9 k u q hRk hA9 hS9
    have h0 : R.1 = 0 := by rw [hRk]
    have lp : ∀ (f i : Nat) (D' : Nat → Int → Int), i + f = 24 → (∀ r, r ≠ 210 → r ≠ 265 → D' r = D9 r) → (∀ j : Int, j ≠ 10 → D' 210 j = D9 210 j) → D' 210 10 = (nx : Nat) → (∀ t : Nat, t < i → D' 265 t = -1) → V G l (d + 26) iX12_wording 140 [rf 210, (0, (i : Int))] [] (K, D', z) P := by
      intro f
      induction f with
      | zero =>
        intro i D' hi u1 u2 u3 u4
        refine s_il1 rfl ?_
        refine s_ic rfl ?_
        refine s_cge rfl ?_ ?_
        · intro h143
          exact fin _ _ (wr0 D9 D' q h0 hS9 u1 u2 u3 (fun t ht => u4 t (by omega))) (by rw [u2 8 (by decide), hA9.2.1, h0])
        · intro h143
          omega
      | succ f ih =>
        intro i D' hi u1 u2 u3 u4
        refine s_il1 rfl ?_
        refine s_ic rfl ?_
        refine s_cge rfl ?_ ?_
        · intro h143
          omega
        · intro h143
          refine s_al0 rfl ?_
          refine s_gf rfl (hk.at rfl rfl) rfl rfl ?_
          refine s_il1 rfl ?_
          refine s_ic rfl ?_
          refine s_iast rfl (hk.at rfl rfl) (by omega) ?_
          refine s_iinc1 rfl rfl ⟨by omega, by omega⟩ ?_
          refine s_go rfl ?_
          refine ih (i + 1) _ (by omega) (fun r q1 q2 => by rw [aUp_row q2]; exact u1 r q1 q2) (fun j q1 => by rw [aUp_row (by decide)]; exact u2 j q1) (by rw [aUp_row (by decide)]; exact u3) (fun t ht => ?_)
          rcases (by omega : t < i ∨ t = i) with y | y
          · rw [aUp_ne (by omega)]; exact u4 t y
          · subst y; exact aUp_at
    refine s_al0 rfl ?_
    refine s_gi rfl (hk.at rfl rfl) rfl ?_
    rw [hA9.2.1]
    refine s_zne rfl ?_ ?_
    · intro h127
      exact absurd rfl h127
    · intro h127
      refine s_al0 rfl ?_
      refine s_al0 rfl ?_
      refine s_gi rfl (hk.at rfl rfl) rfl ?_
      rw [hA9.2.2.2.2.1]
      refine s_pi rfl (hk.at rfl rfl) rfl ?_
      refine s_ic rfl ?_
      refine s_is1 rfl rfl ?_
      exact lp 24 0 _ (by omega) (fun r q1 _ => aUp_row q1) (fun j q1 => aUp_ne q1) aUp_at (fun t ht => absurd ht (Nat.not_lt_zero t))
  have loop : ∀ (f k : Nat) (S : PS) (D9 : Nat → Int → Int) (u : aTV), N ≤ k + f → PsI (kT s n ws) (mT s n) S k → AtM s ws n N nx k S D9 → StM s ws n nx S D9 → FrN nx D5 D9 → qDr (kT s n ws) (nT s n) (mT s n) (pT2 s n) f k S = R → V G l (d + 26) iX12_wording 97 [rf 210, u] [] (K, D9, z) P := by
    intro f
    induction f with
    | zero =>
      intro k S D9 u hf hI hA hS hfr he
      have he : (0, k, S) = R := he
      have ek : k = N := by have := hA.2.2.2.1; omega
      have e0 : D9 212 (k : Int) = 0 := (hA.1.1 k (by omega)).2.1.mpr (by rw [ek]; exact kN)
      refine s_al0 rfl ?_
      refine s_gi rfl (hk.at rfl rfl) rfl ?_
      rw [hA.2.1]
      refine s_zne rfl ?_ ?_
      · intro h101
        exact absurd rfl h101
      · intro h101
        refine s_al0 rfl ?_
        refine s_gf rfl (hk.at rfl rfl) rfl rfl ?_
        refine s_al0 rfl ?_
        refine s_gi rfl (hk.at rfl rfl) rfl ?_
        rw [hA.2.2.1]
        refine s_iald rfl (hk.at rfl rfl) (by omega) ?_
        rw [e0]
        refine s_zeq rfl ?_ ?_
        · intro h113
          subst he; exact last D9 k u hfr rfl hA hS
        · intro h113
          exact absurd rfl h113
    | succ f ih =>
      intro k S D9 u hf hI hA hS hfr he
      have hkN := hA.2.2.2.1
      have e0 := (hA.1.1 k hkN).2.1
      rw [qDr] at he
      refine s_al0 rfl ?_
      refine s_gi rfl (hk.at rfl rfl) rfl ?_
      rw [hA.2.1]
      refine s_zne rfl ?_ ?_
      · intro h101
        exact absurd rfl h101
      · intro h101
        refine s_al0 rfl ?_
        refine s_gf rfl (hk.at rfl rfl) rfl rfl ?_
        refine s_al0 rfl ?_
        refine s_gi rfl (hk.at rfl rfl) rfl ?_
        rw [hA.2.2.1]
        refine s_iald rfl (hk.at rfl rfl) (by omega) ?_
        refine s_zeq rfl ?_ ?_
        · intro h113
          rw [if_pos (e0.mp h113)] at he
          subst he; exact last D9 k u hfr rfl hA hS
        · intro h113
          have k0 : ¬ kT s n ws k = 0 := fun q => h113 (e0.mpr q)
          rw [if_neg k0] at he
          have lok := li_ok (kd := kT s n ws) (nu := nT s n) (nm := mT s n) (pl := pT2 s n) hpl nu_in h32 kN hkN k0 hI
          refine s_al0 rfl ?_
          refine s_callO rfl rfl (Or.inl rfl) rfl rfl (hk.at rfl rfl) (u_line (d := d) hk (by omega) hI hA hS k0 (fun D' hL => ?_))
          show V G l (d + 26) iX12_wording 120 [rf 210, u] [] (K, D', z) P
          refine s_go rfl ?_
          generalize qLi (kT s n ws) (nT s n) (mT s n) (pT2 s n) k S = r at he lok hL
          by_cases r0 : r.1 = 0
          · rw [if_pos r0] at he
            obtain ⟨l1, l2, l3⟩ := lok.2 r0
            obtain ⟨a1, a2⟩ := hL.2.1 r0
            exact ih r.2.1 r.2.2 D' u (by omega) l1 a1 a2 (FrN_trans hfr hL.1) he
          · rw [if_neg r0] at he
            subst he
            obtain ⟨y8, y0⟩ := hL.2.2 r0
            refine s_al0 rfl ?_
            refine s_gi rfl (hk.at rfl rfl) rfl ?_
            rw [y8]
            refine s_zne rfl (fun _ => ?_) (fun q => absurd q r0)
            refine s_al0 rfl ?_
            refine s_gi rfl (hk.at rfl rfl) rfl ?_
            rw [y8]
            refine s_zne rfl (fun _ => ?_) (fun q => absurd q r0)
            exact fin D' u (wr D' (FrN_trans hfr hL.1) r0) y8
  -- the causes
  have lp : ∀ (f i : Nat) (D9 : Nat → Int → Int), i + f = 8 → FrN nx D5 D9 → (∀ r, r ≠ 218 → r ≠ 219 → r ≠ 220 → D9 r = D5 r) → (∀ c : Nat, c < i → D9 218 ((8 * nx + c : Nat) : Int) = 0 ∧ D9 219 ((8 * nx + c : Nat) : Int) = 168 ∧ D9 220 ((8 * nx + c : Nat) : Int) = 999) → V G l (d + 26) iX12_wording 52 [rf 210, (0, ((8 * nx + i : Nat) : Int))] [] (K, D9, z) P := by
    intro f
    induction f with
    | zero =>
      intro i D9 hi hf u1 u2
      have n9 : D9 210 11 = (nx : Nat) := by rw [u1 210 (by decide) (by decide) (by decide)]; exact n5.1
      refine s_il1 rfl ?_
      refine s_ic rfl ?_
      refine s_al0 rfl ?_
      refine s_gi rfl (hk.at rfl rfl) rfl ?_
      rw [n9]
      refine s_imul rfl ⟨by omega, by omega⟩ ?_
      refine s_ic rfl ?_
      refine s_iadd rfl ⟨by omega, by omega⟩ ?_
      refine s_cge rfl ?_ ?_
      · intro h63
        have nm0 : NmM s ws n nx qS0 D9 := ⟨by rw [u1 216 (by decide) (by decide) (by decide)]; exact n5.2.2.1, fun i hi => absurd hi (Nat.not_lt_zero i), by rw [u1 221 (by decide) (by decide) (by decide)]; exact n5.2.2.2, fun i hi => absurd hi (Nat.not_lt_zero i)⟩
        refine loop 1500 0 qS0 D9 _ (by omega) PsI_0 ⟨FrN_RfH hf hH5, ?_, ?_, Nat.zero_le N, n9, nm0⟩ ⟨nm0, fun t ht => absurd ht (Nat.not_lt_zero t), ?_, fun c hc => u2 c (by omega)⟩ hf hR
        · rw [u1 210 (by decide) (by decide) (by decide), f5 8 (by decide) (by decide)]; exact g3.2.2
        · rw [u1 210 (by decide) (by decide) (by decide), f5 7 (by decide) (by decide)]; exact g3.2.1
        · rw [u1 210 (by decide) (by decide) (by decide)]; exact n5.2.1
      · intro h63
        omega
    | succ f ih =>
      intro i D9 hi hf u1 u2
      have n9 : D9 210 11 = (nx : Nat) := by rw [u1 210 (by decide) (by decide) (by decide)]; exact n5.1
      have in8 : ∀ r, r = 218 ∨ r = 219 ∨ r = 220 → inN nx r ((8 * nx + i : Nat) : Int) := fun r q => by
        rcases q with rfl | rfl | rfl <;> exact ⟨by show 8 * (nx : Int) ≤ _; omega, by show _ < 8 * (nx : Int) + 8; omega⟩
      refine s_il1 rfl ?_
      refine s_ic rfl ?_
      refine s_al0 rfl ?_
      refine s_gi rfl (hk.at rfl rfl) rfl ?_
      rw [n9]
      refine s_imul rfl ⟨by omega, by omega⟩ ?_
      refine s_ic rfl ?_
      refine s_iadd rfl ⟨by omega, by omega⟩ ?_
      refine s_cge rfl ?_ ?_
      · intro h63
        omega
      · intro h63
        refine s_al0 rfl ?_
        refine s_gf rfl (hk.at rfl rfl) rfl rfl ?_
        refine s_il1 rfl ?_
        refine s_ic rfl ?_
        refine s_bast rfl (hk.at rfl rfl) (by omega) (Or.inl rfl) ?_
        refine s_al0 rfl ?_
        refine s_gf rfl (hk.at rfl rfl) rfl rfl ?_
        refine s_il1 rfl ?_
        refine s_ic rfl ?_
        refine s_iast rfl (hk.at rfl rfl) (by omega) ?_
        refine s_al0 rfl ?_
        refine s_gf rfl (hk.at rfl rfl) rfl rfl ?_
        refine s_il1 rfl ?_
        refine s_ic rfl ?_
        refine s_iast rfl (hk.at rfl rfl) (by omega) ?_
        refine s_iinc1 rfl rfl ⟨by omega, by omega⟩ ?_
        refine s_go rfl ?_
        refine ih (i + 1) _ (by omega) (FrN_trans hf (FrN_trans (FrN_up (by decide) (in8 _ (Or.inl rfl))) (FrN_trans (FrN_up (by decide) (in8 _ (Or.inr (Or.inl rfl)))) (FrN_up (by decide) (in8 _ (Or.inr (Or.inr rfl))))))) (fun r q1 q2 q3 => by rw [aUp_row q3, aUp_row q2, aUp_row q1]; exact u1 r q1 q2 q3) (fun c hc => ?_)
        rcases (by omega : c < i ∨ c = i) with y | y
        · rw [aUp_ne (by omega), aUp_ne (by omega), aUp_ne (by omega), aUp_ne (by omega), aUp_ne (by omega), aUp_ne (by omega), aUp_ne (by omega), aUp_ne (by omega), aUp_ne (by omega)]; exact u2 c y
        · subst y
          rw [aUp_row (show 218 ≠ 220 by decide), aUp_row (show 218 ≠ 219 by decide), aUp_at, aUp_row (show 219 ≠ 220 by decide), aUp_at, aUp_at]; exact ⟨rfl, rfl, rfl⟩
  exact lp 8 0 D5 (by omega) FrN_refl (fun _ _ _ _ => rfl) (fun c hc => absurd hc (Nat.not_lt_zero c))
end
