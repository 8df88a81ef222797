/-! ===== conditions: the class's reader ===== -/
def FrX (T : Nat) (D D' : Nat → Int → Int) : Prop := (∀ r, r ≠ 2 → r ≠ 5 → r ≠ T → r ≠ T + 7 → D' r = D r) ∧ D' 2 3 = D 2 3 ∧ (∀ j : Int, j ≠ 4 → D' 5 j = D 5 j) ∧ ∀ j : Int, j ≠ 9 → D' T j = D T j
theorem FrX_refl {T : Nat} {D : Nat → Int → Int} : FrX T D D := ⟨fun _ _ _ _ _ => rfl, rfl, fun _ _ => rfl, fun _ _ => rfl⟩
theorem FrX_trans {T : Nat} {A B C : Nat → Int → Int} (h : FrX T A B) (g : FrX T B C) : FrX T A C := ⟨fun r q1 q2 q3 q4 => (g.1 r q1 q2 q3 q4).trans (h.1 r q1 q2 q3 q4), g.2.1.trans h.2.1, fun j q => (g.2.2.1 j q).trans (h.2.2.1 j q), fun j q => (g.2.2.2 j q).trans (h.2.2.2 j q)⟩
theorem FrX_0 {T : Nat} {D D' : Nat → Int → Int} (hT : isT T) (h : Fr0 D D') : FrX T D D' := by
  have hT : T = 8 ∨ T = 129 := hT
  exact ⟨fun r q1 q2 _ _ => h.1 r q1 q2, h.2.1, h.2.2, fun j _ => by rw [h.1 T (by omega) (by omega)]⟩
theorem FrX_TpH {s ws : Int → Int} {n T : Nat} {D D' : Nat → Int → Int} (hT : isT T) (h : FrX T D D') (hH : TpH s n ws D) : TpH s n ws D' := by
  have hT : T = 8 ∨ T = 129 := hT
  exact TpH_keep hH (h.1 3 (by decide) (by decide) (by omega) (by omega)) (h.1 4 (by decide) (by decide) (by omega) (by omega)) h.2.1
/-- a condition was read from token k on: its steps lie from c on -/
def ExC (s ws : Int → Int) (n T : Nat) (c : Nat) (D : Nat → Int → Int) (r : RE) (w : Int) (D' : Nat → Int → Int) : Prop := FrX T D D' ∧ 0 ≤ D' T 9 ∧ (r.1 = 0 → w = 1 ∧ AtC s n ws r.2.1 D' ∧ D' T 9 = c + r.2.2.length ∧ EncL (D' (T + 7)) c r.2.2 ∧ ∀ j : Int, j < c → D' (T + 7) j = D (T + 7) j) ∧ (r.1 ≠ 0 → w = 0 ∧ D' 5 4 = r.1)
theorem AtC_keep {s ws : Int → Int} {n k : Nat} {D D' : Nat → Int → Int} (h : AtC s n ws k D) (h2 : D' 2 = D 2) (h5 : D' 5 = D 5) : AtC s n ws k D' := by
  unfold AtC at h ⊢
  rw [h2, h5]; exact h
theorem ExC_op {s ws : Int → Int} {n T c : Nat} {D D1 Da D2 : Nat → Int → Int} {r v : RE} {w y : Int} {x : Int × Int} (hT : isT T) (h1 : ExC s ws n T c D r 1 D1) (r0 : r.1 = 0) (ha : ∀ q, q ≠ 2 → Da q = D1 q) (ha2 : Da 2 3 = D1 2 3) (h2 : ExC s ws n T (c + r.2.2.length) Da v w D2) (v0 : v.1 = 0) (enc : encR x y) : ExC s ws n T c D (v.1, v.2.1, r.2.2 ++ v.2.2 ++ [x]) 1 (aUp (aUp D2 (T + 7) (D2 T 9) y) T 9 (D2 T 9 + 1)) := by
  have hT2 : T = 8 ∨ T = 129 := hT
  obtain ⟨f1, p1, g1, -⟩ := h1
  obtain ⟨f2, p2, g2, -⟩ := h2
  obtain ⟨-, a1, b1, c1, d1⟩ := g1 r0
  obtain ⟨-, a2, b2, c2, d2⟩ := g2 v0
  have fa : FrX T D1 Da := FrX_0 hT (Fr0_tape ha ha2)
  have f12 := FrX_trans f1 (FrX_trans fa f2)
  have e7 : aUp (aUp D2 (T + 7) (D2 T 9) y) T 9 (D2 T 9 + 1) (T + 7) = uF (D2 (T + 7)) (D2 T 9) y := by rw [aUp_row (by omega), aUp_same]
  refine ⟨⟨fun q q1 q2 q3 q4 => by rw [aUp_row q3, aUp_row q4]; exact f12.1 q q1 q2 q3 q4, by rw [aUp_row (by omega), aUp_row (by omega)]; exact f12.2.1, fun j q => by rw [aUp_row (by omega), aUp_row (by omega)]; exact f12.2.2.1 j q, fun j q => by rw [aUp_ne q, aUp_row (by omega)]; exact f12.2.2.2 j q⟩, by rw [aUp_at]; omega, fun _ => ⟨rfl, AtC_keep a2 (by rw [aUp_row (by omega), aUp_row (by omega)]) (by rw [aUp_row (by omega), aUp_row (by omega)]), ?_, ?_, fun j hj => ?_⟩, fun q => absurd v0 q⟩
  · rw [aUp_at, b2]
    show ((c + r.2.2.length : Nat) : Int) + v.2.2.length + 1 = c + ((r.2.2 ++ v.2.2 ++ [x]).length : Nat)
    rw [List.length_append, List.length_append, List.length_cons, List.length_nil]; omega
  · show EncL _ c (r.2.2 ++ v.2.2 ++ [x])
    rw [EncL_app, EncL_app, e7, List.length_append]
    refine ⟨⟨EncL_congr (fun j j1 j2 => ?_) c1, ?_⟩, ⟨?_, trivial⟩⟩
    · rw [uF_ne (by omega), d2 j (by omega), ha _ (by omega)]
    · refine EncL_congr (fun j j1 j2 => ?_) c2
      rw [uF_ne (by omega)]
    · rw [show (c : Int) + ((r.2.2.length + v.2.2.length : Nat) : Int) = D2 T 9 by omega, uF_at]; exact enc
  · rw [e7, uF_ne (by omega), d2 j (by omega), ha _ (by omega)]; exact d1 j hj
theorem enc_op {j : Nat} {c : Int} (h : lvOk j c = true) : encR (opE c, 0) (-c) := by
  refine Or.inr (Or.inr (Or.inr ?_))
  rw [Int.neg_neg]
  unfold lvOk at h
  show jkR (opE c) c
  unfold jkR opE
  split at h
  · have := of_decide_eq_true h; (repeat' split) <;> omega
  split at h
  · have := of_decide_eq_true h; (repeat' split) <;> omega
  · have := of_decide_eq_true h; (repeat' split) <;> omega
section
variable {G : aCX} {l : Launch} {d : Nat} {K : Nat → aKd} {D : Nat → Int → Int} {z : Nat × Nat} {P : Int → aSt → Prop}
theorem v_addCode {T : Nat} {x : Int} (hk : Kn K) (hT : isT T) (h0 : 0 ≤ D T 9) (k1 : D T 9 < 1500 → P 0 (K, aUp (aUp D (T + 7) (D T 9) x) T 9 (D T 9 + 1), z)) (k0 : ¬ D T 9 < 1500 → P 0 (K, D, z)) : VM G l d iX8_addCode [rf T, (0, x)] (K, D, z) P := by
  have hT2 : T = 8 ∨ T = 129 := hT
  have e : aUp D (T + 7) (D T 9) x T 9 = D T 9 := by rw [aUp_row (by omega)]
  refine VM_go (tg2 rfl) (Nat.le_of_ble_eq_true rfl) ?_
  refine s_al0 rfl ?_
  refine s_gi rfl (KT hk hT) rfl ?_
  refine s_ic rfl ?_
  refine s_cge rfl ?_ ?_
  · intro h7
    refine s_retv rfl rfl ?_
    first | exact k1 (by omega) | exact k0 (by omega)
  · intro h7
    refine s_al0 rfl ?_
    refine s_gf rfl (KT hk hT) rfl rfl ?_
    refine s_al0 rfl ?_
    refine s_gi rfl (KT hk hT) rfl ?_
    refine s_il1 rfl ?_
    refine s_iast rfl (hT.elim (fun h => by subst h; exact hk.at rfl rfl) (fun h => by subst h; exact hk.at rfl rfl)) (by omega) ?_
    refine s_al0 rfl ?_
    refine s_dup rfl (by first | decide | (show (2 : Nat) ≠ 1; decide)) ?_
    refine s_gi rfl (KT hk hT) rfl ?_
    rw [e]
    refine s_ic rfl ?_
    refine s_iadd rfl ⟨by omega, by omega⟩ ?_
    refine s_pi rfl (KT hk hT) rfl ?_
    refine s_retv rfl rfl ?_
    first | exact k1 (by omega) | exact k0 (by omega)
theorem v_isFact {c : Int} (kk : P (if 28 ≤ c ∧ c ≤ 32 then 1 else 0) (K, D, z)) : VM G l d iX4_isFact [(0, c)] (K, D, z) P := by
  refine VM_go (tg2 rfl) (Nat.le_of_ble_eq_true rfl) ?_
  refine s_il0 rfl ?_
  refine s_ic rfl ?_
  refine s_ceq rfl ?_ ?_
  · intro h3
    refine s_ic rfl ?_
    refine s_go rfl ?_
    refine s_retz rfl rfl (by omega) ?_
    first | (rw [if_pos (by omega)] at kk; exact kk) | (rw [if_neg (by omega)] at kk; exact kk)
  · intro h3
    refine s_il0 rfl ?_
    refine s_ic rfl ?_
    refine s_ceq rfl ?_ ?_
    · intro h9
      refine s_ic rfl ?_
      refine s_go rfl ?_
      refine s_retz rfl rfl (by omega) ?_
      first | (rw [if_pos (by omega)] at kk; exact kk) | (rw [if_neg (by omega)] at kk; exact kk)
    · intro h9
      refine s_il0 rfl ?_
      refine s_ic rfl ?_
      refine s_ceq rfl ?_ ?_
      · intro h15
        refine s_ic rfl ?_
        refine s_go rfl ?_
        refine s_retz rfl rfl (by omega) ?_
        first | (rw [if_pos (by omega)] at kk; exact kk) | (rw [if_neg (by omega)] at kk; exact kk)
      · intro h15
        refine s_il0 rfl ?_
        refine s_ic rfl ?_
        refine s_ceq rfl ?_ ?_
        · intro h21
          refine s_ic rfl ?_
          refine s_go rfl ?_
          refine s_retz rfl rfl (by omega) ?_
          first | (rw [if_pos (by omega)] at kk; exact kk) | (rw [if_neg (by omega)] at kk; exact kk)
        · intro h21
          refine s_il0 rfl ?_
          refine s_ic rfl ?_
          refine s_cne rfl ?_ ?_
          · intro h27
            refine s_ic rfl ?_
            refine s_retz rfl rfl (by omega) ?_
            first | (rw [if_pos (by omega)] at kk; exact kk) | (rw [if_neg (by omega)] at kk; exact kk)
          · intro h27
            refine s_ic rfl ?_
            refine s_go rfl ?_
            refine s_retz rfl rfl (by omega) ?_
            first | (rw [if_pos (by omega)] at kk; exact kk) | (rw [if_neg (by omega)] at kk; exact kk)
theorem v_isOfLevel {j : Nat} {lv c : Int} (hj : j ≤ 2) (hlv : lv = 2 - (j : Int)) (kk : P (if lvOk j c = true then 1 else 0) (K, D, z)) : VM G l d iX4_isOfLevel [(0, lv), (0, c)] (K, D, z) P := by
  refine VM_go (tg2 rfl) (Nat.le_of_ble_eq_true rfl) ?_
  refine s_il0 rfl ?_
  refine s_zne rfl ?_ ?_
  · intro h1
    refine s_il0 rfl ?_
    refine s_ic rfl ?_
    refine s_cne rfl ?_ ?_
    · intro h24
      refine s_il0 rfl ?_
      refine s_ic rfl ?_
      refine s_cne rfl ?_ ?_
      · intro h47
        refine s_ic rfl ?_
        refine s_retz rfl rfl (by omega) ?_
        by_cases y : lvOk j c = true
        · rw [if_pos y] at kk; first | exact kk | (exfalso; unfold lvOk at y; (repeat' split at y) <;> (have := of_decide_eq_true y; omega))
        · rw [if_neg y] at kk; first | exact kk | (exfalso; refine y ?_; unfold lvOk; (repeat' split) <;> first | exact decide_eq_true (by omega) | omega)
      · intro h47
        refine s_il1 rfl ?_
        refine s_ic rfl ?_
        refine s_ceq rfl ?_ ?_
        · intro h53
          refine s_ic rfl ?_
          refine s_go rfl ?_
          refine s_retz rfl rfl (by omega) ?_
          by_cases y : lvOk j c = true
          · rw [if_pos y] at kk; first | exact kk | (exfalso; unfold lvOk at y; (repeat' split at y) <;> (have := of_decide_eq_true y; omega))
          · rw [if_neg y] at kk; first | exact kk | (exfalso; refine y ?_; unfold lvOk; (repeat' split) <;> first | exact decide_eq_true (by omega) | omega)
        · intro h53
          refine s_il1 rfl ?_
          refine s_ic rfl ?_
          refine s_cne rfl ?_ ?_
          · intro h59
            refine s_ic rfl ?_
            refine s_retz rfl rfl (by omega) ?_
            by_cases y : lvOk j c = true
            · rw [if_pos y] at kk; first | exact kk | (exfalso; unfold lvOk at y; (repeat' split at y) <;> (have := of_decide_eq_true y; omega))
            · rw [if_neg y] at kk; first | exact kk | (exfalso; refine y ?_; unfold lvOk; (repeat' split) <;> first | exact decide_eq_true (by omega) | omega)
          · intro h59
            refine s_ic rfl ?_
            refine s_go rfl ?_
            refine s_retz rfl rfl (by omega) ?_
            by_cases y : lvOk j c = true
            · rw [if_pos y] at kk; first | exact kk | (exfalso; unfold lvOk at y; (repeat' split at y) <;> (have := of_decide_eq_true y; omega))
            · rw [if_neg y] at kk; first | exact kk | (exfalso; refine y ?_; unfold lvOk; (repeat' split) <;> first | exact decide_eq_true (by omega) | omega)
    · intro h24
      refine s_il1 rfl ?_
      refine s_ic rfl ?_
      refine s_ceq rfl ?_ ?_
      · intro h30
        refine s_ic rfl ?_
        refine s_go rfl ?_
        refine s_retz rfl rfl (by omega) ?_
        by_cases y : lvOk j c = true
        · rw [if_pos y] at kk; first | exact kk | (exfalso; unfold lvOk at y; (repeat' split at y) <;> (have := of_decide_eq_true y; omega))
        · rw [if_neg y] at kk; first | exact kk | (exfalso; refine y ?_; unfold lvOk; (repeat' split) <;> first | exact decide_eq_true (by omega) | omega)
      · intro h30
        refine s_il1 rfl ?_
        refine s_ic rfl ?_
        refine s_cne rfl ?_ ?_
        · intro h36
          refine s_ic rfl ?_
          refine s_retz rfl rfl (by omega) ?_
          by_cases y : lvOk j c = true
          · rw [if_pos y] at kk; first | exact kk | (exfalso; unfold lvOk at y; (repeat' split at y) <;> (have := of_decide_eq_true y; omega))
          · rw [if_neg y] at kk; first | exact kk | (exfalso; refine y ?_; unfold lvOk; (repeat' split) <;> first | exact decide_eq_true (by omega) | omega)
        · intro h36
          refine s_ic rfl ?_
          refine s_go rfl ?_
          refine s_retz rfl rfl (by omega) ?_
          by_cases y : lvOk j c = true
          · rw [if_pos y] at kk; first | exact kk | (exfalso; unfold lvOk at y; (repeat' split at y) <;> (have := of_decide_eq_true y; omega))
          · rw [if_neg y] at kk; first | exact kk | (exfalso; refine y ?_; unfold lvOk; (repeat' split) <;> first | exact decide_eq_true (by omega) | omega)
  · intro h1
    refine s_il1 rfl ?_
    refine s_ic rfl ?_
    refine s_ceq rfl ?_ ?_
    · intro h7
      refine s_ic rfl ?_
      refine s_go rfl ?_
      refine s_retz rfl rfl (by omega) ?_
      by_cases y : lvOk j c = true
      · rw [if_pos y] at kk; first | exact kk | (exfalso; unfold lvOk at y; (repeat' split at y) <;> (have := of_decide_eq_true y; omega))
      · rw [if_neg y] at kk; first | exact kk | (exfalso; refine y ?_; unfold lvOk; (repeat' split) <;> first | exact decide_eq_true (by omega) | omega)
    · intro h7
      refine s_il1 rfl ?_
      refine s_ic rfl ?_
      refine s_cne rfl ?_ ?_
      · intro h13
        refine s_ic rfl ?_
        refine s_retz rfl rfl (by omega) ?_
        by_cases y : lvOk j c = true
        · rw [if_pos y] at kk; first | exact kk | (exfalso; unfold lvOk at y; (repeat' split at y) <;> (have := of_decide_eq_true y; omega))
        · rw [if_neg y] at kk; first | exact kk | (exfalso; refine y ?_; unfold lvOk; (repeat' split) <;> first | exact decide_eq_true (by omega) | omega)
      · intro h13
        refine s_ic rfl ?_
        refine s_go rfl ?_
        refine s_retz rfl rfl (by omega) ?_
        by_cases y : lvOk j c = true
        · rw [if_pos y] at kk; first | exact kk | (exfalso; unfold lvOk at y; (repeat' split at y) <;> (have := of_decide_eq_true y; omega))
        · rw [if_neg y] at kk; first | exact kk | (exfalso; refine y ?_; unfold lvOk; (repeat' split) <;> first | exact decide_eq_true (by omega) | omega)
def VaC (G : aCX) (l : Launch) (K : Nat → aKd) (z : Nat × Nat) (s ws : Int → Int) (n N T g : Nat) : Prop := ∀ (d : Nat), 5 * g + 3 ≤ d → ∀ (P : Int → aSt → Prop) (D : Nat → Int → Int) (k c : Nat), TpH s n ws D → AtC s n ws k D → k ≤ N → D 5 3 = (T : Nat) → D T 9 = c → c ≤ k → (∀ w D', ExC s ws n T c D (vaE (kT s n ws) (nT s n) (pT2 s n) g k) w D' → P w (K, D', z)) → VM G l d iX4_readValue [rf 5, (0, 4 - ((g : Nat) : Int))] (K, D, z) P
def ChC (G : aCX) (l : Launch) (K : Nat → aKd) (z : Nat × Nat) (s ws : Int → Int) (n N T g j : Nat) : Prop := ∀ (d : Nat), 5 * g + 4 + j ≤ d → ∀ (P : Int → aSt → Prop) (D : Nat → Int → Int) (k c : Nat), TpH s n ws D → AtC s n ws k D → k ≤ N → D 5 3 = (T : Nat) → D T 9 = c → c ≤ k → (∀ w D', ExC s ws n T c D (chE (kT s n ws) (vaE (kT s n ws) (nT s n) (pT2 s n) g) j k) w D' → P w (K, D', z)) → VM G l d iX4_readChain [rf 5, (0, 3 - ((j : Nat) : Int)), (0, 4 - ((g : Nat) : Int))] (K, D, z) P
theorem v_readChain {s ws : Int → Int} {n N T g : Nat} (hg : SgR G l) (hk : Kn K) (hT : isT T) (hN : kT s n ws N = 0) (hN15 : N ≤ 1500) (hg4 : g ≤ 4) (hpl : ∀ k, 0 ≤ pT2 s n k) (hv : VaC G l K z s ws n N T g) : ∀ j, j ≤ 3 → ChC G l K z s ws n N T g j := by
  have hT2 : T = 8 ∨ T = 129 := hT
  intro j
  induction j with
  | zero =>
    intro _ d hd P D k c hH hA hkN h53 h9 hck kk
    obtain ⟨d, rfl⟩ : ∃ d', d = d' + 1 := ⟨d - 1, by omega⟩
    refine VM_go (tg2 rfl) (Nat.le_of_ble_eq_true rfl) ?_
    refine s_il1 rfl ?_
    refine s_ic rfl ?_
    refine s_clt rfl ?_ ?_
    · intro h2
      omega
    · intro h2
      refine s_al0 rfl ?_
      refine s_il2 rfl ?_
      refine s_callO rfl rfl (Or.inl rfl) rfl rfl (hk.at rfl rfl) (hv d (by omega) _ D k c hH hA hkN h53 h9 hck (fun w D' hX => ?_))
      show V G l (d + 1) iX4_readChain 10 _ [(0, w)] (K, D', z) P
      have hw : w = 0 ∨ w = 1 := by
        rcases Classical.em ((vaE (kT s n ws) (nT s n) (pT2 s n) g k).1 = 0) with y | y
        · exact Or.inr (hX.2.2.1 y).1
        · exact Or.inl (hX.2.2.2 y).1
      refine s_retz rfl rfl hw ?_
      exact kk w D' hX
  | succ j ih =>
    intro hj d hd P D k c hH hA hkN h53 h9 hck kk
    have ih := ih (by omega)
    obtain ⟨d, rfl⟩ : ∃ d', d = d' + 3 := ⟨d - 3, by omega⟩
    have okU : ∀ k, k ≤ N → OkR N k (chE (kT s n ws) (vaE (kT s n ws) (nT s n) (pT2 s n) g) j k) := ch_ok hN (va_ok hN hpl g) j
    have res : chE (kT s n ws) (vaE (kT s n ws) (nT s n) (pT2 s n) g) (j + 1) k = lpE (kT s n ws) j (chE (kT s n ws) (vaE (kT s n ws) (nT s n) (pT2 s n) g) j) (lvN j) (chE (kT s n ws) (vaE (kT s n ws) (nT s n) (pT2 s n) g) j k) := rfl
    generalize hU : chE (kT s n ws) (vaE (kT s n ws) (nT s n) (pT2 s n) g) j = U at *
    have lz : (3 : Int) - ((j + 1 : Nat) : Int) + 1 = 3 - (j : Int) := by omega
    have loop : ∀ (f i : Nat) (D1 : Nat → Int → Int) (r : RE) (u5 : aTV), i + f = lvN j → r.1 = 0 → OkR N k r → ExC s ws n T c D r 1 D1 → lpE (kT s n ws) j U f r = chE (kT s n ws) (vaE (kT s n ws) (nT s n) (pT2 s n) g) (j + 1) k → V G l (d + 3) iX4_readChain 40 [rf 5, (0, 3 - ((j + 1 : Nat) : Int)), (0, 4 - ((g : Nat) : Int)), (0, (lvN j : Int)), (0, (i : Int)), u5] [] (K, D1, z) P := by
      intro f
      have l15 : lvN j ≤ 1500 := by unfold lvN; split <;> omega
      induction f with
      | zero =>
        intro i D1 r u5 hif r0 hok hX he
        have hi : i = lvN j := by omega
        subst hi
        refine s_il4 rfl ?_
        refine s_il3 rfl ?_
        refine s_cge rfl ?_ ?_
        · intro h43
          refine s_ic rfl ?_
          refine s_retz rfl rfl (Or.inr rfl) ?_
          refine kk 1 D1 ?_
          rw [← he]; exact hX
        · intro h43
          omega
      | succ f ihf =>
        intro i D1 r u5 hif r0 hok hX he
        obtain ⟨x1, x2, x3, -⟩ := id hX
        obtain ⟨-, y1, y2, y3, y4⟩ := x3 r0
        have e4 : D1 2 4 = kT s n ws r.2.1 := y1.2.2.1
        have hH1 := FrX_TpH hT x1 hH
        obtain ⟨o1, o2, o3⟩ := hok.2 r0
        have hkin := kdF_in (s := s) (n := n) (ws := ws) (p := tpF s n r.2.1)
        have hkin : 0 ≤ kT s n ws r.2.1 ∧ kT s n ws r.2.1 ≤ 32 := hkin
        rw [lpE] at he
        refine s_il4 rfl ?_
        refine s_il3 rfl ?_
        refine s_cge rfl ?_ ?_
        · intro h43
          omega
        · intro h43
          refine s_il1 rfl ?_
          refine s_al0 rfl ?_
          refine s_gf rfl (hk.at rfl rfl) rfl rfl ?_
          refine s_gi rfl (hk.at rfl rfl) rfl ?_
          rw [e4]
          refine s_callS rfl rfl rfl rfl (v_isOfLevel (j := j) (by omega) (by omega) ?_)
          show V G l (d + 3) iX4_readChain 57 [rf 5, (0, 3 - ((j + 1 : Nat) : Int)), (0, 4 - ((g : Nat) : Int)), (0, (lvN j : Int)), (0, (i : Int)), u5] [(0, if lvOk j (kT s n ws r.2.1) = true then 1 else 0)] (K, D1, z) P
          generalize hc : (if lvOk j (kT s n ws r.2.1) = true then (1 : Int) else 0) = cc
          refine s_zeq rfl ?_ ?_
          · intro h57
            have nl : ¬ lvOk j (kT s n ws r.2.1) = true := fun q => by rw [if_pos q] at hc; omega
            rw [if_neg (fun q => nl q.2)] at he
            refine s_ic rfl ?_
            refine s_retz rfl rfl (Or.inr rfl) ?_
            refine kk 1 D1 ?_
            rw [← he]; exact hX
          · intro h57
            have nl : lvOk j (kT s n ws r.2.1) = true := Classical.byContradiction fun q => by rw [if_neg q] at hc; omega
            rw [if_pos ⟨r0, nl⟩] at he
            have hlt : r.2.1 < N := by
              rcases (by omega : r.2.1 < N ∨ r.2.1 = N) with y | y
              · exact y
              · rw [y, hN] at nl; exact absurd rfl (lvOk_0 nl).1
            have hu := okU (r.2.1 + 1) (by omega)
            refine s_al0 rfl ?_
            refine s_gf rfl (hk.at rfl rfl) rfl rfl ?_
            refine s_gi rfl (hk.at rfl rfl) rfl ?_
            rw [e4]
            refine s_is5 rfl rfl ?_
            refine s_al0 rfl ?_
            refine s_gf rfl (hk.at rfl rfl) rfl rfl ?_
            refine s_callO rfl rfl (Or.inl rfl) rfl rfl (hk.at rfl rfl) (v_adv (s := s) (ws := ws) (n := n) (k := r.2.1) hg hk hH1 y1 (fun Da g1 g2 g3 => ?_))
            have hHa := TpH_keep hH1 (g1 3 (by decide)) (g1 4 (by decide)) g2
            show V G l (d + 3) iX4_readChain 76 [rf 5, (0, 3 - ((j + 1 : Nat) : Int)), (0, 4 - ((g : Nat) : Int)), (0, (lvN j : Int)), (0, (i : Int)), (0, kT s n ws r.2.1)] [] (K, Da, z) P
            refine s_al0 rfl ?_
            refine s_il1 rfl ?_
            refine s_ic rfl ?_
            refine s_iadd rfl ⟨by omega, by omega⟩ ?_
            rw [lz]
            refine s_il2 rfl ?_
            refine s_callO rfl rfl (Or.inl rfl) rfl rfl (hk.at rfl rfl) (ih (d + 2) (by omega) _ Da (r.2.1 + 1) (c + r.2.2.length) hHa g3 (by omega) (by rw [g1 5 (by decide), x1.2.2.1 3 (by decide)]; exact h53) (by rw [g1 T (by omega), y2]; omega) (by omega) (fun w D2 hX2 => ?_))
            rw [hU] at hX2
            show V G l (d + 3) iX4_readChain 84 [rf 5, (0, 3 - ((j + 1 : Nat) : Int)), (0, 4 - ((g : Nat) : Int)), (0, (lvN j : Int)), (0, (i : Int)), (0, kT s n ws r.2.1)] [(0, w)] (K, D2, z) P
            refine s_zne rfl ?_ ?_
            · intro h84
              have v0 : (U (r.2.1 + 1)).1 = 0 := Classical.byContradiction fun y => h84 (hX2.2.2.2 y).1
              obtain ⟨-, v1, v2, v3, v4⟩ := hX2.2.2.1 v0
              obtain ⟨u1, u2, u3⟩ := hu.2 v0
              refine s_al0 rfl ?_
              refine s_gr rfl (hk.at rfl rfl) rfl ?_
              rw [show D2 5 3 = (T : Nat) by rw [hX2.1.2.2.1 3 (by decide), g1 5 (by decide), x1.2.2.1 3 (by decide)]; exact h53]
              refine s_il5 rfl ?_
              refine s_ineg rfl ⟨by omega, by omega⟩ ?_
              refine s_callO rfl rfl (Or.inl rfl) rfl rfl (KT hk hT) (v_addCode hk hT hX2.2.1 (fun q9 => ?_) (fun q9 => by omega))
              show V G l (d + 3) iX4_readChain 99 [rf 5, (0, 3 - ((j + 1 : Nat) : Int)), (0, 4 - ((g : Nat) : Int)), (0, (lvN j : Int)), (0, (i : Int)), (0, kT s n ws r.2.1)] [] (K, aUp (aUp D2 (T + 7) (D2 T 9) (-kT s n ws r.2.1)) T 9 (D2 T 9 + 1), z) P
              refine s_iinc4 rfl rfl ⟨by omega, by omega⟩ ?_
              refine s_go rfl ?_
              have st := ExC_op (x := (opE (kT s n ws r.2.1), 0)) (y := -kT s n ws r.2.1) hT hX r0 g1 g2 hX2 v0 (enc_op nl)
              refine ihf (i + 1) _ ((U (r.2.1 + 1)).1, (U (r.2.1 + 1)).2.1, r.2.2 ++ (U (r.2.1 + 1)).2.2 ++ [(opE (kT s n ws r.2.1), 0)]) _ (by omega) v0 ⟨hu.1, fun y => ⟨by show k < (U (r.2.1 + 1)).2.1; omega, u2, ?_⟩⟩ st he
              show (r.2.2 ++ (U (r.2.1 + 1)).2.2 ++ [(opE (kT s n ws r.2.1), 0)]).length + k ≤ (U (r.2.1 + 1)).2.1
              rw [List.length_append, List.length_append, List.length_cons, List.length_nil]; omega
            · intro h84
              have vf : ¬ (U (r.2.1 + 1)).1 = 0 := fun y => by have := (hX2.2.2.1 y).1; omega
              obtain ⟨b1, b2⟩ := hX2.2.2.2 vf
              refine s_ic rfl ?_
              refine s_retz rfl rfl (Or.inl rfl) ?_
              refine kk 0 D2 ?_
              have e : lpE (kT s n ws) j U f ((U (r.2.1 + 1)).1, (U (r.2.1 + 1)).2.1, r.2.2 ++ (U (r.2.1 + 1)).2.2 ++ [(opE (kT s n ws r.2.1), 0)]) = ((U (r.2.1 + 1)).1, (U (r.2.1 + 1)).2.1, r.2.2 ++ (U (r.2.1 + 1)).2.2 ++ [(opE (kT s n ws r.2.1), 0)]) := by
                cases f with
                | zero => rfl
                | succ f => rw [lpE, if_neg (fun q => vf q.1)]
              rw [← he, e]
              exact ⟨FrX_trans x1 (FrX_trans (FrX_0 hT (Fr0_tape g1 g2)) hX2.1), hX2.2.1, fun q => absurd q vf, fun _ => ⟨rfl, b2⟩⟩
    refine VM_go (tg2 rfl) (Nat.le_of_ble_eq_true rfl) ?_
    refine s_il1 rfl ?_
    refine s_ic rfl ?_
    refine s_clt rfl ?_ ?_
    · intro h2
      refine s_al0 rfl ?_
      refine s_il1 rfl ?_
      refine s_ic rfl ?_
      refine s_iadd rfl ⟨by omega, by omega⟩ ?_
      rw [lz]
      refine s_il2 rfl ?_
      refine s_callO rfl rfl (Or.inl rfl) rfl rfl (hk.at rfl rfl) (ih (d + 2) (by omega) _ D k c hH hA hkN h53 h9 hck (fun w D1 hX => ?_))
      rw [hU] at hX
      show V G l (d + 3) iX4_readChain 19 [rf 5, (0, 3 - ((j + 1 : Nat) : Int)), (0, 4 - ((g : Nat) : Int)), (9, 0), (9, 0), (9, 0)] [(0, w)] (K, D1, z) P
      refine s_zne rfl ?_ ?_
      · intro h19
        have v0 : (U k).1 = 0 := Classical.byContradiction fun y => h19 (hX.2.2.2 y).1
        have hw := (hX.2.2.1 v0).1
        subst hw
        refine s_il1 rfl ?_
        refine s_ic rfl ?_
        refine s_cne rfl ?_ ?_
        · intro h26
          have e : (lvN j : Int) = 1500 := by unfold lvN; rw [if_neg (by omega)]; rfl
          refine s_ic rfl ?_
          refine s_is3 rfl rfl ?_
          refine s_ic rfl ?_
          refine s_is4 rfl rfl ?_
          have lp := loop (lvN j) 0 D1 (U k) (9, 0) (by omega) v0 (okU k hkN) hX res.symm
          rw [e] at lp
          exact lp
        · intro h26
          have e : (lvN j : Int) = 1 := by unfold lvN; rw [if_pos (by omega)]; rfl
          refine s_ic rfl ?_
          refine s_go rfl ?_
          refine s_is3 rfl rfl ?_
          refine s_ic rfl ?_
          refine s_is4 rfl rfl ?_
          have lp := loop (lvN j) 0 D1 (U k) (9, 0) (by omega) v0 (okU k hkN) hX res.symm
          rw [e] at lp
          exact lp
      · intro h19
        have vf : ¬ (U k).1 = 0 := fun y => by have := (hX.2.2.1 y).1; omega
        refine s_ic rfl ?_
        refine s_retz rfl rfl (Or.inl rfl) ?_
        refine kk 0 D1 ?_
        have e : lpE (kT s n ws) j U (lvN j) (U k) = U k := by
          have : lvN j = (lvN j - 1) + 1 := by unfold lvN; split <;> omega
          rw [this, lpE, if_neg (fun q => vf q.1)]
        rw [res, e]
        exact ⟨hX.1, hX.2.1, fun q => absurd q vf, fun q => ⟨rfl, (hX.2.2.2 q).2⟩⟩
    · intro h2
      omega
theorem v_readValue {s ws : Int → Int} {n N T : Nat} (hg : SgR G l) (hk : Kn K) (hT : isT T) (hN : kT s n ws N = 0) (hN15 : N ≤ 1500) (hpl : ∀ k, 0 ≤ pT2 s n k) (hnu : ∀ k, kT s n ws k = 2 → 0 ≤ nT s n k ∧ nT s n k ≤ 999999) : ∀ g, g ≤ 4 → VaC G l K z s ws n N T g := by
  have hT2 : T = 8 ∨ T = 129 := hT
  intro g
  induction g with
  | zero =>
    intro _
    intro d hd P D k c hH hA hkN h53 h9 hck kk
    obtain ⟨d, rfl⟩ : ∃ d', d = d' + 3 := ⟨d - 3, by omega⟩
    have e4 : D 2 4 = kT s n ws k := hA.2.2.1
    have hp := hpl k
    have hkin := kdF_in (s := s) (n := n) (ws := ws) (p := tpF s n k)
    have hkin : 0 ≤ kT s n ws k ∧ kT s n ws k ≤ 32 := hkin
    have hnu := hnu k
    have at47 : ∀ x : Int, (x = 1 ∧ (kT s n ws k = 2 ∨ 28 ≤ kT s n ws k)) ∨ (x = 0 ∧ (kT s n ws k = 27 ∨ kT s n ws k = 4)) → V G l (d + 3) iX4_readValue 47 [rf 5, (0, 4 - ((0 : Nat) : Int)), (0, kT s n ws k), (0, x), (9, 0)] [] (K, D, z) P := by
      intro x hx
      refine s_il1 rfl ?_
      refine s_ic rfl ?_
      refine s_clt rfl ?_ ?_
      · intro h49
        omega
      · intro h49
        refine s_al0 rfl ?_
        refine s_ic rfl ?_
        refine s_callO rfl rfl (Or.inl rfl) rfl rfl (hk.at rfl rfl) (v_fail (c := 5) hk hH hA (by decide) ?_)
        show V G l (d + 3) iX4_readValue 57 _ [(0, 0)] (K, _, z) P
        refine s_retz rfl rfl (Or.inl rfl) ?_
        refine kk 0 _ ?_
        have e : vaE (kT s n ws) (nT s n) (pT2 s n) 0 k = (5 + 16 * pT2 s n k, k, []) := by rw [vaE, if_pos (by omega)]
        rw [e]
        exact ⟨FrX_0 hT Fr0_fault, by rw [aUp_row (by omega), h9]; omega, (fun q => by have q : 5 + 16 * pT2 s n k = 0 := q; omega), fun _ => ⟨rfl, aUp_at⟩⟩
    refine VM_go (tg2 rfl) (Nat.le_of_ble_eq_true rfl) ?_
    refine s_al0 rfl ?_
    refine s_gf rfl (hk.at rfl rfl) rfl rfl ?_
    refine s_gi rfl (hk.at rfl rfl) rfl ?_
    rw [e4]
    refine s_is2 rfl rfl ?_
    refine s_il2 rfl ?_
    refine s_ic rfl ?_
    refine s_ceq rfl ?_ ?_
    · intro h10
      refine s_ic rfl ?_
      refine s_go rfl ?_
      refine s_is3 rfl rfl ?_
      refine s_il3 rfl ?_
      refine s_zne rfl (fun _ => ?_) (fun q => absurd q (by decide))
      exact at47 1 (Or.inl ⟨rfl, Or.inl h10⟩)
    · intro h10
      refine s_il2 rfl ?_
      refine s_callS rfl rfl rfl rfl (v_isFact ?_)
      show V G l (d + 3) iX4_readValue 17 [rf 5, (0, 4 - ((0 : Nat) : Int)), (0, kT s n ws k), (9, 0), (9, 0)] [(0, if 28 ≤ kT s n ws k ∧ kT s n ws k ≤ 32 then 1 else 0)] (K, D, z) P
      generalize hc : (if 28 ≤ kT s n ws k ∧ kT s n ws k ≤ 32 then (1 : Int) else 0) = cc
      refine s_zeq rfl ?_ ?_
      · intro h17
        have nf : ¬ (28 ≤ kT s n ws k ∧ kT s n ws k ≤ 32) := fun q => by rw [if_pos q] at hc; omega
        refine s_ic rfl ?_
        refine s_is3 rfl rfl ?_
        refine s_il3 rfl ?_
        refine s_zne rfl ?_ ?_
        · intro h27
          exact absurd rfl h27
        · intro h27
          refine s_il2 rfl ?_
          refine s_ic rfl ?_
          refine s_ceq rfl ?_ ?_
          · intro h33
            exact at47 0 (Or.inr ⟨rfl, Or.inl h33⟩)
          · intro h33
            refine s_il2 rfl ?_
            refine s_ic rfl ?_
            refine s_ceq rfl ?_ ?_
            · intro h38
              exact at47 0 (Or.inr ⟨rfl, Or.inr h38⟩)
            · intro h38
              refine s_al0 rfl ?_
              refine s_ic rfl ?_
              refine s_callO rfl rfl (Or.inl rfl) rfl rfl (hk.at rfl rfl) (v_fail (c := 1) hk hH hA (by decide) ?_)
              show V G l (d + 3) iX4_readValue 46 _ [(0, 0)] (K, _, z) P
              refine s_retz rfl rfl (Or.inl rfl) ?_
              refine kk 0 _ ?_
              have e : vaE (kT s n ws) (nT s n) (pT2 s n) 0 k = (1 + 16 * pT2 s n k, k, []) := by rw [vaE, if_neg (by omega)]
              rw [e]
              exact ⟨FrX_0 hT Fr0_fault, by rw [aUp_row (by omega), h9]; omega, (fun q => by have q : 1 + 16 * pT2 s n k = 0 := q; omega), fun _ => ⟨rfl, aUp_at⟩⟩
      · intro h17
        have nf : 28 ≤ kT s n ws k ∧ kT s n ws k ≤ 32 := Decidable.byContradiction fun q => by rw [if_neg q] at hc; omega
        refine s_ic rfl ?_
        refine s_go rfl ?_
        refine s_is3 rfl rfl ?_
        refine s_il3 rfl ?_
        refine s_zne rfl (fun _ => ?_) (fun q => absurd q (by decide))
        exact at47 1 (Or.inl ⟨rfl, Or.inr nf.1⟩)
  | succ g ih =>
    intro hg4
    have ih := ih (by omega)
    have hch := v_readChain hg hk hT hN hN15 (by omega) hpl ih
    intro d hd P D k c hH hA hkN h53 h9 hck kk
    obtain ⟨d, rfl⟩ : ∃ d', d = d' + 3 := ⟨d - 3, by omega⟩
    have e4 : D 2 4 = kT s n ws k := hA.2.2.1
    have hp := hpl k
    have hkin := kdF_in (s := s) (n := n) (ws := ws) (p := tpF s n k)
    have hkin : 0 ≤ kT s n ws k ∧ kT s n ws k ≤ 32 := hkin
    have hnu := hnu k
    have at47 : ∀ x : Int, (x = 1 ∧ (kT s n ws k = 2 ∨ 28 ≤ kT s n ws k)) ∨ (x = 0 ∧ (kT s n ws k = 27 ∨ kT s n ws k = 4)) → V G l (d + 3) iX4_readValue 47 [rf 5, (0, 4 - ((g + 1 : Nat) : Int)), (0, kT s n ws k), (0, x), (9, 0)] [] (K, D, z) P := by
      intro x hx
      have plain : ∀ y : Int, x = 1 → encR (if kT s n ws k = 2 then (1, nT s n k) else (2, kT s n ws k - 28)) y → kT s n ws k ≠ 27 → V G l (d + 3) iX4_readValue 83 [rf 5, (0, 4 - ((g + 1 : Nat) : Int)), (0, kT s n ws k), (0, x), (9, 0)] [(0, y), rf T] (K, D, z) P := by
        intro y hx1 hy hn27
        subst hx1
        have hlt : k < N := by
          rcases (by omega : k < N ∨ k = N) with y | y
          · exact y
          · rw [← y] at hN; omega
        have e : vaE (kT s n ws) (nT s n) (pT2 s n) (g + 1) k = (0, k + 1, [if kT s n ws k = 2 then (1, nT s n k) else (2, kT s n ws k - 28)]) := by
          rw [vaE]
          by_cases q : kT s n ws k = 2
          · rw [if_pos q, if_pos q]
          · rw [if_neg q, if_pos (by omega), if_neg q]
        refine s_callO rfl rfl (Or.inl rfl) rfl rfl (KT hk hT) (v_addCode hk hT (by omega) (fun _ => ?_) (fun q => by omega))
        show V G l (d + 3) iX4_readValue 86 _ [] (K, aUp (aUp D (T + 7) (D T 9) y) T 9 (D T 9 + 1), z) P
        refine s_al0 rfl ?_
        refine s_gf rfl (hk.at rfl rfl) rfl rfl ?_
        refine s_callO rfl rfl (Or.inl rfl) rfl rfl (hk.at rfl rfl) (v_adv (s := s) (ws := ws) (n := n) (k := k) hg hk (TpH_keep hH (by rw [aUp_row (by omega), aUp_row (by omega)]) (by rw [aUp_row (by omega), aUp_row (by omega)]) (by rw [aUp_row (by omega), aUp_row (by omega)])) (AtC_keep hA (by rw [aUp_row (by omega), aUp_row (by omega)]) (by rw [aUp_row (by omega), aUp_row (by omega)])) (fun D' g1 g2 g3 => ?_))
        show V G l (d + 3) iX4_readValue 93 _ [] (K, D', z) P
        refine s_il2 rfl ?_
        refine s_ic rfl ?_
        refine s_cne rfl ?_ ?_
        · intro h96
          refine s_il3 rfl ?_
          refine s_zne rfl ?_ ?_
          · intro h121
            refine s_ic rfl ?_
            refine s_go rfl ?_
            refine s_retz rfl rfl (Or.inr rfl) ?_
            refine kk 1 D' ?_
            rw [e]
            have e7 : D' (T + 7) = uF (D (T + 7)) (D T 9) y := by rw [g1 _ (by omega), aUp_row (by omega), aUp_same]
            have e9 : D' T 9 = D T 9 + 1 := by rw [g1 _ (by omega), aUp_at]
            refine ⟨⟨fun q q1 q2 q3 q4 => by rw [g1 q q1, aUp_row q3, aUp_row q4], by rw [g2, aUp_row (by omega), aUp_row (by omega)], fun j q => by rw [g1 5 (by omega), aUp_row (by omega), aUp_row (by omega)], fun j q => by rw [g1 T (by omega), aUp_ne q, aUp_row (by omega)]⟩, by rw [e9]; omega, fun _ => ⟨rfl, g3, by rw [e9, h9]; rfl, ⟨?_, trivial⟩, fun j hj => by rw [e7, uF_ne (by omega)]⟩, fun q => absurd rfl q⟩
            rw [e7, ← h9, uF_at]; exact hy
          · intro h121
            exact absurd h121 (by decide)
        · intro h96
          exact absurd h96 hn27
      refine s_il1 rfl ?_
      refine s_ic rfl ?_
      refine s_clt rfl ?_ ?_
      · intro h49
        refine s_il3 rfl ?_
        refine s_zeq rfl ?_ ?_
        · intro h59
          have hx0 : x = 0 := h59
          refine s_al0 rfl ?_
          refine s_gf rfl (hk.at rfl rfl) rfl rfl ?_
          refine s_callO rfl rfl (Or.inl rfl) rfl rfl (hk.at rfl rfl) (v_adv (s := s) (ws := ws) (n := n) (k := k) hg hk hH hA (fun D1 g1 g2 g3 => ?_))
          have hH1 := TpH_keep hH (g1 3 (by decide)) (g1 4 (by decide)) g2
          have hf1 : FrX T D D1 := FrX_0 hT (Fr0_tape g1 g2)
          have h531 : D1 5 3 = (T : Nat) := by rw [g1 5 (by decide)]; exact h53
          have h91 : D1 T 9 = c := by rw [g1 T (by omega)]; exact h9
          have hlt : k < N := by
            rcases (by omega : k < N ∨ k = N) with y | y
            · exact y
            · rw [← y] at hN; omega
          show V G l (d + 3) iX4_readValue 93 [rf 5, (0, 4 - ((g + 1 : Nat) : Int)), (0, kT s n ws k), (0, x), (9, 0)] [] (K, D1, z) P
          refine s_il2 rfl ?_
          refine s_ic rfl ?_
          refine s_cne rfl ?_ ?_
          · intro h96
            refine s_il3 rfl ?_
            refine s_zne rfl ?_ ?_
            · intro h121
              exact absurd hx0 h121
            · intro h121
              have dz : (4 : Int) - ((g + 1 : Nat) : Int) + 1 = 4 - (g : Int) := by omega
              have e : vaE (kT s n ws) (nT s n) (pT2 s n) (g + 1) k = (if (chE (kT s n ws) (vaE (kT s n ws) (nT s n) (pT2 s n) g) 3 (k + 1)).1 = 0 then (if kT s n ws (chE (kT s n ws) (vaE (kT s n ws) (nT s n) (pT2 s n) g) 3 (k + 1)).2.1 = 5 then (0, (chE (kT s n ws) (vaE (kT s n ws) (nT s n) (pT2 s n) g) 3 (k + 1)).2.1 + 1, (chE (kT s n ws) (vaE (kT s n ws) (nT s n) (pT2 s n) g) 3 (k + 1)).2.2) else (1 + 16 * pT2 s n (chE (kT s n ws) (vaE (kT s n ws) (nT s n) (pT2 s n) g) 3 (k + 1)).2.1, (chE (kT s n ws) (vaE (kT s n ws) (nT s n) (pT2 s n) g) 3 (k + 1)).2.1, [])) else chE (kT s n ws) (vaE (kT s n ws) (nT s n) (pT2 s n) g) 3 (k + 1)) := by rw [vaE, if_neg (by omega), if_neg (by omega), if_neg (by omega), if_pos (by omega)]
              refine s_al0 rfl ?_
              refine s_ic rfl ?_
              refine s_il1 rfl ?_
              refine s_ic rfl ?_
              refine s_iadd rfl ⟨by omega, by omega⟩ ?_
              rw [dz]
              refine s_callO rfl rfl (Or.inl rfl) rfl rfl (hk.at rfl rfl) (hch 3 (by omega) (d + 2) (by omega) _ D1 (k + 1) c hH1 g3 (by omega) h531 h91 (by omega) (fun w D2 hX => ?_))
              show V G l (d + 3) iX4_readValue 132 [rf 5, (0, 4 - ((g + 1 : Nat) : Int)), (0, kT s n ws k), (0, x), (9, 0)] [(0, w)] (K, D2, z) P
              generalize chE (kT s n ws) (vaE (kT s n ws) (nT s n) (pT2 s n) g) 3 (k + 1) = r at e hX
              obtain ⟨x1, x2, x3, x4⟩ := hX
              refine s_zeq rfl ?_ ?_
              · intro h132
                have y : ¬ r.1 = 0 := fun y => by have := (x3 y).1; omega
                refine s_ic rfl ?_
                refine s_retz rfl rfl (Or.inl rfl) ?_
                refine kk 0 D2 ?_
                rw [e, if_neg y]
                exact ⟨FrX_trans hf1 x1, x2, fun q => absurd q y, fun q => ⟨rfl, (x4 q).2⟩⟩
              · intro h132
                have y : r.1 = 0 := Classical.byContradiction fun y => h132 (x4 y).1
                obtain ⟨-, y1, y2, y3, y4⟩ := x3 y
                rw [if_pos y] at e
                refine s_al0 rfl ?_
                refine s_ic rfl ?_
                refine s_callO rfl rfl (Or.inl rfl) rfl rfl (hk.at rfl rfl) (v_take hg hk (FrX_TpH hT x1 hH1) y1 (fun y5 D3 z1 z2 => ?_) (fun y5 => ?_))
                · show V G l (d + 3) iX4_readValue 140 [rf 5, (0, 4 - ((g + 1 : Nat) : Int)), (0, kT s n ws k), (0, x), (9, 0)] [(0, 1)] (K, D3, z) P
                  refine s_zeq rfl (fun q => absurd q (by decide)) (fun _ => ?_)
                  refine s_ic rfl ?_
                  refine s_go rfl ?_
                  refine s_retz rfl rfl (Or.inr rfl) ?_
                  refine kk 1 D3 ?_
                  rw [e, if_pos y5]
                  have r7 : D3 (T + 7) = D2 (T + 7) := z1.1 _ (by omega) (by omega)
                  refine ⟨FrX_trans hf1 (FrX_trans x1 (FrX_0 hT z1)), by rw [z1.1 T (by omega) (by omega)]; exact x2, fun _ => ⟨rfl, z2, by rw [z1.1 T (by omega) (by omega)]; exact y2, by rw [r7]; exact y3, fun j hj => by rw [r7, y4 j hj, g1 _ (by omega)]⟩, fun q => absurd rfl q⟩
                · show V G l (d + 3) iX4_readValue 140 [rf 5, (0, 4 - ((g + 1 : Nat) : Int)), (0, kT s n ws k), (0, x), (9, 0)] [(0, 0)] (K, _, z) P
                  refine s_zeq rfl (fun _ => ?_) (fun q => absurd rfl q)
                  refine s_ic rfl ?_
                  refine s_retz rfl rfl (Or.inl rfl) ?_
                  refine kk 0 _ ?_
                  rw [e, if_neg y5]
                  have hp := hpl r.2.1
                  exact ⟨FrX_trans hf1 (FrX_trans x1 (FrX_0 hT Fr0_fault)), by rw [aUp_row (by omega)]; exact x2, (fun q => by have q : 1 + 16 * pT2 s n r.2.1 = 0 := q; omega), fun _ => ⟨rfl, aUp_at⟩⟩
          · intro h96
            have dz : (4 : Int) - ((g + 1 : Nat) : Int) + 1 = 4 - (g : Int) := by omega
            refine s_al0 rfl ?_
            refine s_il1 rfl ?_
            refine s_ic rfl ?_
            refine s_iadd rfl ⟨by omega, by omega⟩ ?_
            rw [dz]
            refine s_callO rfl rfl (Or.inl rfl) rfl rfl (hk.at rfl rfl) (ih (d + 2) (by omega) _ D1 (k + 1) c hH1 g3 (by omega) h531 h91 (by omega) (fun w D2 hX => ?_))
            show V G l (d + 3) iX4_readValue 106 [rf 5, (0, 4 - ((g + 1 : Nat) : Int)), (0, kT s n ws k), (0, x), (9, 0)] [(0, w)] (K, D2, z) P
            refine s_is4 rfl rfl ?_
            refine s_al0 rfl ?_
            refine s_gr rfl (hk.at rfl rfl) rfl ?_
            rw [show D2 5 3 = (T : Nat) by rw [hX.1.2.2.1 3 (by decide)]; exact h531]
            refine s_il2 rfl ?_
            refine s_ineg rfl ⟨by omega, by omega⟩ ?_
            refine s_callO rfl rfl (Or.inl rfl) rfl rfl (KT hk hT) (v_addCode hk hT hX.2.1 (fun q9 => ?_) (fun q9 => ?_))
            · show V G l (d + 3) iX4_readValue 117 [rf 5, (0, 4 - ((g + 1 : Nat) : Int)), (0, kT s n ws k), (0, x), (0, w)] [] (K, aUp (aUp D2 (T + 7) (D2 T 9) (-kT s n ws k)) T 9 (D2 T 9 + 1), z) P
              refine s_il4 rfl ?_
              have hw : w = 0 ∨ w = 1 := by
                rcases Classical.em ((vaE (kT s n ws) (nT s n) (pT2 s n) g (k + 1)).1 = 0) with y | y
                · exact Or.inr (hX.2.2.1 y).1
                · exact Or.inl (hX.2.2.2 y).1
              refine s_retz rfl rfl hw ?_
              refine kk w _ ?_
              have e : vaE (kT s n ws) (nT s n) (pT2 s n) (g + 1) k = ((vaE (kT s n ws) (nT s n) (pT2 s n) g (k + 1)).1, (vaE (kT s n ws) (nT s n) (pT2 s n) g (k + 1)).2.1, (vaE (kT s n ws) (nT s n) (pT2 s n) g (k + 1)).2.2 ++ [(3, 0)]) := by rw [vaE, if_neg (by omega), if_neg (by omega), if_pos (by omega)]
              rw [e]
              rcases Classical.em ((vaE (kT s n ws) (nT s n) (pT2 s n) g (k + 1)).1 = 0) with y | y
              · have st : ExC s ws n T c D1 (0, k + 1, []) 1 D1 := ⟨FrX_refl, by omega, fun _ => ⟨rfl, g3, by rw [h91]; show (c : Int) = c + ((0 : Nat) : Int); omega, trivial, fun j _ => rfl⟩, fun q => absurd rfl q⟩
                have st2 := ExC_op (Da := D1) (x := (3, 0)) (y := -kT s n ws k) hT st rfl (fun _ _ => rfl) rfl (by rw [show c + (((0, k + 1, []) : RE).2.2).length = c from rfl]; exact hX) y (Or.inr (Or.inr (Or.inl ⟨rfl, by omega⟩)))
                rw [(hX.2.2.1 y).1]
                refine ⟨FrX_trans hf1 st2.1, st2.2.1, fun q => ?_, fun q => absurd y q⟩
                obtain ⟨b1, b2, b3, b4, b5⟩ := st2.2.2.1 q
                exact ⟨b1, b2, b3, b4, fun j hj => by rw [b5 j hj, g1 _ (by omega)]⟩
              · obtain ⟨b1, b2⟩ := hX.2.2.2 y
                refine ⟨⟨fun q q1 q2 q3 q4 => by rw [aUp_row q3, aUp_row q4, hX.1.1 q q1 q2 q3 q4, g1 q q1], by rw [aUp_row (by omega), aUp_row (by omega), hX.1.2.1, g2], fun j q => by rw [aUp_row (by omega), aUp_row (by omega), hX.1.2.2.1 j q, g1 5 (by omega)], fun j q => by rw [aUp_ne q, aUp_row (by omega), hX.1.2.2.2 j q, g1 T (by omega)]⟩, by rw [aUp_at]; have := hX.2.1; omega, fun q => absurd q y, fun _ => ⟨b1, by rw [aUp_row (by omega), aUp_row (by omega)]; exact b2⟩⟩
            · have nf : ¬ (vaE (kT s n ws) (nT s n) (pT2 s n) g (k + 1)).1 = 0 := fun y => by
                obtain ⟨-, -, b, -⟩ := hX.2.2.1 y
                obtain ⟨u1, u2, u3⟩ := (va_ok (N := N) hN hpl g (k + 1) (by omega)).2 y
                omega
              show V G l (d + 3) iX4_readValue 117 [rf 5, (0, 4 - ((g + 1 : Nat) : Int)), (0, kT s n ws k), (0, x), (0, w)] [] (K, D2, z) P
              obtain ⟨b1, b2⟩ := hX.2.2.2 nf
              refine s_il4 rfl ?_
              refine s_retz rfl rfl (Or.inl b1) ?_
              refine kk w _ ?_
              have e : vaE (kT s n ws) (nT s n) (pT2 s n) (g + 1) k = ((vaE (kT s n ws) (nT s n) (pT2 s n) g (k + 1)).1, (vaE (kT s n ws) (nT s n) (pT2 s n) g (k + 1)).2.1, (vaE (kT s n ws) (nT s n) (pT2 s n) g (k + 1)).2.2 ++ [(3, 0)]) := by rw [vaE, if_neg (by omega), if_neg (by omega), if_pos (by omega)]
              rw [e]
              exact ⟨FrX_trans hf1 hX.1, hX.2.1, fun q => absurd q nf, fun _ => ⟨b1, b2⟩⟩
        · intro h59
          have hx1 : x = 1 := by omega
          refine s_al0 rfl ?_
          refine s_gr rfl (hk.at rfl rfl) rfl ?_
          rw [h53]
          refine s_il2 rfl ?_
          refine s_ic rfl ?_
          refine s_cne rfl ?_ ?_
          · intro h68
            refine s_il2 rfl ?_
            refine s_ineg rfl ⟨by omega, by omega⟩ ?_
            first
            | (refine plain _ hx1 ?_ (by omega)
               rw [if_pos h68]
               exact Or.inl ⟨rfl, rfl, (hnu h68).1, (hnu h68).2⟩)
            | (refine plain _ hx1 ?_ (by omega)
               rw [if_neg h68]
               exact Or.inr (Or.inl ⟨rfl, by show -(kT s n ws k) = -(28 + (kT s n ws k - 28)); omega, by show 0 ≤ kT s n ws k - 28; omega, by show kT s n ws k - 28 ≤ 4; omega⟩))
          · intro h68
            refine s_al0 rfl ?_
            refine s_gf rfl (hk.at rfl rfl) rfl rfl ?_
            refine s_gi rfl (hk.at rfl rfl) rfl ?_
            rw [hA.2.2.2.1 (by omega)]
            refine s_go rfl ?_
            first
            | (refine plain _ hx1 ?_ (by omega)
               rw [if_pos h68]
               exact Or.inl ⟨rfl, rfl, (hnu h68).1, (hnu h68).2⟩)
            | (refine plain _ hx1 ?_ (by omega)
               rw [if_neg h68]
               exact Or.inr (Or.inl ⟨rfl, by show -(kT s n ws k) = -(28 + (kT s n ws k - 28)); omega, by show 0 ≤ kT s n ws k - 28; omega, by show kT s n ws k - 28 ≤ 4; omega⟩))
      · intro h49
        omega
    refine VM_go (tg2 rfl) (Nat.le_of_ble_eq_true rfl) ?_
    refine s_al0 rfl ?_
    refine s_gf rfl (hk.at rfl rfl) rfl rfl ?_
    refine s_gi rfl (hk.at rfl rfl) rfl ?_
    rw [e4]
    refine s_is2 rfl rfl ?_
    refine s_il2 rfl ?_
    refine s_ic rfl ?_
    refine s_ceq rfl ?_ ?_
    · intro h10
      refine s_ic rfl ?_
      refine s_go rfl ?_
      refine s_is3 rfl rfl ?_
      refine s_il3 rfl ?_
      refine s_zne rfl (fun _ => ?_) (fun q => absurd q (by decide))
      exact at47 1 (Or.inl ⟨rfl, Or.inl h10⟩)
    · intro h10
      refine s_il2 rfl ?_
      refine s_callS rfl rfl rfl rfl (v_isFact ?_)
      show V G l (d + 3) iX4_readValue 17 [rf 5, (0, 4 - ((g + 1 : Nat) : Int)), (0, kT s n ws k), (9, 0), (9, 0)] [(0, if 28 ≤ kT s n ws k ∧ kT s n ws k ≤ 32 then 1 else 0)] (K, D, z) P
      generalize hc : (if 28 ≤ kT s n ws k ∧ kT s n ws k ≤ 32 then (1 : Int) else 0) = cc
      refine s_zeq rfl ?_ ?_
      · intro h17
        have nf : ¬ (28 ≤ kT s n ws k ∧ kT s n ws k ≤ 32) := fun q => by rw [if_pos q] at hc; omega
        refine s_ic rfl ?_
        refine s_is3 rfl rfl ?_
        refine s_il3 rfl ?_
        refine s_zne rfl ?_ ?_
        · intro h27
          exact absurd rfl h27
        · intro h27
          refine s_il2 rfl ?_
          refine s_ic rfl ?_
          refine s_ceq rfl ?_ ?_
          · intro h33
            exact at47 0 (Or.inr ⟨rfl, Or.inl h33⟩)
          · intro h33
            refine s_il2 rfl ?_
            refine s_ic rfl ?_
            refine s_ceq rfl ?_ ?_
            · intro h38
              exact at47 0 (Or.inr ⟨rfl, Or.inr h38⟩)
            · intro h38
              refine s_al0 rfl ?_
              refine s_ic rfl ?_
              refine s_callO rfl rfl (Or.inl rfl) rfl rfl (hk.at rfl rfl) (v_fail (c := 1) hk hH hA (by decide) ?_)
              show V G l (d + 3) iX4_readValue 46 _ [(0, 0)] (K, _, z) P
              refine s_retz rfl rfl (Or.inl rfl) ?_
              refine kk 0 _ ?_
              have e : vaE (kT s n ws) (nT s n) (pT2 s n) (g + 1) k = (1 + 16 * pT2 s n k, k, []) := by rw [vaE, if_neg (by omega), if_neg (by omega), if_neg (by omega), if_neg (by omega)]
              rw [e]
              exact ⟨FrX_0 hT Fr0_fault, by rw [aUp_row (by omega), h9]; omega, (fun q => by have q : 1 + 16 * pT2 s n k = 0 := q; omega), fun _ => ⟨rfl, aUp_at⟩⟩
      · intro h17
        have nf : 28 ≤ kT s n ws k ∧ kT s n ws k ≤ 32 := Decidable.byContradiction fun q => by rw [if_neg q] at hc; omega
        refine s_ic rfl ?_
        refine s_go rfl ?_
        refine s_is3 rfl rfl ?_
        refine s_il3 rfl ?_
        refine s_zne rfl (fun _ => ?_) (fun q => absurd q (by decide))
        exact at47 1 (Or.inl ⟨rfl, Or.inr nf.1⟩)
end
