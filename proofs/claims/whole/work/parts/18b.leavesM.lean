/-! ===== the reference's reader: leaves ===== -/
def wdV (w : Nat) : Int := (([15782540, 10492554, 36016323, 22575013, 15782517, 24836602, 561, 21400, 1891, 573, 1176170, 790116, 2230448, 57, 755, 19741, 5702593, 5538, 861228521, 295162007, 11305] : List Nat).getD w 0 : Nat)
def wdI (w : Nat) : Nat := ([0, 1, 2, 3, 4, 5, 6, 7, 13, 14, 8, 9, 10, 11, 12, 15, 16, 17, 18, 19, 20] : List Nat).getD w 0
def wdK (w : Nat) : Int := 12 + (wdI w : Nat)
theorem wd_ok : ∀ w : Nat, w < 21 → wdI w < 21 ∧ wdV w = kw37 (wdI w) := by decide +kernel
theorem wd_on : ∀ i : Nat, i < 21 → ∃ w : Nat, w < 21 ∧ wdI w = i := by
  have : ∀ i : Nat, i < 21 → kwG i < 21 ∧ wdI (kwG i) = i := by decide +kernel
  exact fun i hi => ⟨kwG i, (this i hi).1, (this i hi).2⟩
def RtB (s ws : Int → Int) (n j : Nat) (D : Nat → Int → Int) : Prop := D 213 j = pT2 s n j ∧ (D 212 j = 0 ↔ kT s n ws j = 0) ∧ (D 212 j = 2 ↔ kT s n ws j = 2) ∧ (kT s n ws j = 2 → D 214 j = nT s n j) ∧ (D 212 j = 1 ↔ kT s n ws j = 3 ∨ 12 ≤ kT s n ws j) ∧ (D 212 j = 1 → D 214 j = mT s n j) ∧ (D 212 j = 3 ↔ 4 ≤ kT s n ws j ∧ kT s n ws j ≤ 11) ∧ (D 212 j = 3 → kT s n ws j = sgF (D 214 j)) ∧ ∀ w : Nat, w < 21 → (D 212 j = 1 ∧ D 214 j = wdV w ↔ kT s n ws j = wdK w)
def RfH (s ws : Int → Int) (n N : Nat) (D : Nat → Int → Int) : Prop := (∀ j : Nat, j ≤ N → RtB s ws n j D) ∧ N ≤ 1500 ∧ kT s n ws N = 0 ∧ n ≤ 1500 ∧ ∀ w : Nat, w < 21 → D 215 w = wdV w
theorem RfH_keep {s ws : Int → Int} {n N : Nat} {D D' : Nat → Int → Int} (h : RfH s ws n N D) (h2 : D' 212 = D 212) (h3 : D' 213 = D 213) (h4 : D' 214 = D 214) (h5 : D' 215 = D 215) : RfH s ws n N D' := by
  unfold RfH RtB at h ⊢
  rw [h2, h3, h4, h5]; exact h
theorem RtB_of {s ws : Int → Int} {n j : Nat} {D : Nat → Int → Int} (hw : ∀ i : Nat, i < 21 → ws i = kw32 i) (hlt : tpF s n j < n) (h : RtA s n j D) : RtB s ws n j D := by
  obtain ⟨a1, a2, a3, a4, a5⟩ := h
  have sg := sgF_in (s (tpF s n j))
  have kin := kwF_in (ws := ws) (x := pkF 32 96 s (tpF s n j) (runE isL s n (tpF s n j) - tpF s n j)) 21
  unfold srt at a2 a3 a4 a5
  rw [if_neg (by omega)] at a2 a3 a4 a5
  have kd : kT s n ws j = (if isL (s (tpF s n j)) = true then (if 8 < runE isL s n (tpF s n j) - tpF s n j then 1 else kwF ws (pkF 32 96 s (tpF s n j) (runE isL s n (tpF s n j) - tpF s n j)) 21) else if isD (s (tpF s n j)) = true then (if 6 < runE isD s n (tpF s n j) - tpF s n j then 1 else 2) else sgF (s (tpF s n j))) := by show kdF s n ws (tpF s n j) = _; unfold kdF; rw [if_neg (by omega)]
  have nw : ∀ w : Nat, w < 21 → 12 ≤ wdK w ∧ wdK w ≤ 32 := fun w h => by have := (wd_ok w h).1; unfold wdK; omega
  unfold RtB
  by_cases q1 : isL (s (tpF s n j)) = true
  · rw [if_pos q1] at a2 a3 a4 a5 kd
    by_cases q2 : 8 < runE isL s n (tpF s n j) - tpF s n j
    · rw [if_pos q2] at a2 a3 a4 a5 kd
      rw [kd, a2]
      exact ⟨a1, by omega, by omega, fun y => by omega, by omega, fun y => by omega, by omega, fun y => by omega, fun w h => ⟨fun y => by omega, fun y => by have := nw w h; omega⟩⟩
    · rw [if_neg q2] at a2 a3 a4 a5 kd
      have lets : ∀ k, k < runE isL s n (tpF s n j) - tpF s n j → isL (s ((tpF s n j + k : Nat) : Int)) = true := fun k hk => (runE_sp (p := isL) (s := s) (n := n) (n - tpF s n j) (tpF s n j) (by omega)).2.1 _ (by omega) (by omega)
      have r : kT s n ws j = 3 ∨ 12 ≤ kT s n ws j := by rw [kd]; rcases kin with h | ⟨i, h1, -, h3⟩ <;> omega
      have r2 : kT s n ws j ≤ 32 := by rw [kd]; rcases kin with h | ⟨i, h1, -, h3⟩ <;> omega
      rw [a2]
      refine ⟨a1, by omega, by omega, fun y => by omega, ⟨fun _ => r, fun _ => rfl⟩, fun _ => a3 rfl, by omega, fun y => by omega, fun w h => ?_⟩
      obtain ⟨w1, w2⟩ := wd_ok w h
      have e := kwF_is (ws := ws) (x := pkF 32 96 s (tpF s n j) (runE isL s n (tpF s n j) - tpF s n j)) hw w1
      have e2 := kw_same (s := s) (p := tpF s n j) (m := runE isL s n (tpF s n j) - tpF s n j) w1 lets
      rw [a3 rfl, w2, kd]
      show 1 = 1 ∧ pkF 37 96 s (tpF s n j) (runE isL s n (tpF s n j) - tpF s n j) = kw37 (wdI w) ↔ _ = 12 + ((wdI w : Nat) : Int)
      rw [e, e2]
      exact ⟨fun y => y.2, fun y => ⟨rfl, y⟩⟩
  · rw [if_neg q1] at a2 a3 a4 a5 kd
    by_cases q3 : isD (s (tpF s n j)) = true
    · rw [if_pos q3] at a2 a3 a4 a5 kd
      by_cases q2 : 6 < runE isD s n (tpF s n j) - tpF s n j
      · rw [if_pos q2] at a2 a3 a4 a5 kd
        rw [kd, a2]
        exact ⟨a1, by omega, by omega, fun y => by omega, by omega, fun y => by omega, by omega, fun y => by omega, fun w h => ⟨fun y => by omega, fun y => by have := nw w h; omega⟩⟩
      · rw [if_neg q2] at a2 a3 a4 a5 kd
        rw [kd, a2]
        exact ⟨a1, by omega, by omega, fun _ => a4 rfl, by omega, fun y => by omega, by omega, fun y => by omega, fun w h => ⟨fun y => by omega, fun y => by have := nw w h; omega⟩⟩
    · rw [if_neg q3] at a2 a3 a4 a5 kd
      by_cases q4 : sgF (s (tpF s n j)) = 1
      · rw [if_pos q4] at a2 a3 a4 a5
        rw [kd, a2, q4]
        exact ⟨a1, by omega, by omega, fun y => by omega, by omega, fun y => by omega, by omega, fun y => by omega, fun w h => ⟨fun y => by omega, fun y => by have := nw w h; omega⟩⟩
      · rw [if_neg q4] at a2 a3 a4 a5
        have e5 := a5 rfl
        rw [kd, a2]
        clear kin kd a2 a3 a4 a5 hlt
        have g : ∀ x : Int, x = 1 ∨ (4 ≤ x ∧ x ≤ 11) → x ≠ 1 → ((3 : Int) = 0 ↔ x = 0) ∧ ((3 : Int) = 2 ↔ x = 2) ∧ (x = 2 → D 214 j = nT s n j) ∧ ((3 : Int) = 1 ↔ x = 3 ∨ 12 ≤ x) ∧ ((3 : Int) = 1 → D 214 j = mT s n j) ∧ ((3 : Int) = 3 ↔ 4 ≤ x ∧ x ≤ 11) ∧ ∀ w : Nat, w < 21 → ((3 : Int) = 1 ∧ D 214 j = wdV w ↔ x = wdK w) := fun x h1 h2 => ⟨by omega, by omega, fun y => by omega, by omega, fun y => by omega, by omega, fun w h => ⟨fun y => by omega, fun y => by have := nw w h; omega⟩⟩
        obtain ⟨g1, g2, g3, g4, g5, g6, g7⟩ := g _ sg q4
        exact ⟨a1, g1, g2, g3, g4, g5, g6, fun _ => by rw [e5], g7⟩
theorem sg_inj {c x : Int} (h : sgF c ≠ 1) (e : sgF x = sgF c) : x = c := by
  unfold sgF at h e
  (repeat' split at h) <;> (repeat' split at e) <;> omega
theorem aUp_self {D : Nat → Int → Int} {r : Nat} {i v : Int} (h : D r i = v) : aUp D r i v = D := by
  funext q j
  rw [aUp_app]
  split
  · rename_i y; rw [y.1, y.2]; exact h.symm
  · rfl
section
variable {G : aCX} {l : Launch} {d : Nat} {K : Nat → aKd} {D : Nat → Int → Int} {z : Nat × Nat} {P : Int → aSt → Prop}
theorem u_wrong {s ws : Int → Int} {n N k : Nat} {c : Int} (hk : Kn K) (hH : RfH s ws n N D) (h8 : D 210 8 = 0) (h7 : D 210 7 = k) (hkN : k ≤ N) (hc : 0 ≤ c ∧ c ≤ 15) (kk : P 0 (K, aUp D 210 8 (c + 16 * pT2 s n k), z)) : VM G l d iX12_wrong [rf 210, (0, c)] (K, D, z) P := by
  obtain ⟨b1, b2, b3, b4, b5⟩ := hH
  have e3 := (b1 k hkN).1
  have hp := pl_in (s := s) (n := n) (k := k) b4
  refine VM_go (tg2 rfl) (Nat.le_of_ble_eq_true rfl) ?_
  refine s_al0 rfl ?_
  refine s_gi rfl (hk.at rfl rfl) rfl ?_
  rw [h8]
  refine s_zne rfl ?_ ?_
  · intro h4
    exact absurd rfl h4
  · intro h4
    refine s_al0 rfl ?_
    refine s_il1 rfl ?_
    refine s_ic rfl ?_
    refine s_al0 rfl ?_
    refine s_gf rfl (hk.at rfl rfl) rfl rfl ?_
    refine s_al0 rfl ?_
    refine s_gi rfl (hk.at rfl rfl) rfl ?_
    rw [h7]
    refine s_iald rfl (hk.at rfl rfl) (by omega) ?_
    rw [e3]
    refine s_imul rfl ⟨by omega, by omega⟩ ?_
    refine s_iadd rfl ⟨by omega, by omega⟩ ?_
    refine s_pi rfl (hk.at rfl rfl) rfl ?_
    refine s_retv rfl rfl ?_
    exact kk
theorem u_wrongD {c : Int} (hk : Kn K) (h8 : 0 < D 210 8) (kk : P 0 (K, D, z)) : VM G l d iX12_wrong [rf 210, (0, c)] (K, D, z) P := by
  refine VM_go (tg2 rfl) (Nat.le_of_ble_eq_true rfl) ?_
  refine s_al0 rfl ?_
  refine s_gi rfl (hk.at rfl rfl) rfl ?_
  refine s_zne rfl ?_ ?_
  · intro h4
    refine s_retv rfl rfl ?_
    exact kk
  · intro h4
    omega
theorem u_isSign {s ws : Int → Int} {n N k : Nat} {c : Int} (hk : Kn K) (hH : RfH s ws n N D) (h8 : D 210 8 = 0) (h7 : D 210 7 = k) (hkN : k ≤ N) (hc : sgF c ≠ 1) (kk : P (if kT s n ws k = sgF c then 1 else 0) (K, D, z)) : VM G l d iX12_isSign [rf 210, (0, c)] (K, D, z) P := by
  obtain ⟨b1, b2, b3, b4, b5⟩ := hH
  obtain ⟨r0, r1, r2, r3, r4, r5, r6, r7, r8⟩ := b1 k hkN
  have sg := sgF_in c
  have i3 : D 212 k = 3 → (D 214 k = c ↔ kT s n ws k = sgF c) := fun y => ⟨fun q => by rw [r7 y, q], fun q => sg_inj hc (by rw [← r7 y]; exact q)⟩
  refine VM_go (tg2 rfl) (Nat.le_of_ble_eq_true rfl) ?_
  refine s_al0 rfl ?_
  refine s_gi rfl (hk.at rfl rfl) rfl ?_
  rw [h8]
  refine s_zne rfl ?_ ?_
  · intro h4
    exact absurd rfl h4
  · intro h4
    refine s_al0 rfl ?_
    refine s_gf rfl (hk.at rfl rfl) rfl rfl ?_
    refine s_al0 rfl ?_
    refine s_gi rfl (hk.at rfl rfl) rfl ?_
    rw [h7]
    refine s_iald rfl (hk.at rfl rfl) (by omega) ?_
    refine s_ic rfl ?_
    refine s_cne rfl ?_ ?_
    · intro h17
      refine s_ic rfl ?_
      refine s_retz rfl rfl (by omega) ?_
      first
      | (rw [if_pos ((i3 h17).mp ye)] at kk; exact kk)
      | (rw [if_neg (fun y => ne ((i3 h17).mpr y))] at kk; exact kk)
      | (rw [if_neg (fun y => h17 (r6.mpr (by omega)))] at kk; exact kk)
    · intro h17
      refine s_al0 rfl ?_
      refine s_gf rfl (hk.at rfl rfl) rfl rfl ?_
      refine s_al0 rfl ?_
      refine s_gi rfl (hk.at rfl rfl) rfl ?_
      rw [h7]
      refine s_lald rfl (hk.at rfl rfl) (by omega) ?_
      refine s_il1 rfl ?_
      refine s_i2l rfl ?_
      refine s_lcmp rfl ?_
      refine s_zne rfl ?_ ?_
      · intro h32
        have ne := fun y => h32 (cmp3_eq.mpr y)
        refine s_ic rfl ?_
        refine s_retz rfl rfl (by omega) ?_
        first
        | (rw [if_pos ((i3 h17).mp ye)] at kk; exact kk)
        | (rw [if_neg (fun y => ne ((i3 h17).mpr y))] at kk; exact kk)
        | (rw [if_neg (fun y => h17 (r6.mpr (by omega)))] at kk; exact kk)
      · intro h32
        have ye := cmp3_eq.mp h32
        refine s_ic rfl ?_
        refine s_go rfl ?_
        refine s_retz rfl rfl (by omega) ?_
        first
        | (rw [if_pos ((i3 h17).mp ye)] at kk; exact kk)
        | (rw [if_neg (fun y => ne ((i3 h17).mpr y))] at kk; exact kk)
        | (rw [if_neg (fun y => h17 (r6.mpr (by omega)))] at kk; exact kk)
theorem u_isSignD {c : Int} (hk : Kn K) (h8 : 0 < D 210 8) (kk : P 0 (K, D, z)) : VM G l d iX12_isSign [rf 210, (0, c)] (K, D, z) P := by
  refine VM_go (tg2 rfl) (Nat.le_of_ble_eq_true rfl) ?_
  refine s_al0 rfl ?_
  refine s_gi rfl (hk.at rfl rfl) rfl ?_
  refine s_zne rfl ?_ ?_
  · intro h4
    refine s_ic rfl ?_
    refine s_retz rfl rfl (Or.inl rfl) ?_
    exact kk
  · intro h4
    omega
theorem u_isWord {s ws : Int → Int} {n N k : Nat} {w : Nat} (hk : Kn K) (hH : RfH s ws n N D) (h8 : D 210 8 = 0) (h7 : D 210 7 = k) (hkN : k ≤ N) (hw : w < 21) (kk : P (if kT s n ws k = wdK w then 1 else 0) (K, D, z)) : VM G l d iX12_isWord [rf 210, (0, (w : Int))] (K, D, z) P := by
  obtain ⟨b1, b2, b3, b4, b5⟩ := hH
  obtain ⟨r0, r1, r2, r3, r4, r5, r6, r7, r8⟩ := b1 k hkN
  have r8 := r8 w hw
  have e5 := b5 w hw
  refine VM_go (tg2 rfl) (Nat.le_of_ble_eq_true rfl) ?_
  refine s_al0 rfl ?_
  refine s_gi rfl (hk.at rfl rfl) rfl ?_
  rw [h8]
  refine s_zne rfl ?_ ?_
  · intro h4
    exact absurd rfl h4
  · intro h4
    refine s_al0 rfl ?_
    refine s_gf rfl (hk.at rfl rfl) rfl rfl ?_
    refine s_al0 rfl ?_
    refine s_gi rfl (hk.at rfl rfl) rfl ?_
    rw [h7]
    refine s_iald rfl (hk.at rfl rfl) (by omega) ?_
    refine s_ic rfl ?_
    refine s_cne rfl ?_ ?_
    · intro h17
      refine s_ic rfl ?_
      refine s_retz rfl rfl (by omega) ?_
      first
      | (rw [if_pos (r8.mp ⟨h17, ye⟩)] at kk; exact kk)
      | (rw [if_neg (fun y => ne (r8.mpr y).2)] at kk; exact kk)
      | (rw [if_neg (fun y => h17 (r8.mpr y).1)] at kk; exact kk)
    · intro h17
      refine s_al0 rfl ?_
      refine s_gf rfl (hk.at rfl rfl) rfl rfl ?_
      refine s_al0 rfl ?_
      refine s_gi rfl (hk.at rfl rfl) rfl ?_
      rw [h7]
      refine s_lald rfl (hk.at rfl rfl) (by omega) ?_
      refine s_al0 rfl ?_
      refine s_gf rfl (hk.at rfl rfl) rfl rfl ?_
      refine s_il1 rfl ?_
      refine s_lald rfl (hk.at rfl rfl) (by omega) ?_
      rw [e5]
      refine s_lcmp rfl ?_
      refine s_zne rfl ?_ ?_
      · intro h36
        have ne := fun y => h36 (cmp3_eq.mpr y)
        refine s_ic rfl ?_
        refine s_retz rfl rfl (by omega) ?_
        first
        | (rw [if_pos (r8.mp ⟨h17, ye⟩)] at kk; exact kk)
        | (rw [if_neg (fun y => ne (r8.mpr y).2)] at kk; exact kk)
        | (rw [if_neg (fun y => h17 (r8.mpr y).1)] at kk; exact kk)
      · intro h36
        have ye := cmp3_eq.mp h36
        refine s_ic rfl ?_
        refine s_go rfl ?_
        refine s_retz rfl rfl (by omega) ?_
        first
        | (rw [if_pos (r8.mp ⟨h17, ye⟩)] at kk; exact kk)
        | (rw [if_neg (fun y => ne (r8.mpr y).2)] at kk; exact kk)
        | (rw [if_neg (fun y => h17 (r8.mpr y).1)] at kk; exact kk)
theorem u_isWordD {w : Int} (hk : Kn K) (h8 : 0 < D 210 8) (kk : P 0 (K, D, z)) : VM G l d iX12_isWord [rf 210, (0, w)] (K, D, z) P := by
  refine VM_go (tg2 rfl) (Nat.le_of_ble_eq_true rfl) ?_
  refine s_al0 rfl ?_
  refine s_gi rfl (hk.at rfl rfl) rfl ?_
  refine s_zne rfl ?_ ?_
  · intro h4
    refine s_ic rfl ?_
    refine s_retz rfl rfl (Or.inl rfl) ?_
    exact kk
  · intro h4
    omega
theorem u_hasSign {s ws : Int → Int} {n N k : Nat} {c : Int} (hk : Kn K) (hH : RfH s ws n N D) (h8 : D 210 8 = 0) (h7 : D 210 7 = k) (hkN : k ≤ N) (hc : sgF c ≠ 1) (k1 : kT s n ws k = sgF c → P 1 (K, aUp D 210 7 (k + 1), z)) (k0 : ¬ kT s n ws k = sgF c → P 0 (K, D, z)) : VM G l (d + 1) iX12_hasSign [rf 210, (0, c)] (K, D, z) P := by
  have n15 := hH.2.1
  refine VM_go (tg2 rfl) (Nat.le_of_ble_eq_true rfl) ?_
  refine s_al0 rfl ?_
  refine s_il1 rfl ?_
  refine s_callO rfl rfl (Or.inl rfl) rfl rfl (hk.at rfl rfl) (u_isSign hk hH h8 h7 hkN hc ?_)
  show V G l (d + 1) iX12_hasSign 5 [rf 210, (0, c), (9, 0)] [(0, if kT s n ws k = sgF c then 1 else 0)] (K, D, z) P
  generalize hcc : (if kT s n ws k = sgF c then (1 : Int) else 0) = cc
  refine s_is2 rfl rfl ?_
  refine s_al0 rfl ?_
  refine s_dup rfl (by first | decide | (show (2 : Nat) ≠ 1; decide)) ?_
  refine s_gi rfl (hk.at rfl rfl) rfl ?_
  rw [h7]
  refine s_il2 rfl ?_
  refine s_zeq rfl ?_ ?_
  · intro h12
    have nq : ¬ kT s n ws k = sgF c := fun q => by rw [if_pos q] at hcc; omega
    have cc0 : cc = 0 := h12
    subst cc0
    refine s_ic rfl ?_
    refine s_iadd rfl ⟨by omega, by omega⟩ ?_
    refine s_pi rfl (hk.at rfl rfl) rfl ?_
    refine s_il2 rfl ?_
    refine s_retz rfl rfl (by omega) ?_
    first | exact k1 nq | (rw [Int.add_zero, aUp_self h7]; exact k0 nq)
  · intro h12
    have nq : kT s n ws k = sgF c := Decidable.byContradiction fun q => by rw [if_neg q] at hcc; omega
    rw [if_pos nq] at hcc
    subst hcc
    refine s_ic rfl ?_
    refine s_go rfl ?_
    refine s_iadd rfl ⟨by omega, by omega⟩ ?_
    refine s_pi rfl (hk.at rfl rfl) rfl ?_
    refine s_il2 rfl ?_
    refine s_retz rfl rfl (by omega) ?_
    first | exact k1 nq | (rw [Int.add_zero, aUp_self h7]; exact k0 nq)
theorem u_hasSignD {c : Int} (hk : Kn K) (h8 : 0 < D 210 8) (h7 : 0 ≤ D 210 7 ∧ D 210 7 ≤ 2000) (kk : P 0 (K, D, z)) : VM G l (d + 1) iX12_hasSign [rf 210, (0, c)] (K, D, z) P := by
  refine VM_go (tg2 rfl) (Nat.le_of_ble_eq_true rfl) ?_
  refine s_al0 rfl ?_
  refine s_il1 rfl ?_
  refine s_callO rfl rfl (Or.inl rfl) rfl rfl (hk.at rfl rfl) (u_isSignD hk h8 ?_)
  show V G l (d + 1) iX12_hasSign 5 [rf 210, (0, c), (9, 0)] [(0, 0)] (K, D, z) P
  refine s_is2 rfl rfl ?_
  refine s_al0 rfl ?_
  refine s_dup rfl (by first | decide | (show (2 : Nat) ≠ 1; decide)) ?_
  refine s_gi rfl (hk.at rfl rfl) rfl ?_
  refine s_il2 rfl ?_
  refine s_zeq rfl ?_ ?_
  · intro h12
    refine s_ic rfl ?_
    refine s_iadd rfl ⟨by omega, by omega⟩ ?_
    refine s_pi rfl (hk.at rfl rfl) rfl ?_
    refine s_il2 rfl ?_
    refine s_retz rfl rfl (Or.inl rfl) ?_
    rw [Int.add_zero, aUp_self rfl]; exact kk
  · intro h12
    exact absurd rfl h12
theorem u_hasWord {s ws : Int → Int} {n N k : Nat} {w : Nat} (hk : Kn K) (hH : RfH s ws n N D) (h8 : D 210 8 = 0) (h7 : D 210 7 = k) (hkN : k ≤ N) (hw : w < 21) (k1 : kT s n ws k = wdK w → P 1 (K, aUp D 210 7 (k + 1), z)) (k0 : ¬ kT s n ws k = wdK w → P 0 (K, D, z)) : VM G l (d + 1) iX12_hasWord [rf 210, (0, (w : Int))] (K, D, z) P := by
  have n15 := hH.2.1
  refine VM_go (tg2 rfl) (Nat.le_of_ble_eq_true rfl) ?_
  refine s_al0 rfl ?_
  refine s_il1 rfl ?_
  refine s_callO rfl rfl (Or.inl rfl) rfl rfl (hk.at rfl rfl) (u_isWord hk hH h8 h7 hkN hw ?_)
  show V G l (d + 1) iX12_hasWord 5 [rf 210, (0, (w : Int)), (9, 0)] [(0, if kT s n ws k = wdK w then 1 else 0)] (K, D, z) P
  generalize hcc : (if kT s n ws k = wdK w then (1 : Int) else 0) = cc
  refine s_is2 rfl rfl ?_
  refine s_al0 rfl ?_
  refine s_dup rfl (by first | decide | (show (2 : Nat) ≠ 1; decide)) ?_
  refine s_gi rfl (hk.at rfl rfl) rfl ?_
  rw [h7]
  refine s_il2 rfl ?_
  refine s_zeq rfl ?_ ?_
  · intro h12
    have nq : ¬ kT s n ws k = wdK w := fun q => by rw [if_pos q] at hcc; omega
    have cc0 : cc = 0 := h12
    subst cc0
    refine s_ic rfl ?_
    refine s_iadd rfl ⟨by omega, by omega⟩ ?_
    refine s_pi rfl (hk.at rfl rfl) rfl ?_
    refine s_il2 rfl ?_
    refine s_retz rfl rfl (by omega) ?_
    first | exact k1 nq | (rw [Int.add_zero, aUp_self h7]; exact k0 nq)
  · intro h12
    have nq : kT s n ws k = wdK w := Decidable.byContradiction fun q => by rw [if_neg q] at hcc; omega
    rw [if_pos nq] at hcc
    subst hcc
    refine s_ic rfl ?_
    refine s_go rfl ?_
    refine s_iadd rfl ⟨by omega, by omega⟩ ?_
    refine s_pi rfl (hk.at rfl rfl) rfl ?_
    refine s_il2 rfl ?_
    refine s_retz rfl rfl (by omega) ?_
    first | exact k1 nq | (rw [Int.add_zero, aUp_self h7]; exact k0 nq)
theorem u_hasWordD {w : Int} (hk : Kn K) (h8 : 0 < D 210 8) (h7 : 0 ≤ D 210 7 ∧ D 210 7 ≤ 2000) (kk : P 0 (K, D, z)) : VM G l (d + 1) iX12_hasWord [rf 210, (0, w)] (K, D, z) P := by
  refine VM_go (tg2 rfl) (Nat.le_of_ble_eq_true rfl) ?_
  refine s_al0 rfl ?_
  refine s_il1 rfl ?_
  refine s_callO rfl rfl (Or.inl rfl) rfl rfl (hk.at rfl rfl) (u_isWordD hk h8 ?_)
  show V G l (d + 1) iX12_hasWord 5 [rf 210, (0, w), (9, 0)] [(0, 0)] (K, D, z) P
  refine s_is2 rfl rfl ?_
  refine s_al0 rfl ?_
  refine s_dup rfl (by first | decide | (show (2 : Nat) ≠ 1; decide)) ?_
  refine s_gi rfl (hk.at rfl rfl) rfl ?_
  refine s_il2 rfl ?_
  refine s_zeq rfl ?_ ?_
  · intro h12
    refine s_ic rfl ?_
    refine s_iadd rfl ⟨by omega, by omega⟩ ?_
    refine s_pi rfl (hk.at rfl rfl) rfl ?_
    refine s_il2 rfl ?_
    refine s_retz rfl rfl (Or.inl rfl) ?_
    rw [Int.add_zero, aUp_self rfl]; exact kk
  · intro h12
    exact absurd rfl h12
theorem u_takeSign {s ws : Int → Int} {n N k : Nat} {c : Int} (hk : Kn K) (hH : RfH s ws n N D) (h8 : D 210 8 = 0) (h7 : D 210 7 = k) (hkN : k ≤ N) (hc : sgF c ≠ 1) (k1 : kT s n ws k = sgF c → P 0 (K, aUp D 210 7 (k + 1), z)) (k0 : ¬ kT s n ws k = sgF c → P 0 (K, aUp D 210 8 (1 + 16 * pT2 s n k), z)) : VM G l (d + 1) iX12_takeSign [rf 210, (0, c)] (K, D, z) P := by
  have n15 := hH.2.1
  refine VM_go (tg2 rfl) (Nat.le_of_ble_eq_true rfl) ?_
  refine s_al0 rfl ?_
  refine s_il1 rfl ?_
  refine s_callO rfl rfl (Or.inl rfl) rfl rfl (hk.at rfl rfl) (u_isSign hk hH h8 h7 hkN hc ?_)
  show V G l (d + 1) iX12_takeSign 5 [rf 210, (0, c)] [(0, if kT s n ws k = sgF c then 1 else 0)] (K, D, z) P
  generalize hcc : (if kT s n ws k = sgF c then (1 : Int) else 0) = cc
  refine s_zeq rfl ?_ ?_
  · intro h5
    have nq : ¬ kT s n ws k = sgF c := fun q => by rw [if_pos q] at hcc; omega
    refine s_al0 rfl ?_
    refine s_ic rfl ?_
    refine s_callO rfl rfl (Or.inl rfl) rfl rfl (hk.at rfl rfl) (u_wrong (c := 1) hk hH h8 h7 hkN (by decide) ?_)
    show V G l (d + 1) iX12_takeSign 26 [rf 210, (0, c)] [] (K, _, z) P
    refine s_retv rfl rfl ?_
    first | exact k1 nq | exact k0 nq
  · intro h5
    have nq : kT s n ws k = sgF c := Decidable.byContradiction fun q => by rw [if_neg q] at hcc; omega
    refine s_al0 rfl ?_
    refine s_dup rfl (by first | decide | (show (2 : Nat) ≠ 1; decide)) ?_
    refine s_gi rfl (hk.at rfl rfl) rfl ?_
    rw [h7]
    refine s_ic rfl ?_
    refine s_iadd rfl ⟨by omega, by omega⟩ ?_
    refine s_pi rfl (hk.at rfl rfl) rfl ?_
    refine s_go rfl ?_
    refine s_retv rfl rfl ?_
    first | exact k1 nq | exact k0 nq
theorem u_takeSignD {c : Int} (hk : Kn K) (h8 : 0 < D 210 8) (kk : P 0 (K, D, z)) : VM G l (d + 1) iX12_takeSign [rf 210, (0, c)] (K, D, z) P := by
  refine VM_go (tg2 rfl) (Nat.le_of_ble_eq_true rfl) ?_
  refine s_al0 rfl ?_
  refine s_il1 rfl ?_
  refine s_callO rfl rfl (Or.inl rfl) rfl rfl (hk.at rfl rfl) (u_isSignD hk h8 ?_)
  show V G l (d + 1) iX12_takeSign 5 [rf 210, (0, c)] [(0, 0)] (K, D, z) P
  refine s_zeq rfl ?_ ?_
  · intro h5
    refine s_al0 rfl ?_
    refine s_ic rfl ?_
    refine s_callO rfl rfl (Or.inl rfl) rfl rfl (hk.at rfl rfl) (u_wrongD hk h8 ?_)
    show V G l (d + 1) iX12_takeSign 26 [rf 210, (0, c)] [] (K, D, z) P
    refine s_retv rfl rfl ?_
    exact kk
  · intro h5
    exact absurd rfl h5
theorem u_takeWord {s ws : Int → Int} {n N k : Nat} {w : Nat} (hk : Kn K) (hH : RfH s ws n N D) (h8 : D 210 8 = 0) (h7 : D 210 7 = k) (hkN : k ≤ N) (hw : w < 21) (k1 : kT s n ws k = wdK w → P 0 (K, aUp D 210 7 (k + 1), z)) (k0 : ¬ kT s n ws k = wdK w → P 0 (K, aUp D 210 8 (1 + 16 * pT2 s n k), z)) : VM G l (d + 2) iX12_takeWord [rf 210, (0, (w : Int))] (K, D, z) P := by
  refine VM_go (tg2 rfl) (Nat.le_of_ble_eq_true rfl) ?_
  refine s_al0 rfl ?_
  refine s_il1 rfl ?_
  refine s_callO rfl rfl (Or.inl rfl) rfl rfl (hk.at rfl rfl) (u_hasWord hk hH h8 h7 hkN hw (fun nq => ?_) (fun nq => ?_))
  · show V G l (d + 2) iX12_takeWord 5 [rf 210, (0, (w : Int))] [(0, 1)] (K, _, z) P
    refine s_zne rfl (fun _ => ?_) (fun q => absurd q (by decide))
    refine s_retv rfl rfl ?_
    exact k1 nq
  show V G l (d + 2) iX12_takeWord 5 [rf 210, (0, (w : Int))] [(0, 0)] (K, D, z) P
  refine s_zne rfl ?_ ?_
  · intro h5
    exact absurd rfl h5
  · intro h5
    refine s_al0 rfl ?_
    refine s_ic rfl ?_
    refine s_callO rfl rfl (Or.inl rfl) rfl rfl (hk.at rfl rfl) (u_wrong (c := 1) hk hH h8 h7 hkN (by decide) ?_)
    show V G l (d + 2) iX12_takeWord 13 [rf 210, (0, (w : Int))] [] (K, _, z) P
    refine s_retv rfl rfl ?_
    exact k0 nq
theorem u_takeWordD {w : Int} (hk : Kn K) (h8 : 0 < D 210 8) (h7 : 0 ≤ D 210 7 ∧ D 210 7 ≤ 2000) (kk : P 0 (K, D, z)) : VM G l (d + 2) iX12_takeWord [rf 210, (0, w)] (K, D, z) P := by
  refine VM_go (tg2 rfl) (Nat.le_of_ble_eq_true rfl) ?_
  refine s_al0 rfl ?_
  refine s_il1 rfl ?_
  refine s_callO rfl rfl (Or.inl rfl) rfl rfl (hk.at rfl rfl) (u_hasWordD hk h8 h7 ?_)
  show V G l (d + 2) iX12_takeWord 5 [rf 210, (0, w)] [(0, 0)] (K, D, z) P
  refine s_zne rfl ?_ ?_
  · intro h5
    exact absurd rfl h5
  · intro h5
    refine s_al0 rfl ?_
    refine s_ic rfl ?_
    refine s_callO rfl rfl (Or.inl rfl) rfl rfl (hk.at rfl rfl) (u_wrongD hk h8 ?_)
    show V G l (d + 2) iX12_takeWord 13 [rf 210, (0, w)] [] (K, D, z) P
    refine s_retv rfl rfl ?_
    exact kk
theorem u_takeNumber {s ws : Int → Int} {n N k : Nat} {lo hi : Int} (hk : Kn K) (hH : RfH s ws n N D) (h8 : D 210 8 = 0) (h7 : D 210 7 = k) (hkN : k ≤ N) (k1 : qNm (kT s n ws) (nT s n) (pT2 s n) lo hi k = 0 → P (nT s n k) (K, aUp D 210 7 (k + 1), z)) (k0 : qNm (kT s n ws) (nT s n) (pT2 s n) lo hi k ≠ 0 → P 1 (K, aUp D 210 8 (qNm (kT s n ws) (nT s n) (pT2 s n) lo hi k), z)) : VM G l (d + 1) iX12_takeNumber [rf 210, (1, lo), (1, hi)] (K, D, z) P := by
  obtain ⟨b1, b2, b3, b4, b5⟩ := id hH
  obtain ⟨r0, r1, r2, r3, r4, r5, r6, r7, r8⟩ := b1 k hkN
  have hp := (pl_in (s := s) (n := n) (k := k) b4).1
  have bad : ∀ f : Int, f = qNm (kT s n ws) (nT s n) (pT2 s n) lo hi k → 0 < f → V G l (d + 1) iX12_takeNumber 68 [rf 210, (1, lo), (9, 0), (1, hi), (9, 0)] [] (K, aUp D 210 8 f, z) P := by
    intro f hf h0
    refine s_al0 rfl ?_
    refine s_gi rfl (hk.at rfl rfl) rfl ?_
    rw [aUp_at]
    refine s_zle rfl ?_ ?_
    · intro h72
      omega
    · intro h72
      refine s_lc rfl ?_
      refine s_retl rfl rfl ?_
      rw [hf]; exact k0 (by omega)
  have good : kT s n ws k = 2 → lo ≤ nT s n k ∧ nT s n k ≤ hi → V G l (d + 1) iX12_takeNumber 68 [rf 210, (1, lo), (9, 0), (1, hi), (9, 0)] [] (K, D, z) P := by
    intro y1 y2
    have e4 := r3 y1
    refine s_al0 rfl ?_
    refine s_gi rfl (hk.at rfl rfl) rfl ?_
    rw [h8]
    refine s_zle rfl ?_ ?_
    · intro h72
      refine s_al0 rfl ?_
      refine s_dup rfl (by first | decide | (show (2 : Nat) ≠ 1; decide)) ?_
      refine s_gi rfl (hk.at rfl rfl) rfl ?_
      rw [h7]
      refine s_ic rfl ?_
      refine s_iadd rfl ⟨by omega, by omega⟩ ?_
      refine s_pi rfl (hk.at rfl rfl) rfl ?_
      refine s_al0 rfl ?_
      refine s_gf rfl (hk.at rfl rfl) rfl rfl ?_
      refine s_al0 rfl ?_
      refine s_gi rfl (hk.at rfl rfl) rfl ?_
      rw [aUp_at]
      refine s_ic rfl ?_
      refine s_isub rfl ⟨by omega, by omega⟩ ?_
      rw [show (k : Int) + 1 - 1 = k by omega]
      refine s_lald rfl (hk.at rfl rfl) (by omega) ?_
      rw [show aUp D 210 7 ((k : Int) + 1) 214 (k : Int) = nT s n k by rw [aUp_row (by decide)]; exact e4]
      refine s_retl rfl rfl ?_
      exact k1 (qNm_0 y1 y2)
    · intro h72
      omega
  refine VM_go (tg2 rfl) (Nat.le_of_ble_eq_true rfl) ?_
  refine s_al0 rfl ?_
  refine s_gi rfl (hk.at rfl rfl) rfl ?_
  rw [h8]
  refine s_zne rfl ?_ ?_
  · intro h4
    exact absurd rfl h4
  · intro h4
    refine s_al0 rfl ?_
    refine s_gf rfl (hk.at rfl rfl) rfl rfl ?_
    refine s_al0 rfl ?_
    refine s_gi rfl (hk.at rfl rfl) rfl ?_
    rw [h7]
    refine s_iald rfl (hk.at rfl rfl) (by omega) ?_
    refine s_ic rfl ?_
    refine s_ceq rfl ?_ ?_
    · intro h17
      have y1 := r2.mp h17
      have e4 := r3 y1
      refine s_al0 rfl ?_
      refine s_gi rfl (hk.at rfl rfl) rfl ?_
      rw [h8]
      refine s_zne rfl ?_ ?_
      · intro h32
        exact absurd rfl h32
      · intro h32
        refine s_al0 rfl ?_
        refine s_gf rfl (hk.at rfl rfl) rfl rfl ?_
        refine s_al0 rfl ?_
        refine s_gi rfl (hk.at rfl rfl) rfl ?_
        rw [h7]
        refine s_lald rfl (hk.at rfl rfl) (by omega) ?_
        rw [e4]
        refine s_ll1 rfl ?_
        refine s_lcmp rfl ?_
        refine s_zlt rfl ?_ ?_
        · intro h46
          have n1 := cmp3_lt.mp h46
          refine s_al0 rfl ?_
          refine s_ic rfl ?_
          refine s_callO rfl rfl (Or.inl rfl) rfl rfl (hk.at rfl rfl) (u_wrong (c := 4) hk hH h8 h7 hkN (by decide) ?_)
          show V G l (d + 1) iX12_takeNumber 68 [rf 210, (1, lo), (9, 0), (1, hi), (9, 0)] [] (K, _, z) P
          exact bad _ (qNm_4 y1 (fun y => by omega)).symm (by omega)
        · intro h46
          have n1 := cmp3_ge.mp h46
          refine s_al0 rfl ?_
          refine s_gf rfl (hk.at rfl rfl) rfl rfl ?_
          refine s_al0 rfl ?_
          refine s_gi rfl (hk.at rfl rfl) rfl ?_
          rw [h7]
          refine s_lald rfl (hk.at rfl rfl) (by omega) ?_
          rw [e4]
          refine s_ll3 rfl ?_
          refine s_lcmp rfl ?_
          refine s_zle rfl ?_ ?_
          · intro h60
            have n2 := cmp3_le.mp h60
            first
            | exact good y1 ⟨n1, n2⟩
            | exact bad _ (qNm_1 y1).symm (by omega)
          · intro h60
            have n2 := cmp3_gt.mp h60
            refine s_al0 rfl ?_
            refine s_ic rfl ?_
            refine s_callO rfl rfl (Or.inl rfl) rfl rfl (hk.at rfl rfl) (u_wrong (c := 4) hk hH h8 h7 hkN (by decide) ?_)
            show V G l (d + 1) iX12_takeNumber 68 [rf 210, (1, lo), (9, 0), (1, hi), (9, 0)] [] (K, _, z) P
            exact bad _ (qNm_4 y1 (fun y => by omega)).symm (by omega)
    · intro h17
      have y1 : kT s n ws k ≠ 2 := fun y => h17 (r2.mpr y)
      refine s_al0 rfl ?_
      refine s_ic rfl ?_
      refine s_callO rfl rfl (Or.inl rfl) rfl rfl (hk.at rfl rfl) (u_wrong (c := 1) hk hH h8 h7 hkN (by decide) ?_)
      show V G l (d + 1) iX12_takeNumber 25 [rf 210, (1, lo), (9, 0), (1, hi), (9, 0)] [] (K, _, z) P
      refine s_go rfl ?_
      first
      | exact good y1 ⟨n1, n2⟩
      | exact bad _ (qNm_1 y1).symm (by omega)
theorem u_takeNumberD {lo hi : Int} (hk : Kn K) (h8 : 0 < D 210 8) (kk : P 1 (K, D, z)) : VM G l (d + 1) iX12_takeNumber [rf 210, (1, lo), (1, hi)] (K, D, z) P := by
  refine VM_go (tg2 rfl) (Nat.le_of_ble_eq_true rfl) ?_
  refine s_al0 rfl ?_
  refine s_gi rfl (hk.at rfl rfl) rfl ?_
  refine s_zne rfl ?_ ?_
  · intro h4
    refine s_al0 rfl ?_
    refine s_gi rfl (hk.at rfl rfl) rfl ?_
    refine s_zne rfl ?_ ?_
    · intro h32
      refine s_al0 rfl ?_
      refine s_gi rfl (hk.at rfl rfl) rfl ?_
      refine s_zle rfl ?_ ?_
      · intro h72
        omega
      · intro h72
        refine s_lc rfl ?_
        refine s_retl rfl rfl ?_
        exact kk
    · intro h32
      omega
  · intro h4
    omega
end
