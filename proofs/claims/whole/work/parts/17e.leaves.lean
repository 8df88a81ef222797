/-! ===== the reader: leaves ===== -/
def Fr0 (D D' : Nat → Int → Int) : Prop := (∀ r, r ≠ 2 → r ≠ 5 → D' r = D r) ∧ D' 2 3 = D 2 3 ∧ ∀ j : Int, j ≠ 4 → D' 5 j = D 5 j
theorem Fr0_refl {D : Nat → Int → Int} : Fr0 D D := ⟨fun _ _ _ => rfl, rfl, fun _ _ => rfl⟩
theorem Fr0_trans {A B C : Nat → Int → Int} (h : Fr0 A B) (g : Fr0 B C) : Fr0 A C := ⟨fun r q1 q2 => (g.1 r q1 q2).trans (h.1 r q1 q2), g.2.1.trans h.2.1, fun j q => (g.2.2 j q).trans (h.2.2 j q)⟩
theorem Fr0_tape {D D' : Nat → Int → Int} (h : ∀ r, r ≠ 2 → D' r = D r) (h2 : D' 2 3 = D 2 3) : Fr0 D D' := ⟨fun r q _ => h r q, h2, fun j _ => by rw [h 5 (by decide)]⟩
theorem Fr0_fault {D : Nat → Int → Int} {x : Int} : Fr0 D (aUp D 5 4 x) := ⟨fun r _ q => aUp_row q, aUp_ne (by decide), fun j q => aUp_ne q⟩
theorem Fr0_TpH {s ws : Int → Int} {n : Nat} {D D' : Nat → Int → Int} (h : Fr0 D D') (hH : TpH s n ws D) : TpH s n ws D' := TpH_keep hH (h.1 3 (by decide) (by decide)) (h.1 4 (by decide) (by decide)) h.2.1
/-- the first place of x -/
def ixF (f : Int → Int) (x : Int) : Nat → Int
  | 0 => -1
  | i + 1 => if ixF f x i = -1 then (if f i = x then (i : Int) else -1) else ixF f x i
theorem ixF_in {f : Int → Int} {x : Int} : ∀ n : Nat, (ixF f x n = -1 ∧ ∀ i : Nat, i < n → f i ≠ x) ∨ ∃ i : Nat, i < n ∧ ixF f x n = i ∧ f i = x ∧ ∀ j : Nat, j < i → f j ≠ x := by
  intro n
  induction n with
  | zero => exact Or.inl ⟨rfl, fun i hi => by omega⟩
  | succ n ih =>
    rw [ixF]
    rcases ih with ⟨h, hn⟩ | ⟨i, h1, h2, h3, h4⟩
    · rw [if_pos h]
      by_cases q : f n = x
      · rw [if_pos q]; exact Or.inr ⟨n, by omega, rfl, q, hn⟩
      · rw [if_neg q]
        refine Or.inl ⟨rfl, fun i hi => ?_⟩
        rcases (by omega : i < n ∨ i = n) with y | y
        · exact hn i y
        · subst y; exact q
    · rw [if_neg (by omega)]; exact Or.inr ⟨i, by omega, h2, h3, h4⟩
theorem ixF_stay {f : Int → Int} {x : Int} {i : Nat} (h : ixF f x i ≠ -1) : ∀ m, ixF f x (i + m) = ixF f x i := by
  intro m
  induction m with
  | zero => rfl
  | succ m ih => rw [← Nat.add_assoc, ixF, ih, if_neg h]
theorem ixF_congr {f g : Int → Int} {x y : Int} : ∀ {n : Nat}, (∀ i : Nat, i < n → (f i = x ↔ g i = y)) → ixF f x n = ixF g y n := by
  intro n
  induction n with
  | zero => intro _; rfl
  | succ n ih =>
    intro h
    rw [ixF, ixF, ih (fun i hi => h i (by omega))]
    by_cases q : f n = x
    · rw [if_pos q, if_pos ((h n (by omega)).mp q)]
    · rw [if_neg q, if_neg (fun y => q ((h n (by omega)).mpr y))]
theorem pl_in {s : Int → Int} {n k : Nat} (h : n ≤ 1500) : 0 ≤ pT2 s n k ∧ pT2 s n k ≤ 1500 := by
  have := tpF_in (s := s) (n := n) k
  show 0 ≤ ((tpF s n k : Nat) : Int) ∧ ((tpF s n k : Nat) : Int) ≤ 1500
  omega
section
variable {G : aCX} {l : Launch} {d : Nat} {K : Nat → aKd} {D : Nat → Int → Int} {z : Nat × Nat} {P : Int → aSt → Prop}
theorem v_fail {s ws : Int → Int} {n k : Nat} {c : Int} (hk : Kn K) (hH : TpH s n ws D) (hA : AtC s n ws k D) (hc : 0 ≤ c ∧ c ≤ 15) (kk : P 0 (K, aUp D 5 4 (c + 16 * pT2 s n k), z)) : VM G l d iX4_fail [rf 5, (0, c)] (K, D, z) P := by
  have h15 := hH.2.2.2.1
  have hp := pl_in (s := s) (n := n) (k := k) h15
  have e5 : D 2 5 = pT2 s n k := hA.1
  refine VM_go (tg2 rfl) (Nat.le_of_ble_eq_true rfl) ?_
  refine s_al0 rfl ?_
  refine s_il1 rfl ?_
  refine s_ic rfl ?_
  refine s_al0 rfl ?_
  refine s_gf rfl (hk.at rfl rfl) rfl rfl ?_
  refine s_gi rfl (hk.at rfl rfl) rfl ?_
  rw [e5]
  refine s_imul rfl ⟨by omega, by omega⟩ ?_
  refine s_iadd rfl ⟨by omega, by omega⟩ ?_
  refine s_pi rfl (hk.at rfl rfl) rfl ?_
  refine s_ic rfl ?_
  refine s_retz rfl rfl (Or.inl rfl) ?_
  exact kk
theorem v_take {s ws : Int → Int} {n k : Nat} {c : Int} (hg : SgR G l) (hk : Kn K) (hH : TpH s n ws D) (hA : AtC s n ws k D) (k1 : kT s n ws k = c → ∀ D' : Nat → Int → Int, Fr0 D D' → AtC s n ws (k + 1) D' → P 1 (K, D', z)) (k0 : kT s n ws k ≠ c → P 0 (K, aUp D 5 4 (1 + 16 * pT2 s n k), z)) : VM G l (d + 2) iX4_take [rf 5, (0, c)] (K, D, z) P := by
  have e4 : D 2 4 = kT s n ws k := hA.2.2.1
  refine VM_go (tg2 rfl) (Nat.le_of_ble_eq_true rfl) ?_
  refine s_al0 rfl ?_
  refine s_gf rfl (hk.at rfl rfl) rfl rfl ?_
  refine s_gi rfl (hk.at rfl rfl) rfl ?_
  rw [e4]
  refine s_il1 rfl ?_
  refine s_ceq rfl ?_ ?_
  · intro h8
    refine s_al0 rfl ?_
    refine s_gf rfl (hk.at rfl rfl) rfl rfl ?_
    refine s_callO rfl rfl (Or.inl rfl) rfl rfl (hk.at rfl rfl) (v_adv hg hk hH hA (fun D' g1 g2 g3 => ?_))
    show V G l (d + 2) iX4_take 24 [rf 5, (0, c)] [] (K, D', z) P
    refine s_ic rfl ?_
    refine s_retz rfl rfl (Or.inr rfl) ?_
    exact k1 h8 D' (Fr0_tape g1 g2) g3
  · intro h8
    refine s_al0 rfl ?_
    refine s_ic rfl ?_
    refine s_callO rfl rfl (Or.inl rfl) rfl rfl (hk.at rfl rfl) (v_fail (c := 1) hk hH hA (by decide) ?_)
    show V G l (d + 2) iX4_take 16 [rf 5, (0, c)] [(0, 0)] (K, _, z) P
    refine s_retz rfl rfl (Or.inl rfl) ?_
    exact k0 h8
theorem v_isNumber {s ws : Int → Int} {n k : Nat} {lo hi : Int} (hk : Kn K) (hH : TpH s n ws D) (hA : AtC s n ws k D) (k1 : kT s n ws k = 2 → lo ≤ nT s n k ∧ nT s n k ≤ hi → D 2 6 = nT s n k → P 1 (K, D, z)) (k0 : kT s n ws k ≠ 2 → P 0 (K, aUp D 5 4 (1 + 16 * pT2 s n k), z)) (k4 : kT s n ws k = 2 → ¬ (lo ≤ nT s n k ∧ nT s n k ≤ hi) → P 0 (K, aUp D 5 4 (4 + 16 * pT2 s n k), z)) : VM G l (d + 1) iX4_isNumber [rf 5, (0, lo), (0, hi)] (K, D, z) P := by
  have e4 : D 2 4 = kT s n ws k := hA.2.2.1
  have e6 := hA.2.2.2.1
  refine VM_go (tg2 rfl) (Nat.le_of_ble_eq_true rfl) ?_
  refine s_al0 rfl ?_
  refine s_gf rfl (hk.at rfl rfl) rfl rfl ?_
  refine s_gi rfl (hk.at rfl rfl) rfl ?_
  rw [e4]
  refine s_ic rfl ?_
  refine s_ceq rfl ?_ ?_
  · intro h8
    have e6 : D 2 6 = nT s n k := e6 h8
    refine s_al0 rfl ?_
    refine s_gf rfl (hk.at rfl rfl) rfl rfl ?_
    refine s_gi rfl (hk.at rfl rfl) rfl ?_
    rw [e6]
    refine s_il1 rfl ?_
    refine s_clt rfl ?_ ?_
    · intro h25
      refine s_al0 rfl ?_
      refine s_ic rfl ?_
      refine s_callO rfl rfl (Or.inl rfl) rfl rfl (hk.at rfl rfl) (v_fail (c := 4) hk hH hA (by decide) ?_)
      show V G l (d + 1) iX4_isNumber 44 [rf 5, (0, lo), (0, hi)] [(0, 0)] (K, _, z) P
      refine s_zeq rfl ?_ ?_
      · intro h44
        refine s_ic rfl ?_
        refine s_retz rfl rfl (by omega) ?_
        first | exact k4 h8 (fun y => by have : lo ≤ nT s n k := y.1; omega) | exact k4 h8 (fun y => by have : nT s n k ≤ hi := y.2; omega) | exact k1 h8 ⟨by omega, by omega⟩ e6
      · intro h44
        exact absurd rfl h44
    · intro h25
      refine s_al0 rfl ?_
      refine s_gf rfl (hk.at rfl rfl) rfl rfl ?_
      refine s_gi rfl (hk.at rfl rfl) rfl ?_
      rw [e6]
      refine s_il2 rfl ?_
      refine s_cle rfl ?_ ?_
      · intro h36
        refine s_ic rfl ?_
        refine s_go rfl ?_
        refine s_retz rfl rfl (by omega) ?_
        first | exact k4 h8 (fun y => by have : lo ≤ nT s n k := y.1; omega) | exact k4 h8 (fun y => by have : nT s n k ≤ hi := y.2; omega) | exact k1 h8 ⟨by omega, by omega⟩ e6
      · intro h36
        refine s_al0 rfl ?_
        refine s_ic rfl ?_
        refine s_callO rfl rfl (Or.inl rfl) rfl rfl (hk.at rfl rfl) (v_fail (c := 4) hk hH hA (by decide) ?_)
        show V G l (d + 1) iX4_isNumber 44 [rf 5, (0, lo), (0, hi)] [(0, 0)] (K, _, z) P
        refine s_zeq rfl ?_ ?_
        · intro h44
          refine s_ic rfl ?_
          refine s_retz rfl rfl (by omega) ?_
          first | exact k4 h8 (fun y => by have : lo ≤ nT s n k := y.1; omega) | exact k4 h8 (fun y => by have : nT s n k ≤ hi := y.2; omega) | exact k1 h8 ⟨by omega, by omega⟩ e6
        · intro h44
          exact absurd rfl h44
  · intro h8
    refine s_al0 rfl ?_
    refine s_ic rfl ?_
    refine s_callO rfl rfl (Or.inl rfl) rfl rfl (hk.at rfl rfl) (v_fail (c := 1) hk hH hA (by decide) ?_)
    show V G l (d + 1) iX4_isNumber 16 [rf 5, (0, lo), (0, hi)] [(0, 0)] (K, _, z) P
    refine s_retz rfl rfl (Or.inl rfl) ?_
    exact k0 h8
theorem v_indexOf {r m : Nat} {x : Int} {L : Nat} (hr : K r = (15, L, [])) (hm : m ≤ L) (hL : L ≤ 200000) (kk : P (ixF (D r) x m) (K, D, z)) : VM G l d iX4_indexOf [rf r, (0, (m : Int)), (1, x)] (K, D, z) P := by
  have loop : ∀ (f i : Nat), i + f = m → ixF (D r) x i = -1 → V G l d iX4_indexOf 3 [rf r, (0, (m : Int)), (1, x), (9, 0), (0, (i : Int))] [] (K, D, z) P := by
    intro f
    have hb : (Nat.ble 13 15 && Nat.ble 15 18 && Nat.ble L 200000) = true := by
      have : Nat.ble L 200000 = true := Nat.ble_eq_true_of_le hL
      rw [this]; rfl
    induction f with
    | zero =>
      intro i hi h0
      have : i = m := by omega
      subst this
      refine s_il4 rfl ?_
      refine s_il1 rfl ?_
      refine s_cge rfl ?_ ?_
      · intro h6
        refine s_ic rfl ?_
        refine s_reti rfl rfl ?_
        rw [h0] at kk; exact kk
      · intro h6
        omega
    | succ f ih =>
      intro i hi h0
      refine s_il4 rfl ?_
      refine s_il1 rfl ?_
      refine s_cge rfl ?_ ?_
      · intro h6
        omega
      · intro h6
        refine s_il4 rfl ?_
        refine s_al0 rfl ?_
        refine s_alen rfl hr hb ?_
        refine s_cge rfl ?_ ?_
        · intro h13
          exact absurd h13 (by show ¬ ((L : Nat) : Int) ≤ i; omega)
        · intro h13
          refine s_al0 rfl ?_
          refine s_il4 rfl ?_
          refine s_lald rfl hr (by omega) ?_
          refine s_ll2 rfl ?_
          refine s_lcmp rfl ?_
          refine s_zne rfl ?_ ?_
          · intro h22
            have ne := fun y => h22 (cmp3_eq.mpr y)
            refine s_iinc4 rfl rfl ⟨by omega, by omega⟩ ?_
            refine s_go rfl ?_
            exact ih (i + 1) (by omega) (by rw [ixF, if_pos h0, if_neg ne])
          · intro h22
            have ye := cmp3_eq.mp h22
            refine s_il4 rfl ?_
            refine s_reti rfl rfl ?_
            have e : ixF (D r) x (i + 1) = i := by rw [ixF, if_pos h0, if_pos ye]
            have e2 := ixF_stay (f := D r) (x := x) (i := i + 1) (by rw [e]; omega) f
            rw [show i + 1 + f = m by omega] at e2
            rw [e2, e] at kk; exact kk
  refine VM_go (tg2 rfl) (Nat.le_of_ble_eq_true rfl) ?_
  refine s_ic rfl ?_
  refine s_is4 rfl rfl ?_
  exact loop m 0 (by omega) rfl
theorem v_houseHere {s ws : Int → Int} {n k nh T : Nat} (hk : Kn K) (hH : TpH s n ws D) (hA : AtC s n ws k D) (hT : isT T) (h53 : D 5 3 = (T : Nat)) (hnh : D T 0 = nh) (h12 : nh ≤ 12) (k1 : kT s n ws k = 3 → ixF (D 6) (lT3 s n k) nh ≠ -1 → P (ixF (D 6) (lT3 s n k) nh) (K, D, z)) (k0 : kT s n ws k ≠ 3 → P (-1) (K, aUp D 5 4 (1 + 16 * pT2 s n k), z)) (k2 : kT s n ws k = 3 → ixF (D 6) (lT3 s n k) nh = -1 → P (-1) (K, aUp D 5 4 (2 + 16 * pT2 s n k), z)) : VM G l (d + 1) iX4_houseHere [rf 5] (K, D, z) P := by
  have e4 : D 2 4 = kT s n ws k := hA.2.2.1
  have e7 := hA.2.2.2.2.1
  refine VM_go (tg2 rfl) (Nat.le_of_ble_eq_true rfl) ?_
  refine s_al0 rfl ?_
  refine s_gf rfl (hk.at rfl rfl) rfl rfl ?_
  refine s_gi rfl (hk.at rfl rfl) rfl ?_
  rw [e4]
  refine s_ic rfl ?_
  refine s_ceq rfl ?_ ?_
  · intro h8
    have e7 : D 2 7 = lT3 s n k := e7 (Or.inl h8)
    refine s_al0 rfl ?_
    refine s_gf rfl (hk.at rfl rfl) rfl rfl ?_
    refine s_al0 rfl ?_
    refine s_gr rfl (hk.at rfl rfl) rfl ?_
    rw [h53]
    refine s_gi rfl (KT hk hT) rfl ?_
    rw [hnh]
    refine s_al0 rfl ?_
    refine s_gf rfl (hk.at rfl rfl) rfl rfl ?_
    refine s_gl rfl (hk.at rfl rfl) rfl ?_
    rw [e7]
    refine s_callS rfl rfl rfl rfl (v_indexOf (L := 12) (hk.at rfl rfl) h12 (by decide) ?_)
    show V G l (d + 1) iX4_houseHere 40 [rf 5, (9, 0)] [(0, ixF (D 6) (lT3 s n k) nh)] (K, D, z) P
    refine s_is1 rfl rfl ?_
    refine s_il1 rfl ?_
    refine s_ic rfl ?_
    refine s_cne rfl ?_ ?_
    · intro h43
      refine s_il1 rfl ?_
      refine s_reti rfl rfl ?_
      first | exact k1 h8 h43 | (rw [h43]; exact k2 h8 h43)
    · intro h43
      refine s_al0 rfl ?_
      refine s_ic rfl ?_
      refine s_callO rfl rfl (Or.inl rfl) rfl rfl (hk.at rfl rfl) (v_fail (c := 2) hk hH hA (by decide) ?_)
      show V G l (d + 1) iX4_houseHere 51 [rf 5, (0, ixF (D 6) (lT3 s n k) nh)] [(0, 0)] (K, _, z) P
      refine s_pop rfl rfl ?_
      refine s_il1 rfl ?_
      refine s_reti rfl rfl ?_
      first | exact k1 h8 h43 | (rw [h43]; exact k2 h8 h43)
  · intro h8
    refine s_al0 rfl ?_
    refine s_ic rfl ?_
    refine s_callO rfl rfl (Or.inl rfl) rfl rfl (hk.at rfl rfl) (v_fail (c := 1) hk hH hA (by decide) ?_)
    show V G l (d + 1) iX4_houseHere 16 [rf 5, (9, 0)] [(0, 0)] (K, _, z) P
    refine s_pop rfl rfl ?_
    refine s_ic rfl ?_
    refine s_reti rfl rfl ?_
    exact k0 h8
theorem v_isNewName {s ws : Int → Int} {n k nh nt T : Nat} (hk : Kn K) (hH : TpH s n ws D) (hA : AtC s n ws k D) (hT : isT T) (h53 : D 5 3 = (T : Nat)) (hnh : D T 0 = nh) (h12 : nh ≤ 12) (hnt : D T 1 = nt) (h24 : nt ≤ 24) (k1 : kT s n ws k = 3 → D 2 7 = lT3 s n k → ixF (D 6) (lT3 s n k) nh = -1 ∧ ixF (D 7) (lT3 s n k) nt = -1 → P 1 (K, D, z)) (k0 : kT s n ws k ≠ 3 → P 0 (K, aUp D 5 4 (1 + 16 * pT2 s n k), z)) (k3 : kT s n ws k = 3 → ¬ (ixF (D 6) (lT3 s n k) nh = -1 ∧ ixF (D 7) (lT3 s n k) nt = -1) → P 0 (K, aUp D 5 4 (3 + 16 * pT2 s n k), z)) : VM G l (d + 1) iX4_isNewName [rf 5] (K, D, z) P := by
  have e4 : D 2 4 = kT s n ws k := hA.2.2.1
  have e7 := hA.2.2.2.2.1
  have nott : ixF (D 6) (lT3 s n k) nh = -1 ∧ ixF (D 7) (lT3 s n k) nt = -1 → kT s n ws k = 3 → D 2 7 = lT3 s n k → V G l (d + 1) iX4_isNewName 72 [rf 5, (9, 0)] [(0, 0)] (K, D, z) P := by
    intro hc h8 e7
    refine s_is1 rfl rfl ?_
    refine s_il1 rfl ?_
    refine s_zeq rfl ?_ ?_
    · intro h74
      refine s_ic rfl ?_
      refine s_go rfl ?_
      refine s_retz rfl rfl (Or.inr rfl) ?_
      exact k1 h8 e7 hc
    · intro h74
      exact absurd rfl h74
  have told : ¬ (ixF (D 6) (lT3 s n k) nh = -1 ∧ ixF (D 7) (lT3 s n k) nt = -1) → kT s n ws k = 3 → V G l (d + 1) iX4_isNewName 72 [rf 5, (9, 0)] [(0, 1)] (K, D, z) P := by
    intro hc h8
    refine s_is1 rfl rfl ?_
    refine s_il1 rfl ?_
    refine s_zeq rfl ?_ ?_
    · intro h74
      exact absurd h74 (by decide)
    · intro h74
      refine s_al0 rfl ?_
      refine s_ic rfl ?_
      refine s_callO rfl rfl (Or.inl rfl) rfl rfl (hk.at rfl rfl) (v_fail (c := 3) hk hH hA (by decide) ?_)
      show V G l (d + 1) iX4_isNewName 82 [rf 5, (0, 1)] [(0, 0)] (K, _, z) P
      refine s_zeq rfl ?_ ?_
      · intro h82
        refine s_ic rfl ?_
        refine s_retz rfl rfl (Or.inl rfl) ?_
        exact k3 h8 hc
      · intro h82
        exact absurd rfl h82
  refine VM_go (tg2 rfl) (Nat.le_of_ble_eq_true rfl) ?_
  refine s_al0 rfl ?_
  refine s_gf rfl (hk.at rfl rfl) rfl rfl ?_
  refine s_gi rfl (hk.at rfl rfl) rfl ?_
  rw [e4]
  refine s_ic rfl ?_
  refine s_ceq rfl ?_ ?_
  · intro h8
    have e7 : D 2 7 = lT3 s n k := e7 (Or.inl h8)
    refine s_al0 rfl ?_
    refine s_gf rfl (hk.at rfl rfl) rfl rfl ?_
    refine s_al0 rfl ?_
    refine s_gr rfl (hk.at rfl rfl) rfl ?_
    rw [h53]
    refine s_gi rfl (KT hk hT) rfl ?_
    rw [hnh]
    refine s_al0 rfl ?_
    refine s_gf rfl (hk.at rfl rfl) rfl rfl ?_
    refine s_gl rfl (hk.at rfl rfl) rfl ?_
    rw [e7]
    refine s_callS rfl rfl rfl rfl (v_indexOf (L := 12) (hk.at rfl rfl) h12 (by decide) ?_)
    show V G l (d + 1) iX4_isNewName 38 [rf 5, (9, 0)] [(0, ixF (D 6) (lT3 s n k) nh)] (K, D, z) P
    refine s_ic rfl ?_
    refine s_cne rfl ?_ ?_
    · intro h39
      refine s_ic rfl ?_
      refine s_go rfl ?_
      first | exact nott ⟨by omega, by omega⟩ h8 e7 | exact told (by omega) h8
    · intro h39
      refine s_al0 rfl ?_
      refine s_gf rfl (hk.at rfl rfl) rfl rfl ?_
      refine s_al0 rfl ?_
      refine s_gr rfl (hk.at rfl rfl) rfl ?_
      rw [h53]
      refine s_gi rfl (KT hk hT) rfl ?_
      rw [hnt]
      refine s_al0 rfl ?_
      refine s_gf rfl (hk.at rfl rfl) rfl rfl ?_
      refine s_gl rfl (hk.at rfl rfl) rfl ?_
      rw [e7]
      refine s_callS rfl rfl rfl rfl (v_indexOf (L := 24) (hk.at rfl rfl) h24 (by decide) ?_)
      show V G l (d + 1) iX4_isNewName 63 [rf 5, (9, 0)] [(0, ixF (D 7) (lT3 s n k) nt)] (K, D, z) P
      refine s_ic rfl ?_
      refine s_ceq rfl ?_ ?_
      · intro h64
        refine s_ic rfl ?_
        first | exact nott ⟨by omega, by omega⟩ h8 e7 | exact told (by omega) h8
      · intro h64
        refine s_ic rfl ?_
        refine s_go rfl ?_
        first | exact nott ⟨by omega, by omega⟩ h8 e7 | exact told (by omega) h8
  · intro h8
    refine s_al0 rfl ?_
    refine s_ic rfl ?_
    refine s_callO rfl rfl (Or.inl rfl) rfl rfl (hk.at rfl rfl) (v_fail (c := 1) hk hH hA (by decide) ?_)
    show V G l (d + 1) iX4_isNewName 16 [rf 5, (9, 0)] [(0, 0)] (K, _, z) P
    refine s_retz rfl rfl (Or.inl rfl) ?_
    exact k0 h8
end
