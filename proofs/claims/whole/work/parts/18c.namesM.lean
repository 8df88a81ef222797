/-! ===== the reference's reader: names ===== -/
def loF (f : Int → Int) (x : Int) : Nat → Int
  | 0 => -1
  | i + 1 => if f i = x then (i : Int) else loF f x i
theorem lo_ix {f : Int → Int} {x : Int} : ∀ {n : Nat}, (∀ i j : Nat, i < j → j < n → f i ≠ f j) → loF f x n = ixF f x n := by
  intro n
  induction n with
  | zero => intro _; rfl
  | succ n ih =>
    intro h
    rw [loF, ixF, ih (fun i j a b => h i j a (by omega))]
    by_cases q : f n = x
    · rw [if_pos q]
      rcases ixF_in (f := f) (x := x) n with ⟨h1, -⟩ | ⟨i, h1, -, h3, -⟩
      · rw [if_pos h1, if_pos q]
      · exact absurd (h3.trans q.symm) (h i n h1 (by omega))
    · rw [if_neg q]
      split
      · rename_i y; rw [y]
      · rfl
/-- how wide a row's half is -/
def hwR (r : Nat) : Int := if r = 216 ∨ r = 221 then 1 else if r = 217 then 12 else if r ≤ 220 then 8 else if r = 231 ∨ r = 232 then 288 else if r = 234 ∨ r = 235 then 1600 else 24
def inN (nx : Nat) (r : Nat) (j : Int) : Prop := hwR r * nx ≤ j ∧ j < hwR r * nx + hwR r
def FrN (nx : Nat) (D D' : Nat → Int → Int) : Prop := (∀ r, r ≠ 210 → (r < 216 ∨ 235 < r) → D' r = D r) ∧ (∀ j : Int, j ≠ 7 → j ≠ 8 → j ≠ 30 → D' 210 j = D 210 j) ∧ ∀ (r : Nat) (j : Int), 216 ≤ r → r ≤ 235 → ¬ inN nx r j → D' r j = D r j
theorem FrN_refl {nx : Nat} {D : Nat → Int → Int} : FrN nx D D := ⟨fun _ _ _ => rfl, fun _ _ _ _ => rfl, fun _ _ _ _ _ => rfl⟩
theorem FrN_trans {nx : Nat} {A B C : Nat → Int → Int} (h : FrN nx A B) (g : FrN nx B C) : FrN nx A C := ⟨fun r q1 q2 => (g.1 r q1 q2).trans (h.1 r q1 q2), fun j q1 q2 q3 => (g.2.1 j q1 q2 q3).trans (h.2.1 j q1 q2 q3), fun r j q1 q2 q3 => (g.2.2 r j q1 q2 q3).trans (h.2.2 r j q1 q2 q3)⟩
theorem FrN_210 {nx : Nat} {D : Nat → Int → Int} {i v : Int} (h : i = 7 ∨ i = 8 ∨ i = 30) : FrN nx D (aUp D 210 i v) := ⟨fun r q _ => aUp_row q, fun j q1 q2 q3 => aUp_ne (by omega), fun r j q1 q2 _ => by rw [aUp_row (by omega)]⟩
theorem FrN_up {nx r : Nat} {D : Nat → Int → Int} {i v : Int} (h1 : 216 ≤ r ∧ r ≤ 235) (h2 : inN nx r i) : FrN nx D (aUp D r i v) := ⟨fun q q1 q2 => aUp_row (by omega), fun j _ _ _ => by rw [aUp_row (by omega)], fun q j q1 q2 q3 => by
  rw [aUp_app]
  split
  · rename_i y; obtain ⟨rfl, rfl⟩ := y; exact absurd h2 q3
  · rfl⟩
theorem FrN_RfH {s ws : Int → Int} {n N nx : Nat} {D D' : Nat → Int → Int} (h : FrN nx D D') (hH : RfH s ws n N D) : RfH s ws n N D' := RfH_keep hH (h.1 212 (by decide) (by decide)) (h.1 213 (by decide) (by decide)) (h.1 214 (by decide) (by decide)) (h.1 215 (by decide) (by decide))
/-- the names told so far -/
def NmM (s ws : Int → Int) (n nx : Nat) (S : PS) (D : Nat → Int → Int) : Prop := D 216 (nx : Int) = S.nh ∧ (∀ i : Nat, i < S.nh → D 217 ((12 * nx + i : Nat) : Int) = mT s n (S.hn i)) ∧ D 221 (nx : Int) = S.nt ∧ ∀ i : Nat, i < S.nt → D 222 ((24 * nx + i : Nat) : Int) = mT s n (S.tn i)
section
variable {G : aCX} {l : Launch} {d : Nat} {K : Nat → aKd} {D : Nat → Int → Int} {z : Nat × Nat} {P : Int → aSt → Prop}
theorem u_isName {s ws : Int → Int} {n N k : Nat} (hk : Kn K) (hH : RfH s ws n N D) (h8 : D 210 8 = 0) (h7 : D 210 7 = k) (hkN : k ≤ N) (kk : P (if kT s n ws k = 3 then 1 else 0) (K, D, z)) : VM G l d iX12_isName [rf 210] (K, D, z) P := by
  obtain ⟨b1, b2, b3, b4, b5⟩ := hH
  obtain ⟨r0, r1, r2, r3, r4, r5, r6, r7, r8⟩ := b1 k hkN
  have loop : ∀ (f i : Nat) (e : Int), i + f = 21 → (e = 0 ∨ e = 1) → (e = 1 ↔ D 212 k = 1 ∧ ∀ w : Nat, w < i → D 214 k ≠ wdV w) → V G l d iX12_isName 28 [rf 210, (0, e), (0, (i : Int))] [] (K, D, z) P := by
    intro f
    induction f with
    | zero =>
      intro i e hi he hq
      have hi : i = 21 := by omega
      subst hi
      refine s_il2 rfl ?_
      refine s_ic rfl ?_
      refine s_cge rfl ?_ ?_
      · intro h31
        refine s_il1 rfl ?_
        refine s_retz rfl rfl he ?_
        have fin : kT s n ws k = 3 ↔ e = 1 := by
          rw [hq]
          constructor
          · intro y
            refine ⟨r4.mpr (Or.inl y), fun w hw y2 => ?_⟩
            have y3 := (r8 w hw).mp ⟨r4.mpr (Or.inl y), y2⟩
            have : 12 ≤ wdK w := by unfold wdK; omega
            omega
          · intro y
            rcases r4.mp y.1 with y2 | y2
            · exact y2
            · exfalso
              have h32 := (kdF_in (s := s) (n := n) (ws := ws) (p := tpF s n k)).2
              have h32 : kT s n ws k ≤ 32 := h32
              obtain ⟨w, w1, w2⟩ := wd_on (kT s n ws k - 12).toNat (by omega)
              have y3 := (r8 w w1).mpr (by unfold wdK; rw [w2]; omega)
              exact y.2 w w1 y3.2
        rcases he with rfl | rfl
        · rw [if_neg (fun y => by have := fin.mp y; omega)] at kk; exact kk
        · rw [if_pos (fin.mpr rfl)] at kk; exact kk
      · intro h31
        omega
    | succ f ih =>
      intro i e hi he hq
      have e5 := b5 i (by omega)
      refine s_il2 rfl ?_
      refine s_ic rfl ?_
      refine s_cge rfl ?_ ?_
      · intro h31
        omega
      · intro h31
        refine s_il1 rfl ?_
        refine s_zeq rfl ?_ ?_
        · intro h35
          refine s_ic rfl ?_
          refine s_is1 rfl rfl ?_
          refine s_iinc2 rfl rfl ⟨by omega, by omega⟩ ?_
          refine s_go rfl ?_
          refine ih (i + 1) 0 (by omega) (Or.inl rfl) ⟨fun y => by omega, fun y => ?_⟩
          have := hq.mpr ⟨y.1, fun w hw => y.2 w (by omega)⟩
          omega
        · intro h35
          have he1 : e = 1 := by omega
          refine s_al0 rfl ?_
          refine s_gf rfl (hk.at rfl rfl) rfl rfl ?_
          refine s_al0 rfl ?_
          refine s_gi rfl (hk.at rfl rfl) rfl ?_
          rw [h7]
          refine s_lald rfl (hk.at rfl rfl) (by omega) ?_
          refine s_al0 rfl ?_
          refine s_gf rfl (hk.at rfl rfl) rfl rfl ?_
          refine s_il2 rfl ?_
          refine s_lald rfl (hk.at rfl rfl) (by omega) ?_
          rw [e5]
          refine s_lcmp rfl ?_
          refine s_zeq rfl ?_ ?_
          · intro h54
            have ye := cmp3_eq.mp h54
            refine s_ic rfl ?_
            refine s_is1 rfl rfl ?_
            refine s_iinc2 rfl rfl ⟨by omega, by omega⟩ ?_
            refine s_go rfl ?_
            refine ih (i + 1) 0 (by omega) (Or.inl rfl) ⟨fun y => by omega, fun y => absurd ye (y.2 i (by omega))⟩
          · intro h54
            have ne := fun y => h54 (cmp3_eq.mpr y)
            refine s_ic rfl ?_
            refine s_go rfl ?_
            refine s_is1 rfl rfl ?_
            refine s_iinc2 rfl rfl ⟨by omega, by omega⟩ ?_
            refine s_go rfl ?_
            refine ih (i + 1) 1 (by omega) (Or.inr rfl) ⟨fun _ => ⟨(hq.mp he1).1, fun w hw => ?_⟩, fun _ => rfl⟩
            rcases (by omega : w < i ∨ w = i) with q | q
            · exact (hq.mp he1).2 w q
            · subst q; exact ne
  refine VM_go (tg2 rfl) (Nat.le_of_ble_eq_true rfl) ?_
  refine s_al0 rfl ?_
  refine s_gi rfl (hk.at rfl rfl) rfl ?_
  rw [h8]
  refine s_zne rfl ?_ ?_
  · intro h4
    exact absurd rfl h4
  · intro h4
    refine s_al0 rfl ?_
    refine s_gf rfl (hk.at rfl rfl) rfl rfl ?_
    refine s_al0 rfl ?_
    refine s_gi rfl (hk.at rfl rfl) rfl ?_
    rw [h7]
    refine s_iald rfl (hk.at rfl rfl) (by omega) ?_
    refine s_ic rfl ?_
    refine s_cne rfl ?_ ?_
    · intro h17
      refine s_ic rfl ?_
      refine s_is1 rfl rfl ?_
      refine s_ic rfl ?_
      refine s_is2 rfl rfl ?_
      first
      | exact loop 21 0 1 (by omega) (Or.inr rfl) ⟨fun _ => ⟨h17, fun w hw => by omega⟩, fun _ => rfl⟩
      | exact loop 21 0 0 (by omega) (Or.inl rfl) ⟨fun y => by omega, fun y => absurd y.1 h17⟩
    · intro h17
      refine s_ic rfl ?_
      refine s_go rfl ?_
      refine s_is1 rfl rfl ?_
      refine s_ic rfl ?_
      refine s_is2 rfl rfl ?_
      first
      | exact loop 21 0 1 (by omega) (Or.inr rfl) ⟨fun _ => ⟨h17, fun w hw => by omega⟩, fun _ => rfl⟩
      | exact loop 21 0 0 (by omega) (Or.inl rfl) ⟨fun y => by omega, fun y => absurd y.1 h17⟩
theorem u_findHouse {s ws : Int → Int} {n N k : Nat} {nx : Nat} (hk : Kn K) (hH : RfH s ws n N D) (h8 : D 210 8 = 0) (h7 : D 210 7 = k) (hkN : k ≤ N) (hnx : D 210 11 = (nx : Nat)) (hx2 : nx ≤ 1) {S : PS} (hM : NmM s ws n nx S D) (h12 : S.nh ≤ 12) (h24 : S.nt ≤ 24) (hdi : ∀ i j, i < j → j < S.nh → mT s n (S.hn i) ≠ mT s n (S.hn j)) (hv : kT s n ws k = 3) (kk : P (qIx (mT s n) S.nh S.hn k) (K, D, z)) : VM G l d iX12_findHouse [rf 210] (K, D, z) P := by
  obtain ⟨b1, b2, b3, b4, b5⟩ := hH
  obtain ⟨r0, r1, r2, r3, r4, r5, r6, r7, r8⟩ := b1 k hkN
  have e4 := r5 (r4.mpr (Or.inl hv))
  have res : loF (fun i => mT s n (S.hn i.toNat)) (mT s n k) S.nh = qIx (mT s n) S.nh S.hn k := lo_ix (fun i j a b => hdi i j a b)
  have loop : ∀ (f i : Nat), i + f = S.nh → V G l d iX12_findHouse 4 [rf 210, (0, loF (fun i => mT s n (S.hn i.toNat)) (mT s n k) i), (0, (i : Int))] [] (K, D, z) P := by
    intro f
    induction f with
    | zero =>
      intro i hi
      have hi : i = S.nh := by omega
      subst hi
      refine s_il2 rfl ?_
      refine s_al0 rfl ?_
      refine s_gf rfl (hk.at rfl rfl) rfl rfl ?_
      refine s_al0 rfl ?_
      refine s_gi rfl (hk.at rfl rfl) rfl ?_
      rw [hnx]
      refine s_iald rfl (hk.at rfl rfl) (by omega) ?_
      rw [hM.1]
      refine s_cge rfl ?_ ?_
      · intro h14
        refine s_il1 rfl ?_
        refine s_reti rfl rfl ?_
        rw [res]; exact kk
      · intro h14
        omega
    | succ f ih =>
      intro i hi
      have e7 : D 217 (12 * (nx : Int) + (i : Int)) = mT s n (S.hn i) := by rw [show 12 * (nx : Int) + (i : Int) = ((12 * nx + i : Nat) : Int) by omega]; exact hM.2.1 i (by omega)
      have nxt : ∀ x : Int, x = loF (fun i => mT s n (S.hn i.toNat)) (mT s n k) (i + 1) → V G l d iX12_findHouse 49 [rf 210, (0, loF (fun i => mT s n (S.hn i.toNat)) (mT s n k) i), (0, (i : Int))] [(0, x)] (K, D, z) P := by
        intro x hx
        subst hx
        refine s_is1 rfl rfl ?_
        refine s_iinc2 rfl rfl ⟨by omega, by omega⟩ ?_
        refine s_go rfl ?_
        exact ih (i + 1) (by omega)
      refine s_il2 rfl ?_
      refine s_al0 rfl ?_
      refine s_gf rfl (hk.at rfl rfl) rfl rfl ?_
      refine s_al0 rfl ?_
      refine s_gi rfl (hk.at rfl rfl) rfl ?_
      rw [hnx]
      refine s_iald rfl (hk.at rfl rfl) (by omega) ?_
      rw [hM.1]
      refine s_cge rfl ?_ ?_
      · intro h14
        omega
      · intro h14
        refine s_al0 rfl ?_
        refine s_gf rfl (hk.at rfl rfl) rfl rfl ?_
        refine s_ic rfl ?_
        refine s_al0 rfl ?_
        refine s_gi rfl (hk.at rfl rfl) rfl ?_
        rw [hnx]
        refine s_imul rfl ⟨by omega, by omega⟩ ?_
        refine s_il2 rfl ?_
        refine s_iadd rfl ⟨by omega, by omega⟩ ?_
        refine s_lald rfl (hk.at rfl rfl) (by omega) ?_
        rw [e7]
        refine s_al0 rfl ?_
        refine s_gf rfl (hk.at rfl rfl) rfl rfl ?_
        refine s_al0 rfl ?_
        refine s_gi rfl (hk.at rfl rfl) rfl ?_
        rw [h7]
        refine s_lald rfl (hk.at rfl rfl) (by omega) ?_
        rw [e4]
        refine s_lcmp rfl ?_
        refine s_zne rfl ?_ ?_
        · intro h41
          have ne := fun y => h41 (cmp3_eq.mpr y)
          refine s_il1 rfl ?_
          refine nxt _ ?_
          rw [loF]
          exact (if_neg ne).symm
        · intro h41
          have ye := cmp3_eq.mp h41
          refine s_il2 rfl ?_
          refine s_go rfl ?_
          refine nxt _ ?_
          rw [loF]
          exact (if_pos ye).symm
  refine VM_go (tg2 rfl) (Nat.le_of_ble_eq_true rfl) ?_
  refine s_ic rfl ?_
  refine s_is1 rfl rfl ?_
  refine s_ic rfl ?_
  refine s_is2 rfl rfl ?_
  exact loop S.nh 0 (by omega)
theorem u_isTold {s ws : Int → Int} {n N k : Nat} {nx : Nat} (hk : Kn K) (hH : RfH s ws n N D) (h8 : D 210 8 = 0) (h7 : D 210 7 = k) (hkN : k ≤ N) (hnx : D 210 11 = (nx : Nat)) (hx2 : nx ≤ 1) {S : PS} (hM : NmM s ws n nx S D) (h12 : S.nh ≤ 12) (h24 : S.nt ≤ 24) (hdi : ∀ i j, i < j → j < S.nh → mT s n (S.hn i) ≠ mT s n (S.hn j)) (hv : kT s n ws k = 3) (kk : P (if qIx (mT s n) S.nh S.hn k = -1 ∧ qIx (mT s n) S.nt S.tn k = -1 then 0 else 1) (K, D, z)) : VM G l (d + 1) iX12_isTold [rf 210] (K, D, z) P := by
  obtain ⟨b1, b2, b3, b4, b5⟩ := id hH
  obtain ⟨r0, r1, r2, r3, r4, r5, r6, r7, r8⟩ := b1 k hkN
  have e4 := r5 (r4.mpr (Or.inl hv))
  have loop : ∀ (f i : Nat) (e : Int), i + f = S.nt → (e = 0 ∨ e = 1) → (e = 0 ↔ qIx (mT s n) S.nh S.hn k = -1 ∧ ixF (fun i => mT s n (S.tn i.toNat)) (mT s n k) i = -1) → V G l (d + 1) iX12_isTold 15 [rf 210, (0, e), (0, (i : Int))] [] (K, D, z) P := by
    intro f
    induction f with
    | zero =>
      intro i e hi he hq
      have hi : i = S.nt := by omega
      subst hi
      refine s_il2 rfl ?_
      refine s_al0 rfl ?_
      refine s_gf rfl (hk.at rfl rfl) rfl rfl ?_
      refine s_al0 rfl ?_
      refine s_gi rfl (hk.at rfl rfl) rfl ?_
      rw [hnx]
      refine s_iald rfl (hk.at rfl rfl) (by omega) ?_
      rw [hM.2.2.1]
      refine s_cge rfl ?_ ?_
      · intro h25
        refine s_il1 rfl ?_
        refine s_retz rfl rfl he ?_
        have hq : e = 0 ↔ qIx (mT s n) S.nh S.hn k = -1 ∧ qIx (mT s n) S.nt S.tn k = -1 := hq
        rcases he with rfl | rfl
        · rw [if_pos (hq.mp rfl)] at kk; exact kk
        · rw [if_neg (fun y => by have := hq.mpr y; omega)] at kk; exact kk
      · intro h25
        omega
    | succ f ih =>
      intro i e hi he hq
      have e7 : D 222 (24 * (nx : Int) + (i : Int)) = mT s n (S.tn i) := by rw [show 24 * (nx : Int) + (i : Int) = ((24 * nx + i : Nat) : Int) by omega]; exact hM.2.2.2 i (by omega)
      have st : ixF (fun i => mT s n (S.tn i.toNat)) (mT s n k) (i + 1) = (if ixF (fun i => mT s n (S.tn i.toNat)) (mT s n k) i = -1 then (if mT s n (S.tn i) = mT s n k then (i : Int) else -1) else ixF (fun i => mT s n (S.tn i.toNat)) (mT s n k) i) := rfl
      have nxt : ∀ x : Int, (x = 0 ∨ x = 1) → (x = 0 ↔ e = 0 ∧ mT s n (S.tn i) ≠ mT s n k) → V G l (d + 1) iX12_isTold 64 [rf 210, (0, e), (0, (i : Int))] [(0, x)] (K, D, z) P := by
        intro x hx hxe
        refine s_is1 rfl rfl ?_
        refine s_iinc2 rfl rfl ⟨by omega, by omega⟩ ?_
        refine s_go rfl ?_
        refine ih (i + 1) x (by omega) hx ?_
        rw [hxe, hq, st]
        constructor
        · rintro ⟨⟨y1, y2⟩, y3⟩
          exact ⟨y1, by rw [if_pos y2, if_neg y3]⟩
        · rintro ⟨y1, y2⟩
          by_cases y3 : ixF (fun i => mT s n (S.tn i.toNat)) (mT s n k) i = -1
          · rw [if_pos y3] at y2
            refine ⟨⟨y1, y3⟩, fun y4 => ?_⟩
            rw [if_pos y4] at y2; omega
          · rw [if_neg y3] at y2; exact absurd y2 y3
      refine s_il2 rfl ?_
      refine s_al0 rfl ?_
      refine s_gf rfl (hk.at rfl rfl) rfl rfl ?_
      refine s_al0 rfl ?_
      refine s_gi rfl (hk.at rfl rfl) rfl ?_
      rw [hnx]
      refine s_iald rfl (hk.at rfl rfl) (by omega) ?_
      rw [hM.2.2.1]
      refine s_cge rfl ?_ ?_
      · intro h25
        omega
      · intro h25
        refine s_il1 rfl ?_
        refine s_zne rfl ?_ ?_
        · intro h29
          refine s_ic rfl ?_
          refine s_go rfl ?_
          exact nxt 1 (Or.inr rfl) ⟨fun y => by omega, fun y => absurd y.1 h29⟩
        · intro h29
          refine s_al0 rfl ?_
          refine s_gf rfl (hk.at rfl rfl) rfl rfl ?_
          refine s_ic rfl ?_
          refine s_al0 rfl ?_
          refine s_gi rfl (hk.at rfl rfl) rfl ?_
          rw [hnx]
          refine s_imul rfl ⟨by omega, by omega⟩ ?_
          refine s_il2 rfl ?_
          refine s_iadd rfl ⟨by omega, by omega⟩ ?_
          refine s_lald rfl (hk.at rfl rfl) (by omega) ?_
          rw [e7]
          refine s_al0 rfl ?_
          refine s_gf rfl (hk.at rfl rfl) rfl rfl ?_
          refine s_al0 rfl ?_
          refine s_gi rfl (hk.at rfl rfl) rfl ?_
          rw [h7]
          refine s_lald rfl (hk.at rfl rfl) (by omega) ?_
          rw [e4]
          refine s_lcmp rfl ?_
          refine s_zne rfl ?_ ?_
          · intro h56
            have ne := fun y => h56 (cmp3_eq.mpr y)
            refine s_ic rfl ?_
            exact nxt 0 (Or.inl rfl) ⟨fun _ => ⟨h29, ne⟩, fun _ => rfl⟩
          · intro h56
            have ye := cmp3_eq.mp h56
            refine s_ic rfl ?_
            refine s_go rfl ?_
            exact nxt 1 (Or.inr rfl) ⟨fun y => by omega, fun y => absurd ye y.2⟩
  refine VM_go (tg2 rfl) (Nat.le_of_ble_eq_true rfl) ?_
  refine s_al0 rfl ?_
  refine s_callO rfl rfl (Or.inl rfl) rfl rfl (hk.at rfl rfl) (u_findHouse hk hH h8 h7 hkN hnx hx2 hM h12 h24 hdi hv ?_)
  show V G l (d + 1) iX12_isTold 4 [rf 210, (9, 0), (9, 0)] [(0, qIx (mT s n) S.nh S.hn k)] (K, D, z) P
  have ix := qIx_in (nm := mT s n) (nh := S.nh) (hn := S.hn) (k := k)
  refine s_zlt rfl ?_ ?_
  · intro h4
    refine s_ic rfl ?_
    refine s_is1 rfl rfl ?_
    refine s_ic rfl ?_
    refine s_is2 rfl rfl ?_
    first
    | exact loop S.nt 0 1 (by omega) (Or.inr rfl) ⟨fun y => by omega, fun y => by omega⟩
    | exact loop S.nt 0 0 (by omega) (Or.inl rfl) ⟨fun _ => ⟨by omega, rfl⟩, fun _ => rfl⟩
  · intro h4
    refine s_ic rfl ?_
    refine s_go rfl ?_
    refine s_is1 rfl rfl ?_
    refine s_ic rfl ?_
    refine s_is2 rfl rfl ?_
    first
    | exact loop S.nt 0 1 (by omega) (Or.inr rfl) ⟨fun y => by omega, fun y => by omega⟩
    | exact loop S.nt 0 0 (by omega) (Or.inl rfl) ⟨fun _ => ⟨by omega, rfl⟩, fun _ => rfl⟩
theorem u_takeNewName {s ws : Int → Int} {n N k : Nat} {nx : Nat} (hk : Kn K) (hH : RfH s ws n N D) (h8 : D 210 8 = 0) (h7 : D 210 7 = k) (hkN : k ≤ N) (hnx : D 210 11 = (nx : Nat)) (hx2 : nx ≤ 1) {S : PS} (hM : NmM s ws n nx S D) (h12 : S.nh ≤ 12) (h24 : S.nt ≤ 24) (hdi : ∀ i j, i < j → j < S.nh → mT s n (S.hn i) ≠ mT s n (S.hn j)) (k1 : qNn (kT s n ws) (mT s n) (pT2 s n) S.nh S.hn S.nt S.tn k = 0 → P (mT s n k) (K, aUp D 210 7 (k + 1), z)) (k0 : qNn (kT s n ws) (mT s n) (pT2 s n) S.nh S.hn S.nt S.tn k ≠ 0 → P 0 (K, aUp D 210 8 (qNn (kT s n ws) (mT s n) (pT2 s n) S.nh S.hn S.nt S.tn k), z)) : VM G l (d + 2) iX12_takeNewName [rf 210] (K, D, z) P := by
  obtain ⟨b1, b2, b3, b4, b5⟩ := id hH
  obtain ⟨r0, r1, r2, r3, r4, r5, r6, r7, r8⟩ := b1 k hkN
  have hp := (pl_in (s := s) (n := n) (k := k) b4).1
  have bad : ∀ f : Int, f = qNn (kT s n ws) (mT s n) (pT2 s n) S.nh S.hn S.nt S.tn k → 0 < f → V G l (d + 2) iX12_takeNewName 36 [rf 210] [] (K, aUp D 210 8 f, z) P := by
    intro f hf h0
    refine s_al0 rfl ?_
    refine s_gi rfl (hk.at rfl rfl) rfl ?_
    rw [aUp_at]
    refine s_zle rfl ?_ ?_
    · intro h40
      omega
    · intro h40
      refine s_lc rfl ?_
      refine s_retl rfl rfl ?_
      rw [hf]; exact k0 (by omega)
  refine VM_go (tg2 rfl) (Nat.le_of_ble_eq_true rfl) ?_
  refine s_al0 rfl ?_
  refine s_gi rfl (hk.at rfl rfl) rfl ?_
  rw [h8]
  refine s_zle rfl ?_ ?_
  · intro h4
    refine s_al0 rfl ?_
    refine s_callO rfl rfl (Or.inl rfl) rfl rfl (hk.at rfl rfl) (u_isName hk hH h8 h7 hkN ?_)
    show V G l (d + 2) iX12_takeNewName 13 [rf 210] [(0, if kT s n ws k = 3 then 1 else 0)] (K, D, z) P
    generalize hcc : (if kT s n ws k = 3 then (1 : Int) else 0) = cc
    refine s_zne rfl ?_ ?_
    · intro h13
      have y3 : kT s n ws k = 3 := Decidable.byContradiction fun q => by rw [if_neg q] at hcc; omega
      refine s_al0 rfl ?_
      refine s_callO rfl rfl (Or.inl rfl) rfl rfl (hk.at rfl rfl) (u_isTold hk hH h8 h7 hkN hnx hx2 hM h12 h24 hdi y3 ?_)
      show V G l (d + 2) iX12_takeNewName 28 [rf 210] [(0, if qIx (mT s n) S.nh S.hn k = -1 ∧ qIx (mT s n) S.nt S.tn k = -1 then 0 else 1)] (K, D, z) P
      generalize hcd : (if qIx (mT s n) S.nh S.hn k = -1 ∧ qIx (mT s n) S.nt S.tn k = -1 then (0 : Int) else 1) = cd
      refine s_zeq rfl ?_ ?_
      · intro h28
        have yt : qIx (mT s n) S.nh S.hn k = -1 ∧ qIx (mT s n) S.nt S.tn k = -1 := Decidable.byContradiction fun q => by rw [if_neg q] at hcd; omega
        have e4 := r5 (r4.mpr (Or.inl y3))
        have q0 : qNn (kT s n ws) (mT s n) (pT2 s n) S.nh S.hn S.nt S.tn k = 0 := by unfold qNn; rw [if_pos y3, if_pos yt]
        refine s_al0 rfl ?_
        refine s_gi rfl (hk.at rfl rfl) rfl ?_
        rw [h8]
        refine s_zle rfl ?_ ?_
        · intro h40
          refine s_al0 rfl ?_
          refine s_dup rfl (by first | decide | (show (2 : Nat) ≠ 1; decide)) ?_
          refine s_gi rfl (hk.at rfl rfl) rfl ?_
          rw [h7]
          refine s_ic rfl ?_
          refine s_iadd rfl ⟨by omega, by omega⟩ ?_
          refine s_pi rfl (hk.at rfl rfl) rfl ?_
          refine s_al0 rfl ?_
          refine s_gf rfl (hk.at rfl rfl) rfl rfl ?_
          refine s_al0 rfl ?_
          refine s_gi rfl (hk.at rfl rfl) rfl ?_
          rw [aUp_at]
          refine s_ic rfl ?_
          refine s_isub rfl ⟨by omega, by omega⟩ ?_
          rw [show (k : Int) + 1 - 1 = k by omega]
          refine s_lald rfl (hk.at rfl rfl) (by omega) ?_
          rw [show aUp D 210 7 ((k : Int) + 1) 214 (k : Int) = mT s n k by rw [aUp_row (by decide)]; exact e4]
          refine s_retl rfl rfl ?_
          exact k1 q0
        · intro h40
          omega
      · intro h28
        have yt : ¬ (qIx (mT s n) S.nh S.hn k = -1 ∧ qIx (mT s n) S.nt S.tn k = -1) := fun q => by rw [if_pos q] at hcd; omega
        refine s_al0 rfl ?_
        refine s_ic rfl ?_
        refine s_callO rfl rfl (Or.inl rfl) rfl rfl (hk.at rfl rfl) (u_wrong (c := 3) hk hH h8 h7 hkN (by decide) ?_)
        show V G l (d + 2) iX12_takeNewName 36 [rf 210] [] (K, _, z) P
        exact bad _ (by unfold qNn; rw [if_pos y3, if_neg yt]) (by omega)
    · intro h13
      have y3 : ¬ kT s n ws k = 3 := fun q => by rw [if_pos q] at hcc; omega
      refine s_al0 rfl ?_
      refine s_ic rfl ?_
      refine s_callO rfl rfl (Or.inl rfl) rfl rfl (hk.at rfl rfl) (u_wrong (c := 1) hk hH h8 h7 hkN (by decide) ?_)
      show V G l (d + 2) iX12_takeNewName 21 [rf 210] [] (K, _, z) P
      refine s_go rfl ?_
      exact bad _ (by unfold qNn; rw [if_neg y3]) (by omega)
  · intro h4
    omega
theorem u_takeNewNameD (hk : Kn K) (h8 : 0 < D 210 8) (kk : P 0 (K, D, z)) : VM G l (d + 2) iX12_takeNewName [rf 210] (K, D, z) P := by
  refine VM_go (tg2 rfl) (Nat.le_of_ble_eq_true rfl) ?_
  refine s_al0 rfl ?_
  refine s_gi rfl (hk.at rfl rfl) rfl ?_
  refine s_zle rfl ?_ ?_
  · intro h4
    omega
  · intro h4
    refine s_lc rfl ?_
    refine s_retl rfl rfl ?_
    exact kk
theorem u_takeHouse {s ws : Int → Int} {n N k : Nat} {nx : Nat} (hk : Kn K) (hH : RfH s ws n N D) (h8 : D 210 8 = 0) (h7 : D 210 7 = k) (hkN : k ≤ N) (hnx : D 210 11 = (nx : Nat)) (hx2 : nx ≤ 1) {S : PS} (hM : NmM s ws n nx S D) (h12 : S.nh ≤ 12) (h24 : S.nt ≤ 24) (hdi : ∀ i j, i < j → j < S.nh → mT s n (S.hn i) ≠ mT s n (S.hn j)) (k1 : qHf (kT s n ws) (mT s n) (pT2 s n) S.nh S.hn k = 0 → P (qIx (mT s n) S.nh S.hn k) (K, aUp D 210 7 (k + 1), z)) (k0 : qHf (kT s n ws) (mT s n) (pT2 s n) S.nh S.hn k ≠ 0 → P 0 (K, aUp D 210 8 (qHf (kT s n ws) (mT s n) (pT2 s n) S.nh S.hn k), z)) : VM G l (d + 1) iX12_takeHouse [rf 210] (K, D, z) P := by
  obtain ⟨b1, b2, b3, b4, b5⟩ := id hH
  have hp := (pl_in (s := s) (n := n) (k := k) b4).1
  have ix := qIx_in (nm := mT s n) (nh := S.nh) (hn := S.hn) (k := k)
  have bad : ∀ f x : Int, f = qHf (kT s n ws) (mT s n) (pT2 s n) S.nh S.hn k → 0 < f → V G l (d + 1) iX12_takeHouse 49 [rf 210, (0, x)] [] (K, aUp D 210 8 f, z) P := by
    intro f x hf h0
    have h77 : aUp D 210 8 f 210 7 = k := by rw [aUp_ne (by decide)]; exact h7
    refine s_al0 rfl ?_
    refine s_dup rfl (by first | decide | (show (2 : Nat) ≠ 1; decide)) ?_
    refine s_gi rfl (hk.at rfl rfl) rfl ?_
    rw [h77]
    refine s_al0 rfl ?_
    refine s_gi rfl (hk.at rfl rfl) rfl ?_
    rw [aUp_at]
    refine s_zne rfl ?_ ?_
    · intro h58
      refine s_ic rfl ?_
      refine s_iadd rfl ⟨by omega, by omega⟩ ?_
      refine s_pi rfl (hk.at rfl rfl) rfl ?_
      rw [Int.add_zero, aUp_self h77]
      refine s_al0 rfl ?_
      refine s_gi rfl (hk.at rfl rfl) rfl ?_
      rw [aUp_at]
      refine s_zle rfl ?_ ?_
      · intro h74
        omega
      · intro h74
        refine s_ic rfl ?_
        refine s_go rfl ?_
        refine s_reti rfl rfl ?_
        rw [hf]; exact k0 (by omega)
    · intro h58
      omega
  have good : qHf (kT s n ws) (mT s n) (pT2 s n) S.nh S.hn k = 0 → V G l (d + 1) iX12_takeHouse 49 [rf 210, (0, qIx (mT s n) S.nh S.hn k)] [] (K, D, z) P := by
    intro q0
    have h88 : aUp D 210 7 ((k : Int) + 1) 210 8 = 0 := by rw [aUp_ne (by decide)]; exact h8
    refine s_al0 rfl ?_
    refine s_dup rfl (by first | decide | (show (2 : Nat) ≠ 1; decide)) ?_
    refine s_gi rfl (hk.at rfl rfl) rfl ?_
    rw [h7]
    refine s_al0 rfl ?_
    refine s_gi rfl (hk.at rfl rfl) rfl ?_
    rw [h8]
    refine s_zne rfl ?_ ?_
    · intro h58
      exact absurd rfl h58
    · intro h58
      refine s_ic rfl ?_
      refine s_go rfl ?_
      refine s_iadd rfl ⟨by omega, by omega⟩ ?_
      refine s_pi rfl (hk.at rfl rfl) rfl ?_
      refine s_al0 rfl ?_
      refine s_gi rfl (hk.at rfl rfl) rfl ?_
      rw [h88]
      refine s_zle rfl ?_ ?_
      · intro h74
        refine s_il1 rfl ?_
        refine s_reti rfl rfl ?_
        exact k1 q0
      · intro h74
        omega
  have mid : ∀ x : Int, (kT s n ws k = 3 → x = qIx (mT s n) S.nh S.hn k) → V G l (d + 1) iX12_takeHouse 24 [rf 210, (9, 0)] [(0, x)] (K, D, z) P := by
    intro x hx
    refine s_is1 rfl rfl ?_
    refine s_al0 rfl ?_
    refine s_callO rfl rfl (Or.inl rfl) rfl rfl (hk.at rfl rfl) (u_isName hk hH h8 h7 hkN ?_)
    show V G l (d + 1) iX12_takeHouse 29 [rf 210, (0, x)] [(0, if kT s n ws k = 3 then 1 else 0)] (K, D, z) P
    generalize hcc : (if kT s n ws k = 3 then (1 : Int) else 0) = cc
    refine s_zne rfl ?_ ?_
    · intro h29
      have y3 : kT s n ws k = 3 := Decidable.byContradiction fun q => by rw [if_neg q] at hcc; omega
      have hx := hx y3
      subst hx
      refine s_il1 rfl ?_
      refine s_zge rfl ?_ ?_
      · intro h41
        exact good (by unfold qHf; rw [if_pos y3, if_neg (by omega)])
      · intro h41
        refine s_al0 rfl ?_
        refine s_ic rfl ?_
        refine s_callO rfl rfl (Or.inl rfl) rfl rfl (hk.at rfl rfl) (u_wrong (c := 2) hk hH h8 h7 hkN (by decide) ?_)
        show V G l (d + 1) iX12_takeHouse 49 _ [] (K, _, z) P
        exact bad _ _ (by unfold qHf; rw [if_pos y3, if_pos (by omega)]) (by omega)
    · intro h29
      have y3 : ¬ kT s n ws k = 3 := fun q => by rw [if_pos q] at hcc; omega
      refine s_al0 rfl ?_
      refine s_ic rfl ?_
      refine s_callO rfl rfl (Or.inl rfl) rfl rfl (hk.at rfl rfl) (u_wrong (c := 1) hk hH h8 h7 hkN (by decide) ?_)
      show V G l (d + 1) iX12_takeHouse 37 [rf 210, (0, x)] [] (K, _, z) P
      refine s_go rfl ?_
      exact bad _ _ (by unfold qHf; rw [if_neg y3]) (by omega)
  refine VM_go (tg2 rfl) (Nat.le_of_ble_eq_true rfl) ?_
  refine s_al0 rfl ?_
  refine s_gi rfl (hk.at rfl rfl) rfl ?_
  rw [h8]
  refine s_zle rfl ?_ ?_
  · intro h4
    refine s_al0 rfl ?_
    refine s_callO rfl rfl (Or.inl rfl) rfl rfl (hk.at rfl rfl) (u_isName hk hH h8 h7 hkN ?_)
    show V G l (d + 1) iX12_takeHouse 13 [rf 210, (9, 0)] [(0, if kT s n ws k = 3 then 1 else 0)] (K, D, z) P
    generalize hcc : (if kT s n ws k = 3 then (1 : Int) else 0) = cc
    refine s_zeq rfl ?_ ?_
    · intro h13
      have y3 : ¬ kT s n ws k = 3 := fun q => by rw [if_pos q] at hcc; omega
      refine s_ic rfl ?_
      exact mid _ (fun y => absurd y y3)
    · intro h13
      have y3 : kT s n ws k = 3 := Decidable.byContradiction fun q => by rw [if_neg q] at hcc; omega
      refine s_al0 rfl ?_
      refine s_callO rfl rfl (Or.inl rfl) rfl rfl (hk.at rfl rfl) (u_findHouse hk hH h8 h7 hkN hnx hx2 hM h12 h24 hdi y3 ?_)
      show V G l (d + 1) iX12_takeHouse 20 [rf 210, (9, 0)] [(0, qIx (mT s n) S.nh S.hn k)] (K, D, z) P
      refine s_go rfl ?_
      exact mid _ (fun _ => rfl)
  · intro h4
    omega
theorem u_takeHouseD (hk : Kn K) (h8 : 0 < D 210 8) (kk : P 0 (K, D, z)) : VM G l (d + 1) iX12_takeHouse [rf 210] (K, D, z) P := by
  refine VM_go (tg2 rfl) (Nat.le_of_ble_eq_true rfl) ?_
  refine s_al0 rfl ?_
  refine s_gi rfl (hk.at rfl rfl) rfl ?_
  refine s_zle rfl ?_ ?_
  · intro h4
    omega
  · intro h4
    refine s_ic rfl ?_
    refine s_reti rfl rfl ?_
    exact kk
theorem u_emit {nx c : Nat} {a b : Int} (hk : Kn K) (hnx : D 210 11 = (nx : Nat)) (hx2 : nx ≤ 1) (hc : D 210 30 = (c : Nat)) (h16 : c < 1600) (kk : P 0 (K, aUp (aUp (aUp D 234 ((1600 * nx + c : Nat) : Int) a) 235 ((1600 * nx + c : Nat) : Int) b) 210 30 ((c + 1 : Nat) : Int), z)) : VM G l d iX12_emit [rf 210, (0, a), (0, b)] (K, D, z) P := by
  have e1 : (1600 : Int) * (nx : Int) + (c : Int) = ((1600 * nx + c : Nat) : Int) := by omega
  have e2 : aUp D 234 ((1600 * nx + c : Nat) : Int) a 210 = D 210 := aUp_row (by decide)
  have e3 : aUp (aUp D 234 ((1600 * nx + c : Nat) : Int) a) 235 ((1600 * nx + c : Nat) : Int) b 210 = D 210 := by rw [aUp_row (by decide), e2]
  refine VM_go (tg2 rfl) (Nat.le_of_ble_eq_true rfl) ?_
  refine s_al0 rfl ?_
  refine s_gf rfl (hk.at rfl rfl) rfl rfl ?_
  refine s_ic rfl ?_
  refine s_al0 rfl ?_
  refine s_gi rfl (hk.at rfl rfl) rfl ?_
  rw [hnx]
  refine s_imul rfl ⟨by omega, by omega⟩ ?_
  refine s_al0 rfl ?_
  refine s_gi rfl (hk.at rfl rfl) rfl ?_
  rw [hc]
  refine s_iadd rfl ⟨by omega, by omega⟩ ?_
  rw [e1]
  refine s_il1 rfl ?_
  refine s_iast rfl (hk.at rfl rfl) (by omega) ?_
  refine s_al0 rfl ?_
  refine s_gf rfl (hk.at rfl rfl) rfl rfl ?_
  refine s_ic rfl ?_
  refine s_al0 rfl ?_
  refine s_gi rfl (hk.at rfl rfl) rfl ?_
  rw [e2, hnx]
  refine s_imul rfl ⟨by omega, by omega⟩ ?_
  refine s_al0 rfl ?_
  refine s_gi rfl (hk.at rfl rfl) rfl ?_
  rw [e2, hc]
  refine s_iadd rfl ⟨by omega, by omega⟩ ?_
  rw [e1]
  refine s_il2 rfl ?_
  refine s_iast rfl (hk.at rfl rfl) (by omega) ?_
  refine s_al0 rfl ?_
  refine s_dup rfl (by first | decide | (show (2 : Nat) ≠ 1; decide)) ?_
  refine s_gi rfl (hk.at rfl rfl) rfl ?_
  rw [e3, hc]
  refine s_ic rfl ?_
  refine s_iadd rfl ⟨by omega, by omega⟩ ?_
  refine s_pi rfl (hk.at rfl rfl) rfl ?_
  refine s_retv rfl rfl ?_
  exact kk
end
