/-! ===== a round: the reference ===== -/
theorem wM_congr {D D' : Nat → Int → Int} (h : ∀ r, 223 ≤ r → r ≤ 232 → D' r = D r) (h0 : D' 210 10 = D 210 10) : wM D' = wM D := by
  funext t j
  unfold wM
  rw [h0, h 224 (by omega) (by omega), h 223 (by omega) (by omega), h 232 (by omega) (by omega), h 231 (by omega) (by omega)]
  by_cases q : j < 8
  · rw [h (223 + j.toNat) (by omega) (by omega)]
  · rw [if_neg q, if_neg q]
theorem rmM_congr {D D' : Nat → Int → Int} (h : wM D' = wM D) (h3 : D' 263 = D 263) : rmM D' = rmM D := by
  funext t
  unfold rmM
  rw [h, h3]
abbrev payM (D : Nat → Int → Int) : Nat → Bool := fun t => decide (D 268 t = 1)
abbrev diM (D : Nat → Int → Int) (e : Nat) : Int → Int := fun h => D 255 (12 * e + h)
abbrev grM (D : Nat → Int → Int) (e : Nat) : Int → Int := fun h => D 256 (12 * e + h)
abbrev ntM (D : Nat → Int → Int) : Nat := (D 221 (D 210 10)).toNat
/-- what a round needs -/
def RnB (D : Nat → Int → Int) (e : Nat) (nh : Int) : Prop := (D 210 10 = 0 ∨ D 210 10 = 1) ∧ 0 ≤ D 221 (D 210 10) ∧ wOk (wM D) (ntM D) nh ∧ (∀ t, t < ntM D → ((0 ≤ wM D t 3 ∧ wM D t 3 ≤ 999999) ∧ (0 ≤ wM D t 5 ∧ wM D t 5 ≤ 9)) ∧ 0 ≤ rmM D t ∧ (0 ≤ D 263 t ∧ D 263 t ≤ 10000000) ∧ (D 268 t = 0 ∨ D 268 t = 1)) ∧ ∀ h : Int, 0 ≤ h → h < 12 → 0 ≤ diM D e h ∧ diM D e h ≤ grM D e h ∧ grM D e h ≤ 20000000 ∧ diM D e h ≤ 6000000
/-- what it leaves after n treaties -/
def RnD (e n : Nat) (D D' : Nat → Int → Int) : Prop := (∀ r, r ≠ 258 → r ≠ 259 → r ≠ 260 → r ≠ 269 → r ≠ 270 → r ≠ 271 → D' r = D r) ∧
  (∀ h : Int, 0 ≤ h → h < 12 → D' 269 h = nxF (wM D) (rmM D) (payM D) (diM D e) (grM D e) n h ∧ D' 270 h = (hsF (wM D) (rmM D) (payM D) (diM D e) (grM D e) h n).1 ∧ D' 271 h = (hsF (wM D) (rmM D) (payM D) (diM D e) (grM D e) h n).2) ∧
  (∀ t : Nat, t < n → D' 258 (24 * e + t) = (if payM D t = true then bsF (wM D) (rmM D) (payM D) (diM D e) (grM D e) t else 0) ∧ D' 259 (24 * e + t) = (if payM D t = true then (if wM D t 1 = 0 then pdF (wM D) t (auF (wM D) (rmM D) (payM D) (diM D e) (grM D e) t) else auF (wM D) (rmM D) (payM D) (diM D e) (grM D e) t) else 0) ∧ D' 260 (24 * e + t) = (if payM D t = true then pdF (wM D) t (auF (wM D) (rmM D) (payM D) (diM D e) (grM D e) t) else 0)) ∧
  ∀ j : Int, ¬ (24 * (e : Int) ≤ j ∧ j < 24 * e + n) → D' 258 j = D 258 j ∧ D' 259 j = D 259 j ∧ D' 260 j = D 260 j
def RoD (e : Nat) (D D' : Nat → Int → Int) : Prop := ∃ D1, RnD e (ntM D) D D1 ∧ (∀ r, r ≠ 257 → D' r = D1 r) ∧ (∀ h : Int, 0 ≤ h → h < 12 → D' 257 (12 * e + h) = (hsF (wM D) (rmM D) (payM D) (diM D e) (grM D e) h (ntM D)).1) ∧ ∀ j : Int, ¬ (12 * (e : Int) ≤ j ∧ j < 12 * e + 12) → D' 257 j = D 257 j
section
variable {G : aCX} {l : Launch} {d : Nat} {K : Nat → aKd} {D : Nat → Int → Int} {z : Nat × Nat} {P : Int → aSt → Prop}
theorem u_round {e : Nat} {nh : Int} (hk : Kn K) (he : e < 60) (hb : RnB D e nh) (kk : ∀ D', RoD e D D' → P 0 (K, D', z)) : VM G l (d + 1) iX12_round [rf 210, (0, (e : Int))] (K, D, z) P := by
  obtain ⟨b1, b2, b3, b4, b5⟩ := hb
  have n24 := b3.1
  have en : ((ntM D : Nat) : Int) = D 221 (D 210 10) := by show ((D 221 (D 210 10)).toNat : Int) = _; omega
  have hd5 : ∀ h, 0 ≤ h → h < nh → 0 ≤ diM D e h ∧ diM D e h ≤ grM D e h := fun h q1 q2 => by
    have := b3.2.2.1
    have := b5 h q1 (by omega)
    exact ⟨this.1, this.2.1⟩
  have hr5 : ∀ t, t < ntM D → 0 ≤ rmM D t := fun t ht => (b4 t ht).2.1
  have loop3 : ∀ (m n : Nat) (D1 D2 : Nat → Int → Int) (u : aTV), n + m = 12 → RnD e (ntM D) D D1 → (∀ r, r ≠ 257 → D2 r = D1 r) → (∀ h : Int, 0 ≤ h → h < n → D2 257 (12 * e + h) = (hsF (wM D) (rmM D) (payM D) (diM D e) (grM D e) h (ntM D)).1) → (∀ j : Int, ¬ (12 * (e : Int) ≤ j ∧ j < 12 * e + n) → D2 257 j = D 257 j) → V G l (d + 1) iX12_round 131 [rf 210, (0, (e : Int)), (0, (n : Int)), u] [] (K, D2, z) P := by
    intro m
    induction m with
    | zero =>
      intro n D1 D2 u hm hR g1 g2 g3
      have hn : n = 12 := by omega
      subst hn
      refine s_il2 rfl ?_
      refine s_ic rfl ?_
      refine s_cge rfl ?_ ?_
      · intro h134
        refine s_retv rfl rfl ?_
        exact kk _ ⟨D1, hR, g1, g2, g3⟩
      · intro h134
        exact absurd h134 (by decide)
    | succ m ih =>
      intro n D1 D2 u hm hR g1 g2 g3
      have r1 : D2 270 n = (hsF (wM D) (rmM D) (payM D) (diM D e) (grM D e) n (ntM D)).1 := by rw [g1 _ (by omega)]; exact (hR.2.1 n (by omega) (by omega)).2.1
      refine s_il2 rfl ?_
      refine s_ic rfl ?_
      refine s_cge rfl ?_ ?_
      · intro h134
        omega
      · intro h134
        refine s_al0 rfl ?_
        refine s_gf rfl (hk.at rfl rfl) rfl rfl ?_
        refine s_ic rfl ?_
        refine s_il1 rfl ?_
        refine s_imul rfl ⟨by omega, by omega⟩ ?_
        refine s_il2 rfl ?_
        refine s_iadd rfl ⟨by omega, by omega⟩ ?_
        refine s_al0 rfl ?_
        refine s_gf rfl (hk.at rfl rfl) rfl rfl ?_
        refine s_il2 rfl ?_
        refine s_lald rfl (hk.at rfl rfl) (by omega) ?_
        rw [r1]
        refine s_last rfl (hk.at rfl rfl) (by omega) ?_
        refine s_iinc2 rfl rfl ⟨by omega, by omega⟩ ?_
        refine s_go rfl ?_
        refine ih (n + 1) D1 _ _ (by omega) hR (fun r hr => by rw [aUp_row hr]; exact g1 r hr) (fun h q1 q2 => ?_) (fun j hj => ?_)
        · rw [aUp_same]
          rcases (by omega : h < n ∨ h = n) with q | q
          · rw [uF_ne (by omega)]; exact g2 h q1 q
          · rw [q, uF_at]
        · rw [aUp_same, uF_ne (by omega)]; exact g3 j (by omega)
  have loop2 : ∀ (m n : Nat) (D1 : Nat → Int → Int) (u : aTV), n + m = ntM D → RnD e n D D1 → V G l (d + 1) iX12_round 67 [rf 210, (0, (e : Int)), (0, (n : Int)), u] [] (K, D1, z) P := by
    intro m
    induction m with
    | zero =>
      intro n D1 u hm hR
      have hn : n = ntM D := by omega
      have k21 : D1 221 = D 221 := hR.1 _ (by omega) (by omega) (by omega) (by omega) (by omega) (by omega)
      have k10 : D1 210 = D 210 := hR.1 _ (by omega) (by omega) (by omega) (by omega) (by omega) (by omega)
      refine s_il2 rfl ?_
      refine s_al0 rfl ?_
      refine s_gf rfl (hk.at rfl rfl) rfl rfl ?_
      refine s_al0 rfl ?_
      refine s_gi rfl (hk.at rfl rfl) rfl ?_
      rw [k10]
      refine s_iald rfl (hk.at rfl rfl) (by rcases b1 with q | q <;> rw [q] <;> decide) ?_
      rw [k21]
      refine s_cge rfl ?_ ?_
      · intro h77
        refine s_ic rfl ?_
        refine s_is2 rfl rfl ?_
        subst hn
        exact loop3 12 0 D1 D1 _ rfl hR (fun _ _ => rfl) (fun h q1 q2 => absurd q2 (by omega)) (fun j hj => by rw [hR.1 257 (by omega) (by omega) (by omega) (by omega) (by omega) (by omega)])
      · intro h77
        omega
    | succ m ih =>
      intro n D1 u hm hR
      have hn : n < ntM D := by omega
      obtain ⟨f1, f2, f3, f4⟩ := id hR
      have rows : ∀ r, r ≠ 258 → r ≠ 259 → r ≠ 260 → r ≠ 269 → r ≠ 270 → r ≠ 271 → D1 r = D r := f1
      have k21 : D1 221 = D 221 := f1 _ (by omega) (by omega) (by omega) (by omega) (by omega) (by omega)
      have k10 : D1 210 = D 210 := f1 _ (by omega) (by omega) (by omega) (by omega) (by omega) (by omega)
      have k68 : ∀ x y v, aUp (aUp (aUp D1 258 (24 * (e : Int) + n) x) 259 (24 * (e : Int) + n) y) 260 (24 * (e : Int) + n) v 268 = D 268 := fun x y v => by rw [aUp_row (by omega), aUp_row (by omega), aUp_row (by omega), f1 _ (by omega) (by omega) (by omega) (by omega) (by omega) (by omega)]
      have hpay := (b4 n hn).2.2.2
      refine s_il2 rfl ?_
      refine s_al0 rfl ?_
      refine s_gf rfl (hk.at rfl rfl) rfl rfl ?_
      refine s_al0 rfl ?_
      refine s_gi rfl (hk.at rfl rfl) rfl ?_
      rw [k10]
      refine s_iald rfl (hk.at rfl rfl) (by rcases b1 with q | q <;> rw [q] <;> decide) ?_
      rw [k21]
      refine s_cge rfl ?_ ?_
      · intro h77
        omega
      · intro h77
        refine s_ic rfl ?_
        refine s_il1 rfl ?_
        refine s_imul rfl ⟨by omega, by omega⟩ ?_
        refine s_il2 rfl ?_
        refine s_iadd rfl ⟨by omega, by omega⟩ ?_
        refine s_is3 rfl rfl ?_
        refine s_al0 rfl ?_
        refine s_gf rfl (hk.at rfl rfl) rfl rfl ?_
        refine s_il3 rfl ?_
        refine s_lc rfl ?_
        refine s_last rfl (hk.at rfl rfl) (by omega) ?_
        refine s_al0 rfl ?_
        refine s_gf rfl (hk.at rfl rfl) rfl rfl ?_
        refine s_il3 rfl ?_
        refine s_lc rfl ?_
        refine s_last rfl (hk.at rfl rfl) (by omega) ?_
        refine s_al0 rfl ?_
        refine s_gf rfl (hk.at rfl rfl) rfl rfl ?_
        refine s_il3 rfl ?_
        refine s_lc rfl ?_
        refine s_last rfl (hk.at rfl rfl) (by omega) ?_
        refine s_al0 rfl ?_
        refine s_gf rfl (hk.at rfl rfl) rfl rfl ?_
        refine s_il2 rfl ?_
        refine s_bald rfl (hk.at rfl rfl) (by omega) ?_
        rw [k68]
        refine s_zeq rfl ?_ ?_
        · intro h114
          have hp : payM D n = false := decide_eq_false (by rw [h114]; decide)
          refine s_iinc2 rfl rfl ⟨by omega, by omega⟩ ?_
          refine s_go rfl ?_
          refine ih (n + 1) _ _ (by omega) ⟨fun r r1 r2 r3 r4 r5 r6 => ?_, fun h q1 q2 => ?_, fun t ht => ?_, fun j hj => ?_⟩
          · rw [aUp_row r3, aUp_row r2, aUp_row r1, f1 r r1 r2 r3 r4 r5 r6]
          · obtain ⟨t1, t2', t3'⟩ := f2 h q1 q2
            rw [aUp_row (by omega), aUp_row (by omega), aUp_row (by omega), aUp_row (by omega), aUp_row (by omega), aUp_row (by omega), aUp_row (by omega), aUp_row (by omega), aUp_row (by omega), hsF, if_neg (fun x => by rw [hp] at x; cases x.2)]
            refine ⟨?_, t2', t3'⟩
            unfold nxF at t1 ⊢
            rw [t1, sumF, hp]
            simp
          · rw [aUp_row (q := 258) (by omega), aUp_row (q := 258) (by omega), aUp_row (q := 259) (by omega), aUp_same, aUp_same, aUp_same, aUp_row (q := 259) (by omega), aUp_row (q := 260) (by omega), aUp_row (q := 260) (by omega)]
            rcases (by omega : t < n ∨ t = n) with q | q
            · rw [uF_ne (by omega), uF_ne (by omega), uF_ne (by omega)]; exact f3 t q
            · subst q; rw [uF_at, uF_at, uF_at, hp]; exact ⟨rfl, rfl, rfl⟩
          · rw [aUp_row (q := 258) (by omega), aUp_row (q := 258) (by omega), aUp_row (q := 259) (by omega), aUp_same, aUp_same, aUp_same, aUp_row (q := 259) (by omega), aUp_row (q := 260) (by omega), aUp_row (q := 260) (by omega), uF_ne (by omega), uF_ne (by omega), uF_ne (by omega)]; exact f4 j (by omega)
        · intro h114
          have hp : payM D n = true := decide_eq_true (by omega)
          generalize hE : aUp (aUp (aUp D1 258 (24 * (e : Int) + n) 0) 259 (24 * (e : Int) + n) 0) 260 (24 * (e : Int) + n) 0 = E
          have er : ∀ r, r ≠ 258 → r ≠ 259 → r ≠ 260 → E r = D1 r := fun r r1 r2 r3 => by rw [← hE, aUp_row r3, aUp_row r2, aUp_row r1]
          have e58 : E 258 = uF (D1 258) (24 * (e : Int) + n) 0 := by rw [← hE, aUp_row (by omega), aUp_row (by omega), aUp_same]
          have e59 : E 259 = uF (D1 259) (24 * (e : Int) + n) 0 := by rw [← hE, aUp_row (by omega), aUp_same, aUp_row (by omega)]
          have e60 : E 260 = uF (D1 260) (24 * (e : Int) + n) 0 := by rw [← hE, aUp_same, aUp_row (by omega), aUp_row (by omega)]
          have eD : ∀ r, r ≠ 258 → r ≠ 259 → r ≠ 260 → r ≠ 269 → r ≠ 270 → r ≠ 271 → E r = D r := fun r r1 r2 r3 r4 r5 r6 => by rw [er r r1 r2 r3, f1 r r1 r2 r3 r4 r5 r6]
          have ew : wM E = wM D := wM_congr (fun r q1 q2 => eD r (by omega) (by omega) (by omega) (by omega) (by omega) (by omega)) (by rw [eD 210 (by omega) (by omega) (by omega) (by omega) (by omega) (by omega)])
          have em : rmM E = rmM D := rmM_congr ew (eD 263 (by omega) (by omega) (by omega) (by omega) (by omega) (by omega))
          have hw0 := (b3.2.2.2 n hn).1
          have h12 := b3.2.2.1
          obtain ⟨t1, t2, t3⟩ := f2 (wM D n 0) hw0.1 (by omega)
          rw [← er 270 (by omega) (by omega) (by omega)] at t2
          rw [← er 271 (by omega) (by omega) (by omega)] at t3
          have hin := hsF_in (pay := payM D) b3 hr5 (hd5 (wM D n 0) hw0.1 hw0.2) n (by omega)
          have hg0 := (b5 (wM D n 0) hw0.1 (by omega)).2.2.1
          refine s_al0 rfl ?_
          refine s_il1 rfl ?_
          refine s_il2 rfl ?_
          refine s_callO rfl rfl (Or.inl rfl) rfl rfl (hk.at rfl rfl) (u_acts (D := E) (nt := ntM D) (nh := nh) hk he (by rw [eD 210 (by omega) (by omega) (by omega) (by omega) (by omega) (by omega)]; exact b1) (by rw [ew]; exact b3) hn (by rw [ew]; exact (b4 n hn).1) (by rw [em]; exact hr5 n hn) (by rw [eD 263 (by omega) (by omega) (by omega) (by omega) (by omega) (by omega)]; exact (b4 n hn).2.2.1) (by rw [ew, t2, t3]; omega) (fun h q => ?_) (fun D2 hA => ?_))
          · rw [er 269 (by omega) (by omega) (by omega), (f2 h q.1 q.2).1]
            have q1 := nxF_in (nt := n) (h := h) (m := 20000000) (w := wM D) (rm := rmM D) (pay := payM D) (nh := nh) ⟨by omega, b3.2.1, b3.2.2.1, fun t ht => b3.2.2.2 t (by omega)⟩ (fun t ht => hr5 t (by omega)) hd5 (fun h q1 q2 => (b5 h q1 (by omega)).2.2.1) (by decide)
            have q2 := b5 h q.1 q.2
            omega
          show V G l (d + 1) iX12_round 123 [rf 210, (0, (e : Int)), (0, (n : Int)), (0, 24 * (e : Int) + n)] [] (K, D2, z) P
          obtain ⟨a1, a2, a3, a4, a5, a6, a7⟩ := hA
          rw [ew] at a2 a3 a4 a5 a6 a7
          rw [em] at a2 a4 a5 a6 a7
          rw [t2, t3] at a2 a3 a4 a5 a6 a7
          have eb : (if wM D n 2 = 0 then (hsF (wM D) (rmM D) (payM D) (diM D e) (grM D e) (wM D n 0) n).1 else (hsF (wM D) (rmM D) (payM D) (diM D e) (grM D e) (wM D n 0) n).2) = bsF (wM D) (rmM D) (payM D) (diM D e) (grM D e) n := rfl
          rw [eb] at a2 a3 a4 a5
          have ea : amtF (wM D) (rmM D) n (bsF (wM D) (rmM D) (payM D) (diM D e) (grM D e) n) = auF (wM D) (rmM D) (payM D) (diM D e) (grM D e) n := rfl
          rw [ea] at a2 a4 a5
          refine s_iinc2 rfl rfl ⟨by omega, by omega⟩ ?_
          refine s_go rfl ?_
          refine ih (n + 1) _ _ (by omega) ⟨fun r r1 r2 r3 r4 r5 r6 => ?_, fun h q1 q2 => ?_, fun t ht => ?_, fun j hj => ?_⟩
          · rw [a1 r r1 r2 r3 r4 r5 r6, eD r r1 r2 r3 r4 r5 r6]
          · obtain ⟨t1, t2', t3'⟩ := f2 h q1 q2
            refine ⟨?_, ?_, ?_⟩
            · unfold nxF at t1 ⊢
              rw [a2, er 269 (by omega) (by omega) (by omega), t1, sumF, if_pos hp]
              omega
            · rw [a6, hsF]
              by_cases q : h = wM D n 0
              · subst q; rw [uF_at, if_pos ⟨rfl, hp⟩]
              · rw [uF_ne q, if_neg (fun x => q x.1.symm), er 270 (by omega) (by omega) (by omega), t2']
            · rw [a7, hsF]
              by_cases q : h = wM D n 0
              · subst q; rw [uF_at, if_pos ⟨rfl, hp⟩]
              · rw [uF_ne q, if_neg (fun x => q x.1.symm), er 271 (by omega) (by omega) (by omega), t3']
          · rw [a3, a4, a5]
            rcases (by omega : t < n ∨ t = n) with q | q
            · rw [uF_ne (by omega), uF_ne (by omega), uF_ne (by omega), e58, e59, e60, uF_ne (by omega), uF_ne (by omega), uF_ne (by omega)]; exact f3 t q
            · subst q; rw [uF_at, uF_at, uF_at, if_pos hp, if_pos hp, if_pos hp]; exact ⟨rfl, rfl, rfl⟩
          · rw [a3, a4, a5, uF_ne (by omega), uF_ne (by omega), uF_ne (by omega), e58, e59, e60, uF_ne (by omega), uF_ne (by omega), uF_ne (by omega)]; exact f4 j (by omega)
  have loop1 : ∀ (m n : Nat) (D1 : Nat → Int → Int) (u : aTV), n + m = 12 → (∀ r, r ≠ 269 → r ≠ 270 → r ≠ 271 → D1 r = D r) → (∀ h : Int, 0 ≤ h → h < n → D1 269 h = diM D e h ∧ D1 270 h = grM D e h ∧ D1 271 h = diM D e h) → V G l (d + 1) iX12_round 2 [rf 210, (0, (e : Int)), (0, (n : Int)), u] [] (K, D1, z) P := by
    intro m
    induction m with
    | zero =>
      intro n D1 u hm g1 g2
      have hn : n = 12 := by omega
      subst hn
      refine s_il2 rfl ?_
      refine s_ic rfl ?_
      refine s_cge rfl ?_ ?_
      · intro h5
        refine s_ic rfl ?_
        refine s_is2 rfl rfl ?_
        refine loop2 (ntM D) 0 D1 _ (by omega) ⟨fun r _ _ _ r1 r2 r3 => g1 r r1 r2 r3, fun h q1 q2 => ?_, fun t ht => absurd ht (Nat.not_lt_zero t), fun j _ => by rw [g1 258 (by omega) (by omega) (by omega), g1 259 (by omega) (by omega) (by omega), g1 260 (by omega) (by omega) (by omega)]; exact ⟨rfl, rfl, rfl⟩⟩
        obtain ⟨x1, x2, x3⟩ := g2 h q1 q2
        refine ⟨?_, x2, x3⟩
        unfold nxF
        rw [x1, sumF]; omega
      · intro h5
        exact absurd h5 (by decide)
    | succ m ih =>
      intro n D1 u hm g1 g2
      have k55 : D1 255 = D 255 := g1 _ (by omega) (by omega) (by omega)
      have k56 : ∀ x y, aUp D1 269 x y 256 = D 256 := fun x y => by rw [aUp_row (by omega), g1 _ (by omega) (by omega) (by omega)]
      have k57 : ∀ x y x' y', aUp (aUp D1 269 x y) 270 x' y' 255 = D 255 := fun x y x' y' => by rw [aUp_row (by omega), aUp_row (by omega), g1 _ (by omega) (by omega) (by omega)]
      refine s_il2 rfl ?_
      refine s_ic rfl ?_
      refine s_cge rfl ?_ ?_
      · intro h5
        omega
      · intro h5
        refine s_al0 rfl ?_
        refine s_gf rfl (hk.at rfl rfl) rfl rfl ?_
        refine s_il2 rfl ?_
        refine s_al0 rfl ?_
        refine s_gf rfl (hk.at rfl rfl) rfl rfl ?_
        refine s_ic rfl ?_
        refine s_il1 rfl ?_
        refine s_imul rfl ⟨by omega, by omega⟩ ?_
        refine s_il2 rfl ?_
        refine s_iadd rfl ⟨by omega, by omega⟩ ?_
        refine s_lald rfl (hk.at rfl rfl) (by omega) ?_
        rw [k55]
        refine s_last rfl (hk.at rfl rfl) (by omega) ?_
        refine s_al0 rfl ?_
        refine s_gf rfl (hk.at rfl rfl) rfl rfl ?_
        refine s_il2 rfl ?_
        refine s_al0 rfl ?_
        refine s_gf rfl (hk.at rfl rfl) rfl rfl ?_
        refine s_ic rfl ?_
        refine s_il1 rfl ?_
        refine s_imul rfl ⟨by omega, by omega⟩ ?_
        refine s_il2 rfl ?_
        refine s_iadd rfl ⟨by omega, by omega⟩ ?_
        refine s_lald rfl (hk.at rfl rfl) (by omega) ?_
        rw [k56]
        refine s_last rfl (hk.at rfl rfl) (by omega) ?_
        refine s_al0 rfl ?_
        refine s_gf rfl (hk.at rfl rfl) rfl rfl ?_
        refine s_il2 rfl ?_
        refine s_al0 rfl ?_
        refine s_gf rfl (hk.at rfl rfl) rfl rfl ?_
        refine s_ic rfl ?_
        refine s_il1 rfl ?_
        refine s_imul rfl ⟨by omega, by omega⟩ ?_
        refine s_il2 rfl ?_
        refine s_iadd rfl ⟨by omega, by omega⟩ ?_
        refine s_lald rfl (hk.at rfl rfl) (by omega) ?_
        rw [k57]
        refine s_last rfl (hk.at rfl rfl) (by omega) ?_
        refine s_iinc2 rfl rfl ⟨by omega, by omega⟩ ?_
        refine s_go rfl ?_
        refine ih (n + 1) _ _ (by omega) (fun r r1 r2 r3 => by rw [aUp_row r3, aUp_row r2, aUp_row r1]; exact g1 r r1 r2 r3) (fun h q1 q2 => ?_)
        rw [aUp_row (q := 269) (by omega), aUp_row (q := 269) (by omega), aUp_row (q := 270) (by omega), aUp_same, aUp_same, aUp_same, aUp_row (q := 270) (by omega), aUp_row (q := 271) (by omega), aUp_row (q := 271) (by omega)]
        rcases (by omega : h < n ∨ h = n) with q | q
        · rw [uF_ne (by omega), uF_ne (by omega), uF_ne (by omega)]; exact g2 h q1 q
        · subst q; rw [uF_at, uF_at, uF_at]; exact ⟨rfl, rfl, rfl⟩
  refine VM_go (tg2 rfl) (Nat.le_of_ble_eq_true rfl) ?_
  refine s_ic rfl ?_
  refine s_is2 rfl rfl ?_
  exact loop1 12 0 D _ rfl (fun _ _ _ _ => rfl) (fun h q1 q2 => absurd q2 (by omega))
end
