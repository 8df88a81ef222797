/-! ===== settles: the reference ===== -/
theorem nodup_len : ∀ {n : Nat} {xs : List Int}, xs.Nodup → (∀ q, q ∈ xs → 0 ≤ q ∧ q < n) → xs.length ≤ n := by
  intro n
  induction n with
  | zero =>
    intro xs _ h
    match xs with
    | [] => exact Nat.le_refl _
    | x :: s => have := h x (List.mem_cons_self); omega
  | succ n ih =>
    intro xs hn h
    by_cases hq : (n : Int) ∈ xs
    · have h1 := List.length_erase_of_mem hq
      have h2 := ih (xs := xs.erase (n : Int)) (hn.erase _) (fun q hm => by
        obtain ⟨m1, m2⟩ := (List.Nodup.mem_erase_iff hn).mp hm
        have := h q m2
        omega)
      omega
    · have h2 := ih (xs := xs) hn (fun q hm => by
        have := h q hm
        have : q ≠ n := fun e => hq (e ▸ hm)
        omega)
      omega
theorem dF_congr {hs a jo a' jo' : Int → Int} {n : Nat} {e h : Int} (ha : ∀ k : Nat, k < n → a' k = a k ∧ jo' k = jo k) : dF hs a' n jo' e h = dF hs a n jo e h := by
  unfold dF
  exact sumF_congr fun k hk => by rw [(ha k hk).1, (ha k hk).2]
abbrev QE (D : Nat → Int → Int) (xs : List Int) (e : Nat) : EvQ := (fun h => dF (D 238) (amM D) (D 210 37).toNat (evM D xs).2.2.1 e h, D 241 ((evM D xs).2.1 e), D 239 ((evM D xs).2.1 e) / 24, (evM D xs).2.2.2 e)
/-- what a treaty's n first parts owe of a commuted sum -/
def cuT (w : WT) (t : Nat) (am a b : Int) (n : Nat) : Int := sumF (fun i => if w t (100 + i) = a ∧ w t 0 = b then prt am (w t (200 + i)) else 0) n
def cuF (W : WdQ) (cs : Nat → Int) (a b : Int) (n : Nat) : Int := sumF (fun t => if W.cm t = true then cuT W.w t (cs t) a b (W.w t 7).toNat else 0) n
theorem cuT_in {w : WT} {nt t n : Nat} {nh am a b : Int} (hw : wOk w nt nh) (ht : t < nt) (ha : 0 ≤ am ∧ am ≤ 999999) (hn : (n : Int) ≤ w t 7) : 0 ≤ cuT w t am a b n ∧ cuT w t am a b n ≤ 11 * 999999 := by
  obtain ⟨-, -, -, -, h7, hpp, -⟩ := hw.2.2.2 t ht
  have hin : ∀ i, i < n → 0 ≤ (if w t (100 + i) = a ∧ w t 0 = b then prt am (w t (200 + i)) else 0) ∧ (if w t (100 + i) = a ∧ w t 0 = b then prt am (w t (200 + i)) else 0) ≤ 999999 := fun i hi => by
    have h1 := prt_in ha.1 (hpp i (by omega)).2
    split <;> omega
  have h1 := sumF_nonneg (n := n) (fun i hi => (hin i hi).1)
  have h2 := sumF_le (n := n) (fun i hi => (hin i hi).2)
  unfold cuT
  omega
def MsI (cn : Nat → Nat) (cc : Nat → Nat → Int × Int) (D0 : Nat → Int → Int) (xs : List Int) (D' : Nat → Int → Int) : Prop := isXs D0 xs ∧ (∀ r, r ≠ 210 → (r < 236 ∨ (237 < r ∧ r < 248) ∨ r = 265 ∨ r = 266 ∨ 271 < r) → D' r = D0 r) ∧ (∀ j : Int, j ≠ 51 → j ≠ 54 → D' 210 j = D0 210 j) ∧ D' 210 51 = xs.length ∧ D' 210 54 = (evM D0 xs).1 ∧ (∀ q : Nat, (q : Int) < D0 210 37 → D' 252 q = (evM D0 xs).2.2.1 q) ∧ (∀ e : Nat, e < (evM D0 xs).1 → D' 250 e = (evM D0 xs).2.1 e ∧ D' 251 e = (evM D0 xs).2.2.2 e) ∧
  (∀ e : Nat, e < (evM D0 xs).1 → AnM (WqM D0 cn cc) (acP (WqM D0 cn cc) (QE D0 xs) e).1 (acP (WqM D0 cn cc) (QE D0 xs) e).2 (QE D0 xs e) e D') ∧ (∀ t : Nat, t < ntM D0 → D' 263 t = (acP (WqM D0 cn cc) (QE D0 xs) (evM D0 xs).1).1 t) ∧
  ∀ a b : Int, 0 ≤ a → a < 12 → 0 ≤ b → b < 12 → D' 267 (12 * a + b) = owP (WqM D0 cn cc) (QE D0 xs) (evM D0 xs).1 a b + cuF (WqM D0 cn cc) (fun t => D0 266 t) a b (ntM D0)
/-- the wording in force is as the rules have it -/
def StW (D : Nat → Int → Int) (nh : Int) : Prop := (D 210 10 = 0 ∨ D 210 10 = 1) ∧ 0 ≤ D 221 (D 210 10) ∧ wOk (wM D) (ntM D) nh ∧ ∀ t, t < ntM D → (0 ≤ wM D t 3 ∧ wM D t 3 ≤ 999999) ∧ (0 ≤ wM D t 5 ∧ wM D t 5 ≤ 9) ∧ (0 ≤ wM D t 6 ∧ wM D t 6 ≤ 999999) ∧ (¬ wM D t 1 = 0 → 1 ≤ wM D t 3)
theorem MeI_len {D0 D : Nat → Int → Int} {xs : List Int} (hb : MbL D0) (h : MeI D0 xs D) : xs.Nodup ∧ xs.length ≤ (D0 210 37).toNat ∧ evInv xs (evM D0 xs) := by
  have hx := h.2.1
  have h1 : xs.Nodup := sorted_nodup (κ := fun q => D0 239 q * 60 + q) hx.1
  have hb1 := hb.1
  exact ⟨h1, nodup_len h1 (fun q hq => by have := (hx.2 q).mp hq; omega), EV_inv h1⟩
theorem QM_eq {D0 D1 D2 : Nat → Int → Int} {xs : List Int} {e : Nat} (h : MeI D0 xs D1) (hr : ∀ r, (237 < r ∧ r < 253) ∨ r = 210 → D2 r = D1 r) (he : e < (evM D0 xs).1) (hn : 0 ≤ D0 210 37) : QM D2 e = QE D0 xs e := by
  obtain ⟨⟨f1, f2⟩, hx, m1, m2, m3, m4⟩ := h
  have e37 : D1 210 37 = D0 210 37 := f2 37 (by decide) (by decide)
  have hd : (dM D2 e) = fun h => dF (D0 238) (amM D0) (D0 210 37).toNat (evM D0 xs).2.2.1 e h := by
    funext h
    show dF (D2 238) (D2 249) (D2 210 37).toNat (D2 252) e h = _
    rw [hr 238 (by omega), hr 249 (by omega), hr 210 (by omega), hr 252 (by omega), e37, f1 238 (by omega) (by omega)]
    exact dF_congr fun k hk => m3 k (by omega)
  show (dM D2 e, D2 241 (D2 250 e), D2 239 (D2 250 e) / 24, D2 251 e) = _
  rw [hd, hr 241 (by omega), hr 239 (by omega), hr 250 (by omega), hr 251 (by omega), (m4 e he).1, (m4 e he).2, f1 241 (by omega) (by omega), f1 239 (by omega) (by omega)]
section
variable {G : aCX} {l : Launch} {d : Nat} {K : Nat → aKd} {D : Nat → Int → Int} {z : Nat × Nat} {P : Int → aSt → Prop}
theorem u_settles {sp st : Int} {cn : Nat → Nat} {cc : Nat → Nat → Int × Int} {nh : Int} {D0 : Nat → Int → Int} (hk : Kn K) (hD0 : D0 = aUp (aUp D 210 49 sp) 210 50 st) (hb : MbL D0) (hS : StW D0 nh) (hC : CoM D0 cn cc) (ham : ∀ k : Nat, k < (D0 210 45).toNat → 0 ≤ D0 247 k ∧ D0 247 k ≤ 100000) (hcb : ∀ t : Nat, t < ntM D0 → 0 ≤ D0 266 t ∧ D0 266 t ≤ 999999) (kk : ∀ D' xs, MsI cn cc D0 xs D' → P 0 (K, D', z)) : VM G l (d + 3) iX12_settles [rf 210, (0, sp), (0, st)] (K, D, z) P := by
  have n60 := hb.1
  have main : ∀ (D1 : Nat → Int → Int) (xs : List Int), MeI D0 xs D1 → V G l (d + 3) iX12_settles 14 [rf 210, (0, sp), (0, st), (9, 0), (9, 0), (9, 0)] [] (K, D1, z) P := by
    intro D1 xs hM
    obtain ⟨x1, x2, x3⟩ := MeI_len hb hM
    obtain ⟨⟨f1, f2⟩, hx, m1, m2, m3, m4⟩ := id hM
    have hE60 : (evM D0 xs).1 ≤ 60 := by have := x3.1; omega
    have f10 : D1 210 10 = D0 210 10 := f2 10 (by decide) (by decide)
    have f37 : D1 210 37 = D0 210 37 := f2 37 (by decide) (by decide)
    have ew : wM D1 = wM D0 := wM_congr (fun r q1 q2 => f1 r (by omega) (by omega)) f10
    have et : ntM D1 = ntM D0 := by show (D1 221 (D1 210 10)).toNat = _; rw [f10, f1 221 (by omega) (by omega)]
    have ev : vwM D1 = vwM D0 := by show (if D1 210 36 < 0 then D1 210 35 else D1 210 36) = _; rw [f2 36 (by decide) (by decide), f2 35 (by decide) (by decide)]
    have hW : WqB (WqM D0 cn cc) nh := ⟨hS.2.2.1, hS.2.2.2⟩
    have hQ : ∀ i, i < (evM D0 xs).1 → EqB (QE D0 xs i) := fun i hi h q1 q2 => dF_in (by omega) (fun k hk hj => by
      have hm : (k : Int) ∈ xs := Decidable.byContradiction fun q => by rw [x3.2.2.1 k q] at hj; omega
      have := ((hx.2 k).mp hm).2.1
      have := (amF_in (wo := D0 245) (wd := D0 246) (l := k) (day := vwM D0) (m := 100000) ham (by decide)).2
      exact ⟨by omega, this⟩)
    have n24 := hS.2.2.1.1
    have h12 := hS.2.2.1.2.2.1
    have en : ((ntM D0 : Nat) : Int) = D0 221 (D0 210 10) := by have := hS.2.1; show ((D0 221 (D0 210 10)).toNat : Int) = _; omega
    have en1 : ((ntM D1 : Nat) : Int) = D1 221 (D1 210 10) := by rw [et, en, f10, f1 221 (by omega) (by omega)]
    have b1 : D1 210 10 = 0 ∨ D1 210 10 = 1 := by rw [f10]; exact hS.1
    have owin : ∀ a b : Int, 0 ≤ owP (WqM D0 cn cc) (QE D0 xs) (evM D0 xs).1 a b ∧ owP (WqM D0 cn cc) (QE D0 xs) (evM D0 xs).1 a b ≤ 60 * 10560000000 := fun a b => by
      have := owP_in (a := a) (b := b) hW (evM D0 xs).1 hQ
      omega
    have fin : ∀ (D2 : Nat → Int → Int), FrS D1 D2 → (∀ e : Nat, e < (evM D0 xs).1 → AnM (WqM D0 cn cc) (acP (WqM D0 cn cc) (QE D0 xs) e).1 (acP (WqM D0 cn cc) (QE D0 xs) e).2 (QE D0 xs e) e D2) → (∀ t : Nat, t < ntM D0 → D2 263 t = (acP (WqM D0 cn cc) (QE D0 xs) (evM D0 xs).1).1 t) → (∀ a b : Int, 0 ≤ a → a < 12 → 0 ≤ b → b < 12 → D2 267 (12 * a + b) = owP (WqM D0 cn cc) (QE D0 xs) (evM D0 xs).1 a b) → ∀ u : aTV, V G l (d + 3) iX12_settles 85 [rf 210, (0, sp), (0, st), u, (9, 0), (9, 0)] [] (K, D2, z) P := by
      intro D2 F2 A2 U2 O2 u
      have loopT : ∀ (m t : Nat) (D3 : Nat → Int → Int) (u4 u5 : aTV), t + m = ntM D0 → (∀ r, r ≠ 267 → D3 r = D2 r) → (∀ a b : Int, 0 ≤ a → a < 12 → 0 ≤ b → b < 12 → D3 267 (12 * a + b) = owP (WqM D0 cn cc) (QE D0 xs) (evM D0 xs).1 a b + cuF (WqM D0 cn cc) (fun t => D0 266 t) a b t) → Nat.beq u4.1 1 = false → V G l (d + 3) iX12_settles 87 [rf 210, (0, sp), (0, st), (0, (t : Int)), u4, u5] [] (K, D3, z) P := by
        intro m
        induction m with
        | zero =>
          intro t D3 u4 u5 hm g1 g2 hu4
          have ht : t = ntM D0 := by omega
          have k10 : D3 210 = D1 210 := by rw [g1 _ (by omega), F2 _ (by omega)]
          have k21 : D3 221 = D1 221 := by rw [g1 _ (by omega), F2 _ (by omega)]
          refine s_il3 rfl ?_
          refine s_al0 rfl ?_
          refine s_gf rfl (hk.at rfl rfl) rfl rfl ?_
          refine s_al0 rfl ?_
          refine s_gi rfl (hk.at rfl rfl) rfl ?_
          rw [k10]
          refine s_iald rfl (hk.at rfl rfl) (by rcases b1 with q | q <;> rw [q] <;> decide) ?_
          rw [k21]
          refine s_cge rfl ?_ ?_
          · intro h97
            refine s_retv rfl rfl ?_
            subst ht
            refine kk D3 xs ⟨hx, fun r r0 hr => ?_, fun j j1 j2 => ?_, ?_, ?_, fun q hq => ?_, fun e he => ?_, fun e he => ?_, fun t ht => ?_, g2⟩
            · rw [g1 r (by omega), F2 r (by omega)]; exact f1 r r0 (by omega)
            · rw [k10]; exact f2 j j1 j2
            · rw [k10]; exact m1
            · rw [k10]; exact m2
            · rw [g1 _ (by omega), F2 _ (by omega)]; exact (m3 q hq).2
            · rw [g1 _ (by omega), F2 _ (by omega), g1 _ (by omega), F2 _ (by omega)]; exact m4 e he
            · obtain ⟨a1, a2, a3, a4⟩ := A2 e he
              unfold AnM
              rw [g1 253 (by omega), g1 254 (by omega), g1 255 (by omega), g1 256 (by omega), g1 257 (by omega), g1 258 (by omega), g1 259 (by omega), g1 260 (by omega), g1 261 (by omega), g1 262 (by omega)]
              exact ⟨a1, a2, a3, a4⟩
            · rw [g1 _ (by omega)]; exact U2 t ht
          · intro h97
            omega
        | succ m ih =>
          intro t D3 u4 u5 hm g1 g2 hu4
          have ht : t < ntM D0 := by omega
          have gD : ∀ r, r ≠ 267 → (r < 236 ∨ (237 < r ∧ r < 253) ∨ r = 265 ∨ r = 266 ∨ 271 < r) → D3 r = D1 r := fun r r1 r2 => by rw [g1 r r1, F2 r r2]
          have k10 : D3 210 = D1 210 := gD _ (by omega) (by omega)
          have k21 : D3 221 = D1 221 := gD _ (by omega) (by omega)
          obtain ⟨h0, -, -, -, h7, hp, -⟩ := hS.2.2.1.2.2.2 t ht
          have e0 : wM D0 t 0 = D1 224 (24 * D1 210 10 + (t : Int)) := by rw [← ew]; rfl
          have e7 : wM D0 t 7 = D1 230 (24 * D1 210 10 + (t : Int)) := by rw [← ew]; rfl
          have hi : 0 ≤ (24 * D1 210 10 + (t : Int)) ∧ (24 * D1 210 10 + (t : Int)) < 48 := by omega
          have hcm := hcb t ht
          have st1 : ∀ a b, cuF (WqM D0 cn cc) (fun t => D0 266 t) a b (t + 1) = cuF (WqM D0 cn cc) (fun t => D0 266 t) a b t + (if (WqM D0 cn cc).cm t = true then cuT (wM D0) t (D0 266 t) a b (wM D0 t 7).toNat else 0) := fun a b => rfl
          have cin : ∀ a b : Int, 0 ≤ cuF (WqM D0 cn cc) (fun t => D0 266 t) a b t ∧ cuF (WqM D0 cn cc) (fun t => D0 266 t) a b t ≤ 24 * (11 * 999999) := fun a b => by
            have q : ∀ s, s < t → 0 ≤ (if (WqM D0 cn cc).cm s = true then cuT (wM D0) s (D0 266 s) a b (wM D0 s 7).toNat else 0) ∧ (if (WqM D0 cn cc).cm s = true then cuT (wM D0) s (D0 266 s) a b (wM D0 s 7).toNat else 0) ≤ 11 * 999999 := fun s hs => by
              have h7 := (hS.2.2.1.2.2.2 s (by omega)).2.2.2.2.1
              have := cuT_in (t := s) (a := a) (b := b) (n := (wM D0 s 7).toNat) hS.2.2.1 (by omega) (hcb s (by omega)) (by omega)
              split <;> omega
            have q1 := sumF_nonneg (n := t) (fun s hs => (q s hs).1)
            have q2 := sumF_le (n := t) (fun s hs => (q s hs).2)
            unfold cuF
            exact ⟨q1, Int.le_trans q2 (Int.mul_le_mul_of_nonneg_right (show (t : Int) ≤ 24 by omega) (by decide))⟩
          have nextT : ∀ (D4 : Nat → Int → Int) (u4 u5 : aTV), Nat.beq u4.1 1 = false → (∀ r, r ≠ 267 → D4 r = D2 r) → (∀ a b : Int, 0 ≤ a → a < 12 → 0 ≤ b → b < 12 → D4 267 (12 * a + b) = D3 267 (12 * a + b) + (if (WqM D0 cn cc).cm t = true then cuT (wM D0) t (D0 266 t) a b (wM D0 t 7).toNat else 0)) → V G l (d + 3) iX12_settles 206 [rf 210, (0, sp), (0, st), (0, (t : Int)), u4, u5] [] (K, D4, z) P := by
            intro D4 u4 u5 hu4 r1 r2
            refine s_iinc3 rfl rfl ⟨by omega, by omega⟩ ?_
            refine s_go rfl ?_
            exact ih (t + 1) D4 _ _ (by omega) r1 (fun a b a1 a2 b1 b2 => by rw [r2 a b a1 a2 b1 b2, g2 a b a1 a2 b1 b2, st1]; omega) hu4
          have evw : ∀ D4 : Nat → Int → Int, (∀ r, r ≠ 267 → D4 r = D2 r) → vwM D4 = vwM D0 ∧ D4 265 = D0 265 := fun D4 r1 => by
            refine ⟨?_, ?_⟩
            · rw [← ev]; show (if D4 210 36 < 0 then D4 210 35 else D4 210 36) = _; rw [r1 210 (by omega), F2 210 (by omega)]
            · rw [r1 265 (by omega), F2 265 (by omega), f1 265 (by omega) (by omega)]
          have inner : ∀ (m n : Nat) (D4 : Nat → Int → Int) (u5 : aTV), n + m = (wM D0 t 7).toNat → (∀ r, r ≠ 267 → D4 r = D2 r) → (∀ a b : Int, 0 ≤ a → a < 12 → 0 ≤ b → b < 12 → D4 267 (12 * a + b) = D3 267 (12 * a + b) + (if (WqM D0 cn cc).cm t = true then cuT (wM D0) t (D0 266 t) a b n else 0)) → V G l (d + 3) iX12_settles 103 [rf 210, (0, sp), (0, st), (0, (t : Int)), (0, (n : Int)), u5] [] (K, D4, z) P := by
            intro m
            induction m with
            | zero =>
              intro n D4 u5 hm2 r1 r2
              have hn : n = (wM D0 t 7).toNat := by omega
              have k10 : D4 210 = D1 210 := by rw [r1 _ (by omega), F2 _ (by omega)]
              have k30 : D4 230 = D1 230 := by rw [r1 _ (by omega), F2 _ (by omega)]
              refine s_il4 rfl ?_
              refine s_al0 rfl ?_
              refine s_gf rfl (hk.at rfl rfl) rfl rfl ?_
              refine s_ic rfl ?_
              refine s_al0 rfl ?_
              refine s_gi rfl (hk.at rfl rfl) rfl ?_
              rw [k10]
              refine s_imul rfl ⟨by omega, by omega⟩ ?_
              refine s_il3 rfl ?_
              refine s_iadd rfl ⟨by omega, by omega⟩ ?_
              refine s_iald rfl (hk.at rfl rfl) (by omega) ?_
              rw [k30]
              refine s_cge rfl ?_ ?_
              · intro h119
                exact nextT D4 _ _ rfl r1 (by rw [← hn]; exact r2)
              · intro h119
                omega
            | succ m ihn =>
              intro n D4 u5 hm2 r1 r2
              have hn : (n : Int) < wM D0 t 7 := by omega
              have rD : ∀ r, r ≠ 267 → (r < 236 ∨ (237 < r ∧ r < 253) ∨ r = 265 ∨ r = 266 ∨ 271 < r) → D4 r = D1 r := fun r q1 q2 => by rw [r1 r q1, F2 r q2]
              have k10 : D4 210 = D1 210 := rD _ (by omega) (by omega)
              have k30 : D4 230 = D1 230 := rD _ (by omega) (by omega)
              have k66 : D4 266 t = D0 266 t := by rw [rD _ (by omega) (by omega), f1 266 (by omega) (by omega)]
              have k24 : D4 224 (24 * D1 210 10 + (t : Int)) = wM D0 t 0 := by rw [rD _ (by omega) (by omega), e0]
              have k32 : D4 232 (12 * (24 * D1 210 10 + (t : Int)) + n) = wM D0 t (100 + n) := by rw [rD _ (by omega) (by omega), ← ew]; exact (wM_h (D := D1) (t := t) (i := n) (by omega)).symm
              have k31 : D4 231 (12 * (24 * D1 210 10 + (t : Int)) + n) = wM D0 t (200 + n) := by rw [rD _ (by omega) (by omega), ← ew]; exact (wM_s (D := D1) (t := t) (i := n)).symm
              obtain ⟨s1, s2⟩ := hp n hn
              have q1 := prt_in hcm.1 s2
              have mm : 0 ≤ D0 266 t * wM D0 t (200 + n) ∧ D0 266 t * wM D0 t (200 + n) ≤ 999999 * 1000 := ⟨Int.mul_nonneg hcm.1 s2.1, Int.mul_le_mul hcm.2 s2.2 s2.1 (by decide)⟩
              have dd : (D0 266 t * wM D0 t (200 + n)).tdiv 1000 = prt (D0 266 t) (wM D0 t (200 + n)) := Int.tdiv_eq_ediv_of_nonneg mm.1
              have y1 := r2 (wM D0 t (100 + n)) (wM D0 t 0) s1.1 (by omega) h0.1 (by omega)
              have y2 := g2 (wM D0 t (100 + n)) (wM D0 t 0) s1.1 (by omega) h0.1 (by omega)
              have y3 := cin (wM D0 t (100 + n)) (wM D0 t 0)
              have y4 := owin (wM D0 t (100 + n)) (wM D0 t 0)
              have y5 := cuT_in (a := wM D0 t (100 + n)) (b := wM D0 t 0) (n := n) hS.2.2.1 ht hcm (by omega)
              have y6 : 0 ≤ D4 267 (12 * wM D0 t (100 + n) + wM D0 t 0) ∧ D4 267 (12 * wM D0 t (100 + n) + wM D0 t 0) ≤ 2000000000000 := by
                rw [y1, y2]
                split <;> omega
              have hev := evw D4 r1
              have yes : (WqM D0 cn cc).cm t = true → V G l (d + 3) iX12_settles 130 [rf 210, (0, sp), (0, st), (0, (t : Int)), (0, (n : Int)), u5] [] (K, D4, z) P := fun hcmt => by
                refine s_ic rfl ?_
                refine s_ic rfl ?_
                refine s_al0 rfl ?_
                refine s_gi rfl (hk.at rfl rfl) rfl ?_
                rw [k10]
                refine s_imul rfl ⟨by omega, by omega⟩ ?_
                refine s_il3 rfl ?_
                refine s_iadd rfl ⟨by omega, by omega⟩ ?_
                refine s_imul rfl ⟨by omega, by omega⟩ ?_
                refine s_il4 rfl ?_
                refine s_iadd rfl ⟨by omega, by omega⟩ ?_
                refine s_is5 rfl rfl ?_
                refine s_al0 rfl ?_
                refine s_gf rfl (hk.at rfl rfl) rfl rfl ?_
                refine s_ic rfl ?_
                refine s_al0 rfl ?_
                refine s_gf rfl (hk.at rfl rfl) rfl rfl ?_
                refine s_il5 rfl ?_
                refine s_iald rfl (hk.at rfl rfl) (by omega) ?_
                rw [k32]
                refine s_imul rfl ⟨by omega, by omega⟩ ?_
                refine s_al0 rfl ?_
                refine s_gf rfl (hk.at rfl rfl) rfl rfl ?_
                refine s_ic rfl ?_
                refine s_al0 rfl ?_
                refine s_gi rfl (hk.at rfl rfl) rfl ?_
                rw [k10]
                refine s_imul rfl ⟨by omega, by omega⟩ ?_
                refine s_il3 rfl ?_
                refine s_iadd rfl ⟨by omega, by omega⟩ ?_
                refine s_iald rfl (hk.at rfl rfl) (by omega) ?_
                rw [k24]
                refine s_iadd rfl ⟨by omega, by omega⟩ ?_
                refine s_dup2 rfl rfl rfl ?_
                refine s_lald rfl (hk.at rfl rfl) (by omega) ?_
                refine s_al0 rfl ?_
                refine s_gf rfl (hk.at rfl rfl) rfl rfl ?_
                refine s_il3 rfl ?_
                refine s_iald rfl (hk.at rfl rfl) (by omega) ?_
                rw [k66]
                refine s_i2l rfl ?_
                refine s_al0 rfl ?_
                refine s_gf rfl (hk.at rfl rfl) rfl rfl ?_
                refine s_il5 rfl ?_
                refine s_iald rfl (hk.at rfl rfl) (by omega) ?_
                rw [k31]
                refine s_i2l rfl ?_
                refine s_lmul rfl ⟨by omega, by omega⟩ ?_
                refine s_lc rfl ?_
                refine s_ldiv rfl (by decide) (by rw [dd]; exact ⟨by omega, by omega⟩) ?_
                rw [dd]
                refine s_ladd rfl ⟨by omega, by omega⟩ ?_
                refine s_last rfl (hk.at rfl rfl) (by omega) ?_
                refine s_iinc4 rfl rfl ⟨by omega, by omega⟩ ?_
                refine s_go rfl ?_
                refine ihn (n + 1) _ _ (by omega) (fun r hr => by rw [aUp_row hr]; exact r1 r hr) (fun a b a1 a2 b1 b2 => ?_)
                have z0 := r2 a b a1 a2 b1 b2
                have z1 : cuT (wM D0) t (D0 266 t) a b (n + 1) = cuT (wM D0) t (D0 266 t) a b n + (if wM D0 t (100 + n) = a ∧ wM D0 t 0 = b then prt (D0 266 t) (wM D0 t (200 + n)) else 0) := rfl
                rw [if_pos hcmt] at z0
                rw [if_pos hcmt, z1, aUp_app]
                by_cases w2 : 12 * a + b = 12 * wM D0 t (100 + n) + wM D0 t 0
                · rw [if_pos ⟨rfl, w2⟩, if_pos (by omega), ← w2]
                  omega
                · rw [if_neg (fun q => w2 q.2), if_neg (fun q => w2 (by omega))]
                  omega
              refine s_il4 rfl ?_
              refine s_al0 rfl ?_
              refine s_gf rfl (hk.at rfl rfl) rfl rfl ?_
              refine s_ic rfl ?_
              refine s_al0 rfl ?_
              refine s_gi rfl (hk.at rfl rfl) rfl ?_
              rw [k10]
              refine s_imul rfl ⟨by omega, by omega⟩ ?_
              refine s_il3 rfl ?_
              refine s_iadd rfl ⟨by omega, by omega⟩ ?_
              refine s_iald rfl (hk.at rfl rfl) (by omega) ?_
              rw [k30]
              refine s_cge rfl ?_ ?_
              · intro h119
                omega
              · intro h119
                refine s_al0 rfl ?_
                refine s_il3 rfl ?_
                refine s_callO rfl rfl (Or.inl rfl) rfl rfl (hk.at rfl rfl) (u_isCommuted hk ⟨by omega, by omega⟩ ?_)
                rw [hev.1, hev.2]
                show V G l (d + 3) iX12_settles 127 [rf 210, (0, sp), (0, st), (0, (t : Int)), (0, (n : Int)), u5] [(0, if 0 ≤ D0 265 t ∧ D0 265 t ≤ vwM D0 then 1 else 0)] (K, D4, z) P
                generalize hcv : (if 0 ≤ D0 265 t ∧ D0 265 t ≤ vwM D0 then (1 : Int) else 0) = cv
                refine s_zeq rfl ?_ ?_
                · intro h127
                  have hno : ¬ (0 ≤ D0 265 t ∧ D0 265 t ≤ vwM D0) := fun q => by rw [if_pos q] at hcv; omega
                  have hcf : ¬ (WqM D0 cn cc).cm t = true := fun q => hno (of_decide_eq_true q)
                  refine nextT D4 _ _ rfl r1 (fun a b a1 a2 b1 b2 => ?_)
                  have := r2 a b a1 a2 b1 b2
                  rw [if_neg hcf] at this ⊢
                  exact this
                · intro h127
                  have hyes : 0 ≤ D0 265 t ∧ D0 265 t ≤ vwM D0 := Decidable.byContradiction fun q => by rw [if_neg q] at hcv; omega
                  exact yes (decide_eq_true hyes)
          refine s_il3 rfl ?_
          refine s_al0 rfl ?_
          refine s_gf rfl (hk.at rfl rfl) rfl rfl ?_
          refine s_al0 rfl ?_
          refine s_gi rfl (hk.at rfl rfl) rfl ?_
          rw [k10]
          refine s_iald rfl (hk.at rfl rfl) (by rcases b1 with q | q <;> rw [q] <;> decide) ?_
          rw [k21]
          refine s_cge rfl ?_ ?_
          · intro h97
            omega
          · intro h97
            refine s_ic rfl ?_
            refine s_is4 rfl rfl ?_
            exact inner (wM D0 t 7).toNat 0 D3 _ (by omega) g1 (fun a b _ _ _ _ => by rw [show cuT (wM D0) t (D0 266 t) a b 0 = 0 from rfl]; split <;> omega)
      refine s_ic rfl ?_
      refine s_is3 rfl rfl ?_
      exact loopT (ntM D0) 0 D2 _ _ (by omega) (fun _ _ => rfl) (fun a b a1 a2 b1 b2 => by rw [O2 a b a1 a2 b1 b2]; exact (Int.add_zero _).symm) rfl
    have loopE : ∀ (m e : Nat) (D2 : Nat → Int → Int), e + m = (evM D0 xs).1 → FrS D1 D2 → (∀ i : Nat, i < e → AnM (WqM D0 cn cc) (acP (WqM D0 cn cc) (QE D0 xs) i).1 (acP (WqM D0 cn cc) (QE D0 xs) i).2 (QE D0 xs i) i D2) → (∀ t : Nat, t < ntM D0 → D2 263 t = (acP (WqM D0 cn cc) (QE D0 xs) e).1 t ∧ D2 264 t = (acP (WqM D0 cn cc) (QE D0 xs) e).2 t) → (∀ a b : Int, 0 ≤ a → a < 12 → 0 ≤ b → b < 12 → D2 267 (12 * a + b) = owP (WqM D0 cn cc) (QE D0 xs) e a b) → V G l (d + 3) iX12_settles 66 [rf 210, (0, sp), (0, st), (0, (e : Int)), (9, 0), (9, 0)] [] (K, D2, z) P := by
      intro m
      induction m with
      | zero =>
        intro e D2 hm F2 A2 U2 O2
        have he : e = (evM D0 xs).1 := by omega
        have k10 : D2 210 = D1 210 := F2 _ (by omega)
        refine s_il3 rfl ?_
        refine s_al0 rfl ?_
        refine s_gi rfl (hk.at rfl rfl) rfl ?_
        rw [k10, m2]
        refine s_cge rfl ?_ ?_
        · intro h71
          subst he
          exact fin D2 F2 A2 (fun t ht => (U2 t ht).1) O2 _
        · intro h71
          omega
      | succ m ih =>
        intro e D2 hm F2 A2 U2 O2
        have he : e < (evM D0 xs).1 := by omega
        have k10 : D2 210 = D1 210 := F2 _ (by omega)
        have ew2 : wM D2 = wM D0 := by rw [wM_congr (fun r q1 q2 => F2 r (by omega)) (by rw [k10]), ew]
        have et2 : ntM D2 = ntM D0 := by rw [← et]; show (D2 221 (D2 210 10)).toNat = _; rw [k10, F2 221 (by omega)]
        have ac := acP_in hW e (fun i hi => hQ i (by omega))
        have sB : StB D2 nh := by
          unfold StB
          rw [ew2, et2, k10, F2 221 (by omega), f10, f1 221 (by omega) (by omega)]
          exact ⟨hS.1, hS.2.1, hS.2.2.1, fun t ht => ⟨hS.2.2.2 t ht, by rw [(U2 t ht).1]; exact (ac t ht).1, by rw [(U2 t ht).2]; exact (ac t ht).2⟩⟩
        have cB : CoM D2 cn cc := by
          unfold CoM at hC ⊢
          rw [et2, k10, f10, F2 233 (by omega), F2 234 (by omega), F2 235 (by omega), f1 233 (by omega) (by omega), f1 234 (by omega) (by omega), f1 235 (by omega) (by omega)]
          exact hC
        have eQ : QM D2 e = QE D0 xs e := QM_eq hM (fun r hr => F2 r (by omega)) he n60.1
        have ev2 : vwM D2 = vwM D0 := by rw [← ev]; show (if D2 210 36 < 0 then D2 210 35 else D2 210 36) = _; rw [k10]
        have eWq : WqM D2 cn cc = WqM D0 cn cc := by
          show (wM D2, ntM D2, (fun t : Nat => decide (0 ≤ D2 265 t ∧ D2 265 t ≤ vwM D2)), cn, cc) = _
          rw [ew2, et2, ev2, F2 265 (by omega), f1 265 (by omega) (by omega)]
        have k37 : D2 210 37 = D0 210 37 := by rw [k10, f37]
        have k50 : D2 250 e = (evM D0 xs).2.1 e := by rw [F2 _ (by omega)]; exact (m4 e he).1
        refine s_il3 rfl ?_
        refine s_al0 rfl ?_
        refine s_gi rfl (hk.at rfl rfl) rfl ?_
        rw [k10, m2]
        refine s_cge rfl ?_ ?_
        · intro h71
          omega
        · intro h71
          refine s_al0 rfl ?_
          refine s_il3 rfl ?_
          refine s_callO rfl rfl (Or.inl rfl) rfl rfl (hk.at rfl rfl) (u_settle hk (by omega) sB cB (by rw [k37]; omega) (fun q q1 q2 => ?_) ?_ (fun j j1 j2 => ?_) (fun A1 A2' A3 A4 F P' S C => ?_))
          · rw [k37] at q2
            have hbq := hb.2 q q1 q2
            rw [F2 238 (by omega), F2 239 (by omega), F2 249 (by omega), F2 252 (by omega), f1 238 (by omega) (by omega), f1 239 (by omega) (by omega)]
            have mq := m3 q.toNat (by omega)
            rw [show ((q.toNat : Nat) : Int) = q by omega] at mq
            refine ⟨hbq.1, hbq.2.1, fun hj => ?_⟩
            rw [mq.2] at hj
            rw [mq.1]
            have hm : q ∈ xs := Decidable.byContradiction fun qq => by rw [x3.2.2.1 q qq] at hj; omega
            have := ((hx.2 q).mp hm).2.1
            have := (amF_in (wo := D0 245) (wd := D0 246) (l := q) (day := vwM D0) (m := 100000) ham (by decide)).2
            exact ⟨by omega, this⟩
          · rw [k50, k37]
            have := (hx.2 _).mp (x3.2.2.2.2.1 e he).1
            exact this.1
          · have := O2 (j / 12) (j % 12) (by omega) (by omega) (by omega) (by omega)
            rw [show 12 * (j / 12) + j % 12 = j by omega] at this
            have h2 := owP_in (a := j / 12) (b := j % 12) hW e (fun i hi => hQ i (by omega))
            rw [this]
            omega
          show V G l (d + 3) iX12_settles 79 [rf 210, (0, sp), (0, st), (0, (e : Int)), (9, 0), (9, 0)] [] (K, A4, z) P
          have X := An_step (us := (acP (WqM D0 cn cc) (QE D0 xs) e).1) (ra := (acP (WqM D0 cn cc) (QE D0 xs) e).2) sB (fun t ht => U2 t (by rw [← et2]; exact ht)) F P' S C
          rw [eWq, eQ, ew2, et2] at X
          obtain ⟨X1, X2, X3, X4, X5⟩ := X
          refine s_iinc3 rfl rfl ⟨by omega, by omega⟩ ?_
          refine s_go rfl ?_
          refine ih (e + 1) A4 (by omega) (fun r hr => by rw [X4 r hr, F2 r hr]) (fun i hi => ?_) X2 (fun a b a1 a2 b1 b2 => by rw [X3 a b a1 a2 b1 b2, O2 a b a1 a2 b1 b2]; rfl)
          rcases (by omega : i < e ∨ i = e) with q | q
          · exact An_keep (A2 i q) n24 (by omega) X5
          · subst q; exact X1
    have loop2 : ∀ (m n : Nat) (D2 : Nat → Int → Int), n + m = 24 → (∀ r, r ≠ 263 → r ≠ 264 → r ≠ 267 → D2 r = D1 r) → (∀ j : Int, 0 ≤ j → j < 144 → D2 267 j = 0) → (∀ t : Nat, t < n → D2 263 t = 0 ∧ D2 264 t = 0) → V G l (d + 3) iX12_settles 38 [rf 210, (0, sp), (0, st), (0, (n : Int)), (9, 0), (9, 0)] [] (K, D2, z) P := by
      intro m
      induction m with
      | zero =>
        intro n D2 hm g1 g2 g3
        have hn : n = 24 := by omega
        subst hn
        refine s_il3 rfl ?_
        refine s_ic rfl ?_
        refine s_cge rfl ?_ ?_
        · intro h41
          refine s_ic rfl ?_
          refine s_is3 rfl rfl ?_
          exact loopE (evM D0 xs).1 0 D2 (by omega) (fun r hr => g1 r (by omega) (by omega) (by omega)) (fun i hi => absurd hi (Nat.not_lt_zero i)) (fun t ht => g3 t (by omega)) (fun a b a1 a2 b1 b2 => g2 _ (by omega) (by omega))
        · intro h41
          exact absurd h41 (by decide)
      | succ m ih =>
        intro n D2 hm g1 g2 g3
        refine s_il3 rfl ?_
        refine s_ic rfl ?_
        refine s_cge rfl ?_ ?_
        · intro h41
          omega
        · intro h41
          refine s_al0 rfl ?_
          refine s_gf rfl (hk.at rfl rfl) rfl rfl ?_
          refine s_il3 rfl ?_
          refine s_lc rfl ?_
          refine s_last rfl (hk.at rfl rfl) (by omega) ?_
          refine s_al0 rfl ?_
          refine s_gf rfl (hk.at rfl rfl) rfl rfl ?_
          refine s_il3 rfl ?_
          refine s_lc rfl ?_
          refine s_last rfl (hk.at rfl rfl) (by omega) ?_
          refine s_iinc3 rfl rfl ⟨by omega, by omega⟩ ?_
          refine s_go rfl ?_
          refine ih (n + 1) _ (by omega) (fun r r1 r2 r3 => by rw [aUp_row r2, aUp_row r1]; exact g1 r r1 r2 r3) (fun j j1 j2 => by rw [aUp_row (by omega), aUp_row (by omega)]; exact g2 j j1 j2) (fun t ht => ?_)
          rw [aUp_row (q := 263) (by omega), aUp_same, aUp_same, aUp_row (q := 264) (by omega)]
          rcases (by omega : t < n ∨ t = n) with q | q
          · rw [uF_ne (by omega), uF_ne (by omega)]; exact g3 t q
          · subst q; rw [uF_at, uF_at]; exact ⟨rfl, rfl⟩
    have loop1 : ∀ (m n : Nat) (D2 : Nat → Int → Int), n + m = 144 → (∀ r, r ≠ 267 → D2 r = D1 r) → (∀ j : Int, 0 ≤ j → j < n → D2 267 j = 0) → V G l (d + 3) iX12_settles 16 [rf 210, (0, sp), (0, st), (0, (n : Int)), (9, 0), (9, 0)] [] (K, D2, z) P := by
      intro m
      induction m with
      | zero =>
        intro n D2 hm g1 g2
        have hn : n = 144 := by omega
        subst hn
        refine s_il3 rfl ?_
        refine s_ic rfl ?_
        refine s_cge rfl ?_ ?_
        · intro h20
          refine s_ic rfl ?_
          refine s_is3 rfl rfl ?_
          exact loop2 24 0 D2 rfl (fun r _ _ r3 => g1 r r3) g2 (fun t ht => absurd ht (Nat.not_lt_zero t))
        · intro h20
          exact absurd h20 (by decide)
      | succ m ih =>
        intro n D2 hm g1 g2
        refine s_il3 rfl ?_
        refine s_ic rfl ?_
        refine s_cge rfl ?_ ?_
        · intro h20
          omega
        · intro h20
          refine s_al0 rfl ?_
          refine s_gf rfl (hk.at rfl rfl) rfl rfl ?_
          refine s_il3 rfl ?_
          refine s_lc rfl ?_
          refine s_last rfl (hk.at rfl rfl) (by omega) ?_
          refine s_iinc3 rfl rfl ⟨by omega, by omega⟩ ?_
          refine s_go rfl ?_
          refine ih (n + 1) _ (by omega) (fun r hr => by rw [aUp_row hr]; exact g1 r hr) (fun j j1 j2 => ?_)
          rw [aUp_same]
          rcases (by omega : j < n ∨ j = n) with q | q
          · rw [uF_ne (by omega)]; exact g2 j j1 q
          · subst q; rw [uF_at]
    refine s_ic rfl ?_
    refine s_is3 rfl rfl ?_
    exact loop1 144 0 D1 rfl (fun _ _ => rfl) (fun j j1 j2 => absurd j2 (by omega))
  refine VM_go (tg2 rfl) (Nat.le_of_ble_eq_true rfl) ?_
  refine s_al0 rfl ?_
  refine s_il1 rfl ?_
  refine s_pi rfl (hk.at rfl rfl) rfl ?_
  refine s_al0 rfl ?_
  refine s_il2 rfl ?_
  refine s_pi rfl (hk.at rfl rfl) rfl ?_
  refine s_al0 rfl ?_
  rw [← hD0]
  refine s_callO rfl rfl (Or.inl rfl) rfl rfl (hk.at rfl rfl) (u_findEvents (d := d + 1) hk hb (fun D1 xs hM => ?_))
  exact main D1 xs hM
end
