/-! ===== events: the reference ===== -/
def MbL (D : Nat → Int → Int) : Prop := (0 ≤ D 210 37 ∧ D 210 37 ≤ 60 ∧ 0 ≤ D 210 45 ∧ D 210 45 ≤ 300 ∧ 0 ≤ D 210 10 ∧ D 210 10 ≤ 1) ∧ ∀ q : Int, 0 ≤ q → q < D 210 37 → (0 ≤ D 238 q ∧ D 238 q < 12) ∧ (0 ≤ D 239 q ∧ D 239 q < 240000) ∧ (0 ≤ D 240 q ∧ D 240 q < 1000) ∧ (0 ≤ D 241 q ∧ D 241 q < 8) ∧ (0 ≤ D 242 q ∧ D 242 q < 6) ∧ (D 243 q = 0 ∨ D 243 q = 1)
abbrev amM (D : Nat → Int → Int) : Int → Int := fun q => amF (D 245) (D 246) (D 247) q (vwM D) (D 210 45).toNat
/-- a loss counts -/
def cntM (D : Nat → Int → Int) (q : Int) : Prop := 0 < amM D q ∧ D 238 q < D 216 (D 210 10) ∧ D 244 (D 242 q) = 0 ∧ bAnd (bShr (D 210 50) (D 242 q)) 1 = 1
abbrev evM (D : Nat → Int → Int) (xs : List Int) : ES := EV (D 239) (D 240) (D 241) (D 243) (fun c => D 219 (8 * D 210 10 + c)) (fun c => D 220 (8 * D 210 10 + c)) (D 210 49) xs
def FrE (D0 D : Nat → Int → Int) : Prop := (∀ r : Nat, r ≠ 210 → r < 248 ∨ 252 < r → D r = D0 r) ∧ ∀ j : Int, j ≠ 51 → j ≠ 54 → D 210 j = D0 210 j
/-- the losses that count, in their order -/
def isXs (D : Nat → Int → Int) (xs : List Int) : Prop := xs.Pairwise (fun a b => D 239 a * 60 + a < D 239 b * 60 + b) ∧ ∀ q, q ∈ xs ↔ (0 ≤ q ∧ q < D 210 37) ∧ cntM D q
/-- behind the search for events -/
def MeI (D0 : Nat → Int → Int) (xs : List Int) (D : Nat → Int → Int) : Prop := FrE D0 D ∧ isXs D0 xs ∧ D 210 51 = xs.length ∧ D 210 54 = (evM D0 xs).1 ∧ (∀ q : Nat, (q : Int) < D0 210 37 → D 249 q = amM D0 q ∧ D 252 q = (evM D0 xs).2.2.1 q) ∧ ∀ e : Nat, e < (evM D0 xs).1 → D 250 e = (evM D0 xs).2.1 e ∧ D 251 e = (evM D0 xs).2.2.2 e
section
variable {G : aCX} {l : Launch} {d : Nat} {K : Nat → aKd} {D : Nat → Int → Int} {z : Nat × Nat} {P : Int → aSt → Prop}
theorem u_isCounted {q : Int} (hk : Kn K) (hq : 0 ≤ q ∧ q < 60) (hs : 0 ≤ D 242 q ∧ D 242 q < 6) (hh : 0 ≤ D 210 10 ∧ D 210 10 ≤ 1) (k1 : 0 < D 249 q ∧ D 238 q < D 216 (D 210 10) ∧ D 244 (D 242 q) = 0 ∧ bAnd (bShr (D 210 50) (D 242 q)) 1 = 1 → P 1 (K, D, z)) (k0 : ¬ (0 < D 249 q ∧ D 238 q < D 216 (D 210 10) ∧ D 244 (D 242 q) = 0 ∧ bAnd (bShr (D 210 50) (D 242 q)) 1 = 1) → P 0 (K, D, z)) : VM G l d iX12_isCounted [rf 210, (0, q)] (K, D, z) P := by
  refine VM_go (tg2 rfl) (Nat.le_of_ble_eq_true rfl) ?_
  refine s_al0 rfl ?_
  refine s_gf rfl (hk.at rfl rfl) rfl rfl ?_
  refine s_il1 rfl ?_
  refine s_iald rfl (hk.at rfl rfl) (by omega) ?_
  refine s_zle rfl ?_ ?_
  · intro h6
    refine s_ic rfl ?_
    refine s_retz rfl rfl (by omega) ?_
    first | exact k0 (by omega) | exact k1 ⟨by omega, by omega, by omega, by omega⟩
  · intro h6
    refine s_al0 rfl ?_
    refine s_gf rfl (hk.at rfl rfl) rfl rfl ?_
    refine s_il1 rfl ?_
    refine s_iald rfl (hk.at rfl rfl) (by omega) ?_
    refine s_al0 rfl ?_
    refine s_gf rfl (hk.at rfl rfl) rfl rfl ?_
    refine s_al0 rfl ?_
    refine s_gi rfl (hk.at rfl rfl) rfl ?_
    refine s_iald rfl (hk.at rfl rfl) (by omega) ?_
    refine s_cge rfl ?_ ?_
    · intro h24
      refine s_ic rfl ?_
      refine s_retz rfl rfl (by omega) ?_
      first | exact k0 (by omega) | exact k1 ⟨by omega, by omega, by omega, by omega⟩
    · intro h24
      refine s_al0 rfl ?_
      refine s_gf rfl (hk.at rfl rfl) rfl rfl ?_
      refine s_al0 rfl ?_
      refine s_gf rfl (hk.at rfl rfl) rfl rfl ?_
      refine s_il1 rfl ?_
      refine s_iald rfl (hk.at rfl rfl) (by omega) ?_
      refine s_bald rfl (hk.at rfl rfl) (by omega) ?_
      refine s_zne rfl ?_ ?_
      · intro h38
        refine s_ic rfl ?_
        refine s_retz rfl rfl (by omega) ?_
        first | exact k0 (by omega) | exact k1 ⟨by omega, by omega, by omega, by omega⟩
      · intro h38
        refine s_al0 rfl ?_
        refine s_gi rfl (hk.at rfl rfl) rfl ?_
        refine s_al0 rfl ?_
        refine s_gf rfl (hk.at rfl rfl) rfl rfl ?_
        refine s_il1 rfl ?_
        refine s_iald rfl (hk.at rfl rfl) (by omega) ?_
        refine s_ishr rfl ?_
        refine s_ic rfl ?_
        refine s_iand rfl ?_
        refine s_ic rfl ?_
        refine s_cne rfl ?_ ?_
        · intro h55
          refine s_ic rfl ?_
          refine s_retz rfl rfl (by omega) ?_
          first | exact k0 (by omega) | exact k1 ⟨by omega, by omega, by omega, by omega⟩
        · intro h55
          refine s_ic rfl ?_
          refine s_go rfl ?_
          refine s_retz rfl rfl (by omega) ?_
          first | exact k0 (by omega) | exact k1 ⟨by omega, by omega, by omega, by omega⟩
theorem u_eventFor {lo : Int} (hk : Kn K) (hb : MbL D) (hl : 0 ≤ lo ∧ lo < D 210 37) (hf : 0 ≤ D 210 54 ∧ D 210 54 ≤ 60) (hfi : ∀ e : Nat, e < (D 210 54).toNat → 0 ≤ D 250 e ∧ D 250 e < D 210 37) (kk : P (efF (D 239) (D 240) (D 241) (fun c => D 219 (8 * D 210 10 + c)) (fun c => D 220 (8 * D 210 10 + c)) (D 250) lo (D 210 54).toNat) (K, D, z)) : VM G l d iX12_eventFor [rf 210, (0, lo)] (K, D, z) P := by
  obtain ⟨⟨b1, b2, b3, b4, b5, b6⟩, hb⟩ := hb
  obtain ⟨p1, p2, p3, p4, p5, p6⟩ := hb lo hl.1 hl.2
  have loop : ∀ (n : Nat) (u4 u5 : aTV), n ≤ (D 210 54).toNat → Nat.beq u4.1 1 = false → P (efF (D 239) (D 240) (D 241) (fun c => D 219 (8 * D 210 10 + c)) (fun c => D 220 (8 * D 210 10 + c)) (D 250) lo n) (K, D, z) → V G l d iX12_eventFor 22 [rf 210, (0, lo), (0, 8 * D 210 10 + D 241 lo), (0, (n : Int) - 1), u4, u5] [] (K, D, z) P := by
    intro n
    induction n with
    | zero =>
      intro u4 u5 h1 t4 kk
      refine s_il3 rfl ?_
      refine s_zlt rfl ?_ ?_
      · intro h23
        refine s_ic rfl ?_
        refine s_reti rfl rfl ?_
        exact kk
      · intro h23
        omega
    | succ n ih =>
      intro u4 u5 h1 t4 kk
      have hq := hfi n (by omega)
      obtain ⟨q1, q2, q3, q4, q5, q6⟩ := hb _ hq.1 hq.2
      have en : ((n + 1 : Nat) : Int) - 1 = n := by omega
      rw [en]
      have next : ∀ u4 u5 : aTV, Nat.beq u4.1 1 = false → P (efF (D 239) (D 240) (D 241) (fun c => D 219 (8 * D 210 10 + c)) (fun c => D 220 (8 * D 210 10 + c)) (D 250) lo n) (K, D, z) → V G l d iX12_eventFor 114 [rf 210, (0, lo), (0, 8 * D 210 10 + D 241 lo), (0, (n : Int)), u4, u5] [] (K, D, z) P := by
        intro u4 u5 t4 kk
        refine s_iinc3 rfl rfl ⟨by omega, by omega⟩ ?_
        refine s_go rfl ?_
        exact ih u4 u5 (by omega) t4 kk
      rw [efF] at kk
      refine s_il3 rfl ?_
      refine s_zlt rfl ?_ ?_
      · intro h23
        omega
      · intro h23
        refine s_al0 rfl ?_
        refine s_gf rfl (hk.at rfl rfl) rfl rfl ?_
        refine s_il3 rfl ?_
        refine s_iald rfl (hk.at rfl rfl) (by omega) ?_
        refine s_is4 rfl rfl ?_
        refine s_al0 rfl ?_
        refine s_gf rfl (hk.at rfl rfl) rfl rfl ?_
        refine s_il4 rfl ?_
        refine s_iald rfl (hk.at rfl rfl) (by omega) ?_
        refine s_al0 rfl ?_
        refine s_gf rfl (hk.at rfl rfl) rfl rfl ?_
        refine s_il1 rfl ?_
        refine s_iald rfl (hk.at rfl rfl) (by omega) ?_
        refine s_isub rfl ⟨by omega, by omega⟩ ?_
        refine s_is5 rfl rfl ?_
        refine s_al0 rfl ?_
        refine s_gf rfl (hk.at rfl rfl) rfl rfl ?_
        refine s_il4 rfl ?_
        refine s_iald rfl (hk.at rfl rfl) (by omega) ?_
        refine s_al0 rfl ?_
        refine s_gf rfl (hk.at rfl rfl) rfl rfl ?_
        refine s_il1 rfl ?_
        refine s_iald rfl (hk.at rfl rfl) (by omega) ?_
        refine s_cne rfl ?_ ?_
        · intro h63
          rw [if_neg (fun q => h63 q.1)] at kk
          exact next _ _ rfl kk
        · intro h63
          refine s_al0 rfl ?_
          refine s_gf rfl (hk.at rfl rfl) rfl rfl ?_
          refine s_il1 rfl ?_
          refine s_iald rfl (hk.at rfl rfl) (by omega) ?_
          refine s_al0 rfl ?_
          refine s_gf rfl (hk.at rfl rfl) rfl rfl ?_
          refine s_il4 rfl ?_
          refine s_iald rfl (hk.at rfl rfl) (by omega) ?_
          refine s_isub rfl ⟨by omega, by omega⟩ ?_
          refine s_al0 rfl ?_
          refine s_gf rfl (hk.at rfl rfl) rfl rfl ?_
          refine s_il2 rfl ?_
          refine s_iald rfl (hk.at rfl rfl) (by omega) ?_
          refine s_cge rfl ?_ ?_
          · intro h86
            rw [if_neg (fun q => by omega)] at kk
            exact next _ _ rfl kk
          · intro h86
            refine s_il5 rfl ?_
            refine s_al0 rfl ?_
            refine s_gf rfl (hk.at rfl rfl) rfl rfl ?_
            refine s_il2 rfl ?_
            refine s_iald rfl (hk.at rfl rfl) (by omega) ?_
            refine s_cgt rfl ?_ ?_
            · intro h97
              rw [if_neg (fun q => by omega)] at kk
              exact next _ _ rfl kk
            · intro h97
              refine s_il5 rfl ?_
              refine s_ineg rfl ⟨by omega, by omega⟩ ?_
              refine s_al0 rfl ?_
              refine s_gf rfl (hk.at rfl rfl) rfl rfl ?_
              refine s_il2 rfl ?_
              refine s_iald rfl (hk.at rfl rfl) (by omega) ?_
              refine s_cgt rfl ?_ ?_
              · intro h109
                rw [if_neg (fun q => by omega)] at kk
                exact next _ _ rfl kk
              · intro h109
                rw [if_pos ⟨h63, by omega, by omega, by omega⟩] at kk
                refine s_il3 rfl ?_
                refine s_reti rfl rfl ?_
                exact kk
  refine VM_go (tg2 rfl) (Nat.le_of_ble_eq_true rfl) ?_
  refine s_ic rfl ?_
  refine s_al0 rfl ?_
  refine s_gi rfl (hk.at rfl rfl) rfl ?_
  refine s_imul rfl ⟨by omega, by omega⟩ ?_
  refine s_al0 rfl ?_
  refine s_gf rfl (hk.at rfl rfl) rfl rfl ?_
  refine s_il1 rfl ?_
  refine s_iald rfl (hk.at rfl rfl) (by omega) ?_
  refine s_iadd rfl ⟨by omega, by omega⟩ ?_
  refine s_is2 rfl rfl ?_
  refine s_al0 rfl ?_
  refine s_gi rfl (hk.at rfl rfl) rfl ?_
  refine s_ic rfl ?_
  refine s_isub rfl ⟨by omega, by omega⟩ ?_
  refine s_is3 rfl rfl ?_
  have e0 : D 210 54 - 1 = ((D 210 54).toNat : Int) - 1 := by omega
  rw [e0]
  exact loop _ _ _ (Nat.le_refl _) rfl kk
theorem MkB.am {D : Nat → Int → Int} {D1 : Nat → Int → Int} (e1 : D1 245 = D 245) (e2 : D1 246 = D 246) (e3 : D1 247 = D 247) (e4 : D1 210 45 = D 210 45) (q v : Int) : amF (D1 245) (D1 246) (D1 247) q v (D1 210 45).toNat = amF (D 245) (D 246) (D 247) q v (D 210 45).toNat := by rw [e1, e2, e3, e4]
/-- behind i losses looked at: c of them in the line -/
def LnI (D0 : Nat → Int → Int) (i c : Nat) (D : Nat → Int → Int) : Prop := FrE D0 D ∧ (∀ q : Nat, q < i → D 249 q = amM D0 q ∧ D 252 q = -1) ∧ D 210 51 = c ∧ D 210 54 = 0 ∧ c ≤ i ∧ (∀ a b : Nat, a < b → b < c → D0 239 (D 248 a) * 60 + D 248 a < D0 239 (D 248 b) * 60 + D 248 b) ∧ (∀ a : Nat, a < c → (0 ≤ D 248 a ∧ D 248 a < i) ∧ cntM D0 (D 248 a)) ∧ ∀ q : Nat, q < i → cntM D0 q → ∃ a : Nat, a < c ∧ D 248 a = q
theorem u_findEvents {D0 : Nat → Int → Int} (hk : Kn K) (hb : MbL D0) (kk : ∀ D xs, MeI D0 xs D → P 0 (K, D, z)) : VM G l (d + 1) iX12_findEvents [rf 210] (K, D0, z) P := by
  obtain ⟨⟨b1, b2, b3, b4, b5, b6⟩, hbl⟩ := id hb
  have phase2 : ∀ (D1 : Nat → Int → Int) (c : Nat) (u3 u4 : aTV), LnI D0 (D0 210 37).toNat c D1 → Nat.beq u3.1 1 = false → V G l (d + 1) iX12_findEvents 128 [rf 210, (0, vwM D0), (0, 0), u3, u4] [] (K, D1, z) P := by
    intro D1 c u3 u4 hL t3
    obtain ⟨F, L1, L2, L3, L4, L5, L6, L7⟩ := hL
    have hxs : isXs D0 (rowL (D1 248) c) := by
      refine ⟨rowL_sorted (κ := fun q => D0 239 q * 60 + q) L5, fun q => ?_⟩
      rw [rowL_mem]
      constructor
      · rintro ⟨a, h1, rfl⟩
        have := L6 a h1
        exact ⟨⟨this.1.1, by omega⟩, this.2⟩
      · rintro ⟨h1, h2⟩
        obtain ⟨a, h3, h4⟩ := L7 q.toNat (by omega) (by rw [Int.toNat_of_nonneg h1.1]; exact h2)
        exact ⟨a, h3, by rw [h4, Int.toNat_of_nonneg h1.1]⟩
    have loop : ∀ (n i : Nat) (D : Nat → Int → Int) (u3 u4 : aTV), i + n = c → FrE D0 D → D 248 = D1 248 → D 249 = D1 249 → D 210 51 = c → D 210 54 = (evM D0 (rowL (D1 248) i)).1 → (∀ q : Nat, q < (D0 210 37).toNat → D 252 q = (evM D0 (rowL (D1 248) i)).2.2.1 q) → (∀ e : Nat, e < (evM D0 (rowL (D1 248) i)).1 → D 250 e = (evM D0 (rowL (D1 248) i)).2.1 e ∧ D 251 e = (evM D0 (rowL (D1 248) i)).2.2.2 e) → Nat.beq u3.1 1 = false → V G l (d + 1) iX12_findEvents 128 [rf 210, (0, vwM D0), (0, (i : Int)), u3, u4] [] (K, D, z) P := by
      intro n
      induction n with
      | zero =>
        intro i D u3 u4 h1 F M1 M2 M3 M4 M5 M6 t3
        have hi : i = c := by omega
        subst hi
        refine s_il2 rfl ?_
        refine s_al0 rfl ?_
        refine s_gi rfl (hk.at rfl rfl) rfl ?_
        refine s_cge rfl ?_ ?_
        · intro h133
          refine s_retv rfl rfl ?_
          refine kk D (rowL (D1 248) i) ⟨F, hxs, by rw [rowL_len]; exact M3, M4, fun q hq => ⟨?_, M5 q (by omega)⟩, M6⟩
          rw [M2]
          exact (L1 q (by omega)).1
        · intro h133
          omega
      | succ n ih =>
        intro i D u3 u4 h1 F M1 M2 M3 M4 M5 M6 t3
        obtain ⟨f1, f2⟩ := id F
        have g216 : D 216 = D0 216 := f1 216 (by decide) (Or.inl (by decide))
        have g219 : D 219 = D0 219 := f1 219 (by decide) (Or.inl (by decide))
        have g220 : D 220 = D0 220 := f1 220 (by decide) (Or.inl (by decide))
        have g238 : D 238 = D0 238 := f1 238 (by decide) (Or.inl (by decide))
        have g239 : D 239 = D0 239 := f1 239 (by decide) (Or.inl (by decide))
        have g240 : D 240 = D0 240 := f1 240 (by decide) (Or.inl (by decide))
        have g241 : D 241 = D0 241 := f1 241 (by decide) (Or.inl (by decide))
        have g242 : D 242 = D0 242 := f1 242 (by decide) (Or.inl (by decide))
        have g243 : D 243 = D0 243 := f1 243 (by decide) (Or.inl (by decide))
        have g244 : D 244 = D0 244 := f1 244 (by decide) (Or.inl (by decide))
        have g245 : D 245 = D0 245 := f1 245 (by decide) (Or.inl (by decide))
        have g246 : D 246 = D0 246 := f1 246 (by decide) (Or.inl (by decide))
        have g247 : D 247 = D0 247 := f1 247 (by decide) (Or.inl (by decide))
        have j10 : D 210 10 = D0 210 10 := f2 10 (by decide) (by decide)
        have j35 : D 210 35 = D0 210 35 := f2 35 (by decide) (by decide)
        have j36 : D 210 36 = D0 210 36 := f2 36 (by decide) (by decide)
        have j37 : D 210 37 = D0 210 37 := f2 37 (by decide) (by decide)
        have j45 : D 210 45 = D0 210 45 := f2 45 (by decide) (by decide)
        have j49 : D 210 49 = D0 210 49 := f2 49 (by decide) (by decide)
        have j50 : D 210 50 = D0 210 50 := f2 50 (by decide) (by decide)
        have hqi := L6 i (by omega)
        obtain ⟨p1, p2, p3, p4, p5, p6⟩ := hbl _ hqi.1.1 (by omega)
        have hnd : (rowL (D1 248) i).Nodup := sorted_nodup (κ := fun q => D0 239 q * 60 + q) (rowL_sorted (κ := fun q => D0 239 q * 60 + q) (fun a b h1 h2 => L5 a b h1 (by omega)))
        have hEv : evInv (rowL (D1 248) i) (evM D0 (rowL (D1 248) i)) := EV_inv hnd
        have hEl := hEv.1
        rw [rowL_len] at hEl
        have hnot : D1 248 i ∉ rowL (D1 248) i := fun q => by
          obtain ⟨j, hj, e⟩ := rowL_mem.mp q
          have := L5 j i hj (by omega)
          rw [e] at this
          omega
        have hsn : evM D0 (rowL (D1 248) (i + 1)) = evStep (D0 239) (D0 240) (D0 241) (D0 243) (fun c => D0 219 (8 * D0 210 10 + c)) (fun c => D0 220 (8 * D0 210 10 + c)) (D0 210 49) (evM D0 (rowL (D1 248) i)) (D1 248 i) := by
          rw [rowL_succ]
          exact EV_snoc
        have hpl := evPick_lt (hr := D0 239) (pl := D0 240) (ca := D0 241) (sp := D0 243) (hrs := fun c => D0 219 (8 * D0 210 10 + c)) (mls := fun c => D0 220 (8 * D0 210 10 + c)) (ms := D0 210 49) (l := D1 248 i) (E := evM D0 (rowL (D1 248) i))
        unfold evStep at hsn
        have ih := fun D u3 u4 => ih (i + 1) D u3 u4 (by omega)
        rw [hsn] at ih
        have hfi : ∀ e : Nat, e < (evM D0 (rowL (D1 248) i)).1 → 0 ≤ (evM D0 (rowL (D1 248) i)).2.1 e ∧ (evM D0 (rowL (D1 248) i)).2.1 e < D0 210 37 := fun e he => by
          obtain ⟨j, hj, ej⟩ := rowL_mem.mp (hEv.2.2.2.2.1 e he).1
          have := (L6 j (by omega)).1
          rw [← ej]
          omega
        have hsz := hEv.2.2.2.2.2
        rw [rowL_len] at hsz
        have hpick : evPick (D0 239) (D0 240) (D0 241) (D0 243) (fun c => D0 219 (8 * D0 210 10 + c)) (fun c => D0 220 (8 * D0 210 10 + c)) (D0 210 49) (D1 248 i) (evM D0 (rowL (D1 248) i)) = if D0 243 (D1 248 i) ≠ 0 ∨ D1 248 i = D0 210 49 then -1 else efF (D0 239) (D0 240) (D0 241) (fun c => D0 219 (8 * D0 210 10 + c)) (fun c => D0 220 (8 * D0 210 10 + c)) (evM D0 (rowL (D1 248) i)).2.1 (D1 248 i) (evM D0 (rowL (D1 248) i)).1 := rfl
        generalize hE : evM D0 (rowL (D1 248) i) = E at *
        generalize hqq : D1 248 i = q at *
        clear hsn hnd
        have hM1 : D 248 i = q := by rw [M1]; exact hqq
        have joinTo : ∀ (D : Nat → Int → Int) (E' : ES) (e : Nat), FrE D0 D → D 248 = D1 248 → D 249 = D1 249 → D 210 51 = c → D 210 54 = E'.1 → (∀ q : Nat, q < (D0 210 37).toNat → D 252 q = E'.2.2.1 q) → (∀ e : Nat, e < E'.1 → D 250 e = E'.2.1 e ∧ D 251 e = E'.2.2.2 e) → e < E'.1 → E'.1 ≤ 60 → (0 ≤ E'.2.2.2 e ∧ E'.2.2.2 e ≤ 60) → (∀ D u3 u4, FrE D0 D → D 248 = D1 248 → D 249 = D1 249 → D 210 51 = c → D 210 54 = (evJoin q e E').1 → (∀ q_1 : Nat, q_1 < (D0 210 37).toNat → D 252 q_1 = (evJoin q e E').2.2.1 q_1) → (∀ e_1 : Nat, e_1 < (evJoin q e E').1 → D 250 e_1 = (evJoin q e E').2.1 e_1 ∧ D 251 e_1 = (evJoin q e E').2.2.2 e_1) → Nat.beq u3.1 1 = false → V G l (d + 1) iX12_findEvents 128 [rf 210, (0, vwM D0), (0, ((i + 1 : Nat) : Int)), u3, u4] [] (K, D, z) P) → V G l (d + 1) iX12_findEvents 208 [rf 210, (0, vwM D0), (0, (i : Int)), (0, q), (0, (e : Int))] [] (K, D, z) P := by
          intro D E' e F M1 M2 M3 M4 M5 M6 he h60 hs0 fin
          obtain ⟨a1, a2⟩ := M6 e he
          refine s_al0 rfl ?_
          refine s_gf rfl (hk.at rfl rfl) rfl rfl ?_
          try simp only [aUp_app, Nat.reduceEqDiff, Int.reduceEq, eq_self, true_and, false_and, and_false, and_true, if_true, if_false, ↓reduceIte]
          refine s_il3 rfl ?_
          refine s_il4 rfl ?_
          refine s_iast rfl (hk.at rfl rfl) (by omega) ?_
          refine s_al0 rfl ?_
          refine s_gf rfl (hk.at rfl rfl) rfl rfl ?_
          try simp only [aUp_app, Nat.reduceEqDiff, Int.reduceEq, eq_self, true_and, false_and, and_false, and_true, if_true, if_false, ↓reduceIte]
          refine s_il4 rfl ?_
          refine s_dup2 rfl rfl rfl ?_
          refine s_iald rfl (hk.at rfl rfl) (by omega) ?_
          try simp only [aUp_app, Nat.reduceEqDiff, Int.reduceEq, eq_self, true_and, false_and, and_false, and_true, if_true, if_false, ↓reduceIte]
          refine s_ic rfl ?_
          refine s_iadd rfl ⟨by rw [a2]; omega, by rw [a2]; omega⟩ ?_
          refine s_iast rfl (hk.at rfl rfl) (by omega) ?_
          refine s_iinc2 rfl rfl ⟨by omega, by omega⟩ ?_
          refine s_go rfl ?_
          refine fin _ _ _ ⟨fun r h1 h2 => ?_, fun j h1 h2 => ?_⟩ ?_ ?_ ?_ ?_ (fun k hk => ?_) (fun k hk => ?_) rfl
          · rw [aUp_row (by omega), aUp_row (by omega)]; exact F.1 r h1 h2
          · rw [aUp_row (by decide), aUp_row (by decide)]; exact F.2 j h1 h2
          · rw [aUp_row (by decide), aUp_row (by decide)]; exact M1
          · rw [aUp_row (by decide), aUp_row (by decide)]; exact M2
          · rw [aUp_row (by decide), aUp_row (by decide)]; exact M3
          · rw [aUp_row (by decide), aUp_row (by decide)]; exact M4
          · rw [aUp_row (by decide), aUp_same]
            show uF (D 252) q e k = uF E'.2.2.1 q e k
            unfold uF
            rw [M5 k hk]
          · have hk : k < E'.1 := hk
            obtain ⟨b1, b2⟩ := M6 k hk
            refine ⟨?_, ?_⟩
            · rw [aUp_row (by decide), aUp_row (by decide)]; exact b1
            · rw [aUp_same, aUp_row (by decide)]
              show uF (D 251) e (D 251 e + 1) k = uF E'.2.2.2 e (E'.2.2.2 e + 1) k
              unfold uF
              rw [a2, b2]
        have picked : ∀ (x : Int) (u4 : aTV), x = evPick (D0 239) (D0 240) (D0 241) (D0 243) (fun c => D0 219 (8 * D0 210 10 + c)) (fun c => D0 220 (8 * D0 210 10 + c)) (D0 210 49) q E → V G l (d + 1) iX12_findEvents 169 [rf 210, (0, vwM D0), (0, (i : Int)), (0, q), u4] [(0, x)] (K, D, z) P := by
          intro x u4 hx
          rw [← hx] at ih hpl
          refine s_is4 rfl rfl ?_
          refine s_il4 rfl ?_
          refine s_zge rfl ?_ ?_
          · intro h173
            rw [if_neg (by omega)] at ih
            obtain ⟨e, he⟩ : ∃ e : Nat, x = e := ⟨x.toNat, by omega⟩
            subst he
            exact joinTo D E e F M1 M2 M3 M4 M5 M6 (by omega) (by omega) (by have := hsz e (by omega); omega) ih
          · intro h173
            rw [if_pos h173] at ih
            refine s_al0 rfl ?_
            refine s_gi rfl (hk.at rfl rfl) rfl ?_
            rw [M4]
            refine s_is4 rfl rfl ?_
            refine s_al0 rfl ?_
            refine s_gf rfl (hk.at rfl rfl) rfl rfl ?_
            try simp only [aUp_app, Nat.reduceEqDiff, Int.reduceEq, eq_self, true_and, false_and, and_false, and_true, if_true, if_false, ↓reduceIte]
            refine s_il4 rfl ?_
            refine s_il3 rfl ?_
            refine s_iast rfl (hk.at rfl rfl) (by omega) ?_
            refine s_al0 rfl ?_
            refine s_gf rfl (hk.at rfl rfl) rfl rfl ?_
            try simp only [aUp_app, Nat.reduceEqDiff, Int.reduceEq, eq_self, true_and, false_and, and_false, and_true, if_true, if_false, ↓reduceIte]
            refine s_il4 rfl ?_
            refine s_ic rfl ?_
            refine s_iast rfl (hk.at rfl rfl) (by omega) ?_
            refine s_al0 rfl ?_
            refine s_dup rfl (by decide) ?_
            refine s_gi rfl (hk.at rfl rfl) rfl ?_
            try simp only [aUp_app, Nat.reduceEqDiff, Int.reduceEq, eq_self, true_and, false_and, and_false, and_true, if_true, if_false, ↓reduceIte]
            rw [M4]
            refine s_ic rfl ?_
            refine s_iadd rfl ⟨by omega, by omega⟩ ?_
            refine s_pi rfl (hk.at rfl rfl) rfl ?_
            refine joinTo _ (evOpen q E) E.1 ⟨fun r h1 h2 => ?_, fun j h1 h2 => ?_⟩ ?_ ?_ ?_ ?_ (fun k hk => ?_) (fun k hk => ?_) (Nat.lt_succ_self _) (by show E.1 + 1 ≤ 60; omega) ?_ ih
            · rw [aUp_row h1, aUp_row (by omega), aUp_row (by omega)]; exact F.1 r h1 h2
            · rw [aUp_same, uF_ne h2, aUp_row (by decide), aUp_row (by decide)]; exact F.2 j h1 h2
            · rw [aUp_row (by decide), aUp_row (by decide), aUp_row (by decide)]; exact M1
            · rw [aUp_row (by decide), aUp_row (by decide), aUp_row (by decide)]; exact M2
            · rw [aUp_same, uF_ne (by decide), aUp_row (by decide), aUp_row (by decide)]; exact M3
            · rw [aUp_same, uF_at]; show (E.1 : Int) + 1 = ((E.1 + 1 : Nat) : Int); omega
            · rw [aUp_row (by decide), aUp_row (by decide), aUp_row (by decide)]; exact M5 k hk
            · have hk : k < E.1 + 1 := hk
              refine ⟨?_, ?_⟩
              · rw [aUp_row (by decide), aUp_row (by decide), aUp_same]
                show uF (D 250) E.1 q k = uF E.2.1 E.1 q k
                unfold uF
                split
                · rfl
                · rename_i hne; exact (M6 k (by omega)).1
              · rw [aUp_row (by decide), aUp_same, aUp_row (by decide)]
                show uF (D 251) E.1 0 k = uF E.2.2.2 E.1 0 k
                unfold uF
                split
                · rfl
                · rename_i hne; exact (M6 k (by omega)).2
            · show 0 ≤ uF E.2.2.2 E.1 0 E.1 ∧ uF E.2.2.2 E.1 0 E.1 ≤ 60
              rw [uF_at]; omega
        refine s_il2 rfl ?_
        refine s_al0 rfl ?_
        refine s_gi rfl (hk.at rfl rfl) rfl ?_
        refine s_cge rfl ?_ ?_
        · intro h133
          omega
        · intro h133
          refine s_al0 rfl ?_
          refine s_gf rfl (hk.at rfl rfl) rfl rfl ?_
          refine s_il2 rfl ?_
          refine s_iald rfl (hk.at rfl rfl) (by omega) ?_
          rw [hM1]
          refine s_is3 rfl rfl ?_
          refine s_al0 rfl ?_
          refine s_gf rfl (hk.at rfl rfl) rfl rfl ?_
          refine s_il3 rfl ?_
          refine s_bald rfl (hk.at rfl rfl) (by omega) ?_
          rw [g243]
          refine s_zne rfl ?_ ?_
          · intro h149
            refine s_ic rfl ?_
            refine s_go rfl ?_
            first
            | exact picked _ _ (by rw [hpick, if_pos (by omega)])
            | (refine picked _ _ ?_
               rw [hpick, if_neg (by omega), show ((E.1 : Nat) : Int).toNat = E.1 from rfl]
               exact efF_congr ⟨rfl, rfl, rfl⟩ ⟨rfl, rfl⟩ (fun k hk => ⟨(M6 k hk).1, rfl, rfl, rfl⟩))
          · intro h149
            refine s_il3 rfl ?_
            refine s_al0 rfl ?_
            refine s_gi rfl (hk.at rfl rfl) rfl ?_
            rw [j49]
            refine s_cne rfl ?_ ?_
            · intro h157
              refine s_al0 rfl ?_
              refine s_il3 rfl ?_
              refine s_callO rfl rfl (Or.inl rfl) rfl rfl (hk.at rfl rfl) (u_eventFor hk ⟨by rw [j37, j45, j10]; exact ⟨b1, b2, b3, b4, b5, b6⟩, by rw [j37, g238, g239, g240, g241, g242, g243]; exact hbl⟩ (by rw [j37]; omega) (by rw [M4]; omega) (fun e he => ?_) ?_)
              · have he : e < E.1 := by rw [M4] at he; omega
                rw [(M6 e he).1, j37]
                exact hfi e he
              rw [g239, g240, g241, g219, g220, j10, M4]
              first
              | exact picked _ _ (by rw [hpick, if_pos (by omega)])
              | (refine picked _ _ ?_
                 rw [hpick, if_neg (by omega), show ((E.1 : Nat) : Int).toNat = E.1 from rfl]
                 exact efF_congr ⟨rfl, rfl, rfl⟩ ⟨rfl, rfl⟩ (fun k hk => ⟨(M6 k hk).1, rfl, rfl, rfl⟩))
            · intro h157
              refine s_ic rfl ?_
              refine s_go rfl ?_
              first
              | exact picked _ _ (by rw [hpick, if_pos (by omega)])
              | (refine picked _ _ ?_
                 rw [hpick, if_neg (by omega), show ((E.1 : Nat) : Int).toNat = E.1 from rfl]
                 exact efF_congr ⟨rfl, rfl, rfl⟩ ⟨rfl, rfl⟩ (fun k hk => ⟨(M6 k hk).1, rfl, rfl, rfl⟩))
    exact loop c 0 D1 u3 u4 (by omega) F rfl rfl L2 L3 (fun q hq => (L1 q hq).2) (fun e he => absurd he (Nat.not_lt_zero e)) t3
  have loop1 : ∀ (n i c : Nat) (D : Nat → Int → Int) (u3 u4 : aTV), i + n = (D0 210 37).toNat → LnI D0 i c D → Nat.beq u3.1 1 = false → V G l (d + 1) iX12_findEvents 17 [rf 210, (0, vwM D0), (0, (i : Int)), u3, u4] [] (K, D, z) P := by
    intro n
    induction n with
    | zero =>
      intro i c D u3 u4 h1 hL t3
      have hi : i = (D0 210 37).toNat := by omega
      have j37 := hL.1.2 37 (by decide) (by decide)
      refine s_il2 rfl ?_
      refine s_al0 rfl ?_
      refine s_gi rfl (hk.at rfl rfl) rfl ?_
      rw [j37]
      refine s_cge rfl ?_ ?_
      · intro h22
        refine s_ic rfl ?_
        refine s_is2 rfl rfl ?_
        exact phase2 D c _ _ (hi ▸ hL) t3
      · intro h22
        omega
    | succ n ih =>
      intro i c D u3 u4 h1 hL t3
      obtain ⟨F, L1, L2, L3, L4, L5, L6, L7⟩ := id hL
      obtain ⟨f1, f2⟩ := id F
      have g216 : D 216 = D0 216 := f1 216 (by decide) (Or.inl (by decide))
      have g219 : D 219 = D0 219 := f1 219 (by decide) (Or.inl (by decide))
      have g220 : D 220 = D0 220 := f1 220 (by decide) (Or.inl (by decide))
      have g238 : D 238 = D0 238 := f1 238 (by decide) (Or.inl (by decide))
      have g239 : D 239 = D0 239 := f1 239 (by decide) (Or.inl (by decide))
      have g240 : D 240 = D0 240 := f1 240 (by decide) (Or.inl (by decide))
      have g241 : D 241 = D0 241 := f1 241 (by decide) (Or.inl (by decide))
      have g242 : D 242 = D0 242 := f1 242 (by decide) (Or.inl (by decide))
      have g243 : D 243 = D0 243 := f1 243 (by decide) (Or.inl (by decide))
      have g244 : D 244 = D0 244 := f1 244 (by decide) (Or.inl (by decide))
      have g245 : D 245 = D0 245 := f1 245 (by decide) (Or.inl (by decide))
      have g246 : D 246 = D0 246 := f1 246 (by decide) (Or.inl (by decide))
      have g247 : D 247 = D0 247 := f1 247 (by decide) (Or.inl (by decide))
      have j10 : D 210 10 = D0 210 10 := f2 10 (by decide) (by decide)
      have j35 : D 210 35 = D0 210 35 := f2 35 (by decide) (by decide)
      have j36 : D 210 36 = D0 210 36 := f2 36 (by decide) (by decide)
      have j37 : D 210 37 = D0 210 37 := f2 37 (by decide) (by decide)
      have j45 : D 210 45 = D0 210 45 := f2 45 (by decide) (by decide)
      have j49 : D 210 49 = D0 210 49 := f2 49 (by decide) (by decide)
      have j50 : D 210 50 = D0 210 50 := f2 50 (by decide) (by decide)
      obtain ⟨p1, p2, p3, p4, p5, p6⟩ := hbl i (by omega) (by omega)
      have hkap : ∀ q : Int, 0 ≤ q → q < i → (D0 239 i < D0 239 q → D0 239 i * 60 + i < D0 239 q * 60 + q) ∧ (D0 239 q ≤ D0 239 i → D0 239 q * 60 + q < D0 239 i * 60 + i) := fun q h1 h2 => ⟨fun _ => by omega, fun _ => by omega⟩
      have next : ∀ (D : Nat → Int → Int) (c : Nat) (u3 u4 : aTV), LnI D0 (i + 1) c D → Nat.beq u3.1 1 = false → V G l (d + 1) iX12_findEvents 120 [rf 210, (0, vwM D0), (0, (i : Int)), u3, u4] [] (K, D, z) P := by
        intro D c u3 u4 hL t3
        refine s_iinc2 rfl rfl ⟨by omega, by omega⟩ ?_
        refine s_go rfl ?_
        exact ih (i + 1) c D u3 u4 (by omega) hL t3
      have mid : ∀ (D2 : Nat → Int → Int), FrE D0 D2 → D2 249 i = amM D0 i → D2 252 i = -1 → (∀ q : Nat, q < i → D2 249 q = amM D0 q ∧ D2 252 q = -1) → D2 210 51 = c → D2 210 54 = 0 → D2 248 = D 248 → V G l (d + 1) iX12_findEvents 44 [rf 210, (0, vwM D0), (0, (i : Int)), u3, u4] [] (K, D2, z) P := by
        intro D2 F2 N1 N2 N3 N4 N5 N6
        have f1 := F2.1
        have f2 := F2.2
        clear g216 g219 g220 g238 g239 g240 g241 g242 g243 g244 g245 g246 g247 j10 j35 j36 j37 j45 j49 j50
        have g216 : D2 216 = D0 216 := f1 216 (by decide) (Or.inl (by decide))
        have g219 : D2 219 = D0 219 := f1 219 (by decide) (Or.inl (by decide))
        have g220 : D2 220 = D0 220 := f1 220 (by decide) (Or.inl (by decide))
        have g238 : D2 238 = D0 238 := f1 238 (by decide) (Or.inl (by decide))
        have g239 : D2 239 = D0 239 := f1 239 (by decide) (Or.inl (by decide))
        have g240 : D2 240 = D0 240 := f1 240 (by decide) (Or.inl (by decide))
        have g241 : D2 241 = D0 241 := f1 241 (by decide) (Or.inl (by decide))
        have g242 : D2 242 = D0 242 := f1 242 (by decide) (Or.inl (by decide))
        have g243 : D2 243 = D0 243 := f1 243 (by decide) (Or.inl (by decide))
        have g244 : D2 244 = D0 244 := f1 244 (by decide) (Or.inl (by decide))
        have g245 : D2 245 = D0 245 := f1 245 (by decide) (Or.inl (by decide))
        have g246 : D2 246 = D0 246 := f1 246 (by decide) (Or.inl (by decide))
        have g247 : D2 247 = D0 247 := f1 247 (by decide) (Or.inl (by decide))
        have j10 : D2 210 10 = D0 210 10 := f2 10 (by decide) (by decide)
        have j35 : D2 210 35 = D0 210 35 := f2 35 (by decide) (by decide)
        have j36 : D2 210 36 = D0 210 36 := f2 36 (by decide) (by decide)
        have j37 : D2 210 37 = D0 210 37 := f2 37 (by decide) (by decide)
        have j45 : D2 210 45 = D0 210 45 := f2 45 (by decide) (by decide)
        have j49 : D2 210 49 = D0 210 49 := f2 49 (by decide) (by decide)
        have j50 : D2 210 50 = D0 210 50 := f2 50 (by decide) (by decide)
        have hcq : (0 < D2 249 i ∧ D2 238 i < D2 216 (D2 210 10) ∧ D2 244 (D2 242 i) = 0 ∧ bAnd (bShr (D2 210 50) (D2 242 i)) 1 = 1) ↔ cntM D0 i := by
          unfold cntM
          rw [N1, g238, g216, j10, g244, g242, j50]
        have no : ¬ cntM D0 i → V G l (d + 1) iX12_findEvents 49 [rf 210, (0, vwM D0), (0, (i : Int)), u3, u4] [(0, 0)] (K, D2, z) P := by
          intro hn
          refine s_zeq rfl ?_ ?_
          · intro h49
            refine next D2 c u3 u4 ⟨F2, fun q hq => ?_, N4, N5, by omega, ?_, ?_, fun q hq hc => ?_⟩ t3
            · rcases (by omega : q < i ∨ q = i) with h | h
              · exact N3 q h
              · subst h; exact ⟨N1, N2⟩
            · rw [N6]; exact L5
            · rw [N6]; intro a ha; have := L6 a ha; exact ⟨⟨this.1.1, by omega⟩, this.2⟩
            · rw [N6]
              rcases (by omega : q < i ∨ q = i) with h | h
              · exact L7 q h hc
              · subst h; exact absurd hc hn
          · intro h49
            exact absurd rfl h49
        have yes : cntM D0 i → V G l (d + 1) iX12_findEvents 49 [rf 210, (0, vwM D0), (0, (i : Int)), u3, u4] [(0, 1)] (K, D2, z) P := by
          intro hy
          have inner : ∀ (k : Nat) (D3 : Nat → Int → Int), k ≤ c → (∀ r, r ≠ 248 → D3 r = D2 r) → (∀ a : Nat, a < k → D3 248 a = D 248 a) → (∀ a : Nat, k < a → a ≤ c → D3 248 a = D 248 ((a - 1 : Nat) : Int) ∧ D0 239 i < D0 239 (D 248 ((a - 1 : Nat) : Int))) → V G l (d + 1) iX12_findEvents 57 [rf 210, (0, vwM D0), (0, (i : Int)), (0, (k : Int)), u4] [] (K, D3, z) P := by
            intro k
            have done : ∀ (k : Nat) (D3 : Nat → Int → Int), k ≤ c → (∀ r, r ≠ 248 → D3 r = D2 r) → (∀ a : Nat, a < k → D3 248 a = D 248 a) → (∀ a : Nat, k < a → a ≤ c → D3 248 a = D 248 ((a - 1 : Nat) : Int) ∧ D0 239 i < D0 239 (D 248 ((a - 1 : Nat) : Int))) → (k = 0 ∨ D0 239 (D 248 ((k - 1 : Nat) : Int)) ≤ D0 239 i) → V G l (d + 1) iX12_findEvents 103 [rf 210, (0, vwM D0), (0, (i : Int)), (0, (k : Int)), u4] [] (K, D3, z) P := by
              intro k D3 hkc E1 E2 E3 hend
              have w210 : D3 210 = D2 210 := E1 210 (by decide)
              have lnNew : ∀ a : Nat, a ≤ c → uF (D3 248) k i a = if a < k then D 248 a else if a = k then (i : Int) else D 248 ((a - 1 : Nat) : Int) := fun a ha => by
                unfold uF
                rcases (by omega : a < k ∨ a = k ∨ k < a) with h | h | h
                · rw [if_neg (by omega), if_pos h]; exact E2 a h
                · subst h; rw [if_pos rfl, if_neg (by omega), if_pos rfl]
                · rw [if_neg (by omega), if_neg (by omega), if_neg (by omega)]; exact (E3 a h ha).1
              have below : ∀ a : Nat, a < k → D0 239 (D 248 a) * 60 + D 248 a < D0 239 i * 60 + i := fun a ha => by
                have h9 := (L6 a (by omega)).1
                have h8 := (L6 (k - 1) (by omega)).1
                have h7 := (hkap _ h8.1 h8.2).2 (by omega)
                rcases (by omega : a < k - 1 ∨ a = k - 1) with h | h
                · have := L5 a (k - 1) h (by omega)
                  omega
                · rw [h]; exact h7
              have above : ∀ a : Nat, k < a → a ≤ c → D0 239 i * 60 + i < D0 239 (D 248 ((a - 1 : Nat) : Int)) * 60 + D 248 ((a - 1 : Nat) : Int) := fun a h1 h2 => by
                have h8 := (L6 (a - 1) (by omega)).1
                exact (hkap _ h8.1 h8.2).1 (E3 a h1 h2).2
              refine s_al0 rfl ?_
              refine s_gf rfl (hk.at rfl rfl) rfl rfl ?_
              try simp only [aUp_app, Nat.reduceEqDiff, Int.reduceEq, eq_self, true_and, false_and, and_false, and_true, if_true, if_false, ↓reduceIte]
              refine s_il3 rfl ?_
              refine s_il2 rfl ?_
              refine s_iast rfl (hk.at rfl rfl) (by omega) ?_
              refine s_al0 rfl ?_
              refine s_dup rfl (by decide) ?_
              refine s_gi rfl (hk.at rfl rfl) rfl ?_
              try simp only [aUp_app, Nat.reduceEqDiff, Int.reduceEq, eq_self, true_and, false_and, and_false, and_true, if_true, if_false, ↓reduceIte]
              rw [w210, N4]
              refine s_ic rfl ?_
              refine s_iadd rfl ⟨by omega, by omega⟩ ?_
              refine s_pi rfl (hk.at rfl rfl) rfl ?_
              refine next _ (c + 1) _ u4 ⟨⟨fun r h1 h2 => ?_, fun j h1 h2 => ?_⟩, fun q hq => ?_, ?_, ?_, by omega, fun a b h1 h2 => ?_, fun a ha => ?_, fun q hq hc => ?_⟩ rfl
              · rw [aUp_row h1, aUp_row (by omega), E1 r (by omega)]; exact f1 r h1 h2
              · rw [aUp_same, uF_ne h1, aUp_row (by decide), w210]; exact f2 j h1 h2
              · rw [aUp_row (by decide), aUp_row (by decide), aUp_row (by decide), aUp_row (by decide), E1 249 (by decide), E1 252 (by decide)]
                rcases (by omega : q < i ∨ q = i) with h | h
                · exact N3 q h
                · subst h; exact ⟨N1, N2⟩
              · rw [aUp_same, uF_at]; omega
              · rw [aUp_same, uF_ne (by decide), aUp_row (by decide), w210]; exact N5
              · rw [aUp_row (by decide), aUp_same, lnNew a (by omega), lnNew b (by omega)]
                rcases (by omega : b < k ∨ b = k ∨ k < b) with h | h | h
                · rw [if_pos (by omega), if_pos h]; exact L5 a b h1 (by omega)
                · subst h
                  rw [if_pos h1, if_neg (by omega), if_pos rfl]; exact below a h1
                · rw [if_neg (show ¬ b < k by omega), if_neg (show ¬ b = k by omega)]
                  rcases (by omega : a < k ∨ a = k ∨ k < a) with g | g | g
                  · rw [if_pos g]
                    have := below a g
                    have := above b h (by omega)
                    omega
                  · subst g
                    rw [if_neg (by omega), if_pos rfl]; exact above b h (by omega)
                  · rw [if_neg (by omega), if_neg (by omega)]; exact L5 (a - 1) (b - 1) (by omega) (by omega)
              · rw [aUp_row (by decide), aUp_same, lnNew a (by omega)]
                rcases (by omega : a < k ∨ a = k ∨ k < a) with g | g | g
                · rw [if_pos g]; have := L6 a (by omega); exact ⟨⟨this.1.1, by omega⟩, this.2⟩
                · rw [if_neg (by omega), if_pos g]; exact ⟨⟨by omega, by omega⟩, hy⟩
                · rw [if_neg (by omega), if_neg (by omega)]; have := L6 (a - 1) (by omega); exact ⟨⟨this.1.1, by omega⟩, this.2⟩
              · rw [aUp_row (by decide), aUp_same]
                rcases (by omega : q < i ∨ q = i) with h | h
                · obtain ⟨a, h1, h2⟩ := L7 q h hc
                  rcases (by omega : a < k ∨ k ≤ a) with g | g
                  · exact ⟨a, by omega, by rw [lnNew a (by omega), if_pos g]; exact h2⟩
                  · exact ⟨a + 1, by omega, by rw [lnNew (a + 1) (by omega), if_neg (by omega), if_neg (by omega), Nat.add_sub_cancel]; exact h2⟩
                · subst h
                  exact ⟨k, by omega, by rw [lnNew k (by omega), if_neg (by omega), if_pos rfl]⟩
            induction k with
            | zero =>
              intro D3 hkc E1 E2 E3
              refine s_il3 rfl ?_
              refine s_zle rfl ?_ ?_
              · intro h58
                exact done 0 D3 hkc E1 E2 E3 (Or.inl rfl)
              · intro h58
                omega
            | succ k ihk =>
              intro D3 hkc E1 E2 E3
              have ek : ((k + 1 : Nat) : Int) - 1 = k := by omega
              have e239 : D3 239 = D0 239 := (E1 239 (by decide)).trans g239
              have e1 : D3 248 k = D 248 k := E2 k (by omega)
              have hb8 := (L6 k (by omega)).1
              refine s_il3 rfl ?_
              refine s_zle rfl ?_ ?_
              · intro h58
                omega
              · intro h58
                refine s_al0 rfl ?_
                refine s_gf rfl (hk.at rfl rfl) rfl rfl ?_
                refine s_al0 rfl ?_
                refine s_gf rfl (hk.at rfl rfl) rfl rfl ?_
                refine s_il3 rfl ?_
                refine s_ic rfl ?_
                refine s_isub rfl ⟨by omega, by omega⟩ ?_
                rw [ek]
                refine s_iald rfl (hk.at rfl rfl) (by omega) ?_
                rw [e1]
                refine s_iald rfl (hk.at rfl rfl) (by omega) ?_
                rw [e239]
                refine s_al0 rfl ?_
                refine s_gf rfl (hk.at rfl rfl) rfl rfl ?_
                refine s_il2 rfl ?_
                refine s_iald rfl (hk.at rfl rfl) (by omega) ?_
                rw [e239]
                refine s_cle rfl ?_ ?_
                · intro h80
                  exact done (k + 1) D3 hkc E1 E2 E3 (Or.inr (by rw [Nat.add_sub_cancel]; exact h80))
                · intro h80
                  refine s_al0 rfl ?_
                  refine s_gf rfl (hk.at rfl rfl) rfl rfl ?_
                  refine s_il3 rfl ?_
                  refine s_al0 rfl ?_
                  refine s_gf rfl (hk.at rfl rfl) rfl rfl ?_
                  refine s_il3 rfl ?_
                  refine s_ic rfl ?_
                  refine s_isub rfl ⟨by omega, by omega⟩ ?_
                  rw [ek]
                  refine s_iald rfl (hk.at rfl rfl) (by omega) ?_
                  rw [e1]
                  refine s_iast rfl (hk.at rfl rfl) (by omega) ?_
                  refine s_iinc3 rfl rfl ⟨by omega, by omega⟩ ?_
                  rw [show ((k + 1 : Nat) : Int) + -1 = k by omega]
                  refine s_go rfl ?_
                  refine ihk _ (by omega) (fun r hr => ?_) (fun a ha => ?_) (fun a h1 h2 => ?_)
                  · rw [aUp_row hr]; exact E1 r hr
                  · rw [aUp_same, uF_ne (by omega)]; exact E2 a (by omega)
                  · rw [aUp_same]
                    unfold uF
                    rcases (by omega : a = k + 1 ∨ k + 1 < a) with h | h
                    · subst h
                      rw [if_pos rfl, Nat.add_sub_cancel]
                      exact ⟨rfl, h80⟩
                    · rw [if_neg (by omega)]; exact E3 a h h2
          refine s_zeq rfl ?_ ?_
          · intro h49
            exact absurd h49 (by decide)
          · intro h49
            refine s_al0 rfl ?_
            refine s_gi rfl (hk.at rfl rfl) rfl ?_
            rw [N4]
            refine s_is3 rfl rfl ?_
            exact inner c D2 (Nat.le_refl _) (fun _ _ => rfl) (fun a _ => by rw [N6]) (fun a h1 h2 => absurd h2 (by omega))
        refine s_al0 rfl ?_
        refine s_il2 rfl ?_
        refine s_callO rfl rfl (Or.inl rfl) rfl rfl (hk.at rfl rfl) (u_isCounted hk (by omega) (by rw [g242]; exact p5) (by rw [j10]; exact ⟨b5, b6⟩) (fun hc => yes (hcq.mp hc)) (fun hc => no (fun q => hc (hcq.mpr q))))
      refine s_il2 rfl ?_
      refine s_al0 rfl ?_
      refine s_gi rfl (hk.at rfl rfl) rfl ?_
      rw [j37]
      refine s_cge rfl ?_ ?_
      · intro h22
        omega
      · intro h22
        refine s_al0 rfl ?_
        refine s_gf rfl (hk.at rfl rfl) rfl rfl ?_
        try simp only [aUp_app, Nat.reduceEqDiff, Int.reduceEq, eq_self, true_and, false_and, and_false, and_true, if_true, if_false, ↓reduceIte]
        refine s_il2 rfl ?_
        refine s_al0 rfl ?_
        refine s_il2 rfl ?_
        refine s_il1 rfl ?_
        refine s_callO rfl rfl (Or.inl rfl) rfl rfl (hk.at rfl rfl) (u_amountOn hk (by rw [j45]; exact ⟨b3, b4⟩) ?_)
        rw [g245, g246, g247, j45]
        refine s_iast rfl (hk.at rfl rfl) (by omega) ?_
        refine s_al0 rfl ?_
        refine s_gf rfl (hk.at rfl rfl) rfl rfl ?_
        try simp only [aUp_app, Nat.reduceEqDiff, Int.reduceEq, eq_self, true_and, false_and, and_false, and_true, if_true, if_false, ↓reduceIte]
        refine s_il2 rfl ?_
        refine s_ic rfl ?_
        refine s_iast rfl (hk.at rfl rfl) (by omega) ?_
        refine mid _ ⟨fun r h1 h2 => ?_, fun j h1 h2 => ?_⟩ ?_ ?_ (fun q hq => ?_) ?_ ?_ ?_
        · rw [aUp_row (by omega), aUp_row (by omega)]; exact f1 r h1 h2
        · rw [aUp_row (by decide), aUp_row (by decide)]; exact f2 j h1 h2
        · rw [aUp_row (by decide), aUp_same, uF_at]
        · rw [aUp_same, uF_at]
        · rw [aUp_row (by decide), aUp_same, aUp_same, aUp_row (by decide), uF_ne (by omega), uF_ne (by omega)]; exact L1 q hq
        · rw [aUp_row (by decide), aUp_row (by decide)]; exact L2
        · rw [aUp_row (by decide), aUp_row (by decide)]; exact L3
        · rw [aUp_row (by decide), aUp_row (by decide)]
  refine VM_go (tg2 rfl) (Nat.le_of_ble_eq_true rfl) ?_
  refine s_al0 rfl ?_
  refine s_callO rfl rfl (Or.inl rfl) rfl rfl (hk.at rfl rfl) (u_viewDay hk ?_)
  refine s_is1 rfl rfl ?_
  refine s_al0 rfl ?_
  refine s_ic rfl ?_
  refine s_pi rfl (hk.at rfl rfl) rfl ?_
  refine s_al0 rfl ?_
  refine s_ic rfl ?_
  refine s_pi rfl (hk.at rfl rfl) rfl ?_
  refine s_ic rfl ?_
  refine s_is2 rfl rfl ?_
  refine loop1 (D0 210 37).toNat 0 0 _ _ _ (by omega) ⟨⟨fun r h1 h2 => ?_, fun j h1 h2 => ?_⟩, fun q hq => absurd hq (Nat.not_lt_zero q), ?_, ?_, Nat.le_refl 0, fun a b h1 h2 => absurd h2 (Nat.not_lt_zero b), fun a ha => absurd ha (Nat.not_lt_zero a), fun q hq => absurd hq (Nat.not_lt_zero q)⟩ rfl
  · rw [aUp_row h1, aUp_row h1]
  · rw [aUp_same, uF_ne h2, aUp_same, uF_ne h1]
  · rw [aUp_same, uF_ne (by decide), aUp_same, uF_at]; rfl
  · rw [aUp_same, uF_at]
end
