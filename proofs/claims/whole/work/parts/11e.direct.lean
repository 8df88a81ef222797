/-! ===== an event's direct amounts: the reference ===== -/
def hitF (f : Int → Int) : Nat → Int := sumF (fun h : Nat => if 0 < f h then 1 else 0)
abbrev dM (D : Nat → Int → Int) (e : Nat) : Int → Int := fun h => dF (D 238) (D 249) (D 210 37).toNat (D 252) e h
def FdD (e : Nat) (D D' : Nat → Int → Int) : Prop := (∀ r, r ≠ 236 → r ≠ 255 → r ≠ 256 → D' r = D r) ∧ (∀ h : Int, 0 ≤ h → h < 12 → D' 255 (12 * e + h) = dM D e h ∧ D' 256 (12 * e + h) = dM D e h) ∧ (∀ j : Int, ¬ (12 * (e : Int) ≤ j ∧ j < 12 * e + 12) → D' 255 j = D 255 j ∧ D' 256 j = D 256 j) ∧ D' 236 0 = D 241 (D 250 e) ∧ D' 236 1 = D 239 (D 250 e) / 24 ∧ D' 236 2 = D 251 e ∧ D' 236 4 = hitF (dM D e) 12
theorem hitF_in {f : Int → Int} {n : Nat} : 0 ≤ hitF f n ∧ hitF f n ≤ n := by
  have h1 := sumF_nonneg (f := fun h : Nat => if 0 < f h then 1 else 0) (n := n) (fun h _ => by split <;> omega)
  have h2 := sumF_le (f := fun h : Nat => if 0 < f h then 1 else 0) (n := n) (c := 1) (fun h _ => by split <;> omega)
  unfold hitF
  omega
section
variable {G : aCX} {l : Launch} {d : Nat} {K : Nat → aKd} {D : Nat → Int → Int} {z : Nat × Nat} {P : Int → aSt → Prop}
theorem u_isCommuted {t : Int} (hk : Kn K) (ht : 0 ≤ t ∧ t < 24) (kk : P (if 0 ≤ D 265 t ∧ D 265 t ≤ vwM D then 1 else 0) (K, D, z)) : VM G l (d + 1) iX12_isCommuted [rf 210, (0, t)] (K, D, z) P := by
  refine VM_go (tg2 rfl) (Nat.le_of_ble_eq_true rfl) ?_
  refine s_al0 rfl ?_
  refine s_gf rfl (hk.at rfl rfl) rfl rfl ?_
  refine s_il1 rfl ?_
  refine s_iald rfl (hk.at rfl rfl) (by omega) ?_
  refine s_zlt rfl ?_ ?_
  · intro h6
    refine s_ic rfl ?_
    refine s_retz rfl rfl (by omega) ?_
    first | (rw [if_pos (by omega)] at kk; exact kk) | (rw [if_neg (by omega)] at kk; exact kk)
  · intro h6
    refine s_al0 rfl ?_
    refine s_gf rfl (hk.at rfl rfl) rfl rfl ?_
    refine s_il1 rfl ?_
    refine s_iald rfl (hk.at rfl rfl) (by omega) ?_
    refine s_al0 rfl ?_
    refine s_callO rfl rfl (Or.inl rfl) rfl rfl (hk.at rfl rfl) (u_viewDay hk ?_)
    show V G l (d + 1) iX12_isCommuted 19 [rf 210, (0, t)] [(0, vwM D), (0, D 265 t)] (K, D, z) P
    generalize vwM D = vw at kk ⊢
    refine s_cgt rfl ?_ ?_
    · intro h19
      refine s_ic rfl ?_
      refine s_retz rfl rfl (by omega) ?_
      first | (rw [if_pos (by omega)] at kk; exact kk) | (rw [if_neg (by omega)] at kk; exact kk)
    · intro h19
      refine s_ic rfl ?_
      refine s_go rfl ?_
      refine s_retz rfl rfl (by omega) ?_
      first | (rw [if_pos (by omega)] at kk; exact kk) | (rw [if_neg (by omega)] at kk; exact kk)
theorem u_findDirect {e : Nat} (hk : Kn K) (he : e < 60) (hn : 0 ≤ D 210 37 ∧ D 210 37 ≤ 60) (hh : ∀ q : Int, 0 ≤ q → q < D 210 37 → (0 ≤ D 238 q ∧ D 238 q < 12) ∧ (0 ≤ D 239 q ∧ D 239 q < 240000) ∧ (D 252 q = e → 0 ≤ D 249 q ∧ D 249 q ≤ 100000)) (hf : 0 ≤ D 250 e ∧ D 250 e < D 210 37) (kk : ∀ D', FdD e D D' → P 0 (K, D', z)) : VM G l d iX12_findDirect [rf 210, (0, (e : Int))] (K, D, z) P := by
  have sin : ∀ (h : Int) (n : Nat), (n : Int) ≤ D 210 37 → 0 ≤ sumF (fun k : Nat => if D 252 k = e ∧ D 238 k = h then D 249 k else 0) n ∧ sumF (fun k : Nat => if D 252 k = e ∧ D 238 k = h then D 249 k else 0) n ≤ 60 * 100000 := fun h n hq => by
    have h1 := sumF_nonneg (f := fun k : Nat => if D 252 k = e ∧ D 238 k = h then D 249 k else 0) (n := n) (fun k hk => by
      have := (hh k (by omega) (by omega)).2.2
      split
      · rename_i q; have := this q.1; omega
      · omega)
    have h2 := sumF_le (f := fun k : Nat => if D 252 k = e ∧ D 238 k = h then D 249 k else 0) (n := n) (c := 100000) (fun k hk => by
      have := (hh k (by omega) (by omega)).2.2
      split
      · rename_i q; have := this q.1; omega
      · omega)
    omega
  have fin : ∀ (D1 : Nat → Int → Int) (u : aTV), (∀ r, r ≠ 255 → r ≠ 256 → D1 r = D r) → (∀ h : Int, 0 ≤ h → h < 12 → D1 255 (12 * e + h) = dM D e h ∧ D1 256 (12 * e + h) = dM D e h) → (∀ j : Int, ¬ (12 * (e : Int) ≤ j ∧ j < 12 * e + 12) → D1 255 j = D 255 j ∧ D1 256 j = D 256 j) → V G l d iX12_findDirect 140 [rf 210, (0, (e : Int)), (0, hitF (dM D e) 12), u] [] (K, D1, z) P := by
    intro D1 u g1 g2 g3
    have r50 : D1 250 = D 250 := g1 _ (by omega) (by omega)
    have r41 : D1 241 = D 241 := g1 _ (by omega) (by omega)
    have v50 : ∀ i v, aUp D1 236 i v 250 = D 250 := fun i v => by rw [aUp_row (by omega), r50]
    have v39 : ∀ i v, aUp D1 236 i v 239 = D 239 := fun i v => by rw [aUp_row (by omega), g1 _ (by omega) (by omega)]
    have v51 : ∀ i v j x, aUp (aUp D1 236 i v) 236 j x 251 = D 251 := fun i v j x => by rw [aUp_row (by omega), aUp_row (by omega), g1 _ (by omega) (by omega)]
    have h39 := (hh (D 250 e) hf.1 hf.2).2.1
    have e24 : (D 239 (D 250 e)).tdiv 24 = D 239 (D 250 e) / 24 := Int.tdiv_eq_ediv_of_nonneg h39.1
    refine s_al0 rfl ?_
    refine s_gf rfl (hk.at rfl rfl) rfl rfl ?_
    refine s_ic rfl ?_
    refine s_al0 rfl ?_
    refine s_gf rfl (hk.at rfl rfl) rfl rfl ?_
    refine s_al0 rfl ?_
    refine s_gf rfl (hk.at rfl rfl) rfl rfl ?_
    refine s_il1 rfl ?_
    refine s_iald rfl (hk.at rfl rfl) (by omega) ?_
    rw [r50]
    refine s_iald rfl (hk.at rfl rfl) (by omega) ?_
    rw [r41]
    refine s_iast rfl (hk.at rfl rfl) ⟨by decide, by decide⟩ ?_
    refine s_al0 rfl ?_
    refine s_gf rfl (hk.at rfl rfl) rfl rfl ?_
    refine s_ic rfl ?_
    refine s_al0 rfl ?_
    refine s_gf rfl (hk.at rfl rfl) rfl rfl ?_
    refine s_al0 rfl ?_
    refine s_gf rfl (hk.at rfl rfl) rfl rfl ?_
    refine s_il1 rfl ?_
    refine s_iald rfl (hk.at rfl rfl) (by omega) ?_
    rw [v50]
    refine s_iald rfl (hk.at rfl rfl) (by omega) ?_
    rw [v39]
    refine s_ic rfl ?_
    refine s_idiv rfl (by decide) (by rw [e24]; exact ⟨by omega, by omega⟩) ?_
    rw [e24]
    refine s_iast rfl (hk.at rfl rfl) ⟨by decide, by decide⟩ ?_
    refine s_al0 rfl ?_
    refine s_gf rfl (hk.at rfl rfl) rfl rfl ?_
    refine s_ic rfl ?_
    refine s_al0 rfl ?_
    refine s_gf rfl (hk.at rfl rfl) rfl rfl ?_
    refine s_il1 rfl ?_
    refine s_iald rfl (hk.at rfl rfl) (by omega) ?_
    rw [v51]
    refine s_iast rfl (hk.at rfl rfl) ⟨by decide, by decide⟩ ?_
    refine s_al0 rfl ?_
    refine s_gf rfl (hk.at rfl rfl) rfl rfl ?_
    refine s_ic rfl ?_
    refine s_il2 rfl ?_
    refine s_iast rfl (hk.at rfl rfl) ⟨by decide, by decide⟩ ?_
    refine s_retv rfl rfl ?_
    refine kk _ ⟨fun r r1 r2 r3 => by rw [aUp_row r1, aUp_row r1, aUp_row r1, aUp_row r1]; exact g1 r r2 r3, fun h q1 q2 => ?_, fun j hj => ?_, ?_, ?_, ?_, ?_⟩
    · rw [aUp_row (by omega), aUp_row (by omega), aUp_row (by omega), aUp_row (by omega), aUp_row (by omega), aUp_row (by omega), aUp_row (by omega), aUp_row (by omega)]; exact g2 h q1 q2
    · rw [aUp_row (by omega), aUp_row (by omega), aUp_row (by omega), aUp_row (by omega), aUp_row (by omega), aUp_row (by omega), aUp_row (by omega), aUp_row (by omega)]; exact g3 j hj
    · rw [aUp_ne (by decide), aUp_ne (by decide), aUp_ne (by decide), aUp_at]
    · rw [aUp_ne (by decide), aUp_ne (by decide), aUp_at]
    · rw [aUp_ne (by decide), aUp_at]
    · rw [aUp_at]
  have loop3 : ∀ (m n : Nat) (D1 : Nat → Int → Int), n + m = 12 → (∀ r, r ≠ 255 → r ≠ 256 → D1 r = D r) → (∀ h : Int, 0 ≤ h → h < 12 → D1 255 (12 * e + h) = dM D e h) → (∀ h : Int, 0 ≤ h → h < n → D1 256 (12 * e + h) = dM D e h) → (∀ j : Int, ¬ (12 * (e : Int) ≤ j ∧ j < 12 * e + 12) → D1 255 j = D 255 j ∧ D1 256 j = D 256 j) → V G l d iX12_findDirect 82 [rf 210, (0, (e : Int)), (0, hitF (dM D e) n), (0, (n : Int))] [] (K, D1, z) P := by
    intro m
    induction m with
    | zero =>
      intro n D1 hm g1 g2 g3 g4
      have hn : n = 12 := by omega
      subst hn
      refine s_il3 rfl ?_
      refine s_ic rfl ?_
      refine s_cge rfl ?_ ?_
      · intro h85
        exact fin D1 _ g1 (fun h q1 q2 => ⟨g2 h q1 q2, g3 h q1 q2⟩) g4
      · intro h85
        exact absurd h85 (by decide)
    | succ m ih =>
      intro n D1 hm g1 g2 g3 g4
      have r55 : D1 255 (12 * e + n) = dM D e n := g2 n (by omega) (by omega)
      have v55 : ∀ i v, aUp D1 256 i v 255 (12 * e + n) = dM D e n := fun i v => by rw [aUp_row (by omega), r55]
      have eh : hitF (dM D e) (n + 1) = hitF (dM D e) n + (if 0 < dM D e n then 1 else 0) := rfl
      have hi := hitF_in (f := dM D e) (n := n)
      have nxt : ∀ (b : Int), b = (if 0 < dM D e n then 1 else 0) → V G l d iX12_findDirect 132 [rf 210, (0, (e : Int)), (0, hitF (dM D e) n), (0, (n : Int))] [(0, b), (0, hitF (dM D e) n)] (K, aUp D1 256 (12 * (e : Int) + n) (dM D e n), z) P := by
        intro b hb
        have hb01 : 0 ≤ b ∧ b ≤ 1 := by rw [hb]; split <;> omega
        refine s_iadd rfl ⟨by omega, by omega⟩ ?_
        refine s_is2 rfl rfl ?_
        refine s_iinc3 rfl rfl ⟨by omega, by omega⟩ ?_
        refine s_go rfl ?_
        rw [hb, ← eh]
        refine ih (n + 1) _ (by omega) (fun r r1 r2 => by rw [aUp_row r2]; exact g1 r r1 r2) (fun h q1 q2 => by rw [aUp_row (by omega)]; exact g2 h q1 q2) (fun h q1 q2 => ?_) (fun j hj => ⟨by rw [aUp_row (by omega)]; exact (g4 j hj).1, by rw [aUp_ne (by omega)]; exact (g4 j hj).2⟩)
        rw [aUp_same]
        rcases (by omega : h < n ∨ h = n) with q | q
        · rw [uF_ne (by omega)]; exact g3 h q1 q
        · subst q; rw [uF_at]
      refine s_il3 rfl ?_
      refine s_ic rfl ?_
      refine s_cge rfl ?_ ?_
      · intro h85
        omega
      · intro h85
        refine s_al0 rfl ?_
        refine s_gf rfl (hk.at rfl rfl) rfl rfl ?_
        refine s_ic rfl ?_
        refine s_il1 rfl ?_
        refine s_imul rfl ⟨by omega, by omega⟩ ?_
        refine s_il3 rfl ?_
        refine s_iadd rfl ⟨by omega, by omega⟩ ?_
        refine s_al0 rfl ?_
        refine s_gf rfl (hk.at rfl rfl) rfl rfl ?_
        refine s_ic rfl ?_
        refine s_il1 rfl ?_
        refine s_imul rfl ⟨by omega, by omega⟩ ?_
        refine s_il3 rfl ?_
        refine s_iadd rfl ⟨by omega, by omega⟩ ?_
        refine s_lald rfl (hk.at rfl rfl) (by omega) ?_
        rw [r55]
        refine s_last rfl (hk.at rfl rfl) (by omega) ?_
        refine s_il2 rfl ?_
        refine s_al0 rfl ?_
        refine s_gf rfl (hk.at rfl rfl) rfl rfl ?_
        refine s_ic rfl ?_
        refine s_il1 rfl ?_
        refine s_imul rfl ⟨by omega, by omega⟩ ?_
        refine s_il3 rfl ?_
        refine s_iadd rfl ⟨by omega, by omega⟩ ?_
        refine s_lald rfl (hk.at rfl rfl) (by omega) ?_
        rw [v55]
        refine s_lc rfl ?_
        refine s_lcmp rfl ?_
        refine s_zle rfl ?_ ?_
        · intro h124
          have h124 := cmp3_le.mp h124
          refine s_ic rfl ?_
          exact nxt _ (by first | rw [if_pos (by omega)] | rw [if_neg (by omega)])
        · intro h124
          have h124 := cmp3_gt.mp h124
          refine s_ic rfl ?_
          refine s_go rfl ?_
          exact nxt _ (by first | rw [if_pos (by omega)] | rw [if_neg (by omega)])
  have loop2 : ∀ (m n : Nat) (D1 : Nat → Int → Int) (u : aTV), n + m = (D 210 37).toNat → (∀ r, r ≠ 255 → D1 r = D r) → (∀ h : Int, 0 ≤ h → h < 12 → D1 255 (12 * e + h) = sumF (fun k : Nat => if D 252 k = e ∧ D 238 k = h then D 249 k else 0) n) → (∀ j : Int, ¬ (12 * (e : Int) ≤ j ∧ j < 12 * e + 12) → D1 255 j = D 255 j) → V G l d iX12_findDirect 28 [rf 210, (0, (e : Int)), (0, (n : Int)), u] [] (K, D1, z) P := by
    intro m
    induction m with
    | zero =>
      intro n D1 u hm g1 g2 g3
      have hn2 : n = (D 210 37).toNat := by omega
      have r10 : D1 210 = D 210 := g1 _ (by omega)
      refine s_il2 rfl ?_
      refine s_al0 rfl ?_
      refine s_gi rfl (hk.at rfl rfl) rfl ?_
      rw [r10]
      refine s_cge rfl ?_ ?_
      · intro h33
        refine s_ic rfl ?_
        refine s_is2 rfl rfl ?_
        refine s_ic rfl ?_
        refine s_is3 rfl rfl ?_
        exact loop3 12 0 D1 rfl (fun r r1 _ => g1 r r1) (fun h q1 q2 => by rw [g2 h q1 q2, hn2]; rfl) (fun h q1 q2 => absurd q2 (by omega)) (fun j hj => ⟨g3 j hj, by rw [g1 _ (by omega)]⟩)
      · intro h33
        omega
    | succ m ih =>
      intro n D1 u hm g1 g2 g3
      have r10 : D1 210 = D 210 := g1 _ (by omega)
      have r52 : D1 252 = D 252 := g1 _ (by omega)
      have r38 : D1 238 = D 238 := g1 _ (by omega)
      have r49 : D1 249 = D 249 := g1 _ (by omega)
      obtain ⟨h38, h39, h49⟩ := hh n (by omega) (by omega)
      have st : ∀ h : Int, sumF (fun k : Nat => if D 252 k = e ∧ D 238 k = h then D 249 k else 0) (n + 1) = sumF (fun k : Nat => if D 252 k = e ∧ D 238 k = h then D 249 k else 0) n + (if D 252 n = e ∧ D 238 n = h then D 249 n else 0) := fun h => rfl
      have r55 : D1 255 (12 * e + D 238 n) = (fun h => sumF (fun k : Nat => if D 252 k = e ∧ D 238 k = h then D 249 k else 0) n) (D 238 n) := g2 (D 238 n) h38.1 h38.2
      have si := sin (D 238 n) n (by omega)
      simp only [] at r55
      refine s_il2 rfl ?_
      refine s_al0 rfl ?_
      refine s_gi rfl (hk.at rfl rfl) rfl ?_
      rw [r10]
      refine s_cge rfl ?_ ?_
      · intro h33
        omega
      · intro h33
        refine s_al0 rfl ?_
        refine s_gf rfl (hk.at rfl rfl) rfl rfl ?_
        refine s_il2 rfl ?_
        refine s_iald rfl (hk.at rfl rfl) (by omega) ?_
        rw [r52]
        refine s_il1 rfl ?_
        refine s_cne rfl ?_ ?_
        · intro h43
          refine s_iinc2 rfl rfl ⟨by omega, by omega⟩ ?_
          refine s_go rfl ?_
          refine ih (n + 1) _ _ (by omega) g1 (fun h q1 q2 => ?_) g3
          rw [st, if_neg (fun q => h43 (by omega)), g2 h q1 q2]; omega
        · intro h43
          have h49 := h49 (by omega)
          refine s_al0 rfl ?_
          refine s_gf rfl (hk.at rfl rfl) rfl rfl ?_
          refine s_ic rfl ?_
          refine s_il1 rfl ?_
          refine s_imul rfl ⟨by omega, by omega⟩ ?_
          refine s_al0 rfl ?_
          refine s_gf rfl (hk.at rfl rfl) rfl rfl ?_
          refine s_il2 rfl ?_
          refine s_iald rfl (hk.at rfl rfl) (by omega) ?_
          rw [r38]
          refine s_iadd rfl ⟨by omega, by omega⟩ ?_
          refine s_dup2 rfl rfl rfl ?_
          refine s_lald rfl (hk.at rfl rfl) (by omega) ?_
          rw [r55]
          refine s_al0 rfl ?_
          refine s_gf rfl (hk.at rfl rfl) rfl rfl ?_
          refine s_il2 rfl ?_
          refine s_iald rfl (hk.at rfl rfl) (by omega) ?_
          rw [r49]
          refine s_i2l rfl ?_
          refine s_ladd rfl ⟨by omega, by omega⟩ ?_
          refine s_last rfl (hk.at rfl rfl) (by omega) ?_
          refine s_iinc2 rfl rfl ⟨by omega, by omega⟩ ?_
          refine s_go rfl ?_
          refine ih (n + 1) _ _ (by omega) (fun r hr => by rw [aUp_row hr]; exact g1 r hr) (fun h q1 q2 => ?_) (fun j hj => by rw [aUp_ne (by omega)]; exact g3 j hj)
          rw [st, aUp_same]
          by_cases q : h = D 238 n
          · subst q; rw [uF_at, if_pos ⟨by omega, rfl⟩]
          · rw [uF_ne (by omega), if_neg (fun x => q x.2.symm), g2 h q1 q2]; omega
  have loop1 : ∀ (m n : Nat) (D1 : Nat → Int → Int) (u : aTV), n + m = 12 → (∀ r, r ≠ 255 → D1 r = D r) → (∀ h : Int, 0 ≤ h → h < n → D1 255 (12 * e + h) = 0) → (∀ j : Int, ¬ (12 * (e : Int) ≤ j ∧ j < 12 * e + 12) → D1 255 j = D 255 j) → V G l d iX12_findDirect 2 [rf 210, (0, (e : Int)), (0, (n : Int)), u] [] (K, D1, z) P := by
    intro m
    induction m with
    | zero =>
      intro n D1 u hm g1 g2 g3
      have hn : n = 12 := by omega
      subst hn
      refine s_il2 rfl ?_
      refine s_ic rfl ?_
      refine s_cge rfl ?_ ?_
      · intro h5
        refine s_ic rfl ?_
        refine s_is2 rfl rfl ?_
        exact loop2 (D 210 37).toNat 0 D1 _ (by omega) g1 (fun h q1 q2 => by rw [g2 h q1 q2]; rfl) g3
      · intro h5
        exact absurd h5 (by decide)
    | succ m ih =>
      intro n D1 u hm g1 g2 g3
      refine s_il2 rfl ?_
      refine s_ic rfl ?_
      refine s_cge rfl ?_ ?_
      · intro h5
        omega
      · intro h5
        refine s_al0 rfl ?_
        refine s_gf rfl (hk.at rfl rfl) rfl rfl ?_
        refine s_ic rfl ?_
        refine s_il1 rfl ?_
        refine s_imul rfl ⟨by omega, by omega⟩ ?_
        refine s_il2 rfl ?_
        refine s_iadd rfl ⟨by omega, by omega⟩ ?_
        refine s_lc rfl ?_
        refine s_last rfl (hk.at rfl rfl) (by omega) ?_
        refine s_iinc2 rfl rfl ⟨by omega, by omega⟩ ?_
        refine s_go rfl ?_
        refine ih (n + 1) _ _ (by omega) (fun r hr => by rw [aUp_row hr]; exact g1 r hr) (fun h q1 q2 => ?_) (fun j hj => by rw [aUp_ne (by omega)]; exact g3 j hj)
        rw [aUp_same]
        rcases (by omega : h < n ∨ h = n) with q | q
        · rw [uF_ne (by omega)]; exact g2 h q1 q
        · subst q; rw [uF_at]
  refine VM_go (tg2 rfl) (Nat.le_of_ble_eq_true rfl) ?_
  refine s_ic rfl ?_
  refine s_is2 rfl rfl ?_
  exact loop1 12 0 D _ rfl (fun _ _ => rfl) (fun h q1 q2 => absurd q2 (by omega)) (fun _ _ => rfl)
end
