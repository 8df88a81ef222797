/-! ===== what is owed: the class ===== -/
def cuO (w : WT) (t : Nat) (pm a b : Int) (n : Nat) : Int := sumF (fun i => if w t 0 = a ∧ w t (100 + i) = b then prt pm (w t (200 + i)) else 0) n
theorem owT_split {w : WT} {t n : Nat} {am pm a b : Int} : owT w t am pm a b n = cuT w t am a b n + cuO w t pm a b n := by
  unfold owT cuT cuO
  exact sumF_add
theorem sumF_mono {f : Nat → Int} {n m : Nat} (h : ∀ k, k < m → 0 ≤ f k) (hn : n ≤ m) : sumF f n ≤ sumF f m := by
  induction m with
  | zero => rw [show n = 0 by omega]; exact Int.le_refl _
  | succ m ih =>
    rcases (by omega : n = m + 1 ∨ n ≤ m) with q | q
    · rw [q]; exact Int.le_refl _
    · have h1 := ih (fun k hk => h k (by omega)) q
      have h2 := h m (by omega)
      rw [sumF]
      omega
section
variable {w : WT} {nt t n m : Nat} {nh am a b : Int}
theorem cuT_mono (hw : wOk w nt nh) (ht : t < nt) (ha : 0 ≤ am) (hm : (m : Int) ≤ w t 7) (hn : n ≤ m) : 0 ≤ cuT w t am a b n ∧ cuT w t am a b n ≤ cuT w t am a b m := by
  obtain ⟨-, -, -, -, h7, hpp, -⟩ := hw.2.2.2 t ht
  have hin : ∀ i, i < m → 0 ≤ (if w t (100 + i) = a ∧ w t 0 = b then prt am (w t (200 + i)) else 0) := fun i hi => by
    have h1 := prt_in ha (hpp i (by omega)).2
    split <;> omega
  exact ⟨sumF_nonneg fun i hi => hin i (by omega), sumF_mono hin hn⟩
theorem cuO_mono (hw : wOk w nt nh) (ht : t < nt) (ha : 0 ≤ am) (hm : (m : Int) ≤ w t 7) (hn : n ≤ m) : 0 ≤ cuO w t am a b n ∧ cuO w t am a b n ≤ cuO w t am a b m := by
  obtain ⟨-, -, -, -, h7, hpp, -⟩ := hw.2.2.2 t ht
  have hin : ∀ i, i < m → 0 ≤ (if w t 0 = a ∧ w t (100 + i) = b then prt am (w t (200 + i)) else 0) := fun i hi => by
    have h1 := prt_in ha (hpp i (by omega)).2
    split <;> omega
  exact ⟨sumF_nonneg fun i hi => hin i (by omega), sumF_mono hin hn⟩
end
section
variable {G : aCX} {l : Launch} {d : Nat} {K : Nat → aKd} {D : Nat → Int → Int} {z : Nat × Nat} {P : Int → aSt → Prop}
theorem v_partsOweOwner {T t nt : Nat} {nh am : Int} (hk : Kn K) (hT : isT T) (hw : wOk (wC D T) nt nh) (ht : t < nt) (hm : 0 ≤ am ∧ am ≤ 1000000000) (hO : ∀ a b : Int, 0 ≤ a → a < 12 → 0 ≤ b → b < 12 → 0 ≤ D 102 (a * 12 + b) ∧ D 102 (a * 12 + b) + cuT (wC D T) t am a b (wC D T t 7).toNat ≤ 2000000000) (kk : ∀ D', (∀ r, r ≠ 102 → D' r = D r) → (∀ a b : Int, 0 ≤ a → a < 12 → 0 ≤ b → b < 12 → D' 102 (a * 12 + b) = D 102 (a * 12 + b) + cuT (wC D T) t am a b (wC D T t 7).toNat) → P 0 (K, D', z)) : VM G l (d + 1) iX5_partsOweOwner [rf 101, rf (T + 9 + 3 * t), (0, am)] (K, D, z) P := by
  have hT2 : T = 8 ∨ T = 129 := hT
  have ht24 : t < 24 := Nat.lt_of_lt_of_le ht hw.1
  have h12 := hw.2.2.1
  obtain ⟨t1, t2, t3⟩ := KTt hk hT ht24
  obtain ⟨h0, -, -, -, h7, hp, -⟩ := hw.2.2.2 t ht
  have e7 : wC D T t 7 = D (T + 9 + 3 * t) 7 := wC_f (by decide)
  have e0 : wC D T t 0 = D (T + 9 + 3 * t) 0 := wC_f (by decide)
  have loop : ∀ (m n : Nat) (D1 : Nat → Int → Int), n + m = (wC D T t 7).toNat → (∀ r, r ≠ 102 → D1 r = D r) → (∀ a b : Int, 0 ≤ a → a < 12 → 0 ≤ b → b < 12 → D1 102 (a * 12 + b) = D 102 (a * 12 + b) + cuT (wC D T) t am a b n) → V G l (d + 1) iX5_partsOweOwner 2 [rf 101, rf (T + 9 + 3 * t), (0, am), (0, (n : Int))] [] (K, D1, z) P := by
    intro m
    induction m with
    | zero =>
      intro n D1 hm2 g1 g2
      have hn : n = (wC D T t 7).toNat := by omega
      have p7 : D1 (T + 9 + 3 * t) 7 = wC D T t 7 := by rw [g1 _ (by omega), e7]
      refine s_il3 rfl ?_
      refine s_al1 rfl ?_
      refine s_gi rfl t1 rfl ?_
      rw [p7]
      refine s_cge rfl ?_ ?_
      · intro h7
        refine s_retv rfl rfl ?_
        exact kk D1 g1 (by rw [← hn]; exact g2)
      · intro h7
        omega
    | succ m ih =>
      intro n D1 hm2 g1 g2
      have hn : (n : Int) < wC D T t 7 := by omega
      have p7 : D1 (T + 9 + 3 * t) 7 = wC D T t 7 := by rw [g1 _ (by omega), e7]
      have p0 : D1 (T + 9 + 3 * t) 0 = wC D T t 0 := by rw [g1 _ (by omega), e0]
      have p1 : D1 (T + 10 + 3 * t) n = wC D T t (100 + n) := by rw [g1 _ (by omega), wC_h (by omega)]
      have p2 : D1 (T + 11 + 3 * t) n = wC D T t (200 + n) := by rw [g1 _ (by omega), wC_s]
      obtain ⟨s1, s2⟩ := hp n hn
      have y0 := g2 (wC D T t (100 + n)) (wC D T t 0) (by omega) (by omega) (by omega) (by omega)
      have y1 := hO (wC D T t (100 + n)) (wC D T t 0) (by omega) (by omega) (by omega) (by omega)
      have y2 := cuT_mono (a := wC D T t (100 + n)) (b := wC D T t 0) (am := am) (n := n) (m := n) hw ht hm.1 (by omega) (Nat.le_refl _)
      have y3 := cuT_mono (a := wC D T t (100 + n)) (b := wC D T t 0) (am := am) (n := n + 1) (m := (wC D T t 7).toNat) hw ht hm.1 (by omega) (by omega)
      have y4 : cuT (wC D T) t am (wC D T t (100 + n)) (wC D T t 0) (n + 1) = cuT (wC D T) t am (wC D T t (100 + n)) (wC D T t 0) n + (if wC D T t (100 + n) = wC D T t (100 + n) ∧ wC D T t 0 = wC D T t 0 then prt am (wC D T t (200 + n)) else 0) := rfl
      rw [if_pos ⟨rfl, rfl⟩] at y4
      have q1 := prt_in hm.1 s2
      refine s_il3 rfl ?_
      refine s_al1 rfl ?_
      refine s_gi rfl t1 rfl ?_
      rw [p7]
      refine s_cge rfl ?_ ?_
      · intro h7
        omega
      · intro h7
        refine s_al0 rfl ?_
        refine s_gf rfl (hk.at rfl rfl) rfl rfl ?_
        refine s_al1 rfl ?_
        refine s_gf rfl t1 rfl rfl ?_
        refine s_il3 rfl ?_
        refine s_iald rfl t2 (by omega) ?_
        rw [p1]
        refine s_ic rfl ?_
        refine s_imul rfl ⟨by omega, by omega⟩ ?_
        refine s_al1 rfl ?_
        refine s_gi rfl t1 rfl ?_
        rw [p0]
        refine s_iadd rfl ⟨by omega, by omega⟩ ?_
        refine s_dup2 rfl rfl rfl ?_
        refine s_iald rfl (hk.at rfl rfl) (by omega) ?_
        rw [y0]
        refine s_il2 rfl ?_
        refine s_al1 rfl ?_
        refine s_gf rfl t1 rfl rfl ?_
        refine s_il3 rfl ?_
        refine s_iald rfl t3 (by omega) ?_
        rw [p2]
        refine s_callS rfl rfl rfl rfl (v_partOf ⟨hm.1, hm.2⟩ s2 ?_)
        show V G l (d + 1) iX5_partsOweOwner 40 [rf 101, rf (T + 9 + 3 * t), (0, am), (0, (n : Int))] [(0, prt am (wC D T t (200 + n))), (0, D 102 (wC D T t (100 + n) * 12 + wC D T t 0) + cuT (wC D T) t am (wC D T t (100 + n)) (wC D T t 0) n), (0, wC D T t (100 + n) * 12 + wC D T t 0), rf 102] (K, D1, z) P
        refine s_iadd rfl ⟨by omega, by omega⟩ ?_
        refine s_iast rfl (hk.at rfl rfl) (by omega) ?_
        refine s_iinc3 rfl rfl ⟨by omega, by omega⟩ ?_
        refine s_go rfl ?_
        refine ih (n + 1) _ (by omega) (fun r hr => by rw [aUp_row hr]; exact g1 r hr) (fun a b a1 a2 b1 b2 => ?_)
        have z0 := g2 a b a1 a2 b1 b2
        have z1 : cuT (wC D T) t am a b (n + 1) = cuT (wC D T) t am a b n + (if wC D T t (100 + n) = a ∧ wC D T t 0 = b then prt am (wC D T t (200 + n)) else 0) := rfl
        rw [z1, aUp_app]
        by_cases w2 : a * 12 + b = wC D T t (100 + n) * 12 + wC D T t 0
        · have ea : a = wC D T t (100 + n) := by omega
          have eb : b = wC D T t 0 := by omega
          subst ea eb
          rw [if_pos ⟨rfl, rfl⟩, if_pos ⟨rfl, rfl⟩]
          omega
        · rw [if_neg (fun q => w2 q.2), if_neg (fun q => w2 (by rw [← q.1, ← q.2]))]
          omega
  refine VM_go (tg2 rfl) (Nat.le_of_ble_eq_true rfl) ?_
  refine s_ic rfl ?_
  refine s_is3 rfl rfl ?_
  exact loop (wC D T t 7).toNat 0 D (by omega) (fun _ _ => rfl) (fun a b _ _ _ _ => (Int.add_zero _).symm)
theorem v_ownerOwesParts {T t nt : Nat} {nh am : Int} (hk : Kn K) (hT : isT T) (hw : wOk (wC D T) nt nh) (ht : t < nt) (hm : 0 ≤ am ∧ am ≤ 1000000000) (hO : ∀ a b : Int, 0 ≤ a → a < 12 → 0 ≤ b → b < 12 → 0 ≤ D 102 (a * 12 + b) ∧ D 102 (a * 12 + b) + cuO (wC D T) t am a b (wC D T t 7).toNat ≤ 2000000000) (kk : ∀ D', (∀ r, r ≠ 102 → D' r = D r) → (∀ a b : Int, 0 ≤ a → a < 12 → 0 ≤ b → b < 12 → D' 102 (a * 12 + b) = D 102 (a * 12 + b) + cuO (wC D T) t am a b (wC D T t 7).toNat) → P 0 (K, D', z)) : VM G l (d + 1) iX5_ownerOwesParts [rf 101, rf (T + 9 + 3 * t), (0, am)] (K, D, z) P := by
  have hT2 : T = 8 ∨ T = 129 := hT
  have ht24 : t < 24 := Nat.lt_of_lt_of_le ht hw.1
  have h12 := hw.2.2.1
  obtain ⟨t1, t2, t3⟩ := KTt hk hT ht24
  obtain ⟨h0, -, -, -, h7, hp, -⟩ := hw.2.2.2 t ht
  have e7 : wC D T t 7 = D (T + 9 + 3 * t) 7 := wC_f (by decide)
  have e0 : wC D T t 0 = D (T + 9 + 3 * t) 0 := wC_f (by decide)
  have loop : ∀ (m n : Nat) (D1 : Nat → Int → Int), n + m = (wC D T t 7).toNat → (∀ r, r ≠ 102 → D1 r = D r) → (∀ a b : Int, 0 ≤ a → a < 12 → 0 ≤ b → b < 12 → D1 102 (a * 12 + b) = D 102 (a * 12 + b) + cuO (wC D T) t am a b n) → V G l (d + 1) iX5_ownerOwesParts 2 [rf 101, rf (T + 9 + 3 * t), (0, am), (0, (n : Int))] [] (K, D1, z) P := by
    intro m
    induction m with
    | zero =>
      intro n D1 hm2 g1 g2
      have hn : n = (wC D T t 7).toNat := by omega
      have p7 : D1 (T + 9 + 3 * t) 7 = wC D T t 7 := by rw [g1 _ (by omega), e7]
      refine s_il3 rfl ?_
      refine s_al1 rfl ?_
      refine s_gi rfl t1 rfl ?_
      rw [p7]
      refine s_cge rfl ?_ ?_
      · intro h7
        refine s_retv rfl rfl ?_
        exact kk D1 g1 (by rw [← hn]; exact g2)
      · intro h7
        omega
    | succ m ih =>
      intro n D1 hm2 g1 g2
      have hn : (n : Int) < wC D T t 7 := by omega
      have p7 : D1 (T + 9 + 3 * t) 7 = wC D T t 7 := by rw [g1 _ (by omega), e7]
      have p0 : D1 (T + 9 + 3 * t) 0 = wC D T t 0 := by rw [g1 _ (by omega), e0]
      have p1 : D1 (T + 10 + 3 * t) n = wC D T t (100 + n) := by rw [g1 _ (by omega), wC_h (by omega)]
      have p2 : D1 (T + 11 + 3 * t) n = wC D T t (200 + n) := by rw [g1 _ (by omega), wC_s]
      obtain ⟨s1, s2⟩ := hp n hn
      have y0 := g2 (wC D T t 0) (wC D T t (100 + n)) (by omega) (by omega) (by omega) (by omega)
      have y1 := hO (wC D T t 0) (wC D T t (100 + n)) (by omega) (by omega) (by omega) (by omega)
      have y2 := cuO_mono (a := wC D T t 0) (b := wC D T t (100 + n)) (am := am) (n := n) (m := n) hw ht hm.1 (by omega) (Nat.le_refl _)
      have y3 := cuO_mono (a := wC D T t 0) (b := wC D T t (100 + n)) (am := am) (n := n + 1) (m := (wC D T t 7).toNat) hw ht hm.1 (by omega) (by omega)
      have y4 : cuO (wC D T) t am (wC D T t 0) (wC D T t (100 + n)) (n + 1) = cuO (wC D T) t am (wC D T t 0) (wC D T t (100 + n)) n + (if wC D T t 0 = wC D T t 0 ∧ wC D T t (100 + n) = wC D T t (100 + n) then prt am (wC D T t (200 + n)) else 0) := rfl
      rw [if_pos ⟨rfl, rfl⟩] at y4
      have q1 := prt_in hm.1 s2
      refine s_il3 rfl ?_
      refine s_al1 rfl ?_
      refine s_gi rfl t1 rfl ?_
      rw [p7]
      refine s_cge rfl ?_ ?_
      · intro h7
        omega
      · intro h7
        refine s_al0 rfl ?_
        refine s_gf rfl (hk.at rfl rfl) rfl rfl ?_
        refine s_al1 rfl ?_
        refine s_gi rfl t1 rfl ?_
        rw [p0]
        refine s_ic rfl ?_
        refine s_imul rfl ⟨by omega, by omega⟩ ?_
        refine s_al1 rfl ?_
        refine s_gf rfl t1 rfl rfl ?_
        refine s_il3 rfl ?_
        refine s_iald rfl t2 (by omega) ?_
        rw [p1]
        refine s_iadd rfl ⟨by omega, by omega⟩ ?_
        refine s_dup2 rfl rfl rfl ?_
        refine s_iald rfl (hk.at rfl rfl) (by omega) ?_
        rw [y0]
        refine s_il2 rfl ?_
        refine s_al1 rfl ?_
        refine s_gf rfl t1 rfl rfl ?_
        refine s_il3 rfl ?_
        refine s_iald rfl t3 (by omega) ?_
        rw [p2]
        refine s_callS rfl rfl rfl rfl (v_partOf ⟨hm.1, hm.2⟩ s2 ?_)
        show V G l (d + 1) iX5_ownerOwesParts 40 [rf 101, rf (T + 9 + 3 * t), (0, am), (0, (n : Int))] [(0, prt am (wC D T t (200 + n))), (0, D 102 (wC D T t 0 * 12 + wC D T t (100 + n)) + cuO (wC D T) t am (wC D T t 0) (wC D T t (100 + n)) n), (0, wC D T t 0 * 12 + wC D T t (100 + n)), rf 102] (K, D1, z) P
        refine s_iadd rfl ⟨by omega, by omega⟩ ?_
        refine s_iast rfl (hk.at rfl rfl) (by omega) ?_
        refine s_iinc3 rfl rfl ⟨by omega, by omega⟩ ?_
        refine s_go rfl ?_
        refine ih (n + 1) _ (by omega) (fun r hr => by rw [aUp_row hr]; exact g1 r hr) (fun a b a1 a2 b1 b2 => ?_)
        have z0 := g2 a b a1 a2 b1 b2
        have z1 : cuO (wC D T) t am a b (n + 1) = cuO (wC D T) t am a b n + (if wC D T t 0 = a ∧ wC D T t (100 + n) = b then prt am (wC D T t (200 + n)) else 0) := rfl
        rw [z1, aUp_app]
        by_cases w2 : a * 12 + b = wC D T t 0 * 12 + wC D T t (100 + n)
        · have ea : a = wC D T t 0 := by omega
          have eb : b = wC D T t (100 + n) := by omega
          subst ea eb
          rw [if_pos ⟨rfl, rfl⟩, if_pos ⟨rfl, rfl⟩]
          omega
        · rw [if_neg (fun q => w2 q.2), if_neg (fun q => w2 (by rw [← q.1, ← q.2]))]
          omega
  refine VM_go (tg2 rfl) (Nat.le_of_ble_eq_true rfl) ?_
  refine s_ic rfl ?_
  refine s_is3 rfl rfl ?_
  exact loop (wC D T t 7).toNat 0 D (by omega) (fun _ _ => rfl) (fun a b _ _ _ _ => (Int.add_zero _).symm)
end
