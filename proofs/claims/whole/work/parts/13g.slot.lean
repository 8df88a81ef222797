/-! ===== commuted sums, a slot for an event: the class ===== -/
abbrev WqC (D : Nat → Int → Int) (T nt : Nat) (v : Int) (cn : Nat → Nat) (cc : Nat → Nat → Int × Int) : WdQ := (wC D T, nt, fun t => decide (D (T + 9 + 3 * t) 13 ≠ -1 ∧ D (T + 9 + 3 * t) 13 ≤ v), cn, cc)
section
variable {G : aCX} {l : Launch} {d : Nat} {K : Nat → aKd} {D : Nat → Int → Int} {z : Nat × Nat} {P : Int → aSt → Prop}
theorem v_addCommuted {T nt : Nat} {nh v : Int} {cn : Nat → Nat} {cc : Nat → Nat → Int × Int} (hk : Kn K) (hT : isT T) (hw : wOk (wC D T) nt nh) (hn : D T 1 = nt) (hs : ∀ t : Nat, t < nt → 0 ≤ D (T + 9 + 3 * t) 14 ∧ D (T + 9 + 3 * t) 14 ≤ 999999) (hO : ∀ a b : Int, 0 ≤ a → a < 12 → 0 ≤ b → b < 12 → 0 ≤ D 102 (a * 12 + b) ∧ D 102 (a * 12 + b) + cuF (WqC D T nt v cn cc) (fun t => D (T + 9 + 3 * t) 14) a b nt ≤ 2000000000) (kk : ∀ D', (∀ r, r ≠ 102 → D' r = D r) → (∀ a b : Int, 0 ≤ a → a < 12 → 0 ≤ b → b < 12 → D' 102 (a * 12 + b) = D 102 (a * 12 + b) + cuF (WqC D T nt v cn cc) (fun t => D (T + 9 + 3 * t) 14) a b nt) → P 0 (K, D', z)) : VM G l (d + 2) iX5_addCommuted [rf 101, rf T, (0, v)] (K, D, z) P := by
  have hT2 : T = 8 ∨ T = 129 := hT
  have n24 := hw.1
  have tin : ∀ (t : Nat) (a b : Int), t < nt → 0 ≤ (if (WqC D T nt v cn cc).cm t = true then cuT (wC D T) t (D (T + 9 + 3 * t) 14) a b (wC D T t 7).toNat else 0) := fun t a b ht => by
    have h7 := (hw.2.2.2 t ht).2.2.2.2.1
    have q1 := cuT_mono (a := a) (b := b) (am := D (T + 9 + 3 * t) 14) (n := (wC D T t 7).toNat) (m := (wC D T t 7).toNat) hw ht (hs t ht).1 (by omega) (Nat.le_refl _)
    split <;> omega
  have om : ∀ (n m : Nat) (a b : Int), n ≤ m → m ≤ nt → cuF (WqC D T nt v cn cc) (fun t => D (T + 9 + 3 * t) 14) a b n ≤ cuF (WqC D T nt v cn cc) (fun t => D (T + 9 + 3 * t) 14) a b m := fun n m a b h1 h2 => by
    unfold cuF
    exact sumF_mono (fun t ht => tin t a b (by omega)) h1
  have os : ∀ (t : Nat) (a b : Int), cuF (WqC D T nt v cn cc) (fun t => D (T + 9 + 3 * t) 14) a b (t + 1) = cuF (WqC D T nt v cn cc) (fun t => D (T + 9 + 3 * t) 14) a b t + (if (WqC D T nt v cn cc).cm t = true then cuT (wC D T) t (D (T + 9 + 3 * t) 14) a b (wC D T t 7).toNat else 0) := fun t a b => rfl
  have loop : ∀ (m t : Nat) (D1 : Nat → Int → Int) (u4 : aTV), t + m = nt → (∀ r, r ≠ 102 → D1 r = D r) → (∀ a b : Int, 0 ≤ a → a < 12 → 0 ≤ b → b < 12 → D1 102 (a * 12 + b) = D 102 (a * 12 + b) + cuF (WqC D T nt v cn cc) (fun t => D (T + 9 + 3 * t) 14) a b t) → V G l (d + 2) iX5_addCommuted 2 [rf 101, rf T, (0, v), (0, (t : Int)), u4] [] (K, D1, z) P := by
    intro m
    induction m with
    | zero =>
      intro t D1 u4 hm g1 g2
      have ht : t = nt := by omega
      have w1 : D1 T = D T := g1 _ (by omega)
      refine s_il3 rfl ?_
      refine s_al1 rfl ?_
      refine s_gi rfl (KT hk hT) rfl ?_
      rw [w1, hn]
      refine s_cge rfl ?_ ?_
      · intro h7
        refine s_retv rfl rfl ?_
        subst ht
        exact kk D1 g1 g2
      · intro h7
        omega
    | succ m ih =>
      intro t D1 u4 hm g1 g2
      have ht : t < nt := by omega
      have ht24 : t < 24 := by omega
      have w1 : D1 T = D T := g1 _ (by omega)
      have wt : D1 (T + 9 + 3 * t) = D (T + 9 + 3 * t) := g1 _ (by omega)
      obtain ⟨t1, t2, t3⟩ := KTt hk hT ht24
      have ewt : ∀ s, s < nt → wC D1 T s = wC D T s := wC_congr n24 (fun r q1 q2 => g1 r (by omega))
      have next : ∀ D2 : Nat → Int → Int, (∀ r, r ≠ 102 → D2 r = D r) → (∀ a b : Int, 0 ≤ a → a < 12 → 0 ≤ b → b < 12 → D2 102 (a * 12 + b) = D1 102 (a * 12 + b) + (if (WqC D T nt v cn cc).cm t = true then cuT (wC D T) t (D (T + 9 + 3 * t) 14) a b (wC D T t 7).toNat else 0)) → V G l (d + 2) iX5_addCommuted 38 [rf 101, rf T, (0, v), (0, (t : Int)), rf (T + 9 + 3 * t)] [] (K, D2, z) P := by
        intro D2 f1 f2
        refine s_iinc3 rfl rfl ⟨by omega, by omega⟩ ?_
        refine s_go rfl ?_
        exact ih (t + 1) D2 _ (by omega) f1 (fun a b a1 a2 b1 b2 => by rw [f2 a b a1 a2 b1 b2, g2 a b a1 a2 b1 b2, os]; omega)
      refine s_il3 rfl ?_
      refine s_al1 rfl ?_
      refine s_gi rfl (KT hk hT) rfl ?_
      rw [w1, hn]
      refine s_cge rfl ?_ ?_
      · intro h7
        omega
      · intro h7
        refine s_al1 rfl ?_
        refine s_gf rfl (KT hk hT) rfl rfl ?_
        refine s_il3 rfl ?_
        refine s_aaldT rfl (KTa hk hT).1 (by omega) (by rw [Int.toNat_natCast, List.getElem?_map, List.getElem?_range (by omega)]; rfl) ?_
        refine s_as4 rfl rfl ?_
        refine s_al4 rfl ?_
        refine s_il2 rfl ?_
        refine s_callO rfl rfl (Or.inl rfl) rfl rfl t1 (v_isCommutedBy hk hT ht24 ?_)
        rw [wt]
        show V G l (d + 2) iX5_addCommuted 24 [rf 101, rf T, (0, v), (0, (t : Int)), rf (T + 9 + 3 * t)] [(0, if D (T + 9 + 3 * t) 13 ≠ -1 ∧ D (T + 9 + 3 * t) 13 ≤ v then 1 else 0)] (K, D1, z) P
        generalize hcv : (if D (T + 9 + 3 * t) 13 ≠ -1 ∧ D (T + 9 + 3 * t) 13 ≤ v then (1 : Int) else 0) = cv
        refine s_zeq rfl ?_ ?_
        · intro h24
          have hno : ¬ (D (T + 9 + 3 * t) 13 ≠ -1 ∧ D (T + 9 + 3 * t) 13 ≤ v) := fun q => by rw [if_pos q] at hcv; omega
          have hcf : ¬ (WqC D T nt v cn cc).cm t = true := fun q => hno (of_decide_eq_true q)
          exact next D1 g1 (fun a b _ _ _ _ => by rw [if_neg hcf]; omega)
        · intro h24
          have hyes : D (T + 9 + 3 * t) 13 ≠ -1 ∧ D (T + 9 + 3 * t) 13 ≤ v := Decidable.byContradiction fun q => by rw [if_neg q] at hcv; omega
          have hct : (WqC D T nt v cn cc).cm t = true := decide_eq_true hyes
          refine s_al0 rfl ?_
          refine s_al4 rfl ?_
          refine s_al4 rfl ?_
          refine s_gi rfl t1 rfl ?_
          rw [wt]
          refine s_callO rfl rfl (Or.inl rfl) rfl rfl (hk.at rfl rfl) (v_partsOweOwner (D := D1) (nt := nt) (nh := nh) hk hT (wOk_congr hw ewt) ht ⟨(hs t ht).1, by have := (hs t ht).2; omega⟩ (fun a b a1 a2 b1 b2 => ?_) (fun D2 f1 f2 => ?_))
          · rw [cuT_congr (ewt t ht), ewt t ht, g2 a b a1 a2 b1 b2]
            have z1 := hO a b a1 a2 b1 b2
            have z2 := om 0 t a b (by omega) (by omega)
            have z3 := om (t + 1) nt a b (by omega) (by omega)
            have z4 := os t a b
            have z5 : cuF (WqC D T nt v cn cc) (fun t => D (T + 9 + 3 * t) 14) a b 0 = 0 := rfl
            rw [if_pos hct] at z4
            omega
          show V G l (d + 2) iX5_addCommuted 38 [rf 101, rf T, (0, v), (0, (t : Int)), rf (T + 9 + 3 * t)] [] (K, D2, z) P
          exact next D2 (fun r hr => by rw [f1 r hr, g1 r hr]) (fun a b a1 a2 b1 b2 => by rw [f2 a b a1 a2 b1 b2, cuT_congr (ewt t ht), ewt t ht, if_pos hct])
  refine VM_go (tg2 rfl) (Nat.le_of_ble_eq_true rfl) ?_
  refine s_ic rfl ?_
  refine s_is3 rfl rfl ?_
  exact loop nt 0 D _ (by omega) (fun _ _ => rfl) (fun a b _ _ _ _ => (Int.add_zero _).symm)
theorem zUp {D : Nat → Int → Int} {r q : Nat} {i : Int} (h : ∀ j, D r j = 0) : ∀ j, aUp D q i 0 r j = 0 := fun j => by
  rw [aUp_app]
  split
  · rfl
  · exact h j
theorem zUz_at {D : Nat → Int → Int} {r : Nat} : ∀ j, aUz D r r j = 0 := fun j => by rw [aUz_at]
theorem zUz {D : Nat → Int → Int} {r q : Nat} (h : ∀ j, D r j = 0) : ∀ j, aUz D q r j = 0 := fun j => by
  unfold aUz
  split
  · rfl
  · exact h j
/-- a new slot: its record at c -/
theorem v_initHappening {c s : Nat} (hc : K c = (3, 0, [0, 0, 0, 0, 0, 0, 0, 0, 0, 0, 0, 0, 0, 0, 0, 0, 0])) (h0 : 279 ≤ c) (h1 : c + 10 ≤ 2000) (h2 : s + 180 ≤ 200000) (hz : ∀ j, D c j = 0) (kk : ∀ K' D', (∀ r, r < c → K' r = K r ∧ D' r = D r) → Kh K' c → (∀ r, c ≤ r → r ≤ c + 9 → ∀ j, D' r j = 0) → P 0 (K', D', (c + 10, s + 180))) : VM G l d iX3_init [rf c] (K, D, (c + 1, s)) P := by
  refine VM_go (tg2 rfl) (Nat.le_of_ble_eq_true rfl) ?_
  refine s_al0 rfl ?_
  refine s_oi rfl (by show (Nat.ble (aCat []) 8 && Nat.blt 0 c) = true; have : Nat.blt 0 c = true := Nat.ble_eq_true_of_le (by omega); rw [this]; rfl) ?_
  refine s_al0 rfl ?_
  refine s_ic rfl ?_
  refine s_pz rfl hc rfl (Or.inl rfl) ?_
  refine s_al0 rfl ?_
  refine s_ic rfl ?_
  refine s_pi rfl hc rfl ?_
  refine s_al0 rfl ?_
  refine s_ic rfl ?_
  refine s_pi rfl hc rfl ?_
  refine s_al0 rfl ?_
  refine s_ic rfl ?_
  refine s_pi rfl hc rfl ?_
  refine s_al0 rfl ?_
  refine s_ic rfl ?_
  refine s_pi rfl hc rfl ?_
  refine s_al0 rfl ?_
  refine s_ic rfl ?_
  refine s_pi rfl hc rfl ?_
  refine s_al0 rfl ?_
  refine s_ic rfl ?_
  refine s_pi rfl hc rfl ?_
  refine s_al0 rfl ?_
  refine s_ic rfl ?_
  refine s_pz rfl hc rfl (Or.inl rfl) ?_
  refine s_al0 rfl ?_
  refine s_ic rfl ?_
  refine s_newa (n := 12) rfl ⟨by show _ ≤ 2000; omega, by show _ ≤ 200000; omega⟩ ?_
  refine s_pf rfl (by rw [aUk_ne (by show c ≠ _; omega)]; exact hc) rfl rfl ?_
  refine s_al0 rfl ?_
  refine s_ic rfl ?_
  refine s_newa (n := 12) rfl ⟨by show _ ≤ 2000; omega, by show _ ≤ 200000; omega⟩ ?_
  refine s_pf rfl (by rw [aUk_ne (by show c ≠ _; omega), aUk_at]) rfl rfl ?_
  refine s_al0 rfl ?_
  refine s_ic rfl ?_
  refine s_newa (n := 12) rfl ⟨by show _ ≤ 2000; omega, by show _ ≤ 200000; omega⟩ ?_
  refine s_pf rfl (by rw [aUk_ne (by show c ≠ _; omega), aUk_at]) rfl rfl ?_
  refine s_al0 rfl ?_
  refine s_ic rfl ?_
  refine s_newa (n := 24) rfl ⟨by show _ ≤ 2000; omega, by show _ ≤ 200000; omega⟩ ?_
  refine s_pf rfl (by rw [aUk_ne (by show c ≠ _; omega), aUk_at]) rfl rfl ?_
  refine s_al0 rfl ?_
  refine s_ic rfl ?_
  refine s_newa (n := 24) rfl ⟨by show _ ≤ 2000; omega, by show _ ≤ 200000; omega⟩ ?_
  refine s_pf rfl (by rw [aUk_ne (by show c ≠ _; omega), aUk_at]) rfl rfl ?_
  refine s_al0 rfl ?_
  refine s_ic rfl ?_
  refine s_newa (n := 24) rfl ⟨by show _ ≤ 2000; omega, by show _ ≤ 200000; omega⟩ ?_
  refine s_pf rfl (by rw [aUk_ne (by show c ≠ _; omega), aUk_at]) rfl rfl ?_
  refine s_al0 rfl ?_
  refine s_ic rfl ?_
  refine s_newa (n := 24) rfl ⟨by show _ ≤ 2000; omega, by show _ ≤ 200000; omega⟩ ?_
  refine s_pf rfl (by rw [aUk_ne (by show c ≠ _; omega), aUk_at]) rfl rfl ?_
  refine s_al0 rfl ?_
  refine s_ic rfl ?_
  refine s_newa (n := 24) rfl ⟨by show _ ≤ 2000; omega, by show _ ≤ 200000; omega⟩ ?_
  refine s_pf rfl (by rw [aUk_ne (by show c ≠ _; omega), aUk_at]) rfl rfl ?_
  refine s_al0 rfl ?_
  refine s_ic rfl ?_
  refine s_newa (n := 24) rfl ⟨by show _ ≤ 2000; omega, by show _ ≤ 200000; omega⟩ ?_
  refine s_pf rfl (by rw [aUk_ne (by show c ≠ _; omega), aUk_at]) rfl rfl ?_
  refine s_retv rfl rfl ?_
  refine kk _ _ (fun r hr => ⟨?_, ?_⟩) ⟨h0, ?_⟩ (fun r q1 q2 j => ?_)
  · repeat' rw [aUk_ne (by omega)]
  · repeat' first | rw [aUz_ne (by omega)] | rw [aUp_row (by omega)]
  · refine ⟨?_, ?_, ?_, ?_, ?_, ?_, ?_, ?_, ?_, ?_⟩
    · rw [aUk_at]; rfl
    all_goals ((repeat' first | rw [aUk_at] | rw [aUk_ne (by omega)]) <;> rfl)
  · rcases (by omega : r = c ∨ r = c + 1 ∨ r = c + 2 ∨ r = c + 3 ∨ r = c + 4 ∨ r = c + 5 ∨ r = c + 6 ∨ r = c + 7 ∨ r = c + 8 ∨ r = c + 9) with q | q | q | q | q | q | q | q | q | q <;> subst q <;> revert j
    · repeat' first | exact hz | refine zUz ?_ | refine zUp ?_
    all_goals (repeat' first | exact zUz_at | refine zUz ?_)
end
