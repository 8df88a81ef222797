/-! ===== slots: the e-th lies at 279 + 10 e ===== -/
def SlI (s0 m : Nat) (K : Nat → aKd) (D : Nat → Int → Int) (z : Nat × Nat) : Prop := m ≤ 60 ∧ z = (279 + 10 * m, s0 + 197 * m) ∧ s0 + 197 * 60 ≤ 200000 ∧ (∀ e : Nat, e < m → D 108 e = ((279 + 10 * e : Nat) : Int) ∧ Kh K (279 + 10 * e)) ∧ ∀ e : Nat, m ≤ e → e < 60 → D 108 e = 0
section
variable {G : aCX} {l : Launch} {d : Nat} {K : Nat → aKd} {D : Nat → Int → Int} {z : Nat × Nat} {P : Int → aSt → Prop}
theorem v_happeningAt {s0 m e : Nat} (hk : Kn K) (hS : SlI s0 m K D z) (he : e < 60) (hem : e ≤ m) (kk : ∀ K' D' z' m', SlI s0 m' K' D' z' → e < m' → (m' = m ∨ (m' = m + 1 ∧ e = m)) → Kn K' → (∀ r, r < 279 → r ≠ 108 → D' r = D r) → (∀ i : Nat, i < m → ∀ r, 279 + 10 * i ≤ r → r < 279 + 10 * i + 10 → K' r = K r ∧ D' r = D r) → (m ≤ e → ∀ r, 279 + 10 * e ≤ r → r < 279 + 10 * e + 10 → ∀ j, D' r j = 0) → P ((279 + 10 * e : Nat) : Int) (K', D', z')) : VM G l (d + 1) iX5_happeningAt [rf 101, (0, (e : Int))] (K, D, z) P := by
  obtain ⟨h60, hz, hs0, h1, h2⟩ := id hS
  subst hz
  rcases (by omega : e < m ∨ e = m) with q | q
  · have q1 := (h1 e q).1
    refine VM_go (tg2 rfl) (Nat.le_of_ble_eq_true rfl) ?_
    refine s_al0 rfl ?_
    refine s_gf rfl (hk.at rfl rfl) rfl rfl ?_
    refine s_il1 rfl ?_
    refine s_aald rfl (hk.at rfl rfl) (by omega) ?_
    rw [q1]
    refine s_as2 rfl rfl ?_
    refine s_al2 rfl ?_
    refine s_nnl rfl ?_ ?_
    · intro h8
      refine s_al2 rfl ?_
      refine s_retr rfl rfl ?_
      exact kk K D _ m hS q (Or.inl rfl) hk (fun _ _ _ => rfl) (fun _ _ _ _ _ => ⟨rfl, rfl⟩) (fun q2 => absurd q2 (by omega))
    · intro h8
      exact absurd h8 (by show ¬ (((279 + 10 * e : Nat) : Int) = 0); omega)
  · subst q
    have q1 := h2 e (Nat.le_refl _) he
    refine VM_go (tg2 rfl) (Nat.le_of_ble_eq_true rfl) ?_
    refine s_al0 rfl ?_
    refine s_gf rfl (hk.at rfl rfl) rfl rfl ?_
    refine s_il1 rfl ?_
    refine s_aald rfl (hk.at rfl rfl) (by omega) ?_
    rw [q1]
    refine s_as2 rfl rfl ?_
    refine s_al2 rfl ?_
    refine s_nnl rfl ?_ ?_
    · intro h8
      exact absurd rfl h8
    · intro h8
      refine s_new rfl rfl rfl ⟨by show 279 + 10 * e + 1 ≤ 2000; omega, by show s0 + 197 * e + 17 ≤ 200000; omega⟩ ?_
      refine s_dup rfl (by show (2 : Nat) ≠ 1; decide) ?_
      refine s_callO rfl rfl (Or.inr rfl) rfl rfl aUk_at (v_initHappening (c := 279 + 10 * e) (s := s0 + 197 * e + 17) aUk_at (by omega) (by omega) (by omega) (fun j => by rw [aUz_at]) (fun K' D' f1 f2 f3 => ?_))
      have hkn : Kn K' := fun r hr => by
        have hr2 : r < 279 := Nat.lt_of_succ_le (Nat.le_of_ble_eq_true hr)
        rw [(f1 r (by omega)).1, aUk_ne (by omega)]; exact hk r hr
      have fD : ∀ r, r < 279 + 10 * e → D' r = D r := fun r hr => by rw [(f1 r hr).2, aUz_ne (by omega)]
      have fK : ∀ r, r < 279 + 10 * e → K' r = K r := fun r hr => by rw [(f1 r hr).1, aUk_ne (by omega)]
      show V G l (d + 1) iX5_happeningAt 18 [rf 101, (0, (e : Int)), (2, 0)] [rf (279 + 10 * e)] (K', D', (279 + 10 * e + 10, s0 + 197 * e + 17 + 180)) P
      refine s_as2 rfl rfl ?_
      refine s_al0 rfl ?_
      refine s_gf rfl (hkn.at rfl rfl) rfl rfl ?_
      refine s_il1 rfl ?_
      refine s_al2 rfl ?_
      refine s_aast rfl (hkn.at rfl rfl) f2.2.1 (by omega) ?_
      refine s_al2 rfl ?_
      refine s_retr rfl rfl ?_
      refine kk K' _ _ (e + 1) ⟨by omega, by show (279 + 10 * e + 10, s0 + 197 * e + 17 + 180) = (279 + 10 * (e + 1), s0 + 197 * (e + 1)); rw [show 279 + 10 * e + 10 = 279 + 10 * (e + 1) by omega, show s0 + 197 * e + 17 + 180 = s0 + 197 * (e + 1) by omega], hs0, fun i hi => ?_, fun i hi1 hi2 => ?_⟩ (by omega) (Or.inr ⟨rfl, rfl⟩) hkn (fun r r1 r2 => by rw [aUp_row r2]; exact fD r (by omega)) (fun i hi r r1 r2 => ⟨fK r (by omega), by rw [aUp_row (by omega)]; exact fD r (by omega)⟩) (fun _ r r1 r2 j => by rw [aUp_row (by omega)]; exact f3 r r1 (by omega) j)
      · rw [aUp_same]
        rcases (by omega : i < e ∨ i = e) with q | q
        · rw [uF_ne (by omega), fD 108 (by omega)]
          obtain ⟨g1, g2⟩ := h1 i q
          refine ⟨g1, ?_⟩
          unfold Kh at g2 ⊢
          rw [fK (279 + 10 * i) (by omega), fK (279 + 10 * i + 1) (by omega), fK (279 + 10 * i + 2) (by omega), fK (279 + 10 * i + 3) (by omega), fK (279 + 10 * i + 4) (by omega), fK (279 + 10 * i + 5) (by omega), fK (279 + 10 * i + 6) (by omega), fK (279 + 10 * i + 7) (by omega), fK (279 + 10 * i + 8) (by omega), fK (279 + 10 * i + 9) (by omega)]
          exact g2
        · subst q; rw [uF_at]; exact ⟨rfl, f2⟩
      · rw [aUp_same, uF_ne (by omega), fD 108 (by omega)]; exact h2 i (by omega) hi2
end
