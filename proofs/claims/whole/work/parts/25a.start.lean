/-! ===== the invariant at the start ===== -/
theorem gi_start {K : Nat → aKd} {D : Nat → Int → Int} (hk : Kn K) (c1 : D 1 6 = 129 ∧ D 1 8 = -1 ∧ D 1 7 = 0 ∧ D 1 9 = 0 ∧ D 1 10 = 0 ∧ D 1 11 = 0) (h23 : D 2 3 = 0) (h4 : ∀ i : Nat, i < 21 → D 4 i = kw32 i) (h53 : D 5 3 = 8) (hz : ∀ r, 89 ≤ r → r < 129 → ∀ j, D r j = 0) (h129 : ∀ j, D 129 j = 0) (m1 : ∀ r, 216 ≤ r → r < 278 → r ≠ 219 → r ≠ 220 → ∀ j, D r j = 0) (m2 : ∀ w : Nat, w < 21 → D 215 w = wdV w) (m3 : D 210 36 = -1 ∧ ∀ j : Int, j ≠ 36 → D 210 j = 0) : GIv 37895 (K, D, (279, 37895)) := by
  obtain ⟨c6, c8, c7, c9, c10, c11⟩ := c1
  have z89 := hz 89 (by decide) (by decide)
  have z108 := hz 108 (by decide) (by decide)
  have z116 := hz 116 (by decide) (by decide)
  have z122 := hz 122 (by decide) (by decide)
  have z216 := m1 216 (by decide) (by decide) (by decide) (by decide)
  have z221 := m1 221 (by decide) (by decide) (by decide) (by decide)
  have z243 := m1 243 (by decide) (by decide) (by decide) (by decide)
  have z244 := m1 244 (by decide) (by decide) (by decide) (by decide)
  have z266 := m1 266 (by decide) (by decide) (by decide) (by decide)
  have z272 := m1 272 (by decide) (by decide) (by decide) (by decide)
  have m10 := m3.2 10 (by decide)
  have m35 := m3.2 35 (by decide)
  have m37 := m3.2 37 (by decide)
  have m45 := m3.2 45 (by decide)
  have ml2 := m3.2 2 (by decide)
  have ent : ntM D = 0 := by show (D 221 (D 210 10)).toNat = 0; rw [z221]; rfl
  refine GIv_mk (m := 0) (T := 129) (T2 := 8) (nt := 0) (n := 0) (wo := fun _ => 0) (cn := fun _ => 0) (cc := fun _ _ => (0, 0)) ⟨⟨hk, ⟨by decide, rfl, by decide, fun e he => absurd he (Nat.not_lt_zero e), fun e _ _ => z108 e⟩, fun i hi => absurd hi (Nat.not_lt_zero i), Or.inr rfl, ?_, ?_, ?_, ?_, ?_, ?_, fun t ht => absurd ht (Nat.not_lt_zero t), fun t ht => absurd ht (Nat.not_lt_zero t), fun t ht => absurd ht (Nat.not_lt_zero t)⟩, ⟨?_, ?_, ?_, fun t ht => absurd ht (Nat.not_lt_zero t), fun t _ => ?_⟩, ⟨by rw [h23]; rfl, by rw [ml2]; rfl, by decide, fun i hi => absurd hi (Nat.not_lt_zero i), h4, m2⟩, ⟨by rw [c6]; rfl, by rw [h53]; rfl, Or.inl rfl, by decide, fun t ht => absurd ht (Nat.not_lt_zero t)⟩, ⟨fun h _ => ?_, fun a _ => ?_, fun k hk => ?_, fun q _ => z243 q⟩, giC_zero c10 c11 (z116 1) (z116 2)⟩
  · refine ⟨fun k hk => ?_, fun lo l1 l2 => ?_, ?_, ?_, ?_, ?_⟩
    · rw [z89] at hk; omega
    · rw [z89] at l2; omega
    all_goals (rw [z89]; decide)
  · refine ⟨fun lo l1 l2 => ?_, fun k hk => ?_⟩
    · rw [z89] at l2; omega
    · rw [z89] at hk; exact absurd hk (Nat.not_lt_zero k)
  · refine ⟨fun i j h1 h2 => ?_, fun i hi => ?_, fun q q1 q2 => ?_⟩
    · rw [z89] at h2; omega
    · rw [z89] at hi; omega
    · rw [z89] at q2; omega
  · rw [h129]; rfl
  · rw [h129]; exact ⟨by decide, by decide, by decide, fun t ht => absurd ht (Nat.not_lt_zero t)⟩
  · refine ⟨fun h q1 q2 => ?_, fun t ht => absurd ht (Nat.not_lt_zero t)⟩
    rw [h129] at q2; omega
  · refine ⟨⟨by rw [m37, z89], by rw [m45, z89]⟩, fun q q1 q2 => ?_, fun k hk => ?_⟩
    · rw [z89] at q2; omega
    · rw [z89] at hk; omega
  · refine ⟨⟨by rw [m35, c7], by rw [m3.1, c8]⟩, by rw [c7]; decide, by rw [c8, c7]; decide, fun s _ => ?_⟩
    rw [z244, c9, tb_zero]
    exact ⟨Or.inl rfl, rfl⟩
  · refine ⟨Or.inl m10, by rw [z216, h129], by rw [z221]; rfl, fun t ht => absurd ht (Nat.not_lt_zero t), fun t ht => absurd ht (Nat.not_lt_zero t), fun t ht => ?_, fun h => ?_⟩
    · rw [ent] at ht; exact absurd ht (Nat.not_lt_zero t)
    · rw [h129] at h; exact absurd h (by decide)
  · rw [z266]; decide
  · rw [z122, z272]
  · rw [z272]; decide
  · rw [z89] at hk; exact absurd hk (Nat.not_lt_zero k)
