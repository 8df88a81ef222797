/-! ===== a wording taken by both: the reckonings' inputs ===== -/
theorem WfC_S {S : PS} {kd nm : Nat → Int} {k t : Nat} (hI : PsI kd nm S k) (ht : t < S.nt) : WfC (ccS S t) (cnS S t) := by
  rcases hI.2.2.2.2.2.2.1 t ht with q | ⟨q1, q2⟩
  · show WfC (fun k => (S.cl t).getD k (0, 0)) (S.cl t).length
    rw [q]
    exact ⟨fun k hk => absurd hk (Nat.not_lt_zero k), Or.inl rfl⟩
  · exact WfC_of q1 q2
theorem StC_TmC {s : Int → Int} {n T k : Nat} {S : PS} {kd nm : Nat → Int} {D : Nat → Int → Int} (hI : PsI kd nm S k) (hk : k ≤ 1500) (hS : StC s n T S D) : TmC T S.nt (cnS S) (ccS S) D := by
  have hw := hI.2.2.2.2.1
  have we := StC_wEq hw hS
  obtain ⟨⟨h0, h1⟩, -, -, hf, htr, h9, -⟩ := id hS
  refine ⟨h1, by rw [h0]; exact wOk_wEq we hw, ⟨fun h q1 q2 => ?_, fun t ht => ?_⟩, fun t ht => ?_, fun t ht => ?_, fun t ht => ?_⟩
  · rw [h0] at q2
    have := (hf h.toNat (by omega)).1
    rw [show ((h.toNat : Nat) : Int) = h by omega] at this
    rw [this, nxT_w0 S.nt 0 (fun s q => ((we s (by omega)).1))]
  · have e := (htr t ht).2.2.2.2.2.2
    rw [e, (we t ht).1, nxT_w0 (S.nt - (t + 1)) (t + 1) (fun s q => ((we s (by omega)).1))]
  · have a1 := (htr t ht).1
    have b := hI.2.2.2.2.2.1 t ht
    have e : ∀ j : Int, 0 ≤ j → j < 8 → wC D T t j = S.w t j := fun j q1 q2 => by unfold wC; rw [if_pos (by omega)]; exact a1 j q1 q2
    rw [e 3 (by decide) (by decide), e 5 (by decide) (by decide), e 6 (by decide) (by decide), e 1 (by decide) (by decide)]
    exact b
  · obtain ⟨-, -, -, e10, e11, en, -⟩ := htr t ht
    have le := (cTo_le (cl := S.cl) (show t + 1 ≤ S.nt by omega)).1
    rw [cTo] at le
    have i8 := hI.2.2.2.2.2.2.2.1.1
    refine ⟨WfC_S hI ht, by rw [e10]; show _ ∧ ((cTo S.cl t : Nat) : Int) + ((S.cl t).length : Nat) ≤ 1500; omega, by rw [e10, e11], fun k' hk' => ?_⟩
    rw [e10]; exact EncL_at en k' hk'
  · have := (htr t ht).2.2.1.2
    rw [this]; omega
theorem CpW_of {s ws : Int → Int} {n T nx k : Nat} {S : PS} {kd nm : Nat → Int} {D : Nat → Int → Int} (hI : PsI kd nm S k) (hk : k ≤ 1500) (hC : StC s n T S D) (hM : StM s ws n nx S D) (h10 : D 210 10 = (nx : Nat)) (hx : nx ≤ 1) : CpW T S.nt (cnS S) (ccS S) D := by
  have hw := hI.2.2.2.2.1
  have we := StC_wEq hw hC
  obtain ⟨⟨n1, -, n3, -⟩, tr, -, cau⟩ := id hM
  obtain ⟨⟨h0, h1⟩, -, -, -, htr, -, hca⟩ := id hC
  have cst : ∀ t : Nat, 24 * (nx : Int) + (t : Int) = ((24 * nx + t : Nat) : Int) := fun t => by omega
  have m : ∀ t, t < S.nt → wM D t 0 = S.w t 0 ∧ wM D t 1 = S.w t 1 ∧ wM D t 2 = S.w t 2 ∧ wM D t 3 = (if S.w t 1 = 0 then 1 else S.w t 3) ∧ wM D t 4 = S.w t 4 ∧ wM D t 5 = S.w t 5 ∧ wM D t 6 = S.w t 6 ∧ wM D t 7 = S.w t 7 ∧ ∀ i : Nat, (i : Int) < S.w t 7 → wM D t (100 + i) = S.w t (100 + i) ∧ wM D t (200 + i) = S.w t (200 + i) := fun t ht => by
    obtain ⟨⟨a1, a2, a3⟩, ⟨b1, b2, b3, b4⟩, c, e, -⟩ := tr t ht
    have w7 := (hw.2.2.2 t ht).2.2.2.2.1
    unfold wM
    rw [h10, cst t]
    refine ⟨a2, a1, a3, b1, b2, b3, b4, c, fun i hi => ⟨?_, ?_⟩⟩
    · rw [if_neg (by omega), if_pos (by omega), show 12 * ((24 * nx + t : Nat) : Int) + (100 + (i : Int) - 100) = ((12 * (24 * nx + t) + i : Nat) : Int) by omega]; exact (e i hi).1
    · rw [if_neg (by omega), if_neg (by omega), show 12 * ((24 * nx + t : Nat) : Int) + (200 + (i : Int) - 200) = ((12 * (24 * nx + t) + i : Nat) : Int) by omega]; exact (e i hi).2
  have c8 : ∀ t, t < S.nt → ∀ j : Int, 0 ≤ j → j < 8 → wC D T t j = S.w t j := fun t ht j q1 q2 => by unfold wC; rw [if_pos (by omega)]; exact (htr t ht).1 j q1 q2
  refine ⟨by omega, by rw [h10, h0]; exact n1, by rw [h10]; exact n3, fun t ht => ?_, fun t ht => ?_, fun t ht => ?_, fun _ c q1 q2 => ?_⟩
  · obtain ⟨m0, m1, m2, m3, m4, m5, m6, m7, mi⟩ := m t ht
    obtain ⟨e0, e1, e2, e4, e7, ei⟩ := we t ht
    rw [m0, m1, m2, m4, m7, e0, e1, e2, e4, e7]
    exact ⟨rfl, rfl, rfl, rfl, rfl, fun i hi => by rw [(mi i hi).1, (mi i hi).2, (ei i hi).1, (ei i hi).2]; exact ⟨rfl, rfl⟩⟩
  · obtain ⟨m0, m1, m2, m3, m4, m5, m6, m7, mi⟩ := m t ht
    have b := hI.2.2.2.2.2.1 t ht
    rw [m3, m5, m6, c8 t ht 1 (by decide) (by decide), c8 t ht 3 (by decide) (by decide), c8 t ht 5 (by decide) (by decide), c8 t ht 6 (by decide) (by decide)]
    refine ⟨fun q => ⟨if_neg q, rfl, rfl⟩, ?_, b.2.1, b.2.2.1⟩
    split
    · omega
    · exact b.1
  · have ent : ntM D = S.nt := by show (D 221 (D 210 10)).toNat = S.nt; rw [h10, n3]; omega
    rw [ent] at ht
    obtain ⟨-, -, -, -, f, g⟩ := tr t ht
    rw [h10, cst t]
    refine ⟨WfC_S hI ht, ?_⟩
    by_cases q : S.cl t = []
    · refine Or.inl ⟨by show (S.cl t).length = 0; rw [q]; rfl, by rw [f q]; omega⟩
    · obtain ⟨g1, g2, g3⟩ := g q
      have le := (cTo_le (cl := S.cl) (show t + 1 ≤ S.nt by omega)).2
      rw [rTo, if_neg q] at le
      have i8 := hI.2.2.2.2.2.2.2.1.2
      have pos : 0 < (S.cl t).length := List.length_pos_iff.mpr q
      rw [g1]
      refine Or.inr ⟨pos, ⟨by omega, by show ((1600 * nx + rTo S.cl t : Nat) : Int) + ((S.cl t).length : Nat) < 3200; omega⟩, fun k' hk' => OpL_at g2 k' hk', ?_⟩
      rw [show ((1600 * nx + rTo S.cl t : Nat) : Int) + ((cnS S t : Nat) : Int) = ((1600 * nx + rTo S.cl t + (S.cl t).length : Nat) : Int) by show ((1600 * nx + rTo S.cl t : Nat) : Int) + (((S.cl t).length : Nat) : Int) = _; omega]
      exact g3
  · have a := cau c.toNat (by omega)
    have b := hca c q1 q2
    rw [show ((8 * nx + c.toNat : Nat) : Int) = 8 * (nx : Int) + c by omega, show ((c.toNat : Nat) : Int) = c by omega] at a
    rw [h10, a.2.1, a.2.2, b.2.1, b.2.2]
    exact ⟨rfl, rfl⟩
/-- what a draft read without FAULT is -/
theorem dr_ok {kd nu nm pl : Nat → Int} {N : Nat} (hp : ∀ k, 0 ≤ pl k) (hn : ∀ k, kd k = 2 → 0 ≤ nu k ∧ nu k ≤ 999999) (h32 : ∀ k, kd k ≤ 32) (hN : kd N = 0) : ∀ (f k : Nat) (S : PS), k ≤ N → PsI kd nm S k → (qDr kd nu nm pl f k S).1 = 0 → (qDr kd nu nm pl f k S).2.1 ≤ N ∧ PsI kd nm (qDr kd nu nm pl f k S).2.2 (qDr kd nu nm pl f k S).2.1 := by
  intro f
  induction f with
  | zero => intro k S hk hI _; exact ⟨hk, hI⟩
  | succ f ih =>
    intro k S hk hI h0
    rw [qDr] at h0 ⊢
    by_cases q : kd k = 0
    · rw [if_pos q] at h0 ⊢; exact ⟨hk, hI⟩
    · rw [if_neg q] at h0 ⊢
      have lok := li_ok (kd := kd) (nu := nu) (nm := nm) (pl := pl) hp hn h32 hN hk q hI
      by_cases q2 : (qLi kd nu nm pl k S).1 = 0
      · rw [if_pos q2] at h0 ⊢
        obtain ⟨l1, l2, l3⟩ := lok.2 q2
        exact ih _ _ l3 l1 h0
      · rw [if_neg q2] at h0; exact absurd h0 q2
