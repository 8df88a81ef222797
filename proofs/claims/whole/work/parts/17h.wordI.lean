/-! ===== what holds of a wording that was read ===== -/
def PsI (kd nm : Nat → Int) (S : PS) (k : Nat) : Prop := (S.nh ≤ 12 ∧ S.nt ≤ 24) ∧ (∀ i, i < S.nh → kd (S.hn i) = 3) ∧ (∀ i j, i < j → j < S.nh → nm (S.hn i) ≠ nm (S.hn j)) ∧ (∀ i, i < S.nt → kd (S.tn i) = 3) ∧ wOk S.w S.nt S.nh ∧ (∀ t, t < S.nt → (0 ≤ S.w t 3 ∧ S.w t 3 ≤ 999999) ∧ (0 ≤ S.w t 5 ∧ S.w t 5 ≤ 9) ∧ (0 ≤ S.w t 6 ∧ S.w t 6 ≤ 999999) ∧ (¬ S.w t 1 = 0 → 1 ≤ S.w t 3)) ∧ (∀ t, t < S.nt → S.cl t = [] ∨ (hgO 0 (S.cl t) = 1 ∧ okO 0 13 (S.cl t))) ∧ (cTo S.cl S.nt ≤ k ∧ rTo S.cl S.nt ≤ k) ∧ ∀ c, S.ct c = 0 ∨ S.ct c = 1
theorem qFo_nn {a b : Int} (ha : 0 ≤ a) (hb : 0 ≤ b) : 0 ≤ qFo a b := by unfold qFo; split <;> assumption
theorem wOk_up {w : WT} {nt : Nat} {nh nh' : Int} (h : wOk w nt nh) (h1 : nh ≤ nh') (h2 : nh' ≤ 12) : wOk w nt nh' := by
  obtain ⟨a1, a2, a3, a4⟩ := h
  refine ⟨a1, by omega, h2, fun t ht => ?_⟩
  obtain ⟨b0, b1, b2, b4, b7, bp, bs⟩ := a4 t ht
  exact ⟨by omega, b1, b2, b4, b7, fun i hi => ⟨by have := (bp i hi).1; omega, (bp i hi).2⟩, bs⟩
section
variable {kd nu nm pl : Nat → Int} {N : Nat}
theorem qTk_nn {c : Int} {k : Nat} (hp : ∀ k, 0 ≤ pl k) : 0 ≤ qTk kd pl c k := by have := hp k; unfold qTk; split <;> omega
theorem qNm_nn {lo hi : Int} {k : Nat} (hp : ∀ k, 0 ≤ pl k) : 0 ≤ qNm kd nu pl lo hi k := by have := hp k; unfold qNm; split; split; all_goals omega
theorem qHf_nn {nh : Nat} {hn : Nat → Nat} {k : Nat} (hp : ∀ k, 0 ≤ pl k) : 0 ≤ qHf kd nm pl nh hn k := by have := hp k; unfold qHf; split; split; all_goals omega
theorem qNn_nn {nh : Nat} {hn : Nat → Nat} {nt : Nat} {tn : Nat → Nat} {k : Nat} (hp : ∀ k, 0 ≤ pl k) : 0 ≤ qNn kd nm pl nh hn nt tn k := by have := hp k; unfold qNn; split; split; all_goals omega
theorem qPf_nn {nh : Nat} {hn : Nat → Nat} {own : Int} {k : Nat} {r : PT5} (hp : ∀ k, 0 ≤ pl k) : 0 ≤ qPf kd nu nm pl nh hn own k r := by
  unfold qPf
  refine qFo_nn (qNm_nn hp) (qFo_nn (qTk_nn hp) (qFo_nn (qHf_nn hp) ?_))
  have := hp (k + 2)
  unfold qP6; split <;> omega
theorem qLm_nn {k : Nat} (hp : ∀ k, 0 ≤ pl k) : 0 ≤ qLm kd nu pl k := qFo_nn (qNm_nn hp) (qFo_nn (qTk_nn hp) (qNm_nn hp))
theorem qAg_nn {k : Nat} (hp : ∀ k, 0 ≤ pl k) : 0 ≤ qAg kd nu pl k := qFo_nn (qNm_nn hp) (qFo_nn (qTk_nn hp) (qNm_nn hp))
theorem qA5_nn {ly : Int} {k : Nat} (hp : ∀ k, 0 ≤ pl k) : 0 ≤ qA5 kd nu pl ly k := by unfold qA5; split; exact qAg_nn hp; omega
theorem tk_nx (hN : kd N = 0) {i : Nat} (hi : i ≤ N) (h : kd i ≠ 0) : i + 1 ≤ N := by
  rcases (by omega : i + 1 ≤ N ∨ i = N) with w | w
  · exact w
  · exact absurd (w ▸ hN) h
theorem ps_ok {nh : Nat} {hn : Nat → Nat} {own : Int} {k : Nat} (hp : ∀ k, 0 ≤ pl k) (hN : kd N = 0) (h12 : nh ≤ 12) (ho : 0 ≤ own ∧ own < nh) (hk : k ≤ N) : 0 ≤ (qPs kd nu nm pl nh hn own k).1 ∧ ((qPs kd nu nm pl nh hn own k).1 = 0 → PtI nh own (qPs kd nu nm pl nh hn own k) ∧ k < (qPs kd nu nm pl nh hn own k).2.1 ∧ (qPs kd nu nm pl nh hn own k).2.1 ≤ N ∧ kd (qPs kd nu nm pl nh hn own k).2.1 ≠ 25 ∧ (qPs kd nu nm pl nh hn own k).2.2.1 ≤ 11) := by
  have i0 : PtI nh own (qP0 k) := ⟨fun i hi => absurd hi (Nat.not_lt_zero i), fun i j _ hj => absurd hj (Nat.not_lt_zero j), by show (0 : Int) ≤ 1000; omega⟩
  have st := lp_pt (nu := nu) (nm := nm) (hn := hn) hp hN h12 ho 12 k (qPt kd nu nm pl nh hn own k (qP0 k)) (fun y => ⟨pt_ok hp i0 y, by show k < k + 3; omega, ?_⟩) (qPf_nn hp)
  · refine ⟨st.1, fun y => ?_⟩
    obtain ⟨b1, b2, b3, b4⟩ := st.2 y
    exact ⟨b1, b2, b3, b4 (by show 13 ≤ 0 + 1 + 12; omega), PtI_many b1 h12 ho⟩
  · have y : qPf kd nu nm pl nh hn own k (qP0 k) = 0 := y
    unfold qPf at y
    rw [qFo_0, qFo_0, qFo_0, qNm_z (hp _), qTk_z (hp _), qHf_z (hp _)] at y
    obtain ⟨⟨z1, -⟩, z2, ⟨z3, -⟩, -⟩ := y
    have s1 := tk_nx hN hk (by omega)
    have s2 := tk_nx hN s1 (by omega)
    have s3 := tk_nx hN (i := k + 2) s2 (by omega)
    exact s3
theorem cd_ok {k : Nat} (hp : ∀ k, 0 ≤ pl k) (hn : ∀ k, kd k = 2 → 0 ≤ nu k ∧ nu k ≤ 999999) (h32 : ∀ k, kd k ≤ 32) (hN : kd N = 0) (hk : k ≤ N) : 0 ≤ (qCd kd nu pl k).1 ∧ ((qCd kd nu pl k).1 = 0 → k ≤ (qCd kd nu pl k).2.1 ∧ (qCd kd nu pl k).2.1 ≤ N ∧ ((qCd kd nu pl k).2.2 = [] ∧ (qCd kd nu pl k).2.1 = k ∧ kd k ≠ 20 ∨ kd k = 20 ∧ hgO 0 (qCd kd nu pl k).2.2 = 1 ∧ okO 0 13 (qCd kd nu pl k).2.2 ∧ (qCd kd nu pl k).2.2 ≠ [] ∧ (qCd kd nu pl k).2.2.length + 1 + k ≤ (qCd kd nu pl k).2.1)) := by
  unfold qCd
  split
  · rename_i q
    have s1 := tk_nx hN hk (by omega)
    have u := ch_ok hN (va_ok (nu := nu) hN hp 4) 3 (k + 1) s1
    refine ⟨u.1, fun y => ?_⟩
    obtain ⟨u1, u2, u3⟩ := u.2 y
    have ht := ch_ht (kd := kd) (m := 3 * 3 + 1) (by omega) (va_ht hn h32 hp 3) 3 (k + 1) y 0
    refine ⟨by omega, u2, Or.inr ⟨q, ht.1, ht.2, fun z => ?_, by omega⟩⟩
    rw [z] at ht
    exact absurd ht.1 (by show ¬ (0 : Nat) = 0 + 1; omega)
  · rename_i q
    exact ⟨Int.le_refl 0, fun _ => ⟨Nat.le_refl _, hk, Or.inl ⟨rfl, rfl, q⟩⟩⟩
/-- the tokens of a treaty without FAULT -/
theorem tr_tok {ly : Int} {k : Nat} {S : PS} (hp : ∀ k, 0 ≤ pl k) (hn : ∀ k, kd k = 2 → 0 ≤ nu k ∧ nu k ≤ 999999) (h32 : ∀ k, kd k ≤ 32) (hN : kd N = 0) (hk : k + 1 ≤ N) (h12 : S.nh ≤ 12) (h0 : qTrF kd nu nm pl ly k S = 0) : S.nt < 24 ∧ (kd (k + 1) = 3 ∧ qIx nm S.nh S.hn (k + 1) = -1 ∧ qIx nm S.nt S.tn (k + 1) = -1) ∧ (kd (k + 2) = 18 ∧ kd (k + 3) = 3 ∧ (0 ≤ qIx nm S.nh S.hn (k + 3) ∧ qIx nm S.nh S.hn (k + 3) < S.nh)) ∧ kd (qT1 kd k) = 10 ∧ (ly ≠ 0 → (kd (qT1 kd k + 1) = 2 ∧ 1 ≤ nu (qT1 kd k + 1) ∧ nu (qT1 kd k + 1) ≤ 999999) ∧ kd (qT1 kd k + 2) = 21 ∧ (kd (qT1 kd k + 3) = 2 ∧ 0 ≤ nu (qT1 kd k + 3) ∧ nu (qT1 kd k + 3) ≤ 999999)) ∧ (qT3 kd ly k ≤ N ∧ (qT4 kd nu nm pl ly k S).1 = 0 ∧ PtI S.nh (qIx nm S.nh S.hn (k + 3)) (qT4 kd nu nm pl ly k S) ∧ k + 5 ≤ qT3 kd ly k ∧ qT3 kd ly k < (qT4 kd nu nm pl ly k S).2.1 ∧ (qT4 kd nu nm pl ly k S).2.1 ≤ N ∧ (qT4 kd nu nm pl ly k S).2.2.1 ≤ 11 ∧ kd (qT4 kd nu nm pl ly k S).2.1 ≠ 25) ∧ (qHa kd ly (qT4 kd nu nm pl ly k S).2.1 = true → (0 ≤ nu ((qT4 kd nu nm pl ly k S).2.1 + 1) ∧ nu ((qT4 kd nu nm pl ly k S).2.1 + 1) ≤ 9) ∧ (0 ≤ nu ((qT4 kd nu nm pl ly k S).2.1 + 3) ∧ nu ((qT4 kd nu nm pl ly k S).2.1 + 3) ≤ 999999)) ∧ ((qT4 kd nu nm pl ly k S).2.1 ≤ qT5 kd ly (qT4 kd nu nm pl ly k S).2.1 ∧ qT5 kd ly (qT4 kd nu nm pl ly k S).2.1 ≤ N) ∧ ((qT6 kd nu nm pl ly k S).1 = 0 ∧ qT5 kd ly (qT4 kd nu nm pl ly k S).2.1 ≤ (qT6 kd nu nm pl ly k S).2.1 ∧ (qT6 kd nu nm pl ly k S).2.1 + 1 ≤ N ∧ kd (qT6 kd nu nm pl ly k S).2.1 = 11) ∧ ((qT6 kd nu nm pl ly k S).2.2 = [] ∨ (hgO 0 (qT6 kd nu nm pl ly k S).2.2 = 1 ∧ okO 0 13 (qT6 kd nu nm pl ly k S).2.2 ∧ (qT6 kd nu nm pl ly k S).2.2.length + 1 + qT5 kd ly (qT4 kd nu nm pl ly k S).2.1 ≤ (qT6 kd nu nm pl ly k S).2.1)) := by
  unfold qTrF at h0
  split at h0
  · have := hp k; omega
  rename_i h24
  rw [qFo_0, qFo_0, qFo_0, qFo_0, qFo_0, qFo_0, qFo_0, qFo_0, qNn_z (hp _), qTk_z (hp _), qHf_z (hp _), qTk_z (hp _), qTk_z (hp _)] at h0
  obtain ⟨a1, a2, ⟨a3, a3'⟩, a4, a5, a6, a7, a8, a9⟩ := h0
  have ix := qIx_in (nm := nm) (nh := S.nh) (hn := S.hn) (k := k + 3)
  have s1 := tk_nx hN hk (by omega)
  have s2 := tk_nx hN (i := k + 2) s1 (by omega)
  have s3 := tk_nx hN (i := k + 3) s2 (by omega)
  have t1 : k + 4 ≤ qT1 kd k ∧ qT1 kd k ≤ N := by
    unfold qT1
    split
    · rename_i y; exact ⟨by omega, tk_nx hN (i := k + 4) s3 (by omega)⟩
    · exact ⟨by omega, s3⟩
  have s4 := tk_nx hN t1.2 (by omega)
  have lm : ly ≠ 0 → (kd (qT1 kd k + 1) = 2 ∧ 1 ≤ nu (qT1 kd k + 1) ∧ nu (qT1 kd k + 1) ≤ 999999) ∧ kd (qT1 kd k + 2) = 21 ∧ (kd (qT1 kd k + 3) = 2 ∧ 0 ≤ nu (qT1 kd k + 3) ∧ nu (qT1 kd k + 3) ≤ 999999) := fun y => by
    rw [if_neg y] at a5
    unfold qLm at a5
    rw [qFo_0, qFo_0, qNm_z (hp _), qTk_z (hp _), qNm_z (hp _)] at a5
    exact a5
  have t3 : k + 5 ≤ qT3 kd ly k ∧ qT3 kd ly k ≤ N := by
    unfold qT3
    split
    · exact ⟨by omega, s4⟩
    · rename_i y
      obtain ⟨b1, b2, b3⟩ := lm y
      have s5 := tk_nx hN s4 (by omega)
      have s6 := tk_nx hN (i := qT1 kd k + 2) s5 (by omega)
      exact ⟨by omega, tk_nx hN (i := qT1 kd k + 3) s6 (by omega)⟩
  have p4 := ps_ok (kd := kd) (nu := nu) (nm := nm) (hn := S.hn) hp hN h12 ⟨by omega, ix.2.1⟩ t3.2
  obtain ⟨c1, c2, c3, c4, c5⟩ := p4.2 a6
  have ag : qHa kd ly (qT4 kd nu nm pl ly k S).2.1 = true → (0 ≤ nu ((qT4 kd nu nm pl ly k S).2.1 + 1) ∧ nu ((qT4 kd nu nm pl ly k S).2.1 + 1) ≤ 9) ∧ (0 ≤ nu ((qT4 kd nu nm pl ly k S).2.1 + 3) ∧ nu ((qT4 kd nu nm pl ly k S).2.1 + 3) ≤ 999999) ∧ (qT4 kd nu nm pl ly k S).2.1 + 4 ≤ N := fun y => by
    unfold qA5 at a7
    rw [if_pos y] at a7
    unfold qAg at a7
    rw [qFo_0, qFo_0, qNm_z (hp _), qTk_z (hp _), qNm_z (hp _)] at a7
    obtain ⟨b1, b2, b3⟩ := a7
    have y := of_decide_eq_true y
    have e1 := tk_nx hN (i := (qT4 kd nu nm pl ly k S).2.1) c3 (by omega)
    have e2 := tk_nx hN e1 (by omega)
    have e3 := tk_nx hN (i := (qT4 kd nu nm pl ly k S).2.1 + 2) e2 (by omega)
    exact ⟨b1.2, b3.2, tk_nx hN (i := (qT4 kd nu nm pl ly k S).2.1 + 3) e3 (by omega)⟩
  have t5 : (qT4 kd nu nm pl ly k S).2.1 ≤ qT5 kd ly (qT4 kd nu nm pl ly k S).2.1 ∧ qT5 kd ly (qT4 kd nu nm pl ly k S).2.1 ≤ N := by
    unfold qT5
    split
    · rename_i y; exact ⟨by omega, (ag y).2.2⟩
    · exact ⟨Nat.le_refl _, c3⟩
  have d := cd_ok (nu := nu) hp hn h32 hN t5.2
  obtain ⟨d1, d2, d3⟩ := d.2 a8
  refine ⟨by omega, a1, ⟨a2, a3, by omega, ix.2.1⟩, a4, lm, ⟨t3.2, a6, c1, t3.1, c2, c3, c5, c4⟩, fun y => ⟨(ag y).1, (ag y).2.1⟩, t5, ⟨a8, d1, tk_nx hN (i := (qT6 kd nu nm pl ly k S).2.1) d2 (by omega), a9⟩, ?_⟩
  rcases d3 with ⟨d4, -, -⟩ | ⟨-, d4, d5, -, d6⟩
  · exact Or.inl d4
  · exact Or.inr ⟨d4, d5, d6⟩
theorem tr_ok {ly : Int} {k : Nat} {S : PS} (hp : ∀ k, 0 ≤ pl k) (hn : ∀ k, kd k = 2 → 0 ≤ nu k ∧ nu k ≤ 999999) (h32 : ∀ k, kd k ≤ 32) (hN : kd N = 0) (hk : k + 1 ≤ N) (hly : ly = 0 ∨ ly = 1) (hS : PsI kd nm S k) (h0 : qTrF kd nu nm pl ly k S = 0) : PsI kd nm (qTr kd nu nm pl ly k S).2.2 (qTr kd nu nm pl ly k S).2.1 ∧ k < (qTr kd nu nm pl ly k S).2.1 ∧ (qTr kd nu nm pl ly k S).2.1 ≤ N := by
  obtain ⟨⟨i1, i2⟩, i3, i4, i5, i6, i7, i8, ⟨i9, i10⟩, i11⟩ := hS
  obtain ⟨t1, t2, t3, t4, t5, ⟨t6, t7, t8, t9, t10, t11, t12, t13⟩, t14, t15, ⟨t16, t17, t18, t19⟩, t20⟩ := tr_tok hp hn h32 hN hk i1 h0
  have kk : (qTr kd nu nm pl ly k S).2.1 = (qT6 kd nu nm pl ly k S).2.1 + 1 := rfl
  refine ⟨⟨⟨i1, by show S.nt + 1 ≤ 24; omega⟩, i3, i4, fun i hi => ?_, ⟨by show S.nt + 1 ≤ 24; omega, i6.2.1, i6.2.2.1, fun t ht => ?_⟩, fun t ht => ?_, fun t ht => ?_, ?_, i11⟩, by rw [kk]; omega, by rw [kk]; omega⟩
  · have hi : i < S.nt + 1 := hi
    show kd (uN S.tn S.nt (k + 1) i) = 3
    rcases (by omega : i < S.nt ∨ i = S.nt) with q | q
    · rw [uN_ne (by omega)]; exact i5 i q
    · subst q; rw [uN_at]; exact t2.1
  · have ht : t < S.nt + 1 := ht
    rcases (by omega : t < S.nt ∨ t = S.nt) with q | q
    · show (0 ≤ uN S.w S.nt _ t 0 ∧ uN S.w S.nt _ t 0 < (S.nh : Int)) ∧ _
      have e : uN S.w S.nt (qTrW kd nu nm pl ly k S) t = S.w t := uN_ne (by omega)
      have := i6.2.2.2 t q
      show (0 ≤ uN S.w S.nt (qTrW kd nu nm pl ly k S) t 0 ∧ uN S.w S.nt (qTrW kd nu nm pl ly k S) t 0 < (S.nh : Int)) ∧ (uN S.w S.nt (qTrW kd nu nm pl ly k S) t 1 = 0 ∨ uN S.w S.nt (qTrW kd nu nm pl ly k S) t 1 = 1) ∧ (uN S.w S.nt (qTrW kd nu nm pl ly k S) t 2 = 0 ∨ uN S.w S.nt (qTrW kd nu nm pl ly k S) t 2 = 1) ∧ (0 ≤ uN S.w S.nt (qTrW kd nu nm pl ly k S) t 4 ∧ uN S.w S.nt (qTrW kd nu nm pl ly k S) t 4 ≤ 999999) ∧ (0 ≤ uN S.w S.nt (qTrW kd nu nm pl ly k S) t 7 ∧ uN S.w S.nt (qTrW kd nu nm pl ly k S) t 7 ≤ 11) ∧ (∀ i : Nat, (i : Int) < uN S.w S.nt (qTrW kd nu nm pl ly k S) t 7 → (0 ≤ uN S.w S.nt (qTrW kd nu nm pl ly k S) t (100 + i) ∧ uN S.w S.nt (qTrW kd nu nm pl ly k S) t (100 + i) < (S.nh : Int)) ∧ (0 ≤ uN S.w S.nt (qTrW kd nu nm pl ly k S) t (200 + i) ∧ uN S.w S.nt (qTrW kd nu nm pl ly k S) t (200 + i) ≤ 1000)) ∧ sumF (fun i => uN S.w S.nt (qTrW kd nu nm pl ly k S) t (200 + i)) (uN S.w S.nt (qTrW kd nu nm pl ly k S) t 7).toNat ≤ 1000
      rw [e]; exact this
    · subst q
      show (0 ≤ uN S.w S.nt (qTrW kd nu nm pl ly k S) S.nt 0 ∧ uN S.w S.nt (qTrW kd nu nm pl ly k S) S.nt 0 < (S.nh : Int)) ∧ (uN S.w S.nt (qTrW kd nu nm pl ly k S) S.nt 1 = 0 ∨ uN S.w S.nt (qTrW kd nu nm pl ly k S) S.nt 1 = 1) ∧ (uN S.w S.nt (qTrW kd nu nm pl ly k S) S.nt 2 = 0 ∨ uN S.w S.nt (qTrW kd nu nm pl ly k S) S.nt 2 = 1) ∧ (0 ≤ uN S.w S.nt (qTrW kd nu nm pl ly k S) S.nt 4 ∧ uN S.w S.nt (qTrW kd nu nm pl ly k S) S.nt 4 ≤ 999999) ∧ (0 ≤ uN S.w S.nt (qTrW kd nu nm pl ly k S) S.nt 7 ∧ uN S.w S.nt (qTrW kd nu nm pl ly k S) S.nt 7 ≤ 11) ∧ (∀ i : Nat, (i : Int) < uN S.w S.nt (qTrW kd nu nm pl ly k S) S.nt 7 → (0 ≤ uN S.w S.nt (qTrW kd nu nm pl ly k S) S.nt (100 + i) ∧ uN S.w S.nt (qTrW kd nu nm pl ly k S) S.nt (100 + i) < (S.nh : Int)) ∧ (0 ≤ uN S.w S.nt (qTrW kd nu nm pl ly k S) S.nt (200 + i) ∧ uN S.w S.nt (qTrW kd nu nm pl ly k S) S.nt (200 + i) ≤ 1000)) ∧ sumF (fun i => uN S.w S.nt (qTrW kd nu nm pl ly k S) S.nt (200 + i)) (uN S.w S.nt (qTrW kd nu nm pl ly k S) S.nt 7).toNat ≤ 1000
      rw [uN_at]
      have e0 : qTrW kd nu nm pl ly k S 0 = qIx nm S.nh S.hn (k + 3) := rfl
      have e1 : qTrW kd nu nm pl ly k S 1 = ly := rfl
      have e2 : qTrW kd nu nm pl ly k S 2 = (if kd (k + 4) = 19 then 1 else 0) := rfl
      have e4 : qTrW kd nu nm pl ly k S 4 = (if ly = 0 then 0 else nu (qT1 kd k + 3)) := rfl
      have e7 : qTrW kd nu nm pl ly k S 7 = ((qT4 kd nu nm pl ly k S).2.2.1 : Nat) := rfl
      have e100 : ∀ i : Nat, i < 100 → qTrW kd nu nm pl ly k S (100 + i) = (qT4 kd nu nm pl ly k S).2.2.2.1 i := fun i hi => by
        unfold qTrW
        rw [if_neg (by omega), if_neg (by omega), if_neg (by omega), if_neg (by omega), if_neg (by omega), if_neg (by omega), if_neg (by omega), if_neg (by omega), if_neg (by omega), if_pos (by omega), show (100 : Int) + i - 100 = i by omega]
      have e200 : ∀ i : Nat, qTrW kd nu nm pl ly k S (200 + i) = (qT4 kd nu nm pl ly k S).2.2.2.2 i := fun i => by
        unfold qTrW
        rw [if_neg (by omega), if_neg (by omega), if_neg (by omega), if_neg (by omega), if_neg (by omega), if_neg (by omega), if_neg (by omega), if_neg (by omega), if_neg (by omega), if_neg (by omega), show (200 : Int) + i - 200 = i by omega]
      rw [e0, e1, e2, e4, e7]
      refine ⟨t3.2.2, hly, ?_, ?_, by omega, fun i hi => ?_, ?_⟩
      · split <;> omega
      · split
        · omega
        · rename_i y; exact (t5 y).2.2.2
      · rw [e100 i (by omega), e200 i]
        obtain ⟨p1, -, p2⟩ := t8.1 i (by omega)
        exact ⟨p1, p2⟩
      · rw [show (((qT4 kd nu nm pl ly k S).2.2.1 : Nat) : Int).toNat = (qT4 kd nu nm pl ly k S).2.2.1 by omega, sumF_congr (g := fun i : Nat => (qT4 kd nu nm pl ly k S).2.2.2.2 i) (fun i _ => e200 i)]
        exact t8.2.2
  · have ht : t < S.nt + 1 := ht
    show (0 ≤ uN S.w S.nt (qTrW kd nu nm pl ly k S) t 3 ∧ uN S.w S.nt (qTrW kd nu nm pl ly k S) t 3 ≤ 999999) ∧ (0 ≤ uN S.w S.nt (qTrW kd nu nm pl ly k S) t 5 ∧ uN S.w S.nt (qTrW kd nu nm pl ly k S) t 5 ≤ 9) ∧ (0 ≤ uN S.w S.nt (qTrW kd nu nm pl ly k S) t 6 ∧ uN S.w S.nt (qTrW kd nu nm pl ly k S) t 6 ≤ 999999) ∧ (¬ uN S.w S.nt (qTrW kd nu nm pl ly k S) t 1 = 0 → 1 ≤ uN S.w S.nt (qTrW kd nu nm pl ly k S) t 3)
    rcases (by omega : t < S.nt ∨ t = S.nt) with q | q
    · rw [uN_ne (by omega)]; exact i7 t q
    · subst q
      rw [uN_at]
      have e1 : qTrW kd nu nm pl ly k S 1 = ly := rfl
      have e3 : qTrW kd nu nm pl ly k S 3 = (if ly = 0 then 0 else nu (qT1 kd k + 1)) := rfl
      have e5 : qTrW kd nu nm pl ly k S 5 = (if qHa kd ly (qT4 kd nu nm pl ly k S).2.1 = true then nu ((qT4 kd nu nm pl ly k S).2.1 + 1) else 0) := rfl
      have e6 : qTrW kd nu nm pl ly k S 6 = (if qHa kd ly (qT4 kd nu nm pl ly k S).2.1 = true then nu ((qT4 kd nu nm pl ly k S).2.1 + 3) else 0) := rfl
      rw [e1, e3, e5, e6]
      refine ⟨?_, ?_, ?_, fun y => ?_⟩
      · split
        · omega
        · rename_i y; have := (t5 y).1; omega
      · split
        · rename_i y; exact (t14 y).1
        · omega
      · split
        · rename_i y; exact (t14 y).2
        · omega
      · rw [if_neg y]; exact (t5 y).1.2.1
  · have ht : t < S.nt + 1 := ht
    show uN S.cl S.nt (qT6 kd nu nm pl ly k S).2.2 t = [] ∨ (hgO 0 (uN S.cl S.nt (qT6 kd nu nm pl ly k S).2.2 t) = 1 ∧ okO 0 13 (uN S.cl S.nt (qT6 kd nu nm pl ly k S).2.2 t))
    rcases (by omega : t < S.nt ∨ t = S.nt) with q | q
    · rw [uN_ne (by omega)]; exact i8 t q
    · subst q
      rw [uN_at]
      rcases t20 with y | ⟨y1, y2, -⟩
      · exact Or.inl y
      · exact Or.inr ⟨y1, y2⟩
  · rw [kk]
    show cTo (uN S.cl S.nt (qT6 kd nu nm pl ly k S).2.2) (S.nt + 1) ≤ _ ∧ rTo (uN S.cl S.nt (qT6 kd nu nm pl ly k S).2.2) (S.nt + 1) ≤ _
    have cc := cTo_congr (cl := S.cl) (cl' := uN S.cl S.nt (qT6 kd nu nm pl ly k S).2.2) (t := S.nt) (fun i hi => uN_ne (by omega))
    rw [cTo, rTo, cc.1, cc.2, uN_at]
    rcases t20 with y | ⟨-, -, y3⟩
    · rw [if_pos y, y, List.length_nil]; omega
    · split <;> omega
theorem li_ok {k : Nat} {S : PS} (hp : ∀ k, 0 ≤ pl k) (hn : ∀ k, kd k = 2 → 0 ≤ nu k ∧ nu k ≤ 999999) (h32 : ∀ k, kd k ≤ 32) (hN : kd N = 0) (hk : k ≤ N) (h0k : kd k ≠ 0) (hS : PsI kd nm S k) : 0 ≤ (qLi kd nu nm pl k S).1 ∧ ((qLi kd nu nm pl k S).1 = 0 → PsI kd nm (qLi kd nu nm pl k S).2.2 (qLi kd nu nm pl k S).2.1 ∧ k < (qLi kd nu nm pl k S).2.1 ∧ (qLi kd nu nm pl k S).2.1 ≤ N) := by
  have hk1 := tk_nx hN hk h0k
  have hpk := hp k
  have trn : ∀ ly : Int, 0 ≤ qTrF kd nu nm pl ly k S := fun ly => by
    unfold qTrF
    split
    · omega
    by_cases z1 : qNn kd nm pl S.nh S.hn S.nt S.tn (k + 1) = 0
    · rw [qFo_r z1]
      by_cases z2 : qTk kd pl 18 (k + 2) = 0
      · rw [qFo_r z2]
        by_cases z3 : qHf kd nm pl S.nh S.hn (k + 3) = 0
        · rw [qFo_r z3]
          by_cases z4 : qTk kd pl 10 (qT1 kd k) = 0
          · rw [qFo_r z4]
            by_cases z5 : (if ly = 0 then 0 else qLm kd nu pl (qT1 kd k + 1)) = 0
            · rw [qFo_r z5]
              rw [qNn_z (hp _)] at z1
              rw [qTk_z (hp _)] at z2 z4
              rw [qHf_z (hp _)] at z3
              have ix := qIx_in (nm := nm) (nh := S.nh) (hn := S.hn) (k := k + 3)
              have s1 := tk_nx hN hk1 (by omega)
              have s2 := tk_nx hN (i := k + 2) s1 (by omega)
              have s3 := tk_nx hN (i := k + 3) s2 (by omega)
              have t1 : qT1 kd k ≤ N := by
                unfold qT1
                split
                · rename_i y; exact tk_nx hN (i := k + 4) s3 (by omega)
                · exact s3
              have s4 := tk_nx hN t1 (by omega)
              have t3 : qT3 kd ly k ≤ N := by
                unfold qT3
                split
                · exact s4
                · rename_i y
                  rw [if_neg y] at z5
                  unfold qLm at z5
                  rw [qFo_0, qFo_0, qNm_z (hp _), qTk_z (hp _), qNm_z (hp _)] at z5
                  have s5 := tk_nx hN s4 (by omega)
                  have s6 := tk_nx hN (i := qT1 kd k + 1 + 1) s5 (by omega)
                  exact tk_nx hN (i := qT1 kd k + 1 + 2) s6 (by omega)
              have p4 := ps_ok (kd := kd) (nu := nu) (nm := nm) (hn := S.hn) hp hN hS.1.1 ⟨by omega, ix.2.1⟩ t3
              by_cases z6 : (qT4 kd nu nm pl ly k S).1 = 0
              · rw [qFo_r z6]
                obtain ⟨-, -, c3, -⟩ := p4.2 z6
                by_cases z7 : qA5 kd nu pl ly (qT4 kd nu nm pl ly k S).2.1 = 0
                · rw [qFo_r z7]
                  refine qFo_nn ?_ (qTk_nn hp)
                  refine (cd_ok hp hn h32 hN ?_).1
                  unfold qT5
                  split
                  · rename_i y
                    unfold qA5 at z7
                    rw [if_pos y] at z7
                    unfold qAg at z7
                    rw [qFo_0, qFo_0, qNm_z (hp _), qTk_z (hp _), qNm_z (hp _)] at z7
                    have y := of_decide_eq_true y
                    have e1 := tk_nx hN (i := (qT4 kd nu nm pl ly k S).2.1) c3 (by omega)
                    have e2 := tk_nx hN e1 (by omega)
                    have e3 := tk_nx hN (i := (qT4 kd nu nm pl ly k S).2.1 + 2) e2 (by omega)
                    exact tk_nx hN (i := (qT4 kd nu nm pl ly k S).2.1 + 3) e3 (by omega)
                  · exact c3
                · rw [qFo_l z7]; exact qA5_nn hp
              · rw [qFo_l z6]; exact p4.1
            · rw [qFo_l z5]; split; omega; exact qLm_nn hp
          · rw [qFo_l z4]; exact qTk_nn hp
        · rw [qFo_l z3]; exact qHf_nn hp
      · rw [qFo_l z2]; exact qTk_nn hp
    · rw [qFo_l z1]; exact qNn_nn hp
  unfold qLi
  split
  · rename_i q
    refine ⟨?_, fun y => ?_⟩
    · show 0 ≤ (if 12 ≤ S.nh then 5 + 16 * pl k else qFo (qNn kd nm pl S.nh S.hn S.nt S.tn (k + 1)) (qTk kd pl 11 (k + 2)))
      split
      · omega
      · exact qFo_nn (qNn_nn hp) (qTk_nn hp)
    · have y : (if 12 ≤ S.nh then 5 + 16 * pl k else qFo (qNn kd nm pl S.nh S.hn S.nt S.tn (k + 1)) (qTk kd pl 11 (k + 2))) = 0 := y
      split at y
      · omega
      rename_i h12
      rw [qFo_0, qNn_z (hp _), qTk_z (hp _)] at y
      obtain ⟨⟨y1, y2, y3⟩, y4⟩ := y
      obtain ⟨⟨i1, i2⟩, i3, i4, i5, i6, i7, i8, ⟨i9, i10⟩, i11⟩ := hS
      have s1 := tk_nx hN hk1 (by omega)
      have s2 := tk_nx hN (i := k + 2) s1 (by omega)
      have ix := (qIx_in (nm := nm) (nh := S.nh) (hn := S.hn) (k := k + 1)).2.2 y2
      refine ⟨⟨⟨by show S.nh + 1 ≤ 12; omega, i2⟩, fun i hi => ?_, fun i j hij hj => ?_, i5, wOk_up i6 (by show (S.nh : Int) ≤ ((S.nh + 1 : Nat) : Int); omega) (by show ((S.nh + 1 : Nat) : Int) ≤ 12; omega), i7, i8, ⟨by show cTo S.cl S.nt ≤ k + 3; omega, by show rTo S.cl S.nt ≤ k + 3; omega⟩, i11⟩, by show k < k + 3; omega, s2⟩
      · have hi : i < S.nh + 1 := hi
        show kd (uN S.hn S.nh (k + 1) i) = 3
        rcases (by omega : i < S.nh ∨ i = S.nh) with q | q
        · rw [uN_ne (by omega)]; exact i3 i q
        · subst q; rw [uN_at]; exact y1
      · have hj : j < S.nh + 1 := hj
        show nm (uN S.hn S.nh (k + 1) i) ≠ nm (uN S.hn S.nh (k + 1) j)
        rcases (by omega : j < S.nh ∨ j = S.nh) with q | q
        · rw [uN_ne (by omega), uN_ne (by omega)]; exact i4 i j hij q
        · subst q; rw [uN_at, uN_ne (by omega)]; exact ix i hij
  split
  · rename_i q
    refine ⟨?_, fun y => ?_⟩
    · have p1 := hp (k + 1)
      refine qFo_nn (qNm_nn hp) (qFo_nn ?_ (qFo_nn (qTk_nn hp) (qFo_nn (qNm_nn hp) (qFo_nn (qTk_nn hp) (qFo_nn (qNm_nn hp) (qTk_nn hp))))))
      unfold qE6; split <;> omega
    · have y : qFo (qNm kd nu pl 0 7 (k + 1)) (qFo (qE6 nu pl (k + 1) S) (qFo (qTk kd pl 16 (k + 2)) (qFo (qNm kd nu pl 1 999 (k + 3)) (qFo (qTk kd pl 17 (k + 4)) (qFo (qNm kd nu pl 0 999 (k + 5)) (qTk kd pl 11 (k + 6))))))) = 0 := y
      rw [qFo_0, qFo_0, qFo_0, qFo_0, qFo_0, qFo_0, qNm_z (hp _), qTk_z (hp _), qNm_z (hp _), qTk_z (hp _), qNm_z (hp _), qTk_z (hp _)] at y
      obtain ⟨y1, -, y2, y3, y4, y5, y6⟩ := y
      obtain ⟨⟨i1, i2⟩, i3, i4, i5, i6, i7, i8, ⟨i9, i10⟩, i11⟩ := hS
      have s1 := tk_nx hN hk1 (by omega)
      have s2 := tk_nx hN (i := k + 2) s1 (by omega)
      have s3 := tk_nx hN (i := k + 3) s2 (by omega)
      have s4 := tk_nx hN (i := k + 4) s3 (by omega)
      have s5 := tk_nx hN (i := k + 5) s4 (by omega)
      have s6 := tk_nx hN (i := k + 6) s5 (by omega)
      refine ⟨⟨⟨i1, i2⟩, i3, i4, i5, i6, i7, i8, ⟨by show cTo S.cl S.nt ≤ k + 7; omega, by show rTo S.cl S.nt ≤ k + 7; omega⟩, fun c => ?_⟩, by show k < k + 7; omega, s6⟩
      show uF S.ct (nu (k + 1)) 1 c = 0 ∨ uF S.ct (nu (k + 1)) 1 c = 1
      by_cases w : c = nu (k + 1)
      · rw [w, uF_at]; exact Or.inr rfl
      · rw [uF_ne w]; exact i11 c
  split
  · exact ⟨trn 0, fun y => tr_ok hp hn h32 hN hk1 (Or.inl rfl) hS y⟩
  split
  · exact ⟨trn 1, fun y => tr_ok hp hn h32 hN hk1 (Or.inr rfl) hS y⟩
  · exact ⟨by show 0 ≤ 1 + 16 * pl k; omega, fun y => by have y : 1 + 16 * pl k = 0 := y; omega⟩
end
