/-! ===== conditions: the reference's reader ===== -/
def FrK (nx c : Nat) (D D' : Nat → Int → Int) : Prop := (∀ q, q ≠ 210 → q ≠ 234 → q ≠ 235 → D' q = D q) ∧ (∀ j : Int, j ≠ 7 → j ≠ 8 → j ≠ 30 → D' 210 j = D 210 j) ∧ ∀ j : Int, (j < ((1600 * nx + c : Nat) : Int) ∨ ((1600 * nx + 1600 : Nat) : Int) ≤ j) → D' 234 j = D 234 j ∧ D' 235 j = D 235 j
theorem FrK_refl {nx c : Nat} {D : Nat → Int → Int} : FrK nx c D D := ⟨fun _ _ _ _ => rfl, fun _ _ _ _ => rfl, fun _ _ => ⟨rfl, rfl⟩⟩
theorem FrK_trans {nx c c' : Nat} {A B C : Nat → Int → Int} (hc : c ≤ c') (h : FrK nx c A B) (g : FrK nx c' B C) : FrK nx c A C := ⟨fun r q1 q2 q3 => (g.1 r q1 q2 q3).trans (h.1 r q1 q2 q3), fun j q1 q2 q3 => (g.2.1 j q1 q2 q3).trans (h.2.1 j q1 q2 q3), fun j q => ⟨(g.2.2 j (by omega)).1.trans (h.2.2 j q).1, (g.2.2 j (by omega)).2.trans (h.2.2 j q).2⟩⟩
theorem FrK_210 {nx c : Nat} {D : Nat → Int → Int} {i v : Int} (h : i = 7 ∨ i = 8 ∨ i = 30) : FrK nx c D (aUp D 210 i v) := ⟨fun r q _ _ => aUp_row q, fun j q1 q2 q3 => aUp_ne (by omega), fun j _ => ⟨by rw [aUp_row (by decide)], by rw [aUp_row (by decide)]⟩⟩
theorem FrK_RfH {s ws : Int → Int} {n N nx c : Nat} {D D' : Nat → Int → Int} (h : FrK nx c D D') (hH : RfH s ws n N D) : RfH s ws n N D' := RfH_keep hH (h.1 212 (by decide) (by decide) (by decide)) (h.1 213 (by decide) (by decide) (by decide)) (h.1 214 (by decide) (by decide) (by decide)) (h.1 215 (by decide) (by decide) (by decide))
abbrev emU (nx c : Nat) (a b : Int) (D : Nat → Int → Int) : Nat → Int → Int := aUp (aUp (aUp D 234 ((1600 * nx + c : Nat) : Int) a) 235 ((1600 * nx + c : Nat) : Int) b) 210 30 ((c + 1 : Nat) : Int)
theorem em_row {nx c r : Nat} {a b : Int} {D : Nat → Int → Int} (q1 : r ≠ 210) (q2 : r ≠ 234) (q3 : r ≠ 235) : emU nx c a b D r = D r := by
  show aUp (aUp (aUp D 234 _ a) 235 _ b) 210 30 _ r = _
  rw [aUp_row q1, aUp_row q3, aUp_row q2]
theorem em_210 {nx c : Nat} {a b j : Int} {D : Nat → Int → Int} (q : j ≠ 30) : emU nx c a b D 210 j = D 210 j := by
  show aUp (aUp (aUp D 234 _ a) 235 _ b) 210 30 _ 210 j = _
  rw [aUp_ne q, aUp_row (by decide), aUp_row (by decide)]
theorem em_30 {nx c : Nat} {a b : Int} {D : Nat → Int → Int} : emU nx c a b D 210 30 = ((c + 1 : Nat) : Int) := aUp_at
theorem em_234 {nx c : Nat} {a b : Int} {D : Nat → Int → Int} : emU nx c a b D 234 = uF (D 234) ((1600 * nx + c : Nat) : Int) a := by
  show aUp (aUp (aUp D 234 _ a) 235 _ b) 210 30 _ 234 = _
  rw [aUp_row (by decide), aUp_row (by decide), aUp_same]
theorem em_235 {nx c : Nat} {a b : Int} {D : Nat → Int → Int} : emU nx c a b D 235 = uF (D 235) ((1600 * nx + c : Nat) : Int) b := by
  show aUp (aUp (aUp D 234 _ a) 235 _ b) 210 30 _ 235 = _
  rw [aUp_row (by decide), aUp_same, aUp_row (by decide)]
theorem FrK_em {nx c c' : Nat} {a b : Int} {D : Nat → Int → Int} (h : c ≤ c') (h16 : c' < 1600) : FrK nx c D (emU nx c' a b D) := ⟨fun r q1 q2 q3 => em_row q1 q2 q3, fun j _ _ q3 => em_210 q3, fun j q => ⟨by rw [em_234, uF_ne (by omega)], by rw [em_235, uF_ne (by omega)]⟩⟩
/-- a condition was read from token k on: its steps lie from c on; a FAULT leaves at most m steps more than tokens -/
def ExM (nx c m : Nat) (D : Nat → Int → Int) (r : RE) (D' : Nat → Int → Int) : Prop := FrK nx c D D' ∧ (r.1 = 0 → D' 210 8 = 0 ∧ D' 210 7 = (r.2.1 : Nat) ∧ D' 210 30 = ((c + r.2.2.length : Nat) : Int) ∧ OpL (D' 234) (D' 235) ((1600 * nx + c : Nat) : Int) r.2.2) ∧ (r.1 ≠ 0 → D' 210 8 = r.1 ∧ (0 ≤ D' 210 7 ∧ D' 210 7 ≤ 1500) ∧ ∃ c' : Nat, D' 210 30 = (c' : Nat) ∧ c ≤ c' ∧ c' ≤ 1500 + m)
theorem ExM_up {nx c m m' : Nat} {D D' : Nat → Int → Int} {r : RE} (hm : m ≤ m') (h : ExM nx c m D r D') : ExM nx c m' D r D' := ⟨h.1, h.2.1, fun q => by
  obtain ⟨a1, a2, c', a3, a4, a5⟩ := h.2.2 q
  exact ⟨a1, a2, c', a3, a4, by omega⟩⟩
theorem ExM_op {nx c m m2 : Nat} {D D1 D2 : Nat → Int → Int} {r v : RE} {a b : Int} (h1 : ExM nx c m D r D1) (r0 : r.1 = 0) (h2 : ExM nx (c + r.2.2.length) m2 (aUp D1 210 7 ((r.2.1 + 1 : Nat) : Int)) v D2) (v0 : v.1 = 0) (h16 : c + r.2.2.length + v.2.2.length < 1600) : ExM nx c m D (v.1, v.2.1, r.2.2 ++ v.2.2 ++ [(a, b)]) (emU nx (c + r.2.2.length + v.2.2.length) a b D2) := by
  obtain ⟨f1, g1, -⟩ := h1
  obtain ⟨f2, g2, -⟩ := h2
  obtain ⟨x8, x7, x30, xo⟩ := g1 r0
  obtain ⟨y8, y7, y30, yo⟩ := g2 v0
  have fa : FrK nx c D1 (aUp D1 210 7 ((r.2.1 + 1 : Nat) : Int)) := FrK_210 (Or.inl rfl)
  have e4 : emU nx (c + r.2.2.length + v.2.2.length) a b D2 234 = uF (D2 234) ((1600 * nx + (c + r.2.2.length + v.2.2.length) : Nat) : Int) a := em_234
  have e5 : emU nx (c + r.2.2.length + v.2.2.length) a b D2 235 = uF (D2 235) ((1600 * nx + (c + r.2.2.length + v.2.2.length) : Nat) : Int) b := em_235
  refine ⟨FrK_trans (Nat.le_refl c) (FrK_trans (Nat.le_add_right c _) (FrK_trans (Nat.le_refl c) f1 fa) f2) (FrK_em (by omega) h16), fun _ => ⟨?_, ?_, ?_, ?_⟩, fun q => absurd v0 q⟩
  · rw [em_210 (by decide)]; exact y8
  · rw [em_210 (by decide)]; exact y7
  · rw [em_30]
    show ((c + r.2.2.length + v.2.2.length + 1 : Nat) : Int) = ((c + (r.2.2 ++ v.2.2 ++ [(a, b)]).length : Nat) : Int)
    rw [List.length_append, List.length_append, List.length_cons, List.length_nil]; omega
  · show OpL _ _ _ (r.2.2 ++ v.2.2 ++ [(a, b)])
    rw [OpL_app, OpL_app, e4, e5, List.length_append]
    refine ⟨⟨OpL_congr (fun j j1 j2 => ?_) xo, ?_⟩, ⟨?_, ?_⟩, trivial⟩
    · have k2 := f2.2.2 j (Or.inl (by omega))
      rw [uF_ne (by omega), uF_ne (by omega), k2.1, k2.2, aUp_row (by decide), aUp_row (by decide)]
      exact ⟨rfl, rfl⟩
    · rw [show ((1600 * nx + c : Nat) : Int) + (r.2.2.length : Nat) = ((1600 * nx + (c + r.2.2.length) : Nat) : Int) by omega]
      refine OpL_congr (fun j j1 j2 => ?_) yo
      rw [uF_ne (by omega), uF_ne (by omega)]
      exact ⟨rfl, rfl⟩
    · rw [show ((1600 * nx + c : Nat) : Int) + ((r.2.2.length + v.2.2.length : Nat) : Int) = ((1600 * nx + (c + r.2.2.length + v.2.2.length) : Nat) : Int) by omega, uF_at]
    · rw [show ((1600 * nx + c : Nat) : Int) + ((r.2.2.length + v.2.2.length : Nat) : Int) = ((1600 * nx + (c + r.2.2.length + v.2.2.length) : Nat) : Int) by omega, uF_at]
theorem ExM_bad {nx c cr m m2 c' : Nat} {D D1 D2 : Nat → Int → Int} {v w : RE} {a b x : Int} (h1 : FrK nx c D D1) (hcr : c ≤ cr) (h2 : ExM nx cr m2 (aUp D1 210 7 x) v D2) (v0 : v.1 ≠ 0) (hw : w.1 = v.1) (hc' : D2 210 30 = (c' : Nat)) (hm : m2 + 1 ≤ m) (h95 : m2 ≤ 90) : c' < 1600 ∧ ExM nx c m D w (emU nx c' a b D2) := by
  obtain ⟨f2, -, g2⟩ := h2
  obtain ⟨x8, x7, c2, x30, xc, xm⟩ := g2 v0
  have : c2 = c' := by omega
  subst this
  refine ⟨by omega, FrK_trans (Nat.le_refl c) (FrK_trans hcr (FrK_trans (Nat.le_refl c) h1 (FrK_210 (Or.inl rfl))) f2) (FrK_em (Nat.le_trans hcr xc) (by omega)), fun q => absurd (hw ▸ q) v0, fun _ => ⟨?_, ?_, c2 + 1, em_30, by omega, by omega⟩⟩
  · rw [em_210 (by decide), hw]; exact x8
  · rw [em_210 (by decide)]; exact x7
theorem lpE_bad {kd : Nat → Int} {j f : Nat} {U : Nat → RE} {r : RE} (h : r.1 ≠ 0) : lpE kd j U f r = r := by
  cases f with
  | zero => rfl
  | succ f => rw [lpE, if_neg (fun q => h q.1)]
/-- the contract of a level -/
def LvM (G : aCX) (l : Launch) (K : Nat → aKd) (z : Nat × Nat) (s ws : Int → Int) (n N nx y h m : Nat) (dep : Int) (U : Nat → RE) : Prop := ∀ (d : Nat), h ≤ d → ∀ (P : Int → aSt → Prop) (D : Nat → Int → Int) (k c : Nat), RfH s ws n N D → D 210 11 = (nx : Nat) → D 210 8 = 0 → D 210 7 = (k : Nat) → k ≤ N → D 210 30 = (c : Nat) → c ≤ k → (∀ D', ExM nx c m D (U k) D' → P 0 (K, D', z)) → VM G l d y [rf 210, (0, dep)] (K, D, z) P
section
variable {G : aCX} {l : Launch} {d : Nat} {K : Nat → aKd} {D : Nat → Int → Int} {z : Nat × Nat} {P : Int → aSt → Prop}
theorem u_sums {s ws : Int → Int} {n N nx h m : Nat} {dep : Int} {U : Nat → RE} (hk : Kn K) (hx2 : nx ≤ 1) (h4 : 4 ≤ h) (hm : m ≤ 90) (okU : ∀ k, k ≤ N → OkR N k (U k)) (hU : LvM G l K z s ws n N nx iX12_takeValue h m dep U) : LvM G l K z s ws n N nx iX12_sums (h + 1) (m + 1) dep (fun k => lpE (kT s n ws) 0 U 1500 (U k)) := by
  intro d hd P D k c hH hnx h8 h7 hkN h30 hck kk
  have kk : ∀ D', ExM nx c (m + 1) D (lpE (kT s n ws) 0 U 1500 (U k)) D' → P 0 (K, D', z) := kk
  obtain ⟨d, rfl⟩ : ∃ d', d = d' + 3 := ⟨d - 3, by omega⟩
  have b2 := hH.2.1
  have b3 := hH.2.2.1
  have dead : ∀ (D1 : Nat → Int → Int) (u2 : aTV), 0 < D1 210 8 → P 0 (K, D1, z) → V G l (d + 3) iX12_sums 5 [rf 210, (0, dep), u2] [] (K, D1, z) P := by
    intro D1 u2 q8 hP
    refine s_al0 rfl ?_
    refine s_ic rfl ?_
    refine s_callO rfl rfl (Or.inl rfl) rfl rfl (hk.at rfl rfl) (u_isSignD hk q8 ?_)
    show V G l (d + 3) iX12_sums 11 [rf 210, (0, dep), u2] [(0, 0)] (K, D1, z) P
    refine s_zne rfl ?_ ?_
    · intro h11
      exact absurd rfl h11
    · intro h11
      refine s_al0 rfl ?_
      refine s_ic rfl ?_
      refine s_callO rfl rfl (Or.inl rfl) rfl rfl (hk.at rfl rfl) (u_isSignD hk q8 ?_)
      show V G l (d + 3) iX12_sums 20 [rf 210, (0, dep), u2] [(0, 0)] (K, D1, z) P
      refine s_zeq rfl ?_ ?_
      · intro h20
        refine s_retv rfl rfl ?_
        exact hP
      · intro h20
        exact absurd rfl h20
  have loop : ∀ (f : Nat) (D1 : Nat → Int → Int) (r : RE) (u2 : aTV), N ≤ r.2.1 + f → r.1 = 0 → OkR N k r → ExM nx c (m + 1) D r D1 → lpE (kT s n ws) 0 U f r = lpE (kT s n ws) 0 U 1500 (U k) → V G l (d + 3) iX12_sums 5 [rf 210, (0, dep), u2] [] (K, D1, z) P := by
    intro f
    induction f with
    | zero =>
      intro D1 r u2 hf r0 hok hX he
      obtain ⟨x1, x2, -⟩ := id hX
      obtain ⟨x8, x7, x30, xo⟩ := x2 r0
      have hH1 := FrK_RfH x1 hH
      obtain ⟨o1, o2, o3⟩ := hok.2 r0
      have hrN : r.2.1 ≤ N := o2
      have hr : r.2.1 = N := by omega
      have he : r = _ := he
      have nA : ¬ kT s n ws r.2.1 = 8 := by rw [hr, b3]; decide
      have nB : ¬ kT s n ws r.2.1 = 9 := by rw [hr, b3]; decide
      refine s_al0 rfl ?_
      refine s_ic rfl ?_
      refine s_callO rfl rfl (Or.inl rfl) rfl rfl (hk.at rfl rfl) (u_isSign (c := 43) hk hH1 x8 x7 hrN (by decide) ?_)
      show V G l (d + 3) iX12_sums 11 [rf 210, (0, dep), u2] [(0, if kT s n ws r.2.1 = 8 then 1 else 0)] (K, D1, z) P
      rw [if_neg nA]
      refine s_zne rfl ?_ ?_
      · intro h11
        exact absurd rfl h11
      · intro h11
        refine s_al0 rfl ?_
        refine s_ic rfl ?_
        refine s_callO rfl rfl (Or.inl rfl) rfl rfl (hk.at rfl rfl) (u_isSign (c := 45) hk hH1 x8 x7 hrN (by decide) ?_)
        show V G l (d + 3) iX12_sums 20 [rf 210, (0, dep), u2] [(0, if kT s n ws r.2.1 = 9 then 1 else 0)] (K, D1, z) P
        rw [if_neg nB]
        refine s_zeq rfl ?_ ?_
        · intro h20
          refine s_retv rfl rfl ?_
          refine kk D1 ?_
          rw [← he]; exact hX
        · intro h20
          exact absurd rfl h20
    | succ f ih =>
      intro D1 r u2 hf r0 hok hX he
      obtain ⟨x1, x2, -⟩ := id hX
      obtain ⟨x8, x7, x30, xo⟩ := x2 r0
      have hH1 := FrK_RfH x1 hH
      obtain ⟨o1, o2, o3⟩ := hok.2 r0
      have hrN : r.2.1 ≤ N := o2
      rw [lpE] at he
      have go : lvOk 0 (kT s n ws r.2.1) = true → V G l (d + 3) iX12_sums 23 [rf 210, (0, dep), u2] [] (K, D1, z) P := by
        intro hl
        have hl2 : kT s n ws r.2.1 = 8 ∨ kT s n ws r.2.1 = 9 := of_decide_eq_true hl
        rw [if_pos ⟨r0, hl⟩] at he
        have hlt : r.2.1 + 1 ≤ N := tk_nx (kd := kT s n ws) b3 hrN (by omega)
        have hu := okU (r.2.1 + 1) hlt
        have last : ∀ (D2 : Nat → Int → Int) (cs a : Int) (u : Int), a = opE (kT s n ws r.2.1) → ExM nx (c + r.2.2.length) m (aUp D1 210 7 ((r.2.1 + 1 : Nat) : Int)) (U (r.2.1 + 1)) D2 → V G l (d + 3) iX12_sums 55 [rf 210, (0, dep), (0, u)] [(0, a), rf 210] (K, D2, z) P := by
          intro D2 cs a u ha hX2
          have f2 : FrK nx c D D2 := FrK_trans (Nat.le_add_right c _) (FrK_trans (Nat.le_refl c) x1 (FrK_210 (Or.inl rfl))) hX2.1
          have hn2 : D2 210 11 = (nx : Nat) := by rw [f2.2.1 11 (by decide) (by decide) (by decide)]; exact hnx
          refine s_ic rfl ?_
          by_cases v0 : (U (r.2.1 + 1)).1 = 0
          · obtain ⟨y8, y7, y30, yo⟩ := hX2.2.1 v0
            obtain ⟨u1, u2', u3⟩ := hu.2 v0
            have lt16 : c + r.2.2.length + (U (r.2.1 + 1)).2.2.length < 1600 := by omega
            refine s_callO rfl rfl (Or.inl rfl) rfl rfl (hk.at rfl rfl) (u_emit hk hn2 hx2 y30 lt16 ?_)
            show V G l (d + 3) iX12_sums 59 [rf 210, (0, dep), (0, u)] [] (K, _, z) P
            refine s_go rfl ?_
            have st := ExM_op (a := a) (b := 0) hX r0 hX2 v0 lt16
            rw [ha] at st ⊢
            refine ih _ ((U (r.2.1 + 1)).1, (U (r.2.1 + 1)).2.1, r.2.2 ++ (U (r.2.1 + 1)).2.2 ++ [(opE (kT s n ws r.2.1), 0)]) _ (by show N ≤ (U (r.2.1 + 1)).2.1 + f; omega) v0 ⟨hu.1, fun _ => ⟨by show k < (U (r.2.1 + 1)).2.1; omega, u2', ?_⟩⟩ st he
            show (r.2.2 ++ (U (r.2.1 + 1)).2.2 ++ [(opE (kT s n ws r.2.1), 0)]).length + k ≤ (U (r.2.1 + 1)).2.1
            rw [List.length_append, List.length_append, List.length_cons, List.length_nil]; omega
          · obtain ⟨y8, y7, c', y30, yc, ym⟩ := hX2.2.2 v0
            have st := ExM_bad (a := a) (b := 0) (m := m + 1) (w := lpE (kT s n ws) 0 U 1500 (U k)) x1 (Nat.le_add_right c _) hX2 v0 (by rw [← he, lpE_bad (r := ((U (r.2.1 + 1)).1, (U (r.2.1 + 1)).2.1, r.2.2 ++ (U (r.2.1 + 1)).2.2 ++ [(opE (kT s n ws r.2.1), 0)])) v0]) y30 (Nat.le_refl _) hm
            refine s_callO rfl rfl (Or.inl rfl) rfl rfl (hk.at rfl rfl) (u_emit hk hn2 hx2 y30 st.1 ?_)
            show V G l (d + 3) iX12_sums 59 [rf 210, (0, dep), (0, u)] [] (K, _, z) P
            refine s_go rfl ?_
            refine dead _ _ ?_ (kk _ st.2)
            have e8 : emU nx c' a 0 D2 210 8 = (U (r.2.1 + 1)).1 := by rw [em_210 (by decide)]; exact y8
            show 0 < emU nx c' a 0 D2 210 8
            rw [e8]
            have := hu.1
            omega
        refine s_al0 rfl ?_
        refine s_ic rfl ?_
        refine s_callO rfl rfl (Or.inl rfl) rfl rfl (hk.at rfl rfl) (u_isSign (c := 43) hk hH1 x8 x7 hrN (by decide) ?_)
        show V G l (d + 3) iX12_sums 29 [rf 210, (0, dep), u2] [(0, if kT s n ws r.2.1 = 8 then 1 else 0)] (K, D1, z) P
        generalize hcc : (if kT s n ws r.2.1 = 8 then (1 : Int) else 0) = cc
        refine s_is2 rfl rfl ?_
        refine s_al0 rfl ?_
        refine s_dup rfl (by first | decide | (show (2 : Nat) ≠ 1; decide)) ?_
        refine s_gi rfl (hk.at rfl rfl) rfl ?_
        rw [x7]
        refine s_ic rfl ?_
        refine s_iadd rfl ⟨by omega, by omega⟩ ?_
        rw [show ((r.2.1 : Nat) : Int) + 1 = ((r.2.1 + 1 : Nat) : Int) by omega]
        refine s_pi rfl (hk.at rfl rfl) rfl ?_
        refine s_al0 rfl ?_
        refine s_il1 rfl ?_
        refine s_callO rfl rfl (Or.inl rfl) rfl rfl (hk.at rfl rfl) (hU (d + 2) (by omega) _ (aUp D1 210 7 ((r.2.1 + 1 : Nat) : Int)) (r.2.1 + 1) (c + r.2.2.length) (FrK_RfH (FrK_210 (c := c) (nx := nx) (Or.inl rfl)) hH1) (by rw [aUp_ne (by decide), x1.2.1 11 (by decide) (by decide) (by decide)]; exact hnx) (by rw [aUp_ne (by decide)]; exact x8) aUp_at hlt (by rw [aUp_ne (by decide)]; exact x30) (by omega) (fun D2 hX2 => ?_))
        show V G l (d + 3) iX12_sums 45 [rf 210, (0, dep), (0, cc)] [] (K, D2, z) P
        refine s_al0 rfl ?_
        refine s_il2 rfl ?_
        refine s_zeq rfl ?_ ?_
        · intro h47
          have nq : ¬ kT s n ws r.2.1 = 8 := fun q => by rw [if_pos q] at hcc; omega
          refine s_ic rfl ?_
          exact last D2 0 _ _ (by unfold opE; (repeat' split) <;> omega) hX2
        · intro h47
          have nq : kT s n ws r.2.1 = 8 := Decidable.byContradiction fun q => by rw [if_neg q] at hcc; omega
          refine s_ic rfl ?_
          refine s_go rfl ?_
          exact last D2 0 _ _ (by unfold opE; (repeat' split) <;> omega) hX2
      refine s_al0 rfl ?_
      refine s_ic rfl ?_
      refine s_callO rfl rfl (Or.inl rfl) rfl rfl (hk.at rfl rfl) (u_isSign (c := 43) hk hH1 x8 x7 hrN (by decide) ?_)
      show V G l (d + 3) iX12_sums 11 [rf 210, (0, dep), u2] [(0, if kT s n ws r.2.1 = 8 then 1 else 0)] (K, D1, z) P
      generalize hcc : (if kT s n ws r.2.1 = 8 then (1 : Int) else 0) = cc
      refine s_zne rfl ?_ ?_
      · intro h11
        exact go (decide_eq_true (Or.inl (Decidable.byContradiction fun q => by rw [if_neg q] at hcc; omega)))
      · intro h11
        have nA : ¬ kT s n ws r.2.1 = 8 := fun q => by rw [if_pos q] at hcc; omega
        refine s_al0 rfl ?_
        refine s_ic rfl ?_
        refine s_callO rfl rfl (Or.inl rfl) rfl rfl (hk.at rfl rfl) (u_isSign (c := 45) hk hH1 x8 x7 hrN (by decide) ?_)
        show V G l (d + 3) iX12_sums 20 [rf 210, (0, dep), u2] [(0, if kT s n ws r.2.1 = 9 then 1 else 0)] (K, D1, z) P
        generalize hcd : (if kT s n ws r.2.1 = 9 then (1 : Int) else 0) = cd
        refine s_zeq rfl ?_ ?_
        · intro h20
          have nB : ¬ kT s n ws r.2.1 = 9 := fun q => by rw [if_pos q] at hcd; omega
          rw [if_neg (fun q => by have := of_decide_eq_true q.2; omega)] at he
          refine s_retv rfl rfl ?_
          refine kk D1 ?_
          rw [← he]; exact hX
        · intro h20
          exact go (decide_eq_true (Or.inr (Decidable.byContradiction fun q => by rw [if_neg q] at hcd; omega)))
  refine VM_go (tg2 rfl) (Nat.le_of_ble_eq_true rfl) ?_
  refine s_al0 rfl ?_
  refine s_il1 rfl ?_
  refine s_callO rfl rfl (Or.inl rfl) rfl rfl (hk.at rfl rfl) (hU (d + 2) (by omega) _ D k c hH hnx h8 h7 hkN h30 hck (fun D1 hX => ?_))
  show V G l (d + 3) iX12_sums 5 [rf 210, (0, dep), (9, 0)] [] (K, D1, z) P
  by_cases u0 : (U k).1 = 0
  · obtain ⟨o1, o2, o3⟩ := (okU k hkN).2 u0
    exact loop 1500 D1 (U k) _ (by omega) u0 (okU k hkN) (ExM_up (by omega) hX) rfl
  · have p0 := (okU k hkN).1
    obtain ⟨y8, -⟩ := hX.2.2 u0
    refine dead D1 _ (by omega) (kk D1 ?_)
    show ExM nx c (m + 1) D (lpE (kT s n ws) 0 U 1500 (U k)) D1
    rw [lpE_bad u0]
    exact ExM_up (by omega) hX
theorem u_all {s ws : Int → Int} {n N nx h m : Nat} {dep : Int} {U : Nat → RE} (hk : Kn K) (hx2 : nx ≤ 1) (h4 : 4 ≤ h) (hm : m ≤ 90) (okU : ∀ k, k ≤ N → OkR N k (U k)) (hU : LvM G l K z s ws n N nx iX12_test h m dep U) : LvM G l K z s ws n N nx iX12_all (h + 1) (m + 1) dep (fun k => lpE (kT s n ws) 2 U 1500 (U k)) := by
  intro d hd P D k c hH hnx h8 h7 hkN h30 hck kk
  have kk : ∀ D', ExM nx c (m + 1) D (lpE (kT s n ws) 2 U 1500 (U k)) D' → P 0 (K, D', z) := kk
  obtain ⟨d, rfl⟩ : ∃ d', d = d' + 3 := ⟨d - 3, by omega⟩
  have b2 := hH.2.1
  have b3 := hH.2.2.1
  have dead : ∀ (D1 : Nat → Int → Int) (u2 : aTV), 0 < D1 210 8 → P 0 (K, D1, z) → V G l (d + 3) iX12_all 5 [rf 210, (0, dep), u2] [] (K, D1, z) P := by
    intro D1 u2 q8 hP
    refine s_al0 rfl ?_
    refine s_ic rfl ?_
    refine s_callO rfl rfl (Or.inl rfl) rfl rfl (hk.at rfl rfl) (u_isWordD hk q8 ?_)
    show V G l (d + 3) iX12_all 11 [rf 210, (0, dep), u2] [(0, 0)] (K, D1, z) P
    refine s_zne rfl ?_ ?_
    · intro h11
      exact absurd rfl h11
    · intro h11
      refine s_al0 rfl ?_
      refine s_ic rfl ?_
      refine s_callO rfl rfl (Or.inl rfl) rfl rfl (hk.at rfl rfl) (u_isWordD hk q8 ?_)
      show V G l (d + 3) iX12_all 20 [rf 210, (0, dep), u2] [(0, 0)] (K, D1, z) P
      refine s_zeq rfl ?_ ?_
      · intro h20
        refine s_retv rfl rfl ?_
        exact hP
      · intro h20
        exact absurd rfl h20
  have loop : ∀ (f : Nat) (D1 : Nat → Int → Int) (r : RE) (u2 : aTV), N ≤ r.2.1 + f → r.1 = 0 → OkR N k r → ExM nx c (m + 1) D r D1 → lpE (kT s n ws) 2 U f r = lpE (kT s n ws) 2 U 1500 (U k) → V G l (d + 3) iX12_all 5 [rf 210, (0, dep), u2] [] (K, D1, z) P := by
    intro f
    induction f with
    | zero =>
      intro D1 r u2 hf r0 hok hX he
      obtain ⟨x1, x2, -⟩ := id hX
      obtain ⟨x8, x7, x30, xo⟩ := x2 r0
      have hH1 := FrK_RfH x1 hH
      obtain ⟨o1, o2, o3⟩ := hok.2 r0
      have hrN : r.2.1 ≤ N := o2
      have hr : r.2.1 = N := by omega
      have he : r = _ := he
      have nA : ¬ kT s n ws r.2.1 = 25 := by rw [hr, b3]; decide
      have nB : ¬ kT s n ws r.2.1 = 26 := by rw [hr, b3]; decide
      refine s_al0 rfl ?_
      refine s_ic rfl ?_
      refine s_callO rfl rfl (Or.inl rfl) rfl rfl (hk.at rfl rfl) (u_isWord (w := 8) hk hH1 x8 x7 hrN (by decide) ?_)
      show V G l (d + 3) iX12_all 11 [rf 210, (0, dep), u2] [(0, if kT s n ws r.2.1 = 25 then 1 else 0)] (K, D1, z) P
      rw [if_neg nA]
      refine s_zne rfl ?_ ?_
      · intro h11
        exact absurd rfl h11
      · intro h11
        refine s_al0 rfl ?_
        refine s_ic rfl ?_
        refine s_callO rfl rfl (Or.inl rfl) rfl rfl (hk.at rfl rfl) (u_isWord (w := 9) hk hH1 x8 x7 hrN (by decide) ?_)
        show V G l (d + 3) iX12_all 20 [rf 210, (0, dep), u2] [(0, if kT s n ws r.2.1 = 26 then 1 else 0)] (K, D1, z) P
        rw [if_neg nB]
        refine s_zeq rfl ?_ ?_
        · intro h20
          refine s_retv rfl rfl ?_
          refine kk D1 ?_
          rw [← he]; exact hX
        · intro h20
          exact absurd rfl h20
    | succ f ih =>
      intro D1 r u2 hf r0 hok hX he
      obtain ⟨x1, x2, -⟩ := id hX
      obtain ⟨x8, x7, x30, xo⟩ := x2 r0
      have hH1 := FrK_RfH x1 hH
      obtain ⟨o1, o2, o3⟩ := hok.2 r0
      have hrN : r.2.1 ≤ N := o2
      rw [lpE] at he
      have go : lvOk 2 (kT s n ws r.2.1) = true → V G l (d + 3) iX12_all 23 [rf 210, (0, dep), u2] [] (K, D1, z) P := by
        intro hl
        have hl2 : kT s n ws r.2.1 = 25 ∨ kT s n ws r.2.1 = 26 := of_decide_eq_true hl
        rw [if_pos ⟨r0, hl⟩] at he
        have hlt : r.2.1 + 1 ≤ N := tk_nx (kd := kT s n ws) b3 hrN (by omega)
        have hu := okU (r.2.1 + 1) hlt
        have last : ∀ (D2 : Nat → Int → Int) (cs a : Int) (u : Int), a = opE (kT s n ws r.2.1) → ExM nx (c + r.2.2.length) m (aUp D1 210 7 ((r.2.1 + 1 : Nat) : Int)) (U (r.2.1 + 1)) D2 → V G l (d + 3) iX12_all 57 [rf 210, (0, dep), (0, u)] [(0, a), rf 210] (K, D2, z) P := by
          intro D2 cs a u ha hX2
          have f2 : FrK nx c D D2 := FrK_trans (Nat.le_add_right c _) (FrK_trans (Nat.le_refl c) x1 (FrK_210 (Or.inl rfl))) hX2.1
          have hn2 : D2 210 11 = (nx : Nat) := by rw [f2.2.1 11 (by decide) (by decide) (by decide)]; exact hnx
          refine s_ic rfl ?_
          by_cases v0 : (U (r.2.1 + 1)).1 = 0
          · obtain ⟨y8, y7, y30, yo⟩ := hX2.2.1 v0
            obtain ⟨u1, u2', u3⟩ := hu.2 v0
            have lt16 : c + r.2.2.length + (U (r.2.1 + 1)).2.2.length < 1600 := by omega
            refine s_callO rfl rfl (Or.inl rfl) rfl rfl (hk.at rfl rfl) (u_emit hk hn2 hx2 y30 lt16 ?_)
            show V G l (d + 3) iX12_all 61 [rf 210, (0, dep), (0, u)] [] (K, _, z) P
            refine s_go rfl ?_
            have st := ExM_op (a := a) (b := 0) hX r0 hX2 v0 lt16
            rw [ha] at st ⊢
            refine ih _ ((U (r.2.1 + 1)).1, (U (r.2.1 + 1)).2.1, r.2.2 ++ (U (r.2.1 + 1)).2.2 ++ [(opE (kT s n ws r.2.1), 0)]) _ (by show N ≤ (U (r.2.1 + 1)).2.1 + f; omega) v0 ⟨hu.1, fun _ => ⟨by show k < (U (r.2.1 + 1)).2.1; omega, u2', ?_⟩⟩ st he
            show (r.2.2 ++ (U (r.2.1 + 1)).2.2 ++ [(opE (kT s n ws r.2.1), 0)]).length + k ≤ (U (r.2.1 + 1)).2.1
            rw [List.length_append, List.length_append, List.length_cons, List.length_nil]; omega
          · obtain ⟨y8, y7, c', y30, yc, ym⟩ := hX2.2.2 v0
            have st := ExM_bad (a := a) (b := 0) (m := m + 1) (w := lpE (kT s n ws) 2 U 1500 (U k)) x1 (Nat.le_add_right c _) hX2 v0 (by rw [← he, lpE_bad (r := ((U (r.2.1 + 1)).1, (U (r.2.1 + 1)).2.1, r.2.2 ++ (U (r.2.1 + 1)).2.2 ++ [(opE (kT s n ws r.2.1), 0)])) v0]) y30 (Nat.le_refl _) hm
            refine s_callO rfl rfl (Or.inl rfl) rfl rfl (hk.at rfl rfl) (u_emit hk hn2 hx2 y30 st.1 ?_)
            show V G l (d + 3) iX12_all 61 [rf 210, (0, dep), (0, u)] [] (K, _, z) P
            refine s_go rfl ?_
            refine dead _ _ ?_ (kk _ st.2)
            have e8 : emU nx c' a 0 D2 210 8 = (U (r.2.1 + 1)).1 := by rw [em_210 (by decide)]; exact y8
            show 0 < emU nx c' a 0 D2 210 8
            rw [e8]
            have := hu.1
            omega
        refine s_al0 rfl ?_
        refine s_ic rfl ?_
        refine s_callO rfl rfl (Or.inl rfl) rfl rfl (hk.at rfl rfl) (u_isWord (w := 8) hk hH1 x8 x7 hrN (by decide) ?_)
        show V G l (d + 3) iX12_all 29 [rf 210, (0, dep), u2] [(0, if kT s n ws r.2.1 = 25 then 1 else 0)] (K, D1, z) P
        generalize hcc : (if kT s n ws r.2.1 = 25 then (1 : Int) else 0) = cc
        refine s_is2 rfl rfl ?_
        refine s_al0 rfl ?_
        refine s_dup rfl (by first | decide | (show (2 : Nat) ≠ 1; decide)) ?_
        refine s_gi rfl (hk.at rfl rfl) rfl ?_
        rw [x7]
        refine s_ic rfl ?_
        refine s_iadd rfl ⟨by omega, by omega⟩ ?_
        rw [show ((r.2.1 : Nat) : Int) + 1 = ((r.2.1 + 1 : Nat) : Int) by omega]
        refine s_pi rfl (hk.at rfl rfl) rfl ?_
        refine s_al0 rfl ?_
        refine s_il1 rfl ?_
        refine s_callO rfl rfl (Or.inl rfl) rfl rfl (hk.at rfl rfl) (hU (d + 2) (by omega) _ (aUp D1 210 7 ((r.2.1 + 1 : Nat) : Int)) (r.2.1 + 1) (c + r.2.2.length) (FrK_RfH (FrK_210 (c := c) (nx := nx) (Or.inl rfl)) hH1) (by rw [aUp_ne (by decide), x1.2.1 11 (by decide) (by decide) (by decide)]; exact hnx) (by rw [aUp_ne (by decide)]; exact x8) aUp_at hlt (by rw [aUp_ne (by decide)]; exact x30) (by omega) (fun D2 hX2 => ?_))
        show V G l (d + 3) iX12_all 45 [rf 210, (0, dep), (0, cc)] [] (K, D2, z) P
        refine s_al0 rfl ?_
        refine s_il2 rfl ?_
        refine s_zeq rfl ?_ ?_
        · intro h47
          have nq : ¬ kT s n ws r.2.1 = 25 := fun q => by rw [if_pos q] at hcc; omega
          refine s_ic rfl ?_
          exact last D2 0 _ _ (by unfold opE; (repeat' split) <;> omega) hX2
        · intro h47
          have nq : kT s n ws r.2.1 = 25 := Decidable.byContradiction fun q => by rw [if_neg q] at hcc; omega
          refine s_ic rfl ?_
          refine s_go rfl ?_
          exact last D2 0 _ _ (by unfold opE; (repeat' split) <;> omega) hX2
      refine s_al0 rfl ?_
      refine s_ic rfl ?_
      refine s_callO rfl rfl (Or.inl rfl) rfl rfl (hk.at rfl rfl) (u_isWord (w := 8) hk hH1 x8 x7 hrN (by decide) ?_)
      show V G l (d + 3) iX12_all 11 [rf 210, (0, dep), u2] [(0, if kT s n ws r.2.1 = 25 then 1 else 0)] (K, D1, z) P
      generalize hcc : (if kT s n ws r.2.1 = 25 then (1 : Int) else 0) = cc
      refine s_zne rfl ?_ ?_
      · intro h11
        exact go (decide_eq_true (Or.inl (Decidable.byContradiction fun q => by rw [if_neg q] at hcc; omega)))
      · intro h11
        have nA : ¬ kT s n ws r.2.1 = 25 := fun q => by rw [if_pos q] at hcc; omega
        refine s_al0 rfl ?_
        refine s_ic rfl ?_
        refine s_callO rfl rfl (Or.inl rfl) rfl rfl (hk.at rfl rfl) (u_isWord (w := 9) hk hH1 x8 x7 hrN (by decide) ?_)
        show V G l (d + 3) iX12_all 20 [rf 210, (0, dep), u2] [(0, if kT s n ws r.2.1 = 26 then 1 else 0)] (K, D1, z) P
        generalize hcd : (if kT s n ws r.2.1 = 26 then (1 : Int) else 0) = cd
        refine s_zeq rfl ?_ ?_
        · intro h20
          have nB : ¬ kT s n ws r.2.1 = 26 := fun q => by rw [if_pos q] at hcd; omega
          rw [if_neg (fun q => by have := of_decide_eq_true q.2; omega)] at he
          refine s_retv rfl rfl ?_
          refine kk D1 ?_
          rw [← he]; exact hX
        · intro h20
          exact go (decide_eq_true (Or.inr (Decidable.byContradiction fun q => by rw [if_neg q] at hcd; omega)))
  refine VM_go (tg2 rfl) (Nat.le_of_ble_eq_true rfl) ?_
  refine s_al0 rfl ?_
  refine s_il1 rfl ?_
  refine s_callO rfl rfl (Or.inl rfl) rfl rfl (hk.at rfl rfl) (hU (d + 2) (by omega) _ D k c hH hnx h8 h7 hkN h30 hck (fun D1 hX => ?_))
  show V G l (d + 3) iX12_all 5 [rf 210, (0, dep), (9, 0)] [] (K, D1, z) P
  by_cases u0 : (U k).1 = 0
  · obtain ⟨o1, o2, o3⟩ := (okU k hkN).2 u0
    exact loop 1500 D1 (U k) _ (by omega) u0 (okU k hkN) (ExM_up (by omega) hX) rfl
  · have p0 := (okU k hkN).1
    obtain ⟨y8, -⟩ := hX.2.2 u0
    refine dead D1 _ (by omega) (kk D1 ?_)
    show ExM nx c (m + 1) D (lpE (kT s n ws) 2 U 1500 (U k)) D1
    rw [lpE_bad u0]
    exact ExM_up (by omega) hX
theorem u_test {s ws : Int → Int} {n N nx h m : Nat} {dep : Int} {U : Nat → RE} (hk : Kn K) (hx2 : nx ≤ 1) (h4 : 4 ≤ h) (hm : m ≤ 90) (okU : ∀ k, k ≤ N → OkR N k (U k)) (hU : LvM G l K z s ws n N nx iX12_sums h m dep U) : LvM G l K z s ws n N nx iX12_test (h + 1) (m + 1) dep (fun k => lpE (kT s n ws) 1 U 1 (U k)) := by
  intro d hd P D k c hH hnx h8 h7 hkN h30 hck kk
  have kk : ∀ D', ExM nx c (m + 1) D (lpE (kT s n ws) 1 U 1 (U k)) D' → P 0 (K, D', z) := kk
  obtain ⟨d, rfl⟩ : ∃ d', d = d' + 3 := ⟨d - 3, by omega⟩
  have b2 := hH.2.1
  have b3 := hH.2.2.1
  have he : lpE (kT s n ws) 1 U 1 (U k) = (if (U k).1 = 0 ∧ lvOk 1 (kT s n ws (U k).2.1) = true then ((U ((U k).2.1 + 1)).1, (U ((U k).2.1 + 1)).2.1, (U k).2.2 ++ (U ((U k).2.1 + 1)).2.2 ++ [(opE (kT s n ws (U k).2.1), 0)]) else U k) := rfl
  refine VM_go (tg2 rfl) (Nat.le_of_ble_eq_true rfl) ?_
  refine s_al0 rfl ?_
  refine s_il1 rfl ?_
  refine s_callO rfl rfl (Or.inl rfl) rfl rfl (hk.at rfl rfl) (hU (d + 2) (by omega) _ D k c hH hnx h8 h7 hkN h30 hck (fun D1 hX => ?_))
  show V G l (d + 3) iX12_test 5 [rf 210, (0, dep), (9, 0)] [] (K, D1, z) P
  by_cases r0 : (U k).1 = 0
  · obtain ⟨x1, x2, -⟩ := id hX
    obtain ⟨x8, x7, x30, xo⟩ := x2 r0
    have hH1 := FrK_RfH x1 hH
    have hok := okU k hkN
    obtain ⟨o1, o2, o3⟩ := hok.2 r0
    generalize hr : U k = r at *
    have hrN : r.2.1 ≤ N := o2
    have go : lvOk 1 (kT s n ws r.2.1) = true → V G l (d + 3) iX12_test 30 [rf 210, (0, dep), (0, if kT s n ws r.2.1 = 6 then 1 else 0)] [] (K, aUp D1 210 7 ((r.2.1 + 1 : Nat) : Int), z) P := by
      intro hl
      have hl2 : kT s n ws r.2.1 = 6 ∨ kT s n ws r.2.1 = 7 := of_decide_eq_true hl
      rw [if_pos ⟨r0, hl⟩] at he
      have hlt : r.2.1 + 1 ≤ N := tk_nx (kd := kT s n ws) b3 hrN (by omega)
      have hu := okU (r.2.1 + 1) hlt
      have last : ∀ (D2 : Nat → Int → Int) (a : Int) (u : Int), a = opE (kT s n ws r.2.1) → ExM nx (c + r.2.2.length) m (aUp D1 210 7 ((r.2.1 + 1 : Nat) : Int)) (U (r.2.1 + 1)) D2 → V G l (d + 3) iX12_test 47 [rf 210, (0, dep), (0, u)] [(0, a), rf 210] (K, D2, z) P := by
        intro D2 a u ha hX2
        have f2 : FrK nx c D D2 := FrK_trans (Nat.le_add_right c _) (FrK_trans (Nat.le_refl c) x1 (FrK_210 (Or.inl rfl))) hX2.1
        have hn2 : D2 210 11 = (nx : Nat) := by rw [f2.2.1 11 (by decide) (by decide) (by decide)]; exact hnx
        refine s_ic rfl ?_
        by_cases v0 : (U (r.2.1 + 1)).1 = 0
        · obtain ⟨y8, y7, y30, yo⟩ := hX2.2.1 v0
          obtain ⟨u1, u2', u3⟩ := hu.2 v0
          have lt16 : c + r.2.2.length + (U (r.2.1 + 1)).2.2.length < 1600 := by omega
          refine s_callO rfl rfl (Or.inl rfl) rfl rfl (hk.at rfl rfl) (u_emit hk hn2 hx2 y30 lt16 ?_)
          show V G l (d + 3) iX12_test 51 [rf 210, (0, dep), (0, u)] [] (K, _, z) P
          refine s_retv rfl rfl ?_
          have st := ExM_op (a := a) (b := 0) hX r0 hX2 v0 lt16
          rw [ha] at st ⊢
          refine kk _ ?_
          rw [he]
          exact ExM_up (by omega) st
        · obtain ⟨y8, y7, c', y30, yc, ym⟩ := hX2.2.2 v0
          have st := ExM_bad (a := a) (b := 0) (m := m + 1) (w := lpE (kT s n ws) 1 U 1 r) x1 (Nat.le_add_right c _) hX2 v0 (by rw [he]) y30 (Nat.le_refl _) hm
          refine s_callO rfl rfl (Or.inl rfl) rfl rfl (hk.at rfl rfl) (u_emit hk hn2 hx2 y30 st.1 ?_)
          show V G l (d + 3) iX12_test 51 [rf 210, (0, dep), (0, u)] [] (K, _, z) P
          refine s_retv rfl rfl ?_
          exact kk _ st.2
      refine s_al0 rfl ?_
      refine s_il1 rfl ?_
      refine s_callO rfl rfl (Or.inl rfl) rfl rfl (hk.at rfl rfl) (hU (d + 2) (by omega) _ (aUp D1 210 7 ((r.2.1 + 1 : Nat) : Int)) (r.2.1 + 1) (c + r.2.2.length) (FrK_RfH (FrK_210 (c := c) (nx := nx) (Or.inl rfl)) hH1) (by rw [aUp_ne (by decide), x1.2.1 11 (by decide) (by decide) (by decide)]; exact hnx) (by rw [aUp_ne (by decide)]; exact x8) aUp_at hlt (by rw [aUp_ne (by decide)]; exact x30) (by omega) (fun D2 hX2 => ?_))
      show V G l (d + 3) iX12_test 35 [rf 210, (0, dep), (0, if kT s n ws r.2.1 = 6 then 1 else 0)] [] (K, D2, z) P
      generalize hcc : (if kT s n ws r.2.1 = 6 then (1 : Int) else 0) = cc
      refine s_al0 rfl ?_
      refine s_il2 rfl ?_
      refine s_zeq rfl ?_ ?_
      · intro h37
        have nq : ¬ kT s n ws r.2.1 = 6 := fun q => by rw [if_pos q] at hcc; omega
        refine s_ic rfl ?_
        exact last D2 _ _ (by unfold opE; (repeat' split) <;> omega) hX2
      · intro h37
        have nq : kT s n ws r.2.1 = 6 := Decidable.byContradiction fun q => by rw [if_neg q] at hcc; omega
        refine s_ic rfl ?_
        refine s_go rfl ?_
        exact last D2 _ _ (by unfold opE; (repeat' split) <;> omega) hX2
    refine s_al0 rfl ?_
    refine s_ic rfl ?_
    refine s_callO rfl rfl (Or.inl rfl) rfl rfl (hk.at rfl rfl) (u_isSign (c := 60) hk hH1 x8 x7 hrN (by decide) ?_)
    show V G l (d + 3) iX12_test 11 [rf 210, (0, dep), (9, 0)] [(0, if kT s n ws r.2.1 = 6 then 1 else 0)] (K, D1, z) P
    refine s_is2 rfl rfl ?_
    refine s_al0 rfl ?_
    refine s_ic rfl ?_
    refine s_callO rfl rfl (Or.inl rfl) rfl rfl (hk.at rfl rfl) (u_hasSign (c := 60) hk hH1 x8 x7 hrN (by decide) (fun y6 => ?_) (fun y6 => ?_))
    · have y6 : kT s n ws r.2.1 = 6 := y6
      show V G l (d + 3) iX12_test 18 [rf 210, (0, dep), (0, if kT s n ws r.2.1 = 6 then 1 else 0)] [(0, 1)] (K, aUp D1 210 7 ((r.2.1 : Int) + 1), z) P
      refine s_zne rfl (fun _ => ?_) (fun q => absurd q (by decide))
      exact go (decide_eq_true (Or.inl y6))
    have y6 : ¬ kT s n ws r.2.1 = 6 := y6
    show V G l (d + 3) iX12_test 18 [rf 210, (0, dep), (0, if kT s n ws r.2.1 = 6 then 1 else 0)] [(0, 0)] (K, D1, z) P
    refine s_zne rfl ?_ ?_
    · intro h18
      exact absurd rfl h18
    · intro h18
      refine s_al0 rfl ?_
      refine s_ic rfl ?_
      refine s_callO rfl rfl (Or.inl rfl) rfl rfl (hk.at rfl rfl) (u_hasSign (c := 61) hk hH1 x8 x7 hrN (by decide) (fun y7 => ?_) (fun y7 => ?_))
      · have y7 : kT s n ws r.2.1 = 7 := y7
        show V G l (d + 3) iX12_test 27 [rf 210, (0, dep), (0, if kT s n ws r.2.1 = 6 then 1 else 0)] [(0, 1)] (K, aUp D1 210 7 ((r.2.1 : Int) + 1), z) P
        refine s_zeq rfl (fun q => absurd q (by decide)) (fun _ => ?_)
        exact go (decide_eq_true (Or.inr y7))
      have y7 : ¬ kT s n ws r.2.1 = 7 := y7
      show V G l (d + 3) iX12_test 27 [rf 210, (0, dep), (0, if kT s n ws r.2.1 = 6 then 1 else 0)] [(0, 0)] (K, D1, z) P
      refine s_zeq rfl ?_ ?_
      · intro h27
        refine s_retv rfl rfl ?_
        refine kk D1 ?_
        rw [if_neg (fun q => by have := of_decide_eq_true q.2; omega)] at he
        rw [he]
        exact ExM_up (by omega) hX
      · intro h27
        exact absurd rfl h27
  · have p0 := (okU k hkN).1
    obtain ⟨y8, y7, -⟩ := hX.2.2 r0
    have q8 : 0 < D1 210 8 := by omega
    have q7 : 0 ≤ D1 210 7 ∧ D1 210 7 ≤ 2000 := by omega
    refine s_al0 rfl ?_
    refine s_ic rfl ?_
    refine s_callO rfl rfl (Or.inl rfl) rfl rfl (hk.at rfl rfl) (u_isSignD hk q8 ?_)
    show V G l (d + 3) iX12_test 11 [rf 210, (0, dep), (9, 0)] [(0, 0)] (K, D1, z) P
    refine s_is2 rfl rfl ?_
    refine s_al0 rfl ?_
    refine s_ic rfl ?_
    refine s_callO rfl rfl (Or.inl rfl) rfl rfl (hk.at rfl rfl) (u_hasSignD hk q8 q7 ?_)
    show V G l (d + 3) iX12_test 18 [rf 210, (0, dep), (0, 0)] [(0, 0)] (K, D1, z) P
    refine s_zne rfl ?_ ?_
    · intro h18
      exact absurd rfl h18
    · intro h18
      refine s_al0 rfl ?_
      refine s_ic rfl ?_
      refine s_callO rfl rfl (Or.inl rfl) rfl rfl (hk.at rfl rfl) (u_hasSignD hk q8 q7 ?_)
      show V G l (d + 3) iX12_test 27 [rf 210, (0, dep), (0, 0)] [(0, 0)] (K, D1, z) P
      refine s_zeq rfl ?_ ?_
      · intro h27
        refine s_retv rfl rfl ?_
        refine kk D1 ?_
        show ExM nx c (m + 1) D (lpE (kT s n ws) 1 U 1 (U k)) D1
        rw [lpE_bad r0]
        exact ExM_up (by omega) hX
      · intro h27
        exact absurd rfl h27
end
