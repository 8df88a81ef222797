/-! ===== settle: the reference ===== -/
theorem dF_in2 {hs a jo : Int → Int} {n : Nat} {e h : Int} (hn : n ≤ 60) (ha : ∀ q : Nat, q < n → jo q = e → 0 ≤ a q ∧ a q ≤ 100000) : 0 ≤ dF hs a n jo e h ∧ dF hs a n jo e h ≤ 6000000 := by
  unfold dF
  have h1 := sumF_nonneg (f := fun k : Nat => if jo k = e ∧ hs k = h then a k else 0) (n := n) (fun k hk => by
    split
    · rename_i q; have := ha k hk q.1; omega
    · omega)
  have h2 := sumF_le (f := fun k : Nat => if jo k = e ∧ hs k = h then a k else 0) (n := n) (c := 100000) (fun k hk => by
    split
    · rename_i q; have := ha k hk q.1; omega
    · omega)
  omega
def fct (ca da lo di hi : Int) : Int → Int := fun j => if j = 0 then ca else if j = 1 then da else if j = 2 then lo else if j = 3 then di else hi
theorem run_congr {kn kn' : Int → Int} {c : Nat → Int × Int} {n : Nat} (h : WfC c n) (hk : ∀ j, 0 ≤ j → j ≤ 4 → kn' j = kn j) : ∀ k, k ≤ n → runC kn' c k = runC kn c k := by
  intro k
  induction k with
  | zero => intro _; rfl
  | succ k ih =>
    intro hkn
    rw [runC, runC, ih (by omega)]
    unfold stp
    have h5 := (h.1 k (by omega)).2.2.2.2
    by_cases q : (c k).1 = 2
    · rw [hk _ (h5 q).1 (h5 q).2]
    · rw [if_neg q, if_neg q]
theorem resC_congr {kn kn' : Int → Int} {c : Nat → Int × Int} {n : Nat} (h : WfC c n) (hk : ∀ j, 0 ≤ j → j ≤ 4 → kn' j = kn j) : resC kn' c n = resC kn c n := by
  unfold resC
  rw [run_congr h hk n (Nat.le_refl _)]
theorem slF_in {w : WT} {rm : Nat → Int} {pay : Nat → Bool} {d : Int → Int} {nt : Nat} {nh : Int} (hw : wOk w nt nh) (hr : ∀ t, t < nt → 0 ≤ rm t) (hd : ∀ h : Int, 0 ≤ h → h < 12 → 0 ≤ d h) : ∀ (n r : Nat) (g : Int → Int), (∀ h : Int, 0 ≤ h → h < 12 → d h ≤ g h ∧ g h ≤ 20000000) → (slF w rm pay d nt n r g).2.1 = false → ∀ h : Int, 0 ≤ h → h < 12 → d h ≤ (slF w rm pay d nt n r g).2.2 h ∧ (slF w rm pay d nt n r g).2.2 h ≤ 20000000 := by
  have h12 := hw.2.2.1
  intro n
  induction n with
  | zero => intro r g hg hs; cases hs
  | succ n ih =>
    intro r g hg hs h q1 q2
    have hn : ∀ h, d h ≤ nxF w rm pay d g nt h := fun h => (nxF_in (h := h) (m := 20000000) hw hr (fun h q1 q2 => ⟨hd h q1 (by omega), (hg h q1 (by omega)).1⟩) (fun h q1 q2 => (hg h q1 (by omega)).2) (by decide)).1
    rw [slF] at hs ⊢
    cases hc : chB g (nxF w rm pay d g nt) 12 with
    | false =>
      rw [if_neg (by decide)]
      have e : nxF w rm pay d g nt h = g h := Decidable.byContradiction fun hne => by
        have : chB g (nxF w rm pay d g nt) 12 = true := chB_iff.mpr ⟨h.toNat, by omega, by rw [show ((h.toNat : Nat) : Int) = h by omega]; exact hne⟩
        rw [hc] at this; cases this
      show d h ≤ nxF w rm pay d g nt h ∧ nxF w rm pay d g nt h ≤ 20000000
      rw [e]
      exact hg h q1 q2
    | true =>
      rw [hc, if_pos rfl] at hs
      rw [if_pos rfl]
      cases hb : bgB (nxF w rm pay d g nt) 12 with
      | true => rw [hb, if_pos rfl] at hs; cases hs
      | false =>
        rw [hb, if_neg (by decide)] at hs
        rw [if_neg (by decide)]
        refine ih (r + 1) _ (fun h q1 q2 => ⟨hn h, ?_⟩) hs h q1 q2
        apply Decidable.byContradiction
        intro q
        have : bgB (nxF w rm pay d g nt) 12 = true := bgB_iff.mpr ⟨h.toNat, by omega, by rw [show ((h.toNat : Nat) : Int) = h by omega]; omega⟩
        rw [hb] at this; cases this
/-- the wording's conditions -/
def CoM (D : Nat → Int → Int) (cn : Nat → Nat) (cc : Nat → Nat → Int × Int) : Prop := ∀ t, t < ntM D → WfC (cc t) (cn t) ∧ ((cn t = 0 ∧ D 233 (24 * D 210 10 + t) < 0) ∨ (0 < cn t ∧ (0 ≤ D 233 (24 * D 210 10 + t) ∧ D 233 (24 * D 210 10 + t) + cn t < 3200) ∧ (∀ k : Nat, k < cn t → D 234 (D 233 (24 * D 210 10 + t) + k) = (cc t k).1 ∧ D 235 (D 233 (24 * D 210 10 + t) + k) = (cc t k).2) ∧ D 234 (D 233 (24 * D 210 10 + t) + cn t) = 0))
def pyM (D : Nat → Int → Int) (cn : Nat → Nat) (cc : Nat → Nat → Int × Int) (e t : Nat) : Bool := decide (¬ (0 ≤ D 265 t ∧ D 265 t ≤ vwM D) ∧ resC (fct (D 236 0) (D 236 1) (D 236 2) (D 255 (12 * e + D 224 (24 * D 210 10 + t))) (D 236 4)) (cc t) (cn t) ≠ 0)
def PaD (e n : Nat) (cn : Nat → Nat) (cc : Nat → Nat → Int × Int) (D D' : Nat → Int → Int) : Prop := (∀ r, r ≠ 236 → r ≠ 237 → r ≠ 268 → D' r = D r) ∧ (∀ j : Int, j ≠ 3 → D' 236 j = D 236 j) ∧ (∀ t : Nat, t < n → D' 268 t = if pyM D cn cc e t = true then 1 else 0)
/-- what the wording in force and the treaties' books are -/
def StB (D : Nat → Int → Int) (nh : Int) : Prop := (D 210 10 = 0 ∨ D 210 10 = 1) ∧ 0 ≤ D 221 (D 210 10) ∧ wOk (wM D) (ntM D) nh ∧ ∀ t, t < ntM D → ((0 ≤ wM D t 3 ∧ wM D t 3 ≤ 999999) ∧ (0 ≤ wM D t 5 ∧ wM D t 5 ≤ 9) ∧ (0 ≤ wM D t 6 ∧ wM D t 6 ≤ 999999) ∧ (¬ wM D t 1 = 0 → 1 ≤ wM D t 3)) ∧ (0 ≤ D 263 t ∧ D 263 t ≤ wM D t 3 * (1 + wM D t 5)) ∧ (0 ≤ D 264 t ∧ D 264 t ≤ wM D t 3 * wM D t 5)
theorem StB_more {D : Nat → Int → Int} {nh : Int} (h : StB D nh) : ∀ t, t < ntM D → 0 ≤ rmM D t ∧ (0 ≤ D 263 t ∧ D 263 t ≤ 10000000) := fun t ht => by
  obtain ⟨⟨l3, l5, l6, l1⟩, u1, u2⟩ := h.2.2.2 t ht
  have hlm : 0 ≤ wM D t 3 * (1 + wM D t 5) ∧ wM D t 3 * (1 + wM D t 5) ≤ 999999 * 10 := ⟨Int.mul_nonneg l3.1 (by omega), Int.mul_le_mul l3.2 (by omega) (by omega) (by decide)⟩
  refine ⟨?_, by omega⟩
  unfold rmM
  split <;> omega
theorem StB_of {D D' : Nat → Int → Int} {nh : Int} (h : StB D nh) (hr : ∀ r, (210 ≤ r ∧ r ≤ 232) ∨ r = 263 ∨ r = 264 → D' r = D r) : StB D' nh ∧ wM D' = wM D ∧ rmM D' = rmM D ∧ ntM D' = ntM D := by
  have h1 : wM D' = wM D := wM_congr (fun r q1 q2 => hr r (by omega)) (by rw [hr 210 (by omega)])
  have h2 : rmM D' = rmM D := rmM_congr h1 (hr 263 (by omega))
  have h3 : ntM D' = ntM D := by show (D' 221 (D' 210 10)).toNat = (D 221 (D 210 10)).toNat; rw [hr 221 (by omega), hr 210 (by omega)]
  refine ⟨?_, h1, h2, h3⟩
  unfold StB at h ⊢
  rw [h1, h3, hr 210 (by omega), hr 221 (by omega), hr 263 (by omega), hr 264 (by omega)]
  exact h
section
variable {G : aCX} {l : Launch} {d : Nat} {K : Nat → aKd} {D : Nat → Int → Int} {z : Nat × Nat} {P : Int → aSt → Prop}
theorem u_paying {e : Nat} {cn : Nat → Nat} {cc : Nat → Nat → Int × Int} {nh : Int} {u2 u3 : aTV} (hk : Kn K) (he : e < 60) (hb : StB D nh) (hc : CoM D cn cc) (hd : ∀ h : Int, 0 ≤ h → h < 12 → 0 ≤ D 255 (12 * e + h) ∧ D 255 (12 * e + h) ≤ 6000000) (kk : ∀ D' u2 u3, PaD e (ntM D) cn cc D D' → V G l (d + 2) iX12_settle 100 [rf 210, (0, (e : Int)), u2, u3] [] (K, D', z) P) : V G l (d + 2) iX12_settle 5 [rf 210, (0, (e : Int)), u2, u3] [] (K, D, z) P := by
  obtain ⟨b1, b2, b3, b4⟩ := hb
  have n24 := b3.1
  have h12 := b3.2.2.1
  have en : ((ntM D : Nat) : Int) = D 221 (D 210 10) := by show ((D 221 (D 210 10)).toNat : Int) = _; omega
  have loop : ∀ (m t : Nat) (D1 : Nat → Int → Int) (u3 : aTV), t + m = ntM D → PaD e t cn cc D D1 → V G l (d + 2) iX12_settle 7 [rf 210, (0, (e : Int)), (0, (t : Int)), u3] [] (K, D1, z) P := by
    intro m
    induction m with
    | zero =>
      intro t D1 u3 hm hP
      have ht : t = ntM D := by omega
      have k10 : D1 210 = D 210 := hP.1 _ (by omega) (by omega) (by omega)
      have k21 : D1 221 = D 221 := hP.1 _ (by omega) (by omega) (by omega)
      refine s_il2 rfl ?_
      refine s_al0 rfl ?_
      refine s_gf rfl (hk.at rfl rfl) rfl rfl ?_
      refine s_al0 rfl ?_
      refine s_gi rfl (hk.at rfl rfl) rfl ?_
      rw [k10]
      refine s_iald rfl (hk.at rfl rfl) (by rcases b1 with q | q <;> rw [q] <;> decide) ?_
      rw [k21]
      refine s_cge rfl ?_ ?_
      · intro h17
        subst ht
        exact kk D1 _ _ hP
      · intro h17
        omega
    | succ m ih =>
      intro t D1 u3 hm hP
      have ht : t < ntM D := by omega
      obtain ⟨f1, f2, f3⟩ := id hP
      have k10 : D1 210 = D 210 := f1 _ (by omega) (by omega) (by omega)
      have k21 : D1 221 = D 221 := f1 _ (by omega) (by omega) (by omega)
      have k24 : D1 224 = D 224 := f1 _ (by omega) (by omega) (by omega)
      have k55 : D1 255 = D 255 := f1 _ (by omega) (by omega) (by omega)
      have h0 := (b3.2.2.2 t ht).1
      have e0 : wM D t 0 = D 224 (24 * D 210 10 + (t : Int)) := rfl
      have hi : 0 ≤ (24 * D 210 10 + (t : Int)) ∧ (24 * D 210 10 + (t : Int)) < 48 := by omega
      have hdd := hd (D 224 (24 * D 210 10 + (t : Int))) (by omega) (by omega)
      obtain ⟨hwf, hcd⟩ := hc t ht
      generalize hE : aUp D1 236 3 (D 255 (12 * (e : Int) + D 224 (24 * D 210 10 + (t : Int)))) = E
      have er : ∀ r, r ≠ 236 → E r = D1 r := fun r hr => by rw [← hE, aUp_row hr]
      have e36 : E 236 = uF (D1 236) 3 (D 255 (12 * (e : Int) + D 224 (24 * D 210 10 + (t : Int)))) := by rw [← hE, aUp_same]
      have eD : ∀ r, r ≠ 236 → r ≠ 237 → r ≠ 268 → E r = D r := fun r r1 r2 r3 => by rw [er r r1, f1 r r1 r2 r3]
      have kn : ∀ j, 0 ≤ j → j ≤ 4 → E 236 j = fct (D 236 0) (D 236 1) (D 236 2) (D 255 (12 * (e : Int) + D 224 (24 * D 210 10 + (t : Int)))) (D 236 4) j := fun j j1 j2 => by
        rw [e36]
        unfold uF fct
        rcases (by omega : j = 0 ∨ j = 1 ∨ j = 2 ∨ j = 3 ∨ j = 4) with q | q | q | q | q <;> subst q
        · rw [if_neg (by decide), if_pos rfl]; exact f2 0 (by decide)
        · rw [if_neg (by decide), if_neg (by decide), if_pos rfl]; exact f2 1 (by decide)
        · rw [if_neg (by decide), if_neg (by decide), if_neg (by decide), if_pos rfl]; exact f2 2 (by decide)
        · rw [if_pos rfl, if_neg (by decide), if_neg (by decide), if_neg (by decide), if_pos rfl]
        · rw [if_neg (by decide), if_neg (by decide), if_neg (by decide), if_neg (by decide), if_neg (by decide)]; exact f2 4 (by decide)
      have evw : vwM E = vwM D := by show (if E 210 36 < 0 then E 210 35 else E 210 36) = _; rw [eD 210 (by omega) (by omega) (by omega)]
      have k33 : E 233 (24 * D 210 10 + (t : Int)) = D 233 (24 * D 210 10 + (t : Int)) := by rw [eD _ (by omega) (by omega) (by omega)]
      have nxt : ∀ (b : Int) (D3 : Nat → Int → Int), b = (if pyM D cn cc e t = true then 1 else 0) → (∀ r, r ≠ 237 → D3 r = E r) → V G l (d + 2) iX12_settle 93 [rf 210, (0, (e : Int)), (0, (t : Int)), (0, (24 * D 210 10 + (t : Int)))] [(0, b), (0, (t : Int)), rf 268] (K, D3, z) P := by
        intro b D3 hb g1
        have b01 : b = 0 ∨ b = 1 := by rw [hb]; split <;> omega
        refine s_bast rfl (hk.at rfl rfl) (by omega) b01 ?_
        refine s_iinc2 rfl rfl ⟨by omega, by omega⟩ ?_
        refine s_go rfl ?_
        refine ih (t + 1) _ _ (by omega) ⟨fun r r1 r2 r3 => by rw [aUp_row r3, g1 r r2, eD r r1 r2 r3], fun j hj => ?_, fun s hs => ?_⟩
        · rw [aUp_row (by omega), g1 _ (by omega), e36, uF_ne hj, f2 j hj]
        · rw [aUp_same]
          rcases (by omega : s < t ∨ s = t) with q | q
          · rw [uF_ne (by omega), g1 _ (by omega), er _ (by omega)]; exact f3 s q
          · subst q; rw [uF_at, hb]
      refine s_il2 rfl ?_
      refine s_al0 rfl ?_
      refine s_gf rfl (hk.at rfl rfl) rfl rfl ?_
      refine s_al0 rfl ?_
      refine s_gi rfl (hk.at rfl rfl) rfl ?_
      rw [k10]
      refine s_iald rfl (hk.at rfl rfl) (by rcases b1 with q | q <;> rw [q] <;> decide) ?_
      rw [k21]
      refine s_cge rfl ?_ ?_
      · intro h17
        omega
      · intro h17
        refine s_ic rfl ?_
        refine s_al0 rfl ?_
        refine s_gi rfl (hk.at rfl rfl) rfl ?_
        rw [k10]
        refine s_imul rfl ⟨by omega, by omega⟩ ?_
        refine s_il2 rfl ?_
        refine s_iadd rfl ⟨by omega, by omega⟩ ?_
        refine s_is3 rfl rfl ?_
        refine s_al0 rfl ?_
        refine s_gf rfl (hk.at rfl rfl) rfl rfl ?_
        refine s_ic rfl ?_
        refine s_al0 rfl ?_
        refine s_gf rfl (hk.at rfl rfl) rfl rfl ?_
        refine s_ic rfl ?_
        refine s_il1 rfl ?_
        refine s_imul rfl ⟨by omega, by omega⟩ ?_
        refine s_al0 rfl ?_
        refine s_gf rfl (hk.at rfl rfl) rfl rfl ?_
        refine s_il3 rfl ?_
        refine s_iald rfl (hk.at rfl rfl) (by omega) ?_
        rw [k24]
        refine s_iadd rfl ⟨by omega, by omega⟩ ?_
        refine s_lald rfl (hk.at rfl rfl) (by omega) ?_
        rw [k55]
        refine s_l2i rfl ⟨by omega, by omega⟩ ?_
        refine s_iast rfl (hk.at rfl rfl) ⟨by decide, by decide⟩ ?_
        rw [hE]
        refine s_al0 rfl ?_
        refine s_gf rfl (hk.at rfl rfl) rfl rfl ?_
        refine s_il2 rfl ?_
        refine s_al0 rfl ?_
        refine s_il2 rfl ?_
        refine s_callO rfl rfl (Or.inl rfl) rfl rfl (hk.at rfl rfl) (u_isCommuted hk ⟨by omega, by omega⟩ ?_)
        rw [eD 265 (by omega) (by omega) (by omega), evw]
        show V G l (d + 2) iX12_settle 63 [rf 210, (0, (e : Int)), (0, (t : Int)), (0, (24 * D 210 10 + (t : Int)))] [(0, if 0 ≤ D 265 t ∧ D 265 t ≤ vwM D then 1 else 0), (0, (t : Int)), rf 268] (K, E, z) P
        generalize hcm : (if 0 ≤ D 265 t ∧ D 265 t ≤ vwM D then (1 : Int) else 0) = cm
        refine s_zne rfl ?_ ?_
        · intro h63
          have hc1 : 0 ≤ D 265 t ∧ D 265 t ≤ vwM D := Decidable.byContradiction fun q => by rw [if_neg q] at hcm; omega
          refine s_ic rfl ?_
          refine nxt _ _ ?_ (fun _ _ => rfl)
          unfold pyM
          rw [decide_eq_false (fun q => q.1 hc1)]
          rfl
        · intro h63
          have hc0 : ¬ (0 ≤ D 265 t ∧ D 265 t ≤ vwM D) := fun q => by rw [if_pos q] at hcm; omega
          refine s_al0 rfl ?_
          refine s_gf rfl (hk.at rfl rfl) rfl rfl ?_
          refine s_il3 rfl ?_
          refine s_iald rfl (hk.at rfl rfl) (by omega) ?_
          rw [k33]
          refine s_zlt rfl ?_ ?_
          · intro h72
            have hn0 : cn t = 0 := by rcases hcd with q | q; exact q.1; omega
            refine s_ic rfl ?_
            refine s_go rfl ?_
            refine nxt _ _ ?_ (fun _ _ => rfl)
            have h1 : resC (fct (D 236 0) (D 236 1) (D 236 2) (D 255 (12 * (e : Int) + D 224 (24 * D 210 10 + (t : Int)))) (D 236 4)) (cc t) (cn t) = 1 := by rw [hn0]; rfl
            unfold pyM
            rw [decide_eq_true ⟨hc0, by rw [h1]; decide⟩]
            rfl
          · intro h72
            have hcd2 := hcd.resolve_left (fun q => by omega)
            obtain ⟨v1, v2, v3, v4⟩ := hcd2
            refine s_al0 rfl ?_
            refine s_al0 rfl ?_
            refine s_gf rfl (hk.at rfl rfl) rfl rfl ?_
            refine s_il3 rfl ?_
            refine s_iald rfl (hk.at rfl rfl) (by omega) ?_
            rw [k33]
            refine s_callO rfl rfl (Or.inl rfl) rfl rfl (hk.at rfl rfl) (u_worth (c := cc t) (n := cn t) hk (fun k hk => by rw [eD 234 (by omega) (by omega) (by omega), eD 235 (by omega) (by omega) (by omega)]; exact v3 k hk) (by rw [eD 234 (by omega) (by omega) (by omega)]; exact v4) hwf v1 v2 (fun D3 g1 => ?_))
            rw [resC_congr hwf kn]
            show V G l (d + 2) iX12_settle 85 [rf 210, (0, (e : Int)), (0, (t : Int)), (0, (24 * D 210 10 + (t : Int)))] [(0, resC (fct (D 236 0) (D 236 1) (D 236 2) (D 255 (12 * (e : Int) + D 224 (24 * D 210 10 + (t : Int)))) (D 236 4)) (cc t) (cn t)), (0, (t : Int)), rf 268] (K, D3, z) P
            refine s_zeq rfl ?_ ?_
            · intro h85
              refine s_ic rfl ?_
              refine nxt _ _ ?_ g1
              unfold pyM
              rw [decide_eq_false (fun q => q.2 h85)]
              rfl
            · intro h85
              refine s_ic rfl ?_
              refine s_go rfl ?_
              refine nxt _ _ ?_ g1
              unfold pyM
              rw [decide_eq_true ⟨hc0, h85⟩]
              rfl
  refine s_ic rfl ?_
  refine s_is2 rfl rfl ?_
  exact loop (ntM D) 0 D _ (by omega) ⟨fun _ _ _ _ => rfl, fun _ _ => rfl, fun s hs => absurd hs (Nat.not_lt_zero s)⟩
theorem u_settle {e : Nat} {cn : Nat → Nat} {cc : Nat → Nat → Int × Int} {nh : Int} (hk : Kn K) (he : e < 60) (hb : StB D nh) (hc : CoM D cn cc) (hn : 0 ≤ D 210 37 ∧ D 210 37 ≤ 60) (hh : ∀ q : Int, 0 ≤ q → q < D 210 37 → (0 ≤ D 238 q ∧ D 238 q < 12) ∧ (0 ≤ D 239 q ∧ D 239 q < 240000) ∧ (D 252 q = e → 0 ≤ D 249 q ∧ D 249 q ≤ 100000)) (hf : 0 ≤ D 250 e ∧ D 250 e < D 210 37) (hO : ∀ j : Int, 0 ≤ j → j < 144 → 0 ≤ D 267 j ∧ D 267 j ≤ 1000000000000) (kk : ∀ D1 D2 D3 D4, FdD e D D1 → PaD e (ntM D1) cn cc D1 D2 → SeD D2 e (slF (wM D2) (rmM D2) (payM D2) (diM D2 e) (ntM D2) 2000 0 (diM D2 e)).1 (slF (wM D2) (rmM D2) (payM D2) (diM D2 e) (ntM D2) 2000 0 (diM D2 e)).2.1 (slF (wM D2) (rmM D2) (payM D2) (diM D2 e) (ntM D2) 2000 0 (diM D2 e)).2.2 D3 → ClD e (ntM D3) D3 D4 → P 0 (K, D4, z)) : VM G l (d + 2) iX12_settle [rf 210, (0, (e : Int))] (K, D, z) P := by
  refine VM_go (tg2 rfl) (Nat.le_of_ble_eq_true rfl) ?_
  have din : ∀ h : Int, 0 ≤ dM D e h ∧ dM D e h ≤ 6000000 := fun h => dF_in2 (by omega) (fun q hq hj => (hh q (by omega) (by omega)).2.2 hj)
  refine s_al0 rfl ?_
  refine s_il1 rfl ?_
  refine s_callO rfl rfl (Or.inl rfl) rfl rfl (hk.at rfl rfl) (u_findDirect hk he hn hh hf (fun D1 hF => ?_))
  show V G l (d + 2) iX12_settle 5 [rf 210, (0, (e : Int)), (9, 0), (9, 0)] [] (K, D1, z) P
  obtain ⟨s1, w1, m1, t1⟩ := StB_of hb (D' := D1) (fun r hr => hF.1 r (by omega) (by omega) (by omega))
  have d1 : ∀ h : Int, 0 ≤ h → h < 12 → 0 ≤ D1 255 (12 * e + h) ∧ D1 255 (12 * e + h) ≤ 6000000 := fun h q1 q2 => by rw [(hF.2.1 h q1 q2).1]; exact din h
  have c1 : CoM D1 cn cc := by
    unfold CoM at hc ⊢
    rw [t1, hF.1 233 (by omega) (by omega) (by omega), hF.1 234 (by omega) (by omega) (by omega), hF.1 235 (by omega) (by omega) (by omega), hF.1 210 (by omega) (by omega) (by omega)]
    exact hc
  refine u_paying hk he s1 c1 d1 (fun D2 u2 u3 hP => ?_)
  obtain ⟨s2, w2, m2, t2⟩ := StB_of s1 (D' := D2) (fun r hr => hP.1 r (by omega) (by omega) (by omega))
  have b2 := StB_more s2
  have r55 : D2 255 = D1 255 := hP.1 _ (by omega) (by omega) (by omega)
  have r56 : D2 256 = D1 256 := hP.1 _ (by omega) (by omega) (by omega)
  have dg : ∀ h : Int, 0 ≤ h → h < 12 → grM D2 e h = diM D2 e h ∧ 0 ≤ diM D2 e h ∧ diM D2 e h ≤ 6000000 := fun h q1 q2 => by
    show D2 256 _ = D2 255 _ ∧ 0 ≤ D2 255 _ ∧ D2 255 _ ≤ 6000000
    rw [r55, r56, (hF.2.1 h q1 q2).1, (hF.2.1 h q1 q2).2]
    exact ⟨rfl, din h⟩
  have hR : RnB D2 e nh := ⟨s2.1, s2.2.1, s2.2.2.1, fun t ht => ⟨⟨(s2.2.2.2 t ht).1.1, (s2.2.2.2 t ht).1.2.1⟩, (b2 t ht).1, (b2 t ht).2, by rw [hP.2.2 t (by rw [← t2]; exact ht)]; split <;> omega⟩, fun h q1 q2 => by have := dg h q1 q2; omega⟩
  refine u_rounds hk he hR (fun h q1 q2 => (dg h q1 q2).1) (fun D3 x u' hS => ?_)
  have sF := hS.1
  obtain ⟨s3, w3, m3, t3⟩ := StB_of s2 (D' := D3) (fun r hr => sF.1 r (by omega))
  refine s_al0 rfl ?_
  refine s_il1 rfl ?_
  refine s_callO rfl rfl (Or.inl rfl) rfl rfl (hk.at rfl rfl) (u_closes (nh := nh) hk he s3.1 s3.2.1 s3.2.2.1 (fun t ht => (s3.2.2.2 t ht).1) (fun t ht => ?_) (fun j j1 j2 => ?_) (fun D4 hC => ?_))
  · have ht2 : t < ntM D2 := by rw [← t3]; exact ht
    obtain ⟨-, -, -, -, v5⟩ := hS
    have v := v5 t ht2
    refine ⟨?_, ?_, (StB_more s3 t ht).2, (s3.2.2.2 t ht).2.2⟩
    · show 0 ≤ D3 259 _ ∧ D3 259 _ ≤ _
      rw [v.2.1]
      cases hen : (slF (wM D2) (rmM D2) (payM D2) (diM D2 e) (ntM D2) 2000 0 (diM D2 e)).2.1 with
      | true => rw [if_pos rfl]; exact ⟨by decide, by decide⟩
      | false =>
        have gin := slF_in s2.2.2.1 (fun t ht => (b2 t ht).1) (fun h q1 q2 => (dg h q1 q2).2.1) 2000 0 (diM D2 e) (fun h q1 q2 => by have := dg h q1 q2; omega) hen
        have h12 := s2.2.2.1.2.2.1
        have hw0 := (s2.2.2.1.2.2.2 t ht2).1
        have a0 := auF_in (pay := payM D2) (g := (slF (wM D2) (rmM D2) (payM D2) (diM D2 e) (ntM D2) 2000 0 (diM D2 e)).2.2) s2.2.2.1 (fun t ht => (b2 t ht).1) (fun h q1 q2 => ⟨(dg h q1 (by omega)).2.1, (gin h q1 (by omega)).1⟩) ht2
        have a1 := pdF_in s2.2.2.1 ht2 a0.1
        have a2 := (gin _ hw0.1 (by omega)).2
        rw [if_neg (by decide)]
        split
        · split <;> omega
        · omega
    · show 0 ≤ D3 258 _ ∧ D3 258 _ ≤ _
      rw [v.1]
      cases hen : (slF (wM D2) (rmM D2) (payM D2) (diM D2 e) (ntM D2) 2000 0 (diM D2 e)).2.1 with
      | true => rw [if_pos rfl]; exact ⟨by decide, by decide⟩
      | false =>
        have gin := slF_in s2.2.2.1 (fun t ht => (b2 t ht).1) (fun h q1 q2 => (dg h q1 q2).2.1) 2000 0 (diM D2 e) (fun h q1 q2 => by have := dg h q1 q2; omega) hen
        have h12 := s2.2.2.1.2.2.1
        have hw0 := (s2.2.2.1.2.2.2 t ht2).1
        have a0 := bsF_in (pay := payM D2) (g := (slF (wM D2) (rmM D2) (payM D2) (diM D2 e) (ntM D2) 2000 0 (diM D2 e)).2.2) s2.2.2.1 (fun t ht => (b2 t ht).1) (fun h q1 q2 => ⟨(dg h q1 (by omega)).2.1, (gin h q1 (by omega)).1⟩) ht2
        have a2 := (gin _ hw0.1 (by omega)).2
        rw [if_neg (by decide)]
        split <;> omega
  · rw [sF.1 267 (by omega), hP.1 267 (by omega) (by omega) (by omega), hF.1 267 (by omega) (by omega) (by omega)]; exact hO j j1 j2
  · refine s_retv rfl rfl ?_
    exact kk D1 D2 D3 D4 hF hP hS hC
end
