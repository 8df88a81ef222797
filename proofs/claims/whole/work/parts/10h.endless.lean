/-! ===== an event's rounds: the reference ===== -/
theorem nxF_congr {w w' : WT} {rm rm' : Nat → Int} {pay pay' : Nat → Bool} {d d' g g' : Int → Int} {h : Int} {n : Nat} (hw : ∀ t, t < n → w' t = w t ∧ rm' t = rm t ∧ pay' t = pay t) (hd : ∀ t, t < n → d' (w t 0) = d (w t 0) ∧ g' (w t 0) = g (w t 0)) (hh : d' h = d h) : nxF w' rm' pay' d' g' n h = nxF w rm pay d g n h := by
  unfold nxF
  rw [hh, sumF_congr (fun t ht => ?_)]
  obtain ⟨h1, h2, h3⟩ := hw t ht
  rw [h3, auF_congr (fun s hs => hw s (by omega)) (hd t ht).1 (hd t ht).2]
  unfold ptF
  rw [h1]
def SeF (e nt : Nat) (D D' : Nat → Int → Int) : Prop := (∀ r, (r < 253 ∨ r = 255 ∨ (260 < r ∧ r < 268) ∨ 271 < r) → D' r = D r) ∧ (∀ j : Int, j ≠ e → D' 253 j = D 253 j ∧ D' 254 j = D 254 j) ∧ (∀ j : Int, ¬ (12 * (e : Int) ≤ j ∧ j < 12 * e + 12) → D' 256 j = D 256 j ∧ D' 257 j = D 257 j) ∧ ∀ j : Int, ¬ (24 * (e : Int) ≤ j ∧ j < 24 * e + nt) → D' 258 j = D 258 j ∧ D' 259 j = D 259 j ∧ D' 260 j = D 260 j
theorem SeF_refl {e nt : Nat} {D : Nat → Int → Int} : SeF e nt D D := ⟨fun _ _ => rfl, fun _ _ => ⟨rfl, rfl⟩, fun _ _ => ⟨rfl, rfl⟩, fun _ _ => ⟨rfl, rfl, rfl⟩⟩
theorem SeF_trans {e nt : Nat} {D D1 D2 : Nat → Int → Int} (h1 : SeF e nt D D1) (h2 : SeF e nt D1 D2) : SeF e nt D D2 := by
  obtain ⟨a1, a2, a3, a4⟩ := h1
  obtain ⟨b1, b2, b3, b4⟩ := h2
  refine ⟨fun r hr => by rw [b1 r hr, a1 r hr], fun j hj => ?_, fun j hj => ?_, fun j hj => ?_⟩
  · rw [(b2 j hj).1, (b2 j hj).2]; exact a2 j hj
  · rw [(b3 j hj).1, (b3 j hj).2]; exact a3 j hj
  · rw [(b4 j hj).1, (b4 j hj).2.1, (b4 j hj).2.2]; exact a4 j hj
theorem SeF_up {e nt q : Nat} {i v : Int} {D : Nat → Int → Int} (hq : ((q = 253 ∨ q = 254) ∧ i = e) ∨ (q = 256 ∧ 12 * (e : Int) ≤ i ∧ i < 12 * e + 12) ∨ q = 268) : SeF e nt D (aUp D q i v) := by
  refine ⟨fun r hr => aUp_row (by omega), fun j hj => ?_, fun j hj => ?_, fun j hj => ?_⟩
  · rw [aUp_app, aUp_app, if_neg (by omega), if_neg (by omega)]; exact ⟨rfl, rfl⟩
  · rw [aUp_app, aUp_app, if_neg (by omega), if_neg (by omega)]; exact ⟨rfl, rfl⟩
  · rw [aUp_app, aUp_app, aUp_app, if_neg (by omega), if_neg (by omega), if_neg (by omega)]; exact ⟨rfl, rfl, rfl⟩
theorem SeF_ro {e : Nat} {D D' : Nat → Int → Int} (h : RoD e D D') : SeF e (ntM D) D D' := by
  obtain ⟨D1, ⟨a1, a2, a3, a4⟩, b1, b2, b3⟩ := h
  refine ⟨fun r hr => by rw [b1 r (by omega), a1 r (by omega) (by omega) (by omega) (by omega) (by omega) (by omega)], fun j hj => ?_, fun j hj => ?_, fun j hj => ?_⟩
  · rw [b1 253 (by omega), b1 254 (by omega), a1 253 (by omega) (by omega) (by omega) (by omega) (by omega) (by omega), a1 254 (by omega) (by omega) (by omega) (by omega) (by omega) (by omega)]; exact ⟨rfl, rfl⟩
  · rw [b1 256 (by omega), a1 256 (by omega) (by omega) (by omega) (by omega) (by omega) (by omega)]; exact ⟨rfl, b3 j hj⟩
  · rw [b1 258 (by omega), b1 259 (by omega), b1 260 (by omega)]; exact a4 j hj
theorem SeF_same {e nt : Nat} {D D1 : Nat → Int → Int} (h : SeF e nt D D1) : wM D1 = wM D ∧ rmM D1 = rmM D ∧ ntM D1 = ntM D ∧ diM D1 e = diM D e ∧ D1 210 = D 210 := by
  have hw : wM D1 = wM D := wM_congr (fun r q1 q2 => h.1 r (by omega)) (by rw [h.1 210 (by omega)])
  refine ⟨hw, rmM_congr hw (h.1 263 (by omega)), ?_, ?_, h.1 210 (by omega)⟩
  · show (D1 221 (D1 210 10)).toNat = (D 221 (D 210 10)).toNat
    rw [h.1 221 (by omega), h.1 210 (by omega)]
  · funext j
    show D1 255 _ = D 255 _
    rw [h.1 255 (by omega)]
theorem RnB_next {e nt : Nat} {nh : Int} {D D1 : Nat → Int → Int} (hb : RnB D e nh) (hF : SeF e nt D D1) (h8 : ∀ t : Nat, t < ntM D → D1 268 t = 0 ∨ D1 268 t = 1) (hg : ∀ h : Int, 0 ≤ h → h < 12 → diM D e h ≤ D1 256 (12 * e + h) ∧ D1 256 (12 * e + h) ≤ 20000000) : RnB D1 e nh := by
  obtain ⟨e1, e2, e3, e4, e5⟩ := SeF_same hF
  obtain ⟨b1, b2, b3, b4, b5⟩ := hb
  unfold RnB
  rw [e1, e2, e3, e4, e5, hF.1 221 (by omega), hF.1 263 (by omega)]
  exact ⟨b1, b2, b3, fun t ht => ⟨(b4 t ht).1, (b4 t ht).2.1, (b4 t ht).2.2.1, h8 t ht⟩, fun h q1 q2 => ⟨(b5 h q1 q2).1, (hg h q1 q2).1, (hg h q1 q2).2, (b5 h q1 q2).2.2.2⟩⟩
def SeD (D : Nat → Int → Int) (e R : Nat) (en : Bool) (g : Int → Int) (D' : Nat → Int → Int) : Prop := SeF e (ntM D) D D' ∧ D' 253 e = R ∧ D' 254 e = (if en = true then 1 else 0) ∧ (∀ h : Int, 0 ≤ h → h < 12 → D' 256 (12 * e + h) = (if en = true then diM D e h else g h) ∧ D' 257 (12 * e + h) = (if en = true then diM D e h else (hsF (wM D) (rmM D) (payM D) (diM D e) g h (ntM D)).1)) ∧ ∀ t : Nat, t < ntM D → D' 258 (24 * e + t) = (if en = true then 0 else if payM D t = true then bsF (wM D) (rmM D) (payM D) (diM D e) g t else 0) ∧ D' 259 (24 * e + t) = (if en = true then 0 else if payM D t = true then (if wM D t 1 = 0 then pdF (wM D) t (auF (wM D) (rmM D) (payM D) (diM D e) g t) else auF (wM D) (rmM D) (payM D) (diM D e) g t) else 0) ∧ D' 260 (24 * e + t) = (if en = true then 0 else if payM D t = true then pdF (wM D) t (auF (wM D) (rmM D) (payM D) (diM D e) g t) else 0)
theorem hsF_off {w : WT} {rm : Nat → Int} {pay : Nat → Bool} {d g : Int → Int} {h : Int} {n : Nat} (hp : ∀ t, t < n → pay t = false) : hsF w rm pay d g h n = (g h, d h) := by
  induction n with
  | zero => rfl
  | succ n ih => rw [hsF, if_neg (fun q => by rw [hp n (by omega)] at q; cases q.2), ih (fun t ht => hp t (by omega))]
def InV (D : Nat → Int → Int) (e r : Nat) (g : Int → Int) (D1 : Nat → Int → Int) : Prop := SeF e (ntM D) D D1 ∧ D1 268 = D 268 ∧ D1 253 e = r ∧ D1 254 e = 0 ∧ ∀ h : Int, 0 ≤ h → h < 12 → D1 256 (12 * e + h) = g h ∧ diM D e h ≤ g h ∧ g h ≤ 20000000
section
variable {G : aCX} {l : Launch} {d : Nat} {K : Nat → aKd} {D : Nat → Int → Int} {z : Nat × Nat} {P : Int → aSt → Prop}
theorem u_endless {e R : Nat} {nh x : Int} {g : Int → Int} {u : aTV} {D1 : Nat → Int → Int} (hk : Kn K) (he : e < 60) (hb : RnB D e nh) (hF : SeF e (ntM D) D D1) (h3 : D1 253 e = R) (h4 : D1 254 e = 1) (kk : ∀ D' u', SeD D e R true g D' → V G l (d + 2) iX12_settle 368 [rf 210, (0, (e : Int)), (0, x), u'] [] (K, D', z) P) : V G l (d + 2) iX12_settle 299 [rf 210, (0, (e : Int)), (0, x), u] [] (K, D1, z) P := by
  have hb0 := hb
  obtain ⟨b1, b2, b3, b4, b5⟩ := hb
  have n24 := b3.1
  have en : ((ntM D : Nat) : Int) = D 221 (D 210 10) := by show ((D 221 (D 210 10)).toNat : Int) = _; omega
  have loopB : ∀ (m n : Nat) (D2 : Nat → Int → Int), n + m = ntM D → SeF e (ntM D) D D2 → D2 253 e = R → D2 254 e = 1 → (∀ h : Int, 0 ≤ h → h < 12 → D2 256 (12 * e + h) = diM D e h) → (∀ t : Nat, t < n → D2 268 t = 0) → V G l (d + 2) iX12_settle 337 [rf 210, (0, (e : Int)), (0, x), (0, (n : Int))] [] (K, D2, z) P := by
    intro m
    induction m with
    | zero =>
      intro n D2 hm f1 f2 f3 f4 f5
      have hn : n = ntM D := by omega
      obtain ⟨s1, s2, s3, s4, s5⟩ := SeF_same f1
      have k21 : D2 221 = D 221 := f1.1 _ (by omega)
      have hoff : ∀ t, t < ntM D → payM D2 t = false := fun t ht => decide_eq_false (by rw [f5 t (by omega)]; decide)
      refine s_il3 rfl ?_
      refine s_al0 rfl ?_
      refine s_gf rfl (hk.at rfl rfl) rfl rfl ?_
      refine s_al0 rfl ?_
      refine s_gi rfl (hk.at rfl rfl) rfl ?_
      rw [s5]
      refine s_iald rfl (hk.at rfl rfl) (by rcases b1 with q | q <;> rw [q] <;> decide) ?_
      rw [k21]
      refine s_cge rfl ?_ ?_
      · intro h347
        refine s_al0 rfl ?_
        refine s_il1 rfl ?_
        refine s_callO rfl rfl (Or.inl rfl) rfl rfl (hk.at rfl rfl) (u_round (nh := nh) hk he (RnB_next hb0 f1 (fun t ht => Or.inl (f5 t (by omega))) (fun h q1 q2 => by rw [f4 h q1 q2]; have := b5 h q1 q2; omega)) (fun D3 hR => ?_))
        show V G l (d + 2) iX12_settle 368 [rf 210, (0, (e : Int)), (0, x), (0, (n : Int))] [] (K, D3, z) P
        have hRF := SeF_ro hR
        rw [s3] at hRF
        obtain ⟨E, ⟨a1, a2, a3, a4⟩, c1, c2, c3⟩ := hR
        rw [s1, s2, s3] at c2
        rw [s3, s1, s2] at a3
        refine kk D3 _ ⟨SeF_trans f1 hRF, ?_, ?_, fun h q1 q2 => ⟨?_, ?_⟩, fun t ht => ?_⟩
        · rw [c1 253 (by omega), a1 253 (by omega) (by omega) (by omega) (by omega) (by omega) (by omega), f2]
        · rw [c1 254 (by omega), a1 254 (by omega) (by omega) (by omega) (by omega) (by omega) (by omega), f3]; rfl
        · rw [c1 256 (by omega), a1 256 (by omega) (by omega) (by omega) (by omega) (by omega) (by omega), f4 h q1 q2]; rfl
        · rw [c2 h q1 q2, hsF_off hoff]; exact f4 h q1 q2
        · rw [c1 258 (by omega), c1 259 (by omega), c1 260 (by omega), (a3 t ht).1, (a3 t ht).2.1, (a3 t ht).2.2, hoff t ht]; exact ⟨rfl, rfl, rfl⟩
      · intro h347
        omega
    | succ m ih =>
      intro n D2 hm f1 f2 f3 f4 f5
      have hn : n < ntM D := by omega
      obtain ⟨s1, s2, s3, s4, s5⟩ := SeF_same f1
      have k21 : D2 221 = D 221 := f1.1 _ (by omega)
      refine s_il3 rfl ?_
      refine s_al0 rfl ?_
      refine s_gf rfl (hk.at rfl rfl) rfl rfl ?_
      refine s_al0 rfl ?_
      refine s_gi rfl (hk.at rfl rfl) rfl ?_
      rw [s5]
      refine s_iald rfl (hk.at rfl rfl) (by rcases b1 with q | q <;> rw [q] <;> decide) ?_
      rw [k21]
      refine s_cge rfl ?_ ?_
      · intro h347
        omega
      · intro h347
        refine s_al0 rfl ?_
        refine s_gf rfl (hk.at rfl rfl) rfl rfl ?_
        refine s_il3 rfl ?_
        refine s_ic rfl ?_
        refine s_bast rfl (hk.at rfl rfl) (by omega) (by omega) ?_
        refine s_iinc3 rfl rfl ⟨by omega, by omega⟩ ?_
        refine s_go rfl ?_
        refine ih (n + 1) _ (by omega) (SeF_trans f1 (SeF_up (by omega))) (by rw [aUp_row (by omega)]; exact f2) (by rw [aUp_row (by omega)]; exact f3) (fun h q1 q2 => by rw [aUp_row (by omega)]; exact f4 h q1 q2) (fun t ht => ?_)
        rw [aUp_same]
        rcases (by omega : t < n ∨ t = n) with q | q
        · rw [uF_ne (by omega)]; exact f5 t q
        · subst q; rw [uF_at]
  have loopA : ∀ (m n : Nat) (D2 : Nat → Int → Int), n + m = 12 → SeF e (ntM D) D D2 → D2 253 e = R → D2 254 e = 1 → (∀ h : Int, 0 ≤ h → h < n → D2 256 (12 * e + h) = diM D e h) → V G l (d + 2) iX12_settle 301 [rf 210, (0, (e : Int)), (0, x), (0, (n : Int))] [] (K, D2, z) P := by
    intro m
    induction m with
    | zero =>
      intro n D2 hm f1 f2 f3 f4
      have hn : n = 12 := by omega
      subst hn
      refine s_il3 rfl ?_
      refine s_ic rfl ?_
      refine s_cge rfl ?_ ?_
      · intro h304
        refine s_ic rfl ?_
        refine s_is3 rfl rfl ?_
        exact loopB (ntM D) 0 D2 (by omega) f1 f2 f3 f4 (fun t ht => absurd ht (Nat.not_lt_zero t))
      · intro h304
        exact absurd h304 (by decide)
    | succ m ih =>
      intro n D2 hm f1 f2 f3 f4
      have k55 : D2 255 = D 255 := f1.1 _ (by omega)
      refine s_il3 rfl ?_
      refine s_ic rfl ?_
      refine s_cge rfl ?_ ?_
      · intro h304
        omega
      · intro h304
        refine s_al0 rfl ?_
        refine s_gf rfl (hk.at rfl rfl) rfl rfl ?_
        refine s_ic rfl ?_
        refine s_il1 rfl ?_
        refine s_imul rfl ⟨by omega, by omega⟩ ?_
        refine s_il3 rfl ?_
        refine s_iadd rfl ⟨by omega, by omega⟩ ?_
        refine s_al0 rfl ?_
        refine s_gf rfl (hk.at rfl rfl) rfl rfl ?_
        refine s_ic rfl ?_
        refine s_il1 rfl ?_
        refine s_imul rfl ⟨by omega, by omega⟩ ?_
        refine s_il3 rfl ?_
        refine s_iadd rfl ⟨by omega, by omega⟩ ?_
        refine s_lald rfl (hk.at rfl rfl) (by omega) ?_
        rw [k55]
        refine s_last rfl (hk.at rfl rfl) (by omega) ?_
        refine s_iinc3 rfl rfl ⟨by omega, by omega⟩ ?_
        refine s_go rfl ?_
        refine ih (n + 1) _ (by omega) (SeF_trans f1 (SeF_up (by omega))) (by rw [aUp_row (by omega)]; exact f2) (by rw [aUp_row (by omega)]; exact f3) (fun h q1 q2 => ?_)
        rw [aUp_same]
        rcases (by omega : h < n ∨ h = n) with q | q
        · rw [uF_ne (by omega)]; exact f4 h q1 q
        · subst q; rw [uF_at]
  refine s_ic rfl ?_
  refine s_is3 rfl rfl ?_
  exact loopA 12 0 D1 rfl hF h3 h4 (fun h q1 q2 => absurd q2 (by omega))
end
