/-! ===== rounds depend on what the tables say alone ===== -/
def wEq (w' w : WT) (nt : Nat) : Prop := ∀ t, t < nt → w' t 0 = w t 0 ∧ w' t 1 = w t 1 ∧ w' t 2 = w t 2 ∧ w' t 4 = w t 4 ∧ w' t 7 = w t 7 ∧ ∀ i : Nat, (i : Int) < w t 7 → w' t (100 + i) = w t (100 + i) ∧ w' t (200 + i) = w t (200 + i)
theorem wEq_refl {w : WT} {nt : Nat} : wEq w w nt := fun _ _ => ⟨rfl, rfl, rfl, rfl, rfl, fun _ _ => ⟨rfl, rfl⟩⟩
section
variable {w w' : WT} {rm rm' : Nat → Int} {pay pay' : Nat → Bool} {d d' g g' : Int → Int} {nt : Nat} {nh : Int}
theorem pd_eq {t : Nat} {a : Int} (hw : wEq w' w nt) (ht : t < nt) : pdF w' t a = pdF w t a := by
  obtain ⟨-, -, -, -, h7, hp⟩ := hw t ht
  unfold pdF
  rw [h7]
  exact sumF_congr fun i hi => by rw [(hp i (by omega)).2]
theorem am_eq {t : Nat} {b : Int} (hw : wEq w' w nt) (hr : ∀ t, t < nt → ¬ w t 1 = 0 → rm' t = rm t) (ht : t < nt) : amtF w' rm' t b = amtF w rm t b := by
  obtain ⟨-, h1, -, h4, -, -⟩ := hw t ht
  unfold amtF
  rw [h1, h4]
  by_cases q : w t 1 = 0
  · rw [if_pos q, if_pos q]
  · rw [hr t ht q]
theorem hs_eq {h : Int} (hw : wEq w' w nt) (hr : ∀ t, t < nt → ¬ w t 1 = 0 → rm' t = rm t) (hp : ∀ t, t < nt → pay' t = pay t) (hd : d' h = d h) (hg : g' h = g h) : ∀ n, n ≤ nt → hsF w' rm' pay' d' g' h n = hsF w rm pay d g h n := by
  intro n
  induction n with
  | zero => intro _; rw [hsF, hsF, hd, hg]
  | succ n ih =>
    intro hn
    obtain ⟨h0, h1, h2, -, -, -⟩ := hw n (by omega)
    rw [hsF, hsF, ih (by omega), h0, hp n (by omega)]
    unfold hsS
    rw [h2, am_eq hw hr (by omega), pd_eq hw (by omega)]
theorem bs_eq {t : Nat} (hw : wEq w' w nt) (hr : ∀ t, t < nt → ¬ w t 1 = 0 → rm' t = rm t) (hp : ∀ t, t < nt → pay' t = pay t) (ht : t < nt) (hd : d' (w t 0) = d (w t 0)) (hg : g' (w t 0) = g (w t 0)) : bsF w' rm' pay' d' g' t = bsF w rm pay d g t := by
  obtain ⟨h0, -, h2, -, -, -⟩ := hw t ht
  unfold bsF
  rw [h0, h2, hs_eq hw hr hp hd hg t (by omega)]
theorem au_eq {t : Nat} (hw : wEq w' w nt) (hr : ∀ t, t < nt → ¬ w t 1 = 0 → rm' t = rm t) (hp : ∀ t, t < nt → pay' t = pay t) (ht : t < nt) (hd : d' (w t 0) = d (w t 0)) (hg : g' (w t 0) = g (w t 0)) : auF w' rm' pay' d' g' t = auF w rm pay d g t := by
  unfold auF
  rw [bs_eq hw hr hp ht hd hg, am_eq hw hr ht]
theorem nx_eq {h : Int} (hw : wEq w' w nt) (hr : ∀ t, t < nt → ¬ w t 1 = 0 → rm' t = rm t) (hp : ∀ t, t < nt → pay' t = pay t) (hdg : ∀ t, t < nt → d' (w t 0) = d (w t 0) ∧ g' (w t 0) = g (w t 0)) (hd : d' h = d h) : nxF w' rm' pay' d' g' nt h = nxF w rm pay d g nt h := by
  unfold nxF
  rw [hd, sumF_congr (fun t ht => ?_)]
  obtain ⟨-, -, -, -, h7, hpp⟩ := hw t ht
  rw [hp t ht, au_eq hw hr hp ht (hdg t ht).1 (hdg t ht).2, h7]
  congr 1
  unfold ptF
  exact sumF_congr fun i hi => by rw [(hpp i (by omega)).1, (hpp i (by omega)).2]
theorem sl_eq (hw : wEq w' w nt) (hr : ∀ t, t < nt → ¬ w t 1 = 0 → rm' t = rm t) (hp : ∀ t, t < nt → pay' t = pay t) (h0 : ∀ t, t < nt → 0 ≤ w t 0 ∧ w t 0 < 12) (hd : ∀ h : Int, 0 ≤ h → h < 12 → d' h = d h) : ∀ (n r : Nat) (g' g : Int → Int), (∀ h : Int, 0 ≤ h → h < 12 → g' h = g h) → (slF w' rm' pay' d' nt n r g').1 = (slF w rm pay d nt n r g).1 ∧ (slF w' rm' pay' d' nt n r g').2.1 = (slF w rm pay d nt n r g).2.1 ∧ ∀ h : Int, 0 ≤ h → h < 12 → (slF w' rm' pay' d' nt n r g').2.2 h = (slF w rm pay d nt n r g).2.2 h := by
  intro n
  induction n with
  | zero => intro r g' g hg; exact ⟨rfl, rfl, hg⟩
  | succ n ih =>
    intro r g' g hg
    have hn : ∀ h : Int, 0 ≤ h → h < 12 → nxF w' rm' pay' d' g' nt h = nxF w rm pay d g nt h := fun h q1 q2 => nx_eq hw hr hp (fun t ht => ⟨hd _ (h0 t ht).1 (h0 t ht).2, hg _ (h0 t ht).1 (h0 t ht).2⟩) (hd h q1 q2)
    have e1 : chB g' (nxF w' rm' pay' d' g' nt) 12 = chB g (nxF w rm pay d g nt) 12 := chB_congr (fun k hk => hg k (by omega) (by omega)) (fun k hk => hn k (by omega) (by omega))
    have e2 : bgB (nxF w' rm' pay' d' g' nt) 12 = bgB (nxF w rm pay d g nt) 12 := bgB_congr (fun k hk => hn k (by omega) (by omega))
    rw [slF, slF, e1, e2]
    cases chB g (nxF w rm pay d g nt) 12 with
    | false => rw [if_neg (by decide), if_neg (by decide)]; exact ⟨rfl, rfl, hn⟩
    | true =>
      rw [if_pos rfl, if_pos rfl]
      cases bgB (nxF w rm pay d g nt) 12 with
      | true => rw [if_pos rfl, if_pos rfl]; exact ⟨rfl, rfl, hn⟩
      | false => rw [if_neg (by decide), if_neg (by decide)]; exact ih (r + 1) _ _ hn
end
