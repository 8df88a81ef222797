/-! ===== the classes by number ===== -/
abbrev aCl (ci : Nat) : String := (vwCl.getD ci (RX0, TX0, 0)).1
theorem nth_getD {α : Type} {d v : α} : ∀ {l : List α} {i : Nat}, aNth l i = some v → l.getD i d = v ∧ l[i]? = some v ∧ i < l.length := by
  intro l
  induction l with
  | nil => intro i h; simp [aNth] at h
  | cons x l ih =>
    intro i h
    cases i with
    | zero => simp only [aNth, Option.some.injEq] at h; subst h; exact ⟨rfl, rfl, Nat.zero_lt_succ _⟩
    | succ i =>
      obtain ⟨h1, h2, h3⟩ := ih h
      exact ⟨by simpa using h1, by simpa using h2, Nat.succ_lt_succ h3⟩
theorem cls_at {ci : Nat} (h : ci < 13) : vwCl[ci]? = some (aCl ci, aTf ci, aNf ci) := by
  have h1 : ci < vwCl.length := h
  rw [List.getElem?_eq_getElem h1]
  simp [aCl, aTf, aNf, List.getD, List.getElem?_eq_getElem h1]
theorem by13 {Pr : Nat → Prop} (h0 : Pr 0) (h1 : Pr 1) (h2 : Pr 2) (h3 : Pr 3) (h4 : Pr 4) (h5 : Pr 5) (h6 : Pr 6) (h7 : Pr 7) (h8 : Pr 8) (h9 : Pr 9) (h10 : Pr 10) (h11 : Pr 11) (h12 : Pr 12) {ci : Nat} (h : ci < 13) : Pr ci := by
  rcases (by omega : ci = 0 ∨ ci = 1 ∨ ci = 2 ∨ ci = 3 ∨ ci = 4 ∨ ci = 5 ∨ ci = 6 ∨ ci = 7 ∨ ci = 8 ∨ ci = 9 ∨ ci = 10 ∨ ci = 11 ∨ ci = 12) with rfl | rfl | rfl | rfl | rfl | rfl | rfl | rfl | rfl | rfl | rfl | rfl | rfl <;> assumption
theorem inAll {ci : Nat} (h : ci < 13) : ∀ w ∈ u_ws (aCl ci) (aTf ci) (aNf ci), w ∈ gTbl :=
  by13 (Pr := fun ci => ∀ w ∈ u_ws (aCl ci) (aTf ci) (aNf ci), w ∈ gTbl) inX0 inX1 inX2 inX3 inX4 inX5 inX6 inX7 inX8 inX9 inX10 inX11 inX12 h
theorem tyAll {ci : Nat} (h : ci < 13) : ∃ ty : Nat → FieldType, ∀ k, k < aNf ci → parseFieldDescriptor (aTf ci k).2.2.1 = some (ty k) :=
  by13 (Pr := fun ci => ∃ ty : Nat → FieldType, ∀ k, k < aNf ci → parseFieldDescriptor (aTf ci k).2.2.1 = some (ty k)) ⟨_, tyX0_ok⟩ ⟨_, tyX1_ok⟩ ⟨_, tyX2_ok⟩ ⟨_, tyX3_ok⟩ ⟨_, tyX4_ok⟩ ⟨_, tyX5_ok⟩ ⟨_, tyX6_ok⟩ ⟨_, tyX7_ok⟩ ⟨_, tyX8_ok⟩ ⟨_, tyX9_ok⟩ ⟨_, tyX10_ok⟩ ⟨_, tyX11_ok⟩ ⟨_, tyX12_ok⟩ h
theorem nmAll {ci : Nat} (h : ci < 13) : ∀ a, a < aNf ci → ∀ b, b < aNf ci → a ≠ b → (aTf ci a).2.1 ≠ (aTf ci b).2.1 :=
  by13 (Pr := fun ci => ∀ a, a < aNf ci → ∀ b, b < aNf ci → a ≠ b → (aTf ci a).2.1 ≠ (aTf ci b).2.1) nmX0 nmX1 nmX2 nmX3 nmX4 nmX5 nmX6 nmX7 nmX8 nmX9 nmX10 nmX11 nmX12 h
def tcB (ci k : Nat) : Bool := match aFc ci k with
  | 0 => decide (parseFieldDescriptor (aTf ci k).2.2.1 = some .int)
  | 1 => decide (parseFieldDescriptor (aTf ci k).2.2.1 = some .long)
  | 4 => decide (parseFieldDescriptor (aTf ci k).2.2.1 = some .boolean)
  | 9 => false
  | _ => (match parseFieldDescriptor (aTf ci k).2.2.1 with
    | some (.object _) => true
    | some (.array _) => true
    | _ => false)
theorem tc_ok : (List.range 13).all (fun ci => (List.range (aNf ci)).all (fun k => tcB ci k) && decide ((aFts.getD ci []).length = aNf ci)) = true := by decide +kernel
theorem tc_of {ci k : Nat} (h : ci < 13) (hk : k < aNf ci) : tcB ci k = true := by
  have h1 := List.all_eq_true.mp tc_ok ci (List.mem_range.mpr h)
  simp only [Bool.and_eq_true] at h1
  exact List.all_eq_true.mp h1.1 k (List.mem_range.mpr hk)
theorem tc_len {ci : Nat} (h : ci < 13) : (aFts.getD ci []).length = aNf ci := by
  have h1 := List.all_eq_true.mp tc_ok ci (List.mem_range.mpr h)
  simp only [Bool.and_eq_true, decide_eq_true_eq] at h1
  exact h1.2
theorem aFt_inv {ci k : Nat} {f : Nat → Prop} (h : aFt ci k f) : f (aFc ci k) := by
  unfold aFt at h
  split at h
  · exact h.elim
  · rename_i l hl
    split at h
    · exact h.elim
    · rename_i t ht
      rw [aFc, (nth_getD (d := []) hl).1, (nth_getD (d := 9) ht).1]
      exact h
theorem anyF_inv {o x ci k : Nat} (h : anyF o x ci k = true) : ci < 13 ∧ k < aNf ci ∧ Cond.fieldLink (aCn o) x (aTf ci k).1 (aTf ci k).2.1 (aTf ci k).2.2.1 ∈ gTbl := by
  unfold anyF at h
  obtain ⟨q, hq, hb⟩ := List.any_eq_true.mp h
  simp only [Bool.and_eq_true] at hb
  obtain ⟨⟨⟨h1, h2⟩, h3⟩, h4⟩ := hb
  have e1 := Nat.eq_of_beq_eq_true h1
  have e2 := Nat.eq_of_beq_eq_true h2
  have e3 := Nat.eq_of_beq_eq_true h3
  have e4 := Nat.eq_of_beq_eq_true h4
  have hm : q ∈ aFLs := by
    by_cases ho : o < aFLc.length
    · rw [List.getD_eq_getElem?_getD, List.getElem?_eq_getElem ho, Option.getD_some] at hq
      have := List.all_eq_true.mp (List.all_eq_true.mp aFLc_in _ (List.getElem_mem ho)) q hq
      simpa using this
    · rw [List.getD_eq_getElem?_getD, List.getElem?_eq_none (by omega)] at hq
      simp at hq
  have := List.all_eq_true.mp aFL_ok q hm
  simp only [Bool.and_eq_true, decide_eq_true_eq] at this
  obtain ⟨g1, g2, g3⟩ := this
  have gw := lk_in g1
  rw [aFLw, e1, e2, e3, e4] at gw
  rw [e3] at g2 g3
  rw [e4] at g3
  exact ⟨g2, g3, gw⟩
theorem anyM_inv {o x y : Nat} (h : anyM o x y = true) : Cond.methodLink (aCn o) x (aM y).1 ∈ gTbl := by
  unfold anyM at h
  obtain ⟨q, hq, hb⟩ := List.any_eq_true.mp h
  simp only [Bool.and_eq_true] at hb
  obtain ⟨⟨h1, h2⟩, h3⟩ := hb
  have e1 := Nat.eq_of_beq_eq_true h1
  have e2 := Nat.eq_of_beq_eq_true h2
  have e3 := Nat.eq_of_beq_eq_true h3
  have hm : q ∈ aMLs := by
    by_cases ho : o < aMLc.length
    · rw [List.getD_eq_getElem?_getD, List.getElem?_eq_getElem ho, Option.getD_some] at hq
      have := List.all_eq_true.mp (List.all_eq_true.mp aMLc_in _ (List.getElem_mem ho)) q hq
      simpa using this
    · rw [List.getD_eq_getElem?_getD, List.getElem?_eq_none (by omega)] at hq
      simp at hq
  have gw := lk_in (List.all_eq_true.mp aML_ok q hm)
  rw [aMLw, e1, e2, e3] at gw
  exact gw
/-! ===== the heap ===== -/
section
variable {G : aCX} {l : Launch} {d : Nat} {mi : aMI} {p : Program} {e : Env} {R : Room} {s : State} {m : MethodId} {args : Array Value} {below : List Frame} {meth : Method} {c : Code} {Q : State → Prop} {pc nxt tgt : Nat} {i : Instr} {a b : Int} {tl : List (Int × Nat)} {L S : List aTV} {st : aSt} {H : Heap}
theorem hold_at {r : Nat} (hH : aHold G st H) (hC : aCan st) (h : (st.1 r).1 < 19) : 1 ≤ r ∧ r < st.2.2.1 ∧ va_at G.2.1 vwCl (aAd G r, aEnt G st r) H := by
  obtain ⟨c1, ⟨c2, c3, c4⟩, c5, -⟩ := hC
  have h1 : 1 ≤ r := by
    rcases Nat.eq_zero_or_pos r with h0 | h0
    · subst h0; omega
    · exact h0
  have h2 : r < st.2.2.1 := by
    rcases Nat.lt_or_ge r st.2.2.1 with h0 | h0
    · exact h0
    · have := c5 r h0; omega
  exact ⟨h1, h2, hH.2.2.2 r h1 h2 h⟩
theorem aV_ref {r : Nat} (h : 1 ≤ r) : aV G (2, Int.ofNat r) = .ref (aAd G r) := by
  rcases aV_r G (w := Int.ofNat r) (Int.natCast_nonneg r) with ⟨h0, -⟩ | ⟨-, h1⟩
  · have : (r : Int) = 0 := h0
    omega
  · exact h1
theorem ent_o {r t : Nat} (h : (st.1 r).1 = t) (ht : t < 13) : aEnt G st r = .inr (t, aFs G (st.2.1 r) t (st.1 r).2.2) := by
  subst h
  unfold aEnt
  split
  rename_i t n rs h
  rw [h] at ht ⊢
  rw [if_pos ht]
theorem fs_at {f : Int → Int} {t k : Nat} {rs : List Nat} (hk : k < aNf t) : (aFs G f t rs)[k]? = some (aFv G f rs (aFc t k) k) := by
  simp [aFs, hk]
theorem r_getfield {r : Nat} {v : aTV} (hcn : mi.1.cls = aCn mi.2.2.2.2.1.1) (hX : aCtx G d mi p R s m args meth c) (hd : decode mi.2.1 pc = .ok (i, nxt - pc)) (ho : opOk mi pc nxt i 8 a b tgt tl = true) (hr : (st.1 r).1 = a.toNat) (hv : aV G v = aFv G (st.2.1 r) (st.1 r).2.2 (aFc a.toNat b.toNat) b.toNat) (hvo : aCan st → b = (b.toNat : Int) → aOk v) (kk : VW G l mi p e R s m args below meth c Q nxt L (v :: S) st) : VW G l mi p e R s m args below meth c Q pc L ((2, Int.ofNat r) :: S) st := by
  intro hL hS hC ls H locs hl hH hlo
  obtain ⟨hx, hb, hrt, hml, hown, hts, hK, hlk, hnm, hB, hf1, hf2, hf3, hf4⟩ := hX
  simp only [opOk] at ho
  split at ho
  · simp only [Bool.and_eq_true, decide_eq_true_eq] at ho
    obtain ⟨⟨rfl, hbb⟩, hF⟩ := ho
    rw [Nat.add_sub_cancel_left] at hd
    obtain ⟨hci, hk, hw⟩ := anyF_inv hF
    obtain ⟨h1, h2, h3⟩ := hold_at hH hC (r := r) (by omega)
    rw [ent_o hr hci] at h3
    have K := kk hL (aOkCo (hvo hC hbb) (aOkTl hS)) hC ls H locs hl hH hlo
    rw [List.map_cons, aV_ref h1]
    rw [List.map_cons, hv] at K
    rw [← hcn] at hw
    have hP : va_P G.2.1 vwCl [(aAd G r, .inr (a.toNat, aFs G (st.2.1 r) a.toNat (st.1 r).2.2))] H := fun k q hq => by
      cases k with
      | zero => cases hq; exact h3
      | succ k => cases hq
    exact va_get hx hb hts (inAll hci) hown hK hP 0 rfl (cls_at hci) b.toNat hk (hts _ hw) (fun _ h => h) (fs_at hk) hd K
  · cases ho
/-- a field is written: the cell holds it, all else is as it was -/
theorem putH {cc : ByteArray} {ls : Array Slot} {rest : List Value} {D : va_G} {tys : List (ClassId × FieldType)} {adr ci k index : Nat} {fs : List Value} {ty : FieldType} {v : Value} {locs : List Loc} {cells slots : Nat} {own : String} (hx : p.tables.exec = Jvm.exec) (hb : c.code = cc) (hts : ∀ w ∈ gTbl, w.before args s = true) (hown : s.vm.findClass own = some m.cls) (hK : va_K D vwCl tys s) (hci : ci < 13) (hk : k < aNf ci) (he : va_at D vwCl (adr, .inr (ci, fs)) H) (hlink : (Cond.fieldLink own index (aTf ci k).1 (aTf ci k).2.1 (aTf ci k).2.2.1).before args s = true) (hfin : (aTf ci k).2.2.2 = false ∨ ((aTf ci k).2.2.2 = true ∧ meth.name = "<init>" ∧ (aTf ci k).1 = own)) (hd : parseFieldDescriptor (aTf ci k).2.2.1 = some ty) (hn : narrow ty v = v) (hfit : fits ty v = true) (hl : k < fs.length) (hdg : decode cc pc = .ok (.putfield index, 3))
    (kk : ∀ (H1 : Heap) (sl : Nat), va_at D vwCl (adr, .inr (ci, fs.set k v)) H1 → H1.size = H.size → (∀ q : Nat, q ≠ adr → H1[q]? = H[q]?) → (∀ b, hSum b H1 = hSum b H) → W p l e R s m args below meth c H1 (locs ++ [⟨adr, sl⟩]) cells slots Q (F0 m (pc + 3) ls rest)) : W p l e R s m args below meth c H locs cells slots Q (F0 m pc ls (v :: .ref adr :: rest)) := by
  have hc := cls_at hci
  obtain ⟨ty0, hty⟩ := tyAll hci
  have hap := va_apart (own := own) hts (inAll hci) ty0 hty (nmAll hci) hK hc
  obtain ⟨r, h1, cell, q1, q2, q3, q4⟩ := he
  have hr : r = (aCl ci, aTf ci, aNf ci) := Option.some.inj (h1.symm.trans hc)
  subst hr
  obtain ⟨hS, hfc, kC, hkC, hkind⟩ := hK.1 ci _ hc
  obtain ⟨cf, kf, fi, f, hi, hsl⟩ := hS k hk
  have hlay := hts _ (inAll hci _ (u_in_lay hk))
  have hst := (u_facts hfc hkC (u_lays hts (inAll hci) hk) hi).1
  have hsz : ∀ (H' : Heap) (z : Nat), H'[adr]? = some (cell.setSlot z v) → H'.size = H.size → (∀ q, q ≠ adr → H'[q]? = H[q]?) → ∀ b, hSum b H' = hSum b H := by
    intro H' z e1 e2 e3 b
    refine hSum_same e2 fun q x x' hx1 hx2 => ?_
    by_cases hq : q = adr
    · subst hq
      rw [e1] at hx2
      cases hx2
      have : H[q]? = some cell := q1
      rw [this] at hx1
      cases hx1
      simp [Cell.setSlot]
    · rw [e3 q hq, hx1] at hx2
      cases hx2
      rfl
  unfold u_lay at hlay
  rcases hfin with hfin | ⟨hfin, hin2, hdecl⟩
  · rw [if_neg (by rw [hfin]; decide)] at hlay
    have h6 := u_store hfc hkC hkind hlay hi hd hn hfit
    refine W.putK hx hb (f := f) ⟨hown, hlink, ⟨_, _, _, hi⟩, hst⟩ (by rw [q2]; exact h6) q1 q3 (by rw [hsl]; exact k2_hasslot (q4 k hk)) rfl rfl hdg fun H' e1 e2 e3 => ?_
    have hs' := hsz H' _ e1 e2 e3
    rw [hsl] at e1 ⊢
    exact kk H' _ ⟨_, hc, t_OB.to (V := updV (vp_V fs) k v) ⟨_, e1, q2, q3, t_set q4 hap hk v⟩ (fun j _ => vp_updV_set hl v j)⟩ e2 e3 hs'
  · rw [if_pos hfin] at hlay
    have hcf : m.cls = cf := by
      obtain ⟨_, _, c', _, _, _, -, -, hf', -, -, -, hown2, -⟩ := Cond.laysFinal_spec hlay
      have e1 : c' = cf := by have := hi.symm.trans hf'; simp at this; exact this.1.symm
      rw [hdecl] at hown2
      rw [← e1]; exact Option.some.inj (hown.symm.trans hown2)
    have h6 := u_fits hfc hkC hkind (Or.inr hlay) hi hd hn hfit
    refine W.putFinK hx hb hown hlink hi hst hcf hin2 (by rw [q2]; exact h6) q1 q3 (by rw [hsl]; exact k2_hasslot (q4 k hk)) rfl rfl hdg fun H' e1 e2 e3 => ?_
    have hs' := hsz H' _ e1 e2 e3
    rw [hsl] at e1 ⊢
    exact kk H' _ ⟨_, hc, t_OB.to (V := updV (vp_V fs) k v) ⟨_, e1, q2, q3, t_set q4 hap hk v⟩ (fun j _ => vp_updV_set hl v j)⟩ e2 e3 hs'
theorem aFs_set {f f' : Int → Int} {t k : Nat} {rs rs' : List Nat} {v : Value} (hk : k < aNf t) (hs : ∀ j, j ≠ k → aFv G f' rs' (aFc t j) j = aFv G f rs (aFc t j) j) (hv : aFv G f' rs' (aFc t k) k = v) : aFs G f' t rs' = (aFs G f t rs).set k v := by
  apply List.ext_getElem?
  intro j
  rw [List.getElem?_set]
  by_cases hj : j < aNf t
  · rw [fs_at hj]
    by_cases e : k = j
    · subst e
      rw [if_pos rfl, if_pos (by simpa [aFs] using hk), hv]
    · rw [if_neg e, fs_at hj, hs j (fun q => e q.symm)]
  · have n1 : (aFs G f' t rs')[j]? = none := by simp [aFs]; omega
    have n2 : (aFs G f t rs)[j]? = none := by simp [aFs]; omega
    rw [n1, n2]
    split
    · rename_i e; subst e; exact absurd hk hj
    · rfl
/-- one cell has been written: the state goes along -/
theorem hold_put {st' : aSt} {r : Nat} {H1 : Heap} (hH : aHold G st H) (ht : st'.2.2 = st.2.2) (hr1 : 1 ≤ r) (hz : H1.size = H.size) (ho : ∀ q : Nat, q ≠ aAd G r → H1[q]? = H[q]?) (hs : ∀ b, hSum b H1 = hSum b H) (hat : (st'.1 r).1 < 19 → va_at G.2.1 vwCl (aAd G r, aEnt G st' r) H1) (hoth : ∀ q, q ≠ r → st'.1 q = st.1 q ∧ st'.2.1 q = st.2.1 q) : aHold G st' H1 := by
  obtain ⟨h1, h2, h3, h4⟩ := hH
  have e1 : st'.2.2.1 = st.2.2.1 := by rw [ht]
  have e2 : st'.2.2.2 = st.2.2.2 := by rw [ht]
  refine ⟨by rw [hz, e1]; exact h1, by rw [hs, e1, e2]; exact h2, fun q hq => by rw [ho q (by have := aAd_pos (G := G) hr1; omega)]; exact h3 q hq, fun q q1 q2 q3 => ?_⟩
  by_cases hq : q = r
  · subst hq; exact hat q3
  · obtain ⟨o1, o2⟩ := hoth q hq
    rw [o1] at q3
    have h5 := h4 q q1 (by omega) q3
    have e3 : aEnt G st' q = aEnt G st q := by unfold aEnt; rw [o1, o2]
    rw [e3]
    exact h5.kept (ho _ (by show aAd G q ≠ aAd G r; exact aAd_ne hq))
end
