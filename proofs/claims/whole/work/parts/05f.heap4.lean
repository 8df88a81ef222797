/-! ===== objects made, references stored, switches, Math, arraycopy ===== -/
def insPos : List Nat := [467, 657, 557, 960, 299, 533, 539, 138, 305, 312, 623, 130, 1447]
def iniPos : List Nat := [114, 119, 117, 122, 111, 115, 116, 104, 112, 113, 118, 103, 120]
theorem ins_ok : (List.range 13).all (fun ci => lk (insPos.getD ci 0) (.instantiable (aCl ci) (aNf ci)) && lk (iniPos.getD ci 0) (.initialized (aCl ci)) && decide (aCn ci = aCl ci) && decide (aFts.getD ci [] = (aFts.getD ci []).map id)) = true := by decide +kernel
theorem ins_of {ci : Nat} (h : ci < 13) : Cond.instantiable (aCl ci) (aNf ci) ∈ gTbl ∧ Cond.initialized (aCl ci) ∈ gTbl ∧ aCn ci = aCl ci := by
  have h1 := List.all_eq_true.mp ins_ok ci (List.mem_range.mpr h)
  simp only [Bool.and_eq_true, decide_eq_true_eq] at h1
  exact ⟨lk_in h1.1.1.1, lk_in h1.1.1.2, h1.1.2⟩
theorem nth_of_lt {α : Type} {d : α} : ∀ {l : List α} {i : Nat}, i < l.length → aNth l i = some (l.getD i d) := by
  intro l
  induction l with
  | nil => intro i h; exact absurd h (Nat.not_lt_zero _)
  | cons x l ih =>
    intro i h
    cases i with
    | zero => rfl
    | succ i => simpa [aNth] using ih (Nat.lt_of_succ_lt_succ h)
theorem fv_born {G : aCX} {ci k n : Nat} {ty : FieldType} (h : tcB ci k = true) (hp : parseFieldDescriptor (aTf ci k).2.2.1 = some ty) : defaultValue ty = aFv G (fun _ => 0) (List.replicate n 0) (aFc ci k) k := by
  unfold tcB at h
  rw [hp] at h
  split at h
  · rename_i e; rw [e]; have := of_decide_eq_true h; cases this; rfl
  · rename_i e; rw [e]; have := of_decide_eq_true h; cases this; rfl
  · rename_i e; rw [e]; have := of_decide_eq_true h; cases this; rfl
  · cases h
  · rename_i e0 e1 e4 e9
    have hn : defaultValue ty = .null := by
      split at h
      · rename_i q; cases q; rfl
      · rename_i q; cases q; rfl
      · cases h
    rw [hn]
    unfold aFv
    split
    · rename_i e; exact absurd e e0
    · rename_i e; exact absurd e e4
    · rename_i e; exact absurd e e1
    · rw [rep_getD]; rfl
    · rfl
section
variable {G : aCX} {l : Launch} {d : Nat} {mi : aMI} {p : Program} {e : Env} {R : Room} {s : State} {m : MethodId} {args : Array Value} {below : List Frame} {meth : Method} {c : Code} {Q : State → Prop} {pc nxt tgt : Nat} {i : Instr} {a b : Int} {tl : List (Int × Nat)} {L S : List aTV} {st : aSt} {H : Heap}
theorem r_new (h1 : st.2.2.1 + 1 ≤ 2000) (h2 : st.2.2.2 + aNf a.toNat ≤ 200000) (hcn : mi.1.cls = aCn mi.2.2.2.2.1.1) (hX : aCtx G d mi p R s m args meth c) (hd : decode mi.2.1 pc = .ok (i, nxt - pc)) (ho : opOk mi pc nxt i 62 a b tgt tl = true) (kk : VW G l mi p e R s m args below meth c Q nxt L ((2, Int.ofNat st.2.2.1) :: S) (aNew st (a.toNat, 0, List.replicate (aNf a.toNat) 0) (aNf a.toNat))) : VW G l mi p e R s m args below meth c Q pc L S st := by
  intro hL hS hC ls H locs hl hH hlo
  obtain ⟨hx, hb, hrt, hml, hown, hts, hK, hlk, hnm, hB, hf1, hf2, hf3, hf4⟩ := hX
  simp only [opOk] at ho
  split at ho
  · simp only [Bool.and_eq_true, decide_eq_true_eq] at ho
    obtain ⟨⟨rfl, hci⟩, ha⟩ := ho
    rw [Nat.add_sub_cancel_left] at hd
    have hw := cl_of ha
    obtain ⟨i1, i2, i3⟩ := ins_of hci
    rw [← hcn, i3] at hw
    have hC' := can_push hC (a.toNat, 0, List.replicate (aNf a.toNat) 0) h1 h2
    have c2 : 1 ≤ st.2.2.1 := hC.2.1.1
    have hKn := hK.1 a.toNat _ (cls_at hci)
    refine W.newc hx hb hown (hts _ hw) (hts _ i1) (hts _ i2) rfl hd (by omega) (by omega) fun cC kC f1 f2 f3 f4 => ?_
    have ecA : cC = G.2.1.1 a.toNat := Option.some.inj (f1.symm.trans hKn.2.1)
    subst ecA
    generalize hH1 : H.push ({ cls := G.2.1.1 a.toNat, slots := kC.instanceTypes.map defaultValue, vm := .none } : Cell) = H1
    have hz := hH.1
    have z1 : H1.size = aAd G st.2.2.1 + 1 := by rw [← hH1, Array.size_push, hz]
    have e1 : H1[aAd G st.2.2.1]? = some (blank (G.2.1.1 a.toNat) kC) := by rw [← hH1, ← hz, Array.getElem?_push_size]; rfl
    have o1 : ∀ q : Nat, q < aAd G st.2.2.1 → H1[q]? = H[q]? := fun q hq => by rw [← hH1, Array.getElem?_push, if_neg (by omega)]
    have hsz : (blank (G.2.1.1 a.toNat) kC).slots.size = aNf a.toNat := by rw [← f4]; simp [blank]
    obtain ⟨ty, hty⟩ := tyAll hci
    have k1 : (aNew st (a.toNat, 0, List.replicate (aNf a.toNat) 0) (aNf a.toNat)).1 st.2.2.1 = (a.toNat, 0, List.replicate (aNf a.toNat) 0) := aUk_at
    have k2 : (aNew st (a.toNat, 0, List.replicate (aNf a.toNat) 0) (aNf a.toNat)).2.1 st.2.2.1 = fun _ => 0 := aUz_at
    have hat : va_at G.2.1 vwCl (aAd G st.2.2.1, aEnt G (aNew st (a.toNat, 0, List.replicate (aNf a.toNat) 0) (aNf a.toNat)) st.2.2.1) H1 := by
      rw [ent_o (st := aNew st (a.toNat, 0, List.replicate (aNf a.toNat) 0) (aNf a.toNat)) (t := a.toNat) (by rw [k1]) hci, k1, k2]
      refine ⟨_, cls_at hci, (u_born ty hts (inAll hci) hKn f2 e1 hty).to fun j hj => ?_⟩
      rw [fv_born (G := G) (n := aNf a.toNat) (tc_of hci hj) (hty j hj)]
      show _ = (aFs G (fun _ => 0) a.toNat (List.replicate (aNf a.toNat) 0)).getD j .null
      rw [List.getD_eq_getElem?_getD, fs_at hj]
      rfl
    have hH' := hold_push hH hC z1 e1 o1 hsz hat
    have K := kk hL (aOkCo (aOk_r (Int.natCast_nonneg _)) hS) hC' ls H1 locs hl hH' hlo
    rw [List.map_cons, aV_ref c2] at K
    rw [hz]
    exact W.cap hH' hC' hB K
  · cases ho
theorem w_oiI : Cond.instanceMethod Lib.objectInit ∈ gTbl := gIn 135 (by decide +kernel) rfl
theorem w_oiC : Cond.code Lib.objectInit ⟨#[0xb1]⟩ 1 none ∈ gTbl := gIn 136 (by decide +kernel) rfl
theorem r_objinit {r : Nat} (hr : 0 < r) (hct : aCat S ≤ 8) (hcn : mi.1.cls = aCn mi.2.2.2.2.1.1) (hX : aCtx G d mi p R s m args meth c) (hd : decode mi.2.1 pc = .ok (i, nxt - pc)) (ho : opOk mi pc nxt i 64 a b tgt tl = true) (kk : VW G l mi p e R s m args below meth c Q nxt L S st) : VW G l mi p e R s m args below meth c Q pc L ((2, Int.ofNat r) :: S) st := by
  intro hL hS hC ls H locs hl hH hlo
  obtain ⟨hx, hb, hrt, hml, hown, hts, hK, hlk, hnm, hB, hf1, hf2, hf3, hf4⟩ := hX
  simp only [opOk] at ho
  split at ho
  · simp only [Bool.and_eq_true, decide_eq_true_eq, List.any_eq_true] at ho
    obtain ⟨rfl, q, hq, h1, h2⟩ := ho
    rw [Nat.add_sub_cancel_left] at hd
    have hw := lk_in (List.all_eq_true.mp aOL_ok q hq)
    rw [aOLw, h1, h2, ← hcn] at hw
    have K := kk hL (aOkTl hS) hC ls H locs hl hH hlo
    rw [List.map_cons, aV_ref hr]
    refine W.objInit hx hb hown (hts _ hw) (hts _ w_oiI) (hts _ w_oiC) rfl (by rw [hml]; exact hl.1) rfl hd (by omega) ?_ K
    show 2 * 0 + ((S.map (aV G)).map fun v => v.category).sum + 12 ≤ R.locals
    rw [aCat_eq]
    omega
  · cases ho
theorem rec_at {r : Nat} (hK : va_K G.2.1 vwCl (aTys G) s) (hH : aHold G st H) (hC : aCan st) (h : (st.1 r).1 < 13) : ∃ cell : Cell, H[aAd G r]? = some cell ∧ cell.vm.isStatics = false ∧ s.vm.findClass (aCl (st.1 r).1) = some cell.cls := by
  obtain ⟨h1, h2, h3⟩ := hold_at hH hC (r := r) (by omega)
  rw [ent_o rfl h] at h3
  exact va_recv (q0 := 0) hK (va_one h3) (cls_at h) rfl
theorem aset_getD {l : List Nat} {i j q : Nat} (h : i < l.length) : (aSet l i q).getD j 0 = if j = i then q else l.getD j 0 := by
  rw [aSet_eq, List.getD_eq_getElem?_getD, List.getElem?_set, List.getD_eq_getElem?_getD]
  by_cases hj : i = j
  · subst hj; simp [h]
  · rw [if_neg hj, if_neg (fun e => hj e.symm)]
/-- a reference is stored into an array of references -/
theorem aastW {r n q kx ci : Nat} {x : Int} {st' : aSt} {f f' : Nat → Option Nat} (hkx : (aTys G)[kx]? = some (G.2.2.1 kx, .object (aCl ci))) (hci : ci < 13) (hq : (st.1 q).1 = ci) (ht : (st.1 r).1 < 19) (hent : aEnt G st r = .inl (G.2.2.1 kx, n, .inr (.inr (.inr (.inr f))))) (hent' : aEnt G st' r = .inl (G.2.2.1 kx, n, .inr (.inr (.inr (.inr f'))))) (hf : ∀ j : Nat, f' j = if j = x.toNat then some (aAd G q) else f j) (h0 : 0 ≤ x) (h1 : x < n) (ht' : st'.2.2 = st.2.2) (hoth : ∀ z, z ≠ r → st'.1 z = st.1 z ∧ st'.2.1 z = st.2.1 z) (hC' : aCan st → aCan st')
    (hX : aCtx G d mi p R s m args meth c) (hd : decode mi.2.1 pc = .ok (.aastore, 1)) (kk : VW G l mi p e R s m args below meth c Q (pc + 1) L S st') : VW G l mi p e R s m args below meth c Q pc L ((2, Int.ofNat q) :: (0, x) :: (2, Int.ofNat r) :: S) st := by
  intro hL hS hC ls H locs hl hH hlo
  obtain ⟨hx, hb, hrt, hml, hown, hts, hK, hlk, hnm, hB, hf1, hf2, hf3, hf4⟩ := hX
  have hxr := aOk32 (aOkTl hS)
  obtain ⟨g1, g2, g3⟩ := hold_at hH hC (r := r) ht
  obtain ⟨q1, q2, q3⟩ := hold_at hH hC (r := q) (by omega)
  rw [ent_o hq hci] at q3
  rw [hent] at g3
  have g4 : H[aAd G r]? = some (vp_cell _ _) := g3
  obtain ⟨r', hr', cellV, v1, v2, v3, -⟩ := q3
  have hKn := (hK.1 ci _ (cls_at hci)).2
  obtain ⟨kA, comp, k1, k2, k3, -⟩ := (hK.2 kx _ hkx).2
  have hcomp : comp = G.2.1.1 ci := Option.some.inj (k3.symm.trans hKn.1)
  subst hcomp
  obtain ⟨kC, hkC, -⟩ := hKn.2
  rw [List.map_cons, List.map_cons, List.map_cons, aV_ref g1, aV_ref q1]
  have hin := of_in hxr h0 h1
  have hlt : (Int32.ofInt x).toNatClampNeg < n := Nat.not_le.mp fun q => hin (Or.inr q)
  refine W.aast hx hb g4 (fun q h => by cases h) (fun h => by cases h) k1 k2 rfl hkC (j := Int32.ofInt x) ⟨fun q => hin (Or.inl q), by show _ < (arrV _ _ _).slots.size; rw [arrV_size]; exact hlt⟩ v1 (fun q h => by rw [v3] at h; cases h) (by rw [v2]; exact hkC) (by rw [v2]; exact va_assign hKn) rfl rfl hd fun H1 e1 e2 e3 => ?_
  rw [of_clamp hxr] at e1 ⊢
  refine kk hL (aOkTl (aOkTl (aOkTl hS))) (hC' hC) ls H1 _ hl (hold_put hH ht' g1 e2 e3 (sum_set g4 e1 e2 e3) (fun _ => ?_) hoth) (lo_app hlo g1)
  rw [hent']
  show H1[aAd G r]? = some (vp_cell _ _)
  rw [e1, vp_cell_q, vp_cell_q, arrV_store]
  congr 2
  funext z
  rw [hf z]
  by_cases hz : z = x.toNat
  · subst hz; simp [updV, va_rf]
  · simp [updV, hz]
theorem aRf_pos {q : Nat} (h : 1 ≤ q) : aRf G (Int.ofNat q) = some (aAd G q) := by
  unfold aRf
  rw [if_neg (by show ¬ (q : Int) ≤ 0; omega)]
  rfl
theorem r_aast17 {r n q : Nat} {x : Int} (ht : (st.1 r).1 = 17) (hn : (st.1 r).2.1 = n) (hq : (st.1 q).1 = 3) (h0 : 0 ≤ x) (h1 : x < n) (hcn : mi.1.cls = aCn mi.2.2.2.2.1.1) (hX : aCtx G d mi p R s m args meth c) (hd : decode mi.2.1 pc = .ok (i, nxt - pc)) (ho : opOk mi pc nxt i 58 a b tgt tl = true) (kk : VW G l mi p e R s m args below meth c Q nxt L S (st.1, aUp st.2.1 r x (Int.ofNat q), st.2.2)) : VW G l mi p e R s m args below meth c Q pc L ((2, Int.ofNat q) :: (0, x) :: (2, Int.ofNat r) :: S) st := by
  simp only [opOk, opSimple, decide_eq_true_eq] at ho
  obtain ⟨rfl, rfl⟩ := ho
  rw [Nat.add_sub_cancel_left] at hd
  intro hL hS hC
  have q1 : 1 ≤ q := by
    rcases Nat.eq_zero_or_pos q with h | h
    · subst h; have := hC.1; omega
    · exact h
  refine aastW (kx := 4) (ci := 3) rfl (by decide) hq (by omega) (ent_17 ht hn) (ent_17 (st := (st.1, aUp st.2.1 r x (Int.ofNat q), st.2.2)) ht hn) (fun j => ?_) h0 h1 rfl (fun z hz => ⟨rfl, aUp_row hz⟩) (fun hC => can_put hC ⟨(fun z => by rw [ht] at z; cases z), (fun z => by rw [ht] at z; rcases z with z | z <;> cases z), fun _ => Int.natCast_nonneg q⟩) hX hd kk hL hS hC
  by_cases hj : j = x.toNat
  · subst hj
    rw [if_pos rfl, Int.toNat_of_nonneg h0]
    show aRf G (aUp st.2.1 r x (Int.ofNat q) r x) = _
    rw [aUp_at, aRf_pos q1]
  · rw [if_neg hj]
    have : aUp st.2.1 r x (Int.ofNat q) r ((j : Nat) : Int) = st.2.1 r ((j : Nat) : Int) := aUp_ne (by omega)
    show aRf G (aUp st.2.1 r x (Int.ofNat q) r ((j : Nat) : Int)) = _
    rw [this]
theorem r_aast18 {r n q : Nat} {x : Int} (ht : (st.1 r).1 = 18) (hn : (st.1 r).2.1 = n) (hq : (st.1 q).1 = 9) (h0 : 0 ≤ x) (h1 : x < n) (hrl : x.toNat < (st.1 r).2.2.length) (hcn : mi.1.cls = aCn mi.2.2.2.2.1.1) (hX : aCtx G d mi p R s m args meth c) (hd : decode mi.2.1 pc = .ok (i, nxt - pc)) (ho : opOk mi pc nxt i 58 a b tgt tl = true) (kk : VW G l mi p e R s m args below meth c Q nxt L S (aUk st.1 r ((st.1 r).1, (st.1 r).2.1, aSet (st.1 r).2.2 x.toNat q), st.2)) : VW G l mi p e R s m args below meth c Q pc L ((2, Int.ofNat q) :: (0, x) :: (2, Int.ofNat r) :: S) st := by
  simp only [opOk, opSimple, decide_eq_true_eq] at ho
  obtain ⟨rfl, rfl⟩ := ho
  rw [Nat.add_sub_cancel_left] at hd
  intro hL hS hC
  have q1 : 1 ≤ q := by
    rcases Nat.eq_zero_or_pos q with h | h
    · subst h; have := hC.1; omega
    · exact h
  have u1 : ∀ z, (aUk st.1 r ((st.1 r).1, (st.1 r).2.1, aSet (st.1 r).2.2 x.toNat q) z).1 = (st.1 z).1 := fun z => by
    by_cases hz : z = r
    · subst hz; rw [aUk_at]
    · rw [aUk_ne hz]
  have u2 : aUk st.1 r ((st.1 r).1, (st.1 r).2.1, aSet (st.1 r).2.2 x.toNat q) r = ((st.1 r).1, (st.1 r).2.1, aSet (st.1 r).2.2 x.toNat q) := aUk_at
  refine aastW (kx := 5) (ci := 9) rfl (by decide) hq (by omega) (ent_18 ht hn) (ent_18 (st := (aUk st.1 r ((st.1 r).1, (st.1 r).2.1, aSet (st.1 r).2.2 x.toNat q), st.2)) ((u1 r).trans ht) ((congrArg (fun z : aKd => z.2.1) u2).trans hn)) (fun j => ?_) h0 h1 rfl (fun z hz => ⟨aUk_ne hz, rfl⟩) (fun hC => ?_) hX hd kk hL hS hC
  · show aRf G (Int.ofNat ((aUk st.1 r ((st.1 r).1, (st.1 r).2.1, aSet (st.1 r).2.2 x.toNat q) r).2.2.getD j 0)) = _
    rw [u2]
    show aRf G (Int.ofNat ((aSet (st.1 r).2.2 x.toNat q).getD j 0)) = _
    rw [aset_getD hrl]
    split
    · exact aRf_pos q1
    · rfl
  · obtain ⟨c1, c2, c3, c4⟩ := hC
    refine ⟨by rw [u1]; exact c1, c2, fun z hz => by rw [u1]; exact c3 z hz, fun z j => ?_⟩
    have := c4 z j
    unfold aDok at this ⊢
    rw [u1]
    exact this
theorem aSw_inv {k : Nat → Prop} {w : Int} {df : Nat} : ∀ {tl : List (Int × Nat)}, aSw tl w df k → (∃ q ∈ tl, q.1 = w ∧ k q.2) ∨ ((∀ q ∈ tl, q.1 ≠ w) ∧ k df) := by
  intro tl
  induction tl with
  | nil => intro h; exact Or.inr ⟨(fun q hq => by cases hq), h⟩
  | cons x xs ih =>
    intro h
    by_cases hx : w = x.1
    · exact Or.inl ⟨x, List.mem_cons_self, hx.symm, h.1 hx⟩
    · rcases ih (h.2 hx) with ⟨q, h1, h2, h3⟩ | ⟨h1, h2⟩
      · exact Or.inl ⟨q, List.mem_cons_of_mem _ h1, h2, h3⟩
      · refine Or.inr ⟨fun q hq => ?_, h2⟩
        rcases List.mem_cons.mp hq with rfl | hq
        · exact fun z => hx z.symm
        · exact h1 q hq
theorem r_table {w : Int} (hcn : mi.1.cls = aCn mi.2.2.2.2.1.1) (hX : aCtx G d mi p R s m args meth c) (hd : decode mi.2.1 pc = .ok (i, nxt - pc)) (ho : opOk mi pc nxt i 69 a b tgt tl = true) (kk : aSw tl w tgt (fun t => VW G l mi p e R s m args below meth c Q t L S st)) : VW G l mi p e R s m args below meth c Q pc L ((0, w) :: S) st := by
  intro hL hS hC ls H locs hl hH hlo
  obtain ⟨hx, hb, hrt, hml, hown, hts, hK, hlk, hnm, hB, hf1, hf2, hf3, hf4⟩ := hX
  have hw := aOk32 hS
  simp only [opOk] at ho
  split at ho
  · rename_i df lo hi offs
    simp only [Bool.and_eq_true, decide_eq_true_eq, List.all_eq_true, List.mem_range] at ho
    obtain ⟨⟨h1, h2, h3⟩, h4⟩ := ho
    rw [List.map_cons]
    have el : ∀ j (hj : j < tl.length), tl[j].1 = lo + j ∧ (pc : Int) + offs.getD j 0 = tl[j].2 := fun j hj => by
      have := h4 j hj
      rw [List.getD_eq_getElem?_getD, List.getElem?_eq_getElem hj, Option.getD_some] at this
      exact this
    rcases aSw_inv kk with ⟨q, hq, e1, k1⟩ | ⟨hno, k1⟩
    · obtain ⟨j, hj, rfl⟩ := List.getElem_of_mem hq
      obtain ⟨g1, g2⟩ := el j hj
      have hjo : j < offs.size := by omega
      refine lv_tableIn (off := offs.getD j 0) (tgt := tl[j].2) hx hb hd (by rw [aT32 hw]; omega) (by rw [aT32 hw]; omega) ?_ g2 (k1 hL (aOkTl hS) hC ls H locs hl hH hlo)
      rw [aT32 hw, show (w - lo).toNat = j by omega, Array.getElem?_eq_getElem hjo]
      simp [Array.getD, hjo]
    · refine lv_tableOut (tgt := tgt) hx hb hd ?_ h1 (k1 hL (aOkTl hS) hC ls H locs hl hH hlo)
      rw [aT32 hw]
      by_cases hlo' : w < lo
      · exact Or.inl hlo'
      · by_cases hhi : hi < w
        · exact Or.inr hhi
        · exfalso
          have hj : (w - lo).toNat < tl.length := by omega
          exact hno _ (List.getElem_mem hj) (by rw [(el _ hj).1]; omega)
  · cases ho
theorem lk_off {df w : Int} : ∀ {ps : List (Int × Int)}, (∀ q ∈ ps, q.1 ≠ w) → Op.lookupswitch.offset ps df w = df := by
  intro ps
  induction ps with
  | nil => intro _; rfl
  | cons x xs ih =>
    intro h
    obtain ⟨x1, x2⟩ := x
    rw [Op.lookupswitch.offset_cons, if_neg (fun z => h _ List.mem_cons_self (by simpa using z))]
    exact ih fun q hq => h q (List.mem_cons_of_mem _ hq)
theorem lk_on {df w : Int} : ∀ {ps : List (Int × Int)} {q : Int × Int}, q ∈ ps → q.1 = w → ∃ q' ∈ ps, q'.1 = w ∧ Op.lookupswitch.offset ps df w = q'.2 := by
  intro ps
  induction ps with
  | nil => intro q h; cases h
  | cons x xs ih =>
    intro q h hw
    obtain ⟨x1, x2⟩ := x
    rw [Op.lookupswitch.offset_cons]
    by_cases hx : x1 = w
    · rw [if_pos hx]; exact ⟨(x1, x2), List.mem_cons_self, hx, rfl⟩
    · rw [if_neg hx]
      rcases List.mem_cons.mp h with rfl | h
      · exact absurd hw hx
      · obtain ⟨q', h1, h2, h3⟩ := ih h hw
        exact ⟨q', List.mem_cons_of_mem _ h1, h2, h3⟩
end
section
variable {G : aCX} {l : Launch} {d : Nat} {mi : aMI} {p : Program} {e : Env} {R : Room} {s : State} {m : MethodId} {args : Array Value} {below : List Frame} {meth : Method} {c : Code} {Q : State → Prop} {pc nxt tgt : Nat} {i : Instr} {a b : Int} {tl : List (Int × Nat)} {L S : List aTV} {st : aSt} {H : Heap}
theorem r_lookup {w : Int} (hcn : mi.1.cls = aCn mi.2.2.2.2.1.1) (hX : aCtx G d mi p R s m args meth c) (hd : decode mi.2.1 pc = .ok (i, nxt - pc)) (ho : opOk mi pc nxt i 70 a b tgt tl = true) (kk : aSw tl w tgt (fun t => VW G l mi p e R s m args below meth c Q t L S st)) : VW G l mi p e R s m args below meth c Q pc L ((0, w) :: S) st := by
  intro hL hS hC ls H locs hl hH hlo
  obtain ⟨hx, hb, hrt, hml, hown, hts, hK, hlk, hnm, hB, hf1, hf2, hf3, hf4⟩ := hX
  have hw := aOk32 hS
  simp only [opOk] at ho
  split at ho
  · rename_i df ps
    simp only [Bool.and_eq_true, decide_eq_true_eq] at ho
    obtain ⟨⟨⟨h1, h2⟩, h3⟩, h4⟩ := ho
    have h4 : ∀ x ∈ ps.toList, 0 ≤ (pc : Int) + x.2 := fun x hx => by
      have := List.all_eq_true.mp h4 x hx
      simpa using this
    subst h3
    rw [List.map_cons]
    have h2' : (ps.toList.zip (ps.toList.drop 1)).all (fun (a, next) => a.1 < next.1) = true := h2
    have asc : ∀ (zs : List (Int × Int)), (zs.zip (zs.drop 1)).all (fun (a, next) => a.1 < next.1) = true → ∀ x ∈ zs, ∀ y ∈ zs, x.1 = y.1 → x = y := by
      intro zs
      induction zs with
      | nil => intro _ x hx; cases hx
      | cons z zs ih =>
        intro h
        have hlt : ∀ (ws : List (Int × Int)) (u : Int × Int), ((u :: ws).zip ws).all (fun (a, next) => a.1 < next.1) = true → ∀ y ∈ ws, u.1 < y.1 := by
          intro ws
          induction ws with
          | nil => intro u _ y hy; cases hy
          | cons w' ws ih2 =>
            intro u hu y hy
            simp only [List.zip_cons_cons, List.all_cons, Bool.and_eq_true, decide_eq_true_eq] at hu
            rcases List.mem_cons.mp hy with rfl | hy
            · exact hu.1
            · have := ih2 w' (by simpa using hu.2) y hy
              omega
        have hz := hlt zs z (by simpa using h)
        have ht : (zs.zip (zs.drop 1)).all (fun (a, next) => a.1 < next.1) = true := by
          cases zs with
          | nil => rfl
          | cons w' ws =>
            simp only [List.drop_succ_cons, List.drop_zero, List.zip_cons_cons, List.all_cons, Bool.and_eq_true] at h
            simpa using h.2
        intro x hx y hy hxy
        rcases List.mem_cons.mp hx with ex | hx' <;> rcases List.mem_cons.mp hy with ey | hy'
        · rw [ex, ey]
        · have := hz y hy'; rw [ex] at hxy; omega
        · have := hz x hx'; rw [ey] at hxy; omega
        · exact ih ht x hx' y hy' hxy
    rcases aSw_inv kk with ⟨q, hq, e1, k1⟩ | ⟨hno, k1⟩
    · obtain ⟨x, hx1, rfl⟩ := List.mem_map.mp hq
      obtain ⟨x', g1, g2, g3⟩ := lk_on (df := df) hx1 e1
      have : x' = x := asc _ h2' x' g1 x hx1 (g2.trans e1.symm)
      subst this
      refine lv_lookup (off := x'.2) (tgt := ((pc : Int) + x'.2).toNat) hx hb hd h2' (by rw [aT32 hw]; exact g3) (by rw [Int.toNat_of_nonneg (h4 x' g1)]) (k1 hL (aOkTl hS) hC ls H locs hl hH hlo)
    · refine lv_lookup (off := df) (tgt := tgt) hx hb hd h2' ?_ h1 (k1 hL (aOkTl hS) hC ls H locs hl hH hlo)
      rw [aT32 hw]
      exact lk_off fun q hq => hno _ (List.mem_map.mpr ⟨q, hq, rfl⟩)
  · cases ho
theorem w_maI : Cond.initialized "java/lang/Math" ∈ gTbl := gIn 109 (by decide +kernel) rfl
theorem w_mxS : Cond.static Lib.Math.max.name ∈ gTbl := gIn 222 (by decide +kernel) rfl
theorem w_mxC : Cond.code Lib.Math.max.name Lib.Math.max.code 2 (some .int) ∈ gTbl := gIn 223 (by decide +kernel) rfl
theorem w_mnS : Cond.static Lib.Math.min.name ∈ gTbl := gIn 225 (by decide +kernel) rfl
theorem w_mnC : Cond.code Lib.Math.min.name Lib.Math.min.code 2 (some .int) ∈ gTbl := gIn 226 (by decide +kernel) rfl
theorem w_abS : Cond.static Lib.Math.abs.name ∈ gTbl := gIn 945 (by decide +kernel) rfl
theorem w_abC : Cond.code Lib.Math.abs.name Lib.Math.abs.code 1 (some .int) ∈ gTbl := gIn 946 (by decide +kernel) rfl
theorem w_mlS : Cond.static Lib.MathLoose.min_long.x ∈ gTbl := gIn 1288 (by decide +kernel) rfl
theorem w_mlC : Cond.code Lib.MathLoose.min_long.x Lib.MathLoose.min_long.code 4 (some .long) ∈ gTbl := gIn 1289 (by decide +kernel) rfl
theorem xl_of {o x t : Nat} (h : aXLs.any (fun q => decide (q.1 = o ∧ q.2.1 = x ∧ q.2.2.1 = t)) = true) : Cond.methodLink (aCn o) x (aXnm t) ∈ gTbl := by
  obtain ⟨q, hq, hb⟩ := List.any_eq_true.mp h
  simp only [decide_eq_true_eq] at hb
  obtain ⟨h1, h2, h3⟩ := hb
  have hw := lk_in (List.all_eq_true.mp aXL_ok q hq)
  rw [aXLw, h1, h2, h3] at hw
  exact hw
theorem r_mmax {x y : Int} (hct : aCat S ≤ 8) (hcn : mi.1.cls = aCn mi.2.2.2.2.1.1) (hX : aCtx G d mi p R s m args meth c) (hd : decode mi.2.1 pc = .ok (i, nxt - pc)) (ho : opOk mi pc nxt i 74 a b tgt tl = true) (kk : VW G l mi p e R s m args below meth c Q nxt L ((0, if x < y then y else x) :: S) st) : VW G l mi p e R s m args below meth c Q pc L ((0, y) :: (0, x) :: S) st := by
  intro hL hS hC ls H locs hl hH hlo
  obtain ⟨hx, hb, hrt, hml, hown, hts, hK, hlk, hnm, hB, hf1, hf2, hf3, hf4⟩ := hX
  have hy := aOk32 hS
  have hxx := aOk32 (aOkTl hS)
  simp only [opOk] at ho
  split at ho
  · simp only [Bool.and_eq_true, decide_eq_true_eq] at ho
    obtain ⟨rfl, ha⟩ := ho
    rw [Nat.add_sub_cancel_left] at hd
    have hw := xl_of ha
    rw [← hcn] at hw
    have K := kk hL (aOkCo (aOk_i (by split <;> assumption)) (aOkTl (aOkTl hS))) hC ls H locs hl hH hlo
    rw [List.map_cons, List.map_cons]
    refine va_mmax hx hb (by rw [hml]; exact hl.1.symm) hown (hts _ hw) (hts _ w_mxS) (hts _ w_maI) (hts _ w_mxC) (by omega) (by rw [aCat_eq]; omega) (by omega) (by omega) (x := Int32.ofInt x) (y := Int32.ofInt y) hd ?_
    have e : (if Int32.ofInt x < Int32.ofInt y then Int32.ofInt y else Int32.ofInt x) = Int32.ofInt (if x < y then y else x) := by
      by_cases h : x < y
      · rw [if_pos h, if_pos ((of_lt hxx hy).mpr h)]
      · rw [if_neg h, if_neg (fun z => h ((of_lt hxx hy).mp z))]
    rw [e]
    exact K
  · cases ho
theorem r_mmin {x y : Int} (hct : aCat S ≤ 8) (hcn : mi.1.cls = aCn mi.2.2.2.2.1.1) (hX : aCtx G d mi p R s m args meth c) (hd : decode mi.2.1 pc = .ok (i, nxt - pc)) (ho : opOk mi pc nxt i 75 a b tgt tl = true) (kk : VW G l mi p e R s m args below meth c Q nxt L ((0, if y < x then y else x) :: S) st) : VW G l mi p e R s m args below meth c Q pc L ((0, y) :: (0, x) :: S) st := by
  intro hL hS hC ls H locs hl hH hlo
  obtain ⟨hx, hb, hrt, hml, hown, hts, hK, hlk, hnm, hB, hf1, hf2, hf3, hf4⟩ := hX
  have hy := aOk32 hS
  have hxx := aOk32 (aOkTl hS)
  simp only [opOk] at ho
  split at ho
  · simp only [Bool.and_eq_true, decide_eq_true_eq] at ho
    obtain ⟨rfl, ha⟩ := ho
    rw [Nat.add_sub_cancel_left] at hd
    have hw := xl_of ha
    rw [← hcn] at hw
    have K := kk hL (aOkCo (aOk_i (by split <;> assumption)) (aOkTl (aOkTl hS))) hC ls H locs hl hH hlo
    rw [List.map_cons, List.map_cons]
    refine va_mmin hx hb (by rw [hml]; exact hl.1.symm) hown (hts _ hw) (hts _ w_mnS) (hts _ w_maI) (hts _ w_mnC) (by omega) (by rw [aCat_eq]; omega) (by omega) (by omega) (x := Int32.ofInt x) (y := Int32.ofInt y) hd ?_
    have e : (if Int32.ofInt y < Int32.ofInt x then Int32.ofInt y else Int32.ofInt x) = Int32.ofInt (if y < x then y else x) := by
      by_cases h : y < x
      · rw [if_pos h, if_pos ((of_lt hy hxx).mpr h)]
      · rw [if_neg h, if_neg (fun z => h ((of_lt hy hxx).mp z))]
    rw [e]
    exact K
  · cases ho
theorem r_mminL {x y : Int} (hct : aCat S ≤ 8) (hcn : mi.1.cls = aCn mi.2.2.2.2.1.1) (hX : aCtx G d mi p R s m args meth c) (hd : decode mi.2.1 pc = .ok (i, nxt - pc)) (ho : opOk mi pc nxt i 77 a b tgt tl = true) (kk : VW G l mi p e R s m args below meth c Q nxt L ((1, if y < x then y else x) :: S) st) : VW G l mi p e R s m args below meth c Q pc L ((1, y) :: (1, x) :: S) st := by
  intro hL hS hC ls H locs hl hH hlo
  obtain ⟨hx, hb, hrt, hml, hown, hts, hK, hlk, hnm, hB, hf1, hf2, hf3, hf4⟩ := hX
  have hy := aOk64 hS
  have hxx := aOk64 (aOkTl hS)
  simp only [opOk] at ho
  split at ho
  · simp only [Bool.and_eq_true, decide_eq_true_eq] at ho
    obtain ⟨rfl, ha⟩ := ho
    rw [Nat.add_sub_cancel_left] at hd
    have hw := xl_of ha
    rw [← hcn] at hw
    have K := kk hL (aOkCo (aOk_l (by split <;> assumption)) (aOkTl (aOkTl hS))) hC ls H locs hl hH hlo
    rw [List.map_cons, List.map_cons]
    refine va_mmin_long hx hb (by rw [hml]; exact hl.1.symm) hown (hts _ hw) (hts _ w_mlS) (hts _ w_maI) (hts _ w_mlC) (by omega) (by rw [aCat_eq]; omega) (by omega) (by omega) (x := Int64.ofInt x) (y := Int64.ofInt y) hd ?_
    have e : (if Int64.ofInt y < Int64.ofInt x then Int64.ofInt y else Int64.ofInt x) = Int64.ofInt (if y < x then y else x) := by
      by_cases h : y < x
      · rw [if_pos h, if_pos ((of_ltL hy hxx).mpr h)]
      · rw [if_neg h, if_neg (fun z => h ((of_ltL hy hxx).mp z))]
    rw [e]
    exact K
  · cases ho
theorem r_mabs {x : Int} (hct : aCat S ≤ 8) (hcn : mi.1.cls = aCn mi.2.2.2.2.1.1) (hX : aCtx G d mi p R s m args meth c) (hd : decode mi.2.1 pc = .ok (i, nxt - pc)) (ho : opOk mi pc nxt i 76 a b tgt tl = true) (kk : VW G l mi p e R s m args below meth c Q nxt L ((0, if 0 ≤ x then x else wr (0 - x)) :: S) st) : VW G l mi p e R s m args below meth c Q pc L ((0, x) :: S) st := by
  intro hL hS hC ls H locs hl hH hlo
  obtain ⟨hx, hb, hrt, hml, hown, hts, hK, hlk, hnm, hB, hf1, hf2, hf3, hf4⟩ := hX
  have hxx := aOk32 hS
  simp only [opOk] at ho
  split at ho
  · simp only [Bool.and_eq_true, decide_eq_true_eq] at ho
    obtain ⟨rfl, ha⟩ := ho
    rw [Nat.add_sub_cancel_left] at hd
    have hw := xl_of ha
    rw [← hcn] at hw
    have K := kk hL (aOkCo (aOk_i (by split; exact hxx; exact i32_wr _)) (aOkTl hS)) hC ls H locs hl hH hlo
    rw [List.map_cons]
    refine va_mabs hx hb (by rw [hml]; exact hl.1.symm) hown (hts _ hw) (hts _ w_abS) (hts _ w_maI) (hts _ w_abC) (by omega) (by rw [aCat_eq]; omega) (by omega) (by omega) (x := Int32.ofInt x) hd ?_
    have e : (if 0 ≤ Int32.ofInt x then Int32.ofInt x else 0 - Int32.ofInt x) = Int32.ofInt (if 0 ≤ x then x else wr (0 - x)) := by
      by_cases h : 0 ≤ x
      · rw [if_pos h, if_pos (by rw [← of_zero]; exact (of_le i32_0 hxx).mpr h)]
      · rw [if_neg h, if_neg (fun z => h ((of_le i32_0 hxx).mp (by rw [of_zero]; exact z))), ← of_zero, of_sub]
    rw [e]
    exact K
  · cases ho
theorem w_acL : Cond.methodLink RX3 65 arraycopyName ∈ gTbl := gIn 1100 (by decide +kernel) rfl
theorem w_acS : Cond.static arraycopyName ∈ gTbl := gIn 1101 (by decide +kernel) rfl
theorem w_acN : Cond.native arraycopyName ∈ gTbl := gIn 1102 (by decide +kernel) rfl
theorem w_syI : Cond.initialized "java/lang/System" ∈ gTbl := gIn 123 (by decide +kernel) rfl
theorem aUc_row {d : Nat → Int → Int} {r s q : Nat} {i j n : Int} (h : q ≠ s) : aUc d r s i j n q = d q := by
  funext z
  simp [aUc, h]
theorem r_copy {r r2 N M : Nat} {sp dp n : Int} (hr1 : (st.1 r).1 = 14) (hr2 : (st.1 r2).1 = 14) (hN : (st.1 r).2.1 = N) (hM : (st.1 r2).2.1 = M) (hne : r ≠ r2) (h0 : 0 ≤ n) (h1 : 0 ≤ sp) (h2 : 0 ≤ dp) (h3 : sp + n ≤ N) (h4 : dp + n ≤ M) (hct : aCat S ≤ 8) (hcn : mi.1.cls = aCn mi.2.2.2.2.1.1) (hX : aCtx G d mi p R s m args meth c) (hd : decode mi.2.1 pc = .ok (i, nxt - pc)) (ho : opOk mi pc nxt i 73 a b tgt tl = true) (kk : VW G l mi p e R s m args below meth c Q nxt L S (st.1, aUc st.2.1 r r2 sp dp n, st.2.2)) : VW G l mi p e R s m args below meth c Q pc L ((0, n) :: (0, dp) :: (2, Int.ofNat r2) :: (0, sp) :: (2, Int.ofNat r) :: S) st := by
  intro hL hS hC ls H locs hl hH hlo
  obtain ⟨hx, hb, hrt, hml, hown, hts, hK, hlk, hnm, hB, hf1, hf2, hf3, hf4⟩ := hX
  have wn := aOk32 hS
  have wd := aOk32 (aOkTl hS)
  have ws := aOk32 (aOkTl (aOkTl (aOkTl hS)))
  simp only [opOk] at ho
  split at ho
  · simp only [Bool.and_eq_true, decide_eq_true_eq] at ho
    obtain ⟨rfl, hc3, rfl⟩ := ho
    rw [Nat.add_sub_cancel_left] at hd
    have hown' : s.vm.findClass RX3 = some m.cls := by rw [hcn, hc3] at hown; exact hown
    obtain ⟨a1, a2, a3⟩ := hold_at hH hC (r := r) (by rw [hr1]; decide)
    obtain ⟨b1, b2, b3⟩ := hold_at hH hC (r := r2) (by rw [hr2]; decide)
    rw [ent_14 hr1 hN] at a3
    rw [ent_14 hr2 hM] at b3
    have cn := of_clamp wn
    have cd := of_clamp wd
    have cs := of_clamp ws
    have a4 : H[aAd G r]? = some (vp_cell (G.2.2.1 1) (N, .inl (fun i => Int32.ofInt (st.2.1 r i)))) := a3
    have b4 : H[aAd G r2]? = some (vp_cell (G.2.2.1 1) (M, .inl (fun i => Int32.ofInt (st.2.1 r2 i)))) := b3
    have hcat : ((S.map (aV G)).map fun v => v.category).sum + (nativeFrameWords "java/lang/System" "arraycopy" 5 + 11) ≤ R.locals := by
      rw [aCat_eq]
      have : nativeFrameWords "java/lang/System" "arraycopy" 5 = 7 := rfl
      omega
    obtain ⟨-, k0, hk0, cm0, hkk0⟩ := (hK.2 1 _ rfl).1 N (fun j => .int (Int32.ofInt (st.2.1 r j)))
    obtain ⟨-, k1, hk1, cm1, hkk1⟩ := (hK.2 1 _ rfl).1 M (fun j => .int (Int32.ofInt (st.2.1 r2 j)))
    rw [List.map_cons, List.map_cons, List.map_cons, List.map_cons, List.map_cons, aV_ref a1, aV_ref b1]
    have hC' : aCan (st.1, aUc st.2.1 r r2 sp dp n, st.2.2) := by
      obtain ⟨c1, c2, c3, c4⟩ := hC
      refine ⟨c1, c2, c3, fun q j => ?_⟩
      by_cases hq : q = r2
      · subst hq
        unfold aDok
        have hcc : aCc (st.1 q).1 j = 0 := by rw [hr2]; rfl
        have h5 : i32 (aUc st.2.1 r q sp dp n q j) := by
          unfold aUc
          split
          · exact (c4 r _).2.1 (Or.inl (by rw [hr1]; rfl))
          · exact (c4 q j).2.1 (Or.inl hcc)
        dsimp only
        exact ⟨(fun z => by rw [hcc] at z; cases z), fun _ => h5, (fun z => by rw [hcc] at z; cases z)⟩
      · have := c4 q j
        unfold aDok at this ⊢
        dsimp only
        rw [aUc_row hq]
        exact this
    intro T hT X
    have hsz0 : (arrV (G.2.2.1 1) N (fun j => .int (Int32.ofInt (st.2.1 r j)))).slots.size = N := arrV_size _ _ _
    have hsz1 : (arrV (G.2.2.1 1) M (fun j => .int (Int32.ofInt (st.2.1 r2 j)))).slots.size = M := arrV_size _ _ _
    obtain ⟨vm', X', step⟩ := X.arraycopy hx hown' (hts _ w_acL) (hts _ w_acN) (hts _ w_acS) (hts _ w_syI) (src := aAd G r) (dst := aAd G r2) (cs := vp_cell (G.2.2.1 1) (N, .inl (fun i => Int32.ofInt (st.2.1 r i)))) (cd := vp_cell (G.2.2.1 1) (M, .inl (fun i => Int32.ofInt (st.2.1 r2 i)))) (srcPos := Int32.ofInt sp) (destPos := Int32.ofInt dp) (n := Int32.ofInt n) (by rw [hT]; exact a4) (by rw [hT]; exact b4)
      (fun _ h => by cases h) (fun _ h => by cases h) (fun h => by cases h) (fun h => by cases h) hk0 hk1 hkk0 hkk1 (by simp [refKind]) (of_nneg ws h1) (of_nneg wd h2) (of_nneg wn h0)
      (by rw [aT32 ws, aT32 wn]; show ¬ _ > ((arrV (G.2.2.1 1) N (fun j => .int (Int32.ofInt (st.2.1 r j)))).slots.size : Int); rw [hsz0]; omega)
      (by rw [aT32 wd, aT32 wn]; show ¬ _ > ((arrV (G.2.2.1 1) M (fun j => .int (Int32.ofInt (st.2.1 r2 j)))).slots.size : Int); rw [hsz1]; omega)
      (fun vm₁ _ j hj => by
        have e : (vp_cell (G.2.2.1 1) (N, .inl (fun i => Int32.ofInt (st.2.1 r i)))).slots.getD ((Int32.ofInt sp).toNatClampNeg + j) .null = .int (Int32.ofInt (st.2.1 r (((Int32.ofInt sp).toNatClampNeg + j : Nat) : Int))) := by
          show (arrV (G.2.2.1 1) N (fun j => .int (Int32.ofInt (st.2.1 r j)))).slots.getD _ _ = _
          rw [Array.getD_eq_getD_getElem?, arrV_read _ _ (by rw [of_clamp wn] at hj; rw [of_clamp ws]; omega)]
          rfl
        refine ⟨?_, ?_⟩
        · rw [e]
          rfl
        · rw [e]
          exact trivial)
      (g := F0 m pc ls (.int (Int32.ofInt n) :: .int (Int32.ofInt dp) :: .ref (aAd G r2) :: .int (Int32.ofInt sp) :: .ref (aAd G r) :: S.map (aV G))) rfl (by rw [hml]; exact hl.1) (rest := S.map (aV G)) rfl (by rw [hb]; exact hd) (by omega) (by show 2 * 0 + _ + _ ≤ _; omega)
    have e1 : copied (vp_cell (G.2.2.1 1) (N, .inl (fun i => Int32.ofInt (st.2.1 r i)))) (vp_cell (G.2.2.1 1) (M, .inl (fun i => Int32.ofInt (st.2.1 r2 i)))) (Int32.ofInt sp) (Int32.ofInt dp) (Int32.ofInt n) = vp_cell (G.2.2.1 1) (M, .inl (fun i => Int32.ofInt (aUc st.2.1 r r2 sp dp n r2 i))) := by
      refine (va_copied (fun z => .int z) (G.2.2.1 1) (G.2.2.1 1) (fun i : Nat => Int32.ofInt (st.2.1 r i)) (fun i : Nat => Int32.ofInt (st.2.1 r2 i)) (by rw [of_clamp wn, of_clamp ws]; omega)).trans ?_
      rw [vp_cell_i, of_clamp wn, of_clamp ws, of_clamp wd]
      congr 1
      funext z
      congr 1
      unfold va_cpy aUc
      by_cases hz : dp.toNat ≤ z ∧ z < dp.toNat + n.toNat
      · rw [if_pos hz, if_pos ⟨rfl, by omega, by omega⟩]
        show Int32.ofInt (st.2.1 r ((sp.toNat + (z - dp.toNat) : Nat) : Int)) = _
        rw [show ((sp.toNat + (z - dp.toNat) : Nat) : Int) = sp + ((z : Int) - dp) by omega]
      · rw [if_neg hz, if_neg (fun q => hz ⟨by omega, by omega⟩)]
    rw [e1] at X' step
    have hlt : aAd G r2 < H.size := (Array.getElem?_eq_some_iff.mp b4).1
    generalize hc' : vp_cell (G.2.2.1 1) (M, .inl (fun i => Int32.ofInt (aUc st.2.1 r r2 sp dp n r2 i))) = cell' at X' step
    have hheap : ((T.setVm vm').setCell (aAd G r2) cell').heap = H.setIfInBounds (aAd G r2) cell' := by rw [← hT]; rfl
    have z2 : (H.setIfInBounds (aAd G r2) cell').size = H.size := by simp
    have o2 : ∀ q : Nat, q ≠ aAd G r2 → (H.setIfInBounds (aAd G r2) cell')[q]? = H[q]? := fun q hq => by simp [Array.getElem?_setIfInBounds, Ne.symm hq]
    have e2 : (H.setIfInBounds (aAd G r2) cell')[aAd G r2]? = some cell' := by simp [Array.getElem?_setIfInBounds, hlt]
    have hs2 : ∀ b, hSum b (H.setIfInBounds (aAd G r2) cell') = hSum b H := fun b => hSum_same z2 fun q x x' hx1 hx2 => by
      by_cases hq : q = aAd G r2
      · subst hq
        rw [e2] at hx2
        cases hx2
        rw [b4] at hx1
        cases hx1
        rw [← hc', vp_cell_i, vp_cell_i, arrV_size, arrV_size]
      · rw [o2 q hq, hx1] at hx2
        cases hx2
        rfl
    have hH' : aHold G (st.1, aUc st.2.1 r r2 sp dp n, st.2.2) (H.setIfInBounds (aAd G r2) cell') := hold_put hH rfl b1 z2 o2 hs2 (fun _ => by
      rw [ent_14 (st := (st.1, aUc st.2.1 r r2 sp dp n, st.2.2)) hr2 hM]
      show (H.setIfInBounds (aAd G r2) cell')[aAd G r2]? = some _
      rw [e2, ← hc']) (fun q hq => ⟨rfl, aUc_row hq⟩)
    obtain ⟨t, a9, b9⟩ := kk hL (aOkTl (aOkTl (aOkTl (aOkTl (aOkTl hS))))) hC' ls _ _ hl hH' (fun q hq => by
      rcases List.mem_append.mp hq with h | h
      · exact hlo q h
      · obtain ⟨z, -, hz⟩ := List.mem_map.mp h
        rw [← hz]
        show G.1.1 < aAd G r2
        exact aAd_pos (by omega)) _ hheap X'
    exact ⟨t, step t a9, b9⟩
  · cases ho
end
