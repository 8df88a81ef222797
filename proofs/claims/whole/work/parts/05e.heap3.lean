/-! ===== new cells, references stored, switches, Math, arraycopy ===== -/
theorem aUk_at {K : Nat → aKd} {r : Nat} {x : aKd} : aUk K r x r = x := by simp [aUk]
theorem aUk_ne {K : Nat → aKd} {r q : Nat} {x : aKd} (h : q ≠ r) : aUk K r x q = K q := by simp [aUk, h]
theorem aUz_at {d : Nat → Int → Int} {r : Nat} : aUz d r r = fun _ => 0 := by funext i; simp [aUz]
theorem aUz_ne {d : Nat → Int → Int} {r q : Nat} (h : q ≠ r) : aUz d r q = d q := by funext i; simp [aUz, h]
abbrev aNew (st : aSt) (kd : aKd) (n : Nat) : aSt := (aUk st.1 st.2.2.1 kd, aUz st.2.1 st.2.2.1, st.2.2.1 + 1, st.2.2.2 + n)
theorem can_push {st : aSt} (hC : aCan st) (kd : aKd) {n : Nat} (h1 : st.2.2.1 + 1 ≤ 2000) (h2 : st.2.2.2 + n ≤ 200000) : aCan (aNew st kd n) := by
  obtain ⟨c1, ⟨c2, c3, c4⟩, c5, c6⟩ := hC
  refine ⟨?_, ⟨by show 1 ≤ st.2.2.1 + 1; omega, h1, h2⟩, fun r hr => ?_, fun r i => ?_⟩
  · show (aUk st.1 st.2.2.1 kd 0).1 = 99
    rw [aUk_ne (by omega)]; exact c1
  · have hr : st.2.2.1 + 1 ≤ r := hr
    show (aUk st.1 st.2.2.1 kd r).1 = 99
    rw [aUk_ne (by omega)]; exact c5 r (by omega)
  · by_cases hq : r = st.2.2.1
    · subst hq
      unfold aDok
      have e : (aNew st kd n).2.1 st.2.2.1 i = 0 := by show aUz st.2.1 st.2.2.1 st.2.2.1 i = 0; rw [aUz_at]
      rw [e]
      exact ⟨fun _ => ⟨by decide, by decide⟩, fun _ => ⟨by decide, by decide⟩, fun _ => Int.le_refl 0⟩
    · have h := c6 r i
      unfold aDok at h ⊢
      have e1 : (aNew st kd n).1 r = st.1 r := aUk_ne hq
      have e2 : (aNew st kd n).2.1 r = st.2.1 r := aUz_ne hq
      rw [e1, e2]; exact h
theorem hold_push {G : aCX} {st : aSt} {H : Heap} {kd : aKd} {n : Nat} {x : Cell} {H1 : Heap} (hH : aHold G st H) (hC : aCan st) (hz : H1.size = aAd G st.2.2.1 + 1) (hx : H1[aAd G st.2.2.1]? = some x) (ho : ∀ q, q < aAd G st.2.2.1 → H1[q]? = H[q]?) (hn : x.slots.size = n) (hat : va_at G.2.1 vwCl (aAd G st.2.2.1, aEnt G (aNew st kd n) st.2.2.1) H1) : aHold G (aNew st kd n) H1 := by
  obtain ⟨h1, h2, h3, h4⟩ := hH
  obtain ⟨c1, ⟨c2, c3, c4⟩, c5, c6⟩ := hC
  refine ⟨by show H1.size = aAd G (st.2.2.1 + 1); rw [aAd_succ, h2.2.1 _ (Nat.le_refl _)]; omega, ⟨?_, fun r hr => h2.2.1 r (by have : st.2.2.1 + 1 ≤ r := hr; omega), by show gS G.1.2 (st.2.2.1 + 1) ≤ 1000; rw [gS, h2.2.1 _ (Nat.le_refl _)]; exact h2.2.2⟩, fun q hq => by rw [ho q (by have := aAd_pos (G := G) c2; omega)]; exact h3 q hq, fun r r1 r2 r3 => ?_⟩
  · show hSum (G.1.1 + 1) H1 ≤ st.2.2.2 + n
    have := aAd_pos (G := G) c2
    have := h2.1
    rw [hSum_push (H := H) (x := x) (by omega) (by omega) (by rw [h1]; exact hx) (by rw [h1]; exact ho), hn]; omega
  · have r2 : r < st.2.2.1 + 1 := r2
    by_cases hr : r = st.2.2.1
    · subst hr; exact hat
    · have e1 : (aNew st kd n).1 r = st.1 r := aUk_ne hr
      have e2 : (aNew st kd n).2.1 r = st.2.1 r := aUz_ne hr
      rw [e1] at r3
      have h5 := h4 r r1 (by omega) r3
      have e3 : aEnt G (aNew st kd n) r = aEnt G st r := by unfold aEnt; rw [e1, e2]
      rw [e3]
      exact h5.kept (ho _ (by show aAd G r < aAd G st.2.2.1; exact aAd_lt (by omega)))
theorem of_nneg {x : Int} (hx : i32 x) (h : 0 ≤ x) : ¬ Int32.ofInt x < 0 := by rw [of_lt0 hx]; omega
section
variable {G : aCX} {l : Launch} {d : Nat} {mi : aMI} {p : Program} {e : Env} {R : Room} {s : State} {m : MethodId} {args : Array Value} {below : List Frame} {meth : Method} {c : Code} {Q : State → Prop} {pc nxt tgt : Nat} {i : Instr} {a b : Int} {tl : List (Int × Nat)} {L S : List aTV} {st : aSt} {H : Heap}
theorem newarrW {n k : Nat} {ty : FieldType} {atype : ArrayType} {kd : aKd} (hty : newarray.typeOf atype = ty) (hk : (aTys G)[k]? = some (G.2.2.1 k, ty)) (hRA : va_RA s (G.2.2.1 k) ty → s.vm.findClass ("[" ++ ty.toString) = some (G.2.2.1 k)) (hw : Cond.arrayClass ty ∈ gTbl) (hcb : componentBytes ty ≤ 8) (hdg : decode mi.2.1 pc = .ok (.newarray atype, 2)) (hat : ∀ H1 : Heap, H1[aAd G st.2.2.1]? = some (arrV (G.2.2.1 k) n (fun _ => defaultValue ty)) → va_at G.2.1 vwCl (aAd G st.2.2.1, aEnt G (aNew st kd n) st.2.2.1) H1) (h1 : st.2.2.1 + 1 ≤ 2000) (h2 : st.2.2.2 + n ≤ 200000) (hX : aCtx G d mi p R s m args meth c) (kk : VW G l mi p e R s m args below meth c Q (pc + 2) L ((2, Int.ofNat st.2.2.1) :: S) (aNew st kd n)) : VW G l mi p e R s m args below meth c Q pc L ((0, Int.ofNat n) :: S) st := by
  intro hL hS hC ls H locs hl hH hlo
  obtain ⟨hx, hb, hrt, hml, hown, hts, hK, hlk, hnm, hB, hf1, hf2, hf3, hf4⟩ := hX
  subst hty
  have hC' := can_push hC kd h1 h2
  have hr32 : i32 (Int.ofNat n) := aOk32 hS
  have hcl : (Int32.ofInt (Int.ofNat n)).toNatClampNeg = n := by rw [of_clamp hr32]; rfl
  have c2 : 1 ≤ st.2.2.1 := hC.2.1.1
  have hmul : n * componentBytes (newarray.typeOf atype) ≤ n * 8 := Nat.mul_le_mul_left _ hcb
  rw [List.map_cons]
  refine va_newaK hx hb (hts _ hw) rfl hdg rfl (of_nneg hr32 (Int.natCast_nonneg n)) hcl (by omega) (by omega) (by omega) hH.1 fun H1 cA e1 z1 o1 hAr hNm => ?_
  have ecA : cA = G.2.2.1 k := Option.some.inj (hNm.symm.trans (hRA (hK.2 k _ hk).2))
  subst ecA
  have hH' := hold_push (kd := kd) hH hC z1 e1 o1 (arrV_size _ _ _) (hat H1 e1)
  have K := kk hL (aOkCo (aOk_r (Int.natCast_nonneg _)) (aOkTl hS)) hC' ls H1 locs hl hH' hlo
  rw [List.map_cons, aV_ref c2] at K
  exact W.cap hH' hC' hB K
theorem w_arrC : Cond.arrayClass .char ∈ gTbl := gIn 295 (by decide +kernel) rfl
theorem w_arrI : Cond.arrayClass .int ∈ gTbl := gIn 394 (by decide +kernel) rfl
theorem w_arrL : Cond.arrayClass .long ∈ gTbl := gIn 296 (by decide +kernel) rfl
theorem w_arrZ : Cond.arrayClass .boolean ∈ gTbl := gIn 395 (by decide +kernel) rfl
theorem r_newarr {n : Nat} (h1 : st.2.2.1 + 1 ≤ 2000) (h2 : st.2.2.2 + n ≤ 200000) (hcn : mi.1.cls = aCn mi.2.2.2.2.1.1) (hX : aCtx G d mi p R s m args meth c) (hd : decode mi.2.1 pc = .ok (i, nxt - pc)) (ho : opOk mi pc nxt i 60 a b tgt tl = true) (kk : VW G l mi p e R s m args below meth c Q nxt L ((2, Int.ofNat st.2.2.1) :: S) (aNew st (a.toNat, n, []) n)) : VW G l mi p e R s m args below meth c Q pc L ((0, Int.ofNat n) :: S) st := by
  simp only [opOk] at ho
  split at ho
  · simp only [decide_eq_true_eq] at ho
    obtain ⟨rfl, hh⟩ := ho
    rw [Nat.add_sub_cancel_left] at hd
    have e0 : (aNew st (a.toNat, n, []) n).2.1 st.2.2.1 = fun _ => 0 := aUz_at
    have e1 : (aNew st (a.toNat, n, []) n).1 st.2.2.1 = (a.toNat, n, []) := aUk_at
    rcases hh with ⟨rfl, rfl⟩ | ⟨rfl, rfl⟩ | ⟨rfl, rfl⟩ | ⟨rfl, rfl⟩
    · refine newarrW (k := 0) (ty := .char) (atype := .char) rfl rfl (fun h => h) w_arrC (by decide) hd (fun H1 h => ?_) h1 h2 hX kk
      rw [ent_13 (st := aNew st ((13 : Int).toNat, n, []) n) (n := n) (by rw [e1]; rfl) (by rw [e1]), e0]
      exact h
    · refine newarrW (k := 1) (ty := .int) (atype := .int) rfl rfl (fun h => h) w_arrI (by decide) hd (fun H1 h => ?_) h1 h2 hX kk
      rw [ent_14 (st := aNew st ((14 : Int).toNat, n, []) n) (n := n) (by rw [e1]; rfl) (by rw [e1]), e0]
      exact h
    · refine newarrW (k := 2) (ty := .long) (atype := .long) rfl rfl (fun h => h) w_arrL (by decide) hd (fun H1 h => ?_) h1 h2 hX kk
      rw [ent_15 (st := aNew st ((15 : Int).toNat, n, []) n) (n := n) (by rw [e1]; rfl) (by rw [e1]), e0]
      exact h
    · refine newarrW (k := 3) (ty := .boolean) (atype := .boolean) rfl rfl (fun h => h) w_arrZ (by decide) hd (fun H1 h => ?_) h1 h2 hX kk
      rw [ent_16 (st := aNew st ((16 : Int).toNat, n, []) n) (n := n) (by rw [e1]; rfl) (by rw [e1]), e0]
      exact h
  · cases ho
theorem anewW {n k x : Nat} {C : String} {kd : aKd} (hk : (aTys G)[k]? = some (G.2.2.1 k, .object C)) (hw : va_AO C s) (hlink : Cond.classLink mi.1.cls x C ∈ gTbl) (hdg : decode mi.2.1 pc = .ok (.anewarray x, 3)) (hat : ∀ H1 : Heap, H1[aAd G st.2.2.1]? = some (arrV (G.2.2.1 k) n (fun _ => .null)) → va_at G.2.1 vwCl (aAd G st.2.2.1, aEnt G (aNew st kd n) st.2.2.1) H1) (h1 : st.2.2.1 + 1 ≤ 2000) (h2 : st.2.2.2 + n ≤ 200000) (hX : aCtx G d mi p R s m args meth c) (kk : VW G l mi p e R s m args below meth c Q (pc + 3) L ((2, Int.ofNat st.2.2.1) :: S) (aNew st kd n)) : VW G l mi p e R s m args below meth c Q pc L ((0, Int.ofNat n) :: S) st := by
  intro hL hS hC ls H locs hl hH hlo
  obtain ⟨hx, hb, hrt, hml, hown, hts, hK, hlk, hnm, hB, hf1, hf2, hf3, hf4⟩ := hX
  have hC' := can_push hC kd h1 h2
  have hr32 : i32 (Int.ofNat n) := aOk32 hS
  have hcl : (Int32.ofInt (Int.ofNat n)).toNatClampNeg = n := by rw [of_clamp hr32]; rfl
  have c2 : 1 ≤ st.2.2.1 := hC.2.1.1
  rw [List.map_cons]
  refine W.anew hx hb hown (hts _ hlink) (va_AO.use hw) rfl hdg rfl (of_nneg hr32 (Int.natCast_nonneg n)) (by rw [hcl]; omega) (by omega) (by rw [hcl]; omega) fun cA kA comp f1 f2 f3 f4 => ?_
  rw [hcl]
  obtain ⟨kA', comp', -, -, -, g4⟩ := (hK.2 k _ hk).2
  have ecA : cA = G.2.2.1 k := Option.some.inj (f1.symm.trans g4)
  subst ecA
  generalize hH1 : H.push ({ cls := G.2.2.1 k, slots := Array.replicate n .null, vm := .none } : Cell) = H1
  have hz := hH.1
  have z1 : H1.size = aAd G st.2.2.1 + 1 := by rw [← hH1, Array.size_push, hz]
  have e1 : H1[aAd G st.2.2.1]? = some (arrV (G.2.2.1 k) n (fun _ => .null)) := by rw [← hH1, ← hz, Array.getElem?_push_size, ← arrV_new]
  have o1 : ∀ q : Nat, q < aAd G st.2.2.1 → H1[q]? = H[q]? := fun q hq => by rw [← hH1, Array.getElem?_push, if_neg (by omega)]
  have hH' := hold_push (kd := kd) hH hC z1 e1 o1 (arrV_size _ _ _) (hat H1 e1)
  have K := kk hL (aOkCo (aOk_r (Int.natCast_nonneg _)) (aOkTl hS)) hC' ls H1 locs hl hH' hlo
  rw [List.map_cons, aV_ref c2] at K
  rw [hz]
  exact W.cap hH' hC' hB K
theorem aRf0 {G : aCX} : aRf G 0 = none := rfl
theorem rep_getD {n i : Nat} : (List.replicate n (0 : Nat)).getD i 0 = 0 := by
  rw [List.getD_eq_getElem?_getD, List.getElem?_replicate]
  split <;> rfl
theorem cl_of {o x t : Nat} (h : aCLs.any (fun q => decide (q.1 = o ∧ q.2.1 = x ∧ q.2.2.1 = t)) = true) : Cond.classLink (aCn o) x (aCn t) ∈ gTbl := by
  obtain ⟨q, hq, hb⟩ := List.any_eq_true.mp h
  simp only [decide_eq_true_eq] at hb
  obtain ⟨h1, h2, h3⟩ := hb
  have hw := lk_in (List.all_eq_true.mp aCL_ok q hq)
  rw [aCLw, h1, h2, h3] at hw
  exact hw
theorem r_anew {n : Nat} (h1 : st.2.2.1 + 1 ≤ 2000) (h2 : st.2.2.2 + n ≤ 200000) (hcn : mi.1.cls = aCn mi.2.2.2.2.1.1) (hX : aCtx G d mi p R s m args meth c) (hd : decode mi.2.1 pc = .ok (i, nxt - pc)) (ho : opOk mi pc nxt i 61 a b tgt tl = true) (kk : VW G l mi p e R s m args below meth c Q nxt L ((2, Int.ofNat st.2.2.1) :: S) (aNew st (a.toNat, n, List.replicate n 0) n)) : VW G l mi p e R s m args below meth c Q pc L ((0, Int.ofNat n) :: S) st := by
  simp only [opOk] at ho
  split at ho
  · simp only [Bool.and_eq_true, decide_eq_true_eq] at ho
    obtain ⟨⟨rfl, hh⟩, ha⟩ := ho
    rw [Nat.add_sub_cancel_left] at hd
    have e0 : (aNew st (a.toNat, n, List.replicate n 0) n).2.1 st.2.2.1 = fun _ => 0 := aUz_at
    have e1 : (aNew st (a.toNat, n, List.replicate n 0) n).1 st.2.2.1 = (a.toNat, n, List.replicate n 0) := aUk_at
    rcases hh with rfl | rfl
    · have hw : Cond.classLink (aCn mi.2.2.2.2.1.1) _ (aCn 3) ∈ gTbl := cl_of (by
        obtain ⟨q, hq, hb⟩ := List.any_eq_true.mp ha
        refine List.any_eq_true.mpr ⟨q, hq, ?_⟩
        simp only [decide_eq_true_eq] at hb ⊢
        obtain ⟨g1, g2, g3⟩ := hb
        exact ⟨g1, g2, by omega⟩)
      rw [← hcn] at hw
      refine anewW (k := 4) rfl hX.2.2.2.2.2.2.2.2.2.2.2.2.2.2.1 hw hd (fun H1 h => ?_) h1 h2 hX kk
      rw [ent_17 (st := aNew st ((17 : Int).toNat, n, List.replicate n 0) n) (n := n) (by rw [e1]; rfl) (by rw [e1]), e0]
      exact h
    · have hw : Cond.classLink (aCn mi.2.2.2.2.1.1) _ (aCn 9) ∈ gTbl := cl_of (by
        obtain ⟨q, hq, hb⟩ := List.any_eq_true.mp ha
        refine List.any_eq_true.mpr ⟨q, hq, ?_⟩
        simp only [decide_eq_true_eq] at hb ⊢
        obtain ⟨g1, g2, g3⟩ := hb
        exact ⟨g1, g2, by omega⟩)
      rw [← hcn] at hw
      refine anewW (k := 5) rfl hX.2.2.2.2.2.2.2.2.2.2.2.2.2.2.2.1 hw hd (fun H1 h => ?_) h1 h2 hX kk
      rw [ent_18 (st := aNew st ((18 : Int).toNat, n, List.replicate n 0) n) (n := n) (by rw [e1]; rfl) (by rw [e1]), e1]
      have e2 : (fun i : Nat => aRf G (Int.ofNat ((List.replicate n 0).getD i 0))) = fun _ => none := by funext i; rw [rep_getD]; rfl
      show H1[_]? = some (vp_cell _ (n, Sum.inr (Sum.inr (Sum.inr (Sum.inr (fun i : Nat => aRf G (Int.ofNat ((List.replicate n 0).getD i 0))))))))
      rw [e2]
      exact h
  · cases ho
end
