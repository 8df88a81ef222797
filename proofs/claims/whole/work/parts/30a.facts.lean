/-! ===== the law's start: what the Statement gives of the machine ===== -/
abbrev nwC : Cond := Jvm.Cond.and given_1 narrow_1
def tmS (i : Nat) : Term := if i = 0 then .string RX7 39 else .string RX7 61
abbrev tmV (i : Nat) : Term := .field (tmS i) "java/lang/String" "value" "[B"
theorem nw_in : (List.range 2).all (fun i => decide (Cond.exactly (tmS i) "java/lang/String" ∈ flatC nwC) && decide (Cond.eq (.field (tmS i) "java/lang/String" "coder" "B") (.int 0) ∈ flatC nwC) && decide (Cond.arrayOf (tmV i) .byte ∈ flatC nwC) && decide (Cond.eq (.length (tmV i)) (.int (Int32.ofNat (sLen.getD i 0))) ∈ flatC nwC) && (List.range (sLen.getD i 0)).all (fun j => decide (Cond.eq (.elem (tmV i) (.int (Int32.ofNat j))) (.int ((sByt.getD i []).getD j 0)) ∈ flatC nwC))) = true := by decide +kernel
theorem nw_ne : (decide (Cond.not (Cond.eq (tmS 0) (tmS 1)) ∈ flatC nwC) || decide (Cond.not (Cond.eq (tmS 1) (tmS 0)) ∈ flatC nwC)) = true := by decide +kernel
theorem nw_st : (decide (Cond.eq (.static "java/lang/String" "COMPACT_STRINGS" "Z") (.int 1) ∈ flatC nwC) && decide (Cond.isRef (.static "jdk/internal/util/Preconditions" "SIOOBE_FORMATTER" "Ljava/util/function/BiFunction;") ∈ flatC nwC) && decide (Cond.isRef (.static Bundle.tN "UNASSIGNED_STACK" Bundle.steD) ∈ flatC nwC) && decide (Cond.isRef (.static Bundle.tN "SUPPRESSED_SENTINEL" Bundle.listD) ∈ flatC nwC)) = true := by decide +kernel
section
variable {s : State} {args : Array Value}
/-- a cell kept: up to B all is as it was -/
theorem st_sE {B : Nat} (hB : B + 1 = s.heap.size) (hts : ∀ w ∈ gTbl, w.before args s = true) (htL : ∀ w ∈ lw_tbl, w.before args s = true) (hn : ∀ w ∈ flatC nwC, w.before args s = true) : ∃ adK adV : Nat → Nat, sE B s.heap adK adV s.vm := by
  have hA : ∀ a : Nat, a < s.heap.size → ¬ B < a := fun a h1 h2 => by omega
  have h2 : ∀ i : Nat, i < 2 → Cond.exactly (tmS i) "java/lang/String" ∈ flatC nwC ∧ Cond.eq (.field (tmS i) "java/lang/String" "coder" "B") (.int 0) ∈ flatC nwC ∧ Cond.arrayOf (tmV i) .byte ∈ flatC nwC ∧ Cond.eq (.length (tmV i)) (.int (Int32.ofNat (sLen.getD i 0))) ∈ flatC nwC ∧ ∀ j : Nat, j < sLen.getD i 0 → Cond.eq (.elem (tmV i) (.int (Int32.ofNat j))) (.int ((sByt.getD i []).getD j 0)) ∈ flatC nwC := fun i hi => by
    have h := List.all_eq_true.mp nw_in i (List.mem_range.mpr hi)
    simp only [Bool.and_eq_true, decide_eq_true_eq, List.all_eq_true] at h
    obtain ⟨⟨⟨⟨a1, a2⟩, a3⟩, a4⟩, a5⟩ := h
    exact ⟨a1, a2, a3, a4, fun j hj => a5 j (List.mem_range.mpr hj)⟩
  have hst := nw_st
  simp only [Bool.and_eq_true, decide_eq_true_eq] at hst
  obtain ⟨⟨⟨s1, s2⟩, -⟩, -⟩ := hst
  obtain ⟨adK, adV, k1, k2⟩ := vk_Sof (args := args) (s := s) (N := 2) (tm := tmS) (len := sLen) (byt := sByt) (A := fun q => B < q) (fun i hi => by
      rcases (by omega : i = 0 ∨ i = 1) with rfl | rfl <;> decide) (fun i hi => hn _ (h2 i hi).1) (fun i hi => hn _ (h2 i hi).2.1) (fun i hi => hn _ (h2 i hi).2.2.1) (fun i hi => hn _ (h2 i hi).2.2.2.1) (fun i hi j hj => hn _ ((h2 i hi).2.2.2.2 j hj)) (fun i j hi hj hij => by
      have hne := nw_ne
      simp only [Bool.or_eq_true, decide_eq_true_eq] at hne
      rcases (by omega : (i = 0 ∧ j = 1) ∨ (i = 1 ∧ j = 0)) with ⟨rfl, rfl⟩ | ⟨rfl, rfl⟩
      · rcases hne with q | q
        · exact Or.inl (hn _ q)
        · exact Or.inr (hn _ q)
      · rcases hne with q | q
        · exact Or.inr (hn _ q)
        · exact Or.inl (hn _ q)) hA
  have r1 : vk_R RX7 39 kwT (adK 0) s := vk_R.of (htL _ (by decide +kernel)) (k2 0 (by decide))
  have r2 : vk_R RX7 61 sgT (adK 1) s := vk_R.of (htL _ (by decide +kernel)) (k2 1 (by decide))
  have z1 := va_Zof (A := fun q => B < q) (htL (.laysStatic "java/lang/String" "COMPACT_STRINGS" "Z") (by decide +kernel)) (hts _ (gW (by decide +kernel))) (va_eqi (hn _ s1)) hA
  have z2 := va_Zqof (A := fun q => B < q) (htL (.laysStatic "jdk/internal/util/Preconditions" "SIOOBE_FORMATTER" "Ljava/util/function/BiFunction;") (by decide +kernel)) (hts _ (gW (by decide +kernel))) (hn _ s2) hA
  refine ⟨adK, adV, fun U hU => ?_⟩
  have hW : s.WarmedH U.vm := by rw [hU]; exact State.WarmedH.refl s
  refine ⟨⟨vk_R.warm hW r1, vk_R.warm hW r2⟩, fun H hH => ?_⟩
  have hq : ∀ a : Nat, a < s.heap.size → ¬ B < a → H[a]? = s.heap[a]? := fun a _ h => hH a (by omega)
  exact ⟨va_Z.moved hW.alike (va_Z.kept z1 hq), va_Zq.moved hW.alike (va_Zq.kept z2 hq), vk_S.moved hW.alike (vk_S.kept k1 hq)⟩
theorem st_R {k : Nat} {tx : String} {cur : Nat} (hc : s.vm.findClass RX11 = some cur) (h : (Cond.stringRef RX11 k tx).before args s = true) : ∃ a : Nat, vk_R RX11 k tx a s := by
  obtain ⟨k1, cf, i, a, -, -, -, -, -, h6⟩ := Cond.stringRef_spec hc h
  exact ⟨a, vk_R.of h h6⟩
theorem st_tE {B cur : Nat} (hB : B + 1 = s.heap.size) (hc : s.vm.findClass RX11 = some cur) (hts : ∀ w ∈ gTbl, w.before args s = true) (htL : ∀ w ∈ lw_tbl, w.before args s = true) (hn : ∀ w ∈ flatC nwC, w.before args s = true) : ∃ adT : Nat → Nat, tE B s.heap adT s.vm := by
  have hA : ∀ a : Nat, a < s.heap.size → ¬ B < a := fun a h1 h2 => by omega
  have hst := nw_st
  simp only [Bool.and_eq_true, decide_eq_true_eq] at hst
  obtain ⟨⟨-, s3⟩, s4⟩ := hst
  obtain ⟨a0, h0⟩ := st_R hc (htL (.stringRef RX11 219 "no such houses") (by decide +kernel))
  obtain ⟨a1, h1⟩ := st_R hc (htL (.stringRef RX11 228 "no such house") (by decide +kernel))
  obtain ⟨a2, h2⟩ := st_R hc (htL (.stringRef RX11 263 "no such house or what") (by decide +kernel))
  obtain ⟨a3, h3⟩ := st_R hc (htL (.stringRef RX11 294 "no such loss or what") (by decide +kernel))
  have z1 := vx_Zqof (A := fun q => B < q) (htL (.laysStatic Bundle.tN "UNASSIGNED_STACK" Bundle.steD) (by decide +kernel)) (hts (.initialized Bundle.tN) (gW (by decide +kernel))) (hn _ s3) hA
  have z2 := vx_Zqof (A := fun q => B < q) (htL (.laysStatic Bundle.tN "SUPPRESSED_SENTINEL" Bundle.listD) (by decide +kernel)) (hts (.initialized Bundle.tN) (gW (by decide +kernel))) (hn _ s4) hA
  have n1 : va_Nw (.declares (Bundle.initS "java/lang/RuntimeException")) s := va_Nw.of rfl (htL _ (by decide +kernel))
  have n2 : va_Nw (.declares (Bundle.initS "java/lang/Exception")) s := va_Nw.of rfl (htL _ (by decide +kernel))
  have n3 : va_Nw (.declares (Bundle.initS Bundle.tN)) s := va_Nw.of rfl (htL _ (by decide +kernel))
  have n4 : va_Nw (.castable nsE nsE) s := va_Nw.of rfl (htL _ (by decide +kernel))
  refine ⟨fun i => match i with | 0 => a0 | 1 => a1 | 2 => a2 | _ => a3, fun U hU => ?_⟩
  have hW : s.WarmedH U.vm := by rw [hU]; exact State.WarmedH.refl s
  refine ⟨⟨⟨vk_R.warm hW h0, vk_R.warm hW h1, vk_R.warm hW h2, vk_R.warm hW h3⟩, va_Nw.warmD hW n1, va_Nw.warmD hW n2, va_Nw.warmD hW n3, va_Nw.warmC hW n4⟩, fun H hH => ?_⟩
  have hq : ∀ a : Nat, a < s.heap.size → ¬ B < a → H[a]? = s.heap[a]? := fun a _ h => hH a (by omega)
  exact ⟨vx_Zq.moved hW.alike (vx_Zq.kept z1 hq), vx_Zq.moved hW.alike (vx_Zq.kept z2 hq)⟩
theorem st_cls (hts : ∀ w ∈ gTbl, w.before args s = true) : ∃ D : va_G, ∀ (k : Nat) (q : vw_C), vwCl[k]? = some q → u_Kn s q.1 q.2.1 q.2.2 (D.1 k) (D.2 k) := by
  have h : ∀ k : Nat, ∃ r : ClassId × (Nat → Nat), ∀ q : vw_C, vwCl[k]? = some q → u_Kn s q.1 q.2.1 q.2.2 r.1 r.2 := fun k => by
    by_cases hk : k < 13
    · obtain ⟨i1, -, -⟩ := ins_of hk
      obtain ⟨c0, iS, hKn⟩ := u_known (C := aCl k) (T := aTf k) (N := aNf k) (n := aNf k) hts (inAll hk) (hts _ i1)
      refine ⟨(c0, iS), fun q hq => ?_⟩
      rw [cls_at hk] at hq
      cases hq
      exact hKn
    · refine ⟨(0, fun _ => 0), fun q hq => ?_⟩
      have := (List.getElem?_eq_some_iff.mp hq).1
      exact absurd this hk
  obtain ⟨f, hf⟩ := Classical.axiomOfChoice h
  exact ⟨(fun k => (f k).1, fun k => (f k).2), hf⟩
theorem st_arr {ty : FieldType} (h : (Cond.arrayClass ty).before args s = true) : ∃ cA : ClassId, ArrOfT s cA ty ∧ s.vm.findClass ("[" ++ ty.toString) = some cA := by
  obtain ⟨cA, kA, comp, h1, h2, h3⟩ := Cond.arrayClass_spec h
  exact ⟨cA, fun n z => ⟨fun k h => (by cases h), kA, h2, comp, h3⟩, h1⟩
theorem st_arq {C : String} (h : (Cond.arrayOver (.object C)).before args s = true) : ∃ cA : ClassId, ArrOfT s cA (.object C) ∧ va_RA s cA (.object C) := by
  obtain ⟨comp, cA, kA, h1, h2, h3, h4, h5⟩ := Cond.arrayOver_spec h
  exact ⟨cA, fun N z => ⟨(fun k h => by cases h), kA, h3, comp, h4⟩, kA, comp, h3, h4, h1, h5⟩
theorem st_K (hts : ∀ w ∈ gTbl, w.before args s = true) (htL : ∀ w ∈ lw_tbl, w.before args s = true) : ∃ (D : va_G) (ca : Nat → ClassId), va_K D vwCl [(ca 0, .char), (ca 1, .int), (ca 2, .long), (ca 3, .boolean), (ca 4, .object RX3), (ca 5, .object RX9)] s := by
  obtain ⟨D, hD⟩ := st_cls hts
  obtain ⟨c0, a0, b0⟩ := st_arr (hts _ w_arrC)
  obtain ⟨c1, a1, b1⟩ := st_arr (hts _ w_arrI)
  obtain ⟨c2, a2, b2⟩ := st_arr (hts _ w_arrL)
  obtain ⟨c3, a3, b3⟩ := st_arr (hts _ w_arrZ)
  obtain ⟨c4, a4, b4⟩ := st_arq (C := RX3) (htL _ (by decide +kernel))
  obtain ⟨c5, a5, b5⟩ := st_arq (C := RX9) (htL _ (by decide +kernel))
  refine ⟨D, fun i => match i with | 0 => c0 | 1 => c1 | 2 => c2 | 3 => c3 | 4 => c4 | _ => c5, hD, fun k q hq => ?_⟩
  match k, hq with
  | 0, hq => cases hq; exact ⟨a0, b0⟩
  | 1, hq => cases hq; exact ⟨a1, b1⟩
  | 2, hq => cases hq; exact ⟨a2, b2⟩
  | 3, hq => cases hq; exact ⟨a3, b3⟩
  | 4, hq => cases hq; exact ⟨a4, b4⟩
  | 5, hq => cases hq; exact ⟨a5, b5⟩
  | k + 6, hq => exact absurd (List.getElem?_eq_some_iff.mp hq).1 (by simp)
end
