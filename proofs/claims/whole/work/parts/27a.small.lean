/-! ===== the small tests ahead of a throw: they only read ===== -/
theorem gW {w : Cond} (h : (decide (w ∈ lw_tbl) && goodWord w) = true) : w ∈ gTbl := by
  rw [Bool.and_eq_true] at h
  exact List.mem_filter.mpr ⟨of_decide_eq_true h.1, h.2⟩
section
variable {p : Program} {l : Launch} {e : Env} {R : Room} {s : State} {m : MethodId} {args : Array Value} {below : List Frame} {meth : Method} {c : Code} {H : Heap} {locs : List Loc} {cells slots : Nat} {Q : State → Prop} {pc : Nat} {ls : Array Slot} {rest : List Value} {G : aCX} {st : aSt}
theorem gfW {own : String} {cc : ByteArray} {ci k index r : Nat} (hx : p.tables.exec = Jvm.exec) (hb : c.code = cc) (hts : ∀ w ∈ gTbl, w.before args s = true) (hown : s.vm.findClass own = some m.cls) (hK : va_K G.2.1 vwCl (aTys G) s) (hH : aHold G st H) (hC : aCan st) (hr : (st.1 r).1 = ci) (hci : ci < 13) (hk : k < aNf ci) (hw : Cond.fieldLink own index (aTf ci k).1 (aTf ci k).2.1 (aTf ci k).2.2.1 ∈ gTbl) (hd : decode cc pc = .ok (.getfield index, 3)) (kk : W p l e R s m args below meth c H locs cells slots Q (F0 m (pc + 3) ls (aFv G (st.2.1 r) (st.1 r).2.2 (aFc ci k) k :: rest))) : W p l e R s m args below meth c H locs cells slots Q (F0 m pc ls (.ref (aAd G r) :: rest)) := by
  obtain ⟨h1, h2, h3⟩ := hold_at hH hC (r := r) (by omega)
  rw [ent_o hr hci] at h3
  have hP : va_P G.2.1 vwCl [(aAd G r, .inr (ci, aFs G (st.2.1 r) ci (st.1 r).2.2))] H := fun k q hq => by
    cases k with
    | zero => cases hq; exact h3
    | succ k => cases hq
  exact va_get hx hb hts (inAll hci) hown hK hP 0 rfl (cls_at hci) k hk (hts _ hw) (fun _ h => h) (fs_at hk) hd kk
end
def hPre (G : aCX) (st : aSt) : State → Prop := fun U => aHold G st U.heap ∧ va_K G.2.1 vwCl (aTys G) U
theorem hPre_ok {G : aCX} {st : aSt} : PreOk (hPre G st) := fun u U h e q => ⟨by rw [e]; exact q.1, va_K.moved h q.2⟩
theorem nrw_z {h : Int} (h1 : h = 0 ∨ h = 1) : narrow .boolean (.int (Int32.ofInt h)) = .int (Int32.ofInt h) := by
  rcases h1 with rfl | rfl <;> rfl
section
variable {G : aCX} {K : Nat → aKd} {D : Nat → Int → Int} {z : Nat × Nat}
theorem p_isHouse (l : Launch) {h : Int} {T : Nat} (hk : Kn K) (hT : isT T) (ht : D 1 6 = (T : Nat)) (hC : aCan (K, D, z)) (hh : i32 h) : PM l yX11_isHouse prog_1_method_30_code 2 (some .boolean) 0 [.ref (aAd G 1), .int (Int32.ofInt h)] (hPre G (K, D, z)) (some (.int (Int32.ofInt (if 0 ≤ h ∧ h < D T 0 then 1 else 0)))) := by
  refine pm_of (by decide +kernel) (Nat.le_of_ble_eq_true rfl) ?_
  intro p e s m below meth c ls hx hb hr hml hown hts hlk hl hP
  obtain ⟨hH, hK⟩ := hP
  have kT : K T = kK T := hk T (by rcases hT with rfl | rfl <;> rfl)
  have n0 : i32 (D T 0) := (hC.2.2.2 T 0).2.1 (by
    show aCc (K T).1 0 = 0 ∨ aCc (K T).1 0 = 4
    rw [kT]; rcases hT with rfl | rfl <;> exact Or.inl rfl)
  refine lv_iload_n hx hb (by decide +kernel : decode prog_1_method_30_code 0 = .ok (.iload_n 1, 1)) rfl (lv_at hl 1 rfl) ?_
  refine lv_if_lt (tgt := 19) hx hb (by decide +kernel : decode prog_1_method_30_code 1 = .ok (.ifCond .lt 18, 3)) (by decide) (fun q => ?_) (fun q => ?_)
  · have q := (of_lt0 hh).mp q
    refine lv_iconst hx hb (by decide +kernel : decode prog_1_method_30_code 19 = .ok (.iconst 0, 1)) rfl ?_
    rw [if_neg (by omega)]
    exact pm_zret hx hb hr rfl hlk (by decide +kernel)
  · have q : ¬ h < 0 := fun z => q ((of_lt0 hh).mpr z)
    refine lv_iload_n hx hb (by decide +kernel : decode prog_1_method_30_code 4 = .ok (.iload_n 1, 1)) rfl (lv_at hl 1 rfl) ?_
    refine lv_aload_n hx hb (by decide +kernel : decode prog_1_method_30_code 5 = .ok (.aload_n 0, 1)) rfl (lv_at hl 0 rfl) ?_
    refine gfW (ci := 11) (k := 6) (r := 1) hx hb hts hown hK hH hC (by show (K 1).1 = 11; rw [hk 1 rfl]; rfl) (by decide) (by decide) (gW (by decide +kernel)) (by decide +kernel : decode prog_1_method_30_code 6 = .ok (.getfield 60, 3)) ?_
    have e1 : aFv G (D 1) (K 1).2.2 (aFc 11 6) 6 = .ref (aAd G T) := by
      show va_rf (aRf G (D 1 6)) = _
      rw [ht]
      rcases hT with rfl | rfl <;> rfl
    rw [show aFv G ((K, D, z).2.1 1) ((K, D, z).1 1).2.2 (aFc 11 6) 6 = .ref (aAd G T) from e1]
    refine gfW (ci := 8) (k := 0) (r := T) hx hb hts hown hK hH hC (by show (K T).1 = 8; rw [kT]; rcases hT with rfl | rfl <;> rfl) (by decide) (by decide) (gW (by decide +kernel)) (by decide +kernel : decode prog_1_method_30_code 9 = .ok (.getfield 314, 3)) ?_
    refine lv_icmp_ge (x := Int32.ofInt h) (y := Int32.ofInt (D T 0)) (tgt := 19) hx hb (by decide +kernel : decode prog_1_method_30_code 12 = .ok (.if_icmp .ge 7, 3)) (by decide) (fun q2 => ?_) (fun q2 => ?_)
    · have q2 := (of_le n0 hh).mp q2
      refine lv_iconst hx hb (by decide +kernel : decode prog_1_method_30_code 19 = .ok (.iconst 0, 1)) rfl ?_
      rw [if_neg (by omega)]
      exact pm_zret hx hb hr rfl hlk (by decide +kernel)
    · have q2 : ¬ D T 0 ≤ h := fun z => q2 ((of_le n0 hh).mpr z)
      refine lv_iconst hx hb (by decide +kernel : decode prog_1_method_30_code 15 = .ok (.iconst 1, 1)) rfl ?_
      refine lv_goto (tgt := 20) hx hb (by decide +kernel : decode prog_1_method_30_code 16 = .ok (.goto 4, 3)) (by decide) ?_
      rw [if_pos (by omega)]
      exact pm_zret hx hb hr rfl hlk (by decide +kernel)
theorem p_isLoss (l : Launch) {h : Int} (hk : Kn K) (hC : aCan (K, D, z)) (hh : i32 h) : PM l yX11_isLoss prog_1_method_29_code 2 (some .boolean) 0 [.ref (aAd G 1), .int (Int32.ofInt h)] (hPre G (K, D, z)) (some (.int (Int32.ofInt (if 0 ≤ h ∧ h < D 89 0 then 1 else 0)))) := by
  refine pm_of (by decide +kernel) (Nat.le_of_ble_eq_true rfl) ?_
  intro p e s m below meth c ls hx hb hr hml hown hts hlk hl hP
  obtain ⟨hH, hK⟩ := hP
  have n0 : i32 (D 89 0) := (hC.2.2.2 89 0).2.1 (by
    show aCc (K 89).1 0 = 0 ∨ aCc (K 89).1 0 = 4
    rw [hk 89 rfl]; exact Or.inl rfl)
  refine lv_iload_n hx hb (by decide +kernel : decode prog_1_method_29_code 0 = .ok (.iload_n 1, 1)) rfl (lv_at hl 1 rfl) ?_
  refine lv_if_lt (tgt := 19) hx hb (by decide +kernel : decode prog_1_method_29_code 1 = .ok (.ifCond .lt 18, 3)) (by decide) (fun q => ?_) (fun q => ?_)
  · have q := (of_lt0 hh).mp q
    refine lv_iconst hx hb (by decide +kernel : decode prog_1_method_29_code 19 = .ok (.iconst 0, 1)) rfl ?_
    rw [if_neg (by omega)]
    exact pm_zret hx hb hr rfl hlk (by decide +kernel)
  · have q : ¬ h < 0 := fun z => q ((of_lt0 hh).mpr z)
    refine lv_iload_n hx hb (by decide +kernel : decode prog_1_method_29_code 4 = .ok (.iload_n 1, 1)) rfl (lv_at hl 1 rfl) ?_
    refine lv_aload_n hx hb (by decide +kernel : decode prog_1_method_29_code 5 = .ok (.aload_n 0, 1)) rfl (lv_at hl 0 rfl) ?_
    refine gfW (ci := 11) (k := 2) (r := 1) hx hb hts hown hK hH hC (by show (K 1).1 = 11; rw [hk 1 rfl]; rfl) (by decide) (by decide) (gW (by decide +kernel)) (by decide +kernel : decode prog_1_method_29_code 6 = .ok (.getfield 28, 3)) ?_
    have e1 : aFv G (D 1) (K 1).2.2 (aFc 11 2) 2 = .ref (aAd G 89) := by
      rw [hk 1 rfl]; rfl
    rw [show aFv G ((K, D, z).2.1 1) ((K, D, z).1 1).2.2 (aFc 11 2) 2 = .ref (aAd G 89) from e1]
    refine gfW (ci := 0) (k := 0) (r := 89) hx hb hts hown hK hH hC (by show (K 89).1 = 0; rw [hk 89 rfl]; rfl) (by decide) (by decide) (gW (by decide +kernel)) (by decide +kernel : decode prog_1_method_29_code 9 = .ok (.getfield 107, 3)) ?_
    refine lv_icmp_ge (x := Int32.ofInt h) (y := Int32.ofInt (D 89 0)) (tgt := 19) hx hb (by decide +kernel : decode prog_1_method_29_code 12 = .ok (.if_icmp .ge 7, 3)) (by decide) (fun q2 => ?_) (fun q2 => ?_)
    · have q2 := (of_le n0 hh).mp q2
      refine lv_iconst hx hb (by decide +kernel : decode prog_1_method_29_code 19 = .ok (.iconst 0, 1)) rfl ?_
      rw [if_neg (by omega)]
      exact pm_zret hx hb hr rfl hlk (by decide +kernel)
    · have q2 : ¬ D 89 0 ≤ h := fun z => q2 ((of_le n0 hh).mpr z)
      refine lv_iconst hx hb (by decide +kernel : decode prog_1_method_29_code 15 = .ok (.iconst 1, 1)) rfl ?_
      refine lv_goto (tgt := 20) hx hb (by decide +kernel : decode prog_1_method_29_code 16 = .ok (.goto 4, 3)) (by decide) ?_
      rw [if_pos (by omega)]
      exact pm_zret hx hb hr rfl hlk (by decide +kernel)
theorem p_isWithin (l : Launch) {x y : Int} (hx0 : i32 x) (hy0 : i32 y) : PM l yX11_isWithin prog_1_method_28_code 2 (some .boolean) 0 [.int (Int32.ofInt x), .int (Int32.ofInt y)] (hPre G (K, D, z)) (some (.int (Int32.ofInt (if 0 ≤ x ∧ x ≤ y then 1 else 0)))) := by
  refine pm_of (by decide +kernel) (Nat.le_of_ble_eq_true rfl) ?_
  intro p e s m below meth c ls hx hb hr hml hown hts hlk hl hP
  refine lv_iload_n hx hb (by decide +kernel : decode prog_1_method_28_code 0 = .ok (.iload_n 0, 1)) rfl (lv_at hl 0 rfl) ?_
  refine lv_if_lt (tgt := 13) hx hb (by decide +kernel : decode prog_1_method_28_code 1 = .ok (.ifCond .lt 12, 3)) (by decide) (fun q => ?_) (fun q => ?_)
  · have q := (of_lt0 hx0).mp q
    refine lv_iconst hx hb (by decide +kernel : decode prog_1_method_28_code 13 = .ok (.iconst 0, 1)) rfl ?_
    rw [if_neg (by omega)]
    exact pm_zret hx hb hr rfl hlk (by decide +kernel)
  · have q : ¬ x < 0 := fun z => q ((of_lt0 hx0).mpr z)
    refine lv_iload_n hx hb (by decide +kernel : decode prog_1_method_28_code 4 = .ok (.iload_n 0, 1)) rfl (lv_at hl 0 rfl) ?_
    refine lv_iload_n hx hb (by decide +kernel : decode prog_1_method_28_code 5 = .ok (.iload_n 1, 1)) rfl (lv_at hl 1 rfl) ?_
    refine lv_icmp_gt (x := Int32.ofInt x) (y := Int32.ofInt y) (tgt := 13) hx hb (by decide +kernel : decode prog_1_method_28_code 6 = .ok (.if_icmp .gt 7, 3)) (by decide) (fun q2 => ?_) (fun q2 => ?_)
    · have q2 := (of_lt hy0 hx0).mp q2
      refine lv_iconst hx hb (by decide +kernel : decode prog_1_method_28_code 13 = .ok (.iconst 0, 1)) rfl ?_
      rw [if_neg (by omega)]
      exact pm_zret hx hb hr rfl hlk (by decide +kernel)
    · have q2 : ¬ y < x := fun z => q2 ((of_lt hy0 hx0).mpr z)
      refine lv_iconst hx hb (by decide +kernel : decode prog_1_method_28_code 9 = .ok (.iconst 1, 1)) rfl ?_
      refine lv_goto (tgt := 14) hx hb (by decide +kernel : decode prog_1_method_28_code 10 = .ok (.goto 4, 3)) (by decide) ?_
      rw [if_pos (by omega)]
      exact pm_zret hx hb hr rfl hlk (by decide +kernel)
end
