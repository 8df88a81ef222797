/-! ===== charAt, indexOf ===== -/
def sCh (i k : Nat) : Int32 := (sByt.getD i []).getD k 0
theorem sCh_ok : ∀ i : Nat, i < 2 → ∀ k : Nat, k < sLen.getD i 0 → ((sCh i k &&& 255).toUInt32 % 65536).toInt32 = sCh i k ∧ (narrow .char (.int (sCh i k)) = .int (sCh i k)) ∧ sLen.getD i 0 < 200 := by
  intro i hi
  rcases (by omega : i = 0 ∨ i = 1) with rfl | rfl <;> decide +kernel
theorem p_charAtL (l : Launch) {adK adV : Nat → Nat} {A : Nat → Prop} {i k : Nat} (hi : i < 2) (hk : k < sLen.getD i 0) : PM l yLCh prog_21_method_2_code 2 (some .char) 2 [.ref (adV i), .int (nI k)] (fun U => StF adK adV A U U.heap) (some (.int (sCh i k))) := by
  obtain ⟨s1, s2, s3⟩ := sCh_ok i hi k hk
  refine pm_of (by decide +kernel) (Nat.le_of_ble_eq_true rfl) ?_
  intro p e s m below meth c ls hx hb hr hml hown hts hlk hl hP
  refine lv_iload_n hx hb (by decide +kernel : decode prog_21_method_2_code 0 = .ok (.iload_n 1, 1)) rfl (lv_at hl 1 rfl) ?_
  refine lv_aload_n hx hb (by decide +kernel : decode prog_21_method_2_code 1 = .ok (.aload_n 0, 1)) rfl (lv_at hl 0 rfl) ?_
  refine va_tlen (v := nI (sLen.getD i 0)) hx hb (hP.2.2.1 i hi).2.2.2 vaS_self rfl (by decide +kernel : decode prog_21_method_2_code 2 = .ok (.arraylength, 1)) ?_
  refine callPS (na := 2) (As := [.int (nI k), .int (nI (sLen.getD i 0))]) (rest := []) hx hb hml hown hts (p_checkIndex l (nI_pos' (by omega)) (nI_lt hk (by omega))) StF_ok (gIn 167 (by decide +kernel) rfl) (gIn 105 (by decide +kernel) rfl) (gIn 165 (by decide +kernel) rfl) (gIn 166 (by decide +kernel) rfl) ⟨by decide +kernel, by decide +kernel, by decide +kernel⟩ rfl ⟨by decide, by decide⟩ (fun U h1 h2 => StF_ok s U h2.alike h1 hP) hl.1 (Nat.le_of_ble_eq_true rfl) (by decide +kernel : decode prog_21_method_2_code 3 = .ok (.invokestatic 9, 3)) ⟨Nat.le_refl _, Nat.le_refl _⟩ ?_
  refine lv_aload_n hx hb (by decide +kernel : decode prog_21_method_2_code 6 = .ok (.aload_n 0, 1)) rfl (lv_at hl 0 rfl) ?_
  refine lv_iload_n hx hb (by decide +kernel : decode prog_21_method_2_code 7 = .ok (.iload_n 1, 1)) rfl (lv_at hl 1 rfl) ?_
  refine va_tb (v := .int (sCh i k)) hx hb (hP.2.2.1 i hi).2.2.2 vaS_self (vp_in_nI hk (by omega)) (by rw [nI_clamp (by omega)]; rfl) (by decide +kernel : decode prog_21_method_2_code 8 = .ok (.baload, 1)) ?_
  refine lv_sipush (v := 255) hx hb (by decide +kernel : decode prog_21_method_2_code 9 = .ok (.sipush 255, 3)) (by decide) ?_
  refine lv_iand hx hb (by decide +kernel : decode prog_21_method_2_code 12 = .ok (.iand, 1)) ?_
  refine lv_i2c (v := sCh i k) hx hb (by decide +kernel : decode prog_21_method_2_code 13 = .ok (.i2c, 1)) s1 ?_
  exact pm_zret hx hb hr s2 hlk (by decide +kernel)
theorem p_charAt (l : Launch) {adK adV : Nat → Nat} {A : Nat → Prop} {i k : Nat} (hi : i < 2) (hk : k < sLen.getD i 0) : PM l yChr prog_20_method_56_code 2 (some .char) 3 [.ref (adK i), .int (nI k)] (fun U => StF adK adV A U U.heap) (some (.int (sCh i k))) := by
  obtain ⟨s1, s2, s3⟩ := sCh_ok i hi k hk
  refine pm_of (by decide +kernel) (Nat.le_of_ble_eq_true rfl) ?_
  intro p e s m below meth c ls hx hb hr hml hown hts hlk hl hP
  refine lv_aload_n hx hb (by decide +kernel : decode prog_20_method_56_code 0 = .ok (.aload_n 0, 1)) rfl (lv_at hl 0 rfl) ?_
  refine callPV (na := 0) (As := []) (rest := []) hx hb hml hown hts (p_isLatin1 l hi) StF_ok (gIn 161 (by decide +kernel) rfl) (gIn 105 (by decide +kernel) rfl) (gIn 158 (by decide +kernel) rfl) (gIn 159 (by decide +kernel) rfl) (gIn 160 (by decide +kernel) rfl) ⟨by decide +kernel, by decide +kernel, by decide +kernel⟩ rfl ⟨by decide, by decide⟩ (vk_recv hP.2.2 hi vaS_self) (fun U h1 h2 => StF_ok s U h2.alike h1 hP) hl.1 (Nat.le_of_ble_eq_true rfl) (by decide +kernel : decode prog_20_method_56_code 1 = .ok (.invokevirtual 492, 3)) ⟨Nat.le_refl _, Nat.le_refl _⟩ ?_
  refine lv_if_eq (tgt := 16) hx hb (by decide +kernel : decode prog_20_method_56_code 4 = .ok (.ifCond .eq 12, 3)) (by decide) (fun q => absurd q (by decide)) (fun _ => ?_)
  refine lv_aload_n hx hb (by decide +kernel : decode prog_20_method_56_code 7 = .ok (.aload_n 0, 1)) rfl (lv_at hl 0 rfl) ?_
  refine vk_getf hx hb (hP.2.2.1 i hi).2.2.1 vaS_self hown (hts (.fieldLink "java/lang/String" 9 "java/lang/String" "value" "[B") (gIn 2088 (by decide +kernel) rfl)) (fun _ h => h) (by decide +kernel : decode prog_20_method_56_code 8 = .ok (.getfield 9, 3)) ?_
  refine lv_iload_n hx hb (by decide +kernel : decode prog_20_method_56_code 11 = .ok (.iload_n 1, 1)) rfl (lv_at hl 1 rfl) ?_
  refine callPS (na := 2) (As := [.ref (adV i), .int (nI k)]) (rest := []) hx hb hml hown hts (p_charAtL l hi hk) StF_ok (gIn 164 (by decide +kernel) rfl) (gIn 106 (by decide +kernel) rfl) (gIn 162 (by decide +kernel) rfl) (gIn 163 (by decide +kernel) rfl) ⟨by decide +kernel, by decide +kernel, by decide +kernel⟩ rfl ⟨by decide, by decide⟩ (fun U h1 h2 => StF_ok s U h2.alike h1 hP) hl.1 (Nat.le_of_ble_eq_true rfl) (by decide +kernel : decode prog_20_method_56_code 12 = .ok (.invokestatic 495, 3)) ⟨Nat.le_refl _, Nat.le_refl _⟩ ?_
  exact pm_zret hx hb hr s2 hlk (by decide +kernel)
/-- the place of c among the signs -/
def sIx (c : Nat) (v : Int32) : Prop := (∀ j : Nat, j < 8 → sCh 1 j = nI c → (∀ q : Nat, q < j → sCh 1 q ≠ nI c) → v = nI j) ∧ ((∀ j : Nat, j < 8 → sCh 1 j ≠ nI c) → v = -1)
theorem p_indexOfChar (l : Launch) {adK adV : Nat → Nat} {A : Nat → Prop} {c0 : Nat} {v : Int32} (hc : c0 < 128) (hv : sIx c0 v) : PM l yLIc prog_21_method_23_code 6 (some .int) 0 [.ref (adV 1), .int (nI c0), .int 0, .int (nI 8)] (fun U => StF adK adV A U U.heap) (some (.int v)) := by
  refine pm_of (by decide +kernel) (Nat.le_of_ble_eq_true rfl) ?_
  intro p e s m below meth c ls hx hb hr hml hown hts hlk hl hP
  have eb : (nI c0).toInt8.toInt32 = nI c0 := (by decide +kernel : ∀ c0 : Nat, c0 < 128 → (nI c0).toInt8.toInt32 = nI c0) c0 hc
  have hT := (hP.2.2.1 1 (by decide)).2.2.2
  have loop : ∀ (n k : Nat) (ls : Array Slot), k + n = 8 → lv_has ls 6 [(5, .int (nI k)), (4, .int (nI c0)), (0, .ref (adV 1)), (3, .int (nI 8))] → (∀ q : Nat, q < k → sCh 1 q ≠ nI c0) → W p l e (rmQ 0) s m ([.ref (adV 1), .int (nI c0), .int 0, .int (nI 8)] : List Value).toArray below meth c s.heap [] 0 0 (MQ below (Pur (some (.int v))) ([.ref (adV 1), .int (nI c0), .int 0, .int (nI 8)] : List Value).toArray s 0 0 (fun _ => False)) (F0 m 7 ls []) := by
    intro n
    induction n with
    | zero =>
      intro k ls hk hl hno
      have hk8 : k = 8 := by omega
      subst hk8
      refine lv_iload hx hb (by decide +kernel : decode prog_21_method_23_code 7 = .ok (.iload 5, 2)) (lv_at hl 0 rfl) ?_
      refine lv_iload_n hx hb (by decide +kernel : decode prog_21_method_23_code 9 = .ok (.iload_n 3, 1)) rfl (lv_at hl 3 rfl) ?_
      refine lv_icmp_ge (tgt := 31) hx hb (by decide +kernel : decode prog_21_method_23_code 10 = .ok (.if_icmp .ge 21, 3)) (by decide) (fun _ => ?_) (fun q => absurd (by decide) q)
      refine lv_iconst (v := -1) hx hb (by decide +kernel : decode prog_21_method_23_code 31 = .ok (.iconst (-1), 1)) (by decide) ?_
      rw [hv.2 hno]
      exact pm_iret hx hb hr hlk (by decide +kernel)
    | succ n ih =>
      intro k ls hk hl hno
      refine lv_iload hx hb (by decide +kernel : decode prog_21_method_23_code 7 = .ok (.iload 5, 2)) (lv_at hl 0 rfl) ?_
      refine lv_iload_n hx hb (by decide +kernel : decode prog_21_method_23_code 9 = .ok (.iload_n 3, 1)) rfl (lv_at hl 3 rfl) ?_
      refine lv_icmp_ge (tgt := 31) hx hb (by decide +kernel : decode prog_21_method_23_code 10 = .ok (.if_icmp .ge 21, 3)) (by decide) (fun q => absurd q (nI_ge (by omega) (by decide))) (fun _ => ?_)
      refine lv_aload_n hx hb (by decide +kernel : decode prog_21_method_23_code 13 = .ok (.aload_n 0, 1)) rfl (lv_at hl 2 rfl) ?_
      refine lv_iload hx hb (by decide +kernel : decode prog_21_method_23_code 14 = .ok (.iload 5, 2)) (lv_at hl 0 rfl) ?_
      refine va_tb (v := .int (sCh 1 k)) hx hb hT vaS_self (vp_in_nI (by show k < 8; omega) (by decide)) (by rw [nI_clamp (by omega)]; rfl) (by decide +kernel : decode prog_21_method_23_code 16 = .ok (.baload, 1)) ?_
      refine lv_iload hx hb (by decide +kernel : decode prog_21_method_23_code 17 = .ok (.iload 4, 2)) (lv_at hl 1 rfl) ?_
      refine lv_icmp_ne (tgt := 25) hx hb (by decide +kernel : decode prog_21_method_23_code 19 = .ok (.if_icmp .ne 6, 3)) (by decide) (fun q => ?_) (fun q => ?_)
      · refine lv_iinc (v := nI (k + 1)) (lv' := [(5, .int (nI (k + 1))), (4, .int (nI c0)), (0, .ref (adV 1)), (3, .int (nI 8))]) hx hb (by decide +kernel : decode prog_21_method_23_code 25 = .ok (.iinc 5 1, 3)) hl (k := 0) rfl (by rw [nI_succ]; rfl) (by decide) rfl (fun ls hl => ?_)
        refine lv_goto (tgt := 7) hx hb (by decide +kernel : decode prog_21_method_23_code 28 = .ok (.goto (-21), 3)) (by decide) ?_
        exact ih (k + 1) ls (by omega) hl (fun j hj => by
          rcases (by omega : j < k ∨ j = k) with y | y
          · exact hno j y
          · subst y; exact q)
      · refine lv_iload hx hb (by decide +kernel : decode prog_21_method_23_code 22 = .ok (.iload 5, 2)) (lv_at hl 0 rfl) ?_
        rw [hv.1 k (by omega) q hno]
        exact pm_iret hx hb hr hlk (by decide +kernel)
  refine lv_iload_n hx hb (by decide +kernel : decode prog_21_method_23_code 0 = .ok (.iload_n 1, 1)) rfl (lv_at hl 1 rfl) ?_
  refine lv_i2b (v := nI c0) hx hb (by decide +kernel : decode prog_21_method_23_code 1 = .ok (.i2b, 1)) eb ?_
  refine lv_istore (lv' := [(4, .int (nI c0)), (0, .ref (adV 1)), (1, .int (nI c0)), (2, .int 0), (3, .int (nI 8))]) hx hb (by decide +kernel : decode prog_21_method_23_code 2 = .ok (.istore 4, 2)) hl (by decide) rfl (fun ls hl => ?_)
  refine lv_iload_n hx hb (by decide +kernel : decode prog_21_method_23_code 4 = .ok (.iload_n 2, 1)) rfl (lv_at hl 3 rfl) ?_
  refine lv_istore (lv' := [(5, .int 0), (4, .int (nI c0)), (0, .ref (adV 1)), (1, .int (nI c0)), (2, .int 0), (3, .int (nI 8))]) hx hb (by decide +kernel : decode prog_21_method_23_code 5 = .ok (.istore 5, 2)) hl (by decide) rfl (fun ls hl => ?_)
  exact loop 8 0 ls rfl (lv_sub hl [0, 1, 2, 5] rfl) (fun q hq => absurd hq (Nat.not_lt_zero q))
