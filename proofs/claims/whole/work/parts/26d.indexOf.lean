/-! ===== indexOf of the signs ===== -/
theorem p_indexOfL (l : Launch) {adK adV : Nat → Nat} {A : Nat → Prop} {c0 : Nat} {v : Int32} (hc : c0 < 128) (hv : sIx c0 v) : PM l yLIx prog_21_method_22_code 4 (some .int) 1 [.ref (adV 1), .int (nI c0), .int 0, .int (nI 8)] (fun U => StF adK adV A U U.heap) (some (.int v)) := by
  refine pm_of (by decide +kernel) (Nat.le_of_ble_eq_true rfl) ?_
  intro p e s m below meth c ls hx hb hr hml hown hts hlk hl hP
  have hT := (hP.2.2.1 1 (by decide)).2.2.2
  refine lv_iload_n hx hb (by decide +kernel : decode prog_21_method_22_code 0 = .ok (.iload_n 1, 1)) rfl (lv_at hl 1 rfl) ?_
  refine callPS (na := 1) (As := [.int (nI c0)]) (rest := []) hx hb hml hown hts (p_canEncode l (nI_pos' (by omega)) (by show nI c0 ≤ nI 255; exact nI_le (by omega) (by decide))) tru_ok (gIn 220 (by decide +kernel) rfl) (gIn 106 (by decide +kernel) rfl) (gIn 218 (by decide +kernel) rfl) (gIn 219 (by decide +kernel) rfl) ⟨by decide +kernel, by decide +kernel, by decide +kernel⟩ rfl ⟨by decide, by decide⟩ (fun _ _ _ => trivial) hl.1 (Nat.le_of_ble_eq_true rfl) (by decide +kernel : decode prog_21_method_22_code 1 = .ok (.invokestatic 88, 3)) ⟨Nat.le_refl _, Nat.le_refl _⟩ ?_
  refine lv_if_ne (tgt := 9) hx hb (by decide +kernel : decode prog_21_method_22_code 4 = .ok (.ifCond .ne 5, 3)) (by decide) (fun _ => ?_) (fun q => absurd q (by decide))
  refine lv_iload_n hx hb (by decide +kernel : decode prog_21_method_22_code 9 = .ok (.iload_n 2, 1)) rfl (lv_at hl 2 rfl) ?_
  refine lv_iconst (v := 0) hx hb (by decide +kernel : decode prog_21_method_22_code 10 = .ok (.iconst 0, 1)) (by decide) ?_
  refine va_mmax hx hb (by rw [hml]; exact hl.1.symm) hown (hts _ (gIn 221 (by decide +kernel) rfl)) (hts _ w_mxS) (hts _ w_maI) (hts _ w_mxC) (by decide) (by decide) (Nat.le_refl _) (Nat.le_refl _) (x := 0) (y := 0) (by decide +kernel : decode prog_21_method_22_code 11 = .ok (.invokestatic 92, 3)) ?_
  rw [show (if (0 : Int32) < 0 then (0 : Int32) else 0) = 0 from rfl]
  refine lv_istore_n (lv' := [(2, .int 0), (0, .ref (adV 1)), (1, .int (nI c0)), (3, .int (nI 8))]) hx hb (by decide +kernel : decode prog_21_method_22_code 14 = .ok (.istore_n 2, 1)) rfl hl (by decide) rfl (fun ls hl => ?_)
  refine lv_iload_n hx hb (by decide +kernel : decode prog_21_method_22_code 15 = .ok (.iload_n 3, 1)) rfl (lv_at hl 3 rfl) ?_
  refine lv_aload_n hx hb (by decide +kernel : decode prog_21_method_22_code 16 = .ok (.aload_n 0, 1)) rfl (lv_at hl 1 rfl) ?_
  refine va_tlen (v := nI 8) hx hb hT vaS_self rfl (by decide +kernel : decode prog_21_method_22_code 17 = .ok (.arraylength, 1)) ?_
  refine va_mmin hx hb (by rw [hml]; exact hl.1.symm) hown (hts _ (gIn 224 (by decide +kernel) rfl)) (hts _ w_mnS) (hts _ w_maI) (hts _ w_mnC) (by decide) (by decide) (Nat.le_refl _) (Nat.le_refl _) (x := nI 8) (y := nI 8) (by decide +kernel : decode prog_21_method_22_code 18 = .ok (.invokestatic 38, 3)) ?_
  rw [show (if nI 8 < nI 8 then nI 8 else nI 8) = nI 8 from ite_self _]
  refine lv_istore_n (lv' := [(3, .int (nI 8)), (2, .int 0), (0, .ref (adV 1)), (1, .int (nI c0))]) hx hb (by decide +kernel : decode prog_21_method_22_code 21 = .ok (.istore_n 3, 1)) rfl hl (by decide) rfl (fun ls hl => ?_)
  refine lv_iload_n hx hb (by decide +kernel : decode prog_21_method_22_code 22 = .ok (.iload_n 2, 1)) rfl (lv_at hl 1 rfl) ?_
  refine lv_iload_n hx hb (by decide +kernel : decode prog_21_method_22_code 23 = .ok (.iload_n 3, 1)) rfl (lv_at hl 0 rfl) ?_
  refine lv_icmp_lt (tgt := 29) hx hb (by decide +kernel : decode prog_21_method_22_code 24 = .ok (.if_icmp .lt 5, 3)) (by decide) (fun _ => ?_) (fun q => absurd (by decide) q)
  refine lv_aload_n hx hb (by decide +kernel : decode prog_21_method_22_code 29 = .ok (.aload_n 0, 1)) rfl (lv_at hl 2 rfl) ?_
  refine lv_iload_n hx hb (by decide +kernel : decode prog_21_method_22_code 30 = .ok (.iload_n 1, 1)) rfl (lv_at hl 3 rfl) ?_
  refine lv_iload_n hx hb (by decide +kernel : decode prog_21_method_22_code 31 = .ok (.iload_n 2, 1)) rfl (lv_at hl 1 rfl) ?_
  refine lv_iload_n hx hb (by decide +kernel : decode prog_21_method_22_code 32 = .ok (.iload_n 3, 1)) rfl (lv_at hl 0 rfl) ?_
  refine callPS (na := 4) (As := [.ref (adV 1), .int (nI c0), .int 0, .int (nI 8)]) (rest := []) hx hb hml hown hts (p_indexOfChar l hc hv) StF_ok (gIn 229 (by decide +kernel) rfl) (gIn 106 (by decide +kernel) rfl) (gIn 227 (by decide +kernel) rfl) (gIn 228 (by decide +kernel) rfl) ⟨by decide +kernel, by decide +kernel, by decide +kernel⟩ rfl ⟨by decide, by decide⟩ (fun U h1 h2 => StF_ok s U h2.alike h1 hP) hl.1 (Nat.le_of_ble_eq_true rfl) (by decide +kernel : decode prog_21_method_22_code 33 = .ok (.invokestatic 95, 3)) ⟨Nat.le_refl _, Nat.le_refl _⟩ ?_
  exact pm_iret hx hb hr hlk (by decide +kernel)
theorem p_indexOf2 (l : Launch) {adK adV : Nat → Nat} {A : Nat → Prop} {c0 : Nat} {v : Int32} (hc : c0 < 128) (hv : sIx c0 v) : PM l yIx2 prog_20_method_80_code 3 (some .int) 2 [.ref (adK 1), .int (nI c0), .int 0] (fun U => StF adK adV A U U.heap) (some (.int v)) := by
  refine pm_of (by decide +kernel) (Nat.le_of_ble_eq_true rfl) ?_
  intro p e s m below meth c ls hx hb hr hml hown hts hlk hl hP
  refine lv_aload_n hx hb (by decide +kernel : decode prog_20_method_80_code 0 = .ok (.aload_n 0, 1)) rfl (lv_at hl 0 rfl) ?_
  refine callPV (na := 0) (As := []) (rest := []) hx hb hml hown hts (p_isLatin1 l (by decide : 1 < 2)) StF_ok (gIn 161 (by decide +kernel) rfl) (gIn 105 (by decide +kernel) rfl) (gIn 158 (by decide +kernel) rfl) (gIn 159 (by decide +kernel) rfl) (gIn 160 (by decide +kernel) rfl) ⟨by decide +kernel, by decide +kernel, by decide +kernel⟩ rfl ⟨by decide, by decide⟩ (vk_recv hP.2.2 (by decide : 1 < 2) vaS_self) (fun U h1 h2 => StF_ok s U h2.alike h1 hP) hl.1 (Nat.le_of_ble_eq_true rfl) (by decide +kernel : decode prog_20_method_80_code 1 = .ok (.invokevirtual 492, 3)) ⟨Nat.le_refl _, Nat.le_refl _⟩ ?_
  refine lv_if_eq (tgt := 23) hx hb (by decide +kernel : decode prog_20_method_80_code 4 = .ok (.ifCond .eq 19, 3)) (by decide) (fun q => absurd q (by decide)) (fun _ => ?_)
  refine lv_aload_n hx hb (by decide +kernel : decode prog_20_method_80_code 7 = .ok (.aload_n 0, 1)) rfl (lv_at hl 0 rfl) ?_
  refine vk_getf hx hb (hP.2.2.1 1 (by decide)).2.2.1 vaS_self hown (hts (.fieldLink "java/lang/String" 9 "java/lang/String" "value" "[B") (gIn 2088 (by decide +kernel) rfl)) (fun _ h => h) (by decide +kernel : decode prog_20_method_80_code 8 = .ok (.getfield 9, 3)) ?_
  refine lv_iload_n hx hb (by decide +kernel : decode prog_20_method_80_code 11 = .ok (.iload_n 1, 1)) rfl (lv_at hl 1 rfl) ?_
  refine lv_iload_n hx hb (by decide +kernel : decode prog_20_method_80_code 12 = .ok (.iload_n 2, 1)) rfl (lv_at hl 2 rfl) ?_
  refine lv_aload_n hx hb (by decide +kernel : decode prog_20_method_80_code 13 = .ok (.aload_n 0, 1)) rfl (lv_at hl 0 rfl) ?_
  refine callPV (na := 0) (As := []) (rest := [.int 0, .int (nI c0), .ref (adV 1)]) hx hb hml hown hts (p_length l (by decide : 1 < 2)) StF_ok (gIn 147 (by decide +kernel) rfl) (gIn 105 (by decide +kernel) rfl) (gIn 214 (by decide +kernel) rfl) (gIn 145 (by decide +kernel) rfl) (gIn 146 (by decide +kernel) rfl) ⟨by decide +kernel, by decide +kernel, by decide +kernel⟩ rfl ⟨by decide, by decide⟩ (vk_recv hP.2.2 (by decide : 1 < 2) vaS_self) (fun U h1 h2 => StF_ok s U h2.alike h1 hP) hl.1 (Nat.le_of_ble_eq_true rfl) (by decide +kernel : decode prog_20_method_80_code 14 = .ok (.invokevirtual 505, 3)) ⟨Nat.le_refl _, Nat.le_refl _⟩ ?_
  refine callPS (na := 4) (As := [.ref (adV 1), .int (nI c0), .int 0, .int (nI 8)]) (rest := []) hx hb hml hown hts (p_indexOfL l hc hv) StF_ok (gIn 217 (by decide +kernel) rfl) (gIn 106 (by decide +kernel) rfl) (gIn 215 (by decide +kernel) rfl) (gIn 216 (by decide +kernel) rfl) ⟨by decide +kernel, by decide +kernel, by decide +kernel⟩ rfl ⟨by decide, by decide⟩ (fun U h1 h2 => StF_ok s U h2.alike h1 hP) hl.1 (Nat.le_of_ble_eq_true rfl) (by decide +kernel : decode prog_20_method_80_code 17 = .ok (.invokestatic 637, 3)) ⟨Nat.le_refl _, Nat.le_refl _⟩ ?_
  refine lv_goto (tgt := 36) hx hb (by decide +kernel : decode prog_20_method_80_code 20 = .ok (.goto 16, 3)) (by decide) ?_
  exact pm_iret hx hb hr hlk (by decide +kernel)
theorem p_indexOf1 (l : Launch) {adK adV : Nat → Nat} {A : Nat → Prop} {c0 : Nat} {v : Int32} (hc : c0 < 128) (hv : sIx c0 v) : PM l yIx1 prog_20_method_79_code 2 (some .int) 3 [.ref (adK 1), .int (nI c0)] (fun U => StF adK adV A U U.heap) (some (.int v)) := by
  refine pm_of (by decide +kernel) (Nat.le_of_ble_eq_true rfl) ?_
  intro p e s m below meth c ls hx hb hr hml hown hts hlk hl hP
  refine lv_aload_n hx hb (by decide +kernel : decode prog_20_method_79_code 0 = .ok (.aload_n 0, 1)) rfl (lv_at hl 0 rfl) ?_
  refine lv_iload_n hx hb (by decide +kernel : decode prog_20_method_79_code 1 = .ok (.iload_n 1, 1)) rfl (lv_at hl 1 rfl) ?_
  refine lv_iconst (v := 0) hx hb (by decide +kernel : decode prog_20_method_79_code 2 = .ok (.iconst 0, 1)) (by decide) ?_
  refine callPV (na := 2) (As := [.int (nI c0), .int 0]) (rest := []) hx hb hml hown hts (p_indexOf2 l hc hv) StF_ok (gIn 213 (by decide +kernel) rfl) (gIn 105 (by decide +kernel) rfl) (gIn 210 (by decide +kernel) rfl) (gIn 211 (by decide +kernel) rfl) (gIn 212 (by decide +kernel) rfl) ⟨by decide +kernel, by decide +kernel, by decide +kernel⟩ rfl ⟨by decide, by decide⟩ (vk_recv hP.2.2 (by decide : 1 < 2) vaS_self) (fun U h1 h2 => StF_ok s U h2.alike h1 hP) hl.1 (Nat.le_of_ble_eq_true rfl) (by decide +kernel : decode prog_20_method_79_code 3 = .ok (.invokevirtual 633, 3)) ⟨Nat.le_refl _, Nat.le_refl _⟩ ?_
  exact pm_iret hx hb hr hlk (by decide +kernel)
theorem ixS_ok : ∀ c : Nat, c < 128 → sIx c (Int32.ofInt (ixS c)) := by
  intro c hc
  have h : ∀ c : Nat, c < 128 → (∀ j : Nat, j < 8 → sCh 1 j = nI c → (∀ q : Nat, q < j → sCh 1 q ≠ nI c) → Int32.ofInt (ixS c) = nI j) ∧ ((∀ j : Nat, j < 8 → sCh 1 j ≠ nI c) → Int32.ofInt (ixS c) = -1) := by decide +kernel
  exact h c hc
theorem kwA_ok : ∀ k : Nat, k < 104 → Int32.ofInt (kwA k) = sCh 0 k := by decide +kernel
