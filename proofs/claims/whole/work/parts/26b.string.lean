/-! ===== the JDK's String methods, over the two String constants ===== -/
def sLen : List Nat := [104, 8]
def sByt : List (List Int32) := [[104, 111, 117, 115, 101, 32, 101, 118, 101, 110, 116, 32, 115, 104, 97, 114, 101, 32, 108, 97, 121, 101, 114, 32, 104, 111, 117, 114, 115, 32, 109, 105, 108, 101, 115, 32, 111, 102, 32, 111, 119, 110, 32, 119, 104, 101, 110, 32, 111, 118, 101, 114, 32, 97, 103, 97, 105, 110, 32, 97, 116, 32, 116, 111, 32, 97, 110, 100, 32, 111, 114, 32, 110, 111, 116, 32, 99, 97, 117, 115, 101, 32, 100, 97, 121, 32, 108, 111, 115, 115, 101, 115, 32, 100, 105, 114, 101, 99, 116, 32, 104, 105, 116, 32], [40, 41, 60, 61, 43, 45, 58, 59]]
def yLen : MethodName := ⟨"java/lang/String", "length", "()I"⟩
def yCod : MethodName := ⟨"java/lang/String", "coder", "()B"⟩
def yLat : MethodName := ⟨"java/lang/String", "isLatin1", "()Z"⟩
def yChr : MethodName := ⟨"java/lang/String", "charAt", "(I)C"⟩
def yChk : MethodName := ⟨"java/lang/String", "checkIndex", "(II)V"⟩
def yIx1 : MethodName := ⟨"java/lang/String", "indexOf", "(I)I"⟩
def yIx2 : MethodName := ⟨"java/lang/String", "indexOf", "(II)I"⟩
def yLCh : MethodName := ⟨"java/lang/StringLatin1", "charAt", "([BI)C"⟩
def yLIx : MethodName := ⟨"java/lang/StringLatin1", "indexOf", "([BIII)I"⟩
def yLIc : MethodName := ⟨"java/lang/StringLatin1", "indexOfChar", "([BIII)I"⟩
def yEnc : MethodName := ⟨"java/lang/StringLatin1", "canEncode", "(I)Z"⟩
def yPre : MethodName := ⟨"jdk/internal/util/Preconditions", "checkIndex", "(IILjava/util/function/BiFunction;)I"⟩
/-- what is known of the two Strings, and of two statics -/
def StF (adK adV : Nat → Nat) (A : Nat → Prop) (U : State) (H : Heap) : Prop := va_Z "java/lang/String" "COMPACT_STRINGS" "Z" (.int 1) A U H ∧ va_Zq "jdk/internal/util/Preconditions" "SIOOBE_FORMATTER" "Ljava/util/function/BiFunction;" A U H ∧ vk_S 2 sLen sByt adK adV A U H
theorem StF_ok {adK adV : Nat → Nat} {A : Nat → Prop} : PreOk (fun U => StF adK adV A U U.heap) := fun u U hA hH h => by
  obtain ⟨h1, h2, h3⟩ := h
  show StF adK adV A U U.heap
  rw [hH]
  exact ⟨va_Z.moved hA h1, va_Zq.moved hA h2, vk_S.moved hA h3⟩
theorem vaS_self {A : Nat → Prop} {H : Heap} : va_S A H H [] := ⟨Nat.le_refl _, fun _ _ _ => rfl, fun q hq => by cases hq⟩
theorem tru_ok : PreOk (fun _ => True) := fun _ _ _ _ _ => trivial
theorem p_canEncode (l : Launch) {x : Int32} (h0 : 0 ≤ x) (h1 : x ≤ 255) : PM l yEnc prog_21_method_4_code 1 (some .boolean) 0 [.int x] (fun _ => True) (some (.int 1)) := by
  refine pm_of (by decide +kernel) (Nat.le_of_ble_eq_true rfl) ?_
  intro p e s m below meth c ls hx hb hr hml hown hts hlk hl hP
  refine lv_iload_n hx hb (by decide +kernel : decode prog_21_method_4_code 0 = .ok (.iload_n 0, 1)) rfl (lv_at hl 0 rfl) ?_
  refine lv_if_lt (tgt := 15) hx hb (by decide +kernel : decode prog_21_method_4_code 1 = .ok (.ifCond .lt 14, 3)) (by decide) (fun q => absurd q (Int32.not_lt.mpr h0)) (fun _ => ?_)
  refine lv_iload_n hx hb (by decide +kernel : decode prog_21_method_4_code 4 = .ok (.iload_n 0, 1)) rfl (lv_at hl 0 rfl) ?_
  refine lv_sipush (v := 255) hx hb (by decide +kernel : decode prog_21_method_4_code 5 = .ok (.sipush 255, 3)) (by decide) ?_
  refine lv_icmp_gt (tgt := 15) hx hb (by decide +kernel : decode prog_21_method_4_code 8 = .ok (.if_icmp .gt 7, 3)) (by decide) (fun q => absurd q (Int32.not_lt.mpr h1)) (fun _ => ?_)
  refine lv_iconst (v := 1) hx hb (by decide +kernel : decode prog_21_method_4_code 11 = .ok (.iconst 1, 1)) (by decide) ?_
  refine lv_goto (tgt := 16) hx hb (by decide +kernel : decode prog_21_method_4_code 12 = .ok (.goto 4, 3)) (by decide) ?_
  exact pm_zret hx hb hr rfl hlk (by decide +kernel)
theorem p_preCheck (l : Launch) {x n : Int32} {f : Value} (hf : f.category = 1) (hf2 : f = .null ∨ ∃ t, f = .ref t) (h0 : 0 ≤ x) (h1 : x < n) : PM l yPre prog_27_method_11_code 3 (some .int) 0 [.int x, .int n, f] (fun _ => True) (some (.int x)) := by
  refine pm_of (by decide +kernel) (by rcases hf2 with rfl | ⟨t, rfl⟩ <;> exact Nat.le_refl 3) ?_
  intro p e s m below meth c ls hx hb hr hml hown hts hlk hl hP
  have hl2 : lv_has ls 3 [(0, .int x), (1, .int n)] := by rcases hf2 with rfl | ⟨t, rfl⟩ <;> exact lv_sub hl [0, 1] rfl
  refine lv_iload_n hx hb (by decide +kernel : decode prog_27_method_11_code 0 = .ok (.iload_n 0, 1)) rfl (lv_at hl2 0 rfl) ?_
  refine lv_if_lt (tgt := 9) hx hb (by decide +kernel : decode prog_27_method_11_code 1 = .ok (.ifCond .lt 8, 3)) (by decide) (fun q => absurd q (Int32.not_lt.mpr h0)) (fun _ => ?_)
  refine lv_iload_n hx hb (by decide +kernel : decode prog_27_method_11_code 4 = .ok (.iload_n 0, 1)) rfl (lv_at hl2 0 rfl) ?_
  refine lv_iload_n hx hb (by decide +kernel : decode prog_27_method_11_code 5 = .ok (.iload_n 1, 1)) rfl (lv_at hl2 1 rfl) ?_
  refine lv_icmp_lt (tgt := 16) hx hb (by decide +kernel : decode prog_27_method_11_code 6 = .ok (.if_icmp .lt 10, 3)) (by decide) (fun _ => ?_) (fun q => absurd h1 q)
  refine lv_iload_n hx hb (by decide +kernel : decode prog_27_method_11_code 16 = .ok (.iload_n 0, 1)) rfl (lv_at hl2 0 rfl) ?_
  exact pm_iret hx hb hr hlk (by decide +kernel)
theorem p_checkIndex (l : Launch) {adK adV : Nat → Nat} {A : Nat → Prop} {x n : Int32} (h0 : 0 ≤ x) (h1 : x < n) : PM l yChk prog_20_method_155_code 2 none 1 [.int x, .int n] (fun U => StF adK adV A U U.heap) none := by
  refine pm_of (by decide +kernel) (Nat.le_of_ble_eq_true rfl) ?_
  intro p e s m below meth c ls hx hb hr hml hown hts hlk hl hP
  have go : ∀ f : Value, (f = .null ∨ ∃ t, f = .ref t) → va_Z "jdk/internal/util/Preconditions" "SIOOBE_FORMATTER" "Ljava/util/function/BiFunction;" f A s s.heap → W p l e (rmQ 1) s m ([.int x, .int n] : List Value).toArray below meth c s.heap [] 0 0 (MQ below (Pur none) ([.int x, .int n] : List Value).toArray s 0 0 (fun _ => False)) (F0 m 0 ls []) := by
    intro f hf hZ
    have hc1 : f.category = 1 := by rcases hf with rfl | ⟨t, rfl⟩ <;> rfl
    refine lv_iload_n hx hb (by decide +kernel : decode prog_20_method_155_code 0 = .ok (.iload_n 0, 1)) rfl (lv_at hl 0 rfl) ?_
    refine lv_iload_n hx hb (by decide +kernel : decode prog_20_method_155_code 1 = .ok (.iload_n 1, 1)) rfl (lv_at hl 1 rfl) ?_
    refine va_gets hx hb hZ vaS_self hown (hts (.fieldLink "java/lang/String" 1053 "jdk/internal/util/Preconditions" "SIOOBE_FORMATTER" "Ljava/util/function/BiFunction;") (gIn 168 (by decide +kernel) rfl)) (fun _ h => h) (by decide +kernel : decode prog_20_method_155_code 2 = .ok (.getstatic 1053, 3)) ?_
    refine callPS (na := 3) (As := [.int x, .int n, f]) (rest := []) hx hb hml hown hts (p_preCheck l hc1 hf h0 h1) tru_ok (gIn 172 (by decide +kernel) rfl) (gIn 107 (by decide +kernel) rfl) (gIn 170 (by decide +kernel) rfl) (gIn 171 (by decide +kernel) rfl) ⟨by decide +kernel, by decide +kernel, by decide +kernel⟩ rfl ⟨by decide, by decide⟩ (fun _ _ _ => trivial) hl.1 (Nat.le_of_ble_eq_true rfl) (by decide +kernel : decode prog_20_method_155_code 5 = .ok (.invokestatic 1059, 3)) ⟨Nat.le_refl _, Nat.le_refl _⟩ ?_
    refine lv_pop hx hb (by decide +kernel : decode prog_20_method_155_code 8 = .ok (.pop, 1)) rfl ?_
    exact pm_vret hx hb hr hlk (by decide +kernel)
  rcases hP.2.1 with h | ⟨t, h⟩
  · exact go .null (Or.inl rfl) h
  · exact go (.ref t) (Or.inr ⟨t, rfl⟩) h
theorem p_coder (l : Launch) {adK adV : Nat → Nat} {A : Nat → Prop} {i : Nat} (hi : i < 2) : PM l yCod prog_20_method_152_code 1 (some .byte) 0 [.ref (adK i)] (fun U => StF adK adV A U U.heap) (some (.int 0)) := by
  refine pm_of (by decide +kernel) (Nat.le_of_ble_eq_true rfl) ?_
  intro p e s m below meth c ls hx hb hr hml hown hts hlk hl hP
  refine va_gets hx hb hP.1 vaS_self hown (hts (.fieldLink "java/lang/String" 38 "java/lang/String" "COMPACT_STRINGS" "Z") (gIn 152 (by decide +kernel) rfl)) (fun _ h => h) (by decide +kernel : decode prog_20_method_152_code 0 = .ok (.getstatic 38, 3)) ?_
  refine lv_if_eq (tgt := 13) hx hb (by decide +kernel : decode prog_20_method_152_code 3 = .ok (.ifCond .eq 10, 3)) (by decide) (fun q => absurd q (by decide)) (fun _ => ?_)
  refine lv_aload_n hx hb (by decide +kernel : decode prog_20_method_152_code 6 = .ok (.aload_n 0, 1)) rfl (lv_at hl 0 rfl) ?_
  refine vk_getf hx hb (hP.2.2.1 i hi).2.1 vaS_self hown (hts (.fieldLink "java/lang/String" 15 "java/lang/String" "coder" "B") (gIn 2089 (by decide +kernel) rfl)) (fun _ h => h) (by decide +kernel : decode prog_20_method_152_code 7 = .ok (.getfield 15, 3)) ?_
  refine lv_goto (tgt := 14) hx hb (by decide +kernel : decode prog_20_method_152_code 10 = .ok (.goto 4, 3)) (by decide) ?_
  exact pm_zret hx hb hr rfl hlk (by decide +kernel)
theorem p_isLatin1 (l : Launch) {adK adV : Nat → Nat} {A : Nat → Prop} {i : Nat} (hi : i < 2) : PM l yLat prog_20_method_154_code 1 (some .boolean) 0 [.ref (adK i)] (fun U => StF adK adV A U U.heap) (some (.int 1)) := by
  refine pm_of (by decide +kernel) (Nat.le_of_ble_eq_true rfl) ?_
  intro p e s m below meth c ls hx hb hr hml hown hts hlk hl hP
  refine va_gets hx hb hP.1 vaS_self hown (hts (.fieldLink "java/lang/String" 38 "java/lang/String" "COMPACT_STRINGS" "Z") (gIn 152 (by decide +kernel) rfl)) (fun _ h => h) (by decide +kernel : decode prog_20_method_154_code 0 = .ok (.getstatic 38, 3)) ?_
  refine lv_if_eq (tgt := 17) hx hb (by decide +kernel : decode prog_20_method_154_code 3 = .ok (.ifCond .eq 14, 3)) (by decide) (fun q => absurd q (by decide)) (fun _ => ?_)
  refine lv_aload_n hx hb (by decide +kernel : decode prog_20_method_154_code 6 = .ok (.aload_n 0, 1)) rfl (lv_at hl 0 rfl) ?_
  refine vk_getf hx hb (hP.2.2.1 i hi).2.1 vaS_self hown (hts (.fieldLink "java/lang/String" 15 "java/lang/String" "coder" "B") (gIn 2089 (by decide +kernel) rfl)) (fun _ h => h) (by decide +kernel : decode prog_20_method_154_code 7 = .ok (.getfield 15, 3)) ?_
  refine lv_if_ne (tgt := 17) hx hb (by decide +kernel : decode prog_20_method_154_code 10 = .ok (.ifCond .ne 7, 3)) (by decide) (fun q => absurd rfl q) (fun _ => ?_)
  refine lv_iconst (v := 1) hx hb (by decide +kernel : decode prog_20_method_154_code 13 = .ok (.iconst 1, 1)) (by decide) ?_
  refine lv_goto (tgt := 18) hx hb (by decide +kernel : decode prog_20_method_154_code 14 = .ok (.goto 4, 3)) (by decide) ?_
  exact pm_zret hx hb hr rfl hlk (by decide +kernel)
theorem p_length (l : Launch) {adK adV : Nat → Nat} {A : Nat → Prop} {i : Nat} (hi : i < 2) : PM l yLen prog_20_method_54_code 1 (some .int) 1 [.ref (adK i)] (fun U => StF adK adV A U U.heap) (some (.int (nI (sLen.getD i 0)))) := by
  refine pm_of (by decide +kernel) (Nat.le_of_ble_eq_true rfl) ?_
  intro p e s m below meth c ls hx hb hr hml hown hts hlk hl hP
  refine lv_aload_n hx hb (by decide +kernel : decode prog_20_method_54_code 0 = .ok (.aload_n 0, 1)) rfl (lv_at hl 0 rfl) ?_
  refine vk_getf hx hb (hP.2.2.1 i hi).2.2.1 vaS_self hown (hts (.fieldLink "java/lang/String" 9 "java/lang/String" "value" "[B") (gIn 2088 (by decide +kernel) rfl)) (fun _ h => h) (by decide +kernel : decode prog_20_method_54_code 1 = .ok (.getfield 9, 3)) ?_
  refine va_tlen (v := nI (sLen.getD i 0)) hx hb (hP.2.2.1 i hi).2.2.2 vaS_self rfl (by decide +kernel : decode prog_20_method_54_code 4 = .ok (.arraylength, 1)) ?_
  refine lv_aload_n hx hb (by decide +kernel : decode prog_20_method_54_code 5 = .ok (.aload_n 0, 1)) rfl (lv_at hl 0 rfl) ?_
  refine callPV (na := 0) (As := []) (rest := [.int (nI (sLen.getD i 0))]) hx hb hml hown hts (p_coder l hi) StF_ok (gIn 151 (by decide +kernel) rfl) (gIn 105 (by decide +kernel) rfl) (gIn 148 (by decide +kernel) rfl) (gIn 149 (by decide +kernel) rfl) (gIn 150 (by decide +kernel) rfl) ⟨by decide +kernel, by decide +kernel, by decide +kernel⟩ rfl ⟨by decide, by decide⟩ (vk_recv hP.2.2 hi vaS_self) (fun U h1 h2 => StF_ok s U h2.alike h1 hP) hl.1 (Nat.le_of_ble_eq_true rfl) (by decide +kernel : decode prog_20_method_54_code 6 = .ok (.invokevirtual 335, 3)) ⟨Nat.le_refl _, Nat.le_refl _⟩ ?_
  refine lv_ishr hx hb (by decide +kernel : decode prog_20_method_54_code 9 = .ok (.ishr, 1)) ?_
  have e : nI (sLen.getD i 0) >>> ((0 : Int32) &&& 31) = nI (sLen.getD i 0) := by
    rcases (by omega : i = 0 ∨ i = 1) with rfl | rfl <;> decide
  rw [e]
  exact pm_iret hx hb hr hlk (by decide +kernel)
