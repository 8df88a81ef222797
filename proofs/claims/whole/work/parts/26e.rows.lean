/-! ===== the rows of the two String constants in the tape's code ===== -/
def kwT : String := "house event share layer hours miles of own when over again at to and or not cause day losses direct hit "
def sgT : String := "()<=+-:;"
/-- what is known of the machine: where the two constants lie, and what they hold in every heap that keeps the cells up to B -/
def sE (B : Nat) (h0 : Heap) (adK adV : Nat → Nat) (vm : Vm) : Prop := ∀ U : State, U.vm = vm → (vk_R RX7 39 kwT (adK 0) U ∧ vk_R RX7 61 sgT (adK 1) U) ∧ ∀ H : Heap, (∀ q : Nat, q ≤ B → H[q]? = h0[q]?) → StF adK adV (fun q => B < q) U H
theorem sE_warm {B : Nat} {h0 : Heap} {adK adV : Nat → Nat} (s : State) (v : Vm) (hW : s.WarmedH v) (h : sE B h0 adK adV s.vm) : sE B h0 adK adV v := fun U hU => by
  subst hU
  obtain ⟨⟨h1, h2⟩, h3⟩ := h s rfl
  refine ⟨⟨vk_R.warm hW h1, vk_R.warm hW h2⟩, fun H hH => ?_⟩
  obtain ⟨a1, a2, a3⟩ := h3 H hH
  exact ⟨va_Z.moved hW.alike a1, va_Zq.moved hW.alike a2, vk_S.moved hW.alike a3⟩
def sEx (B : Nat) (h0 : Heap) (adK adV : Nat → Nat) : aEx := ⟨sE B h0 adK adV, sE_warm⟩
theorem nI_c : ∀ c : Nat, c < 128 → Int32.ofInt (c : Int) = nI c := by decide +kernel
theorem ixS_in {c : Int} : i32 (ixS c) := by
  unfold ixS
  have := sgF_in c
  split <;> exact ⟨by omega, by omega⟩
section
variable {G : aCX} {l : Launch} {adK adV : Nat → Nat}
theorem sgR_of (hG : ∀ vm, G.2.2.2.2.1 vm → sE G.1.1 G.2.2.2.1 adK adV vm) : SgR G l := by
  intro d c0 u st P h0 h1 kk
  intro p e R s m args below meth c Q hX hVR hL hS hC ls H locs hl hH hlo
  have hX2 := hX
  obtain ⟨hx, hb, hrt, hml, hown, hts, hK, hlk, hnm, hB, hf1, hf2, hf3, hf4, ao1, ao2, ao3⟩ := hX
  have hb : c.code = prog_9_method_4_code := hb
  have hown : s.vm.findClass RX7 = some m.cls := hown
  have hE := hG _ ao3
  obtain ⟨⟨r1, r2⟩, r3⟩ := hE s rfl
  have hF := r3 H hH.2.2.1
  obtain ⟨k, hk⟩ : ∃ k : Nat, c0 = (k : Int) := ⟨c0.toNat, by omega⟩
  have hk1 : k < 128 := by omega
  have hv := hl.2.2 _ (aLv_mem.mpr ⟨1, (0, c0), rfl, Nat.le_of_ble_eq_true rfl, rfl⟩)
  have hv : ls[1]? = some (.val (.int (nI k))) := by
    rw [← nI_c k hk1, ← hk]; exact hv
  have hix : sIx k (Int32.ofInt (ixS c0)) := by rw [hk]; exact ixS_ok k hk1
  have m1 : 3000 ≤ R.cells := Nat.le_trans mul_big hf2
  have m2 : 200000 ≤ R.slots := Nat.le_trans mul_big hf3
  obtain ⟨cell, q1, q2, q3, -⟩ := (hF.2.2.1 1 (by decide)).1
  refine va_ldcS hx hb hown r2 (by decide +kernel : decode prog_9_method_4_code 125 = .ok (.ldc 61, 2)) ?_
  refine lv_iload_n hx hb (by decide +kernel : decode prog_9_method_4_code 127 = .ok (.iload_n 1, 1)) rfl hv ?_
  refine callPV (na := 1) (As := [.int (nI k)]) (rest := []) hx hb hml hown hts (p_indexOf1 l hk1 hix) StF_ok (gIn 209 (by decide +kernel) rfl) (gIn 105 (by decide +kernel) rfl) (gIn 206 (by decide +kernel) rfl) (gIn 207 (by decide +kernel) rfl) (gIn 208 (by decide +kernel) rfl) ⟨by decide +kernel, by decide +kernel, by decide +kernel⟩ rfl ⟨by omega, by omega⟩ ⟨cell, q1, q2, q3⟩ (fun U e1 e2 => by
    have := (sE_warm s U.vm e2 hE U rfl).2 U.heap (fun q hq => by rw [e1]; exact hH.2.2.1 q hq)
    exact this) hl.1 (Nat.zero_le _) (by decide +kernel : decode prog_9_method_4_code 128 = .ok (.invokevirtual 63, 3)) ⟨m1, m2⟩ ?_
  exact kk p e R s m args below meth c Q hX2 hVR hL (aOkCo (aOk_i ixS_in) (fun v hv => by cases hv)) hC ls H locs hl hH hlo
theorem kwR1_of (hG : ∀ vm, G.2.2.2.2.1 vm → sE G.1.1 G.2.2.2.1 adK adV vm) (d : Nat) (i : Int) (st : aSt) (P : Int → aSt → Prop) (kk : V G l d iX7_init 59 [rf 2, (0, i)] [(0, 104), (0, i)] st P) : V G l d iX7_init 54 [rf 2, (0, i)] [(0, i)] st P := by
  intro p e R s m args below meth c Q hX hVR hL hS hC ls H locs hl hH hlo
  have hX2 := hX
  obtain ⟨hx, hb, hrt, hml, hown, hts, hK, hlk, hnm, hB, hf1, hf2, hf3, hf4, ao1, ao2, ao3⟩ := hX
  have hb : c.code = prog_9_method_1_code := hb
  have hown : s.vm.findClass RX7 = some m.cls := hown
  have hE := hG _ ao3
  obtain ⟨⟨r1, r2⟩, r3⟩ := hE s rfl
  have hF := r3 H hH.2.2.1
  have m1 : 3000 ≤ R.cells := Nat.le_trans mul_big hf2
  have m2 : 200000 ≤ R.slots := Nat.le_trans mul_big hf3
  obtain ⟨cell, q1, q2, q3, -⟩ := (hF.2.2.1 0 (by decide)).1
  refine va_ldcS hx hb hown r1 (by decide +kernel : decode prog_9_method_1_code 54 = .ok (.ldc 39, 2)) ?_
  refine callPV (na := 0) (As := []) (rest := ([(0, i)] : List aTV).map (aV G)) hx hb hml hown hts (p_length l (by decide : 0 < 2)) StF_ok (gIn 147 (by decide +kernel) rfl) (gIn 105 (by decide +kernel) rfl) (gIn 144 (by decide +kernel) rfl) (gIn 145 (by decide +kernel) rfl) (gIn 146 (by decide +kernel) rfl) ⟨by decide +kernel, by decide +kernel, by decide +kernel⟩ rfl ⟨by omega, by omega⟩ ⟨cell, q1, q2, q3⟩ (fun U e1 e2 => by
    have := (sE_warm s U.vm e2 hE U rfl).2 U.heap (fun q hq => by rw [e1]; exact hH.2.2.1 q hq)
    exact this) hl.1 (Nat.le_of_ble_eq_true rfl) (by decide +kernel : decode prog_9_method_1_code 56 = .ok (.invokevirtual 41, 3)) ⟨m1, m2⟩ ?_
  exact kk p e R s m args below meth c Q hX2 hVR hL (aOkCo (aOk_i ⟨by decide, by decide⟩) hS) hC ls H locs hl hH hlo
theorem kwR2_of (hG : ∀ vm, G.2.2.2.2.1 vm → sE G.1.1 G.2.2.2.1 adK adV vm) (d : Nat) (i n : Int) (st : aSt) (P : Int → aSt → Prop) (h0 : 0 ≤ i) (h1 : i < 104) (kk : V G l d iX7_init 86 [rf 2, (0, i)] [(0, kwA i), (0, n), rf 3] st P) : V G l d iX7_init 80 [rf 2, (0, i)] [(0, n), rf 3] st P := by
  intro p e R s m args below meth c Q hX hVR hL hS hC ls H locs hl hH hlo
  have hX2 := hX
  obtain ⟨hx, hb, hrt, hml, hown, hts, hK, hlk, hnm, hB, hf1, hf2, hf3, hf4, ao1, ao2, ao3⟩ := hX
  have hb : c.code = prog_9_method_1_code := hb
  have hown : s.vm.findClass RX7 = some m.cls := hown
  have hE := hG _ ao3
  obtain ⟨⟨r1, r2⟩, r3⟩ := hE s rfl
  have hF := r3 H hH.2.2.1
  have m1 : 3000 ≤ R.cells := Nat.le_trans mul_big hf2
  have m2 : 200000 ≤ R.slots := Nat.le_trans mul_big hf3
  obtain ⟨cell, q1, q2, q3, -⟩ := (hF.2.2.1 0 (by decide)).1
  obtain ⟨k, hk⟩ : ∃ k : Nat, i = (k : Int) := ⟨i.toNat, by omega⟩
  have hk1 : k < 104 := by omega
  have hv := hl.2.2 _ (aLv_mem.mpr ⟨1, (0, i), rfl, Nat.le_of_ble_eq_true rfl, rfl⟩)
  have hv : ls[1]? = some (.val (.int (nI k))) := by
    rw [← nI_c k (by omega), ← hk]; exact hv
  have ev : Int32.ofInt (kwA i) = sCh 0 k := by rw [hk]; exact kwA_ok k hk1
  have hr2 := kwA_in k hk1
  rw [← hk] at hr2
  refine va_ldcS hx hb hown r1 (by decide +kernel : decode prog_9_method_1_code 80 = .ok (.ldc 39, 2)) ?_
  refine lv_iload_n hx hb (by decide +kernel : decode prog_9_method_1_code 82 = .ok (.iload_n 1, 1)) rfl hv ?_
  refine callPV (na := 1) (As := [.int (nI k)]) (rest := ([(0, n), rf 3] : List aTV).map (aV G)) hx hb hml hown hts (p_charAt l (by decide : 0 < 2) hk1) StF_ok (gIn 157 (by decide +kernel) rfl) (gIn 105 (by decide +kernel) rfl) (gIn 154 (by decide +kernel) rfl) (gIn 155 (by decide +kernel) rfl) (gIn 156 (by decide +kernel) rfl) ⟨by decide +kernel, by decide +kernel, by decide +kernel⟩ rfl ⟨by omega, by omega⟩ ⟨cell, q1, q2, q3⟩ (fun U e1 e2 => by
    have := (sE_warm s U.vm e2 hE U rfl).2 U.heap (fun q hq => by rw [e1]; exact hH.2.2.1 q hq)
    exact this) hl.1 (by rw [aCat_eq]; exact Nat.le_of_ble_eq_true rfl) (by decide +kernel : decode prog_9_method_1_code 83 = .ok (.invokevirtual 46, 3)) ⟨m1, m2⟩ ?_
  rw [← ev]
  exact kk p e R s m args below meth c Q hX2 hVR hL (aOkCo (aOk_i ⟨by omega, by omega⟩) hS) hC ls H locs hl hH hlo
theorem kwR_of (hG : ∀ vm, G.2.2.2.2.1 vm → sE G.1.1 G.2.2.2.1 adK adV vm) : KwR G l := ⟨fun d i st P kk => kwR1_of hG d i st P kk, fun d i n st P h0 h1 kk => kwR2_of hG d i n st P h0 h1 kk⟩
end
