/-! ===== the reference's constructor ===== -/
def rsM (m : Nat) : List Nat := (kK 210).2.2.map (fun x => if Nat.ble x (210 + m) then x else 0)
def Mst (K : Nat → aKd) (D : Nat → Int → Int) (m : Nat) (K1 : Nat → aKd) (D1 : Nat → Int → Int) : Prop := (∀ r, r < 210 → K1 r = K r ∧ D1 r = D r) ∧ K1 210 = (12, 0, rsM m) ∧ (∀ r, 211 ≤ r → r < 211 + m → K1 r = kK r) ∧ (∀ r, 216 ≤ r → r < 211 + m → ∀ j, D1 r j = 0) ∧ (5 ≤ m → ∀ w : Nat, w < 21 → D1 215 w = wdV w) ∧ ∀ j, D1 210 j = 0
theorem Mst_next {K K1 : Nat → aKd} {D D1 : Nat → Int → Int} {m b n t : Nat} (h : Mst K D m K1 D1) (hm : m ≠ 4) (hk : kK (211 + m) = (t, n, [])) (hrs : aSet (rsM m) b (211 + m) = rsM (m + 1)) : Mst K D (m + 1) (aUk (aUk K1 (211 + m) (t, n, [])) 210 (12, 0, aSet (rsM m) b (211 + m))) (aUz D1 (211 + m)) := by
  obtain ⟨h1, h2, h3, h4, h5, h6⟩ := h
  refine ⟨fun r hr => ⟨?_, ?_⟩, ?_, fun r q1 q2 => ?_, fun r q1 q2 => ?_, fun q w hw => ?_, fun j => ?_⟩
  · rw [aUk_ne (by omega), aUk_ne (by omega)]; exact (h1 r hr).1
  · rw [aUz_ne (by omega)]; exact (h1 r hr).2
  · rw [aUk_at, hrs]
  · rw [aUk_ne (by omega)]
    by_cases q : r = 211 + m
    · rw [q, aUk_at, hk]
    · rw [aUk_ne q]; exact h3 r q1 (by omega)
  · by_cases q : r = 211 + m
    · rw [q]; exact zUz_at
    · rw [aUz_ne q]; exact h4 r q1 (by omega)
  · rw [aUz_ne (by omega)]; exact h5 (by omega) w hw
  · rw [aUz_ne (by omega)]; exact h6 j
section
variable {G : aCX} {l : Launch} {d : Nat} {K : Nat → aKd} {D : Nat → Int → Int} {P : Int → aSt → Prop}
theorem v_initModelE {s : Nat} (h2 : s + 27290 ≤ 200000) (kk : ∀ K1 D1, (∀ r, r < 210 → K1 r = K r ∧ D1 r = D r) → (∀ r, 210 ≤ r → r < 278 → K1 r = kK r) → (∀ r, 216 ≤ r → r < 278 → r ≠ 219 → r ≠ 220 → ∀ j, D1 r j = 0) → (∀ w : Nat, w < 21 → D1 215 w = wdV w) → (D1 210 36 = -1 ∧ ∀ j : Int, j ≠ 36 → D1 210 j = 0) → P 0 (K1, D1, (278, s + 27290))) : ∀ (n i : Nat) (K1 : Nat → aKd) (D1 : Nat → Int → Int), i + n = 16 → (∀ r, r < 210 → K1 r = K r ∧ D1 r = D r) → (∀ r, 210 ≤ r → r < 278 → K1 r = kK r) → (∀ r, 216 ≤ r → r < 278 → r ≠ 219 → r ≠ 220 → ∀ j, D1 r j = 0) → (∀ w : Nat, w < 21 → D1 215 w = wdV w) → (∀ j, D1 210 j = 0) → V G l d iX12_init 702 [rf 210, (0, (i : Int))] [] (K1, D1, (278, s + 27290)) P := by
  intro n
  induction n with
  | zero =>
    intro i K1 D1 hi a1 a2 a3 a4 a5
    have k210 := a2 210 (by decide) (by decide)
    have hi2 : i = 16 := by omega
    subst hi2
    refine s_il1 rfl ?_
    refine s_ic rfl ?_
    refine s_cge rfl ?_ ?_
    · intro h705
      refine s_al0 rfl ?_
      refine s_ic rfl ?_
      refine s_pi rfl (k210.trans rfl) rfl ?_
      refine s_retv rfl rfl ?_
      refine kk _ _ (fun r hr => ⟨(a1 r hr).1, ?_⟩) a2 (fun r q1 q2 q3 q4 j => ?_) (fun w hw => ?_) ⟨aUp_at, fun j hj => ?_⟩
      · rw [aUp_row (by omega)]; exact (a1 r hr).2
      · rw [aUp_row (by omega)]; exact a3 r q1 q2 q3 q4 j
      · rw [aUp_row (by decide)]; exact a4 w hw
      · rw [aUp_ne hj]; exact a5 j
    · intro h705
      omega
  | succ n ih =>
    intro i K1 D1 hi a1 a2 a3 a4 a5
    have k210 := a2 210 (by decide) (by decide)
    refine s_il1 rfl ?_
    refine s_ic rfl ?_
    refine s_cge rfl ?_ ?_
    · intro h705
      omega
    · intro h705
      refine s_al0 rfl ?_
      refine s_gf rfl (k210.trans rfl) rfl rfl ?_
      refine s_il1 rfl ?_
      refine s_ic rfl ?_
      refine s_iast rfl ((a2 219 (by decide) (by decide)).trans rfl) (by omega) ?_
      refine s_al0 rfl ?_
      refine s_gf rfl (k210.trans rfl) rfl rfl ?_
      refine s_il1 rfl ?_
      refine s_ic rfl ?_
      refine s_iast rfl ((a2 220 (by decide) (by decide)).trans rfl) (by omega) ?_
      refine s_iinc1 rfl rfl ⟨by omega, by omega⟩ ?_
      refine s_go rfl ?_
      rw [show (i : Int) + 1 = ((i + 1 : Nat) : Int) by omega]
      refine ih (i + 1) _ _ (by omega) (fun r hr => ⟨(a1 r hr).1, ?_⟩) a2 (fun r q1 q2 q3 q4 j => ?_) (fun w hw => ?_) (fun j => ?_)
      · rw [aUp_row (by omega), aUp_row (by omega)]; exact (a1 r hr).2
      · rw [aUp_row q4, aUp_row q3]; exact a3 r q1 q2 q3 q4 j
      · rw [aUp_row (by decide), aUp_row (by decide)]; exact a4 w hw
      · rw [aUp_row (by decide), aUp_row (by decide)]; exact a5 j
theorem v_initModel {s : Nat} (hc : K 210 = (12, 0, [0, 0, 0, 0, 0, 0, 0, 0, 0, 0, 0, 0, 0, 0, 0, 0, 0, 0, 0, 0, 0, 0, 0, 0, 0, 0, 0, 0, 0, 0, 0, 0, 0, 0, 0, 0, 0, 0, 0, 0, 0, 0, 0, 0, 0, 0, 0, 0, 0, 0, 0, 0, 0, 0, 0, 0, 0, 0, 0, 0, 0, 0, 0, 0, 0, 0, 0, 0, 0, 0, 0, 0, 0, 0, 0, 0, 0, 0, 0, 0, 0, 0, 0, 0])) (hz : ∀ j, D 210 j = 0) (h2 : s + 27290 ≤ 200000) (kk : ∀ K1 D1, (∀ r, r < 210 → K1 r = K r ∧ D1 r = D r) → (∀ r, 210 ≤ r → r < 278 → K1 r = kK r) → (∀ r, 216 ≤ r → r < 278 → r ≠ 219 → r ≠ 220 → ∀ j, D1 r j = 0) → (∀ w : Nat, w < 21 → D1 215 w = wdV w) → (D1 210 36 = -1 ∧ ∀ j : Int, j ≠ 36 → D1 210 j = 0) → P 0 (K1, D1, (278, s + 27290))) : VM G l d iX12_init [rf 210] (K, D, (211, s)) P := by
  have e67 : ∀ K1 D1, Mst K D 67 K1 D1 → V G l d iX12_init 700 [rf 210, (9, 0)] [] (K1, D1, (278, s + 27290)) P := by
    intro K1 D1 h
    obtain ⟨a1, a2, a3, a4, a5, a6⟩ := h
    refine s_ic rfl ?_
    refine s_is1 rfl rfl ?_
    refine v_initModelE h2 kk 16 0 K1 D1 rfl a1 (fun r q1 q2 => ?_) (fun r q1 q2 _ _ => a4 r q1 (by omega)) (a5 (by decide)) a6
    rcases (by omega : r = 210 ∨ 211 ≤ r) with q | q
    · subst q; rw [a2]; rfl
    · exact a3 r q (by omega)
  have e66 : ∀ K1 D1, Mst K D 66 K1 D1 → V G l d iX12_init 692 [rf 210, (9, 0)] [] (K1, D1, (277, s + 27278)) P := by
    intro K1 D1 h
    have k210 := h.2.1
    refine s_al0 rfl ?_
    refine s_ic rfl ?_
    refine s_newa (n := 12) rfl ⟨by show _ ≤ 2000; omega, by show _ ≤ 200000; omega⟩ ?_
    refine s_pf rfl ((aUk_ne (by show 210 ≠ 277; omega)).trans k210) rfl rfl ?_
    exact e67 _ _ (Mst_next (m := 66) (b := 82) h (by decide) rfl rfl)
  have e65 : ∀ K1 D1, Mst K D 65 K1 D1 → V G l d iX12_init 684 [rf 210, (9, 0)] [] (K1, D1, (276, s + 27266)) P := by
    intro K1 D1 h
    have k210 := h.2.1
    refine s_al0 rfl ?_
    refine s_ic rfl ?_
    refine s_newa (n := 12) rfl ⟨by show _ ≤ 2000; omega, by show _ ≤ 200000; omega⟩ ?_
    refine s_pf rfl ((aUk_ne (by show 210 ≠ 276; omega)).trans k210) rfl rfl ?_
    exact e66 _ _ (Mst_next (m := 65) (b := 81) h (by decide) rfl rfl)
  have e64 : ∀ K1 D1, Mst K D 64 K1 D1 → V G l d iX12_init 676 [rf 210, (9, 0)] [] (K1, D1, (275, s + 27254)) P := by
    intro K1 D1 h
    have k210 := h.2.1
    refine s_al0 rfl ?_
    refine s_ic rfl ?_
    refine s_newa (n := 12) rfl ⟨by show _ ≤ 2000; omega, by show _ ≤ 200000; omega⟩ ?_
    refine s_pf rfl ((aUk_ne (by show 210 ≠ 275; omega)).trans k210) rfl rfl ?_
    exact e65 _ _ (Mst_next (m := 64) (b := 80) h (by decide) rfl rfl)
  have e63 : ∀ K1 D1, Mst K D 63 K1 D1 → V G l d iX12_init 668 [rf 210, (9, 0)] [] (K1, D1, (274, s + 27242)) P := by
    intro K1 D1 h
    have k210 := h.2.1
    refine s_al0 rfl ?_
    refine s_ic rfl ?_
    refine s_newa (n := 12) rfl ⟨by show _ ≤ 2000; omega, by show _ ≤ 200000; omega⟩ ?_
    refine s_pf rfl ((aUk_ne (by show 210 ≠ 274; omega)).trans k210) rfl rfl ?_
    exact e64 _ _ (Mst_next (m := 63) (b := 79) h (by decide) rfl rfl)
  have e62 : ∀ K1 D1, Mst K D 62 K1 D1 → V G l d iX12_init 659 [rf 210, (9, 0)] [] (K1, D1, (273, s + 27098)) P := by
    intro K1 D1 h
    have k210 := h.2.1
    refine s_al0 rfl ?_
    refine s_ic rfl ?_
    refine s_newa (n := 144) rfl ⟨by show _ ≤ 2000; omega, by show _ ≤ 200000; omega⟩ ?_
    refine s_pf rfl ((aUk_ne (by show 210 ≠ 273; omega)).trans k210) rfl rfl ?_
    exact e63 _ _ (Mst_next (m := 62) (b := 78) h (by decide) rfl rfl)
  have e61 : ∀ K1 D1, Mst K D 61 K1 D1 → V G l d iX12_init 651 [rf 210, (9, 0)] [] (K1, D1, (272, s + 27086)) P := by
    intro K1 D1 h
    have k210 := h.2.1
    refine s_al0 rfl ?_
    refine s_ic rfl ?_
    refine s_newa (n := 12) rfl ⟨by show _ ≤ 2000; omega, by show _ ≤ 200000; omega⟩ ?_
    refine s_pf rfl ((aUk_ne (by show 210 ≠ 272; omega)).trans k210) rfl rfl ?_
    exact e62 _ _ (Mst_next (m := 61) (b := 77) h (by decide) rfl rfl)
  have e60 : ∀ K1 D1, Mst K D 60 K1 D1 → V G l d iX12_init 643 [rf 210, (9, 0)] [] (K1, D1, (271, s + 27074)) P := by
    intro K1 D1 h
    have k210 := h.2.1
    refine s_al0 rfl ?_
    refine s_ic rfl ?_
    refine s_newa (n := 12) rfl ⟨by show _ ≤ 2000; omega, by show _ ≤ 200000; omega⟩ ?_
    refine s_pf rfl ((aUk_ne (by show 210 ≠ 271; omega)).trans k210) rfl rfl ?_
    exact e61 _ _ (Mst_next (m := 60) (b := 76) h (by decide) rfl rfl)
  have e59 : ∀ K1 D1, Mst K D 59 K1 D1 → V G l d iX12_init 635 [rf 210, (9, 0)] [] (K1, D1, (270, s + 27062)) P := by
    intro K1 D1 h
    have k210 := h.2.1
    refine s_al0 rfl ?_
    refine s_ic rfl ?_
    refine s_newa (n := 12) rfl ⟨by show _ ≤ 2000; omega, by show _ ≤ 200000; omega⟩ ?_
    refine s_pf rfl ((aUk_ne (by show 210 ≠ 270; omega)).trans k210) rfl rfl ?_
    exact e60 _ _ (Mst_next (m := 59) (b := 75) h (by decide) rfl rfl)
  have e58 : ∀ K1 D1, Mst K D 58 K1 D1 → V G l d iX12_init 627 [rf 210, (9, 0)] [] (K1, D1, (269, s + 27050)) P := by
    intro K1 D1 h
    have k210 := h.2.1
    refine s_al0 rfl ?_
    refine s_ic rfl ?_
    refine s_newa (n := 12) rfl ⟨by show _ ≤ 2000; omega, by show _ ≤ 200000; omega⟩ ?_
    refine s_pf rfl ((aUk_ne (by show 210 ≠ 269; omega)).trans k210) rfl rfl ?_
    exact e59 _ _ (Mst_next (m := 58) (b := 74) h (by decide) rfl rfl)
  have e57 : ∀ K1 D1, Mst K D 57 K1 D1 → V G l d iX12_init 619 [rf 210, (9, 0)] [] (K1, D1, (268, s + 27026)) P := by
    intro K1 D1 h
    have k210 := h.2.1
    refine s_al0 rfl ?_
    refine s_ic rfl ?_
    refine s_newa (n := 24) rfl ⟨by show _ ≤ 2000; omega, by show _ ≤ 200000; omega⟩ ?_
    refine s_pf rfl ((aUk_ne (by show 210 ≠ 268; omega)).trans k210) rfl rfl ?_
    exact e58 _ _ (Mst_next (m := 57) (b := 73) h (by decide) rfl rfl)
  have e56 : ∀ K1 D1, Mst K D 56 K1 D1 → V G l d iX12_init 610 [rf 210, (9, 0)] [] (K1, D1, (267, s + 26882)) P := by
    intro K1 D1 h
    have k210 := h.2.1
    refine s_al0 rfl ?_
    refine s_ic rfl ?_
    refine s_newa (n := 144) rfl ⟨by show _ ≤ 2000; omega, by show _ ≤ 200000; omega⟩ ?_
    refine s_pf rfl ((aUk_ne (by show 210 ≠ 267; omega)).trans k210) rfl rfl ?_
    exact e57 _ _ (Mst_next (m := 56) (b := 72) h (by decide) rfl rfl)
  have e55 : ∀ K1 D1, Mst K D 55 K1 D1 → V G l d iX12_init 602 [rf 210, (9, 0)] [] (K1, D1, (266, s + 26858)) P := by
    intro K1 D1 h
    have k210 := h.2.1
    refine s_al0 rfl ?_
    refine s_ic rfl ?_
    refine s_newa (n := 24) rfl ⟨by show _ ≤ 2000; omega, by show _ ≤ 200000; omega⟩ ?_
    refine s_pf rfl ((aUk_ne (by show 210 ≠ 266; omega)).trans k210) rfl rfl ?_
    exact e56 _ _ (Mst_next (m := 55) (b := 71) h (by decide) rfl rfl)
  have e54 : ∀ K1 D1, Mst K D 54 K1 D1 → V G l d iX12_init 594 [rf 210, (9, 0)] [] (K1, D1, (265, s + 26834)) P := by
    intro K1 D1 h
    have k210 := h.2.1
    refine s_al0 rfl ?_
    refine s_ic rfl ?_
    refine s_newa (n := 24) rfl ⟨by show _ ≤ 2000; omega, by show _ ≤ 200000; omega⟩ ?_
    refine s_pf rfl ((aUk_ne (by show 210 ≠ 265; omega)).trans k210) rfl rfl ?_
    exact e55 _ _ (Mst_next (m := 54) (b := 70) h (by decide) rfl rfl)
  have e53 : ∀ K1 D1, Mst K D 53 K1 D1 → V G l d iX12_init 586 [rf 210, (9, 0)] [] (K1, D1, (264, s + 26810)) P := by
    intro K1 D1 h
    have k210 := h.2.1
    refine s_al0 rfl ?_
    refine s_ic rfl ?_
    refine s_newa (n := 24) rfl ⟨by show _ ≤ 2000; omega, by show _ ≤ 200000; omega⟩ ?_
    refine s_pf rfl ((aUk_ne (by show 210 ≠ 264; omega)).trans k210) rfl rfl ?_
    exact e54 _ _ (Mst_next (m := 53) (b := 69) h (by decide) rfl rfl)
  have e52 : ∀ K1 D1, Mst K D 52 K1 D1 → V G l d iX12_init 578 [rf 210, (9, 0)] [] (K1, D1, (263, s + 26786)) P := by
    intro K1 D1 h
    have k210 := h.2.1
    refine s_al0 rfl ?_
    refine s_ic rfl ?_
    refine s_newa (n := 24) rfl ⟨by show _ ≤ 2000; omega, by show _ ≤ 200000; omega⟩ ?_
    refine s_pf rfl ((aUk_ne (by show 210 ≠ 263; omega)).trans k210) rfl rfl ?_
    exact e53 _ _ (Mst_next (m := 52) (b := 68) h (by decide) rfl rfl)
  have e51 : ∀ K1 D1, Mst K D 51 K1 D1 → V G l d iX12_init 569 [rf 210, (9, 0)] [] (K1, D1, (262, s + 25346)) P := by
    intro K1 D1 h
    have k210 := h.2.1
    refine s_al0 rfl ?_
    refine s_ic rfl ?_
    refine s_newa (n := 1440) rfl ⟨by show _ ≤ 2000; omega, by show _ ≤ 200000; omega⟩ ?_
    refine s_pf rfl ((aUk_ne (by show 210 ≠ 262; omega)).trans k210) rfl rfl ?_
    exact e52 _ _ (Mst_next (m := 51) (b := 67) h (by decide) rfl rfl)
  have e50 : ∀ K1 D1, Mst K D 50 K1 D1 → V G l d iX12_init 560 [rf 210, (9, 0)] [] (K1, D1, (261, s + 23906)) P := by
    intro K1 D1 h
    have k210 := h.2.1
    refine s_al0 rfl ?_
    refine s_ic rfl ?_
    refine s_newa (n := 1440) rfl ⟨by show _ ≤ 2000; omega, by show _ ≤ 200000; omega⟩ ?_
    refine s_pf rfl ((aUk_ne (by show 210 ≠ 261; omega)).trans k210) rfl rfl ?_
    exact e51 _ _ (Mst_next (m := 50) (b := 66) h (by decide) rfl rfl)
  have e49 : ∀ K1 D1, Mst K D 49 K1 D1 → V G l d iX12_init 551 [rf 210, (9, 0)] [] (K1, D1, (260, s + 22466)) P := by
    intro K1 D1 h
    have k210 := h.2.1
    refine s_al0 rfl ?_
    refine s_ic rfl ?_
    refine s_newa (n := 1440) rfl ⟨by show _ ≤ 2000; omega, by show _ ≤ 200000; omega⟩ ?_
    refine s_pf rfl ((aUk_ne (by show 210 ≠ 260; omega)).trans k210) rfl rfl ?_
    exact e50 _ _ (Mst_next (m := 49) (b := 65) h (by decide) rfl rfl)
  have e48 : ∀ K1 D1, Mst K D 48 K1 D1 → V G l d iX12_init 542 [rf 210, (9, 0)] [] (K1, D1, (259, s + 21026)) P := by
    intro K1 D1 h
    have k210 := h.2.1
    refine s_al0 rfl ?_
    refine s_ic rfl ?_
    refine s_newa (n := 1440) rfl ⟨by show _ ≤ 2000; omega, by show _ ≤ 200000; omega⟩ ?_
    refine s_pf rfl ((aUk_ne (by show 210 ≠ 259; omega)).trans k210) rfl rfl ?_
    exact e49 _ _ (Mst_next (m := 48) (b := 64) h (by decide) rfl rfl)
  have e47 : ∀ K1 D1, Mst K D 47 K1 D1 → V G l d iX12_init 533 [rf 210, (9, 0)] [] (K1, D1, (258, s + 19586)) P := by
    intro K1 D1 h
    have k210 := h.2.1
    refine s_al0 rfl ?_
    refine s_ic rfl ?_
    refine s_newa (n := 1440) rfl ⟨by show _ ≤ 2000; omega, by show _ ≤ 200000; omega⟩ ?_
    refine s_pf rfl ((aUk_ne (by show 210 ≠ 258; omega)).trans k210) rfl rfl ?_
    exact e48 _ _ (Mst_next (m := 47) (b := 63) h (by decide) rfl rfl)
  have e46 : ∀ K1 D1, Mst K D 46 K1 D1 → V G l d iX12_init 524 [rf 210, (9, 0)] [] (K1, D1, (257, s + 18866)) P := by
    intro K1 D1 h
    have k210 := h.2.1
    refine s_al0 rfl ?_
    refine s_ic rfl ?_
    refine s_newa (n := 720) rfl ⟨by show _ ≤ 2000; omega, by show _ ≤ 200000; omega⟩ ?_
    refine s_pf rfl ((aUk_ne (by show 210 ≠ 257; omega)).trans k210) rfl rfl ?_
    exact e47 _ _ (Mst_next (m := 46) (b := 62) h (by decide) rfl rfl)
  have e45 : ∀ K1 D1, Mst K D 45 K1 D1 → V G l d iX12_init 515 [rf 210, (9, 0)] [] (K1, D1, (256, s + 18146)) P := by
    intro K1 D1 h
    have k210 := h.2.1
    refine s_al0 rfl ?_
    refine s_ic rfl ?_
    refine s_newa (n := 720) rfl ⟨by show _ ≤ 2000; omega, by show _ ≤ 200000; omega⟩ ?_
    refine s_pf rfl ((aUk_ne (by show 210 ≠ 256; omega)).trans k210) rfl rfl ?_
    exact e46 _ _ (Mst_next (m := 45) (b := 61) h (by decide) rfl rfl)
  have e44 : ∀ K1 D1, Mst K D 44 K1 D1 → V G l d iX12_init 506 [rf 210, (9, 0)] [] (K1, D1, (255, s + 17426)) P := by
    intro K1 D1 h
    have k210 := h.2.1
    refine s_al0 rfl ?_
    refine s_ic rfl ?_
    refine s_newa (n := 720) rfl ⟨by show _ ≤ 2000; omega, by show _ ≤ 200000; omega⟩ ?_
    refine s_pf rfl ((aUk_ne (by show 210 ≠ 255; omega)).trans k210) rfl rfl ?_
    exact e45 _ _ (Mst_next (m := 44) (b := 60) h (by decide) rfl rfl)
  have e43 : ∀ K1 D1, Mst K D 43 K1 D1 → V G l d iX12_init 498 [rf 210, (9, 0)] [] (K1, D1, (254, s + 17366)) P := by
    intro K1 D1 h
    have k210 := h.2.1
    refine s_al0 rfl ?_
    refine s_ic rfl ?_
    refine s_newa (n := 60) rfl ⟨by show _ ≤ 2000; omega, by show _ ≤ 200000; omega⟩ ?_
    refine s_pf rfl ((aUk_ne (by show 210 ≠ 254; omega)).trans k210) rfl rfl ?_
    exact e44 _ _ (Mst_next (m := 43) (b := 59) h (by decide) rfl rfl)
  have e42 : ∀ K1 D1, Mst K D 42 K1 D1 → V G l d iX12_init 490 [rf 210, (9, 0)] [] (K1, D1, (253, s + 17306)) P := by
    intro K1 D1 h
    have k210 := h.2.1
    refine s_al0 rfl ?_
    refine s_ic rfl ?_
    refine s_newa (n := 60) rfl ⟨by show _ ≤ 2000; omega, by show _ ≤ 200000; omega⟩ ?_
    refine s_pf rfl ((aUk_ne (by show 210 ≠ 253; omega)).trans k210) rfl rfl ?_
    exact e43 _ _ (Mst_next (m := 42) (b := 58) h (by decide) rfl rfl)
  have e41 : ∀ K1 D1, Mst K D 41 K1 D1 → V G l d iX12_init 482 [rf 210, (9, 0)] [] (K1, D1, (252, s + 17246)) P := by
    intro K1 D1 h
    have k210 := h.2.1
    refine s_al0 rfl ?_
    refine s_ic rfl ?_
    refine s_newa (n := 60) rfl ⟨by show _ ≤ 2000; omega, by show _ ≤ 200000; omega⟩ ?_
    refine s_pf rfl ((aUk_ne (by show 210 ≠ 252; omega)).trans k210) rfl rfl ?_
    exact e42 _ _ (Mst_next (m := 41) (b := 57) h (by decide) rfl rfl)
  have e40 : ∀ K1 D1, Mst K D 40 K1 D1 → V G l d iX12_init 474 [rf 210, (9, 0)] [] (K1, D1, (251, s + 17186)) P := by
    intro K1 D1 h
    have k210 := h.2.1
    refine s_al0 rfl ?_
    refine s_ic rfl ?_
    refine s_newa (n := 60) rfl ⟨by show _ ≤ 2000; omega, by show _ ≤ 200000; omega⟩ ?_
    refine s_pf rfl ((aUk_ne (by show 210 ≠ 251; omega)).trans k210) rfl rfl ?_
    exact e41 _ _ (Mst_next (m := 40) (b := 56) h (by decide) rfl rfl)
  have e39 : ∀ K1 D1, Mst K D 39 K1 D1 → V G l d iX12_init 466 [rf 210, (9, 0)] [] (K1, D1, (250, s + 17126)) P := by
    intro K1 D1 h
    have k210 := h.2.1
    refine s_al0 rfl ?_
    refine s_ic rfl ?_
    refine s_newa (n := 60) rfl ⟨by show _ ≤ 2000; omega, by show _ ≤ 200000; omega⟩ ?_
    refine s_pf rfl ((aUk_ne (by show 210 ≠ 250; omega)).trans k210) rfl rfl ?_
    exact e40 _ _ (Mst_next (m := 39) (b := 55) h (by decide) rfl rfl)
  have e38 : ∀ K1 D1, Mst K D 38 K1 D1 → V G l d iX12_init 458 [rf 210, (9, 0)] [] (K1, D1, (249, s + 17066)) P := by
    intro K1 D1 h
    have k210 := h.2.1
    refine s_al0 rfl ?_
    refine s_ic rfl ?_
    refine s_newa (n := 60) rfl ⟨by show _ ≤ 2000; omega, by show _ ≤ 200000; omega⟩ ?_
    refine s_pf rfl ((aUk_ne (by show 210 ≠ 249; omega)).trans k210) rfl rfl ?_
    exact e39 _ _ (Mst_next (m := 38) (b := 53) h (by decide) rfl rfl)
  have e37 : ∀ K1 D1, Mst K D 37 K1 D1 → V G l d iX12_init 450 [rf 210, (9, 0)] [] (K1, D1, (248, s + 17006)) P := by
    intro K1 D1 h
    have k210 := h.2.1
    refine s_al0 rfl ?_
    refine s_ic rfl ?_
    refine s_newa (n := 60) rfl ⟨by show _ ≤ 2000; omega, by show _ ≤ 200000; omega⟩ ?_
    refine s_pf rfl ((aUk_ne (by show 210 ≠ 248; omega)).trans k210) rfl rfl ?_
    exact e38 _ _ (Mst_next (m := 37) (b := 52) h (by decide) rfl rfl)
  have e36 : ∀ K1 D1, Mst K D 36 K1 D1 → V G l d iX12_init 441 [rf 210, (9, 0)] [] (K1, D1, (247, s + 16706)) P := by
    intro K1 D1 h
    have k210 := h.2.1
    refine s_al0 rfl ?_
    refine s_ic rfl ?_
    refine s_newa (n := 300) rfl ⟨by show _ ≤ 2000; omega, by show _ ≤ 200000; omega⟩ ?_
    refine s_pf rfl ((aUk_ne (by show 210 ≠ 247; omega)).trans k210) rfl rfl ?_
    exact e37 _ _ (Mst_next (m := 36) (b := 48) h (by decide) rfl rfl)
  have e35 : ∀ K1 D1, Mst K D 35 K1 D1 → V G l d iX12_init 432 [rf 210, (9, 0)] [] (K1, D1, (246, s + 16406)) P := by
    intro K1 D1 h
    have k210 := h.2.1
    refine s_al0 rfl ?_
    refine s_ic rfl ?_
    refine s_newa (n := 300) rfl ⟨by show _ ≤ 2000; omega, by show _ ≤ 200000; omega⟩ ?_
    refine s_pf rfl ((aUk_ne (by show 210 ≠ 246; omega)).trans k210) rfl rfl ?_
    exact e36 _ _ (Mst_next (m := 35) (b := 47) h (by decide) rfl rfl)
  have e34 : ∀ K1 D1, Mst K D 34 K1 D1 → V G l d iX12_init 423 [rf 210, (9, 0)] [] (K1, D1, (245, s + 16106)) P := by
    intro K1 D1 h
    have k210 := h.2.1
    refine s_al0 rfl ?_
    refine s_ic rfl ?_
    refine s_newa (n := 300) rfl ⟨by show _ ≤ 2000; omega, by show _ ≤ 200000; omega⟩ ?_
    refine s_pf rfl ((aUk_ne (by show 210 ≠ 245; omega)).trans k210) rfl rfl ?_
    exact e35 _ _ (Mst_next (m := 34) (b := 46) h (by decide) rfl rfl)
  have e33 : ∀ K1 D1, Mst K D 33 K1 D1 → V G l d iX12_init 415 [rf 210, (9, 0)] [] (K1, D1, (244, s + 16100)) P := by
    intro K1 D1 h
    have k210 := h.2.1
    refine s_al0 rfl ?_
    refine s_ic rfl ?_
    refine s_newa (n := 6) rfl ⟨by show _ ≤ 2000; omega, by show _ ≤ 200000; omega⟩ ?_
    refine s_pf rfl ((aUk_ne (by show 210 ≠ 244; omega)).trans k210) rfl rfl ?_
    exact e34 _ _ (Mst_next (m := 33) (b := 44) h (by decide) rfl rfl)
  have e32 : ∀ K1 D1, Mst K D 32 K1 D1 → V G l d iX12_init 407 [rf 210, (9, 0)] [] (K1, D1, (243, s + 16040)) P := by
    intro K1 D1 h
    have k210 := h.2.1
    refine s_al0 rfl ?_
    refine s_ic rfl ?_
    refine s_newa (n := 60) rfl ⟨by show _ ≤ 2000; omega, by show _ ≤ 200000; omega⟩ ?_
    refine s_pf rfl ((aUk_ne (by show 210 ≠ 243; omega)).trans k210) rfl rfl ?_
    exact e33 _ _ (Mst_next (m := 32) (b := 43) h (by decide) rfl rfl)
  have e31 : ∀ K1 D1, Mst K D 31 K1 D1 → V G l d iX12_init 399 [rf 210, (9, 0)] [] (K1, D1, (242, s + 15980)) P := by
    intro K1 D1 h
    have k210 := h.2.1
    refine s_al0 rfl ?_
    refine s_ic rfl ?_
    refine s_newa (n := 60) rfl ⟨by show _ ≤ 2000; omega, by show _ ≤ 200000; omega⟩ ?_
    refine s_pf rfl ((aUk_ne (by show 210 ≠ 242; omega)).trans k210) rfl rfl ?_
    exact e32 _ _ (Mst_next (m := 31) (b := 42) h (by decide) rfl rfl)
  have e30 : ∀ K1 D1, Mst K D 30 K1 D1 → V G l d iX12_init 391 [rf 210, (9, 0)] [] (K1, D1, (241, s + 15920)) P := by
    intro K1 D1 h
    have k210 := h.2.1
    refine s_al0 rfl ?_
    refine s_ic rfl ?_
    refine s_newa (n := 60) rfl ⟨by show _ ≤ 2000; omega, by show _ ≤ 200000; omega⟩ ?_
    refine s_pf rfl ((aUk_ne (by show 210 ≠ 241; omega)).trans k210) rfl rfl ?_
    exact e31 _ _ (Mst_next (m := 30) (b := 41) h (by decide) rfl rfl)
  have e29 : ∀ K1 D1, Mst K D 29 K1 D1 → V G l d iX12_init 383 [rf 210, (9, 0)] [] (K1, D1, (240, s + 15860)) P := by
    intro K1 D1 h
    have k210 := h.2.1
    refine s_al0 rfl ?_
    refine s_ic rfl ?_
    refine s_newa (n := 60) rfl ⟨by show _ ≤ 2000; omega, by show _ ≤ 200000; omega⟩ ?_
    refine s_pf rfl ((aUk_ne (by show 210 ≠ 240; omega)).trans k210) rfl rfl ?_
    exact e30 _ _ (Mst_next (m := 29) (b := 40) h (by decide) rfl rfl)
  have e28 : ∀ K1 D1, Mst K D 28 K1 D1 → V G l d iX12_init 375 [rf 210, (9, 0)] [] (K1, D1, (239, s + 15800)) P := by
    intro K1 D1 h
    have k210 := h.2.1
    refine s_al0 rfl ?_
    refine s_ic rfl ?_
    refine s_newa (n := 60) rfl ⟨by show _ ≤ 2000; omega, by show _ ≤ 200000; omega⟩ ?_
    refine s_pf rfl ((aUk_ne (by show 210 ≠ 239; omega)).trans k210) rfl rfl ?_
    exact e29 _ _ (Mst_next (m := 28) (b := 39) h (by decide) rfl rfl)
  have e27 : ∀ K1 D1, Mst K D 27 K1 D1 → V G l d iX12_init 367 [rf 210, (9, 0)] [] (K1, D1, (238, s + 15740)) P := by
    intro K1 D1 h
    have k210 := h.2.1
    refine s_al0 rfl ?_
    refine s_ic rfl ?_
    refine s_newa (n := 60) rfl ⟨by show _ ≤ 2000; omega, by show _ ≤ 200000; omega⟩ ?_
    refine s_pf rfl ((aUk_ne (by show 210 ≠ 238; omega)).trans k210) rfl rfl ?_
    exact e28 _ _ (Mst_next (m := 27) (b := 38) h (by decide) rfl rfl)
  have e26 : ∀ K1 D1, Mst K D 26 K1 D1 → V G l d iX12_init 358 [rf 210, (9, 0)] [] (K1, D1, (237, s + 14140)) P := by
    intro K1 D1 h
    have k210 := h.2.1
    refine s_al0 rfl ?_
    refine s_ic rfl ?_
    refine s_newa (n := 1600) rfl ⟨by show _ ≤ 2000; omega, by show _ ≤ 200000; omega⟩ ?_
    refine s_pf rfl ((aUk_ne (by show 210 ≠ 237; omega)).trans k210) rfl rfl ?_
    exact e27 _ _ (Mst_next (m := 26) (b := 34) h (by decide) rfl rfl)
  have e25 : ∀ K1 D1, Mst K D 25 K1 D1 → V G l d iX12_init 351 [rf 210, (9, 0)] [] (K1, D1, (236, s + 14135)) P := by
    intro K1 D1 h
    have k210 := h.2.1
    refine s_al0 rfl ?_
    refine s_ic rfl ?_
    refine s_newa (n := 5) rfl ⟨by show _ ≤ 2000; omega, by show _ ≤ 200000; omega⟩ ?_
    refine s_pf rfl ((aUk_ne (by show 210 ≠ 236; omega)).trans k210) rfl rfl ?_
    exact e26 _ _ (Mst_next (m := 25) (b := 33) h (by decide) rfl rfl)
  have e24 : ∀ K1 D1, Mst K D 24 K1 D1 → V G l d iX12_init 342 [rf 210, (9, 0)] [] (K1, D1, (235, s + 10935)) P := by
    intro K1 D1 h
    have k210 := h.2.1
    refine s_al0 rfl ?_
    refine s_ic rfl ?_
    refine s_newa (n := 3200) rfl ⟨by show _ ≤ 2000; omega, by show _ ≤ 200000; omega⟩ ?_
    refine s_pf rfl ((aUk_ne (by show 210 ≠ 235; omega)).trans k210) rfl rfl ?_
    exact e25 _ _ (Mst_next (m := 24) (b := 32) h (by decide) rfl rfl)
  have e23 : ∀ K1 D1, Mst K D 23 K1 D1 → V G l d iX12_init 333 [rf 210, (9, 0)] [] (K1, D1, (234, s + 7735)) P := by
    intro K1 D1 h
    have k210 := h.2.1
    refine s_al0 rfl ?_
    refine s_ic rfl ?_
    refine s_newa (n := 3200) rfl ⟨by show _ ≤ 2000; omega, by show _ ≤ 200000; omega⟩ ?_
    refine s_pf rfl ((aUk_ne (by show 210 ≠ 234; omega)).trans k210) rfl rfl ?_
    exact e24 _ _ (Mst_next (m := 23) (b := 31) h (by decide) rfl rfl)
  have e22 : ∀ K1 D1, Mst K D 22 K1 D1 → V G l d iX12_init 325 [rf 210, (9, 0)] [] (K1, D1, (233, s + 7687)) P := by
    intro K1 D1 h
    have k210 := h.2.1
    refine s_al0 rfl ?_
    refine s_ic rfl ?_
    refine s_newa (n := 48) rfl ⟨by show _ ≤ 2000; omega, by show _ ≤ 200000; omega⟩ ?_
    refine s_pf rfl ((aUk_ne (by show 210 ≠ 233; omega)).trans k210) rfl rfl ?_
    exact e23 _ _ (Mst_next (m := 22) (b := 29) h (by decide) rfl rfl)
  have e21 : ∀ K1 D1, Mst K D 21 K1 D1 → V G l d iX12_init 316 [rf 210, (9, 0)] [] (K1, D1, (232, s + 7111)) P := by
    intro K1 D1 h
    have k210 := h.2.1
    refine s_al0 rfl ?_
    refine s_ic rfl ?_
    refine s_newa (n := 576) rfl ⟨by show _ ≤ 2000; omega, by show _ ≤ 200000; omega⟩ ?_
    refine s_pf rfl ((aUk_ne (by show 210 ≠ 232; omega)).trans k210) rfl rfl ?_
    exact e22 _ _ (Mst_next (m := 21) (b := 28) h (by decide) rfl rfl)
  have e20 : ∀ K1 D1, Mst K D 20 K1 D1 → V G l d iX12_init 307 [rf 210, (9, 0)] [] (K1, D1, (231, s + 6535)) P := by
    intro K1 D1 h
    have k210 := h.2.1
    refine s_al0 rfl ?_
    refine s_ic rfl ?_
    refine s_newa (n := 576) rfl ⟨by show _ ≤ 2000; omega, by show _ ≤ 200000; omega⟩ ?_
    refine s_pf rfl ((aUk_ne (by show 210 ≠ 231; omega)).trans k210) rfl rfl ?_
    exact e21 _ _ (Mst_next (m := 20) (b := 27) h (by decide) rfl rfl)
  have e19 : ∀ K1 D1, Mst K D 19 K1 D1 → V G l d iX12_init 299 [rf 210, (9, 0)] [] (K1, D1, (230, s + 6487)) P := by
    intro K1 D1 h
    have k210 := h.2.1
    refine s_al0 rfl ?_
    refine s_ic rfl ?_
    refine s_newa (n := 48) rfl ⟨by show _ ≤ 2000; omega, by show _ ≤ 200000; omega⟩ ?_
    refine s_pf rfl ((aUk_ne (by show 210 ≠ 230; omega)).trans k210) rfl rfl ?_
    exact e20 _ _ (Mst_next (m := 19) (b := 26) h (by decide) rfl rfl)
  have e18 : ∀ K1 D1, Mst K D 18 K1 D1 → V G l d iX12_init 291 [rf 210, (9, 0)] [] (K1, D1, (229, s + 6439)) P := by
    intro K1 D1 h
    have k210 := h.2.1
    refine s_al0 rfl ?_
    refine s_ic rfl ?_
    refine s_newa (n := 48) rfl ⟨by show _ ≤ 2000; omega, by show _ ≤ 200000; omega⟩ ?_
    refine s_pf rfl ((aUk_ne (by show 210 ≠ 229; omega)).trans k210) rfl rfl ?_
    exact e19 _ _ (Mst_next (m := 18) (b := 25) h (by decide) rfl rfl)
  have e17 : ∀ K1 D1, Mst K D 17 K1 D1 → V G l d iX12_init 283 [rf 210, (9, 0)] [] (K1, D1, (228, s + 6391)) P := by
    intro K1 D1 h
    have k210 := h.2.1
    refine s_al0 rfl ?_
    refine s_ic rfl ?_
    refine s_newa (n := 48) rfl ⟨by show _ ≤ 2000; omega, by show _ ≤ 200000; omega⟩ ?_
    refine s_pf rfl ((aUk_ne (by show 210 ≠ 228; omega)).trans k210) rfl rfl ?_
    exact e18 _ _ (Mst_next (m := 17) (b := 24) h (by decide) rfl rfl)
  have e16 : ∀ K1 D1, Mst K D 16 K1 D1 → V G l d iX12_init 275 [rf 210, (9, 0)] [] (K1, D1, (227, s + 6343)) P := by
    intro K1 D1 h
    have k210 := h.2.1
    refine s_al0 rfl ?_
    refine s_ic rfl ?_
    refine s_newa (n := 48) rfl ⟨by show _ ≤ 2000; omega, by show _ ≤ 200000; omega⟩ ?_
    refine s_pf rfl ((aUk_ne (by show 210 ≠ 227; omega)).trans k210) rfl rfl ?_
    exact e17 _ _ (Mst_next (m := 16) (b := 23) h (by decide) rfl rfl)
  have e15 : ∀ K1 D1, Mst K D 15 K1 D1 → V G l d iX12_init 267 [rf 210, (9, 0)] [] (K1, D1, (226, s + 6295)) P := by
    intro K1 D1 h
    have k210 := h.2.1
    refine s_al0 rfl ?_
    refine s_ic rfl ?_
    refine s_newa (n := 48) rfl ⟨by show _ ≤ 2000; omega, by show _ ≤ 200000; omega⟩ ?_
    refine s_pf rfl ((aUk_ne (by show 210 ≠ 226; omega)).trans k210) rfl rfl ?_
    exact e16 _ _ (Mst_next (m := 15) (b := 22) h (by decide) rfl rfl)
  have e14 : ∀ K1 D1, Mst K D 14 K1 D1 → V G l d iX12_init 259 [rf 210, (9, 0)] [] (K1, D1, (225, s + 6247)) P := by
    intro K1 D1 h
    have k210 := h.2.1
    refine s_al0 rfl ?_
    refine s_ic rfl ?_
    refine s_newa (n := 48) rfl ⟨by show _ ≤ 2000; omega, by show _ ≤ 200000; omega⟩ ?_
    refine s_pf rfl ((aUk_ne (by show 210 ≠ 225; omega)).trans k210) rfl rfl ?_
    exact e15 _ _ (Mst_next (m := 14) (b := 21) h (by decide) rfl rfl)
  have e13 : ∀ K1 D1, Mst K D 13 K1 D1 → V G l d iX12_init 251 [rf 210, (9, 0)] [] (K1, D1, (224, s + 6199)) P := by
    intro K1 D1 h
    have k210 := h.2.1
    refine s_al0 rfl ?_
    refine s_ic rfl ?_
    refine s_newa (n := 48) rfl ⟨by show _ ≤ 2000; omega, by show _ ≤ 200000; omega⟩ ?_
    refine s_pf rfl ((aUk_ne (by show 210 ≠ 224; omega)).trans k210) rfl rfl ?_
    exact e14 _ _ (Mst_next (m := 13) (b := 20) h (by decide) rfl rfl)
  have e12 : ∀ K1 D1, Mst K D 12 K1 D1 → V G l d iX12_init 243 [rf 210, (9, 0)] [] (K1, D1, (223, s + 6151)) P := by
    intro K1 D1 h
    have k210 := h.2.1
    refine s_al0 rfl ?_
    refine s_ic rfl ?_
    refine s_newa (n := 48) rfl ⟨by show _ ≤ 2000; omega, by show _ ≤ 200000; omega⟩ ?_
    refine s_pf rfl ((aUk_ne (by show 210 ≠ 223; omega)).trans k210) rfl rfl ?_
    exact e13 _ _ (Mst_next (m := 12) (b := 19) h (by decide) rfl rfl)
  have e11 : ∀ K1 D1, Mst K D 11 K1 D1 → V G l d iX12_init 235 [rf 210, (9, 0)] [] (K1, D1, (222, s + 6103)) P := by
    intro K1 D1 h
    have k210 := h.2.1
    refine s_al0 rfl ?_
    refine s_ic rfl ?_
    refine s_newa (n := 48) rfl ⟨by show _ ≤ 2000; omega, by show _ ≤ 200000; omega⟩ ?_
    refine s_pf rfl ((aUk_ne (by show 210 ≠ 222; omega)).trans k210) rfl rfl ?_
    exact e12 _ _ (Mst_next (m := 11) (b := 18) h (by decide) rfl rfl)
  have e10 : ∀ K1 D1, Mst K D 10 K1 D1 → V G l d iX12_init 228 [rf 210, (9, 0)] [] (K1, D1, (221, s + 6101)) P := by
    intro K1 D1 h
    have k210 := h.2.1
    refine s_al0 rfl ?_
    refine s_ic rfl ?_
    refine s_newa (n := 2) rfl ⟨by show _ ≤ 2000; omega, by show _ ≤ 200000; omega⟩ ?_
    refine s_pf rfl ((aUk_ne (by show 210 ≠ 221; omega)).trans k210) rfl rfl ?_
    exact e11 _ _ (Mst_next (m := 10) (b := 17) h (by decide) rfl rfl)
  have e9 : ∀ K1 D1, Mst K D 9 K1 D1 → V G l d iX12_init 220 [rf 210, (9, 0)] [] (K1, D1, (220, s + 6085)) P := by
    intro K1 D1 h
    have k210 := h.2.1
    refine s_al0 rfl ?_
    refine s_ic rfl ?_
    refine s_newa (n := 16) rfl ⟨by show _ ≤ 2000; omega, by show _ ≤ 200000; omega⟩ ?_
    refine s_pf rfl ((aUk_ne (by show 210 ≠ 220; omega)).trans k210) rfl rfl ?_
    exact e10 _ _ (Mst_next (m := 9) (b := 16) h (by decide) rfl rfl)
  have e8 : ∀ K1 D1, Mst K D 8 K1 D1 → V G l d iX12_init 212 [rf 210, (9, 0)] [] (K1, D1, (219, s + 6069)) P := by
    intro K1 D1 h
    have k210 := h.2.1
    refine s_al0 rfl ?_
    refine s_ic rfl ?_
    refine s_newa (n := 16) rfl ⟨by show _ ≤ 2000; omega, by show _ ≤ 200000; omega⟩ ?_
    refine s_pf rfl ((aUk_ne (by show 210 ≠ 219; omega)).trans k210) rfl rfl ?_
    exact e9 _ _ (Mst_next (m := 8) (b := 15) h (by decide) rfl rfl)
  have e7 : ∀ K1 D1, Mst K D 7 K1 D1 → V G l d iX12_init 204 [rf 210, (9, 0)] [] (K1, D1, (218, s + 6053)) P := by
    intro K1 D1 h
    have k210 := h.2.1
    refine s_al0 rfl ?_
    refine s_ic rfl ?_
    refine s_newa (n := 16) rfl ⟨by show _ ≤ 2000; omega, by show _ ≤ 200000; omega⟩ ?_
    refine s_pf rfl ((aUk_ne (by show 210 ≠ 218; omega)).trans k210) rfl rfl ?_
    exact e8 _ _ (Mst_next (m := 7) (b := 14) h (by decide) rfl rfl)
  have e6 : ∀ K1 D1, Mst K D 6 K1 D1 → V G l d iX12_init 196 [rf 210, (9, 0)] [] (K1, D1, (217, s + 6029)) P := by
    intro K1 D1 h
    have k210 := h.2.1
    refine s_al0 rfl ?_
    refine s_ic rfl ?_
    refine s_newa (n := 24) rfl ⟨by show _ ≤ 2000; omega, by show _ ≤ 200000; omega⟩ ?_
    refine s_pf rfl ((aUk_ne (by show 210 ≠ 217; omega)).trans k210) rfl rfl ?_
    exact e7 _ _ (Mst_next (m := 6) (b := 13) h (by decide) rfl rfl)
  have e5 : ∀ K1 D1, Mst K D 5 K1 D1 → V G l d iX12_init 189 [rf 210, (9, 0)] [] (K1, D1, (216, s + 6027)) P := by
    intro K1 D1 h
    have k210 := h.2.1
    refine s_al0 rfl ?_
    refine s_ic rfl ?_
    refine s_newa (n := 2) rfl ⟨by show _ ≤ 2000; omega, by show _ ≤ 200000; omega⟩ ?_
    refine s_pf rfl ((aUk_ne (by show 210 ≠ 216; omega)).trans k210) rfl rfl ?_
    exact e6 _ _ (Mst_next (m := 5) (b := 12) h (by decide) rfl rfl)
  have e4 : ∀ K1 D1, Mst K D 4 K1 D1 → V G l d iX12_init 40 [rf 210, (9, 0)] [] (K1, D1, (215, s + 6006)) P := by
    intro K1 D1 h
    have k210 := h.2.1
    refine s_al0 rfl ?_
    refine s_ic rfl ?_
    refine s_newa (n := 21) rfl ⟨by show _ ≤ 2000; omega, by show _ ≤ 200000; omega⟩ ?_
    refine s_dup rfl (by first | decide | (show (2 : Nat) ≠ 1; decide)) ?_
    refine s_ic rfl ?_
    refine s_lc rfl ?_
    refine s_last rfl aUk_at (by decide) ?_
    refine s_dup rfl (by first | decide | (show (2 : Nat) ≠ 1; decide)) ?_
    refine s_ic rfl ?_
    refine s_lc rfl ?_
    refine s_last rfl aUk_at (by decide) ?_
    refine s_dup rfl (by first | decide | (show (2 : Nat) ≠ 1; decide)) ?_
    refine s_ic rfl ?_
    refine s_lc rfl ?_
    refine s_last rfl aUk_at (by decide) ?_
    refine s_dup rfl (by first | decide | (show (2 : Nat) ≠ 1; decide)) ?_
    refine s_ic rfl ?_
    refine s_lc rfl ?_
    refine s_last rfl aUk_at (by decide) ?_
    refine s_dup rfl (by first | decide | (show (2 : Nat) ≠ 1; decide)) ?_
    refine s_ic rfl ?_
    refine s_lc rfl ?_
    refine s_last rfl aUk_at (by decide) ?_
    refine s_dup rfl (by first | decide | (show (2 : Nat) ≠ 1; decide)) ?_
    refine s_ic rfl ?_
    refine s_lc rfl ?_
    refine s_last rfl aUk_at (by decide) ?_
    refine s_dup rfl (by first | decide | (show (2 : Nat) ≠ 1; decide)) ?_
    refine s_ic rfl ?_
    refine s_lc rfl ?_
    refine s_last rfl aUk_at (by decide) ?_
    refine s_dup rfl (by first | decide | (show (2 : Nat) ≠ 1; decide)) ?_
    refine s_ic rfl ?_
    refine s_lc rfl ?_
    refine s_last rfl aUk_at (by decide) ?_
    refine s_dup rfl (by first | decide | (show (2 : Nat) ≠ 1; decide)) ?_
    refine s_ic rfl ?_
    refine s_lc rfl ?_
    refine s_last rfl aUk_at (by decide) ?_
    refine s_dup rfl (by first | decide | (show (2 : Nat) ≠ 1; decide)) ?_
    refine s_ic rfl ?_
    refine s_lc rfl ?_
    refine s_last rfl aUk_at (by decide) ?_
    refine s_dup rfl (by first | decide | (show (2 : Nat) ≠ 1; decide)) ?_
    refine s_ic rfl ?_
    refine s_lc rfl ?_
    refine s_last rfl aUk_at (by decide) ?_
    refine s_dup rfl (by first | decide | (show (2 : Nat) ≠ 1; decide)) ?_
    refine s_ic rfl ?_
    refine s_lc rfl ?_
    refine s_last rfl aUk_at (by decide) ?_
    refine s_dup rfl (by first | decide | (show (2 : Nat) ≠ 1; decide)) ?_
    refine s_ic rfl ?_
    refine s_lc rfl ?_
    refine s_last rfl aUk_at (by decide) ?_
    refine s_dup rfl (by first | decide | (show (2 : Nat) ≠ 1; decide)) ?_
    refine s_ic rfl ?_
    refine s_lc rfl ?_
    refine s_last rfl aUk_at (by decide) ?_
    refine s_dup rfl (by first | decide | (show (2 : Nat) ≠ 1; decide)) ?_
    refine s_ic rfl ?_
    refine s_lc rfl ?_
    refine s_last rfl aUk_at (by decide) ?_
    refine s_dup rfl (by first | decide | (show (2 : Nat) ≠ 1; decide)) ?_
    refine s_ic rfl ?_
    refine s_lc rfl ?_
    refine s_last rfl aUk_at (by decide) ?_
    refine s_dup rfl (by first | decide | (show (2 : Nat) ≠ 1; decide)) ?_
    refine s_ic rfl ?_
    refine s_lc rfl ?_
    refine s_last rfl aUk_at (by decide) ?_
    refine s_dup rfl (by first | decide | (show (2 : Nat) ≠ 1; decide)) ?_
    refine s_ic rfl ?_
    refine s_lc rfl ?_
    refine s_last rfl aUk_at (by decide) ?_
    refine s_dup rfl (by first | decide | (show (2 : Nat) ≠ 1; decide)) ?_
    refine s_ic rfl ?_
    refine s_lc rfl ?_
    refine s_last rfl aUk_at (by decide) ?_
    refine s_dup rfl (by first | decide | (show (2 : Nat) ≠ 1; decide)) ?_
    refine s_ic rfl ?_
    refine s_lc rfl ?_
    refine s_last rfl aUk_at (by decide) ?_
    refine s_dup rfl (by first | decide | (show (2 : Nat) ≠ 1; decide)) ?_
    refine s_ic rfl ?_
    refine s_lc rfl ?_
    refine s_last rfl aUk_at (by decide) ?_
    refine s_pf rfl ((aUk_ne (by show 210 ≠ 215; omega)).trans k210) rfl rfl ?_
    refine e5 _ _ ⟨fun r hr => ⟨?_, ?_⟩, ?_, fun r q1 q2 => ?_, fun r q1 q2 => absurd q1 (by omega), fun _ w hw => ?_, fun j => ?_⟩
    · rw [aUk_ne (by omega), aUk_ne (by omega)]; exact (h.1 r hr).1
    · repeat' first | rw [aUp_row (by omega)] | rw [aUz_ne (by omega)]
      exact (h.1 r hr).2
    · rw [aUk_at]; rfl
    · rw [aUk_ne (by omega)]
      by_cases q : r = 215
      · rw [q]; exact aUk_at
      · rw [aUk_ne q]; exact h.2.2.1 r q1 (by omega)
    · rcases (by omega : w = 0 ∨ w = 1 ∨ w = 2 ∨ w = 3 ∨ w = 4 ∨ w = 5 ∨ w = 6 ∨ w = 7 ∨ w = 8 ∨ w = 9 ∨ w = 10 ∨ w = 11 ∨ w = 12 ∨ w = 13 ∨ w = 14 ∨ w = 15 ∨ w = 16 ∨ w = 17 ∨ w = 18 ∨ w = 19 ∨ w = 20) with q | q | q | q | q | q | q | q | q | q | q | q | q | q | q | q | q | q | q | q | q <;> subst q <;> rfl
    · repeat' first | rw [aUp_row (by decide)] | rw [aUz_ne (by decide)]
      exact h.2.2.2.2.2 j
  have e3 : ∀ K1 D1, Mst K D 3 K1 D1 → V G l d iX12_init 31 [rf 210, (9, 0)] [] (K1, D1, (214, s + 4504)) P := by
    intro K1 D1 h
    have k210 := h.2.1
    refine s_al0 rfl ?_
    refine s_ic rfl ?_
    refine s_newa (n := 1502) rfl ⟨by show _ ≤ 2000; omega, by show _ ≤ 200000; omega⟩ ?_
    refine s_pf rfl ((aUk_ne (by show 210 ≠ 214; omega)).trans k210) rfl rfl ?_
    exact e4 _ _ (Mst_next (m := 3) (b := 6) h (by decide) rfl rfl)
  have e2 : ∀ K1 D1, Mst K D 2 K1 D1 → V G l d iX12_init 22 [rf 210, (9, 0)] [] (K1, D1, (213, s + 3002)) P := by
    intro K1 D1 h
    have k210 := h.2.1
    refine s_al0 rfl ?_
    refine s_ic rfl ?_
    refine s_newa (n := 1502) rfl ⟨by show _ ≤ 2000; omega, by show _ ≤ 200000; omega⟩ ?_
    refine s_pf rfl ((aUk_ne (by show 210 ≠ 213; omega)).trans k210) rfl rfl ?_
    exact e3 _ _ (Mst_next (m := 2) (b := 5) h (by decide) rfl rfl)
  have e1 : ∀ K1 D1, Mst K D 1 K1 D1 → V G l d iX12_init 13 [rf 210, (9, 0)] [] (K1, D1, (212, s + 1500)) P := by
    intro K1 D1 h
    have k210 := h.2.1
    refine s_al0 rfl ?_
    refine s_ic rfl ?_
    refine s_newa (n := 1502) rfl ⟨by show _ ≤ 2000; omega, by show _ ≤ 200000; omega⟩ ?_
    refine s_pf rfl ((aUk_ne (by show 210 ≠ 212; omega)).trans k210) rfl rfl ?_
    exact e2 _ _ (Mst_next (m := 1) (b := 4) h (by decide) rfl rfl)
  have e0 : ∀ K1 D1, Mst K D 0 K1 D1 → V G l d iX12_init 4 [rf 210, (9, 0)] [] (K1, D1, (211, s + 0)) P := by
    intro K1 D1 h
    have k210 := h.2.1
    refine s_al0 rfl ?_
    refine s_ic rfl ?_
    refine s_newa (n := 1500) rfl ⟨by show _ ≤ 2000; omega, by show _ ≤ 200000; omega⟩ ?_
    refine s_pf rfl ((aUk_ne (by show 210 ≠ 211; omega)).trans k210) rfl rfl ?_
    exact e1 _ _ (Mst_next (m := 0) (b := 1) h (by decide) rfl rfl)
  refine VM_go (tg2 rfl) (Nat.le_of_ble_eq_true rfl) ?_
  refine s_al0 rfl ?_
  refine s_oi rfl rfl ?_
  refine e0 _ _ ⟨fun _ _ => ⟨rfl, rfl⟩, hc.trans rfl, fun r q1 q2 => absurd q1 (by omega), fun r q1 q2 => absurd q1 (by omega), fun q => absurd q (by decide), hz⟩
end
