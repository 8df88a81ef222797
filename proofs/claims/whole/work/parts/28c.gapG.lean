/-! ===== the coupling's states and a cell that is not ours ===== -/
def rfK (r : Nat) : Bool := match kK r with
  | (t, n, rs) => bif Nat.blt t 13 then (List.range (aNf t)).all (fun k => Nat.blt (aFc t k) 5 && (bif Nat.beq (aFc t k) 2 then Nat.blt (rs.getD k 0) 279 else true) && (bif Nat.beq (aFc t k) 3 then (Nat.beq r 1 && Nat.beq k 6) || (Nat.beq r 5 && Nat.beq k 3) else true))
    else bif Nat.beq t 17 then Nat.beq r 108 && Nat.ble n 60
    else bif Nat.beq t 18 then (List.range n).all (fun i => Nat.blt (rs.getD i 0) 279) else true
theorem rfK_ok : (List.range 279).all rfK = true := by decide +kernel
section
variable {D : Nat → Int → Int} {T T2 nt m n s0 : Nat} {wo : Int → Int} {cn : Nat → Nat} {cc : Nat → Nat → Int × Int} {K : Nat → aKd} {z : Nat × Nat}
theorem RfC_of (hX : giX s0 m T T2 nt n wo cn cc K D z) : ∀ r : Nat, 1 ≤ r → r < z.1 → RfC (K, D, z) r := by
  intro r r1 r2
  have hT : isT T := hX.1.2.2.2.1
  obtain ⟨⟨hk, ⟨m60, ez, -, hS, hS0⟩, -, -⟩, -, -, ⟨f1, f2, f3, -⟩, -⟩ := hX
  have hT2 : T2 = 8 ∨ T2 = 129 := f3
  have hz : z.1 = 279 + 10 * m := by rw [ez]
  by_cases q : r < 279
  · have e : K r = kK r := hk r (by rw [Nat.blt_eq]; exact q)
    have b := List.all_eq_true.mp rfK_ok r (List.mem_range.mpr q)
    unfold rfK at b
    unfold RfC
    show ((K r).1 < 13 → _) ∧ _
    dsimp only
    rw [e]
    generalize hk2 : kK r = k at b
    obtain ⟨t, n', rs⟩ := k
    dsimp only at b ⊢
    refine ⟨fun h13 k hk3 => ?_, fun h17 i hi => ?_, fun h18 i hi => ?_⟩
    · rw [show Nat.blt t 13 = true from by rw [Nat.blt_eq]; exact h13, cond_true] at b
      have b := List.all_eq_true.mp b k (List.mem_range.mpr hk3)
      rw [Bool.and_eq_true, Bool.and_eq_true, Nat.blt_eq] at b
      obtain ⟨⟨b1, b2⟩, b3⟩ := b
      refine ⟨fun h2 => ?_, fun h3 => ?_, b1⟩
      · rw [h2, show Nat.beq 2 2 = true from rfl, cond_true, Nat.blt_eq] at b2
        rw [hz]; omega
      · rw [h3, show Nat.beq 3 3 = true from rfl, cond_true, Bool.or_eq_true, Bool.and_eq_true, Bool.and_eq_true, Nat.beq_eq, Nat.beq_eq, Nat.beq_eq, Nat.beq_eq] at b3
        rw [hz]
        rcases b3 with ⟨rfl, rfl⟩ | ⟨rfl, rfl⟩
        · have hT' : T = 8 ∨ T = 129 := hT
          show D 1 6 < _
          rw [f1]; omega
        · show D 5 3 < _
          rw [f2]; omega
    · subst h17
      rw [show Nat.blt 17 13 = false from rfl, cond_false, show Nat.beq 17 17 = true from rfl, cond_true, Bool.and_eq_true, Nat.beq_eq, Nat.ble_eq] at b
      obtain ⟨rfl, b2⟩ := b
      have hi : i < n' := hi
      rw [hz]
      by_cases qi : i < m
      · rw [(hS i qi).1]; omega
      · rw [hS0 i (by omega) (by omega)]; omega
    · subst h18
      rw [show Nat.blt 18 13 = false from rfl, cond_false, show Nat.beq 18 17 = false from rfl, cond_false, show Nat.beq 18 18 = true from rfl, cond_true] at b
      have b := List.all_eq_true.mp b i (List.mem_range.mpr hi)
      rw [Nat.blt_eq] at b
      rw [hz]; omega
  · obtain ⟨e, j, he, hj, hr⟩ : ∃ e j : Nat, e < m ∧ j < 10 ∧ r = 279 + 10 * e + j := ⟨(r - 279) / 10, (r - 279) % 10, by omega, by omega, by omega⟩
    obtain ⟨-, -, k0, k1, k2, k3, k4, k5, k6, k7, k8, k9⟩ := hS e he
    have small : ∀ n', K r = (14, n', []) → RfC (K, D, z) r := fun n' ee => by
      unfold RfC
      show ((K r).1 < 13 → _) ∧ _
      dsimp only
      rw [ee]
      exact ⟨fun h => absurd h (by show ¬ 14 < 13; decide), fun h => absurd h (by show ¬ 14 = 17; decide), fun h => absurd h (by show ¬ 14 = 18; decide)⟩
    rcases (by omega : j = 0 ∨ j = 1 ∨ j = 2 ∨ j = 3 ∨ j = 4 ∨ j = 5 ∨ j = 6 ∨ j = 7 ∨ j = 8 ∨ j = 9) with rfl | rfl | rfl | rfl | rfl | rfl | rfl | rfl | rfl | rfl
    · rw [Nat.add_zero] at hr
      have ee := k0
      rw [← hr] at ee
      unfold RfC
      show ((K r).1 < 13 → _) ∧ _
      dsimp only
      rw [ee]
      refine ⟨fun _ k hk3 => ?_, fun h => absurd h (by show ¬ 3 = 17; decide), fun h => absurd h (by show ¬ 3 = 18; decide)⟩
      have hk3 : k < 17 := hk3
      rw [hz]
      show (aFc 3 k = 2 → _) ∧ (aFc 3 k = 3 → _) ∧ aFc 3 k < 5
      rcases (by omega : k = 0 ∨ k = 1 ∨ k = 2 ∨ k = 3 ∨ k = 4 ∨ k = 5 ∨ k = 6 ∨ k = 7 ∨ k = 8 ∨ k = 9 ∨ k = 10 ∨ k = 11 ∨ k = 12 ∨ k = 13 ∨ k = 14 ∨ k = 15 ∨ k = 16) with rfl | rfl | rfl | rfl | rfl | rfl | rfl | rfl | rfl | rfl | rfl | rfl | rfl | rfl | rfl | rfl | rfl
      all_goals refine ⟨fun h => ?_, fun h => absurd h (by decide), by decide⟩
      all_goals (simp only [List.getD_eq_getElem?_getD, List.getElem?_cons_succ, List.getElem?_cons_zero, Option.getD_some]; omega)
    · exact small 12 (by rw [hr]; exact k1)
    · exact small 12 (by rw [hr]; exact k2)
    · exact small 12 (by rw [hr]; exact k3)
    · exact small 24 (by rw [hr]; exact k4)
    · exact small 24 (by rw [hr]; exact k5)
    · exact small 24 (by rw [hr]; exact k6)
    · exact small 24 (by rw [hr]; exact k7)
    · exact small 24 (by rw [hr]; exact k8)
    · exact small 24 (by rw [hr]; exact k9)
end
theorem GIv6 {s0 : Nat} {st : aSt} (hs : s0 ≤ 100000) (hG : GIv s0 st) : GIv (s0 + 6) (aS6 st) := by
  obtain ⟨K, D, z⟩ := st
  obtain ⟨m, T, T2, nt, n, wo, cn, cc, ⟨⟨hk, ⟨m60, ez, es, hS⟩, hc⟩, hX⟩⟩ := hG
  have ez : z = (279 + 10 * m, s0 + 197 * m) := ez
  refine ⟨m, T, T2, nt, n, wo, cn, cc, ⟨⟨hk, ⟨m60, ?_, by omega, hS⟩, hc⟩, hX⟩⟩
  show (z.1, z.2 + 6) = (279 + 10 * m, s0 + 6 + 197 * m)
  rw [ez, show s0 + 197 * m + 6 = s0 + 6 + 197 * m from by omega]
theorem can6 {s0 : Nat} {st : aSt} (hs : s0 ≤ 100000) (hG : GIv s0 st) (hC : aCan st) : aCan (aS6 st) := by
  obtain ⟨K, D, z⟩ := st
  obtain ⟨m, T, T2, nt, n, wo, cn, cc, ⟨⟨hk, ⟨m60, ez, es, hS⟩, hc⟩, hX⟩⟩ := hG
  have ez : z = (279 + 10 * m, s0 + 197 * m) := ez
  obtain ⟨c1, ⟨c2, c3, c4⟩, c5, c6⟩ := hC
  refine ⟨c1, ⟨c2, c3, ?_⟩, c5, c6⟩
  show z.2 + 6 ≤ 200000
  rw [ez]
  show s0 + 197 * m + 6 ≤ 200000
  omega
