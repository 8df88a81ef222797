/-! ===== the law's start ===== -/
section
variable {B : Nat} {g2 : va_G × (Nat → ClassId) × Heap × aEx} {l : Launch} {p : Program} {e : Env} {R : Room} {s : State} {m : MethodId} {args : Array Value} {below : List Frame} {meth : Method} {c : Code} {Q : State → Prop} {b Ls : Nat} {xs : Nat → Int32} {adK adV adT : Nat → Nat}
theorem lw_init (hX : ∀ gm : Nat → Nat, aCtx ((B, gm), g2) 33 mL_law p R s m args meth c) (hsE : ∀ vm, g2.2.2.2.1 vm → sE B g2.2.2.1 adK adV vm) (hB : B + 1 = s.heap.size) (hh : g2.2.2.1 = s.heap) {ls : Array Slot} (hl : lv_has ls 7 [(0, .ref b)]) (kk : ∀ (ls : Array Slot) (st : aSt) (H : Heap) (locs : List Loc), lv_has ls 7 (lwV b (aAd ((B, fun _ => 0), g2) 1) (aAd ((B, fun _ => 0), g2) 210) (aAd ((B, fun _ => 0), g2) 278) 0) → GIv 37895 st → aCan st → aHold ((B, fun _ => 0), g2) st H → (∀ q ∈ locs, B < q.base) → W p l e R s m args below meth c H locs 3000 200000 Q (F0 m 23 ls [])) : W p l e R s m args below meth c s.heap [] 3000 200000 Q (F0 m 0 ls []) := by
  have hX0 := hX (fun _ => 0)
  have hx := hX0.1
  have hb := hX0.2.1
  have hX2 : aCtx ((B, fun _ => 0), g2) 32 mL_law p R s m args meth c := by
    obtain ⟨a1, a2, a3, a4, a5, a6, a7, a8, a9, a10, a11, a12, a13, a14, a15⟩ := hX0
    exact ⟨a1, a2, a3, a4, a5, a6, a7, a8, a9, a10, by omega, by omega, by omega, by omega, a15⟩
  have hsE0 : ∀ vm, (((B, fun _ => 0), g2) : aCX).2.2.2.2.1 vm → sE (((B, fun _ => 0), g2) : aCX).1.1 (((B, fun _ => 0), g2) : aCX).2.2.2.1 adK adV vm := hsE
  have g0 : ∀ r, gS (fun _ => 0) r = 0 := fun r => by
    induction r with
    | zero => rfl
    | succ r ih => rw [gS, ih]
  have hC0 : aCan (((fun _ => (99, 0, [])), (fun _ _ => 0), (1, 0)) : aSt) := ⟨rfl, ⟨Nat.le_refl _, by decide, Nat.zero_le _⟩, fun _ _ => rfl, fun r i => ⟨fun q => by have q : (9 : Nat) = 1 := q; omega, fun q => by have q : (9 : Nat) = 0 ∨ (9 : Nat) = 4 := q; omega, fun q => by have q : (9 : Nat) = 3 := q; omega⟩⟩
  have hH0 : aHold ((B, fun _ => 0), g2) (((fun _ => (99, 0, [])), (fun _ _ => 0), (1, 0)) : aSt) s.heap := by
    refine ⟨?_, ⟨?_, fun _ _ => rfl, ?_⟩, fun q _ => by show s.heap[q]? = g2.2.2.1[q]?; rw [hh], fun r r1 r2 => ?_⟩
    · show s.heap.size = B + 1 + gS (fun _ => 0) 1
      rw [g0]; omega
    · show hSum (B + 1) s.heap ≤ 0
      unfold hSum
      rw [List.drop_of_length_le (by rw [Array.length_toList]; omega)]
      exact Nat.le_refl _
    · show gS (fun _ => 0) 1 ≤ 1000
      rw [g0]; omega
    · have r2 : r < 1 := r2
      omega
  have hlo0 : ∀ q ∈ ([] : List Loc), B < q.base := fun q hq => by cases hq
  refine lwNew (G := ((B, fun _ => 0), g2)) (ci := 11) (x := 8) (by decide) (by decide) (by decide) hX2 (gW (by decide +kernel)) (by decide +kernel : decode code 0 = .ok (.new 8, 3)) hC0 hH0 (fun H1 hC1 hH1 => ?_)
  refine lv_dup hx hb (by decide +kernel : decode code 3 = .ok (.dup, 1)) rfl ?_
  refine lwCallI (G := ((B, fun _ => 0), g2)) (y := iX11_init) (r := 1) (x := 25) (P := fun _ st => ∃ K D, st = (K, D, (210, 12 + 10508)) ∧ K 0 = (99, 0, []) ∧ (∀ r, 1 ≤ r → r < 210 → K r = kK r) ∧ (D 1 6 = 129 ∧ D 1 8 = -1 ∧ D 1 7 = 0 ∧ D 1 9 = 0 ∧ D 1 10 = 0 ∧ D 1 11 = 0) ∧ D 2 3 = 0 ∧ (∀ i : Nat, i < 21 → D 4 i = kw32 i) ∧ D 5 3 = 8 ∧ (∀ r, 89 ≤ r → r < 129 → ∀ j, D r j = 0) ∧ (∀ j, D 129 j = 0)) hX2 (by decide +kernel) (by decide +kernel) (by decide +kernel) ((congrArg Prod.fst aUk_at).trans (by decide +kernel : (11 : Nat) = (aM iX11_init).2.2.2.2.1.1)) (by decide +kernel) (v_initClass (d := 28) (s := 12) (sgR_of hsE0) (kwR_of hsE0) aUk_at (fun j => by rw [show aUz (fun _ _ => (0 : Int)) 1 1 = fun _ => 0 from aUz_at]) (by decide) (fun K' D' a0 a1 a2 a3 a4 a5 a6 a7 => ⟨K', D', rfl, by rw [a0, aUk_ne (by decide)], a1, a2, a3, a4, a5, a6, a7⟩)) hC1 hH1 hlo0 hl.1 (by show 1 + 0 ≤ 8; decide) (gW (by decide +kernel)) (by decide +kernel : decode code 4 = .ok (.invokespecial 25, 3)) (fun w st2 H2 locs2 hP hC2 hH2 hlo2 => ?_)
  obtain ⟨K, D, rfl, k99, hkk, c1, h23, h4, h53, hz, h129⟩ := hP
  refine lv_astore_n (lv' := [(1, .ref (aAd ((B, fun _ => 0), g2) 1)), (0, .ref b)]) hx hb (by decide +kernel : decode code 7 = .ok (.astore_n 1, 1)) rfl hl (by decide) rfl (fun ls1 hl1 => ?_)
  refine lwNew (G := ((B, fun _ => 0), g2)) (ci := 12) (x := 26) (by show 210 + 1 ≤ 2000; decide) (by show 12 + 10508 + aNf 12 ≤ 200000; decide) (by decide) hX2 (gW (by decide +kernel)) (by decide +kernel : decode code 8 = .ok (.new 26, 3)) hC2 hH2 (fun H3 hC3 hH3 => ?_)
  refine lv_dup hx hb (by decide +kernel : decode code 11 = .ok (.dup, 1)) rfl ?_
  refine lwCallI (G := ((B, fun _ => 0), g2)) (y := iX12_init) (r := 210) (x := 28) (P := fun _ st => ∃ K1 D1, st = (K1, D1, (278, 10604 + 27290)) ∧ (∀ r, r < 210 → K1 r = K r ∧ D1 r = D r) ∧ (∀ r, 210 ≤ r → r < 278 → K1 r = kK r) ∧ (∀ r, 216 ≤ r → r < 278 → r ≠ 219 → r ≠ 220 → ∀ j, D1 r j = 0) ∧ (∀ w : Nat, w < 21 → D1 215 w = wdV w) ∧ (D1 210 36 = -1 ∧ ∀ j : Int, j ≠ 36 → D1 210 j = 0)) hX2 (by decide +kernel) (by decide +kernel) (by decide +kernel) ((congrArg Prod.fst aUk_at).trans (by decide +kernel : (12 : Nat) = (aM iX12_init).2.2.2.2.1.1)) (by decide +kernel) (v_initModel (s := 10604) aUk_at (fun j => by rw [show aUz D 210 210 = fun _ => 0 from aUz_at]) (by decide) (fun K1 D1 a1 a2 a3 a4 a5 => ⟨K1, D1, rfl, fun r hr => ⟨by rw [(a1 r hr).1, aUk_ne (by show r ≠ 210; omega)], by rw [(a1 r hr).2, aUz_ne (by show r ≠ 210; omega)]⟩, a2, a3, a4, a5⟩)) hC3 hH3 hlo2 hl1.1 (by show 1 + 0 ≤ 8; decide) (gW (by decide +kernel)) (by decide +kernel : decode code 12 = .ok (.invokespecial 28, 3)) (fun w4 st4 H4 locs4 hP hC4 hH4 hlo4 => ?_)
  obtain ⟨K1, D1, rfl, m0, m1, m2, m3, m4⟩ := hP
  refine lv_astore_n (lv' := [(2, .ref (aAd ((B, fun _ => 0), g2) 210)), (1, .ref (aAd ((B, fun _ => 0), g2) 1)), (0, .ref b)]) hx hb (by decide +kernel : decode code 15 = .ok (.astore_n 2, 1)) rfl hl1 (by decide) rfl (fun ls2 hl2 => ?_)
  refine lv_iconst (v := Int32.ofInt (Int.ofNat 1)) hx hb (by decide +kernel : decode code 16 = .ok (.iconst 1, 1)) rfl ?_
  refine lwNewL (G := ((B, fun _ => 0), g2)) (n := 1) ⟨by decide, by decide⟩ (by show 278 + 1 ≤ 2000; decide) (by show 10604 + 27290 + 1 ≤ 200000; decide) hX2 (by decide +kernel : decode code 17 = .ok (.newarray .long, 2)) hC4 hH4 (fun H5 hC5 hH5 => ?_)
  refine lv_astore_n (lv' := [(3, .ref (aAd ((B, fun _ => 0), g2) 278)), (2, .ref (aAd ((B, fun _ => 0), g2) 210)), (1, .ref (aAd ((B, fun _ => 0), g2) 1)), (0, .ref b)]) hx hb (by decide +kernel : decode code 19 = .ok (.astore_n 3, 1)) rfl hl2 (by decide) rfl (fun ls3 hl3 => ?_)
  refine lv_iconst (v := Int32.ofNat 0) hx hb (by decide +kernel : decode code 20 = .ok (.iconst 0, 1)) rfl ?_
  refine lv_istore hx hb (by decide +kernel : decode code 21 = .ok (.istore 4, 2)) hl3 (by decide) rfl (fun ls4 hl4 => ?_)
  refine kk ls4 _ H5 locs4 (lv_sub hl4 [4, 3, 2, 1, 0] rfl) ?_ hC5 hH5 hlo4
  have e1 : ∀ r, r ≠ 278 → aUz D1 278 r = D1 r := fun r q => aUz_ne q
  refine gi_start (K := aUk K1 278 (15, 1, [])) (D := aUz D1 278) (fun r hr => ?_) ?_ ?_ (fun i hi => ?_) ?_ (fun r r1 r2 j => ?_) (fun j => ?_) (fun r r1 r2 r3 r4 j => ?_) (fun w hw => ?_) ?_
  · have hr : r < 279 := by
      have := Nat.le_of_ble_eq_true hr
      omega
    rcases (by omega : r = 0 ∨ (1 ≤ r ∧ r < 210) ∨ (210 ≤ r ∧ r < 278) ∨ r = 278) with q | q | q | q
    · subst q
      rw [aUk_ne (by decide), (m0 0 (by decide)).1, k99]; rfl
    · rw [aUk_ne (by omega), (m0 r q.2).1]; exact hkk r q.1 q.2
    · rw [aUk_ne (by omega)]; exact m1 r q.1 q.2
    · subst q
      rw [aUk_at]; rfl
  · rw [e1 1 (by decide), (m0 1 (by decide)).2]; exact c1
  · rw [e1 2 (by decide), (m0 2 (by decide)).2]; exact h23
  · rw [e1 4 (by decide), (m0 4 (by decide)).2]; exact h4 i hi
  · rw [e1 5 (by decide), (m0 5 (by decide)).2]; exact h53
  · rw [e1 r (by omega), (m0 r (by omega)).2]; exact hz r r1 r2 j
  · rw [e1 129 (by decide), (m0 129 (by decide)).2]; exact h129 j
  · rw [e1 r (by omega)]; exact m2 r r1 r2 r3 r4 j
  · rw [e1 215 (by decide)]; exact m3 w hw
  · rw [e1 210 (by decide)]; exact m4
end
