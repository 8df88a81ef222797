/-! ===== trials: storms ===== -/
def bcF (x : Int) : Int :=
  let a := wr (x - bAnd (bUsh x 1) 1431655765)
  let b := wr (bAnd a 858993459 + bAnd (bUsh a 2) 858993459)
  let c := bAnd (wr (b + bUsh b 4)) 252645135
  let e := wr (c + bUsh c 8)
  let f := wr (e + bUsh e 16)
  bAnd f 63
def popc (s : Nat) : Nat := s % 2 + s / 2 % 2 + s / 4 % 2 + s / 8 % 2 + s / 16 % 2 + s / 32 % 2
theorem bc_ok : ∀ s : Nat, s < 64 → bcF s = popc s := by decide +kernel
def prF (jo st : Int → Int) : Nat → Int
  | 0 => 0
  | n + 1 => if jo n = -1 then prF jo st n else bOr (prF jo st n) (bShl 1 (st n))
def okS (p : Int) (s : Nat) : Bool := decide (bAnd s (bXor p (-1)) = 0)
def wsI (p : Int) (bu : Nat → Int) (sz : Nat) (w0 : Nat) : Nat → Nat
  | 0 => w0
  | n + 1 => if okS p n = true ∧ popc n = sz ∧ bu (wsI p bu sz w0 n) < bu n then n else wsI p bu sz w0 n
def wsF (p : Int) (bu : Nat → Int) : Nat → Nat
  | 0 => 0
  | k + 1 => wsI p bu (k + 1) (wsF p bu k) 64
theorem wsI_in {p : Int} {bu : Nat → Int} {sz w0 : Nat} (h : w0 < 64 ∧ okS p w0 = true) : ∀ n, n ≤ 64 → wsI p bu sz w0 n < 64 ∧ okS p (wsI p bu sz w0 n) = true := by
  intro n
  induction n with
  | zero => intro _; exact h
  | succ n ih =>
    intro hn
    rw [wsI]
    split
    · rename_i q; exact ⟨by omega, q.1⟩
    · exact ih (by omega)
theorem okS_0 {p : Int} : okS p 0 = true := by
  unfold okS bAnd
  rw [show Int32.ofInt ((0 : Nat) : Int) = 0 from rfl, Int32.zero_and]
  decide
theorem wsF_in {p : Int} {bu : Nat → Int} : ∀ k, wsF p bu k < 64 ∧ okS p (wsF p bu k) = true := by
  intro k
  induction k with
  | zero => exact ⟨show 0 < 64 by decide, okS_0⟩
  | succ k ih => exact wsI_in ih 64 (Nat.le_refl _)
section
variable {G : aCX} {l : Launch} {d : Nat} {K : Nat → aKd} {D : Nat → Int → Int} {z : Nat × Nat} {P : Int → aSt → Prop}
theorem v_bitCount {s : Nat} (hs : s < 64) (kk : P (popc s) (K, D, z)) : VM G l d iJ6_bitCount_0f7a4 [(0, (s : Int))] (K, D, z) P := by
  have e := bc_ok s hs
  refine VM_go (tg2 rfl) (Nat.le_of_ble_eq_true rfl) ?_
  refine s_il0 rfl ?_
  refine s_il0 rfl ?_
  refine s_ic rfl ?_
  refine s_iushr rfl ?_
  refine s_ic rfl ?_
  refine s_iand rfl ?_
  refine s_isubW rfl ?_
  refine s_is0 rfl ?_
  refine s_il0 rfl ?_
  refine s_ic rfl ?_
  refine s_iand rfl ?_
  refine s_il0 rfl ?_
  refine s_ic rfl ?_
  refine s_iushr rfl ?_
  refine s_ic rfl ?_
  refine s_iand rfl ?_
  refine s_iaddW rfl ?_
  refine s_is0 rfl ?_
  refine s_il0 rfl ?_
  refine s_il0 rfl ?_
  refine s_ic rfl ?_
  refine s_iushr rfl ?_
  refine s_iaddW rfl ?_
  refine s_ic rfl ?_
  refine s_iand rfl ?_
  refine s_is0 rfl ?_
  refine s_il0 rfl ?_
  refine s_il0 rfl ?_
  refine s_ic rfl ?_
  refine s_iushr rfl ?_
  refine s_iaddW rfl ?_
  refine s_is0 rfl ?_
  refine s_il0 rfl ?_
  refine s_il0 rfl ?_
  refine s_ic rfl ?_
  refine s_iushr rfl ?_
  refine s_iaddW rfl ?_
  refine s_is0 rfl ?_
  refine s_il0 rfl ?_
  refine s_ic rfl ?_
  refine s_iand rfl ?_
  refine s_reti rfl rfl ?_
  show P (bcF s) (K, D, z)
  rw [e]
  exact kk
theorem v_stormsThatCount {n : Nat} (hk : Kn K) (hn : n ≤ 60) (h0 : D 89 0 = n) (kk : P (prF (D 112) (D 94) n) (K, D, z)) : VM G l d iX10_stormsThatCount [rf 116] (K, D, z) P := by
  have loop : ∀ (m i : Nat), i + m = n → V G l d iX10_stormsThatCount 4 [rf 116, (0, prF (D 112) (D 94) i), (0, (i : Int))] [] (K, D, z) P := by
    intro m
    induction m with
    | zero =>
      intro i hm
      have hi : i = n := by omega
      subst hi
      refine s_il2 rfl ?_
      refine s_al0 rfl ?_
      refine s_gf rfl (hk.at rfl rfl) rfl rfl ?_
      refine s_gf rfl (hk.at rfl rfl) rfl rfl ?_
      refine s_gi rfl (hk.at rfl rfl) rfl ?_
      rw [h0]
      refine s_cge rfl ?_ ?_
      · intro h15
        refine s_il1 rfl ?_
        refine s_reti rfl rfl ?_
        exact kk
      · intro h15
        omega
    | succ m ih =>
      intro i hm
      have nx : ∀ w, w = prF (D 112) (D 94) (i + 1) → V G l d iX10_stormsThatCount 51 [rf 116, (0, w), (0, (i : Int))] [] (K, D, z) P := by
        intro w hw
        subst hw
        refine s_iinc2 rfl rfl ⟨by omega, by omega⟩ ?_
        refine s_go rfl ?_
        exact ih (i + 1) (by omega)
      refine s_il2 rfl ?_
      refine s_al0 rfl ?_
      refine s_gf rfl (hk.at rfl rfl) rfl rfl ?_
      refine s_gf rfl (hk.at rfl rfl) rfl rfl ?_
      refine s_gi rfl (hk.at rfl rfl) rfl ?_
      rw [h0]
      refine s_cge rfl ?_ ?_
      · intro h15
        omega
      · intro h15
        refine s_al0 rfl ?_
        refine s_gf rfl (hk.at rfl rfl) rfl rfl ?_
        refine s_gf rfl (hk.at rfl rfl) rfl rfl ?_
        refine s_gf rfl (hk.at rfl rfl) rfl rfl ?_
        refine s_il2 rfl ?_
        refine s_iald rfl (hk.at rfl rfl) (by omega) ?_
        refine s_ic rfl ?_
        refine s_ceq rfl ?_ ?_
        · intro h31
          exact nx _ (by rw [prF, if_pos h31])
        · intro h31
          refine s_il1 rfl ?_
          refine s_ic rfl ?_
          refine s_al0 rfl ?_
          refine s_gf rfl (hk.at rfl rfl) rfl rfl ?_
          refine s_gf rfl (hk.at rfl rfl) rfl rfl ?_
          refine s_gf rfl (hk.at rfl rfl) rfl rfl ?_
          refine s_il2 rfl ?_
          refine s_iald rfl (hk.at rfl rfl) (by omega) ?_
          refine s_ishl rfl ?_
          refine s_ior rfl ?_
          refine s_is1 rfl rfl ?_
          exact nx _ (by rw [prF, if_neg h31])
  refine VM_go (tg2 rfl) (Nat.le_of_ble_eq_true rfl) ?_
  refine s_ic rfl ?_
  refine s_is1 rfl rfl ?_
  refine s_ic rfl ?_
  refine s_is2 rfl rfl ?_
  exact loop n 0 (by omega)
theorem v_worstSet {h : Int} {bu : Nat → Int} {k : Nat} (hk : Kn K) (hh : 0 ≤ h ∧ h < 12) (hb : ∀ s : Nat, s < 64 → okS (D 116 7) s = true → D 120 (s * 12 + h) = bu s) (hk6 : k ≤ 6) (kk : P (wsF (D 116 7) bu k) (K, D, z)) : VM G l (d + 1) iX10_worstSet [rf 116, (0, h), (0, (k : Int))] (K, D, z) P := by
  have loop : ∀ (m i : Nat) (u5 : aTV), i + m = k → V G l (d + 1) iX10_worstSet 5 [rf 116, (0, h), (0, (k : Int)), (0, (wsF (D 116 7) bu i : Int)), (0, ((i + 1 : Nat) : Int)), u5] [] (K, D, z) P := by
    intro m
    induction m with
    | zero =>
      intro i u5 hm
      have hi : i = k := by omega
      subst hi
      refine s_il4 rfl ?_
      refine s_il2 rfl ?_
      refine s_cgt rfl ?_ ?_
      · intro h8
        refine s_il3 rfl ?_
        refine s_reti rfl rfl ?_
        exact kk
      · intro h8
        omega
    | succ m ih =>
      intro i u5 hm
      have w0 := wsF_in (p := D 116 7) (bu := bu) i
      have inner : ∀ (n j : Nat), j + n = 64 → V G l (d + 1) iX10_worstSet 14 [rf 116, (0, h), (0, (k : Int)), (0, (wsI (D 116 7) bu (i + 1) (wsF (D 116 7) bu i) j : Int)), (0, ((i + 1 : Nat) : Int)), (0, (j : Int))] [] (K, D, z) P := by
        intro n
        induction n with
        | zero =>
          intro j hj
          have hj2 : j = 64 := by omega
          subst hj2
          refine s_il5 rfl ?_
          refine s_ic rfl ?_
          refine s_cge rfl ?_ ?_
          · intro h18
            refine s_iinc4 rfl rfl ⟨by omega, by omega⟩ ?_
            refine s_go rfl ?_
            exact ih (i + 1) _ (by omega)
          · intro h18
            exact absurd h18 (by decide)
        | succ n ihn =>
          intro j hj
          have w1 := wsI_in (bu := bu) (sz := i + 1) w0 j (by omega)
          have b1 := hb _ w1.1 w1.2
          generalize hw1 : wsI (D 116 7) bu (i + 1) (wsF (D 116 7) bu i) j = w at *
          have nx : ∀ x : Nat, x = wsI (D 116 7) bu (i + 1) (wsF (D 116 7) bu i) (j + 1) → V G l (d + 1) iX10_worstSet 72 [rf 116, (0, h), (0, (k : Int)), (0, (x : Int)), (0, ((i + 1 : Nat) : Int)), (0, (j : Int))] [] (K, D, z) P := by
            intro x hx
            subst hx
            refine s_iinc5 rfl rfl ⟨by omega, by omega⟩ ?_
            refine s_go rfl ?_
            exact ihn (j + 1) (by omega)
          refine s_il5 rfl ?_
          refine s_ic rfl ?_
          refine s_cge rfl ?_ ?_
          · intro h18
            omega
          · intro h18
            refine s_il5 rfl ?_
            refine s_al0 rfl ?_
            refine s_gi rfl (hk.at rfl rfl) rfl ?_
            refine s_ic rfl ?_
            refine s_ixor rfl ?_
            refine s_iand rfl ?_
            refine s_zne rfl ?_ ?_
            · intro h30
              have q : ¬ okS (D 116 7) j = true := fun x => h30 (of_decide_eq_true x)
              exact nx _ (by rw [wsI, if_neg (fun x => q x.1), hw1])
            · intro h30
              have q : okS (D 116 7) j = true := decide_eq_true h30
              have b2 := hb j (by omega) q
              refine s_il5 rfl ?_
              refine s_callS rfl rfl rfl rfl (v_bitCount (by omega) ?_)
              show V G l (d + 1) iX10_worstSet 38 [rf 116, (0, h), (0, (k : Int)), (0, (w : Int)), (0, ((i + 1 : Nat) : Int)), (0, (j : Int))] [(0, (popc j : Int))] (K, D, z) P
              refine s_il4 rfl ?_
              refine s_cne rfl ?_ ?_
              · intro h40
                exact nx _ (by rw [wsI, if_neg (fun x => h40 (by rw [x.2.1])), hw1])
              · intro h40
                refine s_al0 rfl ?_
                refine s_gf rfl (hk.at rfl rfl) rfl rfl ?_
                refine s_il5 rfl ?_
                refine s_ic rfl ?_
                refine s_imul rfl ⟨by omega, by omega⟩ ?_
                refine s_il1 rfl ?_
                refine s_iadd rfl ⟨by omega, by omega⟩ ?_
                refine s_iald rfl (hk.at rfl rfl) (by omega) ?_
                rw [b2]
                refine s_al0 rfl ?_
                refine s_gf rfl (hk.at rfl rfl) rfl rfl ?_
                refine s_il3 rfl ?_
                refine s_ic rfl ?_
                refine s_imul rfl ⟨by omega, by omega⟩ ?_
                refine s_il1 rfl ?_
                refine s_iadd rfl ⟨by omega, by omega⟩ ?_
                refine s_iald rfl (hk.at rfl rfl) (by omega) ?_
                rw [b1]
                refine s_cle rfl ?_ ?_
                · intro h66
                  exact nx _ (by rw [wsI, hw1, if_neg (fun x => by have := x.2.2; omega)])
                · intro h66
                  refine s_il5 rfl ?_
                  refine s_is3 rfl rfl ?_
                  exact nx _ (by rw [wsI, hw1, if_pos ⟨q, by omega, h66⟩])
      refine s_il4 rfl ?_
      refine s_il2 rfl ?_
      refine s_cgt rfl ?_ ?_
      · intro h8
        omega
      · intro h8
        refine s_ic rfl ?_
        refine s_is5 rfl rfl ?_
        exact inner 64 0 rfl
  refine VM_go (tg2 rfl) (Nat.le_of_ble_eq_true rfl) ?_
  refine s_ic rfl ?_
  refine s_is3 rfl rfl ?_
  refine s_ic rfl ?_
  refine s_is4 rfl rfl ?_
  exact loop k 0 _ (by omega)
end
