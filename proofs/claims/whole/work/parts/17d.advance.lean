/-! ===== advance ===== -/
def ixS (c : Int) : Int := if sgF c = 1 then -1 else sgF c - 4
/-- the row of SIGNS.indexOf -/
def SgR (G : aCX) (l : Launch) : Prop := ∀ (d : Nat) (c : Int) (u : aTV) (st : aSt) (P : Int → aSt → Prop), 0 ≤ c → c < 128 → V G l d iX7_advance 131 [rf 2, (0, c), u] [(0, ixS c)] st P → V G l d iX7_advance 125 [rf 2, (0, c), u] [] st P
def TpH (s : Int → Int) (n : Nat) (ws : Int → Int) (D : Nat → Int → Int) : Prop := D 3 = s ∧ D 4 = ws ∧ D 2 3 = n ∧ n ≤ 1500 ∧ ∀ i : Nat, i < n → 0 ≤ s i ∧ s i < 128
/-- the tape stands at the token that begins at p -/
def TkC (s : Int → Int) (n : Nat) (ws : Int → Int) (p : Nat) (D : Nat → Int → Int) : Prop := D 2 5 = p ∧ D 2 2 = enF s n p ∧ D 2 4 = kdF s n ws p ∧ (kdF s n ws p = 2 → D 2 6 = pkF 10 48 s p (runE isD s n p - p)) ∧ (kdF s n ws p = 3 ∨ 12 ≤ kdF s n ws p → D 2 7 = pkF 32 96 s p (runE isL s n p - p))
/-- the tape stands at token k, and no FAULT is told -/
def AtC (s : Int → Int) (n : Nat) (ws : Int → Int) (k : Nat) (D : Nat → Int → Int) : Prop := D 2 5 = (tpF s n k : Nat) ∧ D 2 2 = (enF s n (tpF s n k) : Nat) ∧ D 2 4 = kT s n ws k ∧ (kT s n ws k = 2 → D 2 6 = nT s n k) ∧ (kT s n ws k = 3 ∨ 12 ≤ kT s n ws k → D 2 7 = lT3 s n k) ∧ D 5 4 = 0
theorem AtC_of {s ws : Int → Int} {n k : Nat} {D : Nat → Int → Int} (h : TkC s n ws (tpF s n k) D) (h5 : D 5 4 = 0) : AtC s n ws k D := ⟨h.1, h.2.1, h.2.2.1, h.2.2.2.1, h.2.2.2.2, h5⟩
theorem TpH_keep {s ws : Int → Int} {n : Nat} {D D' : Nat → Int → Int} (h : TpH s n ws D) (h3 : D' 3 = D 3) (h4 : D' 4 = D 4) (h2 : D' 2 3 = D 2 3) : TpH s n ws D' := by
  obtain ⟨a1, a2, a3, a4⟩ := h
  exact ⟨h3.trans a1, h4.trans a2, h2.trans a3, a4⟩
section
variable {G : aCX} {l : Launch} {d : Nat} {K : Nat → aKd} {D : Nat → Int → Int} {z : Nat × Nat} {P : Int → aSt → Prop}
theorem v_advance {s ws : Int → Int} {n e : Nat} (hg : SgR G l) (hk : KnL K) (hH : TpH s n ws D) (h2 : D 2 2 = e) (he : e ≤ n) (kk : ∀ D' : Nat → Int → Int, (∀ r, r ≠ 2 → D' r = D r) → D' 2 3 = D 2 3 → TkC s n ws (runE isB s n e) D' → P 0 (K, D', z)) : VM G l (d + 1) iX7_advance [rf 2] (K, D, z) P := by
  obtain ⟨a3, a4, hn, h15, hc⟩ := hH
  have tail : ∀ (p : Nat) (D1 : Nat → Int → Int), p ≤ n → runE isB s n e = p → (∀ r, r ≠ 2 → D1 r = D r) → D1 2 3 = n → D1 2 2 = p → (p < n → ¬ isB (s p) = true) → V G l (d + 1) iX7_advance 52 [rf 2, (9, 0), (9, 0)] [] (K, D1, z) P := by
    intro p D1 hpn hre f q3 q2 hnb
    have e3 : D1 3 = s := (f 3 (by decide)).trans a3
    have e4 : D1 4 = ws := (f 4 (by decide)).trans a4
    subst hre
    generalize hp : runE isB s n e = p at *
    refine s_al0 rfl ?_
    refine s_al0 rfl ?_
    refine s_gi rfl (hk.at rfl rfl) rfl ?_
    try simp only [aUp_app, Nat.reduceEqDiff, Int.reduceEq, eq_self, true_and, false_and, and_false, and_true, if_true, if_false, ↓reduceIte]
    rw [q2]
    refine s_pi rfl (hk.at rfl rfl) rfl ?_
    refine s_al0 rfl ?_
    refine s_gi rfl (hk.at rfl rfl) rfl ?_
    try simp only [aUp_app, Nat.reduceEqDiff, Int.reduceEq, eq_self, true_and, false_and, and_false, and_true, if_true, if_false, ↓reduceIte]
    rw [q2]
    refine s_al0 rfl ?_
    refine s_gi rfl (hk.at rfl rfl) rfl ?_
    try simp only [aUp_app, Nat.reduceEqDiff, Int.reduceEq, eq_self, true_and, false_and, and_false, and_true, if_true, if_false, ↓reduceIte]
    rw [q3]
    refine s_clt rfl ?_ ?_
    · intro h68
      have hcp := hc p (by omega)
      have hlt : ¬ n ≤ p := by omega
      refine s_al0 rfl ?_
      refine s_gf rfl (hk.at rfl rfl) rfl rfl ?_
      refine s_al0 rfl ?_
      refine s_gi rfl (hk.at rfl rfl) rfl ?_
      try simp only [aUp_app, Nat.reduceEqDiff, Int.reduceEq, eq_self, true_and, false_and, and_false, and_true, if_true, if_false, ↓reduceIte]
      rw [q2]
      refine s_cald rfl (hk.at rfl rfl) (by omega) ?_
      try simp only [aUp_app, Nat.reduceEqDiff, Int.reduceEq, eq_self, true_and, false_and, and_false, and_true, if_true, if_false, ↓reduceIte]
      rw [e3]
      refine s_is1 rfl rfl ?_
      refine s_il1 rfl ?_
      refine s_ic rfl ?_
      refine s_clt rfl ?_ ?_
      · intro h90
        refine s_il1 rfl ?_
        refine s_ic rfl ?_
        refine s_clt rfl ?_ ?_
        · intro h109
          refine hg _ _ _ _ _ hcp.1 hcp.2 ?_
          have hl : ¬ isL (s p) = true := fun y => by have := of_decide_eq_true y; omega
          have hd : ¬ isD (s p) = true := fun y => by have := of_decide_eq_true y; omega
          have sg := sgF_in (s p)
          have kd : kdF s n ws p = sgF (s p) := by rw [kdF, if_neg hlt, if_neg hl, if_neg hd]
          have last : ∀ x : Int, x = sgF (s p) → V G l (d + 1) iX7_advance 144 [rf 2, (0, s p), (0, ixS (s p))] [(0, x), rf 2] (K, aUp D1 2 5 p, z) P := by
            intro x hx
            refine s_pi rfl (hk.at rfl rfl) rfl ?_
            refine s_al0 rfl ?_
            refine s_dup rfl (by first | decide | (show (2 : Nat) ≠ 1; decide)) ?_
            refine s_gi rfl (hk.at rfl rfl) rfl ?_
            try simp only [aUp_app, Nat.reduceEqDiff, Int.reduceEq, eq_self, true_and, false_and, and_false, and_true, if_true, if_false, ↓reduceIte]
            rw [q2]
            refine s_ic rfl ?_
            refine s_iadd rfl ⟨by omega, by omega⟩ ?_
            refine s_pi rfl (hk.at rfl rfl) rfl ?_
            refine s_retv rfl rfl ?_
            refine kk _ (fun r hr => by rw [aUp_row hr, aUp_row hr, aUp_row hr]; exact f r hr) (by rw [aUp_ne (by decide), aUp_ne (by decide), aUp_ne (by decide), q3, hn]) ⟨?_, ?_, ?_, fun y => ?_, fun y => ?_⟩
            · rw [aUp_ne (by decide), aUp_ne (by decide), aUp_at]
            · rw [aUp_at, enF, if_neg hlt, if_neg hl, if_neg hd]; omega
            · rw [aUp_ne (by decide), aUp_at, kd]; exact hx
            · rw [kd] at y; omega
            · rw [kd] at y; omega
          refine s_is2 rfl rfl ?_
          refine s_al0 rfl ?_
          refine s_il2 rfl ?_
          refine s_zge rfl ?_ ?_
          · intro h134
            refine s_ic rfl ?_
            refine s_il2 rfl ?_
            have e : ixS (s p) = sgF (s p) - 4 := by unfold ixS at h134 ⊢; split at h134 <;> omega
            refine s_iadd rfl ⟨by omega, by omega⟩ ?_
            exact last _ (by omega)
          · intro h134
            refine s_ic rfl ?_
            refine s_go rfl ?_
            refine last _ ?_
            unfold ixS at h134
            split at h134 <;> omega
        · intro h109
          refine s_il1 rfl ?_
          refine s_ic rfl ?_
          refine s_cgt rfl ?_ ?_
          · intro h115
            refine hg _ _ _ _ _ hcp.1 hcp.2 ?_
            have hl : ¬ isL (s p) = true := fun y => by have := of_decide_eq_true y; omega
            have hd : ¬ isD (s p) = true := fun y => by have := of_decide_eq_true y; omega
            have sg := sgF_in (s p)
            have kd : kdF s n ws p = sgF (s p) := by rw [kdF, if_neg hlt, if_neg hl, if_neg hd]
            have last : ∀ x : Int, x = sgF (s p) → V G l (d + 1) iX7_advance 144 [rf 2, (0, s p), (0, ixS (s p))] [(0, x), rf 2] (K, aUp D1 2 5 p, z) P := by
              intro x hx
              refine s_pi rfl (hk.at rfl rfl) rfl ?_
              refine s_al0 rfl ?_
              refine s_dup rfl (by first | decide | (show (2 : Nat) ≠ 1; decide)) ?_
              refine s_gi rfl (hk.at rfl rfl) rfl ?_
              try simp only [aUp_app, Nat.reduceEqDiff, Int.reduceEq, eq_self, true_and, false_and, and_false, and_true, if_true, if_false, ↓reduceIte]
              rw [q2]
              refine s_ic rfl ?_
              refine s_iadd rfl ⟨by omega, by omega⟩ ?_
              refine s_pi rfl (hk.at rfl rfl) rfl ?_
              refine s_retv rfl rfl ?_
              refine kk _ (fun r hr => by rw [aUp_row hr, aUp_row hr, aUp_row hr]; exact f r hr) (by rw [aUp_ne (by decide), aUp_ne (by decide), aUp_ne (by decide), q3, hn]) ⟨?_, ?_, ?_, fun y => ?_, fun y => ?_⟩
              · rw [aUp_ne (by decide), aUp_ne (by decide), aUp_at]
              · rw [aUp_at, enF, if_neg hlt, if_neg hl, if_neg hd]; omega
              · rw [aUp_ne (by decide), aUp_at, kd]; exact hx
              · rw [kd] at y; omega
              · rw [kd] at y; omega
            refine s_is2 rfl rfl ?_
            refine s_al0 rfl ?_
            refine s_il2 rfl ?_
            refine s_zge rfl ?_ ?_
            · intro h134
              refine s_ic rfl ?_
              refine s_il2 rfl ?_
              have e : ixS (s p) = sgF (s p) - 4 := by unfold ixS at h134 ⊢; split at h134 <;> omega
              refine s_iadd rfl ⟨by omega, by omega⟩ ?_
              exact last _ (by omega)
            · intro h134
              refine s_ic rfl ?_
              refine s_go rfl ?_
              refine last _ ?_
              unfold ixS at h134
              split at h134 <;> omega
          · intro h115
            refine s_al0 rfl ?_
            refine s_callO rfl rfl (Or.inl rfl) rfl rfl (hk.at rfl rfl) (v_takeNumber (n := n) (p := p) hk (by rw [aUp_ne (by decide)]; exact q3) h15 hpn (by rw [aUp_ne (by decide)]; exact q2) aUp_at (fun D' g1 g2 g3 g4 g5 g6 => ?_))
            show V G l (d + 1) iX7_advance 122 [rf 2, (0, s p), (9, 0)] [] (K, D', z) P
            rw [aUp_row (by decide), e3] at g4 g5 g6
            have hl : ¬ isL (s p) = true := fun y => by have := of_decide_eq_true y; omega
            have hd : isD (s p) = true := decide_eq_true ⟨by omega, by omega⟩
            have kd : kdF s n ws p = D' 2 4 := by rw [g5, kdF, if_neg hlt, if_neg hl, if_pos hd]
            refine s_go rfl ?_
            refine s_retv rfl rfl ?_
            refine kk D' (fun r hr => by rw [g1 r hr, aUp_row hr]; exact f r hr) (by rw [g2, aUp_ne (by decide), q3, hn]) ⟨g3, ?_, kd.symm, fun y => ?_, fun y => ?_⟩
            · rw [g4, enF, if_neg hlt]; first | rw [if_pos hl] | rw [if_neg hl, if_pos hd]
            · rw [kd, g5] at y
              first
              | (by_cases w : 6 < runE isD s n p - p
                 · rw [if_pos w] at y; omega
                 · exact g6 (by omega))
              | (exfalso
                 by_cases w : 8 < runE isL s n p - p
                 · rw [if_pos w] at y; omega
                 · rw [if_neg w] at y
                   rcases kwF_in (ws := ws) (x := pkF 32 96 s p (runE isL s n p - p)) 21 with h | ⟨j, h1, -, h3⟩ <;> omega)
            · rw [kd, g5] at y
              first
              | (by_cases w : 8 < runE isL s n p - p
                 · rw [if_pos w] at y; omega
                 · exact g6 (by omega))
              | (exfalso; split at y <;> omega)
      · intro h90
        refine s_il1 rfl ?_
        refine s_ic rfl ?_
        refine s_cgt rfl ?_ ?_
        · intro h96
          refine s_il1 rfl ?_
          refine s_ic rfl ?_
          refine s_clt rfl ?_ ?_
          · intro h109
            refine hg _ _ _ _ _ hcp.1 hcp.2 ?_
            have hl : ¬ isL (s p) = true := fun y => by have := of_decide_eq_true y; omega
            have hd : ¬ isD (s p) = true := fun y => by have := of_decide_eq_true y; omega
            have sg := sgF_in (s p)
            have kd : kdF s n ws p = sgF (s p) := by rw [kdF, if_neg hlt, if_neg hl, if_neg hd]
            have last : ∀ x : Int, x = sgF (s p) → V G l (d + 1) iX7_advance 144 [rf 2, (0, s p), (0, ixS (s p))] [(0, x), rf 2] (K, aUp D1 2 5 p, z) P := by
              intro x hx
              refine s_pi rfl (hk.at rfl rfl) rfl ?_
              refine s_al0 rfl ?_
              refine s_dup rfl (by first | decide | (show (2 : Nat) ≠ 1; decide)) ?_
              refine s_gi rfl (hk.at rfl rfl) rfl ?_
              try simp only [aUp_app, Nat.reduceEqDiff, Int.reduceEq, eq_self, true_and, false_and, and_false, and_true, if_true, if_false, ↓reduceIte]
              rw [q2]
              refine s_ic rfl ?_
              refine s_iadd rfl ⟨by omega, by omega⟩ ?_
              refine s_pi rfl (hk.at rfl rfl) rfl ?_
              refine s_retv rfl rfl ?_
              refine kk _ (fun r hr => by rw [aUp_row hr, aUp_row hr, aUp_row hr]; exact f r hr) (by rw [aUp_ne (by decide), aUp_ne (by decide), aUp_ne (by decide), q3, hn]) ⟨?_, ?_, ?_, fun y => ?_, fun y => ?_⟩
              · rw [aUp_ne (by decide), aUp_ne (by decide), aUp_at]
              · rw [aUp_at, enF, if_neg hlt, if_neg hl, if_neg hd]; omega
              · rw [aUp_ne (by decide), aUp_at, kd]; exact hx
              · rw [kd] at y; omega
              · rw [kd] at y; omega
            refine s_is2 rfl rfl ?_
            refine s_al0 rfl ?_
            refine s_il2 rfl ?_
            refine s_zge rfl ?_ ?_
            · intro h134
              refine s_ic rfl ?_
              refine s_il2 rfl ?_
              have e : ixS (s p) = sgF (s p) - 4 := by unfold ixS at h134 ⊢; split at h134 <;> omega
              refine s_iadd rfl ⟨by omega, by omega⟩ ?_
              exact last _ (by omega)
            · intro h134
              refine s_ic rfl ?_
              refine s_go rfl ?_
              refine last _ ?_
              unfold ixS at h134
              split at h134 <;> omega
          · intro h109
            refine s_il1 rfl ?_
            refine s_ic rfl ?_
            refine s_cgt rfl ?_ ?_
            · intro h115
              refine hg _ _ _ _ _ hcp.1 hcp.2 ?_
              have hl : ¬ isL (s p) = true := fun y => by have := of_decide_eq_true y; omega
              have hd : ¬ isD (s p) = true := fun y => by have := of_decide_eq_true y; omega
              have sg := sgF_in (s p)
              have kd : kdF s n ws p = sgF (s p) := by rw [kdF, if_neg hlt, if_neg hl, if_neg hd]
              have last : ∀ x : Int, x = sgF (s p) → V G l (d + 1) iX7_advance 144 [rf 2, (0, s p), (0, ixS (s p))] [(0, x), rf 2] (K, aUp D1 2 5 p, z) P := by
                intro x hx
                refine s_pi rfl (hk.at rfl rfl) rfl ?_
                refine s_al0 rfl ?_
                refine s_dup rfl (by first | decide | (show (2 : Nat) ≠ 1; decide)) ?_
                refine s_gi rfl (hk.at rfl rfl) rfl ?_
                try simp only [aUp_app, Nat.reduceEqDiff, Int.reduceEq, eq_self, true_and, false_and, and_false, and_true, if_true, if_false, ↓reduceIte]
                rw [q2]
                refine s_ic rfl ?_
                refine s_iadd rfl ⟨by omega, by omega⟩ ?_
                refine s_pi rfl (hk.at rfl rfl) rfl ?_
                refine s_retv rfl rfl ?_
                refine kk _ (fun r hr => by rw [aUp_row hr, aUp_row hr, aUp_row hr]; exact f r hr) (by rw [aUp_ne (by decide), aUp_ne (by decide), aUp_ne (by decide), q3, hn]) ⟨?_, ?_, ?_, fun y => ?_, fun y => ?_⟩
                · rw [aUp_ne (by decide), aUp_ne (by decide), aUp_at]
                · rw [aUp_at, enF, if_neg hlt, if_neg hl, if_neg hd]; omega
                · rw [aUp_ne (by decide), aUp_at, kd]; exact hx
                · rw [kd] at y; omega
                · rw [kd] at y; omega
              refine s_is2 rfl rfl ?_
              refine s_al0 rfl ?_
              refine s_il2 rfl ?_
              refine s_zge rfl ?_ ?_
              · intro h134
                refine s_ic rfl ?_
                refine s_il2 rfl ?_
                have e : ixS (s p) = sgF (s p) - 4 := by unfold ixS at h134 ⊢; split at h134 <;> omega
                refine s_iadd rfl ⟨by omega, by omega⟩ ?_
                exact last _ (by omega)
              · intro h134
                refine s_ic rfl ?_
                refine s_go rfl ?_
                refine last _ ?_
                unfold ixS at h134
                split at h134 <;> omega
            · intro h115
              refine s_al0 rfl ?_
              refine s_callO rfl rfl (Or.inl rfl) rfl rfl (hk.at rfl rfl) (v_takeNumber (n := n) (p := p) hk (by rw [aUp_ne (by decide)]; exact q3) h15 hpn (by rw [aUp_ne (by decide)]; exact q2) aUp_at (fun D' g1 g2 g3 g4 g5 g6 => ?_))
              show V G l (d + 1) iX7_advance 122 [rf 2, (0, s p), (9, 0)] [] (K, D', z) P
              rw [aUp_row (by decide), e3] at g4 g5 g6
              have hl : ¬ isL (s p) = true := fun y => by have := of_decide_eq_true y; omega
              have hd : isD (s p) = true := decide_eq_true ⟨by omega, by omega⟩
              have kd : kdF s n ws p = D' 2 4 := by rw [g5, kdF, if_neg hlt, if_neg hl, if_pos hd]
              refine s_go rfl ?_
              refine s_retv rfl rfl ?_
              refine kk D' (fun r hr => by rw [g1 r hr, aUp_row hr]; exact f r hr) (by rw [g2, aUp_ne (by decide), q3, hn]) ⟨g3, ?_, kd.symm, fun y => ?_, fun y => ?_⟩
              · rw [g4, enF, if_neg hlt]; first | rw [if_pos hl] | rw [if_neg hl, if_pos hd]
              · rw [kd, g5] at y
                first
                | (by_cases w : 6 < runE isD s n p - p
                   · rw [if_pos w] at y; omega
                   · exact g6 (by omega))
                | (exfalso
                   by_cases w : 8 < runE isL s n p - p
                   · rw [if_pos w] at y; omega
                   · rw [if_neg w] at y
                     rcases kwF_in (ws := ws) (x := pkF 32 96 s p (runE isL s n p - p)) 21 with h | ⟨j, h1, -, h3⟩ <;> omega)
              · rw [kd, g5] at y
                first
                | (by_cases w : 8 < runE isL s n p - p
                   · rw [if_pos w] at y; omega
                   · exact g6 (by omega))
                | (exfalso; split at y <;> omega)
        · intro h96
          refine s_al0 rfl ?_
          refine s_callO rfl rfl (Or.inl rfl) rfl rfl (hk.at rfl rfl) (v_takeWord (n := n) (p := p) hk (by rw [aUp_ne (by decide)]; exact q3) h15 hpn (by rw [aUp_ne (by decide)]; exact q2) aUp_at (fun D' g1 g2 g3 g4 g5 g6 => ?_))
          show V G l (d + 1) iX7_advance 103 [rf 2, (0, s p), (9, 0)] [] (K, D', z) P
          rw [aUp_row (by decide), e3] at g4 g5 g6
          rw [aUp_row (by decide), e4] at g5
          have hl : isL (s p) = true := decide_eq_true ⟨by omega, by omega⟩
          have kd : kdF s n ws p = D' 2 4 := by rw [g5, kdF, if_neg hlt, if_pos hl]
          refine s_go rfl ?_
          refine s_retv rfl rfl ?_
          refine kk D' (fun r hr => by rw [g1 r hr, aUp_row hr]; exact f r hr) (by rw [g2, aUp_ne (by decide), q3, hn]) ⟨g3, ?_, kd.symm, fun y => ?_, fun y => ?_⟩
          · rw [g4, enF, if_neg hlt]; first | rw [if_pos hl] | rw [if_neg hl, if_pos hd]
          · rw [kd, g5] at y
            first
            | (by_cases w : 6 < runE isD s n p - p
               · rw [if_pos w] at y; omega
               · exact g6 (by omega))
            | (exfalso
               by_cases w : 8 < runE isL s n p - p
               · rw [if_pos w] at y; omega
               · rw [if_neg w] at y
                 rcases kwF_in (ws := ws) (x := pkF 32 96 s p (runE isL s n p - p)) 21 with h | ⟨j, h1, -, h3⟩ <;> omega)
          · rw [kd, g5] at y
            first
            | (by_cases w : 8 < runE isL s n p - p
               · rw [if_pos w] at y; omega
               · exact g6 (by omega))
            | (exfalso; split at y <;> omega)
    · intro h68
      refine s_al0 rfl ?_
      refine s_ic rfl ?_
      refine s_pi rfl (hk.at rfl rfl) rfl ?_
      refine s_retv rfl rfl ?_
      have hge : n ≤ p := by omega
      refine kk _ (fun r hr => by rw [aUp_row hr, aUp_row hr]; exact f r hr) (by rw [aUp_ne (by decide), aUp_ne (by decide), q3, hn]) ⟨?_, ?_, ?_, fun y => ?_, fun y => ?_⟩
      · rw [aUp_ne (by decide), aUp_at]
      · rw [aUp_ne (by decide), aUp_ne (by decide), q2, enF, if_pos hge]; omega
      · rw [aUp_at, kdF_0.mpr hge]
      · rw [kdF_0.mpr hge] at y; omega
      · rw [kdF_0.mpr hge] at y; omega
  have loop : ∀ (m i : Nat) (D1 : Nat → Int → Int), i + m = n → (∀ r, r ≠ 2 → D1 r = D r) → D1 2 3 = n → D1 2 2 = i → runE isB s n i = runE isB s n e → V G l (d + 1) iX7_advance 0 [rf 2, (9, 0), (9, 0)] [] (K, D1, z) P := by
    intro m
    induction m with
    | zero =>
      intro i D1 him f q3 q2 hr
      have e3 : D1 3 = s := (f 3 (by decide)).trans a3
      refine s_al0 rfl ?_
      refine s_gi rfl (hk.at rfl rfl) rfl ?_
      try simp only [aUp_app, Nat.reduceEqDiff, Int.reduceEq, eq_self, true_and, false_and, and_false, and_true, if_true, if_false, ↓reduceIte]
      rw [q2]
      refine s_al0 rfl ?_
      refine s_gi rfl (hk.at rfl rfl) rfl ?_
      try simp only [aUp_app, Nat.reduceEqDiff, Int.reduceEq, eq_self, true_and, false_and, and_false, and_true, if_true, if_false, ↓reduceIte]
      rw [q3]
      refine s_cge rfl ?_ ?_
      · intro h8
        exact tail i D1 (by omega) (by rw [← hr, runE_out (Or.inl (by omega))]) f q3 q2 (fun y => by omega)
      · intro h8
        omega
    | succ m ih =>
      intro i D1 him f q3 q2 hr
      have e3 : D1 3 = s := (f 3 (by decide)).trans a3
      have nx : isB (s i) = true → V G l (d + 1) iX7_advance 39 [rf 2, (9, 0), (9, 0)] [] (K, D1, z) P := by
        intro hb
        refine s_al0 rfl ?_
        refine s_dup rfl (by first | decide | (show (2 : Nat) ≠ 1; decide)) ?_
        refine s_gi rfl (hk.at rfl rfl) rfl ?_
        try simp only [aUp_app, Nat.reduceEqDiff, Int.reduceEq, eq_self, true_and, false_and, and_false, and_true, if_true, if_false, ↓reduceIte]
        rw [q2]
        refine s_ic rfl ?_
        refine s_iadd rfl ⟨by omega, by omega⟩ ?_
        refine s_pi rfl (hk.at rfl rfl) rfl ?_
        refine s_go rfl ?_
        exact ih (i + 1) _ (by omega) (fun r hr => by rw [aUp_row hr]; exact f r hr) (by rw [aUp_ne (by decide)]; exact q3) (by rw [aUp_at]; omega) (by rw [← hr, runE_in (by omega) hb])
      refine s_al0 rfl ?_
      refine s_gi rfl (hk.at rfl rfl) rfl ?_
      try simp only [aUp_app, Nat.reduceEqDiff, Int.reduceEq, eq_self, true_and, false_and, and_false, and_true, if_true, if_false, ↓reduceIte]
      rw [q2]
      refine s_al0 rfl ?_
      refine s_gi rfl (hk.at rfl rfl) rfl ?_
      try simp only [aUp_app, Nat.reduceEqDiff, Int.reduceEq, eq_self, true_and, false_and, and_false, and_true, if_true, if_false, ↓reduceIte]
      rw [q3]
      refine s_cge rfl ?_ ?_
      · intro h8
        omega
      · intro h8
        refine s_al0 rfl ?_
        refine s_gf rfl (hk.at rfl rfl) rfl rfl ?_
        refine s_al0 rfl ?_
        refine s_gi rfl (hk.at rfl rfl) rfl ?_
        try simp only [aUp_app, Nat.reduceEqDiff, Int.reduceEq, eq_self, true_and, false_and, and_false, and_true, if_true, if_false, ↓reduceIte]
        rw [q2]
        refine s_cald rfl (hk.at rfl rfl) (by omega) ?_
        try simp only [aUp_app, Nat.reduceEqDiff, Int.reduceEq, eq_self, true_and, false_and, and_false, and_true, if_true, if_false, ↓reduceIte]
        rw [e3]
        refine s_ic rfl ?_
        refine s_ceq rfl ?_ ?_
        · intro h22
          exact nx (decide_eq_true (by omega))
        · intro h22
          refine s_al0 rfl ?_
          refine s_gf rfl (hk.at rfl rfl) rfl rfl ?_
          refine s_al0 rfl ?_
          refine s_gi rfl (hk.at rfl rfl) rfl ?_
          try simp only [aUp_app, Nat.reduceEqDiff, Int.reduceEq, eq_self, true_and, false_and, and_false, and_true, if_true, if_false, ↓reduceIte]
          rw [q2]
          refine s_cald rfl (hk.at rfl rfl) (by omega) ?_
          try simp only [aUp_app, Nat.reduceEqDiff, Int.reduceEq, eq_self, true_and, false_and, and_false, and_true, if_true, if_false, ↓reduceIte]
          rw [e3]
          refine s_ic rfl ?_
          refine s_cne rfl ?_ ?_
          · intro h36
            have nb : ¬ isB (s i) = true := fun y => by have := of_decide_eq_true y; omega
            exact tail i D1 (by omega) (by rw [← hr, runE_out (Or.inr nb)]) f q3 q2 (fun _ => nb)
          · intro h36
            exact nx (decide_eq_true (by omega))
  refine VM_go (tg2 rfl) (Nat.le_of_ble_eq_true rfl) ?_
  exact loop (n - e) e D (by omega) (fun _ _ => rfl) hn h2 rfl
theorem v_adv {s ws : Int → Int} {n k : Nat} (hg : SgR G l) (hk : Kn K) (hH : TpH s n ws D) (hA : AtC s n ws k D) (kk : ∀ D' : Nat → Int → Int, (∀ r, r ≠ 2 → D' r = D r) → D' 2 3 = D 2 3 → AtC s n ws (k + 1) D' → P 0 (K, D', z)) : VM G l (d + 1) iX7_advance [rf 2] (K, D, z) P := by
  refine v_advance hg hk.low hH hA.2.1 ?_ (fun D' g1 g2 g3 => kk D' g1 g2 (AtC_of g3 (by rw [g1 5 (by decide)]; exact hA.2.2.2.2.2)))
  rcases Nat.lt_or_ge (tpF s n k) n with q | q
  · exact (enF_in q).2
  · unfold enF; rw [if_pos q]; omega
theorem v_startReading {s ws : Int → Int} {n : Nat} (hg : SgR G l) (hk : Kn K) (hH : TpH s n ws D) (h54 : D 5 4 = 0) (kk : ∀ D' : Nat → Int → Int, (∀ r, r ≠ 2 → D' r = D r) → D' 2 3 = D 2 3 → AtC s n ws 0 D' → P 0 (K, D', z)) : VM G l (d + 2) iX7_startReading [rf 2] (K, D, z) P := by
  refine VM_go (tg2 rfl) (Nat.le_of_ble_eq_true rfl) ?_
  refine s_al0 rfl ?_
  refine s_ic rfl ?_
  refine s_pi rfl (hk.at rfl rfl) rfl ?_
  refine s_al0 rfl ?_
  refine s_callO rfl rfl (Or.inl rfl) rfl rfl (hk.at rfl rfl) (v_advance (e := 0) hg hk.low (TpH_keep hH (aUp_row (by decide)) (aUp_row (by decide)) (aUp_ne (by decide))) aUp_at (by omega) (fun D' g1 g2 g3 => ?_))
  show V G l (d + 2) iX7_startReading 9 [rf 2] [] (K, D', z) P
  refine s_retv rfl rfl ?_
  exact kk D' (fun r hr => by rw [g1 r hr, aUp_row hr]) (by rw [g2, aUp_ne (by decide)]) (AtC_of g3 (by rw [g1 5 (by decide), aUp_row (by decide)]; exact h54))
end
