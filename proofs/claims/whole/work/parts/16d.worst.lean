/-! ===== worst: the reference ===== -/
def wmF (bu : Nat → Int) (k : Nat) : Nat → Nat × Int
  | 0 => (0, 0)
  | s + 1 => if popc s ≤ k ∧ (s = 0 ∨ (wmF bu k s).2 < bu s ∨ (bu s = (wmF bu k s).2 ∧ popc s < popc (wmF bu k s).1)) then (s, bu s) else wmF bu k s
theorem wmF_lt {bu : Nat → Int} {k : Nat} : ∀ s, (wmF bu k s).1 < s ∨ (wmF bu k s).1 = 0 := by
  intro s
  induction s with
  | zero => exact Or.inr rfl
  | succ s ih =>
    rw [wmF]
    split
    · left; show s < s + 1; omega
    · omega
section
variable {G : aCX} {l : Launch} {d : Nat} {K : Nat → aKd} {D : Nat → Int → Int} {z : Nat × Nat} {P : Int → aSt → Prop}
theorem u_worst {T nt : Nat} {wo : Int → Int} {cn : Nat → Nat} {cc : Nat → Nat → Int × Int} {h k0' : Int} {stm : Nat → Int} {D0 : Nat → Int → Int} (hk : Kn K) (hD : D0 = aUp D 210 0 0) (hC : CW T nt wo cn cc D0) (hP : Cp T nt wo cn cc D0) (hst : ∀ s : Nat, s < 64 → StR D0 wo T (vwC D0) s (stm s)) (k1 : ∀ k : Nat, k0' = k → 0 ≤ h ∧ h < D0 T 0 → 1 ≤ k ∧ k ≤ 6 → ∀ D', FrM D0 D' → D' 210 0 = 0 → P (wmF (fun s => buX D0 wo T nt cn cc (vwC D0) (stm s) (-1) h) k 64).1 (K, D', z)) (k0 : ¬ ((0 ≤ h ∧ h < D0 T 0) ∧ (1 ≤ k0' ∧ k0' ≤ 6)) → P (-1) (K, D0, z)) : VM G l (d + 5) iX12_worst [rf 210, (0, h), (0, k0')] (K, D, z) P := by
  have hT := hC.1
  have hT2 : T = 8 ∨ T = 129 := hT
  have h12 := hC.2.2.2.2.2.1.2.2.1
  have ehh : D0 216 (D0 210 10) = D0 T 0 := hP.2.2.1.2.1
  have h10 := hP.2.2.1.1
  have hq0 : 0 ≤ h ∧ h < D0 T 0 → 1 ≤ k0' ∧ k0' ≤ 6 → V G l (d + 5) iX12_worst 25 [rf 210, (0, h), (0, k0'), (9, 0), (9, 0), (9, 0), (9, 0), (9, 0), (9, 0)] [] (K, D0, z) P := by
    intro hq hq2
    obtain ⟨k, hkk⟩ : ∃ k : Nat, k0' = k := ⟨k0'.toNat, by omega⟩
    subst hkk
    have hh : 0 ≤ h ∧ h < 12 := ⟨hq.1, by omega⟩
    have loop : ∀ (m s : Nat) (D2 : Nat → Int → Int) (u7 u8 : aTV), s + m = 64 → FrM D0 D2 → D2 210 0 = 0 → V G l (d + 5) iX12_worst 33 [rf 210, (0, h), (0, (k : Int)), (0, ((wmF (fun s => buX D0 wo T nt cn cc (vwC D0) (stm s) (-1) h) k s).1 : Int)), (1, (wmF (fun s => buX D0 wo T nt cn cc (vwC D0) (stm s) (-1) h) k s).2), (9, 0), (0, (s : Int)), u7, u8] [] (K, D2, z) P := by
      intro m
      induction m with
      | zero =>
        intro s D2 u7 u8 hs f1 f0
        have hs2 : s = 64 := by omega
        subst hs2
        refine s_il6 rfl ?_
        refine s_ic rfl ?_
        refine s_cge rfl ?_ ?_
        · intro h37
          refine s_il3 rfl ?_
          refine s_reti rfl rfl ?_
          exact k1 k rfl hq (by omega) D2 f1 f0
        · intro h37
          exact absurd h37 (by decide)
      | succ m ih =>
        intro s D2 u7 u8 hs f1 f0
        have wl := wmF_lt (bu := fun s => buX D0 wo T nt cn cc (vwC D0) (stm s) (-1) h) (k := k) s
        have e1 : wmF (fun s => buX D0 wo T nt cn cc (vwC D0) (stm s) (-1) h) k (s + 1) = if popc s ≤ k ∧ (s = 0 ∨ (wmF (fun s => buX D0 wo T nt cn cc (vwC D0) (stm s) (-1) h) k s).2 < buX D0 wo T nt cn cc (vwC D0) (stm s) (-1) h ∨ (buX D0 wo T nt cn cc (vwC D0) (stm s) (-1) h = (wmF (fun s => buX D0 wo T nt cn cc (vwC D0) (stm s) (-1) h) k s).2 ∧ popc s < popc (wmF (fun s => buX D0 wo T nt cn cc (vwC D0) (stm s) (-1) h) k s).1)) then (s, buX D0 wo T nt cn cc (vwC D0) (stm s) (-1) h) else (wmF (fun s => buX D0 wo T nt cn cc (vwC D0) (stm s) (-1) h) k s) := rfl
        generalize hw : (wmF (fun s => buX D0 wo T nt cn cc (vwC D0) (stm s) (-1) h) k s) = w at *
        obtain ⟨wb, wm⟩ := w
        have wl' : wb < s ∨ wb = 0 := wl
        have nx : ∀ (D3 : Nat → Int → Int) (u v : aTV) (bb : Nat) (lb : Int), FrM D0 D3 → D3 210 0 = 0 → (bb, lb) = (wmF (fun s => buX D0 wo T nt cn cc (vwC D0) (stm s) (-1) h) k (s + 1)) → V G l (d + 5) iX12_worst 103 [rf 210, (0, h), (0, (k : Int)), (0, (bb : Int)), (1, lb), (9, 0), (0, (s : Int)), u, v] [] (K, D3, z) P := by
          intro D3 u v bb lb g1 g0 g3
          have e1 : bb = (wmF (fun s => buX D0 wo T nt cn cc (vwC D0) (stm s) (-1) h) k (s + 1)).1 := by rw [← g3]
          have e2 : lb = (wmF (fun s => buX D0 wo T nt cn cc (vwC D0) (stm s) (-1) h) k (s + 1)).2 := by rw [← g3]
          subst e1 e2
          refine s_iinc6 rfl rfl ⟨by omega, by omega⟩ ?_
          refine s_go rfl ?_
          exact ih (s + 1) D3 _ _ (by omega) g1 g0
        show V G l (d + 5) iX12_worst 33 [rf 210, (0, h), (0, (k : Int)), (0, (wb : Int)), (1, wm), (9, 0), (0, (s : Int)), u7, u8] [] (K, D2, z) P
        refine s_il6 rfl ?_
        refine s_ic rfl ?_
        refine s_cge rfl ?_ ?_
        · intro h37
          omega
        · intro h37
          refine s_il6 rfl ?_
          refine s_callS rfl rfl rfl rfl (u_bits (by omega) ?_)
          show V G l (d + 5) iX12_worst 45 [rf 210, (0, h), (0, (k : Int)), (0, (wb : Int)), (1, wm), (9, 0), (0, (s : Int)), u7, u8] [(0, (popc s : Int))] (K, D2, z) P
          refine s_il2 rfl ?_
          refine s_cgt rfl ?_ ?_
          · intro h46
            refine nx D2 _ _ _ _ f1 f0 ?_
            rw [e1, if_neg (fun x => by have := x.1; omega)]
          · intro h46
            refine s_al0 rfl ?_
            refine s_ic rfl ?_
            refine s_il6 rfl ?_
            refine s_callO rfl rfl (Or.inl rfl) rfl rfl (hk.at rfl rfl) (u_setl2 (d := d + 1) (sp := -1) (st := (s : Int)) (stm := stm s) (D0 := D0) hk hC hP f1 (hst s (by omega)) (fun D3 a1 a2 a3 a4 a5 a6 => ?_))
            show V G l (d + 5) iX12_worst 56 [rf 210, (0, h), (0, (k : Int)), (0, (wb : Int)), (1, wm), (9, 0), (0, (s : Int)), u7, u8] [] (K, D3, z) P
            have z0 : D3 210 0 = 0 := by rw [a2.2.1 0 (by decide) (by decide) (by decide) (by decide)]; exact f0
            refine s_al0 rfl ?_
            refine s_il1 rfl ?_
            refine s_callO rfl rfl (Or.inl rfl) rfl rfl (hk.at rfl rfl) (u_bur (d := d + 3) hk a3 a2 hh ?_)
            rw [a4]
            generalize hbu : buX D0 wo T nt cn cc (vwC D0) (stm s) (-1) h = b at *
            have yes : s = 0 ∨ wm < b ∨ (b = wm ∧ popc s < popc wb) → V G l (d + 5) iX12_worst 96 [rf 210, (0, h), (0, (k : Int)), (0, (wb : Int)), (1, wm), (9, 0), (0, (s : Int)), (1, b), (9, 0)] [] (K, D3, z) P := by
              intro hy
              refine s_il6 rfl ?_
              refine s_is3 rfl rfl ?_
              refine s_ll7 rfl ?_
              refine s_ls4 rfl rfl ?_
              refine nx D3 _ _ _ _ a1 z0 ?_
              rw [e1, if_pos ⟨by omega, hy⟩]
            have no : ¬ (s = 0 ∨ wm < b ∨ (b = wm ∧ popc s < popc wb)) → V G l (d + 5) iX12_worst 103 [rf 210, (0, h), (0, (k : Int)), (0, (wb : Int)), (1, wm), (9, 0), (0, (s : Int)), (1, b), (9, 0)] [] (K, D3, z) P := fun hy => nx D3 _ _ _ _ a1 z0 (by rw [e1, if_neg (fun x => hy x.2)])
            show V G l (d + 5) iX12_worst 61 [rf 210, (0, h), (0, (k : Int)), (0, (wb : Int)), (1, wm), (9, 0), (0, (s : Int)), u7, u8] [(1, b)] (K, D3, z) P
            refine s_ls7 rfl rfl ?_
            refine s_il6 rfl ?_
            refine s_zeq rfl ?_ ?_
            · intro h65
              exact yes (Or.inl (by omega))
            · intro h65
              refine s_ll7 rfl ?_
              refine s_ll4 rfl ?_
              refine s_lcmp rfl ?_
              refine s_zgt rfl ?_ ?_
              · intro h73
                exact yes (Or.inr (Or.inl (cmp3_gt.mp h73)))
              · intro h73
                have n73 := cmp3_le.mp h73
                refine s_ll7 rfl ?_
                refine s_ll4 rfl ?_
                refine s_lcmp rfl ?_
                refine s_zne rfl ?_ ?_
                · intro h81
                  have n81 : b ≠ wm := fun x => h81 (cmp3_eq.mpr x)
                  exact no (by omega)
                · intro h81
                  have n81 := cmp3_eq.mp h81
                  refine s_il6 rfl ?_
                  refine s_callS rfl rfl rfl rfl (u_bits (by omega) ?_)
                  show V G l (d + 5) iX12_worst 89 [rf 210, (0, h), (0, (k : Int)), (0, (wb : Int)), (1, wm), (9, 0), (0, (s : Int)), (1, b), (9, 0)] [(0, (popc s : Int))] (K, D3, z) P
                  refine s_il3 rfl ?_
                  refine s_callS rfl rfl rfl rfl (u_bits (by omega) ?_)
                  show V G l (d + 5) iX12_worst 93 [rf 210, (0, h), (0, (k : Int)), (0, (wb : Int)), (1, wm), (9, 0), (0, (s : Int)), (1, b), (9, 0)] [(0, (popc wb : Int)), (0, (popc s : Int))] (K, D3, z) P
                  refine s_cge rfl ?_ ?_
                  · intro h93
                    exact no (by omega)
                  · intro h93
                    exact yes (Or.inr (Or.inr ⟨n81, by omega⟩))
    refine s_ic rfl ?_
    refine s_is3 rfl rfl ?_
    refine s_lc rfl ?_
    refine s_ls4 rfl rfl ?_
    refine s_ic rfl ?_
    refine s_is6 rfl rfl ?_
    exact loop 64 0 D0 _ _ rfl FrM_refl (by rw [hD, aUp_at])
  refine VM_go (tg2 rfl) (Nat.le_of_ble_eq_true rfl) ?_
  refine s_al0 rfl ?_
  refine s_ic rfl ?_
  refine s_pi rfl (hk.at rfl rfl) rfl ?_
  refine s_al0 rfl ?_
  refine s_il1 rfl ?_
  refine s_callO rfl rfl (Or.inl rfl) rfl rfl (hk.at rfl rfl) (u_isHouse (D := aUp D 210 0 0) hk (by rw [← hD]; omega) ?_)
  rw [← hD, ehh]
  show V G l (d + 5) iX12_worst 10 [rf 210, (0, h), (0, k0'), (9, 0), (9, 0), (9, 0), (9, 0), (9, 0), (9, 0)] [(0, if 0 ≤ h ∧ h < D0 T 0 then 1 else 0)] (K, D0, z) P
  generalize hc : (if 0 ≤ h ∧ h < D0 T 0 then (1 : Int) else 0) = c
  refine s_zeq rfl ?_ ?_
  · intro h10
    have hq : ¬ (0 ≤ h ∧ h < D0 T 0) := fun x => by rw [if_pos x] at hc; omega
    refine s_ic rfl ?_
    refine s_reti rfl rfl ?_
    exact k0 (by omega)
  · intro h10
    have hq : 0 ≤ h ∧ h < D0 T 0 := Decidable.byContradiction fun x => by rw [if_neg x] at hc; omega
    refine s_il2 rfl ?_
    refine s_ic rfl ?_
    refine s_ic rfl ?_
    refine s_callS rfl rfl rfl rfl (u_within ?_)
    show V G l (d + 5) iX12_worst 20 [rf 210, (0, h), (0, k0'), (9, 0), (9, 0), (9, 0), (9, 0), (9, 0), (9, 0)] [(0, if 1 ≤ k0' ∧ k0' ≤ 6 then 1 else 0)] (K, D0, z) P
    generalize hc2 : (if 1 ≤ k0' ∧ k0' ≤ 6 then (1 : Int) else 0) = c2
    refine s_zne rfl ?_ ?_
    · intro h20
      have hq2 : 1 ≤ k0' ∧ k0' ≤ 6 := Decidable.byContradiction fun x => by rw [if_neg x] at hc2; omega
      exact hq0 hq hq2
    · intro h20
      have hq2 : ¬ (1 ≤ k0' ∧ k0' ≤ 6) := fun x => by rw [if_pos x] at hc2; omega
      refine s_ic rfl ?_
      refine s_reti rfl rfl ?_
      exact k0 (by omega)
end
