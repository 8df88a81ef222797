/-! ===== what a house bears ===== -/
theorem wr_add {x y : Int} : wr (wr x + y) = wr (x + y) := by
  unfold wr
  first | exact Int.bmod_add_bmod | exact Int.bmod_add_bmod_congr | simp
def buC (D : Nat → Int → Int) (h : Int) (n : Nat) : Int := D 103 h + sumF (fun i : Nat => D 102 (h * 12 + i) - D 102 (i * 12 + h)) n
def buM (D : Nat → Int → Int) (h : Int) (n : Nat) : Int := sumF (fun e : Nat => D 255 (12 * e + h)) (D 210 54).toNat + sumF (fun k : Nat => D 267 (12 * h + k) - D 267 (12 * k + h)) n
section
variable {G : aCX} {l : Launch} {d : Nat} {K : Nat → aKd} {D : Nat → Int → Int} {z : Nat × Nat} {P : Int → aSt → Prop}
theorem v_owedBy {a b : Int} (hk : Kn K) (ha : 0 ≤ a ∧ a < 12) (hb : 0 ≤ b ∧ b < 12) (kk : P (D 102 (a * 12 + b)) (K, D, z)) : VM G l d iX5_owedBy [rf 101, (0, a), (0, b)] (K, D, z) P := by
  refine VM_go (tg2 rfl) (Nat.le_of_ble_eq_true rfl) ?_
  refine s_al0 rfl ?_
  refine s_gf rfl (hk.at rfl rfl) rfl rfl ?_
  refine s_il1 rfl ?_
  refine s_ic rfl ?_
  refine s_imul rfl ⟨by omega, by omega⟩ ?_
  refine s_il2 rfl ?_
  refine s_iadd rfl ⟨by omega, by omega⟩ ?_
  refine s_iald rfl (hk.at rfl rfl) (by omega) ?_
  refine s_reti rfl rfl ?_
  exact kk
theorem v_burdenOf {h : Int} (hk : Kn K) (hh : 0 ≤ h ∧ h < 12) (h3 : 0 ≤ D 103 h ∧ D 103 h ≤ 400000000) (hO : ∀ a b : Int, 0 ≤ a → a < 12 → 0 ≤ b → b < 12 → 0 ≤ D 102 (a * 12 + b) ∧ D 102 (a * 12 + b) ≤ 2000000000) (kk : P (wr (buC D h 12)) (K, D, z)) : VM G l (d + 1) iX5_burdenOf [rf 101, (0, h)] (K, D, z) P := by
  have loop : ∀ (m n : Nat), n + m = 12 → V G l (d + 1) iX5_burdenOf 9 [rf 101, (0, h), (0, wr (buC D h n)), (0, (n : Int))] [] (K, D, z) P := by
    intro m
    induction m with
    | zero =>
      intro n hm
      have hn : n = 12 := by omega
      subst hn
      refine s_il3 rfl ?_
      refine s_ic rfl ?_
      refine s_cge rfl ?_ ?_
      · intro h12
        refine s_il2 rfl ?_
        refine s_reti rfl rfl ?_
        exact kk
      · intro h12
        exact absurd h12 (by decide)
    | succ m ih =>
      intro n hm
      have q1 := hO h n hh.1 hh.2 (by omega) (by omega)
      have q2 := hO n h (by omega) (by omega) hh.1 hh.2
      have e : buC D h (n + 1) = buC D h n + (D 102 (h * 12 + n) - D 102 (n * 12 + h)) := by
        unfold buC
        rw [sumF]
        omega
      refine s_il3 rfl ?_
      refine s_ic rfl ?_
      refine s_cge rfl ?_ ?_
      · intro h12
        omega
      · intro h12
        refine s_il2 rfl ?_
        refine s_al0 rfl ?_
        refine s_il1 rfl ?_
        refine s_il3 rfl ?_
        refine s_callO rfl rfl (Or.inl rfl) rfl rfl (hk.at rfl rfl) (v_owedBy hk hh ⟨by omega, by omega⟩ ?_)
        show V G l (d + 1) iX5_burdenOf 22 [rf 101, (0, h), (0, wr (buC D h n)), (0, (n : Int))] [(0, D 102 (h * 12 + n)), (0, wr (buC D h n))] (K, D, z) P
        refine s_al0 rfl ?_
        refine s_il3 rfl ?_
        refine s_il1 rfl ?_
        refine s_callO rfl rfl (Or.inl rfl) rfl rfl (hk.at rfl rfl) (v_owedBy hk ⟨by omega, by omega⟩ hh ?_)
        show V G l (d + 1) iX5_burdenOf 28 [rf 101, (0, h), (0, wr (buC D h n)), (0, (n : Int))] [(0, D 102 (n * 12 + h)), (0, D 102 (h * 12 + n)), (0, wr (buC D h n))] (K, D, z) P
        refine s_isub rfl ⟨by omega, by omega⟩ ?_
        refine s_iaddW rfl ?_
        refine s_is2 rfl rfl ?_
        refine s_iinc3 rfl rfl ⟨by omega, by omega⟩ ?_
        refine s_go rfl ?_
        rw [wr_add, ← e]
        exact ih (n + 1) (by omega)
  refine VM_go (tg2 rfl) (Nat.le_of_ble_eq_true rfl) ?_
  have e0 : wr (buC D h 0) = D 103 h := by
    have : buC D h 0 = D 103 h := Int.add_zero _
    rw [this, wr_id ⟨by omega, by omega⟩]
  refine s_al0 rfl ?_
  refine s_gf rfl (hk.at rfl rfl) rfl rfl ?_
  refine s_il1 rfl ?_
  refine s_iald rfl (hk.at rfl rfl) (by omega) ?_
  refine s_is2 rfl rfl ?_
  refine s_ic rfl ?_
  refine s_is3 rfl rfl ?_
  have hx := loop 12 0 rfl
  rw [e0] at hx
  exact hx
theorem u_directOf {h : Int} (hk : Kn K) (hh : 0 ≤ h ∧ h < 12) (hn : 0 ≤ D 210 54 ∧ D 210 54 ≤ 60) (hd : ∀ e : Nat, (e : Int) < D 210 54 → 0 ≤ D 255 (12 * e + h) ∧ D 255 (12 * e + h) ≤ 6000000) (kk : P (sumF (fun e : Nat => D 255 (12 * e + h)) (D 210 54).toNat) (K, D, z)) : VM G l d iX12_directOf [rf 210, (0, h)] (K, D, z) P := by
  have loop : ∀ (m n : Nat), n + m = (D 210 54).toNat → V G l d iX12_directOf 5 [rf 210, (0, h), (1, sumF (fun e : Nat => D 255 (12 * e + h)) n), (9, 0), (0, (n : Int))] [] (K, D, z) P := by
    intro m
    induction m with
    | zero =>
      intro n hm
      have hn2 : n = (D 210 54).toNat := by omega
      refine s_il4 rfl ?_
      refine s_al0 rfl ?_
      refine s_gi rfl (hk.at rfl rfl) rfl ?_
      refine s_cge rfl ?_ ?_
      · intro h11
        refine s_ll2 rfl ?_
        refine s_retl rfl rfl ?_
        rw [hn2]
        exact kk
      · intro h11
        omega
    | succ m ih =>
      intro n hm
      have e : sumF (fun e : Nat => D 255 (12 * e + h)) (n + 1) = sumF (fun e : Nat => D 255 (12 * e + h)) n + D 255 (12 * n + h) := rfl
      have s1 := sumF_nonneg (f := fun e : Nat => D 255 (12 * e + h)) (n := n) (fun i hi => (hd i (by omega)).1)
      have s2 := sumF_le (f := fun e : Nat => D 255 (12 * e + h)) (n := n) (fun i hi => (hd i (by omega)).2)
      have s3 := hd n (by omega)
      refine s_il4 rfl ?_
      refine s_al0 rfl ?_
      refine s_gi rfl (hk.at rfl rfl) rfl ?_
      refine s_cge rfl ?_ ?_
      · intro h11
        omega
      · intro h11
        refine s_ll2 rfl ?_
        refine s_al0 rfl ?_
        refine s_gf rfl (hk.at rfl rfl) rfl rfl ?_
        refine s_ic rfl ?_
        refine s_il4 rfl ?_
        refine s_imul rfl ⟨by omega, by omega⟩ ?_
        refine s_il1 rfl ?_
        refine s_iadd rfl ⟨by omega, by omega⟩ ?_
        refine s_lald rfl (hk.at rfl rfl) (by omega) ?_
        refine s_ladd rfl ⟨by omega, by omega⟩ ?_
        refine s_ls2 rfl rfl ?_
        refine s_iinc4 rfl rfl ⟨by omega, by omega⟩ ?_
        refine s_go rfl ?_
        rw [← e]
        exact ih (n + 1) (by omega)
  refine VM_go (tg2 rfl) (Nat.le_of_ble_eq_true rfl) ?_
  refine s_lc rfl ?_
  refine s_ls2 rfl rfl ?_
  refine s_ic rfl ?_
  refine s_is4 rfl rfl ?_
  exact loop (D 210 54).toNat 0 (by omega)
theorem u_bearsNow {h : Int} (hk : Kn K) (hh : 0 ≤ h ∧ h < 12) (hn : 0 ≤ D 210 54 ∧ D 210 54 ≤ 60) (hd : ∀ e : Nat, (e : Int) < D 210 54 → 0 ≤ D 255 (12 * e + h) ∧ D 255 (12 * e + h) ≤ 6000000) (hO : ∀ a b : Int, 0 ≤ a → a < 12 → 0 ≤ b → b < 12 → 0 ≤ D 267 (12 * a + b) ∧ D 267 (12 * a + b) ≤ 1000000000000) (kk : P (buM D h 12) (K, D, z)) : VM G l (d + 1) iX12_bearsNow [rf 210, (0, h)] (K, D, z) P := by
  have s1 := sumF_nonneg (f := fun e : Nat => D 255 (12 * e + h)) (n := (D 210 54).toNat) (fun i hi => (hd i (by omega)).1)
  have s2 := sumF_le (f := fun e : Nat => D 255 (12 * e + h)) (n := (D 210 54).toNat) (fun i hi => (hd i (by omega)).2)
  have oin : ∀ n : Nat, n ≤ 12 → -(1000000000000 * n) ≤ sumF (fun k : Nat => D 267 (12 * h + k) - D 267 (12 * k + h)) n ∧ sumF (fun k : Nat => D 267 (12 * h + k) - D 267 (12 * k + h)) n ≤ 1000000000000 * n := by
    intro n
    induction n with
    | zero => intro _; exact ⟨by show _ ≤ (0 : Int); omega, by show (0 : Int) ≤ _; omega⟩
    | succ n ih =>
      intro hn
      have h1 := ih (by omega)
      have q1 := hO h n hh.1 hh.2 (by omega) (by omega)
      have q2 := hO n h (by omega) (by omega) hh.1 hh.2
      rw [sumF]
      omega
  have loop : ∀ (m n : Nat), n + m = 12 → V G l (d + 1) iX12_bearsNow 9 [rf 210, (0, h), (1, buM D h n), (9, 0), (0, (n : Int))] [] (K, D, z) P := by
    intro m
    induction m with
    | zero =>
      intro n hm
      have hn2 : n = 12 := by omega
      subst hn2
      refine s_il4 rfl ?_
      refine s_ic rfl ?_
      refine s_cge rfl ?_ ?_
      · intro h13
        refine s_ll2 rfl ?_
        refine s_retl rfl rfl ?_
        exact kk
      · intro h13
        exact absurd h13 (by decide)
    | succ m ih =>
      intro n hm
      have q1 := hO h n hh.1 hh.2 (by omega) (by omega)
      have q2 := hO n h (by omega) (by omega) hh.1 hh.2
      have o1 := oin n (by omega)
      have e : buM D h (n + 1) = buM D h n + (D 267 (12 * h + n) - D 267 (12 * n + h)) := by
        unfold buM
        rw [sumF]
        omega
      have b0 : -20000000000000 ≤ buM D h n ∧ buM D h n ≤ 20000000000000 := by
        unfold buM
        omega
      refine s_il4 rfl ?_
      refine s_ic rfl ?_
      refine s_cge rfl ?_ ?_
      · intro h13
        omega
      · intro h13
        refine s_ll2 rfl ?_
        refine s_al0 rfl ?_
        refine s_gf rfl (hk.at rfl rfl) rfl rfl ?_
        refine s_ic rfl ?_
        refine s_il1 rfl ?_
        refine s_imul rfl ⟨by omega, by omega⟩ ?_
        refine s_il4 rfl ?_
        refine s_iadd rfl ⟨by omega, by omega⟩ ?_
        refine s_lald rfl (hk.at rfl rfl) (by omega) ?_
        refine s_al0 rfl ?_
        refine s_gf rfl (hk.at rfl rfl) rfl rfl ?_
        refine s_ic rfl ?_
        refine s_il4 rfl ?_
        refine s_imul rfl ⟨by omega, by omega⟩ ?_
        refine s_il1 rfl ?_
        refine s_iadd rfl ⟨by omega, by omega⟩ ?_
        refine s_lald rfl (hk.at rfl rfl) (by omega) ?_
        refine s_lsub rfl ⟨by omega, by omega⟩ ?_
        refine s_ladd rfl ⟨by omega, by omega⟩ ?_
        refine s_ls2 rfl rfl ?_
        refine s_iinc4 rfl rfl ⟨by omega, by omega⟩ ?_
        refine s_go rfl ?_
        rw [← e]
        exact ih (n + 1) (by omega)
  refine VM_go (tg2 rfl) (Nat.le_of_ble_eq_true rfl) ?_
  have e0 : buM D h 0 = sumF (fun e : Nat => D 255 (12 * e + h)) (D 210 54).toNat := Int.add_zero _
  refine s_al0 rfl ?_
  refine s_il1 rfl ?_
  refine s_callO rfl rfl (Or.inl rfl) rfl rfl (hk.at rfl rfl) (u_directOf hk hh hn hd ?_)
  rw [← e0]
  show V G l (d + 1) iX12_bearsNow 5 [rf 210, (0, h), (9, 0), (9, 0), (9, 0)] [(1, buM D h 0)] (K, D, z) P
  refine s_ls2 rfl rfl ?_
  refine s_ic rfl ?_
  refine s_is4 rfl rfl ?_
  exact loop 12 0 rfl
end
