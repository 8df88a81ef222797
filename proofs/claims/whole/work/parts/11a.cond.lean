/-! ===== conditions: a step is (op, one): 1 a number, 2 a fact, 3 NOT, 4 + 5 - 6 < 7 = 8 AND 9 OR ===== -/
def bth (c a b : Int) : Int := if c = 4 then wr (a + b) else if c = 5 then wr (a - b) else if c = 6 then (if a < b then 1 else 0) else if c = 7 then (if a = b then 1 else 0) else if c = 8 then (if a ≠ 0 ∧ b ≠ 0 then 1 else 0) else (if a ≠ 0 ∨ b ≠ 0 then 1 else 0)
def stp (kn : Int → Int) (c : Int × Int) (s : List Int) : List Int := if c.1 = 1 then c.2 :: s else if c.1 = 2 then kn c.2 :: s else if c.1 = 3 then (match s with | x :: s => (if x = 0 then 1 else 0) :: s | [] => []) else (match s with | b :: a :: s => bth c.1 a b :: s | s => s)
def runC (kn : Int → Int) (c : Nat → Int × Int) : Nat → List Int
  | 0 => []
  | k + 1 => stp kn (c k) (runC kn c k)
def hgt (c : Nat → Int × Int) : Nat → Nat
  | 0 => 0
  | k + 1 => if (c k).1 = 1 ∨ (c k).1 = 2 then hgt c k + 1 else if (c k).1 = 3 then hgt c k else hgt c k - 1
def WfC (c : Nat → Int × Int) (n : Nat) : Prop := (∀ k, k < n → (1 ≤ (c k).1 ∧ (c k).1 ≤ 9) ∧ ((c k).1 = 3 → 1 ≤ hgt c k) ∧ (4 ≤ (c k).1 → 2 ≤ hgt c k) ∧ hgt c k ≤ 13 ∧ ((c k).1 = 2 → 0 ≤ (c k).2 ∧ (c k).2 ≤ 4)) ∧ (n = 0 ∨ hgt c n = 1)
def resC (kn : Int → Int) (c : Nat → Int × Int) (n : Nat) : Int := match runC kn c n with
  | x :: _ => x
  | [] => 1
def StI (f : Int → Int) : List Int → Prop
  | [] => True
  | x :: s => f s.length = x ∧ StI f s
theorem StI_up {f : Int → Int} {i v : Int} {s : List Int} (h : StI f s) (hi : (s.length : Int) ≤ i) : StI (uF f i v) s := by
  induction s with
  | nil => trivial
  | cons x s ih =>
    rw [List.length_cons] at hi
    exact ⟨by rw [uF_ne (by omega)]; exact h.1, ih h.2 (by omega)⟩
theorem run_len {kn : Int → Int} {c : Nat → Int × Int} {n : Nat} (h : WfC c n) : ∀ k, k ≤ n → (runC kn c k).length = hgt c k := by
  intro k
  induction k with
  | zero => intro _; rfl
  | succ k ih =>
    intro hk
    have h1 := ih (by omega)
    obtain ⟨a1, a2, a3, a4, a5⟩ := h.1 k (by omega)
    rw [runC, hgt]
    unfold stp
    by_cases q1 : (c k).1 = 1
    · rw [if_pos q1, if_pos (Or.inl q1), List.length_cons, h1]
    rw [if_neg q1]
    by_cases q2 : (c k).1 = 2
    · rw [if_pos q2, if_pos (Or.inr q2), List.length_cons, h1]
    rw [if_neg q2, if_neg (show ¬ ((c k).1 = 1 ∨ (c k).1 = 2) by omega)]
    by_cases q3 : (c k).1 = 3
    · rw [if_pos q3, if_pos q3]
      have := a2 q3
      match hs : runC kn c k with
      | [] => rw [hs] at h1; exact h1
      | x :: s => rw [hs] at h1; exact h1
    · rw [if_neg q3, if_neg q3]
      have := a3 (by omega)
      match hs : runC kn c k with
      | [] => rw [hs, List.length_nil] at h1; omega
      | [x] => rw [hs, List.length_cons, List.length_nil] at h1; omega
      | b :: a :: s =>
        rw [hs, List.length_cons, List.length_cons] at h1
        show s.length + 1 = _
        omega
def jkR (c k : Int) : Prop := (c = 4 ∧ k = 8) ∨ (c = 5 ∧ k = 9) ∨ (c = 6 ∧ k = 6) ∨ (c = 7 ∧ k = 7) ∨ (c = 8 ∧ k = 25) ∨ (c = 9 ∧ k = 26)
def encR (c : Int × Int) (s : Int) : Prop := (c.1 = 1 ∧ s = c.2 ∧ 0 ≤ c.2 ∧ c.2 ≤ 999999) ∨ (c.1 = 2 ∧ s = -(28 + c.2) ∧ 0 ≤ c.2 ∧ c.2 ≤ 4) ∨ (c.1 = 3 ∧ s = -27) ∨ jkR c.1 (-s)
def knC5 (D : Nat → Int → Int) (a : Nat) (ow hit : Int) : Int → Int := fun j => if j = 0 then D a 3 else if j = 1 then D a 4 else if j = 2 then D a 2 else if j = 3 then D (a + 1) ow else hit
section
variable {G : aCX} {l : Launch} {d : Nat} {K : Nat → aKd} {D : Nat → Int → Int} {z : Nat × Nat} {P : Int → aSt → Prop}
theorem u_both {c a b : Int} (hc : 4 ≤ c ∧ c ≤ 9) (kk : P (bth c a b) (K, D, z)) : VM G l d iX12_both [(0, c), (0, a), (0, b)] (K, D, z) P := by
  refine VM_go (tg2 rfl) (Nat.le_of_ble_eq_true rfl) ?_
  refine s_il0 rfl ?_
  refine s_sw rfl ?_
  refine And.intro (fun h1 => ?_) (fun h1n4 => ?_)
  · skip
    refine s_il1 rfl ?_
    refine s_il2 rfl ?_
    refine s_iaddW rfl ?_
    refine s_reti rfl rfl ?_
    refine (congrArg (fun x => P x (K, D, z)) (?_ : bth c a b = _)).mp kk
    unfold bth
    (repeat' split) <;> first | rfl | omega
  refine And.intro (fun h1 => ?_) (fun h1n5 => ?_)
  · skip
    refine s_il1 rfl ?_
    refine s_il2 rfl ?_
    refine s_isubW rfl ?_
    refine s_reti rfl rfl ?_
    refine (congrArg (fun x => P x (K, D, z)) (?_ : bth c a b = _)).mp kk
    unfold bth
    (repeat' split) <;> first | rfl | omega
  refine And.intro (fun h1 => ?_) (fun h1n6 => ?_)
  · skip
    refine s_il1 rfl ?_
    refine s_il2 rfl ?_
    refine s_cge rfl ?_ ?_
    · intro h46
      refine s_ic rfl ?_
      refine s_reti rfl rfl ?_
      refine (congrArg (fun x => P x (K, D, z)) (?_ : bth c a b = _)).mp kk
      unfold bth
      (repeat' split) <;> first | rfl | omega
    · intro h46
      refine s_ic rfl ?_
      refine s_go rfl ?_
      refine s_reti rfl rfl ?_
      refine (congrArg (fun x => P x (K, D, z)) (?_ : bth c a b = _)).mp kk
      unfold bth
      (repeat' split) <;> first | rfl | omega
  refine And.intro (fun h1 => ?_) (fun h1n7 => ?_)
  · skip
    refine s_il1 rfl ?_
    refine s_il2 rfl ?_
    refine s_cne rfl ?_ ?_
    · intro h57
      refine s_ic rfl ?_
      refine s_reti rfl rfl ?_
      refine (congrArg (fun x => P x (K, D, z)) (?_ : bth c a b = _)).mp kk
      unfold bth
      (repeat' split) <;> first | rfl | omega
    · intro h57
      refine s_ic rfl ?_
      refine s_go rfl ?_
      refine s_reti rfl rfl ?_
      refine (congrArg (fun x => P x (K, D, z)) (?_ : bth c a b = _)).mp kk
      unfold bth
      (repeat' split) <;> first | rfl | omega
  refine And.intro (fun h1 => ?_) (fun h1n8 => ?_)
  · skip
    refine s_il1 rfl ?_
    refine s_zeq rfl ?_ ?_
    · intro h67
      refine s_ic rfl ?_
      refine s_reti rfl rfl ?_
      refine (congrArg (fun x => P x (K, D, z)) (?_ : bth c a b = _)).mp kk
      unfold bth
      (repeat' split) <;> first | rfl | omega
    · intro h67
      refine s_il2 rfl ?_
      refine s_zeq rfl ?_ ?_
      · intro h71
        refine s_ic rfl ?_
        refine s_reti rfl rfl ?_
        refine (congrArg (fun x => P x (K, D, z)) (?_ : bth c a b = _)).mp kk
        unfold bth
        (repeat' split) <;> first | rfl | omega
      · intro h71
        refine s_ic rfl ?_
        refine s_go rfl ?_
        refine s_reti rfl rfl ?_
        refine (congrArg (fun x => P x (K, D, z)) (?_ : bth c a b = _)).mp kk
        unfold bth
        (repeat' split) <;> first | rfl | omega
  refine s_il1 rfl ?_
  refine s_zne rfl ?_ ?_
  · intro h81
    refine s_ic rfl ?_
    refine s_go rfl ?_
    refine s_reti rfl rfl ?_
    refine (congrArg (fun x => P x (K, D, z)) (?_ : bth c a b = _)).mp kk
    unfold bth
    (repeat' split) <;> first | rfl | omega
  · intro h81
    refine s_il2 rfl ?_
    refine s_zeq rfl ?_ ?_
    · intro h85
      refine s_ic rfl ?_
      refine s_reti rfl rfl ?_
      refine (congrArg (fun x => P x (K, D, z)) (?_ : bth c a b = _)).mp kk
      unfold bth
      (repeat' split) <;> first | rfl | omega
    · intro h85
      refine s_ic rfl ?_
      refine s_go rfl ?_
      refine s_reti rfl rfl ?_
      refine (congrArg (fun x => P x (K, D, z)) (?_ : bth c a b = _)).mp kk
      unfold bth
      (repeat' split) <;> first | rfl | omega
theorem v_joinT {c k a b : Int} (hc : jkR c k) (kk : P (bth c a b) (K, D, z)) : VM G l d iX8_join [(0, k), (0, a), (0, b)] (K, D, z) P := by
  unfold jkR at hc
  refine VM_go (tg2 rfl) (Nat.le_of_ble_eq_true rfl) ?_
  refine s_il0 rfl ?_
  refine s_lsw rfl ?_
  refine And.intro (fun h1 => ?_) (fun h1n6 => ?_)
  · skip
    refine s_il1 rfl ?_
    refine s_il2 rfl ?_
    refine s_cge rfl ?_ ?_
    · intro h82
      refine s_ic rfl ?_
      refine s_reti rfl rfl ?_
      refine (congrArg (fun x => P x (K, D, z)) (?_ : bth c a b = _)).mp kk
      unfold bth
      (repeat' split) <;> first | rfl | omega
    · intro h82
      refine s_ic rfl ?_
      refine s_go rfl ?_
      refine s_reti rfl rfl ?_
      refine (congrArg (fun x => P x (K, D, z)) (?_ : bth c a b = _)).mp kk
      unfold bth
      (repeat' split) <;> first | rfl | omega
  refine And.intro (fun h1 => ?_) (fun h1n7 => ?_)
  · skip
    refine s_il1 rfl ?_
    refine s_il2 rfl ?_
    refine s_cne rfl ?_ ?_
    · intro h93
      refine s_ic rfl ?_
      refine s_reti rfl rfl ?_
      refine (congrArg (fun x => P x (K, D, z)) (?_ : bth c a b = _)).mp kk
      unfold bth
      (repeat' split) <;> first | rfl | omega
    · intro h93
      refine s_ic rfl ?_
      refine s_go rfl ?_
      refine s_reti rfl rfl ?_
      refine (congrArg (fun x => P x (K, D, z)) (?_ : bth c a b = _)).mp kk
      unfold bth
      (repeat' split) <;> first | rfl | omega
  refine And.intro (fun h1 => ?_) (fun h1n8 => ?_)
  · skip
    refine s_il1 rfl ?_
    refine s_il2 rfl ?_
    refine s_iaddW rfl ?_
    refine s_reti rfl rfl ?_
    refine (congrArg (fun x => P x (K, D, z)) (?_ : bth c a b = _)).mp kk
    unfold bth
    (repeat' split) <;> first | rfl | omega
  refine And.intro (fun h1 => ?_) (fun h1n25 => ?_)
  · skip
    refine s_il1 rfl ?_
    refine s_zeq rfl ?_ ?_
    · intro h53
      refine s_ic rfl ?_
      refine s_reti rfl rfl ?_
      refine (congrArg (fun x => P x (K, D, z)) (?_ : bth c a b = _)).mp kk
      unfold bth
      (repeat' split) <;> first | rfl | omega
    · intro h53
      refine s_il2 rfl ?_
      refine s_zeq rfl ?_ ?_
      · intro h57
        refine s_ic rfl ?_
        refine s_reti rfl rfl ?_
        refine (congrArg (fun x => P x (K, D, z)) (?_ : bth c a b = _)).mp kk
        unfold bth
        (repeat' split) <;> first | rfl | omega
      · intro h57
        refine s_ic rfl ?_
        refine s_go rfl ?_
        refine s_reti rfl rfl ?_
        refine (congrArg (fun x => P x (K, D, z)) (?_ : bth c a b = _)).mp kk
        unfold bth
        (repeat' split) <;> first | rfl | omega
  refine And.intro (fun h1 => ?_) (fun h1n26 => ?_)
  · skip
    refine s_il1 rfl ?_
    refine s_zne rfl ?_ ?_
    · intro h67
      refine s_ic rfl ?_
      refine s_go rfl ?_
      refine s_reti rfl rfl ?_
      refine (congrArg (fun x => P x (K, D, z)) (?_ : bth c a b = _)).mp kk
      unfold bth
      (repeat' split) <;> first | rfl | omega
    · intro h67
      refine s_il2 rfl ?_
      refine s_zeq rfl ?_ ?_
      · intro h71
        refine s_ic rfl ?_
        refine s_reti rfl rfl ?_
        refine (congrArg (fun x => P x (K, D, z)) (?_ : bth c a b = _)).mp kk
        unfold bth
        (repeat' split) <;> first | rfl | omega
      · intro h71
        refine s_ic rfl ?_
        refine s_go rfl ?_
        refine s_reti rfl rfl ?_
        refine (congrArg (fun x => P x (K, D, z)) (?_ : bth c a b = _)).mp kk
        unfold bth
        (repeat' split) <;> first | rfl | omega
  refine s_il1 rfl ?_
  refine s_il2 rfl ?_
  refine s_isubW rfl ?_
  refine s_reti rfl rfl ?_
  refine (congrArg (fun x => P x (K, D, z)) (?_ : bth c a b = _)).mp kk
  unfold bth
  (repeat' split) <;> first | rfl | omega
theorem v_isJoin {k : Int} (kk : P (if k = 25 ∨ k = 26 ∨ (6 ≤ k ∧ k ≤ 9) then 1 else 0) (K, D, z)) : VM G l d iX8_isJoin [(0, k)] (K, D, z) P := by
  refine VM_go (tg2 rfl) (Nat.le_of_ble_eq_true rfl) ?_
  refine s_il0 rfl ?_
  refine s_ic rfl ?_
  refine s_ceq rfl ?_ ?_
  · intro h3
    refine s_ic rfl ?_
    refine s_go rfl ?_
    refine s_retz rfl rfl (by omega) ?_
    first | (rw [if_pos (by omega)] at kk; exact kk) | (rw [if_neg (by omega)] at kk; exact kk)
  · intro h3
    refine s_il0 rfl ?_
    refine s_ic rfl ?_
    refine s_ceq rfl ?_ ?_
    · intro h9
      refine s_ic rfl ?_
      refine s_go rfl ?_
      refine s_retz rfl rfl (by omega) ?_
      first | (rw [if_pos (by omega)] at kk; exact kk) | (rw [if_neg (by omega)] at kk; exact kk)
    · intro h9
      refine s_il0 rfl ?_
      refine s_ic rfl ?_
      refine s_clt rfl ?_ ?_
      · intro h15
        refine s_ic rfl ?_
        refine s_retz rfl rfl (by omega) ?_
        first | (rw [if_pos (by omega)] at kk; exact kk) | (rw [if_neg (by omega)] at kk; exact kk)
      · intro h15
        refine s_il0 rfl ?_
        refine s_ic rfl ?_
        refine s_cgt rfl ?_ ?_
        · intro h21
          refine s_ic rfl ?_
          refine s_retz rfl rfl (by omega) ?_
          first | (rw [if_pos (by omega)] at kk; exact kk) | (rw [if_neg (by omega)] at kk; exact kk)
        · intro h21
          refine s_ic rfl ?_
          refine s_go rfl ?_
          refine s_retz rfl rfl (by omega) ?_
          first | (rw [if_pos (by omega)] at kk; exact kk) | (rw [if_neg (by omega)] at kk; exact kk)
theorem v_fact {T t a : Nat} {j hit : Int} (hk : Kn K) (hT : isT T) (ht : t < 24) (ha : Kh K a) (hj : 0 ≤ j ∧ j ≤ 4) (ho : 0 ≤ D (T + 9 + 3 * t) 0 ∧ D (T + 9 + 3 * t) 0 < 12) (kk : P (knC5 D a (D (T + 9 + 3 * t) 0) hit j) (K, D, z)) : VM G l d iX8_fact [(0, 28 + j), rf a, rf (T + 9 + 3 * t), (0, hit)] (K, D, z) P := by
  obtain ⟨ha0, k0, k1, k2, k3, k4, k5, k6, k7, k8, k9⟩ := ha
  obtain ⟨t1, t2, t3⟩ := KTt hk hT ht
  refine VM_go (tg2 rfl) (Nat.le_of_ble_eq_true rfl) ?_
  refine s_il0 rfl ?_
  refine s_sw rfl ?_
  refine And.intro (fun h1 => ?_) (fun h1n28 => ?_)
  · skip
    refine s_al1 rfl ?_
    refine s_gi rfl k0 rfl ?_
    refine s_reti rfl rfl ?_
    refine (congrArg (fun x => P x (K, D, z)) (?_ : knC5 D a (D (T + 9 + 3 * t) 0) hit j = _)).mp kk
    unfold knC5
    (repeat' split) <;> first | rfl | omega
  refine And.intro (fun h1 => ?_) (fun h1n29 => ?_)
  · skip
    refine s_al1 rfl ?_
    refine s_gi rfl k0 rfl ?_
    refine s_reti rfl rfl ?_
    refine (congrArg (fun x => P x (K, D, z)) (?_ : knC5 D a (D (T + 9 + 3 * t) 0) hit j = _)).mp kk
    unfold knC5
    (repeat' split) <;> first | rfl | omega
  refine And.intro (fun h1 => ?_) (fun h1n30 => ?_)
  · skip
    refine s_al1 rfl ?_
    refine s_gi rfl k0 rfl ?_
    refine s_reti rfl rfl ?_
    refine (congrArg (fun x => P x (K, D, z)) (?_ : knC5 D a (D (T + 9 + 3 * t) 0) hit j = _)).mp kk
    unfold knC5
    (repeat' split) <;> first | rfl | omega
  refine And.intro (fun h1 => ?_) (fun h1n31 => ?_)
  · skip
    refine s_al1 rfl ?_
    refine s_gf rfl k0 rfl rfl ?_
    refine s_al2 rfl ?_
    refine s_gi rfl t1 rfl ?_
    refine s_iald rfl k1 (by omega) ?_
    refine s_reti rfl rfl ?_
    refine (congrArg (fun x => P x (K, D, z)) (?_ : knC5 D a (D (T + 9 + 3 * t) 0) hit j = _)).mp kk
    unfold knC5
    (repeat' split) <;> first | rfl | omega
  refine s_il3 rfl ?_
  refine s_reti rfl rfl ?_
  refine (congrArg (fun x => P x (K, D, z)) (?_ : knC5 D a (D (T + 9 + 3 * t) 0) hit j = _)).mp kk
  unfold knC5
  (repeat' split) <;> first | rfl | omega
end
