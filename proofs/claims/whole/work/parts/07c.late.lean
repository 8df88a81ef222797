/-! ===== late told, as plain functions ===== -/
def ps (x : Int) : Int := if x < 0 then 0 else x
theorem ps_in {x m : Int} (h : x ≤ m) (hm : 0 ≤ m) : 0 ≤ ps x ∧ ps x ≤ m := by unfold ps; split <;> omega
section
variable (hs hr wo wd wa : Int → Int) (nl nw : Nat)
def laF (k : Nat) (lag : Int) : Int := ps (amF wo wd wa k ((hr k / 24 / 365 + 1 + lag) * 365 - 1) nw)
def knG (h y lag : Int) (k : Nat) : Int := if hs k = h ∧ hr k / 24 / 365 = y then laF hr wo wd wa nw k lag else 0
def knF (h y lag : Int) : Int := sumF (knG hs hr wo wd wa nw h y lag) nl
def soG (h lag v q : Int) (k : Nat) : Int := if hs k = h ∧ (hr k / 24 / 365 + 1 + (lag + 1)) * 365 - 1 ≤ v then laF hr wo wd wa nw k q else 0
def soF (h lag v q : Int) : Int := sumF (soG hs hr wo wd wa nw h lag v q) nl
def faF (h lag v : Int) : Int := if soF hs hr wo wd wa nl nw h lag v lag = 0 then 1000 else if 1000 * soF hs hr wo wd wa nl nw h lag v (lag + 1) / soF hs hr wo wd wa nl nw h lag v lag < 1000000 then 1000 * soF hs hr wo wd wa nl nw h lag v (lag + 1) / soF hs hr wo wd wa nl nw h lag v lag else 1000000
end
def lgF (y v : Int) : Nat → Int → Int
  | 0, l => l
  | n + 1, l => if (y + 1 + (l + 1)) * 365 - 1 ≤ v then lgF y v n (l + 1) else l
def foI (fac : Int → Int) : Nat → Int → Int → Int
  | 0, _, s => s
  | n + 1, l, s => foI fac n (l + 1) (if s * fac l / 1000 < 1000000000 then s * fac l / 1000 else 1000000000)
theorem sum_years {C : Int → Prop} {dc : DecidablePred C} {hs yr : Nat → Int} {f : Nat → Int} {h : Int} {n : Nat} (hy : ∀ k, k < n → C (yr k) → 0 ≤ yr k ∧ yr k < 27) : sumF (fun y => if C y then sumF (fun k => if hs k = h ∧ yr k = y then f k else 0) n else 0) 27 = sumF (fun k => if hs k = h ∧ C (yr k) then f k else 0) n := by
  have e1 : sumF (fun y : Nat => if C y then sumF (fun k => if hs k = h ∧ yr k = y then f k else 0) n else 0) 27 = sumF (fun y : Nat => sumF (fun k => if C y ∧ hs k = h ∧ yr k = y then f k else 0) n) 27 := by
    refine sumF_congr fun y _ => ?_
    by_cases hc : C y
    · rw [if_pos hc]
      exact sumF_congr fun k _ => by simp [hc]
    · refine (if_neg hc).trans ((sumF_zero (n := n)).symm.trans ?_)
      exact sumF_congr fun k _ => by simp [hc]
  rw [e1, sumF_swap]
  refine sumF_congr fun k hk => ?_
  by_cases hc : hs k = h ∧ C (yr k)
  · rw [if_pos hc]
    have hb := hy k hk hc.2
    rw [sumF_congr (g := fun y => if y = (yr k).toNat then f k else 0) (fun y hy' => ?_), sumF_one (by omega)]
    by_cases he : y = (yr k).toNat
    · have : (y : Int) = yr k := by omega
      rw [if_pos he, if_pos ⟨by rw [this]; exact hc.2, hc.1, this.symm⟩]
    · rw [if_neg he, if_neg (fun q => he (by omega))]
  · rw [if_neg hc, ← sumF_zero (n := 27)]
    refine sumF_congr fun y _ => if_neg (fun q => hc ⟨q.2.1, by rw [q.2.2]; exact q.1⟩)
section
variable {hs hr wo wd wa : Int → Int} {nl nw : Nat}
theorem laF_in {k : Nat} {lag : Int} (hw : ∀ j : Nat, j < nw → 0 ≤ wa j ∧ wa j ≤ 100000) : 0 ≤ laF hr wo wd wa nw k lag ∧ laF hr wo wd wa nw k lag ≤ 100000 := ps_in (amF_in hw (by decide)).2 (by decide)
theorem knG_in {h y lag : Int} {k : Nat} (hw : ∀ j : Nat, j < nw → 0 ≤ wa j ∧ wa j ≤ 100000) : 0 ≤ knG hs hr wo wd wa nw h y lag k ∧ knG hs hr wo wd wa nw h y lag k ≤ 100000 := by
  unfold knG
  split
  · exact laF_in hw
  · omega
theorem soG_in {h lag v q : Int} {k : Nat} (hw : ∀ j : Nat, j < nw → 0 ≤ wa j ∧ wa j ≤ 100000) : 0 ≤ soG hs hr wo wd wa nw h lag v q k ∧ soG hs hr wo wd wa nw h lag v q k ≤ 100000 := by
  unfold soG
  split
  · exact laF_in hw
  · omega
theorem sum_in {f : Nat → Int} (hf : ∀ k, 0 ≤ f k ∧ f k ≤ 100000) {n : Nat} (hn : n ≤ 60) : 0 ≤ sumF f n ∧ sumF f n ≤ 6000000 := by
  have h1 := sumF_nonneg (f := f) (n := n) (fun k _ => (hf k).1)
  have h2 := sumF_le (f := f) (n := n) (c := 100000) (fun k _ => (hf k).2)
  omega
theorem knF_in {h y lag : Int} (hn : nl ≤ 60) (hw : ∀ j : Nat, j < nw → 0 ≤ wa j ∧ wa j ≤ 100000) : 0 ≤ knF hs hr wo wd wa nl nw h y lag ∧ knF hs hr wo wd wa nl nw h y lag ≤ 6000000 := sum_in (fun _ => knG_in hw) hn
theorem soF_in {h lag v q : Int} (hn : nl ≤ 60) (hw : ∀ j : Nat, j < nw → 0 ≤ wa j ∧ wa j ≤ 100000) : 0 ≤ soF hs hr wo wd wa nl nw h lag v q ∧ soF hs hr wo wd wa nl nw h lag v q ≤ 6000000 := sum_in (fun _ => soG_in hw) hn
theorem faF_in {h lag v : Int} (hn : nl ≤ 60) (hw : ∀ j : Nat, j < nw → 0 ≤ wa j ∧ wa j ≤ 100000) : 0 ≤ faF hs hr wo wd wa nl nw h lag v ∧ faF hs hr wo wd wa nl nw h lag v ≤ 1000000 := by
  have h1 := soF_in (hs := hs) (hr := hr) (wo := wo) (wd := wd) (h := h) (lag := lag) (v := v) (q := lag) hn hw
  have h2 := soF_in (hs := hs) (hr := hr) (wo := wo) (wd := wd) (h := h) (lag := lag) (v := v) (q := lag + 1) hn hw
  unfold faF
  split
  · omega
  · have := Int.ediv_nonneg (a := 1000 * soF hs hr wo wd wa nl nw h lag v (lag + 1)) (b := soF hs hr wo wd wa nl nw h lag v lag) (by omega) h1.1
    split <;> omega
/-- the reference's sums by years are the class's by losses -/
theorem kn_so {h lag v q : Int} (hr0 : ∀ k : Nat, k < nl → 0 ≤ hr k ∧ hr k < 240000) (hv : v ≤ 9999) (hlag : 0 ≤ lag) : sumF (fun y : Nat => if ((y : Int) + 1 + (lag + 1)) * 365 - 1 ≤ v then knF hs hr wo wd wa nl nw h y q else 0) 27 = soF hs hr wo wd wa nl nw h lag v q :=
  sum_years (C := fun y => (y + 1 + (lag + 1)) * 365 - 1 ≤ v) (dc := fun y => inferInstance) (hs := fun k : Nat => hs k) (yr := fun k : Nat => hr k / 24 / 365) (f := fun k => laF hr wo wd wa nw k q) (h := h) (n := nl) (fun k hk hc => by have := hr0 k hk; omega)
theorem foI_in {fac : Int → Int} (hf : ∀ l, 0 ≤ fac l) : ∀ (n : Nat) (l s : Int), 0 ≤ s ∧ s ≤ 1000000000 → 0 ≤ foI fac n l s ∧ foI fac n l s ≤ 1000000000 := by
  intro n
  induction n with
  | zero => intro l s h; exact h
  | succ n ih =>
    intro l s h
    rw [foI]
    refine ih _ _ ?_
    have h2 : 0 ≤ s * fac l / 1000 := Int.ediv_nonneg (Int.mul_nonneg h.1 (hf l)) (by decide)
    split <;> omega
end
