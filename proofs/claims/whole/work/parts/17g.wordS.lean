/-! ===== a wording, read from tokens, as a plain function ===== -/
/-- the houses (how many, the token of each name), the treaties, what each says, causes (told, hours, miles), the steps of each -/
abbrev PS : Type := (Nat × (Nat → Nat)) × (Nat × (Nat → Nat)) × WT × ((Int → Int) × (Int → Int) × (Int → Int)) × (Nat → List (Int × Int))
abbrev PS.nh (S : PS) : Nat := S.1.1
abbrev PS.hn (S : PS) : Nat → Nat := S.1.2
abbrev PS.nt (S : PS) : Nat := S.2.1.1
abbrev PS.tn (S : PS) : Nat → Nat := S.2.1.2
abbrev PS.w (S : PS) : WT := S.2.2.1
abbrev PS.ct (S : PS) : Int → Int := S.2.2.2.1.1
abbrev PS.hs (S : PS) : Int → Int := S.2.2.2.1.2.1
abbrev PS.ms (S : PS) : Int → Int := S.2.2.2.1.2.2
abbrev PS.cl (S : PS) : Nat → List (Int × Int) := S.2.2.2.2
/-- parts: FAULT, token, how many, houses, shares -/
abbrev PT5 : Type := Int × Nat × Nat × (Int → Int) × (Int → Int)
def qFo (a b : Int) : Int := if a = 0 then b else a
theorem qFo_0 {a b : Int} : qFo a b = 0 ↔ a = 0 ∧ b = 0 := by unfold qFo; split <;> omega
theorem qFo_r {a b : Int} (h : a = 0) : qFo a b = b := if_pos h
theorem qFo_l {a b : Int} (h : a ≠ 0) : qFo a b = a := if_neg h
def uN {α : Type} (f : Nat → α) (i : Nat) (v : α) : Nat → α := fun j => if j = i then v else f j
theorem uN_at {α : Type} {f : Nat → α} {i : Nat} {v : α} : uN f i v i = v := if_pos rfl
theorem uN_ne {α : Type} {f : Nat → α} {i j : Nat} {v : α} (h : j ≠ i) : uN f i v j = f j := if_neg h
section
variable (kd nu nm pl : Nat → Int)
def qTk (c : Int) (k : Nat) : Int := if kd k = c then 0 else 1 + 16 * pl k
def qNm (lo hi : Int) (k : Nat) : Int := if kd k = 2 then (if lo ≤ nu k ∧ nu k ≤ hi then 0 else 4 + 16 * pl k) else 1 + 16 * pl k
def qLm (k : Nat) : Int := qFo (qNm kd nu pl 1 999999 k) (qFo (qTk kd pl 21 (k + 1)) (qNm kd nu pl 0 999999 (k + 2)))
def qAg (k : Nat) : Int := qFo (qNm kd nu pl 0 9 (k + 1)) (qFo (qTk kd pl 23 (k + 2)) (qNm kd nu pl 0 999999 (k + 3)))
def qIx (nh : Nat) (hn : Nat → Nat) (k : Nat) : Int := ixF (fun i => nm (hn i.toNat)) (nm k) nh
def qHf (nh : Nat) (hn : Nat → Nat) (k : Nat) : Int := if kd k = 3 then (if qIx nm nh hn k = -1 then 2 + 16 * pl k else 0) else 1 + 16 * pl k
def qNn (nh : Nat) (hn : Nat → Nat) (nt : Nat) (tn : Nat → Nat) (k : Nat) : Int := if kd k = 3 then (if qIx nm nh hn k = -1 ∧ qIx nm nt tn k = -1 then 0 else 3 + 16 * pl k) else 1 + 16 * pl k
def qP6 (own : Int) (m : Nat) (ph : Int → Int) (h : Int) (k : Nat) : Int := if h = own ∨ ixF ph h m ≠ -1 then 6 + 16 * pl k else 0
def qPf (nh : Nat) (hn : Nat → Nat) (own : Int) (k : Nat) (r : PT5) : Int := qFo (qNm kd nu pl 1 (1000 - sumF (fun i => r.2.2.2.2 i) r.2.2.1) k) (qFo (qTk kd pl 24 (k + 1)) (qFo (qHf kd nm pl nh hn (k + 2)) (qP6 pl own r.2.2.1 r.2.2.2.1 (qIx nm nh hn (k + 2)) (k + 2))))
def qPt (nh : Nat) (hn : Nat → Nat) (own : Int) (k : Nat) (r : PT5) : PT5 := (qPf kd nu nm pl nh hn own k r, k + 3, r.2.2.1 + 1, uF r.2.2.2.1 r.2.2.1 (qIx nm nh hn (k + 2)), uF r.2.2.2.2 r.2.2.1 (nu k))
def qLp (nh : Nat) (hn : Nat → Nat) (own : Int) : Nat → PT5 → PT5
  | 0, r => r
  | f + 1, r => if r.1 = 0 ∧ kd r.2.1 = 25 then qLp nh hn own f (qPt kd nu nm pl nh hn own (r.2.1 + 1) r) else r
def qP0 (k : Nat) : PT5 := (0, k, 0, fun _ => 0, fun _ => 0)
def qPs (nh : Nat) (hn : Nat → Nat) (own : Int) (k : Nat) : PT5 := qLp kd nu nm pl nh hn own 12 (qPt kd nu nm pl nh hn own k (qP0 k))
def qCd (k : Nat) : RE := if kd k = 20 then chE kd (vaE kd nu pl 4) 3 (k + 1) else (0, k, [])
def qT1 (k : Nat) : Nat := if kd (k + 4) = 19 then k + 5 else k + 4
def qT3 (ly : Int) (k : Nat) : Nat := if ly = 0 then qT1 kd k + 1 else qT1 kd k + 4
def qT4 (ly : Int) (k : Nat) (S : PS) : PT5 := qPs kd nu nm pl S.nh S.hn (qIx nm S.nh S.hn (k + 3)) (qT3 kd ly k)
def qHa (ly : Int) (k : Nat) : Bool := decide (ly ≠ 0 ∧ kd k = 22)
def qT5 (ly : Int) (k : Nat) : Nat := if qHa kd ly k = true then k + 4 else k
def qA5 (ly : Int) (k : Nat) : Int := if qHa kd ly k = true then qAg kd nu pl k else 0
def qT6 (ly : Int) (k : Nat) (S : PS) : RE := qCd kd nu pl (qT5 kd ly (qT4 kd nu nm pl ly k S).2.1)
def qTrF (ly : Int) (k : Nat) (S : PS) : Int := if 24 ≤ S.nt then 5 + 16 * pl k else qFo (qNn kd nm pl S.nh S.hn S.nt S.tn (k + 1)) (qFo (qTk kd pl 18 (k + 2)) (qFo (qHf kd nm pl S.nh S.hn (k + 3)) (qFo (qTk kd pl 10 (qT1 kd k)) (qFo (if ly = 0 then 0 else qLm kd nu pl (qT1 kd k + 1)) (qFo (qT4 kd nu nm pl ly k S).1 (qFo (qA5 kd nu pl ly (qT4 kd nu nm pl ly k S).2.1) (qFo (qT6 kd nu nm pl ly k S).1 (qTk kd pl 11 (qT6 kd nu nm pl ly k S).2.1))))))))
def qTrW (ly : Int) (k : Nat) (S : PS) : Int → Int := fun j => if j = 0 then qIx nm S.nh S.hn (k + 3) else if j = 1 then ly else if j = 2 then (if kd (k + 4) = 19 then 1 else 0) else if j = 3 then (if ly = 0 then 0 else nu (qT1 kd k + 1)) else if j = 4 then (if ly = 0 then 0 else nu (qT1 kd k + 3)) else if j = 5 then (if qHa kd ly (qT4 kd nu nm pl ly k S).2.1 = true then nu ((qT4 kd nu nm pl ly k S).2.1 + 1) else 0) else if j = 6 then (if qHa kd ly (qT4 kd nu nm pl ly k S).2.1 = true then nu ((qT4 kd nu nm pl ly k S).2.1 + 3) else 0) else if j = 7 then ((qT4 kd nu nm pl ly k S).2.2.1 : Nat) else if j < 100 then 0 else if j < 200 then (qT4 kd nu nm pl ly k S).2.2.2.1 (j - 100) else (qT4 kd nu nm pl ly k S).2.2.2.2 (j - 200)
def qTr (ly : Int) (k : Nat) (S : PS) : Int × Nat × PS := (qTrF kd nu nm pl ly k S, (qT6 kd nu nm pl ly k S).2.1 + 1, ((S.nh, S.hn), (S.nt + 1, uN S.tn S.nt (k + 1)), uN S.w S.nt (qTrW kd nu nm pl ly k S), (S.ct, S.hs, S.ms), uN S.cl S.nt (qT6 kd nu nm pl ly k S).2.2))
def qHo (k : Nat) (S : PS) : Int × Nat × PS := (if 12 ≤ S.nh then 5 + 16 * pl k else qFo (qNn kd nm pl S.nh S.hn S.nt S.tn (k + 1)) (qTk kd pl 11 (k + 2)), k + 3, ((S.nh + 1, uN S.hn S.nh (k + 1)), (S.nt, S.tn), S.w, (S.ct, S.hs, S.ms), S.cl))
def qE6 (k : Nat) (S : PS) : Int := if S.ct (nu k) = 0 then 0 else 6 + 16 * pl k
def qEv (k : Nat) (S : PS) : Int × Nat × PS := (qFo (qNm kd nu pl 0 7 (k + 1)) (qFo (qE6 nu pl (k + 1) S) (qFo (qTk kd pl 16 (k + 2)) (qFo (qNm kd nu pl 1 999 (k + 3)) (qFo (qTk kd pl 17 (k + 4)) (qFo (qNm kd nu pl 0 999 (k + 5)) (qTk kd pl 11 (k + 6))))))), k + 7, ((S.nh, S.hn), (S.nt, S.tn), S.w, (uF S.ct (nu (k + 1)) 1, uF S.hs (nu (k + 1)) (nu (k + 3)), uF S.ms (nu (k + 1)) (nu (k + 5))), S.cl))
def qLi (k : Nat) (S : PS) : Int × Nat × PS := if kd k = 12 then qHo kd nm pl k S else if kd k = 13 then qEv kd nu pl k S else if kd k = 14 then qTr kd nu nm pl 0 k S else if kd k = 15 then qTr kd nu nm pl 1 k S else (1 + 16 * pl k, k, S)
def qDr : Nat → Nat → PS → Int × Nat × PS
  | 0, k, S => (0, k, S)
  | f + 1, k, S => if kd k = 0 then (0, k, S) else if (qLi kd nu nm pl k S).1 = 0 then qDr f (qLi kd nu nm pl k S).2.1 (qLi kd nu nm pl k S).2.2 else qLi kd nu nm pl k S
end
/-- steps of the first t treaties: of the class, of the reference -/
def cTo (cl : Nat → List (Int × Int)) : Nat → Nat
  | 0 => 0
  | t + 1 => cTo cl t + (cl t).length
def rTo (cl : Nat → List (Int × Int)) : Nat → Nat
  | 0 => 0
  | t + 1 => rTo cl t + (if cl t = [] then 0 else (cl t).length + 1)
theorem cTo_congr {cl cl' : Nat → List (Int × Int)} : ∀ {t : Nat}, (∀ i, i < t → cl' i = cl i) → cTo cl' t = cTo cl t ∧ rTo cl' t = rTo cl t := by
  intro t
  induction t with
  | zero => intro _; exact ⟨rfl, rfl⟩
  | succ t ih =>
    intro h
    have := ih (fun i hi => h i (by omega))
    rw [cTo, cTo, rTo, rTo, this.1, this.2, h t (by omega)]
    exact ⟨rfl, rfl⟩
theorem cTo_le {cl : Nat → List (Int × Int)} : ∀ {t u : Nat}, t ≤ u → cTo cl t ≤ cTo cl u ∧ rTo cl t ≤ rTo cl u := by
  intro t u
  induction u with
  | zero => intro h; have : t = 0 := by omega
            subst this; exact ⟨Nat.le_refl _, Nat.le_refl _⟩
  | succ u ih =>
    intro h
    rcases (by omega : t ≤ u ∨ t = u + 1) with q | q
    · have := ih q; rw [cTo, rTo]; split <;> omega
    · subst q; exact ⟨Nat.le_refl _, Nat.le_refl _⟩
/-- what holds of parts that were read without FAULT -/
def PtI (nh : Nat) (own : Int) (r : PT5) : Prop := (∀ i : Nat, i < r.2.2.1 → (0 ≤ r.2.2.2.1 i ∧ r.2.2.2.1 i < nh) ∧ r.2.2.2.1 i ≠ own ∧ (0 ≤ r.2.2.2.2 i ∧ r.2.2.2.2 i ≤ 1000)) ∧ (∀ i j : Nat, i < j → j < r.2.2.1 → r.2.2.2.1 i ≠ r.2.2.2.1 j) ∧ sumF (fun i => r.2.2.2.2 i) r.2.2.1 ≤ 1000
theorem PtI_many {nh : Nat} {own : Int} {r : PT5} (h : PtI nh own r) (h12 : nh ≤ 12) (ho : 0 ≤ own ∧ own < nh) : r.2.2.1 ≤ 11 := by
  obtain ⟨h1, h2, -⟩ := h
  -- count, house by house
  have cnt : ∀ x : Nat, sumF (fun i : Nat => if r.2.2.2.1 i = (x : Int) then 1 else 0) r.2.2.1 ≤ (if (x : Int) = own then 0 else 1) := by
    intro x
    have gen : ∀ m : Nat, m ≤ r.2.2.1 → sumF (fun i : Nat => if r.2.2.2.1 i = (x : Int) then 1 else 0) m ≤ 1 ∧ ((∀ i, i < m → r.2.2.2.1 i ≠ (x : Int)) → sumF (fun i : Nat => if r.2.2.2.1 i = (x : Int) then 1 else 0) m = 0) := by
      intro m
      induction m with
      | zero => intro _; exact ⟨by show (0 : Int) ≤ 1; omega, fun _ => rfl⟩
      | succ m ih =>
        intro hm
        obtain ⟨a1, a2⟩ := ih (by omega)
        rw [sumF]
        by_cases q : r.2.2.2.1 m = (x : Int)
        · have z := a2 (fun i hi y => h2 i m hi (by omega) (by rw [y, q]))
          rw [if_pos q, z]
          exact ⟨by omega, fun y => absurd q (y m (by omega))⟩
        · rw [if_neg q]
          exact ⟨by omega, fun y => by rw [a2 (fun i hi => y i (by omega))]; omega⟩
    obtain ⟨a1, a2⟩ := gen r.2.2.1 (Nat.le_refl _)
    split
    · rename_i q
      rw [a2 (fun i hi y => (h1 i hi).2.1 (by rw [y, q]))]; omega
    · exact a1
  have e1 : sumF (fun x : Nat => sumF (fun i : Nat => if r.2.2.2.1 i = (x : Int) then 1 else 0) r.2.2.1) 12 = r.2.2.1 := by
    rw [sumF_swap]
    have : ∀ m : Nat, m ≤ r.2.2.1 → sumF (fun i : Nat => sumF (fun x : Nat => if r.2.2.2.1 i = (x : Int) then (1 : Int) else 0) 12) m = m := by
      intro m
      induction m with
      | zero => intro _; rfl
      | succ m ih =>
        intro hm
        have hb := (h1 m (by omega)).1
        rw [sumF, ih (by omega)]
        have : sumF (fun x : Nat => if r.2.2.2.1 m = (x : Int) then (1 : Int) else 0) 12 = 1 := by
          rw [sumF_congr (g := fun x : Nat => if x = (r.2.2.2.1 m).toNat then (1 : Int) else 0) (fun x hx => by
            by_cases q : r.2.2.2.1 m = (x : Int)
            · rw [if_pos q, if_pos (by omega)]
            · rw [if_neg q, if_neg (by omega)])]
          exact sumF_one (by omega)
        rw [this]; omega
    exact this r.2.2.1 (Nat.le_refl _)
  have e2 : sumF (fun x : Nat => if (x : Int) = own then (0 : Int) else 1) 12 = 11 := by
    have : sumF (fun x : Nat => if (x : Int) = own then (0 : Int) else 1) 12 = sumF (fun x : Nat => (1 : Int) - (if x = own.toNat then 1 else 0)) 12 := sumF_congr fun x hx => by
      by_cases q : (x : Int) = own
      · rw [if_pos q, if_pos (by omega)]; omega
      · rw [if_neg q, if_neg (by omega)]; omega
    rw [this, sumF_sub, sumF_one (by omega)]
    rfl
  have e3 := sumF_le2 (n := 12) (fun x (_ : x < 12) => cnt x)
  rw [e1, e2] at e3
  omega
section
variable {kd nu nm pl : Nat → Int} {N : Nat}
theorem qTk_0 {c : Int} {k : Nat} (h : kd k = c) : qTk kd pl c k = 0 := if_pos h
theorem qTk_1 {c : Int} {k : Nat} (h : kd k ≠ c) : qTk kd pl c k = 1 + 16 * pl k := if_neg h
theorem qTk_z {c : Int} {k : Nat} (hp : 0 ≤ pl k) : qTk kd pl c k = 0 ↔ kd k = c := by unfold qTk; split <;> omega
theorem qNm_0 {lo hi : Int} {k : Nat} (h : kd k = 2) (h2 : lo ≤ nu k ∧ nu k ≤ hi) : qNm kd nu pl lo hi k = 0 := by unfold qNm; rw [if_pos h, if_pos h2]
theorem qNm_1 {lo hi : Int} {k : Nat} (h : kd k ≠ 2) : qNm kd nu pl lo hi k = 1 + 16 * pl k := if_neg h
theorem qNm_4 {lo hi : Int} {k : Nat} (h : kd k = 2) (h2 : ¬ (lo ≤ nu k ∧ nu k ≤ hi)) : qNm kd nu pl lo hi k = 4 + 16 * pl k := by unfold qNm; rw [if_pos h, if_neg h2]
theorem qNm_z {lo hi : Int} {k : Nat} (hp : 0 ≤ pl k) : qNm kd nu pl lo hi k = 0 ↔ kd k = 2 ∧ lo ≤ nu k ∧ nu k ≤ hi := by
  unfold qNm
  split
  · split
    · exact ⟨fun _ => ⟨by assumption, by assumption⟩, fun _ => rfl⟩
    · rename_i h; exact ⟨fun q => by omega, fun q => absurd q.2 h⟩
  · rename_i h; exact ⟨fun q => by omega, fun q => absurd q.1 h⟩
theorem qHf_z {nh : Nat} {hn : Nat → Nat} {k : Nat} (hp : 0 ≤ pl k) : qHf kd nm pl nh hn k = 0 ↔ kd k = 3 ∧ qIx nm nh hn k ≠ -1 := by
  unfold qHf
  split
  · split
    · rename_i h; exact ⟨fun q => by omega, fun q => absurd h q.2⟩
    · rename_i h; exact ⟨fun _ => ⟨by assumption, h⟩, fun _ => rfl⟩
  · rename_i h; exact ⟨fun q => by omega, fun q => absurd q.1 h⟩
theorem qNn_z {nh : Nat} {hn : Nat → Nat} {nt : Nat} {tn : Nat → Nat} {k : Nat} (hp : 0 ≤ pl k) : qNn kd nm pl nh hn nt tn k = 0 ↔ kd k = 3 ∧ qIx nm nh hn k = -1 ∧ qIx nm nt tn k = -1 := by
  unfold qNn
  split
  · split
    · exact ⟨fun _ => ⟨by assumption, by assumption⟩, fun _ => rfl⟩
    · rename_i h; exact ⟨fun q => by omega, fun q => absurd q.2 h⟩
  · rename_i h; exact ⟨fun q => by omega, fun q => absurd q.1 h⟩
theorem qIx_in {nh : Nat} {hn : Nat → Nat} {k : Nat} : -1 ≤ qIx nm nh hn k ∧ qIx nm nh hn k < nh ∧ (qIx nm nh hn k = -1 → ∀ i, i < nh → nm (hn i) ≠ nm k) := by
  unfold qIx
  rcases ixF_in (f := fun i => nm (hn i.toNat)) (x := nm k) nh with ⟨h1, h2⟩ | ⟨i, h1, h2, h3, h4⟩
  · exact ⟨by omega, by omega, fun _ i hi => h2 i hi⟩
  · exact ⟨by omega, by omega, fun q => by omega⟩
theorem qP6_z {own : Int} {m : Nat} {ph : Int → Int} {h : Int} {k : Nat} (hp : 0 ≤ pl k) : qP6 pl own m ph h k = 0 ↔ h ≠ own ∧ ∀ i : Nat, i < m → ph i ≠ h := by
  unfold qP6
  rcases ixF_in (f := ph) (x := h) m with ⟨h1, h2⟩ | ⟨i, h1, h2, h3, h4⟩
  · split
    · exact ⟨fun q => by omega, fun q => by omega⟩
    · exact ⟨fun _ => ⟨by omega, h2⟩, fun _ => rfl⟩
  · rw [if_pos (by omega)]
    exact ⟨fun q => by omega, fun q => absurd h3 (q.2 i h1)⟩
theorem pt_ok {nh : Nat} {hn : Nat → Nat} {own : Int} {k : Nat} {r : PT5} (hp : ∀ k, 0 ≤ pl k) (hr : PtI nh own r) (h0 : (qPt kd nu nm pl nh hn own k r).1 = 0) : PtI nh own (qPt kd nu nm pl nh hn own k r) := by
  have h0 : qPf kd nu nm pl nh hn own k r = 0 := h0
  unfold qPf at h0
  rw [qFo_0, qFo_0, qFo_0, qNm_z (hp _), qHf_z (hp _), qP6_z (hp _)] at h0
  obtain ⟨⟨a0, a1, a2⟩, -, ⟨-, b⟩, c1, c2⟩ := h0
  obtain ⟨h1, h2, h3⟩ := hr
  have ix := qIx_in (nm := nm) (nh := nh) (hn := hn) (k := k + 2)
  refine ⟨fun i hi => ?_, fun i j hij hj => ?_, ?_⟩
  · have hi : i < r.2.2.1 + 1 := hi
    show (0 ≤ uF r.2.2.2.1 r.2.2.1 (qIx nm nh hn (k + 2)) i ∧ uF r.2.2.2.1 r.2.2.1 (qIx nm nh hn (k + 2)) i < nh) ∧ uF r.2.2.2.1 r.2.2.1 (qIx nm nh hn (k + 2)) i ≠ own ∧ (0 ≤ uF r.2.2.2.2 r.2.2.1 (nu k) i ∧ uF r.2.2.2.2 r.2.2.1 (nu k) i ≤ 1000)
    rcases (by omega : i < r.2.2.1 ∨ i = r.2.2.1) with q | q
    · rw [uF_ne (by omega), uF_ne (by omega)]; exact h1 i q
    · subst q
      rw [uF_at, uF_at]
      have := sumF_nonneg (f := fun i : Nat => r.2.2.2.2 i) (n := r.2.2.1) (fun i hi => (h1 i hi).2.2.1)
      exact ⟨by omega, c1, by omega⟩
  · have hj : j < r.2.2.1 + 1 := hj
    show uF r.2.2.2.1 r.2.2.1 (qIx nm nh hn (k + 2)) i ≠ uF r.2.2.2.1 r.2.2.1 (qIx nm nh hn (k + 2)) j
    rcases (by omega : j < r.2.2.1 ∨ j = r.2.2.1) with q | q
    · rw [uF_ne (by omega), uF_ne (by omega)]; exact h2 i j hij q
    · subst q
      rw [uF_at, uF_ne (by omega)]; exact c2 i hij
  · show sumF (fun i : Nat => uF r.2.2.2.2 r.2.2.1 (nu k) i) (r.2.2.1 + 1) ≤ 1000
    rw [sumF, sumF_congr (g := fun i : Nat => r.2.2.2.2 i) (fun i hi => uF_ne (by omega)), uF_at]; omega
/-- the loop of the parts: what it ends with -/
theorem lp_pt {nh : Nat} {hn : Nat → Nat} {own : Int} (hp : ∀ k, 0 ≤ pl k) (hN : kd N = 0) (h12 : nh ≤ 12) (ho : 0 ≤ own ∧ own < nh) : ∀ (f k : Nat) (r : PT5), (r.1 = 0 → PtI nh own r ∧ k < r.2.1 ∧ r.2.1 ≤ N) → 0 ≤ r.1 → 0 ≤ (qLp kd nu nm pl nh hn own f r).1 ∧ ((qLp kd nu nm pl nh hn own f r).1 = 0 → PtI nh own (qLp kd nu nm pl nh hn own f r) ∧ k < (qLp kd nu nm pl nh hn own f r).2.1 ∧ (qLp kd nu nm pl nh hn own f r).2.1 ≤ N ∧ (13 ≤ r.2.2.1 + f → kd (qLp kd nu nm pl nh hn own f r).2.1 ≠ 25)) := by
  intro f
  induction f with
  | zero =>
    intro k r h h0
    refine ⟨h0, fun q => ?_⟩
    obtain ⟨a1, a2, a3⟩ := h q
    exact ⟨a1, a2, a3, fun y => by have := PtI_many a1 h12 ho; omega⟩
  | succ f ih =>
    intro k r h h0
    rw [qLp]
    split
    · rename_i q
      obtain ⟨a1, a2, a3⟩ := h q.1
      have hlt : r.2.1 < N := by
        rcases (by omega : r.2.1 < N ∨ r.2.1 = N) with y | y
        · exact y
        · rw [y, hN] at q; exact absurd q.2 (by decide)
      have nn : 0 ≤ (qPt kd nu nm pl nh hn own (r.2.1 + 1) r).1 := by
        show 0 ≤ qPf kd nu nm pl nh hn own (r.2.1 + 1) r
        have p0 := hp (r.2.1 + 1)
        have p1 := hp (r.2.1 + 1 + 1)
        have p2 := hp (r.2.1 + 1 + 2)
        unfold qPf qFo qNm qTk qHf qP6
        (repeat' split) <;> omega
      have st := ih k (qPt kd nu nm pl nh hn own (r.2.1 + 1) r) (fun y => ⟨pt_ok hp a1 y, ?_, ?_⟩) nn
      · refine ⟨st.1, fun y => ?_⟩
        obtain ⟨b1, b2, b3, b4⟩ := st.2 y
        exact ⟨b1, b2, b3, fun z => b4 (by show 13 ≤ r.2.2.1 + 1 + f; omega)⟩
      · show k < r.2.1 + 1 + 3; omega
      · have y : qPf kd nu nm pl nh hn own (r.2.1 + 1) r = 0 := y
        unfold qPf at y
        rw [qFo_0, qFo_0, qFo_0, qNm_z (hp _), qTk_z (hp _), qHf_z (hp _)] at y
        obtain ⟨⟨z1, -⟩, z2, ⟨z3, -⟩, -⟩ := y
        have step : ∀ i, i ≤ N → kd i ≠ 0 → i + 1 ≤ N := fun i hi y => by
          rcases (by omega : i + 1 ≤ N ∨ i = N) with w | w
          · exact w
          · exact absurd (w ▸ hN) y
        have s1 := step (r.2.1 + 1) (by omega) (by omega)
        have s2 := step (r.2.1 + 1 + 1) (by omega) (by omega)
        have s3 := step (r.2.1 + 1 + 2) (by omega) (by omega)
        show r.2.1 + 1 + 3 ≤ N; omega
    · rename_i q
      refine ⟨h0, fun y => ?_⟩
      obtain ⟨a1, a2, a3⟩ := h y
      exact ⟨a1, a2, a3, fun _ z => q ⟨y, z⟩⟩
end
