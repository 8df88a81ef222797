/-! ===== a small machine over whole numbers: values are (tag, word): 0 an int, 1 a long, 2 a reference (0 is null, n is the n-th cell made since the law began), 9 nothing ===== -/
abbrev aTV : Type := Nat × Int
/-- a cell's kind: its tag (0 to 12 a class, 13 char[], 14 int[], 15 long[], 16 boolean[], 17 Happening[], 18 Treaty[], 99 none), its length, the references that it holds for good -/
abbrev aKd : Type := Nat × Nat × List Nat
/-- kinds, what the cells hold, the next cell's number, the slots in use -/
abbrev aSt : Type := (Nat → aKd) × (Nat → Int → Int) × Nat × Nat
/-- pc, next pc, the instruction, its number here, two operands, a target, a switch's rows -/
abbrev aEn : Type := Nat × Nat × Instr × Nat × Int × Int × Nat × List (Int × Nat)
/-- name, bytes, locals, type of the answer, (class, code of the answer, 0 virtual 1 constructor 2 static, arguments), the instructions in rows of 32 places -/
abbrev aMI : Type := MethodName × ByteArray × Nat × Option FieldType × (Nat × Nat × Nat × Nat) × List (List aEn)
def aFind (l : List aEn) (pc : Nat) : Option aEn := match l with
  | [] => none
  | e :: es => bif Nat.beq e.1 pc then some e else aFind es pc
def aRow (l : List (List aEn)) (n : Nat) : List aEn := match l, n with
  | [], _ => []
  | x :: _, 0 => x
  | _ :: xs, n + 1 => aRow xs n
def aLook (mi : aMI) (pc : Nat) : Option aEn := aFind (aRow mi.2.2.2.2.2 (pc / 32)) pc
/-- the words of the fields: 0 int, 1 long, 2 a reference for good, 3 another reference, 4 boolean -/
def aNth {α : Type} (l : List α) (n : Nat) : Option α := match l, n with
  | [], _ => none
  | x :: _, 0 => some x
  | _ :: xs, n + 1 => aNth xs n
def aSet {α : Type} (l : List α) (n : Nat) (v : α) : List α := match l, n with
  | [], _ => []
  | _ :: xs, 0 => v :: xs
  | x :: xs, n + 1 => x :: aSet xs n v
def aUp (d : Nat → Int → Int) (r : Nat) (i v : Int) : Nat → Int → Int := fun r' i' => if r' = r ∧ i' = i then v else d r' i'
def aUk (K : Nat → aKd) (r : Nat) (x : aKd) : Nat → aKd := fun r' => if r' = r then x else K r'
def aUz (d : Nat → Int → Int) (r : Nat) : Nat → Int → Int := fun r' i' => if r' = r then 0 else d r' i'
def aUc (d : Nat → Int → Int) (r s : Nat) (i j n : Int) : Nat → Int → Int := fun r' i' => if r' = s ∧ j ≤ i' ∧ i' < j + n then d r (i + (i' - j)) else d r' i'
section
variable (S L : List aTV) (f : Int → List aTV → Prop) (g : Nat → List aTV → Prop) (h : Int → Prop)
def pT (t : Nat) : Prop := match S with
  | [] => False
  | v :: S' => bif Nat.beq v.1 t then f v.2 S' else False
def pR : Prop := pT S (fun w S' => match w with
  | Int.ofNat n => g n S'
  | Int.negSucc _ => False) 2
def lT (t i : Nat) : Prop := match aNth L i with
  | none => False
  | some v => bif Nat.beq v.1 t then h v.2 else False
end
/-- a store: the place in front of it must not hold a long -/
def sT (L : List aTV) (i : Nat) (v : aTV) (h : List aTV → Prop) : Prop := match i with
  | 0 => h (aSet L 0 v)
  | j + 1 => match aNth L j with
    | none => False
    | some u => bif Nat.beq u.1 1 then False else h (aSet L (j + 1) v)
def aPop (n : Nat) (S A : List aTV) (f : List aTV → List aTV → Prop) : Prop := match n with
  | 0 => f A S
  | n + 1 => match S with
    | [] => False
    | v :: S' => aPop n S' (v :: A) f
def aCat (S : List aTV) : Nat := match S with
  | [] => 0
  | v :: S' => (bif Nat.beq v.1 1 then 2 else 1) + aCat S'
def aPush (rc : Nat) (w : Int) (S : List aTV) : List aTV := bif Nat.beq rc 9 then S else (bif Nat.beq rc 1 then 1 else bif Nat.beq rc 2 then 2 else 0, w) :: S
/-- the locals at a method's entry -/
def aPad (n : Nat) : List aTV := match n with
  | 0 => []
  | n + 1 => (9, 0) :: aPad n
def aArg (A : List aTV) (n : Nat) : List aTV := match A with
  | [] => aPad n
  | v :: A' => bif Nat.beq v.1 1 then v :: (9, 0) :: aArg A' (n - 2) else v :: aArg A' (n - 1)
def aSw (tl : List (Int × Nat)) (w : Int) (dflt : Nat) (k : Nat → Prop) : Prop := match tl with
  | [] => k dflt
  | x :: xs => (w = x.1 → k x.2) ∧ (¬ w = x.1 → aSw xs w dflt k)
def aFts : List (List Nat) := [[0, 0, 2, 2, 2, 2, 2, 2, 2, 2, 2, 2, 2], [2, 2, 2, 2, 2, 2, 2, 0, 0], [2, 0, 0, 2, 2, 2, 2], [4, 0, 0, 0, 0, 0, 0, 4, 2, 2, 2, 2, 2, 2, 2, 2, 2], [2, 2, 2, 3, 0], [2, 2, 2, 2, 2, 2, 2, 2], [2, 2, 2], [2, 2, 0, 0, 0, 0, 0, 1], [0, 0, 2, 2, 2, 2, 2, 2, 2, 0, 2], [0, 4, 4, 0, 0, 0, 0, 0, 2, 2, 0, 0, 0, 0, 0], [2, 4, 4, 2, 2, 2, 2, 0], [2, 2, 2, 2, 2, 2, 3, 0, 0, 0, 4, 4], [0, 2, 0, 0, 2, 2, 2, 0, 0, 2, 0, 0, 2, 2, 2, 2, 2, 2, 2, 2, 2, 2, 2, 2, 2, 2, 2, 2, 2, 2, 0, 2, 2, 2, 2, 0, 0, 0, 2, 2, 2, 2, 2, 2, 2, 0, 2, 2, 2, 0, 0, 0, 2, 2, 0, 2, 2, 2, 2, 2, 2, 2, 2, 2, 2, 2, 2, 2, 2, 2, 2, 2, 2, 2, 2, 2, 2, 2, 2, 2, 2, 2, 2, 0]]
def aFt (ci k : Nat) (f : Nat → Prop) : Prop := match aNth aFts ci with
  | none => False
  | some l => match aNth l k with
    | none => False
    | some t => f t
/-- one instruction -/
def aIns (aM : Nat → aMI) (cal : Nat → List aTV → aSt → (Int → aSt → Prop) → Prop) (nxt op : Nat) (a b : Int) (tgt : Nat) (tl : List (Int × Nat)) (L S : List aTV) (st : aSt) (k : Nat → List aTV → List aTV → aSt → Prop) (P : Int → aSt → Prop) : Prop :=
  match op with
  | 0 => k nxt L ((0, a) :: S) st
  | 1 => k nxt L ((1, a) :: S) st
  | 2 => lT L (fun w => k nxt L ((0, w) :: S) st) 0 a.toNat
  | 3 => lT L (fun w => k nxt L ((1, w) :: S) st) 1 a.toNat
  | 4 => lT L (fun w => k nxt L ((2, w) :: S) st) 2 a.toNat
  | 5 => pT S (fun w S' => sT L a.toNat (0, w) (fun L' => k nxt L' S' st)) 0
  | 6 => pT S (fun w S' => sT L a.toNat (1, w) (fun L' => k nxt (aSet L' (a.toNat + 1) (9, 0)) S' st)) 1
  | 7 => pT S (fun w S' => sT L a.toNat (2, w) (fun L' => k nxt L' S' st)) 2
  | 8 => pR S (fun r S' => match st.1 r with
    | (t, _, rs) => bif Nat.beq t a.toNat then aFt a.toNat b.toNat (fun c => match c with
      | 0 => k nxt L ((0, st.2.1 r b) :: S') st
      | 1 => k nxt L ((1, st.2.1 r b) :: S') st
      | 2 => (match aNth rs b.toNat with
        | none => False
        | some n => k nxt L ((2, Int.ofNat n) :: S') st)
      | 3 => k nxt L ((2, st.2.1 r b) :: S') st
      | 4 => k nxt L ((0, st.2.1 r b) :: S') st
      | _ => False) else False)
  | 9 => aFt a.toNat b.toNat (fun c => match c with
      | 0 => pT S (fun w S' => pR S' (fun r S' => match st.1 r with
        | (t, _, _) => bif Nat.beq t a.toNat then k nxt L S' (st.1, aUp st.2.1 r b w, st.2.2) else False)) 0
      | 1 => pT S (fun w S' => pR S' (fun r S' => match st.1 r with
        | (t, _, _) => bif Nat.beq t a.toNat then k nxt L S' (st.1, aUp st.2.1 r b w, st.2.2) else False)) 1
      | 3 => pT S (fun w S' => pR S' (fun r S' => match st.1 r with
        | (t, _, _) => bif Nat.beq t a.toNat then k nxt L S' (st.1, aUp st.2.1 r b w, st.2.2) else False)) 2
      | 4 => pT S (fun w S' => pR S' (fun r S' => match st.1 r with
        | (t, _, _) => bif Nat.beq t a.toNat then (w = 0 ∨ w = 1) ∧ k nxt L S' (st.1, aUp st.2.1 r b w, st.2.2) else False)) 0
      | _ => False)
  | 10 => aFt a.toNat b.toNat (fun c => match c with
      | 2 => pR S (fun n S' => pR S' (fun r S' => match st.1 r with
        | (t, l, rs) => bif Nat.beq t a.toNat && Nat.blt b.toNat rs.length then k nxt L S' (aUk st.1 r (t, l, aSet rs b.toNat n), st.2) else False))
      | _ => False)
  | 11 => pT S (fun y S' => pT S' (fun x S' => k nxt L ((0, wr (x + y)) :: S') st) 0) 0
  | 12 => pT S (fun y S' => pT S' (fun x S' => k nxt L ((0, wr (x - y)) :: S') st) 0) 0
  | 13 => pT S (fun y S' => pT S' (fun x S' => k nxt L ((0, wr (x * y)) :: S') st) 0) 0
  | 14 => pT S (fun y S' => pT S' (fun x S' => k nxt L ((0, bAnd x y) :: S') st) 0) 0
  | 15 => pT S (fun y S' => pT S' (fun x S' => k nxt L ((0, bOr x y) :: S') st) 0) 0
  | 16 => pT S (fun y S' => pT S' (fun x S' => k nxt L ((0, bXor x y) :: S') st) 0) 0
  | 17 => pT S (fun y S' => pT S' (fun x S' => k nxt L ((0, bShl x y) :: S') st) 0) 0
  | 18 => pT S (fun y S' => pT S' (fun x S' => k nxt L ((0, bShr x y) :: S') st) 0) 0
  | 19 => pT S (fun y S' => pT S' (fun x S' => k nxt L ((0, bUsh x y) :: S') st) 0) 0
  | 20 => pT S (fun y S' => pT S' (fun x S' => k nxt L ((1, wl (x + y)) :: S') st) 1) 1
  | 21 => pT S (fun y S' => pT S' (fun x S' => k nxt L ((1, wl (x - y)) :: S') st) 1) 1
  | 22 => pT S (fun y S' => pT S' (fun x S' => k nxt L ((1, wl (x * y)) :: S') st) 1) 1
  | 23 => pT S (fun y S' => pT S' (fun x S' => k nxt L ((1, bAndL x y) :: S') st) 1) 1
  | 24 => pT S (fun y S' => pT S' (fun x S' => k nxt L ((1, bOrL x y) :: S') st) 1) 1
  | 25 => pT S (fun y S' => pT S' (fun x S' => k nxt L ((1, bShlL x y) :: S') st) 1) 0
  | 26 => pT S (fun y S' => pT S' (fun x S' => k nxt L ((1, bShrL x y) :: S') st) 1) 0
  | 27 => pT S (fun y S' => pT S' (fun x S' => k nxt L ((1, bUshL x y) :: S') st) 1) 0
  | 28 => pT S (fun y S' => pT S' (fun x S' => (¬ y = 0) ∧ k nxt L ((0, wr (x.tdiv y)) :: S') st) 0) 0
  | 29 => pT S (fun y S' => pT S' (fun x S' => (¬ y = 0) ∧ k nxt L ((1, wl (x.tdiv y)) :: S') st) 1) 1
  | 30 => pT S (fun x S' => k nxt L ((0, wr (-x)) :: S') st) 0
  | 31 => lT L (fun w => sT L a.toNat (0, wr (w + b)) (fun L' => k nxt L' S st)) 0 a.toNat
  | 32 => pT S (fun x S' => k nxt L ((1, x) :: S') st) 0
  | 33 => pT S (fun x S' => k nxt L ((0, wr x) :: S') st) 1
  | 34 => pT S (fun x S' => k nxt L ((0, wc x) :: S') st) 0
  | 35 => pT S (fun y S' => pT S' (fun x S' => k nxt L ((0, cmp3 x y) :: S') st) 1) 1
  | 36 => pT S (fun y S' => pT S' (fun x S' => (x = y → k tgt L S' st) ∧ (¬ x = y → k nxt L S' st)) 0) 0
  | 37 => pT S (fun y S' => pT S' (fun x S' => (¬ x = y → k tgt L S' st) ∧ (x = y → k nxt L S' st)) 0) 0
  | 38 => pT S (fun y S' => pT S' (fun x S' => (x < y → k tgt L S' st) ∧ (y ≤ x → k nxt L S' st)) 0) 0
  | 39 => pT S (fun y S' => pT S' (fun x S' => (y ≤ x → k tgt L S' st) ∧ (x < y → k nxt L S' st)) 0) 0
  | 40 => pT S (fun y S' => pT S' (fun x S' => (y < x → k tgt L S' st) ∧ (x ≤ y → k nxt L S' st)) 0) 0
  | 41 => pT S (fun y S' => pT S' (fun x S' => (x ≤ y → k tgt L S' st) ∧ (y < x → k nxt L S' st)) 0) 0
  | 42 => pT S (fun x S' => (x = 0 → k tgt L S' st) ∧ (¬ x = 0 → k nxt L S' st)) 0
  | 43 => pT S (fun x S' => (¬ x = 0 → k tgt L S' st) ∧ (x = 0 → k nxt L S' st)) 0
  | 44 => pT S (fun x S' => (x < 0 → k tgt L S' st) ∧ (0 ≤ x → k nxt L S' st)) 0
  | 45 => pT S (fun x S' => (0 ≤ x → k tgt L S' st) ∧ (x < 0 → k nxt L S' st)) 0
  | 46 => pT S (fun x S' => (0 < x → k tgt L S' st) ∧ (x ≤ 0 → k nxt L S' st)) 0
  | 47 => pT S (fun x S' => (x ≤ 0 → k tgt L S' st) ∧ (0 < x → k nxt L S' st)) 0
  | 48 => k tgt L S st
  | 49 => pT S (fun i S' => pR S' (fun r S' => match st.1 r with
    | (t, n, _) => bif Nat.beq t 14 then (0 ≤ i ∧ i < n) ∧ k nxt L ((0, st.2.1 r i) :: S') st else False)) 0
  | 50 => pT S (fun w S' => pT S' (fun i S' => pR S' (fun r S' => match st.1 r with
    | (t, n, _) => bif Nat.beq t 14 then (0 ≤ i ∧ i < n) ∧ k nxt L S' (st.1, aUp st.2.1 r i w, st.2.2) else False)) 0) 0
  | 51 => pT S (fun i S' => pR S' (fun r S' => match st.1 r with
    | (t, n, _) => bif Nat.beq t 15 then (0 ≤ i ∧ i < n) ∧ k nxt L ((1, st.2.1 r i) :: S') st else False)) 0
  | 52 => pT S (fun w S' => pT S' (fun i S' => pR S' (fun r S' => match st.1 r with
    | (t, n, _) => bif Nat.beq t 15 then (0 ≤ i ∧ i < n) ∧ k nxt L S' (st.1, aUp st.2.1 r i w, st.2.2) else False)) 0) 1
  | 53 => pT S (fun i S' => pR S' (fun r S' => match st.1 r with
    | (t, n, _) => bif Nat.beq t 16 then (0 ≤ i ∧ i < n) ∧ k nxt L ((0, st.2.1 r i) :: S') st else False)) 0
  | 54 => pT S (fun w S' => pT S' (fun i S' => pR S' (fun r S' => match st.1 r with
    | (t, n, _) => bif Nat.beq t 16 then (0 ≤ i ∧ i < n) ∧ (w = 0 ∨ w = 1) ∧ k nxt L S' (st.1, aUp st.2.1 r i w, st.2.2) else False)) 0) 0
  | 55 => pT S (fun i S' => pR S' (fun r S' => match st.1 r with
    | (t, n, _) => bif Nat.beq t 13 then (0 ≤ i ∧ i < n) ∧ k nxt L ((0, st.2.1 r i) :: S') st else False)) 0
  | 56 => pT S (fun w S' => pT S' (fun i S' => pR S' (fun r S' => match st.1 r with
    | (t, n, _) => bif Nat.beq t 13 then (0 ≤ i ∧ i < n) ∧ (0 ≤ w ∧ w < 65536) ∧ k nxt L S' (st.1, aUp st.2.1 r i w, st.2.2) else False)) 0) 0
  | 57 => pT S (fun i S' => pR S' (fun r S' => match st.1 r with
    | (t, n, rs) => bif Nat.beq t 17 then (0 ≤ i ∧ i < n) ∧ k nxt L ((2, st.2.1 r i) :: S') st else
      bif Nat.beq t 18 then (0 ≤ i ∧ i < n) ∧ (∀ q : Nat, rs[i.toNat]? = some q → k nxt L ((2, Int.ofNat q) :: S') st) ∧ (∃ q : Nat, rs[i.toNat]? = some q) else False)) 0
  | 58 => pR S (fun q S' => pT S' (fun i S' => pR S' (fun r S' => match st.1 r, st.1 q with
    | (t, n, rs), (u, _, _) => bif Nat.beq t 17 then bif Nat.beq u 3 then (0 ≤ i ∧ i < n) ∧ k nxt L S' (st.1, aUp st.2.1 r i (Int.ofNat q), st.2.2) else False else
      bif Nat.beq t 18 then bif Nat.beq u 9 then (0 ≤ i ∧ i < n ∧ i.toNat < rs.length) ∧ k nxt L S' (aUk st.1 r (t, n, aSet rs i.toNat q), st.2) else False else False)) 0)
  | 59 => pR S (fun r S' => match st.1 r with
    | (t, n, _) => bif Nat.ble 13 t && Nat.ble t 18 && Nat.ble n 200000 then k nxt L ((0, Int.ofNat n) :: S') st else False)
  | 60 => pT S (fun w S' => match w with
    | Int.ofNat n => (st.2.2.1 + 1 ≤ 2000 ∧ st.2.2.2 + n ≤ 200000) ∧ k nxt L ((2, Int.ofNat st.2.2.1) :: S') (aUk st.1 st.2.2.1 (a.toNat, n, []), aUz st.2.1 st.2.2.1, st.2.2.1 + 1, st.2.2.2 + n)
    | Int.negSucc _ => False) 0
  | 61 => pT S (fun w S' => match w with
    | Int.ofNat n => (st.2.2.1 + 1 ≤ 2000 ∧ st.2.2.2 + n ≤ 200000) ∧ k nxt L ((2, Int.ofNat st.2.2.1) :: S') (aUk st.1 st.2.2.1 (a.toNat, n, List.replicate n 0), aUz st.2.1 st.2.2.1, st.2.2.1 + 1, st.2.2.2 + n)
    | Int.negSucc _ => False) 0
  | 62 => (match aNth aFts a.toNat with
    | none => False
    | some l => (st.2.2.1 + 1 ≤ 2000 ∧ st.2.2.2 + l.length ≤ 200000) ∧ k nxt L ((2, Int.ofNat st.2.2.1) :: S) (aUk st.1 st.2.2.1 (a.toNat, 0, List.replicate l.length 0), aUz st.2.1 st.2.2.1, st.2.2.1 + 1, st.2.2.2 + l.length))
  | 63 => (match aM a.toNat with
    | (_, _, _, _, (ci, rc, kd, n), _) => match kd with
      | 2 => aPop n S [] (fun A S' => bif Nat.ble (aCat S') 8 then cal a.toNat A st (fun w st' => k nxt L (aPush rc w S') st') else False)
      | _ => aPop n S [] (fun A S' => bif Nat.ble (aCat S' - 1) 8 then pR S' (fun r S' => match st.1 r with
        | (t, _, _) => bif Nat.beq t ci then cal a.toNat ((2, Int.ofNat r) :: A) st (fun w st' => k nxt L (aPush rc w S') st') else False) else False))
  | 64 => pR S (fun r S' => bif Nat.ble (aCat S') 8 && Nat.blt 0 r then k nxt L S' st else False)
  | 65 => (match a.toNat with
    | 0 => pT S (fun w S' => S' = [] ∧ P w st) 0
    | 1 => pT S (fun w S' => S' = [] ∧ P w st) 1
    | 2 => pT S (fun w S' => S' = [] ∧ P w st) 2
    | 4 => pT S (fun w S' => S' = [] ∧ (w = 0 ∨ w = 1) ∧ P w st) 0
    | 9 => S = [] ∧ P 0 st
    | _ => False)
  | 66 => (match S with
    | [] => False
    | v :: S' => bif Nat.beq v.1 1 then False else k nxt L (v :: v :: S') st)
  | 67 => (match S with
    | [] => False
    | v :: S1 => match S1 with
      | [] => False
      | u :: S' => bif Nat.beq v.1 1 then False else bif Nat.beq u.1 1 then False else k nxt L (v :: u :: v :: u :: S') st)
  | 68 => (match S with
    | [] => False
    | v :: S' => bif Nat.beq v.1 1 then False else k nxt L S' st)
  | 69 => pT S (fun w S' => aSw tl w tgt (fun t => k t L S' st)) 0
  | 70 => pT S (fun w S' => aSw tl w tgt (fun t => k t L S' st)) 0
  | 71 => pT S (fun w S' => (w = 0 → k tgt L S' st) ∧ (¬ w = 0 → k nxt L S' st)) 2
  | 72 => pT S (fun w S' => (¬ w = 0 → k tgt L S' st) ∧ (w = 0 → k nxt L S' st)) 2
  | 73 => pT S (fun n S' => pT S' (fun j S' => pR S' (fun s S' => pT S' (fun i S' => pR S' (fun r S' => match st.1 r, st.1 s with
    | (t, l, _), (u, m, _) => bif Nat.beq t 14 && Nat.beq u 14 && !(Nat.beq r s) && Nat.ble (aCat S') 8 then (0 ≤ n ∧ 0 ≤ i ∧ 0 ≤ j ∧ i + n ≤ l ∧ j + n ≤ m) ∧ k nxt L S' (st.1, aUc st.2.1 r s i j n, st.2.2) else False)) 0)) 0) 0
  | 74 => pT S (fun y S' => pT S' (fun x S' => bif Nat.ble (aCat S') 8 then k nxt L ((0, if x < y then y else x) :: S') st else False) 0) 0
  | 75 => pT S (fun y S' => pT S' (fun x S' => bif Nat.ble (aCat S') 8 then k nxt L ((0, if y < x then y else x) :: S') st else False) 0) 0
  | 76 => pT S (fun x S' => bif Nat.ble (aCat S') 8 then k nxt L ((0, if 0 ≤ x then x else wr (0 - x)) :: S') st else False) 0
  | 77 => pT S (fun y S' => pT S' (fun x S' => bif Nat.ble (aCat S') 8 then k nxt L ((1, if y < x then y else x) :: S') st else False) 1) 1
  | _ => False
