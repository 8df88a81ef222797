/-! ===== walking: the judgement V, instruction by instruction ===== -/
theorem aFind_ok {es : List aEn} {pc : Nat} {e : aEn} (h : aFind es pc = some e) : e ∈ es ∧ e.1 = pc := by
  induction es with
  | nil => cases h
  | cons x xs ih =>
    have h : (bif Nat.beq x.1 pc then some x else aFind xs pc) = some e := h
    cases hb : Nat.beq x.1 pc with
    | true => rw [hb] at h; cases h; exact ⟨List.mem_cons_self, beq_of hb⟩
    | false => rw [hb] at h; obtain ⟨h1, h2⟩ := ih h; exact ⟨List.mem_cons_of_mem _ h1, h2⟩
theorem aRow_in : ∀ {l : List (List aEn)} {n : Nat} {e : aEn}, e ∈ aRow l n → ∃ r ∈ l, e ∈ r := by
  intro l
  induction l with
  | nil => intro n e h; cases h
  | cons x xs ih =>
    intro n e h
    cases n with
    | zero => exact ⟨x, List.mem_cons_self, h⟩
    | succ n => obtain ⟨r, h1, h2⟩ := ih (n := n) h; exact ⟨r, List.mem_cons_of_mem _ h1, h2⟩
theorem aLook_ok {mi : aMI} {pc : Nat} {e : aEn} (hm : aMchk mi = true) (h : aLook mi pc = some e) : e.1 = pc ∧ aChk mi e = true := by
  obtain ⟨h1, h2⟩ := aFind_ok h
  obtain ⟨r, h3, h4⟩ := aRow_in h1
  exact ⟨h2, List.all_eq_true.mp (List.all_eq_true.mp hm r h3) e h4⟩
section
variable {G : aCX} {l : Launch} {d y pc nxt tgt : Nat} {i : Instr} {a b : Int} {tl : List (Int × Nat)} {L S : List aTV} {st : aSt} {K : Nat → aKd} {D : Nat → Int → Int} {z : Nat × Nat} {P : Int → aSt → Prop} {op q : Nat}
theorem V_go (hl : aLook (aM y) pc = some (q, nxt, i, op, a, b, tgt, tl)) (h : aIns aM (aCal G l d) nxt op a b tgt tl L S st (fun pc' L' S' st' => V G l d y pc' L' S' st' P) P) : V G l d y pc L S st P := by
  intro p e R s m args below meth c Q hX hVR
  have ok := okAll y
  obtain ⟨h1, h2⟩ := aLook_ok ok.1 hl
  have h1 : q = pc := h1
  subst h1
  unfold aChk at h2
  simp only [Bool.and_eq_true, decide_eq_true_eq] at h2
  obtain ⟨⟨h3, h4⟩, h5⟩ := h2
  exact o_all ok.2.1.2.2.1 hX h4 hVR (fun pc' L' S' st' hv => hv p e R s m args below meth c Q hX hVR) h5 h
theorem V_ok (h : aOkL L → aOkL S → aCan st → V G l d y pc L S st P) : V G l d y pc L S st P := fun p e R s m args below meth c Q hX hVR hL hS hC => h hL hS hC p e R s m args below meth c Q hX hVR hL hS hC
theorem V_mono {P' : Int → aSt → Prop} (h : V G l d y pc L S st P') (hp : ∀ w st', P' w st' → P w st') : V G l d y pc L S st P := fun p e R s m args below meth c Q hX hVR => h p e R s m args below meth c Q hX (fun w st' pc' ls H locs i hP => hVR w st' pc' ls H locs i (hp _ _ hP))
theorem V_eq {pc' : Nat} {L' S' : List aTV} {st' : aSt} (h : V G l d y pc' L' S' st' P) (e1 : pc = pc') (e2 : L = L') (e3 : S = S') (e4 : st = st') : V G l d y pc L S st P := by subst e1 e2 e3 e4; exact h

theorem VM_go {A : List aTV} (htg : ∀ v ∈ A, v.1 ≤ 2) (hcat : aCat A ≤ (aM y).2.2.1) (h : V G l d y 0 (aArg A (aM y).2.2.1) [] st P) : VM G l d y A st P := VM_in (okAll y).2.1 htg hcat h
theorem s_ic  (hl : aLook (aM y) pc = some (q, nxt, i, 0, a, b, tgt, tl)) (kk : V G l d y nxt L ((0, a) :: S) (K, D, z) P) : V G l d y pc L S (K, D, z) P := V_go hl (kk)
theorem s_lc  (hl : aLook (aM y) pc = some (q, nxt, i, 1, a, b, tgt, tl)) (kk : V G l d y nxt L ((1, a) :: S) (K, D, z) P) : V G l d y pc L S (K, D, z) P := V_go hl (kk)
theorem s_il {w : Int} (hl : aLook (aM y) pc = some (q, nxt, i, 2, a, b, tgt, tl)) (hw : aNth L a.toNat = some (0, w)) (kk : V G l d y nxt L ((0, w) :: S) (K, D, z) P) : V G l d y pc L S (K, D, z) P := V_go hl (by show lT L (fun w => V G l d y nxt L ((0, w) :: S) (K, D, z) P) 0 a.toNat; unfold lT; rw [hw]; exact kk)
theorem s_ll {w : Int} (hl : aLook (aM y) pc = some (q, nxt, i, 3, a, b, tgt, tl)) (hw : aNth L a.toNat = some (1, w)) (kk : V G l d y nxt L ((1, w) :: S) (K, D, z) P) : V G l d y pc L S (K, D, z) P := V_go hl (by show lT L (fun w => V G l d y nxt L ((1, w) :: S) (K, D, z) P) 1 a.toNat; unfold lT; rw [hw]; exact kk)
theorem s_al {w : Int} (hl : aLook (aM y) pc = some (q, nxt, i, 4, a, b, tgt, tl)) (hw : aNth L a.toNat = some (2, w)) (kk : V G l d y nxt L ((2, w) :: S) (K, D, z) P) : V G l d y pc L S (K, D, z) P := V_go hl (by show lT L (fun w => V G l d y nxt L ((2, w) :: S) (K, D, z) P) 2 a.toNat; unfold lT; rw [hw]; exact kk)
def sOk (L : List aTV) (i : Nat) : Bool := match i with
  | 0 => true
  | j + 1 => match aNth L j with
    | none => false
    | some u => !(Nat.beq u.1 1)
theorem sT_of {v : aTV} {h : List aTV → Prop} {i : Nat} (ho : sOk L i = true) (hh : h (aSet L i v)) : sT L i v h := by
  unfold sT
  cases i with
  | zero => exact hh
  | succ j =>
    dsimp only
    unfold sOk at ho
    dsimp only at ho
    cases hn : aNth L j with
    | none => rw [hn] at ho; cases ho
    | some u =>
      rw [hn] at ho
      dsimp only at ho ⊢
      rw [Bool.not_eq_true'] at ho
      rw [ho]
      exact hh
theorem s_is {w : Int} (hl : aLook (aM y) pc = some (q, nxt, i, 5, a, b, tgt, tl)) (ho : sOk L a.toNat = true) (kk : V G l d y nxt (aSet L a.toNat (0, w)) S (K, D, z) P) : V G l d y pc L ((0, w) :: S) (K, D, z) P := V_go hl (show sT L a.toNat (0, w) (fun L' => V G l d y nxt L' S (K, D, z) P) from sT_of ho kk)
theorem s_as {w : Int} (hl : aLook (aM y) pc = some (q, nxt, i, 7, a, b, tgt, tl)) (ho : sOk L a.toNat = true) (kk : V G l d y nxt (aSet L a.toNat (2, w)) S (K, D, z) P) : V G l d y pc L ((2, w) :: S) (K, D, z) P := V_go hl (show sT L a.toNat (2, w) (fun L' => V G l d y nxt L' S (K, D, z) P) from sT_of ho kk)
theorem s_ls {w : Int} (hl : aLook (aM y) pc = some (q, nxt, i, 6, a, b, tgt, tl)) (ho : sOk L a.toNat = true) (kk : V G l d y nxt (aSet (aSet L a.toNat (1, w)) (a.toNat + 1) (9, 0)) S (K, D, z) P) : V G l d y pc L ((1, w) :: S) (K, D, z) P := V_go hl (show sT L a.toNat (1, w) (fun L' => V G l d y nxt (aSet L' (a.toNat + 1) (9, 0)) S (K, D, z) P) from sT_of ho kk)
theorem aFt_of {ci k c : Nat} {f : Nat → Prop} (h : (match aNth aFts ci with | none => none | some l => aNth l k) = some c) (hf : f c) : aFt ci k f := by
  unfold aFt
  cases h1 : aNth aFts ci with
  | none => rw [h1] at h; cases h
  | some l =>
    rw [h1] at h
    dsimp only at h ⊢
    rw [h]
    exact hf
abbrev fCd (ci k : Nat) : Option Nat := match aNth aFts ci with | none => none | some l => aNth l k
theorem bt {b : Bool} {A : Prop} (h : b = true) (ha : A) : bif b then A else False := by rw [h]; exact ha
theorem beqs {a b : Nat} (h : a = b) : Nat.beq a b = true := by rw [h]; exact Nat.beq_refl b
theorem s_gi {r n : Nat} {rs : List Nat} (hl : aLook (aM y) pc = some (q, nxt, i, 8, a, b, tgt, tl)) (hk : K r = (a.toNat, n, rs)) (hc : fCd a.toNat b.toNat = some 0) (kk : V G l d y nxt L ((0, D r b) :: S) (K, D, z) P) : V G l d y pc L ((2, Int.ofNat r) :: S) (K, D, z) P := V_go hl (by show (match K r with | (t, _, rs) => bif Nat.beq t a.toNat then _ else False); rw [hk]; exact bt (Nat.beq_refl _) (aFt_of hc kk))
theorem s_gl {r n : Nat} {rs : List Nat} (hl : aLook (aM y) pc = some (q, nxt, i, 8, a, b, tgt, tl)) (hk : K r = (a.toNat, n, rs)) (hc : fCd a.toNat b.toNat = some 1) (kk : V G l d y nxt L ((1, D r b) :: S) (K, D, z) P) : V G l d y pc L ((2, Int.ofNat r) :: S) (K, D, z) P := V_go hl (by show (match K r with | (t, _, rs) => bif Nat.beq t a.toNat then _ else False); rw [hk]; exact bt (Nat.beq_refl _) (aFt_of hc kk))
theorem s_gr {r n : Nat} {rs : List Nat} (hl : aLook (aM y) pc = some (q, nxt, i, 8, a, b, tgt, tl)) (hk : K r = (a.toNat, n, rs)) (hc : fCd a.toNat b.toNat = some 3) (kk : V G l d y nxt L ((2, D r b) :: S) (K, D, z) P) : V G l d y pc L ((2, Int.ofNat r) :: S) (K, D, z) P := V_go hl (by show (match K r with | (t, _, rs) => bif Nat.beq t a.toNat then _ else False); rw [hk]; exact bt (Nat.beq_refl _) (aFt_of hc kk))
theorem s_gz {r n : Nat} {rs : List Nat} (hl : aLook (aM y) pc = some (q, nxt, i, 8, a, b, tgt, tl)) (hk : K r = (a.toNat, n, rs)) (hc : fCd a.toNat b.toNat = some 4) (kk : V G l d y nxt L ((0, D r b) :: S) (K, D, z) P) : V G l d y pc L ((2, Int.ofNat r) :: S) (K, D, z) P := V_go hl (by show (match K r with | (t, _, rs) => bif Nat.beq t a.toNat then _ else False); rw [hk]; exact bt (Nat.beq_refl _) (aFt_of hc kk))
theorem s_gf {r n w : Nat} {rs : List Nat} (hl : aLook (aM y) pc = some (q, nxt, i, 8, a, b, tgt, tl)) (hk : K r = (a.toNat, n, rs)) (hc : fCd a.toNat b.toNat = some 2) (hw : aNth rs b.toNat = some w) (kk : V G l d y nxt L ((2, Int.ofNat w) :: S) (K, D, z) P) : V G l d y pc L ((2, Int.ofNat r) :: S) (K, D, z) P := V_go hl (by show (match K r with | (t, _, rs) => bif Nat.beq t a.toNat then _ else False); rw [hk]; exact bt (Nat.beq_refl _) (aFt_of hc (by show (match aNth rs b.toNat with | none => False | some n => _); rw [hw]; exact kk)))
theorem s_pi {r n : Nat} {w : Int} {rs : List Nat} (hl : aLook (aM y) pc = some (q, nxt, i, 9, a, b, tgt, tl)) (hk : K r = (a.toNat, n, rs)) (hc : fCd a.toNat b.toNat = some 0) (kk : V G l d y nxt L S (K, (aUp D r b w), z) P) : V G l d y pc L ((0, w) :: (2, Int.ofNat r) :: S) (K, D, z) P := V_go hl (aFt_of hc (by show (match K r with | (t, _, _) => bif Nat.beq t a.toNat then _ else False); rw [hk]; exact bt (Nat.beq_refl _) kk))
theorem s_pl {r n : Nat} {w : Int} {rs : List Nat} (hl : aLook (aM y) pc = some (q, nxt, i, 9, a, b, tgt, tl)) (hk : K r = (a.toNat, n, rs)) (hc : fCd a.toNat b.toNat = some 1) (kk : V G l d y nxt L S (K, (aUp D r b w), z) P) : V G l d y pc L ((1, w) :: (2, Int.ofNat r) :: S) (K, D, z) P := V_go hl (aFt_of hc (by show (match K r with | (t, _, _) => bif Nat.beq t a.toNat then _ else False); rw [hk]; exact bt (Nat.beq_refl _) kk))
theorem s_pr {r n : Nat} {w : Int} {rs : List Nat} (hl : aLook (aM y) pc = some (q, nxt, i, 9, a, b, tgt, tl)) (hk : K r = (a.toNat, n, rs)) (hc : fCd a.toNat b.toNat = some 3) (kk : V G l d y nxt L S (K, (aUp D r b w), z) P) : V G l d y pc L ((2, w) :: (2, Int.ofNat r) :: S) (K, D, z) P := V_go hl (aFt_of hc (by show (match K r with | (t, _, _) => bif Nat.beq t a.toNat then _ else False); rw [hk]; exact bt (Nat.beq_refl _) kk))
theorem s_pz {r n : Nat} {w : Int} {rs : List Nat} (hl : aLook (aM y) pc = some (q, nxt, i, 9, a, b, tgt, tl)) (hk : K r = (a.toNat, n, rs)) (hc : fCd a.toNat b.toNat = some 4) (hw : w = 0 ∨ w = 1) (kk : V G l d y nxt L S (K, (aUp D r b w), z) P) : V G l d y pc L ((0, w) :: (2, Int.ofNat r) :: S) (K, D, z) P := V_go hl (aFt_of hc (by show (match K r with | (t, _, _) => bif Nat.beq t a.toNat then _ else False); rw [hk]; exact bt (Nat.beq_refl _) ⟨hw, kk⟩))
theorem s_pf {r n w : Nat} {rs : List Nat} (hl : aLook (aM y) pc = some (q, nxt, i, 10, a, b, tgt, tl)) (hk : K r = (a.toNat, n, rs)) (hc : fCd a.toNat b.toNat = some 2) (hlen : Nat.blt b.toNat rs.length = true) (kk : V G l d y nxt L S (aUk K r (a.toNat, n, aSet rs b.toNat w), D, z) P) : V G l d y pc L ((2, Int.ofNat w) :: (2, Int.ofNat r) :: S) (K, D, z) P := V_go hl (aFt_of hc (by show (match K r with | (t, l, rs) => bif Nat.beq t a.toNat && Nat.blt b.toNat rs.length then _ else False); rw [hk]; exact bt (by rw [Nat.beq_refl]; exact hlen) kk))
theorem s_iadd {u v : Int} (hl : aLook (aM y) pc = some (q, nxt, i, 11, a, b, tgt, tl)) (hr : i32 (u + v)) (kk : V G l d y nxt L ((0, u + v) :: S) (K, D, z) P) : V G l d y pc L ((0, v) :: (0, u) :: S) (K, D, z) P := V_go hl (by show V G l d y nxt L ((0, wr (u + v)) :: S) (K, D, z) P; rw [wr_id hr]; exact kk)
theorem s_iaddW {u v : Int} (hl : aLook (aM y) pc = some (q, nxt, i, 11, a, b, tgt, tl)) (kk : V G l d y nxt L ((0, wr (u + v)) :: S) (K, D, z) P) : V G l d y pc L ((0, v) :: (0, u) :: S) (K, D, z) P := V_go hl (kk)
theorem s_isub {u v : Int} (hl : aLook (aM y) pc = some (q, nxt, i, 12, a, b, tgt, tl)) (hr : i32 (u - v)) (kk : V G l d y nxt L ((0, u - v) :: S) (K, D, z) P) : V G l d y pc L ((0, v) :: (0, u) :: S) (K, D, z) P := V_go hl (by show V G l d y nxt L ((0, wr (u - v)) :: S) (K, D, z) P; rw [wr_id hr]; exact kk)
theorem s_isubW {u v : Int} (hl : aLook (aM y) pc = some (q, nxt, i, 12, a, b, tgt, tl)) (kk : V G l d y nxt L ((0, wr (u - v)) :: S) (K, D, z) P) : V G l d y pc L ((0, v) :: (0, u) :: S) (K, D, z) P := V_go hl (kk)
theorem s_imul {u v : Int} (hl : aLook (aM y) pc = some (q, nxt, i, 13, a, b, tgt, tl)) (hr : i32 (u * v)) (kk : V G l d y nxt L ((0, u * v) :: S) (K, D, z) P) : V G l d y pc L ((0, v) :: (0, u) :: S) (K, D, z) P := V_go hl (by show V G l d y nxt L ((0, wr (u * v)) :: S) (K, D, z) P; rw [wr_id hr]; exact kk)
theorem s_imulW {u v : Int} (hl : aLook (aM y) pc = some (q, nxt, i, 13, a, b, tgt, tl)) (kk : V G l d y nxt L ((0, wr (u * v)) :: S) (K, D, z) P) : V G l d y pc L ((0, v) :: (0, u) :: S) (K, D, z) P := V_go hl (kk)
theorem s_ladd {u v : Int} (hl : aLook (aM y) pc = some (q, nxt, i, 20, a, b, tgt, tl)) (hr : i64 (u + v)) (kk : V G l d y nxt L ((1, u + v) :: S) (K, D, z) P) : V G l d y pc L ((1, v) :: (1, u) :: S) (K, D, z) P := V_go hl (by show V G l d y nxt L ((1, wl (u + v)) :: S) (K, D, z) P; rw [wl_id hr]; exact kk)
theorem s_laddW {u v : Int} (hl : aLook (aM y) pc = some (q, nxt, i, 20, a, b, tgt, tl)) (kk : V G l d y nxt L ((1, wl (u + v)) :: S) (K, D, z) P) : V G l d y pc L ((1, v) :: (1, u) :: S) (K, D, z) P := V_go hl (kk)
theorem s_lsub {u v : Int} (hl : aLook (aM y) pc = some (q, nxt, i, 21, a, b, tgt, tl)) (hr : i64 (u - v)) (kk : V G l d y nxt L ((1, u - v) :: S) (K, D, z) P) : V G l d y pc L ((1, v) :: (1, u) :: S) (K, D, z) P := V_go hl (by show V G l d y nxt L ((1, wl (u - v)) :: S) (K, D, z) P; rw [wl_id hr]; exact kk)
theorem s_lsubW {u v : Int} (hl : aLook (aM y) pc = some (q, nxt, i, 21, a, b, tgt, tl)) (kk : V G l d y nxt L ((1, wl (u - v)) :: S) (K, D, z) P) : V G l d y pc L ((1, v) :: (1, u) :: S) (K, D, z) P := V_go hl (kk)
theorem s_lmul {u v : Int} (hl : aLook (aM y) pc = some (q, nxt, i, 22, a, b, tgt, tl)) (hr : i64 (u * v)) (kk : V G l d y nxt L ((1, u * v) :: S) (K, D, z) P) : V G l d y pc L ((1, v) :: (1, u) :: S) (K, D, z) P := V_go hl (by show V G l d y nxt L ((1, wl (u * v)) :: S) (K, D, z) P; rw [wl_id hr]; exact kk)
theorem s_lmulW {u v : Int} (hl : aLook (aM y) pc = some (q, nxt, i, 22, a, b, tgt, tl)) (kk : V G l d y nxt L ((1, wl (u * v)) :: S) (K, D, z) P) : V G l d y pc L ((1, v) :: (1, u) :: S) (K, D, z) P := V_go hl (kk)
theorem s_iand {u v : Int} (hl : aLook (aM y) pc = some (q, nxt, i, 14, a, b, tgt, tl)) (kk : V G l d y nxt L ((0, bAnd u v) :: S) (K, D, z) P) : V G l d y pc L ((0, v) :: (0, u) :: S) (K, D, z) P := V_go hl (kk)
theorem s_ior {u v : Int} (hl : aLook (aM y) pc = some (q, nxt, i, 15, a, b, tgt, tl)) (kk : V G l d y nxt L ((0, bOr u v) :: S) (K, D, z) P) : V G l d y pc L ((0, v) :: (0, u) :: S) (K, D, z) P := V_go hl (kk)
theorem s_ixor {u v : Int} (hl : aLook (aM y) pc = some (q, nxt, i, 16, a, b, tgt, tl)) (kk : V G l d y nxt L ((0, bXor u v) :: S) (K, D, z) P) : V G l d y pc L ((0, v) :: (0, u) :: S) (K, D, z) P := V_go hl (kk)
theorem s_ishl {u v : Int} (hl : aLook (aM y) pc = some (q, nxt, i, 17, a, b, tgt, tl)) (kk : V G l d y nxt L ((0, bShl u v) :: S) (K, D, z) P) : V G l d y pc L ((0, v) :: (0, u) :: S) (K, D, z) P := V_go hl (kk)
theorem s_ishr {u v : Int} (hl : aLook (aM y) pc = some (q, nxt, i, 18, a, b, tgt, tl)) (kk : V G l d y nxt L ((0, bShr u v) :: S) (K, D, z) P) : V G l d y pc L ((0, v) :: (0, u) :: S) (K, D, z) P := V_go hl (kk)
theorem s_iushr {u v : Int} (hl : aLook (aM y) pc = some (q, nxt, i, 19, a, b, tgt, tl)) (kk : V G l d y nxt L ((0, bUsh u v) :: S) (K, D, z) P) : V G l d y pc L ((0, v) :: (0, u) :: S) (K, D, z) P := V_go hl (kk)
theorem s_land {u v : Int} (hl : aLook (aM y) pc = some (q, nxt, i, 23, a, b, tgt, tl)) (kk : V G l d y nxt L ((1, bAndL u v) :: S) (K, D, z) P) : V G l d y pc L ((1, v) :: (1, u) :: S) (K, D, z) P := V_go hl (kk)
theorem s_lor {u v : Int} (hl : aLook (aM y) pc = some (q, nxt, i, 24, a, b, tgt, tl)) (kk : V G l d y nxt L ((1, bOrL u v) :: S) (K, D, z) P) : V G l d y pc L ((1, v) :: (1, u) :: S) (K, D, z) P := V_go hl (kk)
theorem s_lshl {u v : Int} (hl : aLook (aM y) pc = some (q, nxt, i, 25, a, b, tgt, tl)) (kk : V G l d y nxt L ((1, bShlL u v) :: S) (K, D, z) P) : V G l d y pc L ((0, v) :: (1, u) :: S) (K, D, z) P := V_go hl (kk)
theorem s_lshr {u v : Int} (hl : aLook (aM y) pc = some (q, nxt, i, 26, a, b, tgt, tl)) (kk : V G l d y nxt L ((1, bShrL u v) :: S) (K, D, z) P) : V G l d y pc L ((0, v) :: (1, u) :: S) (K, D, z) P := V_go hl (kk)
theorem s_lushr {u v : Int} (hl : aLook (aM y) pc = some (q, nxt, i, 27, a, b, tgt, tl)) (kk : V G l d y nxt L ((1, bUshL u v) :: S) (K, D, z) P) : V G l d y pc L ((0, v) :: (1, u) :: S) (K, D, z) P := V_go hl (kk)
theorem s_lcmp {u v : Int} (hl : aLook (aM y) pc = some (q, nxt, i, 35, a, b, tgt, tl)) (kk : V G l d y nxt L ((0, cmp3 u v) :: S) (K, D, z) P) : V G l d y pc L ((1, v) :: (1, u) :: S) (K, D, z) P := V_go hl (kk)
theorem s_idiv {u v : Int} (hl : aLook (aM y) pc = some (q, nxt, i, 28, a, b, tgt, tl)) (hv : ¬ v = 0) (hr : i32 (u.tdiv v)) (kk : V G l d y nxt L ((0, u.tdiv v) :: S) (K, D, z) P) : V G l d y pc L ((0, v) :: (0, u) :: S) (K, D, z) P := V_go hl (⟨hv, by show V G l d y nxt L ((0, wr (u.tdiv v)) :: S) (K, D, z) P; rw [wr_id hr]; exact kk⟩)
theorem s_ldiv {u v : Int} (hl : aLook (aM y) pc = some (q, nxt, i, 29, a, b, tgt, tl)) (hv : ¬ v = 0) (hr : i64 (u.tdiv v)) (kk : V G l d y nxt L ((1, u.tdiv v) :: S) (K, D, z) P) : V G l d y pc L ((1, v) :: (1, u) :: S) (K, D, z) P := V_go hl (⟨hv, by show V G l d y nxt L ((1, wl (u.tdiv v)) :: S) (K, D, z) P; rw [wl_id hr]; exact kk⟩)
theorem s_ineg {u : Int} (hl : aLook (aM y) pc = some (q, nxt, i, 30, a, b, tgt, tl)) (hr : i32 (-u)) (kk : V G l d y nxt L ((0, -u) :: S) (K, D, z) P) : V G l d y pc L ((0, u) :: S) (K, D, z) P := V_go hl (by show V G l d y nxt L ((0, wr (-u)) :: S) (K, D, z) P; rw [wr_id hr]; exact kk)
theorem s_i2l {u : Int} (hl : aLook (aM y) pc = some (q, nxt, i, 32, a, b, tgt, tl)) (kk : V G l d y nxt L ((1, u) :: S) (K, D, z) P) : V G l d y pc L ((0, u) :: S) (K, D, z) P := V_go hl (kk)
theorem s_l2i {u : Int} (hl : aLook (aM y) pc = some (q, nxt, i, 33, a, b, tgt, tl)) (hr : i32 u) (kk : V G l d y nxt L ((0, u) :: S) (K, D, z) P) : V G l d y pc L ((1, u) :: S) (K, D, z) P := V_go hl (by show V G l d y nxt L ((0, wr u) :: S) (K, D, z) P; rw [wr_id hr]; exact kk)
theorem s_l2iW {u : Int} (hl : aLook (aM y) pc = some (q, nxt, i, 33, a, b, tgt, tl)) (kk : V G l d y nxt L ((0, wr u) :: S) (K, D, z) P) : V G l d y pc L ((1, u) :: S) (K, D, z) P := V_go hl (kk)
theorem s_i2c {u : Int} (hl : aLook (aM y) pc = some (q, nxt, i, 34, a, b, tgt, tl)) (kk : V G l d y nxt L ((0, wc u) :: S) (K, D, z) P) : V G l d y pc L ((0, u) :: S) (K, D, z) P := V_go hl (kk)
theorem s_iinc {w : Int} (hl : aLook (aM y) pc = some (q, nxt, i, 31, a, b, tgt, tl)) (hw : aNth L a.toNat = some (0, w)) (ho : sOk L a.toNat = true) (hr : i32 (w + b)) (kk : V G l d y nxt (aSet L a.toNat (0, w + b)) S (K, D, z) P) : V G l d y pc L S (K, D, z) P := V_go hl (by show lT L (fun w => sT L a.toNat (0, wr (w + b)) (fun L' => V G l d y nxt L' S (K, D, z) P)) 0 a.toNat; unfold lT; rw [hw]; show sT L a.toNat (0, wr (w + b)) (fun L' => V G l d y nxt L' S (K, D, z) P); refine sT_of ho ?_; show V G l d y nxt (aSet L a.toNat (0, wr (w + b))) S (K, D, z) P; rw [wr_id hr]; exact kk)
theorem s_ceq {u v : Int} (hl : aLook (aM y) pc = some (q, nxt, i, 36, a, b, tgt, tl)) (kt : u = v → V G l d y tgt L S (K, D, z) P) (kf : ¬ u = v → V G l d y nxt L S (K, D, z) P) : V G l d y pc L ((0, v) :: (0, u) :: S) (K, D, z) P := V_go hl (⟨kt, kf⟩)
theorem s_cne {u v : Int} (hl : aLook (aM y) pc = some (q, nxt, i, 37, a, b, tgt, tl)) (kt : ¬ u = v → V G l d y tgt L S (K, D, z) P) (kf : u = v → V G l d y nxt L S (K, D, z) P) : V G l d y pc L ((0, v) :: (0, u) :: S) (K, D, z) P := V_go hl (⟨kt, kf⟩)
theorem s_clt {u v : Int} (hl : aLook (aM y) pc = some (q, nxt, i, 38, a, b, tgt, tl)) (kt : u < v → V G l d y tgt L S (K, D, z) P) (kf : v ≤ u → V G l d y nxt L S (K, D, z) P) : V G l d y pc L ((0, v) :: (0, u) :: S) (K, D, z) P := V_go hl (⟨kt, kf⟩)
theorem s_cge {u v : Int} (hl : aLook (aM y) pc = some (q, nxt, i, 39, a, b, tgt, tl)) (kt : v ≤ u → V G l d y tgt L S (K, D, z) P) (kf : u < v → V G l d y nxt L S (K, D, z) P) : V G l d y pc L ((0, v) :: (0, u) :: S) (K, D, z) P := V_go hl (⟨kt, kf⟩)
theorem s_cgt {u v : Int} (hl : aLook (aM y) pc = some (q, nxt, i, 40, a, b, tgt, tl)) (kt : v < u → V G l d y tgt L S (K, D, z) P) (kf : u ≤ v → V G l d y nxt L S (K, D, z) P) : V G l d y pc L ((0, v) :: (0, u) :: S) (K, D, z) P := V_go hl (⟨kt, kf⟩)
theorem s_cle {u v : Int} (hl : aLook (aM y) pc = some (q, nxt, i, 41, a, b, tgt, tl)) (kt : u ≤ v → V G l d y tgt L S (K, D, z) P) (kf : v < u → V G l d y nxt L S (K, D, z) P) : V G l d y pc L ((0, v) :: (0, u) :: S) (K, D, z) P := V_go hl (⟨kt, kf⟩)
theorem s_zeq {u : Int} (hl : aLook (aM y) pc = some (q, nxt, i, 42, a, b, tgt, tl)) (kt : u = 0 → V G l d y tgt L S (K, D, z) P) (kf : ¬ u = 0 → V G l d y nxt L S (K, D, z) P) : V G l d y pc L ((0, u) :: S) (K, D, z) P := V_go hl (⟨kt, kf⟩)
theorem s_zne {u : Int} (hl : aLook (aM y) pc = some (q, nxt, i, 43, a, b, tgt, tl)) (kt : ¬ u = 0 → V G l d y tgt L S (K, D, z) P) (kf : u = 0 → V G l d y nxt L S (K, D, z) P) : V G l d y pc L ((0, u) :: S) (K, D, z) P := V_go hl (⟨kt, kf⟩)
theorem s_zlt {u : Int} (hl : aLook (aM y) pc = some (q, nxt, i, 44, a, b, tgt, tl)) (kt : u < 0 → V G l d y tgt L S (K, D, z) P) (kf : 0 ≤ u → V G l d y nxt L S (K, D, z) P) : V G l d y pc L ((0, u) :: S) (K, D, z) P := V_go hl (⟨kt, kf⟩)
theorem s_zge {u : Int} (hl : aLook (aM y) pc = some (q, nxt, i, 45, a, b, tgt, tl)) (kt : 0 ≤ u → V G l d y tgt L S (K, D, z) P) (kf : u < 0 → V G l d y nxt L S (K, D, z) P) : V G l d y pc L ((0, u) :: S) (K, D, z) P := V_go hl (⟨kt, kf⟩)
theorem s_zgt {u : Int} (hl : aLook (aM y) pc = some (q, nxt, i, 46, a, b, tgt, tl)) (kt : 0 < u → V G l d y tgt L S (K, D, z) P) (kf : u ≤ 0 → V G l d y nxt L S (K, D, z) P) : V G l d y pc L ((0, u) :: S) (K, D, z) P := V_go hl (⟨kt, kf⟩)
theorem s_zle {u : Int} (hl : aLook (aM y) pc = some (q, nxt, i, 47, a, b, tgt, tl)) (kt : u ≤ 0 → V G l d y tgt L S (K, D, z) P) (kf : 0 < u → V G l d y nxt L S (K, D, z) P) : V G l d y pc L ((0, u) :: S) (K, D, z) P := V_go hl (⟨kt, kf⟩)
theorem s_nul {u : Int} (hl : aLook (aM y) pc = some (q, nxt, i, 71, a, b, tgt, tl)) (kt : u = 0 → V G l d y tgt L S (K, D, z) P) (kf : ¬ u = 0 → V G l d y nxt L S (K, D, z) P) : V G l d y pc L ((2, u) :: S) (K, D, z) P := V_go hl (⟨kt, kf⟩)
theorem s_nnl {u : Int} (hl : aLook (aM y) pc = some (q, nxt, i, 72, a, b, tgt, tl)) (kt : ¬ u = 0 → V G l d y tgt L S (K, D, z) P) (kf : u = 0 → V G l d y nxt L S (K, D, z) P) : V G l d y pc L ((2, u) :: S) (K, D, z) P := V_go hl (⟨kt, kf⟩)
theorem s_go  (hl : aLook (aM y) pc = some (q, nxt, i, 48, a, b, tgt, tl)) (kk : V G l d y tgt L S (K, D, z) P) : V G l d y pc L S (K, D, z) P := V_go hl (kk)
theorem s_iald {r n : Nat} {u : Int} {rs : List Nat} (hl : aLook (aM y) pc = some (q, nxt, i, 49, a, b, tgt, tl)) (hk : K r = (14, n, rs)) (hb : 0 ≤ u ∧ u < n) (kk : V G l d y nxt L ((0, D r u) :: S) (K, D, z) P) : V G l d y pc L ((0, u) :: (2, Int.ofNat r) :: S) (K, D, z) P := V_go hl (by show (match K r with | (t, n, _) => bif Nat.beq t 14 then (0 ≤ u ∧ u < n) ∧ _ else False); rw [hk]; exact ⟨hb, kk⟩)
theorem s_lald {r n : Nat} {u : Int} {rs : List Nat} (hl : aLook (aM y) pc = some (q, nxt, i, 51, a, b, tgt, tl)) (hk : K r = (15, n, rs)) (hb : 0 ≤ u ∧ u < n) (kk : V G l d y nxt L ((1, D r u) :: S) (K, D, z) P) : V G l d y pc L ((0, u) :: (2, Int.ofNat r) :: S) (K, D, z) P := V_go hl (by show (match K r with | (t, n, _) => bif Nat.beq t 15 then (0 ≤ u ∧ u < n) ∧ _ else False); rw [hk]; exact ⟨hb, kk⟩)
theorem s_bald {r n : Nat} {u : Int} {rs : List Nat} (hl : aLook (aM y) pc = some (q, nxt, i, 53, a, b, tgt, tl)) (hk : K r = (16, n, rs)) (hb : 0 ≤ u ∧ u < n) (kk : V G l d y nxt L ((0, D r u) :: S) (K, D, z) P) : V G l d y pc L ((0, u) :: (2, Int.ofNat r) :: S) (K, D, z) P := V_go hl (by show (match K r with | (t, n, _) => bif Nat.beq t 16 then (0 ≤ u ∧ u < n) ∧ _ else False); rw [hk]; exact ⟨hb, kk⟩)
theorem s_cald {r n : Nat} {u : Int} {rs : List Nat} (hl : aLook (aM y) pc = some (q, nxt, i, 55, a, b, tgt, tl)) (hk : K r = (13, n, rs)) (hb : 0 ≤ u ∧ u < n) (kk : V G l d y nxt L ((0, D r u) :: S) (K, D, z) P) : V G l d y pc L ((0, u) :: (2, Int.ofNat r) :: S) (K, D, z) P := V_go hl (by show (match K r with | (t, n, _) => bif Nat.beq t 13 then (0 ≤ u ∧ u < n) ∧ _ else False); rw [hk]; exact ⟨hb, kk⟩)
theorem s_iast {r n : Nat} {u w : Int} {rs : List Nat} (hl : aLook (aM y) pc = some (q, nxt, i, 50, a, b, tgt, tl)) (hk : K r = (14, n, rs)) (hb : 0 ≤ u ∧ u < n) (kk : V G l d y nxt L S (K, (aUp D r u w), z) P) : V G l d y pc L ((0, w) :: (0, u) :: (2, Int.ofNat r) :: S) (K, D, z) P := V_go hl (by show (match K r with | (t, n, _) => bif Nat.beq t 14 then (0 ≤ u ∧ u < n) ∧ _ else False); rw [hk]; exact ⟨hb, kk⟩)
theorem s_last {r n : Nat} {u w : Int} {rs : List Nat} (hl : aLook (aM y) pc = some (q, nxt, i, 52, a, b, tgt, tl)) (hk : K r = (15, n, rs)) (hb : 0 ≤ u ∧ u < n) (kk : V G l d y nxt L S (K, (aUp D r u w), z) P) : V G l d y pc L ((1, w) :: (0, u) :: (2, Int.ofNat r) :: S) (K, D, z) P := V_go hl (by show (match K r with | (t, n, _) => bif Nat.beq t 15 then (0 ≤ u ∧ u < n) ∧ _ else False); rw [hk]; exact ⟨hb, kk⟩)
theorem s_bast {r n : Nat} {u w : Int} {rs : List Nat} (hl : aLook (aM y) pc = some (q, nxt, i, 54, a, b, tgt, tl)) (hk : K r = (16, n, rs)) (hb : 0 ≤ u ∧ u < n) (hw : w = 0 ∨ w = 1) (kk : V G l d y nxt L S (K, (aUp D r u w), z) P) : V G l d y pc L ((0, w) :: (0, u) :: (2, Int.ofNat r) :: S) (K, D, z) P := V_go hl (by show (match K r with | (t, n, _) => bif Nat.beq t 16 then (0 ≤ u ∧ u < n) ∧ _ else False); rw [hk]; exact ⟨hb, hw, kk⟩)
theorem s_cast {r n : Nat} {u w : Int} {rs : List Nat} (hl : aLook (aM y) pc = some (q, nxt, i, 56, a, b, tgt, tl)) (hk : K r = (13, n, rs)) (hb : 0 ≤ u ∧ u < n) (hw : 0 ≤ w ∧ w < 65536) (kk : V G l d y nxt L S (K, (aUp D r u w), z) P) : V G l d y pc L ((0, w) :: (0, u) :: (2, Int.ofNat r) :: S) (K, D, z) P := V_go hl (by show (match K r with | (t, n, _) => bif Nat.beq t 13 then (0 ≤ u ∧ u < n) ∧ _ else False); rw [hk]; exact ⟨hb, hw, kk⟩)
theorem s_aald {r n : Nat} {u : Int} {rs : List Nat} (hl : aLook (aM y) pc = some (q, nxt, i, 57, a, b, tgt, tl)) (hk : K r = (17, n, rs)) (hb : 0 ≤ u ∧ u < n) (kk : V G l d y nxt L ((2, D r u) :: S) (K, D, z) P) : V G l d y pc L ((0, u) :: (2, Int.ofNat r) :: S) (K, D, z) P := V_go hl (by show (match K r with | (t, n, rs) => bif Nat.beq t 17 then (0 ≤ u ∧ u < n) ∧ _ else _); rw [hk]; exact ⟨hb, kk⟩)
theorem s_aaldT {r n w : Nat} {u : Int} {rs : List Nat} (hl : aLook (aM y) pc = some (q, nxt, i, 57, a, b, tgt, tl)) (hk : K r = (18, n, rs)) (hb : 0 ≤ u ∧ u < n) (hw : rs[u.toNat]? = some w) (kk : V G l d y nxt L ((2, Int.ofNat w) :: S) (K, D, z) P) : V G l d y pc L ((0, u) :: (2, Int.ofNat r) :: S) (K, D, z) P := V_go hl (by show (match K r with | (t, n, rs) => bif Nat.beq t 17 then (0 ≤ u ∧ u < n) ∧ V G l d y nxt L ((2, D r u) :: S) (K, D, z) P else bif Nat.beq t 18 then (0 ≤ u ∧ u < n) ∧ (∀ q : Nat, rs[u.toNat]? = some q → V G l d y nxt L ((2, Int.ofNat q) :: S) (K, D, z) P) ∧ (∃ q : Nat, rs[u.toNat]? = some q) else False); rw [hk]; exact ⟨hb, fun q hq => by rw [hw] at hq; cases hq; exact kk, w, hw⟩)
theorem s_aast {r n n2 w : Nat} {u : Int} {rs rs2 : List Nat} (hl : aLook (aM y) pc = some (q, nxt, i, 58, a, b, tgt, tl)) (hk : K r = (17, n, rs)) (hk2 : K w = (3, n2, rs2)) (hb : 0 ≤ u ∧ u < n) (kk : V G l d y nxt L S (K, (aUp D r u (Int.ofNat w)), z) P) : V G l d y pc L ((2, Int.ofNat w) :: (0, u) :: (2, Int.ofNat r) :: S) (K, D, z) P := V_go hl (by show (match K r, K w with | (t, n, rs), (q, _, _) => bif Nat.beq t 17 then bif Nat.beq q 3 then (0 ≤ u ∧ u < n) ∧ _ else False else _); rw [hk, hk2]; exact ⟨hb, kk⟩)
theorem s_aastT {r n n2 w : Nat} {u : Int} {rs rs2 : List Nat} (hl : aLook (aM y) pc = some (q, nxt, i, 58, a, b, tgt, tl)) (hk : K r = (18, n, rs)) (hk2 : K w = (9, n2, rs2)) (hb : 0 ≤ u ∧ u < n ∧ u.toNat < rs.length) (kk : V G l d y nxt L S (aUk K r (18, n, aSet rs u.toNat w), D, z) P) : V G l d y pc L ((2, Int.ofNat w) :: (0, u) :: (2, Int.ofNat r) :: S) (K, D, z) P := V_go hl (by show (match K r, K w with | (t, n, rs), (q, _, _) => bif Nat.beq t 17 then bif Nat.beq q 3 then (0 ≤ u ∧ u < n) ∧ _ else False else bif Nat.beq t 18 then bif Nat.beq q 9 then (0 ≤ u ∧ u < n ∧ u.toNat < rs.length) ∧ _ else False else False); rw [hk, hk2]; exact ⟨hb, kk⟩)
theorem s_alen {r n t : Nat} {rs : List Nat} (hl : aLook (aM y) pc = some (q, nxt, i, 59, a, b, tgt, tl)) (hk : K r = (t, n, rs)) (hb : (Nat.ble 13 t && Nat.ble t 18 && Nat.ble n 200000) = true) (kk : V G l d y nxt L ((0, Int.ofNat n) :: S) (K, D, z) P) : V G l d y pc L ((2, Int.ofNat r) :: S) (K, D, z) P := V_go hl (by show (match K r with | (t, n, _) => bif Nat.ble 13 t && Nat.ble t 18 && Nat.ble n 200000 then _ else False); rw [hk]; exact bt hb kk)
theorem s_dup {v : aTV} (hl : aLook (aM y) pc = some (q, nxt, i, 66, a, b, tgt, tl)) (hv : v.1 ≠ 1) (kk : V G l d y nxt L (v :: v :: S) (K, D, z) P) : V G l d y pc L (v :: S) (K, D, z) P := V_go hl (by show (bif Nat.beq v.1 1 then False else _); cases hb : Nat.beq v.1 1 with | true => exact absurd (beq_of hb) hv | false => exact kk)
theorem s_dup2 {v u : aTV} (hl : aLook (aM y) pc = some (q, nxt, i, 67, a, b, tgt, tl)) (hv : Nat.beq v.1 1 = false) (hu : Nat.beq u.1 1 = false) (kk : V G l d y nxt L (v :: u :: v :: u :: S) (K, D, z) P) : V G l d y pc L (v :: u :: S) (K, D, z) P := V_go hl (by show (bif Nat.beq v.1 1 then False else bif Nat.beq u.1 1 then False else _); rw [hv, hu]; exact kk)
theorem s_pop {v : aTV} (hl : aLook (aM y) pc = some (q, nxt, i, 68, a, b, tgt, tl)) (hv : Nat.beq v.1 1 = false) (kk : V G l d y nxt L S (K, D, z) P) : V G l d y pc L (v :: S) (K, D, z) P := V_go hl (by show (bif Nat.beq v.1 1 then False else _); rw [hv]; exact kk)
theorem s_sw {u : Int} (hl : aLook (aM y) pc = some (q, nxt, i, 69, a, b, tgt, tl)) (kk : aSw tl u tgt (fun t => V G l d y t L S (K, D, z) P)) : V G l d y pc L ((0, u) :: S) (K, D, z) P := V_go hl kk
theorem s_lsw {u : Int} (hl : aLook (aM y) pc = some (q, nxt, i, 70, a, b, tgt, tl)) (kk : aSw tl u tgt (fun t => V G l d y t L S (K, D, z) P)) : V G l d y pc L ((0, u) :: S) (K, D, z) P := V_go hl kk
theorem s_max {u v : Int} (hl : aLook (aM y) pc = some (q, nxt, i, 74, a, b, tgt, tl)) (hs : Nat.ble (aCat S) 8 = true) (kk : V G l d y nxt L ((0, if u < v then v else u) :: S) (K, D, z) P) : V G l d y pc L ((0, v) :: (0, u) :: S) (K, D, z) P := V_go hl (bt hs kk)
theorem s_min {u v : Int} (hl : aLook (aM y) pc = some (q, nxt, i, 75, a, b, tgt, tl)) (hs : Nat.ble (aCat S) 8 = true) (kk : V G l d y nxt L ((0, if v < u then v else u) :: S) (K, D, z) P) : V G l d y pc L ((0, v) :: (0, u) :: S) (K, D, z) P := V_go hl (bt hs kk)
theorem s_minL {u v : Int} (hl : aLook (aM y) pc = some (q, nxt, i, 77, a, b, tgt, tl)) (hs : Nat.ble (aCat S) 8 = true) (kk : V G l d y nxt L ((1, if v < u then v else u) :: S) (K, D, z) P) : V G l d y pc L ((1, v) :: (1, u) :: S) (K, D, z) P := V_go hl (bt hs kk)
theorem s_abs {u : Int} (hl : aLook (aM y) pc = some (q, nxt, i, 76, a, b, tgt, tl)) (hs : Nat.ble (aCat S) 8 = true) (hr : i32 (0 - u)) (kk : V G l d y nxt L ((0, if 0 ≤ u then u else 0 - u) :: S) (K, D, z) P) : V G l d y pc L ((0, u) :: S) (K, D, z) P := V_go hl (bt hs (by show V G l d y nxt L ((0, if 0 ≤ u then u else wr (0 - u)) :: S) (K, D, z) P; rw [wr_id hr]; exact kk))
theorem s_reti {u : Int} (hl : aLook (aM y) pc = some (q, nxt, i, 65, a, b, tgt, tl)) (ha : a.toNat = 0) (kk : P u (K, D, z)) : V G l d y pc L [(0, u)] (K, D, z) P := V_go hl (by show (match a.toNat with | 0 => _ | 1 => _ | 2 => _ | 4 => _ | 9 => _ | _ => False); rw [ha]; exact ⟨rfl, kk⟩)
theorem s_retl {u : Int} (hl : aLook (aM y) pc = some (q, nxt, i, 65, a, b, tgt, tl)) (ha : a.toNat = 1) (kk : P u (K, D, z)) : V G l d y pc L [(1, u)] (K, D, z) P := V_go hl (by show (match a.toNat with | 0 => _ | 1 => _ | 2 => _ | 4 => _ | 9 => _ | _ => False); rw [ha]; exact ⟨rfl, kk⟩)
theorem s_retr {u : Int} (hl : aLook (aM y) pc = some (q, nxt, i, 65, a, b, tgt, tl)) (ha : a.toNat = 2) (kk : P u (K, D, z)) : V G l d y pc L [(2, u)] (K, D, z) P := V_go hl (by show (match a.toNat with | 0 => _ | 1 => _ | 2 => _ | 4 => _ | 9 => _ | _ => False); rw [ha]; exact ⟨rfl, kk⟩)
theorem s_retz {u : Int} (hl : aLook (aM y) pc = some (q, nxt, i, 65, a, b, tgt, tl)) (ha : a.toNat = 4) (hu : u = 0 ∨ u = 1) (kk : P u (K, D, z)) : V G l d y pc L [(0, u)] (K, D, z) P := V_go hl (by show (match a.toNat with | 0 => _ | 1 => _ | 2 => _ | 4 => _ | 9 => _ | _ => False); rw [ha]; exact ⟨rfl, hu, kk⟩)
theorem s_retv (hl : aLook (aM y) pc = some (q, nxt, i, 65, a, b, tgt, tl)) (ha : a.toNat = 9) (kk : P 0 (K, D, z)) : V G l d y pc L [] (K, D, z) P := V_go hl (by show (match a.toNat with | 0 => _ | 1 => _ | 2 => _ | 4 => _ | 9 => _ | _ => False); rw [ha]; exact ⟨rfl, kk⟩)
theorem s_oi {r : Nat} (hl : aLook (aM y) pc = some (q, nxt, i, 64, a, b, tgt, tl)) (hb : (Nat.ble (aCat S) 8 && Nat.blt 0 r) = true) (kk : V G l d y nxt L S (K, D, z) P) : V G l d y pc L ((2, Int.ofNat r) :: S) (K, D, z) P := V_go hl (bt hb kk)
theorem s_newa {n : Nat} (hl : aLook (aM y) pc = some (q, nxt, i, 60, a, b, tgt, tl)) (hb : z.1 + 1 ≤ 2000 ∧ z.2 + n ≤ 200000) (kk : V G l d y nxt L ((2, Int.ofNat z.1) :: S) (aUk K z.1 (a.toNat, n, []), aUz D z.1, z.1 + 1, z.2 + n) P) : V G l d y pc L ((0, Int.ofNat n) :: S) (K, D, z) P := V_go hl ⟨hb, kk⟩
theorem s_newq {n : Nat} (hl : aLook (aM y) pc = some (q, nxt, i, 61, a, b, tgt, tl)) (hb : z.1 + 1 ≤ 2000 ∧ z.2 + n ≤ 200000) (kk : V G l d y nxt L ((2, Int.ofNat z.1) :: S) (aUk K z.1 (a.toNat, n, List.replicate n 0), aUz D z.1, z.1 + 1, z.2 + n) P) : V G l d y pc L ((0, Int.ofNat n) :: S) (K, D, z) P := V_go hl ⟨hb, kk⟩
theorem s_new {n : Nat} {fl : List Nat} (hl : aLook (aM y) pc = some (q, nxt, i, 62, a, b, tgt, tl)) (hf : aNth aFts a.toNat = some fl) (hn : fl.length = n) (hb : z.1 + 1 ≤ 2000 ∧ z.2 + n ≤ 200000) (kk : V G l d y nxt L ((2, Int.ofNat z.1) :: S) (aUk K z.1 (a.toNat, 0, List.replicate n 0), aUz D z.1, z.1 + 1, z.2 + n) P) : V G l d y pc L S (K, D, z) P := V_go hl (by subst hn; show (match aNth aFts a.toNat with | none => False | some l => (z.1 + 1 ≤ 2000 ∧ z.2 + l.length ≤ 200000) ∧ _); rw [hf]; exact ⟨hb, kk⟩)
theorem s_copy {r r2 n1 n2 : Nat} {rs rs2 : List Nat} {u v w : Int} (hl : aLook (aM y) pc = some (q, nxt, i, 73, a, b, tgt, tl)) (hk : K r = (14, n1, rs)) (hk2 : K r2 = (14, n2, rs2)) (hb : (!(Nat.beq r r2) && Nat.ble (aCat S) 8) = true) (h0 : 0 ≤ w ∧ 0 ≤ u ∧ 0 ≤ v ∧ u + w ≤ n1 ∧ v + w ≤ n2) (kk : V G l d y nxt L S (K, (aUc D r r2 u v w), z) P) : V G l d y pc L ((0, w) :: (0, v) :: (2, Int.ofNat r2) :: (0, u) :: (2, Int.ofNat r) :: S) (K, D, z) P := V_go hl (by show (match K r, K r2 with | (t, l, _), (q, m, _) => bif Nat.beq t 14 && Nat.beq q 14 && !(Nat.beq r r2) && Nat.ble (aCat S) 8 then (0 ≤ w ∧ 0 ≤ u ∧ 0 ≤ v ∧ u + w ≤ l ∧ v + w ≤ m) ∧ _ else False); rw [hk, hk2]; rw [Bool.and_eq_true] at hb; exact bt (by rw [hb.1, hb.2]; rfl) ⟨h0, kk⟩)
def aPopB (n : Nat) (S A : List aTV) : Option (List aTV × List aTV) := match n with
  | 0 => some (A, S)
  | n + 1 => match S with
    | [] => none
    | v :: S' => aPopB n S' (v :: A)
theorem aPopB_ok {f : List aTV → List aTV → Prop} : ∀ {n : Nat} {S A B S' : List aTV}, aPopB n S A = some (B, S') → f B S' → aPop n S A f := by
  intro n
  induction n with
  | zero => intro S A B S' h hf; cases h; exact hf
  | succ n ih =>
    intro S A B S' h hf
    cases S with
    | nil => cases h
    | cons v S1 => exact ih (S := S1) h hf
theorem s_callS {A S' : List aTV} {ci rc n : Nat} (hl : aLook (aM y) pc = some (q, nxt, i, 63, a, b, tgt, tl)) (hm : (aM a.toNat).2.2.2.2.1 = (ci, rc, 2, n)) (hp : aPopB n S [] = some (A, S')) (hs : Nat.ble (aCat S') 8 = true) (hcal : VM G l d a.toNat A st (fun w st' => V G l (d + 1) y nxt L (aPush rc w S') st' P)) : V G l (d + 1) y pc L S st P := V_go hl (by
  have e : aIns aM (aCal G l (d + 1)) nxt 63 a b tgt tl L S st (fun pc' L' S' st' => V G l (d + 1) y pc' L' S' st' P) P = (match (aM a.toNat).2.2.2.2.1 with | (ci, rc, kd, n) => match kd with | 2 => aPop n S [] (fun A S' => bif Nat.ble (aCat S') 8 then aCal G l (d + 1) a.toNat A st (fun w st' => V G l (d + 1) y nxt L (aPush rc w S') st' P) else False) | _ => aPop n S [] (fun A S' => bif Nat.ble (aCat S' - 1) 8 then pR S' (fun r S' => match st.1 r with | (t, _, _) => bif Nat.beq t ci then aCal G l (d + 1) a.toNat ((2, Int.ofNat r) :: A) st (fun w st' => V G l (d + 1) y nxt L (aPush rc w S') st' P) else False) else False)) := rfl
  rw [e, hm]
  exact aPopB_ok hp (bt hs hcal))
theorem s_callO {A S' : List aTV} {ci rc kd n r n2 : Nat} {rs : List Nat} (hl : aLook (aM y) pc = some (q, nxt, i, 63, a, b, tgt, tl)) (hm : (aM a.toNat).2.2.2.2.1 = (ci, rc, kd, n)) (hkd : kd = 0 ∨ kd = 1) (hp : aPopB n S [] = some (A, (2, Int.ofNat r) :: S')) (hs : Nat.ble (aCat S') 8 = true) (hk : st.1 r = (ci, n2, rs)) (hcal : VM G l d a.toNat ((2, Int.ofNat r) :: A) st (fun w st' => V G l (d + 1) y nxt L (aPush rc w S') st' P)) : V G l (d + 1) y pc L S st P := V_go hl (by
  have e : aIns aM (aCal G l (d + 1)) nxt 63 a b tgt tl L S st (fun pc' L' S' st' => V G l (d + 1) y pc' L' S' st' P) P = (match (aM a.toNat).2.2.2.2.1 with | (ci, rc, kd, n) => match kd with | 2 => aPop n S [] (fun A S' => bif Nat.ble (aCat S') 8 then aCal G l (d + 1) a.toNat A st (fun w st' => V G l (d + 1) y nxt L (aPush rc w S') st' P) else False) | _ => aPop n S [] (fun A S' => bif Nat.ble (aCat S' - 1) 8 then pR S' (fun r S' => match st.1 r with | (t, _, _) => bif Nat.beq t ci then aCal G l (d + 1) a.toNat ((2, Int.ofNat r) :: A) st (fun w st' => V G l (d + 1) y nxt L (aPush rc w S') st' P) else False) else False)) := rfl
  rw [e, hm]
  have hct : Nat.ble (aCat ((2, Int.ofNat r) :: S') - 1) 8 = true := by
    have e2 : aCat ((2, Int.ofNat r) :: S') - 1 = aCat S' := Nat.add_sub_cancel_left (n := 1) (m := aCat S')
    rw [e2]; exact hs
  have hin : (match st.1 r with | (t, _, _) => bif Nat.beq t ci then aCal G l (d + 1) a.toNat ((2, Int.ofNat r) :: A) st (fun w st' => V G l (d + 1) y nxt L (aPush rc w S') st' P) else False) := by rw [hk]; exact bt (Nat.beq_refl _) hcal
  rcases hkd with rfl | rfl
  · exact aPopB_ok hp (bt hct hin)
  · exact aPopB_ok hp (bt hct hin))
end
