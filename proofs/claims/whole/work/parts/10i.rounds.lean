section
variable {G : aCX} {l : Launch} {d : Nat} {K : Nat → aKd} {D : Nat → Int → Int} {z : Nat × Nat} {P : Int → aSt → Prop}
theorem u_iter {e r : Nat} {nh : Int} {g : Int → Int} {u : aTV} {D1 : Nat → Int → Int} (hk : Kn K) (he : e < 60) (hb : RnB D e nh) (hr : r < 2000) (hI : InV D e r g D1)
    (cont : ∀ D' u', chB g (nxF (wM D) (rmM D) (payM D) (diM D e) g (ntM D)) 12 = true → bgB (nxF (wM D) (rmM D) (payM D) (diM D e) g (ntM D)) 12 = false → r + 1 < 2000 → InV D e (r + 1) (nxF (wM D) (rmM D) (payM D) (diM D e) g (ntM D)) D' → V G l (d + 2) iX12_settle 116 [rf 210, (0, (e : Int)), (0, 1), u'] [] (K, D', z) P)
    (kk : ∀ (en : Bool) D' x u', (chB g (nxF (wM D) (rmM D) (payM D) (diM D e) g (ntM D)) 12 = true → (bgB (nxF (wM D) (rmM D) (payM D) (diM D e) g (ntM D)) 12 = true ∨ r + 1 = 2000) ∧ en = true) → (chB g (nxF (wM D) (rmM D) (payM D) (diM D e) g (ntM D)) 12 = false → en = false) → SeD D e (r + 1) en (nxF (wM D) (rmM D) (payM D) (diM D e) g (ntM D)) D' → V G l (d + 2) iX12_settle 368 [rf 210, (0, (e : Int)), (0, x), u'] [] (K, D', z) P) : V G l (d + 2) iX12_settle 116 [rf 210, (0, (e : Int)), (0, 1), u] [] (K, D1, z) P := by
  have hb0 := hb
  obtain ⟨b1, b2, b3, b4, b5⟩ := hb
  have n24 := b3.1
  obtain ⟨i1, i2, i3, i4, i5⟩ := hI
  have h12 := b3.2.2.1
  have hd5 : ∀ h, 0 ≤ h → h < nh → 0 ≤ diM D e h ∧ diM D e h ≤ g h := fun h q1 q2 => ⟨(b5 h q1 (by omega)).1, (i5 h q1 (by omega)).2.1⟩
  have hr5 : ∀ t, t < ntM D → 0 ≤ rmM D t := fun t ht => (b4 t ht).2.1
  have nin : ∀ h : Int, 0 ≤ h → h < 12 → diM D e h ≤ (nxF (wM D) (rmM D) (payM D) (diM D e) g (ntM D)) h ∧ (nxF (wM D) (rmM D) (payM D) (diM D e) g (ntM D)) h ≤ 6000000 + 480000000 := fun h q1 q2 => by
    have := nxF_in (pay := payM D) (h := h) (m := 20000000) b3 hr5 hd5 (fun h q1 q2 => (i5 h q1 (by omega)).2.2) (by decide)
    have := (b5 h q1 q2).2.2.2
    omega
  have cb : chB g (nxF (wM D) (rmM D) (payM D) (diM D e) g (ntM D)) 12 = false → ∀ h : Int, 0 ≤ h → h < 12 → (nxF (wM D) (rmM D) (payM D) (diM D e) g (ntM D)) h = g h := fun hc h q1 q2 => Decidable.byContradiction fun hne => by
    have : chB g (nxF (wM D) (rmM D) (payM D) (diM D e) g (ntM D)) 12 = true := chB_iff.mpr ⟨h.toNat, by omega, by rw [show ((h.toNat : Nat) : Int) = h by omega]; exact hne⟩
    rw [hc] at this; cases this
  have cbg : chB g (nxF (wM D) (rmM D) (payM D) (diM D e) g (ntM D)) 12 = false → bgB (nxF (wM D) (rmM D) (payM D) (diM D e) g (ntM D)) 12 = false := fun hc => by
    cases hq : bgB (nxF (wM D) (rmM D) (payM D) (diM D e) g (ntM D)) 12 with
    | false => rfl
    | true =>
      obtain ⟨k, q1, q2⟩ := bgB_iff.mp hq
      have := cb hc k (by omega) (by omega)
      have := (i5 k (by omega) (by omega)).2.2
      omega
  have after : ∀ (D2 : Nat → Int → Int) (u : aTV), SeF e (ntM D) D D2 → D2 268 = D 268 → D2 253 e = r + 1 → D2 254 e = 0 → (∀ h : Int, 0 ≤ h → h < 12 → D2 269 h = (nxF (wM D) (rmM D) (payM D) (diM D e) g (ntM D)) h ∧ D2 256 (12 * e + h) = g h ∧ D2 257 (12 * e + h) = (hsF (wM D) (rmM D) (payM D) (diM D e) g h (ntM D)).1) → (∀ t : Nat, t < ntM D → D2 258 (24 * e + t) = (if payM D t = true then bsF (wM D) (rmM D) (payM D) (diM D e) g t else 0) ∧ D2 259 (24 * e + t) = (if payM D t = true then (if wM D t 1 = 0 then pdF (wM D) t (auF (wM D) (rmM D) (payM D) (diM D e) g t) else auF (wM D) (rmM D) (payM D) (diM D e) g t) else 0) ∧ D2 260 (24 * e + t) = (if payM D t = true then pdF (wM D) t (auF (wM D) (rmM D) (payM D) (diM D e) g t) else 0)) → V G l (d + 2) iX12_settle 135 [rf 210, (0, (e : Int)), (0, 1), u] [] (K, D2, z) P := by
    intro D2 u f1 f2 f3 f4 f5 f6
    have inner : ∀ (m n : Nat) (D3 : Nat → Int → Int), n + m = 12 → (∀ q, q ≠ 254 → q ≠ 256 → D3 q = D2 q) → (∀ j : Int, j ≠ e → D3 254 j = D2 254 j) → D3 254 e = (if bgB (nxF (wM D) (rmM D) (payM D) (diM D e) g (ntM D)) n = true then 1 else 0) → (∀ h : Int, 0 ≤ h → h < n → D3 256 (12 * e + h) = (nxF (wM D) (rmM D) (payM D) (diM D e) g (ntM D)) h) → (∀ j : Int, ¬ (12 * (e : Int) ≤ j ∧ j < 12 * e + n) → D3 256 j = D2 256 j) → V G l (d + 2) iX12_settle 139 [rf 210, (0, (e : Int)), (0, (if chB g (nxF (wM D) (rmM D) (payM D) (diM D e) g (ntM D)) n = true then 1 else 0)), (0, (n : Int))] [] (K, D3, z) P := by
      intro m
      induction m with
      | zero =>
        intro n D3 hm g1 g2 g3 g4 g5
        have hn : n = 12 := by omega
        subst hn
        have k3 : D3 253 e = r + 1 := by rw [g1 _ (by omega) (by omega), f3]
        have hF3 : SeF e (ntM D) D D3 := by
          refine SeF_trans f1 ⟨fun q hq => g1 q (by omega) (by omega), fun j hj => ⟨by rw [g1 _ (by omega) (by omega)], g2 j hj⟩, fun j hj => ⟨g5 j hj, by rw [g1 _ (by omega) (by omega)]⟩, fun j hj => by rw [g1 258 (by omega) (by omega), g1 259 (by omega) (by omega), g1 260 (by omega) (by omega)]; exact ⟨rfl, rfl, rfl⟩⟩
        have s267 : ∀ (b : Int), b = (if chB g (nxF (wM D) (rmM D) (payM D) (diM D e) g (ntM D)) 12 = true then (if bgB (nxF (wM D) (rmM D) (payM D) (diM D e) g (ntM D)) 12 = true then 1 else if r + 1 = 2000 then 1 else 0) else 0) → V G l (d + 2) iX12_settle 267 [rf 210, (0, (e : Int)), (0, (if chB g (nxF (wM D) (rmM D) (payM D) (diM D e) g (ntM D)) 12 = true then 1 else 0)), (0, 12)] [(0, b), (0, (e : Int)), rf 254] (K, D3, z) P := by
          intro b hbe
          have b01 : b = 0 ∨ b = 1 := by rw [hbe]; (repeat' split) <;> omega
          have hF4 : SeF e (ntM D) D (aUp D3 254 e b) := SeF_trans hF3 (SeF_up (by omega))
          have k34 : aUp D3 254 e b 253 e = ((r + 1 : Nat) : Int) := by rw [aUp_row (by omega), k3]; omega
          have k44 : aUp D3 254 e b 254 e = b := aUp_at
          cases hc : chB g (nxF (wM D) (rmM D) (payM D) (diM D e) g (ntM D)) 12 with
          | false =>
            rw [hc] at hbe
            have hb00 : b = 0 := hbe
            rw [if_neg (by decide)]
            refine s_bast rfl (hk.at rfl rfl) (by omega) b01 ?_
            refine s_il2 rfl ?_
            refine s_zeq rfl ?_ ?_
            · intro h269
              refine s_ic rfl ?_
              refine s_is2 rfl rfl ?_
              refine s_go rfl ?_
              refine s_il2 rfl ?_
              refine s_zeq rfl ?_ ?_
              · intro h117
                refine s_al0 rfl ?_
                refine s_gf rfl (hk.at rfl rfl) rfl rfl ?_
                refine s_il1 rfl ?_
                refine s_bald rfl (hk.at rfl rfl) (by omega) ?_
                rw [k44]
                refine s_zeq rfl ?_ ?_
                · intro h296
                  refine kk false _ _ _ (fun q => by rw [hc] at q; cases q) (fun _ => rfl) ⟨hF4, k34, by rw [k44, hb00]; rfl, fun h q1 q2 => ⟨?_, ?_⟩, fun t ht => ?_⟩
                  · rw [aUp_row (by omega), g4 h q1 q2]; rfl
                  · rw [aUp_row (by omega), g1 _ (by omega) (by omega), (f5 h q1 q2).2.2, if_neg (by decide), hsF_congr (w' := wM D) (rm' := rmM D) (pay' := payM D) (d' := diM D e) (g' := (nxF (wM D) (rmM D) (payM D) (diM D e) g (ntM D))) (g := g) (fun _ _ => ⟨rfl, rfl, rfl⟩) rfl (cb hc h q1 q2)]
                  · have q0 := (b3.2.2.2 t ht).1
                    have q1 := cb hc (wM D t 0) q0.1 (by omega)
                    rw [aUp_row (by omega), aUp_row (by omega), aUp_row (by omega), g1 258 (by omega) (by omega), g1 259 (by omega) (by omega), g1 260 (by omega) (by omega), bsF_congr (w' := wM D) (rm' := rmM D) (pay' := payM D) (d' := diM D e) (g' := (nxF (wM D) (rmM D) (payM D) (diM D e) g (ntM D))) (g := g) (fun _ _ => ⟨rfl, rfl, rfl⟩) rfl q1, auF_congr (w' := wM D) (rm' := rmM D) (pay' := payM D) (d' := diM D e) (g' := (nxF (wM D) (rmM D) (payM D) (diM D e) g (ntM D))) (g := g) (fun _ _ => ⟨rfl, rfl, rfl⟩) rfl q1]
                    exact f6 t ht
                · intro h296
                  exact absurd hb00 h296
              · intro h117
                exact absurd rfl h117
            · intro h269
              exact absurd rfl h269
          | true =>
            rw [hc, if_pos rfl] at hbe
            rw [if_pos rfl]
            refine s_bast rfl (hk.at rfl rfl) (by omega) b01 ?_
            refine s_il2 rfl ?_
            refine s_zeq rfl ?_ ?_
            · intro h269
              exact absurd h269 (by decide)
            · intro h269
              refine s_al0 rfl ?_
              refine s_gf rfl (hk.at rfl rfl) rfl rfl ?_
              refine s_il1 rfl ?_
              refine s_bald rfl (hk.at rfl rfl) (by omega) ?_
              rw [k44]
              refine s_zne rfl ?_ ?_
              · intro h278
                have hb1 : b = 1 := by omega
                refine s_ic rfl ?_
                refine s_is2 rfl rfl ?_
                refine s_go rfl ?_
                refine s_il2 rfl ?_
                refine s_zeq rfl ?_ ?_
                · intro h117
                  refine s_al0 rfl ?_
                  refine s_gf rfl (hk.at rfl rfl) rfl rfl ?_
                  refine s_il1 rfl ?_
                  refine s_bald rfl (hk.at rfl rfl) (by omega) ?_
                  rw [k44]
                  refine s_zeq rfl ?_ ?_
                  · intro h296
                    exact absurd h296 (by omega)
                  · intro h296
                    refine u_endless (R := r + 1) (g := (nxF (wM D) (rmM D) (payM D) (diM D e) g (ntM D))) hk he hb0 hF4 k34 (by rw [k44, hb1]) (fun D' u' hS => ?_)
                    refine kk true D' _ u' (fun _ => ⟨?_, rfl⟩) (fun q => by rw [hc] at q; cases q) hS
                    cases hq : bgB (nxF (wM D) (rmM D) (payM D) (diM D e) g (ntM D)) 12 with
                    | true => exact Or.inl rfl
                    | false =>
                      right
                      rw [hq, if_neg (by decide)] at hbe
                      apply Decidable.byContradiction
                      intro q
                      rw [if_neg q] at hbe
                      omega
                · intro h117
                  exact absurd rfl h117
              · intro h278
                have hb00 : b = 0 := by omega
                refine s_ic rfl ?_
                refine s_go rfl ?_
                refine s_is2 rfl rfl ?_
                refine s_go rfl ?_
                have hq : bgB (nxF (wM D) (rmM D) (payM D) (diM D e) g (ntM D)) 12 = false := by
                  cases hq : bgB (nxF (wM D) (rmM D) (payM D) (diM D e) g (ntM D)) 12 with
                  | true => rw [hq, if_pos rfl] at hbe; omega
                  | false => rfl
                have hr1 : r + 1 < 2000 := by
                  rw [hq, if_neg (by decide)] at hbe
                  apply Decidable.byContradiction
                  intro q
                  rw [if_pos (by omega)] at hbe
                  omega
                refine cont _ _ hc hq hr1 ⟨hF4, ?_, k34, by rw [k44, hb00], fun h q1 q2 => ⟨?_, (nin h q1 q2).1, ?_⟩⟩
                · rw [aUp_row (by omega), g1 _ (by omega) (by omega), f2]
                · rw [aUp_row (by omega), g4 h q1 q2]
                · apply Decidable.byContradiction
                  intro q
                  have : bgB (nxF (wM D) (rmM D) (payM D) (diM D e) g (ntM D)) 12 = true := bgB_iff.mpr ⟨h.toNat, by omega, by rw [show ((h.toNat : Nat) : Int) = h by omega]; omega⟩
                  rw [hq] at this; cases this
        cases hc : chB g (nxF (wM D) (rmM D) (payM D) (diM D e) g (ntM D)) 12 with
        | false =>
          have hq := cbg hc
          rw [hc] at s267
          rw [hq] at g3
          rw [if_neg (by decide)]
          rw [if_neg (by decide)] at s267
          refine s_il3 rfl ?_
          refine s_ic rfl ?_
          refine s_cge rfl ?_ ?_
          · intro h142
            refine s_al0 rfl ?_
            refine s_gf rfl (hk.at rfl rfl) rfl rfl ?_
            refine s_il1 rfl ?_
            refine s_al0 rfl ?_
            refine s_gf rfl (hk.at rfl rfl) rfl rfl ?_
            refine s_il1 rfl ?_
            refine s_bald rfl (hk.at rfl rfl) (by omega) ?_
            rw [g3]
            refine s_zne rfl ?_ ?_
            · intro h243
              exact absurd rfl h243
            · intro h243
              refine s_il2 rfl ?_
              refine s_zeq rfl ?_ ?_
              · intro h247
                refine s_ic rfl ?_
                exact s267 _ (by rfl)
              · intro h247
                exact absurd rfl h247
          · intro h142
            exact absurd h142 (by decide)
        | true =>
          rw [hc] at s267
          rw [if_pos rfl]
          rw [if_pos rfl] at s267
          have k33 : D3 253 e = ((r + 1 : Nat) : Int) := by rw [k3]; omega
          cases hq : bgB (nxF (wM D) (rmM D) (payM D) (diM D e) g (ntM D)) 12 with
          | true =>
            rw [hq] at g3 s267
            have g3' : D3 254 e = 1 := g3
            refine s_il3 rfl ?_
            refine s_ic rfl ?_
            refine s_cge rfl ?_ ?_
            · intro h142
              refine s_al0 rfl ?_
              refine s_gf rfl (hk.at rfl rfl) rfl rfl ?_
              refine s_il1 rfl ?_
              refine s_al0 rfl ?_
              refine s_gf rfl (hk.at rfl rfl) rfl rfl ?_
              refine s_il1 rfl ?_
              refine s_bald rfl (hk.at rfl rfl) (by omega) ?_
              rw [g3']
              refine s_zne rfl ?_ ?_
              · intro h243
                refine s_ic rfl ?_
                refine s_go rfl ?_
                exact s267 _ (by rfl)
              · intro h243
                exact absurd h243 (by decide)
            · intro h142
              exact absurd h142 (by decide)
          | false =>
            rw [hq] at g3 s267
            have g3' : D3 254 e = 0 := g3
            refine s_il3 rfl ?_
            refine s_ic rfl ?_
            refine s_cge rfl ?_ ?_
            · intro h142
              refine s_al0 rfl ?_
              refine s_gf rfl (hk.at rfl rfl) rfl rfl ?_
              refine s_il1 rfl ?_
              refine s_al0 rfl ?_
              refine s_gf rfl (hk.at rfl rfl) rfl rfl ?_
              refine s_il1 rfl ?_
              refine s_bald rfl (hk.at rfl rfl) (by omega) ?_
              rw [g3']
              refine s_zne rfl ?_ ?_
              · intro h243
                exact absurd rfl h243
              · intro h243
                refine s_il2 rfl ?_
                refine s_zeq rfl ?_ ?_
                · intro h247
                  exact absurd h247 (by decide)
                · intro h247
                  refine s_al0 rfl ?_
                  refine s_gf rfl (hk.at rfl rfl) rfl rfl ?_
                  refine s_il1 rfl ?_
                  refine s_iald rfl (hk.at rfl rfl) (by omega) ?_
                  rw [k33]
                  refine s_ic rfl ?_
                  refine s_cne rfl ?_ ?_
                  · intro h259
                    refine s_ic rfl ?_
                    exact s267 _ (by first | rw [if_neg (by decide), if_pos (by omega)] | rw [if_neg (by decide), if_neg (by omega)])
                  · intro h259
                    refine s_ic rfl ?_
                    refine s_go rfl ?_
                    exact s267 _ (by first | rw [if_neg (by decide), if_pos (by omega)] | rw [if_neg (by decide), if_neg (by omega)])
            · intro h142
              exact absurd h142 (by decide)
      | succ m ih =>
        intro n D3 hm g1 g2 g3 g4 g5
        obtain ⟨y1, y2, y3⟩ := f5 n (by omega) (by omega)
        have z1 : D3 269 n = (nxF (wM D) (rmM D) (payM D) (diM D e) g (ntM D)) n := by rw [g1 _ (by omega) (by omega), y1]
        have z2 : D3 256 (12 * e + n) = g n := by rw [g5 _ (by omega), y2]
        have ec : chB g (nxF (wM D) (rmM D) (payM D) (diM D e) g (ntM D)) (n + 1) = (chB g (nxF (wM D) (rmM D) (payM D) (diM D e) g (ntM D)) n || !decide ((nxF (wM D) (rmM D) (payM D) (diM D e) g (ntM D)) n = g n)) := rfl
        have eb : bgB (nxF (wM D) (rmM D) (payM D) (diM D e) g (ntM D)) (n + 1) = (bgB (nxF (wM D) (rmM D) (payM D) (diM D e) g (ntM D)) n || decide (20000000 < (nxF (wM D) (rmM D) (payM D) (diM D e) g (ntM D)) n)) := rfl
        have s225 : ∀ (b : Int) (D4 : Nat → Int → Int), b = (if bgB (nxF (wM D) (rmM D) (payM D) (diM D e) g (ntM D)) (n + 1) = true then 1 else 0) → D4 = aUp D3 256 (12 * (e : Int) + n) ((nxF (wM D) (rmM D) (payM D) (diM D e) g (ntM D)) n) → V G l (d + 2) iX12_settle 225 [rf 210, (0, (e : Int)), (0, (if chB g (nxF (wM D) (rmM D) (payM D) (diM D e) g (ntM D)) (n + 1) = true then 1 else 0)), (0, (n : Int))] [(0, b), (0, (e : Int)), rf 254] (K, D4, z) P := by
          intro b D4 hbe hD
          have b01 : b = 0 ∨ b = 1 := by rw [hbe]; split <;> omega
          refine s_bast rfl (hk.at rfl rfl) (by omega) b01 ?_
          refine s_iinc3 rfl rfl ⟨by omega, by omega⟩ ?_
          refine s_go rfl ?_
          refine ih (n + 1) _ (by omega) (fun q q1 q2 => by rw [aUp_row q1, hD, aUp_row q2]; exact g1 q q1 q2) (fun j hj => by rw [aUp_ne hj, hD, aUp_row (by omega)]; exact g2 j hj) (by rw [aUp_at, hbe]) (fun h q1 q2 => ?_) (fun j hj => ?_)
          · rw [aUp_row (by omega), hD, aUp_same]
            rcases (by omega : h < n ∨ h = n) with q | q
            · rw [uF_ne (by omega)]; exact g4 h q1 q
            · subst q; rw [uF_at]
          · rw [aUp_row (by omega), hD, aUp_ne (by omega)]; exact g5 j (by omega)
        have s175 : ∀ (b : Int), b = (if chB g (nxF (wM D) (rmM D) (payM D) (diM D e) g (ntM D)) (n + 1) = true then 1 else 0) → V G l (d + 2) iX12_settle 175 [rf 210, (0, (e : Int)), (0, (if chB g (nxF (wM D) (rmM D) (payM D) (diM D e) g (ntM D)) n = true then 1 else 0)), (0, (n : Int))] [(0, b)] (K, D3, z) P := by
          intro b hbe
          subst hbe
          have z3 : aUp D3 256 (12 * (e : Int) + n) ((nxF (wM D) (rmM D) (payM D) (diM D e) g (ntM D)) n) 254 e = (if bgB (nxF (wM D) (rmM D) (payM D) (diM D e) g (ntM D)) n = true then 1 else 0) := by rw [aUp_row (by omega)]; exact g3
          have z4 : aUp D3 256 (12 * (e : Int) + n) ((nxF (wM D) (rmM D) (payM D) (diM D e) g (ntM D)) n) 269 n = (nxF (wM D) (rmM D) (payM D) (diM D e) g (ntM D)) n := by rw [aUp_row (by omega)]; exact z1
          refine s_is2 rfl rfl ?_
          refine s_al0 rfl ?_
          refine s_gf rfl (hk.at rfl rfl) rfl rfl ?_
          refine s_ic rfl ?_
          refine s_il1 rfl ?_
          refine s_imul rfl ⟨by omega, by omega⟩ ?_
          refine s_il3 rfl ?_
          refine s_iadd rfl ⟨by omega, by omega⟩ ?_
          refine s_al0 rfl ?_
          refine s_gf rfl (hk.at rfl rfl) rfl rfl ?_
          refine s_il3 rfl ?_
          refine s_lald rfl (hk.at rfl rfl) (by omega) ?_
          rw [z1]
          refine s_last rfl (hk.at rfl rfl) (by omega) ?_
          refine s_al0 rfl ?_
          refine s_gf rfl (hk.at rfl rfl) rfl rfl ?_
          refine s_il1 rfl ?_
          refine s_al0 rfl ?_
          refine s_gf rfl (hk.at rfl rfl) rfl rfl ?_
          refine s_il1 rfl ?_
          refine s_bald rfl (hk.at rfl rfl) (by omega) ?_
          rw [z3]
          refine s_zne rfl ?_ ?_
          · intro h204
            have hq : bgB (nxF (wM D) (rmM D) (payM D) (diM D e) g (ntM D)) n = true := Decidable.byContradiction fun q => h204 (if_neg q)
            refine s_ic rfl ?_
            refine s_go rfl ?_
            refine s225 _ _ ?_ rfl
            rw [eb, hq]
            first | rfl | (rw [decide_eq_true (by omega)]; rfl) | (rw [decide_eq_false (by omega)]; rfl)
          · intro h204
            have hq : bgB (nxF (wM D) (rmM D) (payM D) (diM D e) g (ntM D)) n = false := by
              cases hq : bgB (nxF (wM D) (rmM D) (payM D) (diM D e) g (ntM D)) n with
              | false => rfl
              | true => rw [if_pos hq] at h204; cases h204
            refine s_al0 rfl ?_
            refine s_gf rfl (hk.at rfl rfl) rfl rfl ?_
            refine s_il3 rfl ?_
            refine s_lald rfl (hk.at rfl rfl) (by omega) ?_
            rw [z4]
            refine s_lc rfl ?_
            refine s_lcmp rfl ?_
            refine s_zle rfl ?_ ?_
            · intro h217
              have h217 := cmp3_le.mp h217
              refine s_ic rfl ?_
              refine s225 _ _ ?_ rfl
              rw [eb, hq]
              first | rfl | (rw [decide_eq_true (by omega)]; rfl) | (rw [decide_eq_false (by omega)]; rfl)
            · intro h217
              have h217 := cmp3_gt.mp h217
              refine s_ic rfl ?_
              refine s_go rfl ?_
              refine s225 _ _ ?_ rfl
              rw [eb, hq]
              first | rfl | (rw [decide_eq_true (by omega)]; rfl) | (rw [decide_eq_false (by omega)]; rfl)
        refine s_il3 rfl ?_
        refine s_ic rfl ?_
        refine s_cge rfl ?_ ?_
        · intro h142
          omega
        · intro h142
          refine s_il2 rfl ?_
          refine s_zne rfl ?_ ?_
          · intro h146
            have hq : chB g (nxF (wM D) (rmM D) (payM D) (diM D e) g (ntM D)) n = true := Decidable.byContradiction fun q => h146 (if_neg q)
            refine s_ic rfl ?_
            refine s_go rfl ?_
            refine s175 _ ?_
            rw [ec, hq]
            first | rfl | (rw [decide_eq_true h167]; rfl) | (rw [decide_eq_false h167]; rfl)
          · intro h146
            have hq : chB g (nxF (wM D) (rmM D) (payM D) (diM D e) g (ntM D)) n = false := by
              cases hq : chB g (nxF (wM D) (rmM D) (payM D) (diM D e) g (ntM D)) n with
              | false => rfl
              | true => rw [if_pos hq] at h146; cases h146
            refine s_al0 rfl ?_
            refine s_gf rfl (hk.at rfl rfl) rfl rfl ?_
            refine s_il3 rfl ?_
            refine s_lald rfl (hk.at rfl rfl) (by omega) ?_
            rw [z1]
            refine s_al0 rfl ?_
            refine s_gf rfl (hk.at rfl rfl) rfl rfl ?_
            refine s_ic rfl ?_
            refine s_il1 rfl ?_
            refine s_imul rfl ⟨by omega, by omega⟩ ?_
            refine s_il3 rfl ?_
            refine s_iadd rfl ⟨by omega, by omega⟩ ?_
            refine s_lald rfl (hk.at rfl rfl) (by omega) ?_
            rw [z2]
            refine s_lcmp rfl ?_
            refine s_zeq rfl ?_ ?_
            · intro h167
              have h167 := cmp3_eq.mp h167
              refine s_ic rfl ?_
              refine s175 _ ?_
              rw [ec, hq]
              first | rfl | (rw [decide_eq_true h167]; rfl) | (rw [decide_eq_false h167]; rfl)
            · intro h167
              have h167 : ¬ (nxF (wM D) (rmM D) (payM D) (diM D e) g (ntM D)) n = g n := fun q => h167 (cmp3_eq.mpr q)
              refine s_ic rfl ?_
              refine s_go rfl ?_
              refine s175 _ ?_
              rw [ec, hq]
              first | rfl | (rw [decide_eq_true h167]; rfl) | (rw [decide_eq_false h167]; rfl)
    refine s_ic rfl ?_
    refine s_is2 rfl rfl ?_
    refine s_ic rfl ?_
    refine s_is3 rfl rfl ?_
    exact inner 12 0 D2 rfl (fun _ _ _ => rfl) (fun _ _ => rfl) f4 (fun h q1 q2 => absurd q2 (by omega)) (fun _ _ => rfl)
  have hFa : SeF e (ntM D) D (aUp D1 253 e (r + 1)) := SeF_trans i1 (SeF_up (by omega))
  have ga : ∀ h : Int, 0 ≤ h → h < 12 → aUp D1 253 e (r + 1) 256 (12 * e + h) = g h := fun h q1 q2 => by rw [aUp_row (by omega)]; exact (i5 h q1 q2).1
  refine s_il2 rfl ?_
  refine s_zeq rfl ?_ ?_
  · intro h117
    exact absurd h117 (by decide)
  · intro h117
    refine s_al0 rfl ?_
    refine s_gf rfl (hk.at rfl rfl) rfl rfl ?_
    refine s_il1 rfl ?_
    refine s_dup2 rfl rfl rfl ?_
    refine s_iald rfl (hk.at rfl rfl) (by omega) ?_
    rw [i3]
    refine s_ic rfl ?_
    refine s_iadd rfl ⟨by omega, by omega⟩ ?_
    refine s_iast rfl (hk.at rfl rfl) (by omega) ?_
    refine s_al0 rfl ?_
    refine s_il1 rfl ?_
    refine s_callO rfl rfl (Or.inl rfl) rfl rfl (hk.at rfl rfl) (u_round (nh := nh) hk he (RnB_next hb0 hFa (fun t ht => by rw [aUp_row (by omega), i2]; exact (b4 t ht).2.2.2) (fun h q1 q2 => by rw [ga h q1 q2]; exact (i5 h q1 q2).2)) (fun D2 hR => ?_))
    show V G l (d + 2) iX12_settle 135 [rf 210, (0, (e : Int)), (0, 1), u] [] (K, D2, z) P
    have hRF := SeF_ro hR
    obtain ⟨s1, s2, s3, s4, s5⟩ := SeF_same hFa
    rw [s3] at hRF
    obtain ⟨E, ⟨a1, a2, a3, a4⟩, c1, c2, c3⟩ := hR
    have sp : payM (aUp D1 253 e (r + 1)) = payM D := by
      funext t
      show decide (aUp D1 253 e (r + 1) 268 t = 1) = decide (D 268 t = 1)
      rw [aUp_row (by omega), i2]
    rw [s1, s2, s3, s4, sp] at a2 c2
    rw [s3, s1, s2, s4, sp] at a3
    have gg : ∀ h : Int, 0 ≤ h → h < 12 → grM (aUp D1 253 e (r + 1)) e h = g h := ga
    refine after D2 u (SeF_trans hFa hRF) ?_ ?_ ?_ (fun h q1 q2 => ⟨?_, ?_, ?_⟩) (fun t ht => ?_)
    · rw [c1 _ (by omega), a1 _ (by omega) (by omega) (by omega) (by omega) (by omega) (by omega), aUp_row (by omega), i2]
    · rw [c1 _ (by omega), a1 _ (by omega) (by omega) (by omega) (by omega) (by omega) (by omega), aUp_at]
    · rw [c1 _ (by omega), a1 _ (by omega) (by omega) (by omega) (by omega) (by omega) (by omega), aUp_row (by omega), i4]
    · rw [c1 _ (by omega), (a2 h q1 q2).1]
      refine nxF_congr (fun _ _ => ⟨rfl, rfl, rfl⟩) (fun t ht => ⟨rfl, ?_⟩) rfl
      have q0 := (b3.2.2.2 t ht).1
      exact gg _ q0.1 (by omega)
    · rw [c1 _ (by omega), a1 _ (by omega) (by omega) (by omega) (by omega) (by omega) (by omega)]; exact ga h q1 q2
    · rw [c2 h q1 q2, hsF_congr (fun _ _ => ⟨rfl, rfl, rfl⟩) rfl (gg h q1 q2)]
    · have q0 := (b3.2.2.2 t ht).1
      rw [c1 258 (by omega), c1 259 (by omega), c1 260 (by omega)]
      have q3 := a3 t ht
      rw [bsF_congr (fun _ _ => ⟨rfl, rfl, rfl⟩) rfl (gg _ q0.1 (by omega)), auF_congr (fun _ _ => ⟨rfl, rfl, rfl⟩) rfl (gg _ q0.1 (by omega))] at q3
      exact q3
theorem u_rounds {e : Nat} {nh : Int} {u2 u3 : aTV} (hk : Kn K) (he : e < 60) (hb : RnB D e nh) (hg : ∀ h : Int, 0 ≤ h → h < 12 → grM D e h = diM D e h) (kk : ∀ D' x u', SeD D e (slF (wM D) (rmM D) (payM D) (diM D e) (ntM D) 2000 0 (diM D e)).1 (slF (wM D) (rmM D) (payM D) (diM D e) (ntM D) 2000 0 (diM D e)).2.1 (slF (wM D) (rmM D) (payM D) (diM D e) (ntM D) 2000 0 (diM D e)).2.2 D' → V G l (d + 2) iX12_settle 368 [rf 210, (0, (e : Int)), (0, x), u'] [] (K, D', z) P) : V G l (d + 2) iX12_settle 100 [rf 210, (0, (e : Int)), u2, u3] [] (K, D, z) P := by
  have loop : ∀ (n r : Nat) (g : Int → Int) (D1 : Nat → Int → Int) (u : aTV), n + 1 + r = 2000 → slF (wM D) (rmM D) (payM D) (diM D e) (ntM D) 2000 0 (diM D e) = slF (wM D) (rmM D) (payM D) (diM D e) (ntM D) (n + 1) r g → InV D e r g D1 → V G l (d + 2) iX12_settle 116 [rf 210, (0, (e : Int)), (0, 1), u] [] (K, D1, z) P := by
    intro n
    induction n with
    | zero =>
      intro r g D1 u hn hs hI
      have hr : r + 1 = 2000 := by omega
      refine u_iter hk he hb (by omega) hI (fun D' u' _ _ q _ => absurd q (by omega)) (fun en D' x u' h1 h2 hS => kk D' x u' ?_)
      rw [hs, slF]
      cases hc : chB g (nxF (wM D) (rmM D) (payM D) (diM D e) g (ntM D)) 12 with
      | false => rw [h2 hc] at hS; rw [if_neg (by decide)]; exact hS
      | true =>
        rw [(h1 hc).2] at hS
        rw [if_pos rfl]
        split
        · exact hS
        · rw [slF]; exact hS
    | succ n ih =>
      intro r g D1 u hn hs hI
      refine u_iter hk he hb (by omega) hI (fun D' u' q1 q2 _ hI' => ih (r + 1) _ D' u' (by omega) ?_ hI') (fun en D' x u' h1 h2 hS => kk D' x u' ?_)
      · rw [hs]
        show (if chB g (nxF (wM D) (rmM D) (payM D) (diM D e) g (ntM D)) 12 = true then (if bgB (nxF (wM D) (rmM D) (payM D) (diM D e) g (ntM D)) 12 = true then (r + 1, true, (nxF (wM D) (rmM D) (payM D) (diM D e) g (ntM D))) else slF (wM D) (rmM D) (payM D) (diM D e) (ntM D) (n + 1) (r + 1) (nxF (wM D) (rmM D) (payM D) (diM D e) g (ntM D))) else (r + 1, false, (nxF (wM D) (rmM D) (payM D) (diM D e) g (ntM D)))) = _
        rw [if_pos q1, q2, if_neg (by decide)]
      · rw [hs, slF]
        cases hc : chB g (nxF (wM D) (rmM D) (payM D) (diM D e) g (ntM D)) 12 with
        | false => rw [h2 hc] at hS; rw [if_neg (by decide)]; exact hS
        | true =>
          obtain ⟨q1, q2⟩ := h1 hc
          rw [q2] at hS
          rw [if_pos rfl, if_pos (by rcases q1 with q | q; exact q; omega)]
          exact hS
  have h0 : InV D e 0 (diM D e) (aUp (aUp D 254 e 0) 253 e 0) := ⟨SeF_trans (SeF_up (by omega)) (SeF_up (by omega)), by rw [aUp_row (by omega), aUp_row (by omega)], by rw [aUp_at]; rfl, by rw [aUp_row (by omega), aUp_at], fun h q1 q2 => ⟨by rw [aUp_row (by omega), aUp_row (by omega)]; exact hg h q1 q2, Int.le_refl _, by have := hb.2.2.2.2 h q1 q2; omega⟩⟩
  refine s_al0 rfl ?_
  refine s_gf rfl (hk.at rfl rfl) rfl rfl ?_
  refine s_il1 rfl ?_
  refine s_ic rfl ?_
  refine s_bast rfl (hk.at rfl rfl) (by omega) (Or.inl rfl) ?_
  refine s_al0 rfl ?_
  refine s_gf rfl (hk.at rfl rfl) rfl rfl ?_
  refine s_il1 rfl ?_
  refine s_ic rfl ?_
  refine s_iast rfl (hk.at rfl rfl) (by omega) ?_
  refine s_ic rfl ?_
  refine s_is2 rfl rfl ?_
  exact loop 1999 0 _ _ _ rfl rfl h0
end
