set_option linter.unusedVariables false
theorem zRp_pt {n : Nat} (h10 : n ≤ 10) {X Y M N : TX} {k a k' a' l b l' b' : Nat} (h : zRp n X k a M l b) (hX : ∀ j, j < 34 → Y k' (a' + j) = X k (a + j)) (hM : ∀ j, j < 34 → N l' (b' + j) = M l (b + j)) : zRp n Y k' a' N l' b' :=
  ⟨zRx_congr h.1 hX hM, zGd_congr h10 h.2 hM⟩
theorem zIm1_pt {n : Nat} (h10 : n ≤ 10) {X Y M N : TX} {i : Nat} (h : zIm1 n X M i) (h39 : ∀ j, j < 578 → Y 39 (578 * i + j) = X 39 (578 * i + j)) (h40 : Y 40 i = X 40 i) (hM : ∀ j, j < 579 → N 26 (579 * i + j) = M 26 (579 * i + j)) : zIm1 n Y N i := by
  obtain ⟨h1, w, h2, h3, h4, h5⟩ := h
  refine ⟨zRp_pt h10 h1 (fun j hj => h39 j (by omega)) fun j hj => hM j (by omega), w, h2, h40.trans h3, (hM 578 (by omega)).trans h4, fun l hl => zRp_pt h10 (h5 l hl) (fun j hj => ?_) fun j hj => ?_⟩
  · have := h39 (34 + 34 * l + j) (by omega)
    rw [show 578 * i + 34 + 34 * l + j = 578 * i + (34 + 34 * l + j) by omega]; exact this
  · have := hM (34 + 34 * l + j) (by omega)
    rw [show 579 * i + 34 + 34 * l + j = 579 * i + (34 + 34 * l + j) by omega]; exact this
theorem z_image {n : Nat} {X M : TX} (h : zV n X M) : zOq (f_X8_image X) (f_X9_image M) := by
  have h10 := h.e.n10
  obtain ⟨m, hm, mx, mm, mr⟩ := h.im
  have g := h.q (zQX.refl X) (zQM_0 M (nI 0))
  have m50 : u2 M 0 0 (0 : Int32) 0 50 = nI m := by rw [z_u2j _ _ _ _ (by decide)]; exact mm
  by_cases c : m = 3
  · subst c
    refine ⟨n, X, u2 M 0 0 (nI 0), -1, ?_, ?_, g⟩
    · unfold f_X8_image; rw [mx, if_neg (by decide)]
    · unfold f_X9_image; rw [m50, if_pos (by rfl)]; rfl
  · have hm3 : m < 3 := by omega
    obtain ⟨w, hw, wx, wm, wr⟩ := h.wk
    have c1 : nI m < (3 : Int32) := (z_nI_lt (i := m) (j := 3) (by omega) (by omega)).2 hm3
    have c2 : ¬ nI m = (3 : Int32) := fun e => c ((z_nI_inj (i := m) (j := 3) (by omega) (by omega)).1 e)
    -- the class
    obtain ⟨A, a1, a2, a3, a4⟩ := z3_save (k := 39) (st := 578 * m) h.d (by decide) (by show 578 * m + 34 ≤ 1734; omega) (by decide)
    obtain ⟨B, b1, b2, b3, b4⟩ := z8_copy (a := 38) (b := 39) (by decide) (X := A) (f := 0) (t := 578 * m + 34) (m := w * 34) (by show 0 + w * 34 ≤ 544; omega) (by show 578 * m + 34 + w * 34 ≤ 1734; omega) (by decide) (by decide) (by omega)
    have a37 : A 37 = X 37 := a2 37 (by decide)
    have b37 : B 37 = X 37 := (b2 37 (by decide)).trans a37
    have e578 : nI m * (578 : Int32) = nI (578 * m) := by
      have : nI m * nI 578 = nI (578 * m) := by rw [z_nI_mul, Nat.mul_comm]
      exact this
    have e34 : nI w * (34 : Int32) = nI (w * 34) := z_nI_mul (i := w) (j := 34)
    have eadd : nI (578 * m) + (34 : Int32) = nI (578 * m + 34) := z_nI_add (i := 578 * m) (j := 34)
    have em1 : nI m + (1 : Int32) = nI (m + 1) := z_nI_add (i := m) (j := 1)
    obtain ⟨P, hP⟩ : ∃ P, P = u2 B 40 m (nI w) := ⟨_, rfl⟩
    have pk : ∀ k, k ≠ 40 → P k = B k := fun k hk => by rw [hP, z_u2k _ _ _ _ hk]
    have hput : f_X8_put 40 B (nI m) (nI w) = some P := by rw [hP]; exact z_put (by show m < 3; omega) (by decide)
    obtain ⟨Q, hQ⟩ : ∃ Q, Q = u2 P 37 4 (nI (m + 1)) := ⟨_, rfl⟩
    have qk : ∀ k, k ≠ 37 → Q k = P k := fun k hk => by rw [hQ, z_u2k _ _ _ _ hk]
    have hX : f_X8_image X = some (Q, nI (m + 1)) := by
      have p37 : P 37 4 = nI m := by rw [pk 37 (by decide), b37]; exact mx
      unfold f_X8_image f_X0_keepImage
      rw [mx, if_pos c1, e578, a1, Option.bind_some, eadd, a37, wx, e34]
      have b1' : f_X8_copy 38 39 A (0 : Int32) (nI (578 * m + 34)) (nI (w * 34)) = some B := b1
      rw [b1', Option.bind_some, b37, mx, wx, hput, Option.bind_some, p37, em1, ← hQ, Option.bind_some]
      have : Q 37 4 = nI (m + 1) := by rw [hQ, z_u2s]
      rw [this]
    -- the reference
    obtain ⟨M1, hM1⟩ : ∃ Z, Z = u2 M 0 0 (0 : Int32) := ⟨_, rfl⟩
    have M1k : ∀ k, k ≠ 0 → M1 k = M k := fun k hk => by rw [hM1, z_u2k _ _ _ _ hk]
    have M10 : ∀ j, j ≠ 0 → M1 0 j = M 0 j := fun j a => by rw [hM1, z_u2j _ _ _ _ a]
    obtain ⟨N1, n1, n1k, n1v, n1o⟩ := z9_keep1 (k2 := 19) (by decide) (M := M1) (q := 579 * m) (sz := 34) (by decide) (by decide) (by omega) (by decide)
    obtain ⟨N2, n2, n2k, n2v, n2o⟩ := z9_keep1 (k2 := 21) (by decide) (M := N1) (q := 579 * m + 34) (sz := 544) (by decide) (by decide) (by omega) (by decide)
    have n2k' : ∀ k, k ≠ 26 → N2 k = M1 k := fun k hk => (n2k k hk).trans (n1k k hk)
    obtain ⟨N3, hN3⟩ : ∃ Z, Z = u2 N2 26 (579 * m + 578) (nI w) := ⟨_, rfl⟩
    have n3k : ∀ k, k ≠ 26 → N3 k = M1 k := fun k hk => by rw [hN3, z_u2k _ _ _ _ hk]; exact n2k' k hk
    obtain ⟨N4, hN4⟩ : ∃ Z, Z = u2 N3 0 50 (nI (m + 1)) := ⟨_, rfl⟩
    have n4k : ∀ k, k ≠ 0 → N4 k = N3 k := fun k hk => by rw [hN4, z_u2k _ _ _ _ hk]
    have hR : f_X9_image M = some (N4, nI (m + 1)) := by
      have t33 : N2 0 33 = nI w := by rw [n2k' 0 (by decide), M10 33 (by decide)]; exact wm
      have t50 : N3 0 50 = nI m := by rw [n3k 0 (by decide), M10 50 (by decide)]; exact mm
      have e579 : (579 : Int32) * nI m = nI (579 * m) := z_nI_mul (i := 579) (j := m)
      have n1' : f_X9_keepsRow 19 M1 (nI (579 * m)) (34 : Int32) (1 : Int32) = some (N1, nI (579 * m + 34)) := n1
      have n2' : f_X9_keepsRow 21 N1 (nI (579 * m + 34)) (544 : Int32) (1 : Int32) = some (N2, nI (579 * m + 34 + 544)) := n2
      have i1 : inb (nI (579 * m + 34 + 544)) 1737 = true := by rw [z_inb (by omega)]; simp; omega
      have i2 : Int32.toNatClampNeg (nI (579 * m + 34 + 544)) = 579 * m + 578 := by rw [z_nI_tn (by omega)]
      have hka : f_X9_keepsAll M1 (nI m) (1 : Int32) = some N3 := by
        unfold f_X9_keepsAll
        rw [e579, n1', Option.bind_some]
        show ((f_X9_keepsRow 21 N1 (nI (579 * m + 34)) (544 : Int32) (1 : Int32)).bind _) = _
        rw [n2', Option.bind_some, if_neg (by decide)]
        show (if inb (nI (579 * m + 34 + 544)) 1737 = true then (some (u2 N2 26 (Int32.toNatClampNeg (nI (579 * m + 34 + 544))) (N2 0 33))) else none) = _
        rw [if_pos i1, i2, t33, ← hN3]
      unfold f_X9_image
      rw [m50, if_neg c2, ← hM1, hka, Option.bind_some, t50, em1, ← hN4]
      have : N4 0 50 = nI (m + 1) := by rw [hN4, z_u2s]
      rw [this]
    -- together
    have xk : ∀ k, k ≠ 37 ∧ k ≠ 39 ∧ k ≠ 40 → Q k = X k := fun k ⟨a, b, d⟩ => (qk k a).trans ((pk k d).trans ((b2 k b).trans (a2 k b)))
    have yk : ∀ k, k ≠ 0 ∧ k ≠ 26 → N4 k = M k := fun k ⟨a, b⟩ => (n4k k a).trans ((n3k k b).trans (M1k k a))
    have y0 : ∀ j, j ≠ 0 → j ≠ 50 → N4 0 j = M 0 j := fun j a b => by rw [hN4, z_u2j _ _ _ _ b, n3k 0 (by decide)]; exact M10 j a
    have hS : zS M N4 := zS.mk (yk 7 (by decide)) (yk 8 (by decide)) (yk 11 (by decide)) (yk 12 (by decide)) (y0 19 (by decide) (by decide)) (y0 20 (by decide) (by decide)) (y0 21 (by decide) (by decide)) (y0 28 (by decide) (by decide))
    have x39 : Q 39 = B 39 := (qk 39 (by decide)).trans (pk 39 (by decide))
    have o26 : N4 26 = N3 26 := n4k 26 (by decide)
    have v26 : ∀ j, j < 34 → N4 26 (579 * m + j) = M 19 j := fun j hj => by
      rw [o26, hN3, z_u2j _ _ _ _ (by omega), n2o _ (by omega), n1v j hj, M1k 19 (by decide)]
    have w26 : ∀ j, j < 544 → N4 26 (579 * m + 34 + j) = M 21 j := fun j hj => by
      rw [o26, hN3, z_u2j _ _ _ _ (by omega), n2v j hj, n1k 21 (by decide), M1k 21 (by decide)]
    refine ⟨n, Q, N4, nI (m + 1), hX, hR, ?_⟩
    refine zV.mk (zE_K (h.e.frame' (xk 3 (by decide)) fun k hk => xk k (by unfold zEk at hk; omega)) hS) ?_ ?_ ?_ ?_ ?_ ?_ ?_ ?_ ?_ ?_
    · rw [yk 19 (by decide)]; exact h.d.frame (xk 3 (by decide)) (xk 4 (by decide)) (xk 5 (by decide)) (xk 9 (by decide)) (xk 10 (by decide))
    · rw [yk 19 (by decide)]; exact h.y
    · have := h.tp; unfold zTp at *; rw [xk 1 (by decide), xk 2 (by decide), y0 2 (by decide) (by decide), yk 2 (by decide)]; exact this
    · rw [xk 1 (by decide), y0 8 (by decide) (by decide)]; exact h.fa
    · have := h.bk; unfold zBk at *; rw [xk 27 (by decide), xk 28 (by decide), y0 40 (by decide) (by decide), yk 18 (by decide)]; exact this
    · refine zWk_congr h.wk ?_ (xk 38 (by decide)) (y0 33 (by decide) (by decide)) (yk 21 (by decide))
      rw [hQ, z_u2j _ _ _ _ (by decide), pk 37 (by decide), b37]
    · refine ⟨m + 1, by omega, ?_, ?_, fun i hi => ?_⟩
      · rw [hQ, z_u2s]
      · rw [hN4, z_u2s]
      · by_cases ci : i = m
        · subst ci
          refine ⟨⟨zRx_congr a4 (fun j hj => ?_) v26, zGd_congr h10 (h.d.gd h.y) v26⟩, w, hw, ?_, ?_, fun l hl => zRp_pt h10 (wr l hl) (fun j hj => ?_) fun j hj => ?_⟩
          · show Q 39 (578 * i + j) = A 39 (578 * i + j)
            rw [x39, b4 _ (by omega)]
          · rw [qk 40 (by decide), hP, z_u2s]
          · rw [o26, hN3, z_u2s]
          · rw [x39, show 578 * i + 34 + 34 * l + j = 578 * i + 34 + (34 * l + j) by omega, b3 _ (by omega), a2 38 (by decide), Nat.zero_add]
          · rw [show 579 * i + 34 + 34 * l + j = 579 * i + 34 + (34 * l + j) by omega]; exact w26 _ (by omega)
        · refine zIm1_pt h10 (mr i (by omega)) (fun j hj => ?_) ?_ fun j hj => ?_
          · rw [x39, b4 _ (by omega), a3 _ (by omega)]
          · rw [qk 40 (by decide), hP, z_u2j _ _ _ _ (by omega), b2 40 (by decide), a2 40 (by decide)]
          · rw [o26, hN3, z_u2j _ _ _ _ (by omega), n2o _ (by omega), n1o _ (by omega), M1k 26 (by decide)]
    · rw [xk 0 (by decide), y0 34 (by decide) (by decide)]; exact h.rs
    · rw [xk 0 (by decide), yk 1 (by decide)]; exact h.no
    · rw [xk 0 (by decide), yk 1 (by decide)]; exact h.il
theorem z_restore {n : Nat} {X M : TX} (h : zV n X M) : zOq (f_X8_restore X) (f_X9_restore M) := by
  have h10 := h.e.n10
  obtain ⟨m, hm, mx, mm, mr⟩ := h.im
  have g := h.q (zQX.refl X) (zQM_0 M (nI 0))
  have m50 : u2 M 0 0 (0 : Int32) 0 50 = nI m := by rw [z_u2j _ _ _ _ (by decide)]; exact mm
  by_cases c : m = 0
  · subst c
    refine ⟨n, X, u2 M 0 0 (nI 0), -1, ?_, ?_, g⟩
    · unfold f_X8_restore; rw [mx, if_neg (by decide)]
    · unfold f_X9_restore; rw [m50, if_pos (by rfl)]; rfl
  · obtain ⟨v, rfl⟩ : ∃ v, m = v + 1 := ⟨m - 1, by omega⟩
    obtain ⟨r1, w, hw, wx, wm, wr⟩ := mr v (by omega)
    have ev : nI (v + 1) - (1 : Int32) = nI v := by
      have : nI (v + 1) - nI 1 = nI (v + 1 - 1) := z_subN (by omega)
      exact this
    have c1 : (0 : Int32) < nI (v + 1) := (z_nI_lt (i := 0) (j := v + 1) (by omega) (by omega)).2 (by omega)
    have c2 : ¬ nI (v + 1) = (0 : Int32) := fun e => by
      have := (z_nI_inj (i := v + 1) (j := 0) (by omega) (by omega)).1 e
      omega
    have e578 : nI v * (578 : Int32) = nI (578 * v) := by
      have : nI v * nI 578 = nI (578 * v) := by rw [z_nI_mul, Nat.mul_comm]
      exact this
    have e34 : nI w * (34 : Int32) = nI (w * 34) := z_nI_mul (i := w) (j := 34)
    have eadd : nI (578 * v) + (34 : Int32) = nI (578 * v + 34) := z_nI_add (i := 578 * v) (j := 34)
    have e579 : (579 : Int32) * nI v = nI (579 * v) := z_nI_mul (i := 579) (j := v)
    -- the class
    obtain ⟨W, hW⟩ : ∃ W, W = u2 X 37 4 (nI v) := ⟨_, rfl⟩
    have Wk : ∀ k, k ≠ 37 → W k = X k := fun k hk => by rw [hW, z_u2k _ _ _ _ hk]
    have hr2 : zRx (fun j => W 39 (578 * v + j)) (fun j => M 26 (579 * v + j)) := by rw [Wk 39 (by decide)]; exact r1.1
    obtain ⟨Y, y1, y2, y3⟩ := z3_load (n := n) (k := 39) (st := 578 * v) h10 (s := fun j => M 26 (579 * v + j)) (X := W) (by rw [Wk 3 (by decide)]; exact h.e.xn) r1.2 (by decide) (by show 578 * v + 34 ≤ 1734; omega) (by decide) hr2
    have yk : ∀ k, k ≠ 3 ∧ k ≠ 4 ∧ k ≠ 5 ∧ k ≠ 9 ∧ k ≠ 10 ∧ k ≠ 21 ∧ k ≠ 22 ∧ k ≠ 33 ∧ k ≠ 37 → Y k = X k := fun k ⟨a, b, c, d, e, f, g, i, j⟩ => (y2.1 k a b c d e f g i).trans (Wk k j)
    have y37 : Y 37 = W 37 := y2.1 37 (by decide) (by decide) (by decide) (by decide) (by decide) (by decide) (by decide) (by decide)
    obtain ⟨P, hP⟩ : ∃ P, P = u2 Y 37 3 (nI w) := ⟨_, rfl⟩
    have pk : ∀ k, k ≠ 37 → P k = Y k := fun k hk => by rw [hP, z_u2k _ _ _ _ hk]
    obtain ⟨Q, q1, q2, q3, q4⟩ := z8_copy (a := 39) (b := 38) (by decide) (X := P) (f := 578 * v + 34) (t := 0) (m := w * 34) (by show 578 * v + 34 + w * 34 ≤ 1734; omega) (by show 0 + w * 34 ≤ 544; omega) (by decide) (by decide) (by omega)
    have p37 : Q 37 = P 37 := q2 37 (by decide)
    have hX : f_X8_restore X = some (u2 Q 0 11 (0 : Int32), nI v) := by
      have w4 : W 37 4 = nI v := by rw [hW, z_u2s]
      have yy4 : Y 37 4 = nI v := by rw [y37]; exact w4
      have yw : Y 40 v = nI w := by rw [yk 40 (by decide)]; exact wx
      have pw : P 37 3 = nI w := by rw [hP, z_u2s]
      have hat : f_X8_at 40 Y (nI v) = some (nI w) := by rw [z_at (k := 40) (by show v < 3; omega) (by decide), yw]
      have q1' : f_X8_copy 39 38 P (nI (578 * v + 34)) (0 : Int32) (nI (w * 34)) = some Q := q1
      unfold f_X8_restore f_X0_takeImage
      rw [mx, if_pos c1, ev, ← hW, w4, e578, y1, Option.bind_some, yy4, hat, Option.bind_some, ← hP, pw, e34, eadd, q1', Option.bind_some, Option.bind_some]
      show some (u2 Q 0 11 (0 : Int32), u2 Q 0 11 (0 : Int32) 37 4) = _
      rw [z_u2k _ _ _ _ (by decide), p37, hP, z_u2j _ _ _ _ (by decide), yy4]
    -- the reference
    obtain ⟨M1, hM1⟩ : ∃ Z, Z = u2 (u2 M 0 0 (0 : Int32)) 0 50 (nI v) := ⟨_, rfl⟩
    have M1k : ∀ k, k ≠ 0 → M1 k = M k := fun k hk => by rw [hM1, z_u2k _ _ _ _ hk, z_u2k _ _ _ _ hk]
    have M10 : ∀ j, j ≠ 0 → j ≠ 50 → M1 0 j = M 0 j := fun j a b => by rw [hM1, z_u2j _ _ _ _ b, z_u2j _ _ _ _ a]
    have M150 : M1 0 50 = nI v := by rw [hM1, z_u2s]
    obtain ⟨N1, n1, n1k, n1v⟩ := z9_keep0 (k2 := 19) (by decide) (M := M1) (q := 579 * v) (sz := 34) (by decide) (by decide) (by omega) (by decide)
    obtain ⟨N2, n2, n2k, n2v⟩ := z9_keep0 (k2 := 21) (by decide) (M := N1) (q := 579 * v + 34) (sz := 544) (by decide) (by decide) (by omega) (by decide)
    obtain ⟨N3, hN3⟩ : ∃ Z, Z = u2 N2 0 33 (nI w) := ⟨_, rfl⟩
    obtain ⟨N4, hN4⟩ : ∃ Z, Z = u2 N3 0 34 (0 : Int32) := ⟨_, rfl⟩
    have nk : ∀ k, k ≠ 0 ∧ k ≠ 19 ∧ k ≠ 21 → N4 k = M k := fun k ⟨a, b, d⟩ => by
      rw [hN4, z_u2k _ _ _ _ a, hN3, z_u2k _ _ _ _ a, n2k k d, n1k k b, M1k k a]
    have n0 : ∀ j, j ≠ 0 → j ≠ 33 → j ≠ 34 → j ≠ 50 → N4 0 j = M 0 j := fun j a b d e => by
      rw [hN4, z_u2j _ _ _ _ d, hN3, z_u2j _ _ _ _ b, n2k 0 (by decide), n1k 0 (by decide), M10 j a e]
    have n50 : N4 0 50 = nI v := by
      rw [hN4, z_u2j _ _ _ _ (by decide), hN3, z_u2j _ _ _ _ (by decide), n2k 0 (by decide), n1k 0 (by decide), M150]
    have n33 : N4 0 33 = nI w := by rw [hN4, z_u2j _ _ _ _ (by decide), hN3, z_u2s]
    have n19 : ∀ j, j < 34 → N4 19 j = M 26 (579 * v + j) := fun j hj => by
      rw [hN4, z_u2k _ _ _ _ (by decide), hN3, z_u2k _ _ _ _ (by decide), n2k 19 (by decide), n1v j hj, M1k 26 (by decide)]
    have n21 : ∀ j, j < 544 → N4 21 j = M 26 (579 * v + 34 + j) := fun j hj => by
      rw [hN4, z_u2k _ _ _ _ (by decide), hN3, z_u2k _ _ _ _ (by decide), n2v j hj, n1k 26 (by decide), M1k 26 (by decide)]
    have hR : f_X9_restore M = some (N4, nI v) := by
      have n1' : f_X9_keepsRow 19 M1 (nI (579 * v)) (34 : Int32) (0 : Int32) = some (N1, nI (579 * v + 34)) := n1
      have n2' : f_X9_keepsRow 21 N1 (nI (579 * v + 34)) (544 : Int32) (0 : Int32) = some (N2, nI (579 * v + 34 + 544)) := n2
      have i1 : inb (nI (579 * v + 34 + 544)) 1737 = true := by rw [z_inb (by omega)]; simp; omega
      have i2 : Int32.toNatClampNeg (nI (579 * v + 34 + 544)) = 579 * v + 578 := by rw [z_nI_tn (by omega)]
      have t26 : N2 26 (579 * v + 578) = nI w := by rw [n2k 26 (by decide), n1k 26 (by decide), M1k 26 (by decide)]; exact wm
      have hka : f_X9_keepsAll M1 (nI v) (0 : Int32) = some N3 := by
        unfold f_X9_keepsAll
        rw [e579, n1', Option.bind_some]
        show ((f_X9_keepsRow 21 N1 (nI (579 * v + 34)) (544 : Int32) (0 : Int32)).bind _) = _
        rw [n2', Option.bind_some, if_pos (by rfl)]
        show (if inb (nI (579 * v + 34 + 544)) 1737 = true then (some (u2 N2 0 33 (N2 26 (Int32.toNatClampNeg (nI (579 * v + 34 + 544)))))) else none) = _
        rw [if_pos i1, i2, t26, ← hN3]
      unfold f_X9_restore
      rw [m50, if_neg c2, ev, ← hM1, M150, hka, Option.bind_some, ← hN4, n50]
    -- together
    have uk : ∀ k, k ≠ 0 → u2 Q 0 11 (0 : Int32) k = Q k := fun k hk => z_u2k _ _ _ _ hk
    have qk : ∀ k, k ≠ 0 → k ≠ 37 → k ≠ 38 → u2 Q 0 11 (0 : Int32) k = Y k := fun k a b d => (uk k a).trans ((q2 k d).trans (pk k b))
    have hS : zS M N4 := zS.mk (nk 7 (by decide)) (nk 8 (by decide)) (nk 11 (by decide)) (nk 12 (by decide)) (n0 19 (by decide) (by decide) (by decide) (by decide)) (n0 20 (by decide) (by decide) (by decide) (by decide)) (n0 21 (by decide) (by decide) (by decide) (by decide)) (n0 28 (by decide) (by decide) (by decide) (by decide))
    have hEW : zE n M W := h.e.frame' (Wk 3 (by decide)) fun k hk => Wk k (by unfold zEk at hk; omega)
    have z00 : Q 0 = Y 0 := (q2 0 (by decide)).trans (pk 0 (by decide))
    refine ⟨n, u2 Q 0 11 (0 : Int32), N4, nI v, hX, hR, ?_⟩
    refine zV.mk (zE_K ((hEW.fx y2).frame' (qk 3 (by decide) (by decide) (by decide)) fun k hk => by unfold zEk at hk; exact qk k (by omega) (by omega) (by omega)) hS) ?_ ?_ ?_ ?_ ?_ ?_ ?_ ?_ ?_ ?_
    · exact (y3.congr h10 fun j hj => n19 j hj).frame (qk 3 (by decide) (by decide) (by decide)) (qk 4 (by decide) (by decide) (by decide)) (qk 5 (by decide) (by decide) (by decide)) (qk 9 (by decide) (by decide) (by decide)) (qk 10 (by decide) (by decide) (by decide))
    · unfold zYr; rw [n19 32 (by decide)]; exact r1.2.yr
    · have := h.tp; unfold zTp at *; rw [qk 1 (by decide) (by decide) (by decide), qk 2 (by decide) (by decide) (by decide), yk 1 (by decide), yk 2 (by decide), n0 2 (by decide) (by decide) (by decide) (by decide), nk 2 (by decide)]; exact this
    · rw [qk 1 (by decide) (by decide) (by decide), yk 1 (by decide), n0 8 (by decide) (by decide) (by decide) (by decide)]; exact h.fa
    · have := h.bk; unfold zBk at *; rw [qk 27 (by decide) (by decide) (by decide), qk 28 (by decide) (by decide) (by decide), yk 27 (by decide), yk 28 (by decide), n0 40 (by decide) (by decide) (by decide) (by decide), nk 18 (by decide)]; exact this
    · refine ⟨w, hw, ?_, n33, fun i hi => zRp_pt h10 (wr i hi) (fun j hj => ?_) fun j hj => ?_⟩
      · rw [uk 37 (by decide), p37, hP, z_u2s]
      · have := q3 (34 * i + j) (by omega)
        rw [uk 38 (by decide)]
        rw [Nat.zero_add, pk 39 (by decide), yk 39 (by decide)] at this
        rw [this, show 578 * v + 34 + (34 * i + j) = 578 * v + 34 + 34 * i + j by omega]
      · rw [n21 _ (by omega), show 579 * v + 34 + (34 * i + j) = 579 * v + 34 + 34 * i + j by omega]
    · refine ⟨v, by omega, ?_, n50, fun i hi => zIm1_congr (mr i (by omega)) ?_ ?_ (nk 26 (by decide))⟩
      · rw [uk 37 (by decide), p37, hP, z_u2j _ _ _ _ (by decide), y37, hW, z_u2s]
      · rw [qk 39 (by decide) (by decide) (by decide), yk 39 (by decide)]
      · rw [qk 40 (by decide) (by decide) (by decide), yk 40 (by decide)]
    · rw [z_u2s, hN4, z_u2s]
    · rw [z_u2j _ _ _ _ (by decide), z00, yk 0 (by decide), nk 1 (by decide)]; exact h.no
    · rw [z_u2j _ _ _ _ (by decide), z00, yk 0 (by decide), nk 1 (by decide)]; exact h.il
