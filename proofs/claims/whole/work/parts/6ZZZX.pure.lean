set_option linter.unusedVariables false
/-- the work is kept, then done, on both sides -/
theorem z_workRun {n w b : Nat} {X A V C : TX} {g : Nat} (h : zV n X A) (hw : w < 16)
    (vk : ∀ k, zXk k → V k = X k) (v31 : V 31 1 = nI b ∧ V 31 3 = nI 0 ∧ V 31 4 = nI 0 ∧ V 31 5 = nI 0) (v17 : V 1 7 = -nI 1) (v11 : V 1 1 = nI 0)
    (ck : ∀ k, zMk k → C k = A k) (c0 : ∀ j, zM0k j → C 0 j = A 0 j) (c32 : C 0 32 = nI b) (c08 : C 0 8 = -nI 1) (c02 : C 0 2 = nI 0) (c00 : C 0 0 = nI 0) (x37 : X 37 3 = nI w) (a33 : A 0 33 = nI w)
    (hb : b ≤ 148) (hp : zPl n (V 32) (C 16) g 6 0 b) :
    ∃ S R v, ((f_X0_keepWork V).bind fun q7 => (f_X6_run 8 q7 (nI 0) (q7 31 1) (nI 0)).bind fun q8 => (some ((u2 q8 0 11 (q8 31 5)), .inl ((u2 q8 0 11 (q8 31 5)) 31 4)) : Option (TX × (Int32 ⊕ Nat)))) = some (S, .inl v) ∧ L_X9_work_123 FU C (nI 0) = some (R, v) ∧ R 0 0 = nI 0 ∧ zV n S R := by
  have h10 := h.e.n10
  have xk : ∀ k, k = 0 ∨ (3 ≤ k ∧ k ≤ 10) ∨ k = 19 ∨ k = 20 ∨ k = 27 ∨ k = 28 ∨ (37 ≤ k ∧ k ≤ 40) → V k = X k := vk
  have mk : ∀ k, k = 1 ∨ k = 7 ∨ k = 8 ∨ k = 11 ∨ k = 12 ∨ k = 18 ∨ k = 19 ∨ k = 21 ∨ k = 26 → C k = A k := ck
  have m0 : ∀ j, j = 19 ∨ j = 20 ∨ j = 21 ∨ j = 28 ∨ j = 33 ∨ j = 34 ∨ j = 40 ∨ j = 50 → C 0 j = A 0 j := c0
  have eV : zE n A V := h.e.frame' (xk 3 (by omega)) fun k hk => xk k (by unfold zEk at hk; omega)
  have dV : zD n (A 19) V := h.d.frame (xk 3 (by omega)) (xk 4 (by omega)) (xk 5 (by omega)) (xk 9 (by omega)) (xk 10 (by omega))
  have v37 : V 37 3 = nI w := by rw [xk 37 (by omega)]; exact x37
  have c33 : C 0 33 = nI w := by rw [m0 33 (by omega)]; exact a33
  obtain ⟨Y, y1, y2, y3, y4⟩ := z3_save (k := 38) (st := 34 * w) dV (by decide) (by show 34 * w + 34 ≤ 544; omega) (by decide)
  obtain ⟨W, hW⟩ : ∃ W, W = u2 Y 37 3 (nI (w + 1)) := ⟨_, rfl⟩
  have wk : ∀ k, k ≠ 37 → k ≠ 38 → W k = V k := fun k a b => by rw [hW, z_u2k _ _ _ _ a, y2 k b]
  have keep : f_X0_keepWork V = some W := by
    show ((f_X3_save 38 V ((V 37 3) * nI 34)).bind fun q1 => some (u2 q1 37 3 ((q1 37 3) + nI 1))) = _
    rw [v37, z_nI_mul, show w * 34 = 34 * w by omega, y1, Option.bind_some, y2 37 (by decide), v37, z_nI_add, ← hW]
  obtain ⟨N, n1, n2, n3, n4⟩ := z9_work123 c33 hw
  have N33 : N 0 33 = nI w := by rw [n2 0 (by decide)]; exact c33
  obtain ⟨P, hP⟩ : ∃ P, P = u2 N 0 33 (nI (w + 1)) := ⟨_, rfl⟩
  have pk : ∀ k, k ≠ 0 → P k = N k := fun k a => by rw [hP, z_u2k _ _ _ _ a]
  have pj : ∀ j, j ≠ 33 → P 0 j = N 0 j := fun j a => by rw [hP, z_u2j _ _ _ _ a]
  obtain ⟨Q, q1, q2, q3⟩ := z9_copies (a := 19) (b := 20) (by decide) (M := P) (m := 34) (by decide) (by decide) (by omega)
  have take : f_X9_take P = some Q := by
    show ((f_X9_copies 19 20 P (nI 34)).bind fun q1 => some q1) = _
    rw [q1, Option.bind_some]
  obtain ⟨R0, hR0⟩ : ∃ R, R = u2 (u2 (u2 Q 0 35 (nI 0)) 0 36 (nI 0)) 0 37 (nI 0) := ⟨_, rfl⟩
  have rk : ∀ k, k ≠ 0 → k ≠ 20 → k ≠ 21 → R0 k = C k := fun k a b c => by rw [hR0, z_u2k _ _ _ _ a, z_u2k _ _ _ _ a, z_u2k _ _ _ _ a, q2 k b, pk k a, n2 k c]
  have rj : ∀ j, j ≠ 33 → j ≠ 35 → j ≠ 36 → j ≠ 37 → R0 0 j = C 0 j := fun j a b c d => by rw [hR0, z_u2j _ _ _ _ d, z_u2j _ _ _ _ c, z_u2j _ _ _ _ b, q2 0 (by decide), pj j a, n2 0 (by decide)]
  have r33 : R0 0 33 = nI (w + 1) := by rw [hR0, z_u2j _ _ _ _ (by decide), z_u2j _ _ _ _ (by decide), z_u2j _ _ _ _ (by decide), q2 0 (by decide), hP, z_u2s]
  have r20 : ∀ j, j < 34 → R0 20 j = A 19 j := fun j hj => by
    rw [hR0, z_u2k _ _ _ _ (by decide), z_u2k _ _ _ _ (by decide), z_u2k _ _ _ _ (by decide), q3]
    show (if j < 34 then P 19 j else _) = _
    rw [if_pos hj, pk 19 (by decide), n2 19 (by decide), mk 19 (by omega)]
  have r21 : R0 21 = N 21 := by rw [hR0, z_u2k _ _ _ _ (by decide), z_u2k _ _ _ _ (by decide), z_u2k _ _ _ _ (by decide), q2 21 (by decide), pk 21 (by decide)]
  have sR : zS A R0 := zS.mk (by rw [rk 7 (by decide) (by decide) (by decide)]; exact mk 7 (by omega)) (by rw [rk 8 (by decide) (by decide) (by decide)]; exact mk 8 (by omega)) (by rw [rk 11 (by decide) (by decide) (by decide)]; exact mk 11 (by omega)) (by rw [rk 12 (by decide) (by decide) (by decide)]; exact mk 12 (by omega)) (by rw [rj 19 (by decide) (by decide) (by decide) (by decide)]; exact m0 19 (by omega)) (by rw [rj 20 (by decide) (by decide) (by decide) (by decide)]; exact m0 20 (by omega)) (by rw [rj 21 (by decide) (by decide) (by decide) (by decide)]; exact m0 21 (by omega)) (by rw [rj 28 (by decide) (by decide) (by decide) (by decide)]; exact m0 28 (by omega))
  have hR : zRr n A (V 32) (C 16) 0 W R0 := by
    refine zRr.mk (eV.frame' (wk 3 (by decide) (by decide)) fun k hk => wk k (by unfold zEk at hk; omega) (by unfold zEk at hk; omega)) sR ((dV.congr h10 r20).frame (wk 3 (by decide) (by decide)) (wk 4 (by decide) (by decide)) (wk 5 (by decide) (by decide)) (wk 9 (by decide) (by decide)) (wk 10 (by decide) (by decide))) ?_ (wk 32 (by decide) (by decide)) (rk 16 (by decide) (by decide) (by decide)) (by omega) ?_ ?_ ?_ ?_
    · unfold zYr; rw [r20 32 (by omega)]; exact h.y
    · rw [wk 31 (by decide) (by decide)]; exact v31.2.1
    · rw [hR0, z_u2j _ _ _ _ (by decide), z_u2j _ _ _ _ (by decide), z_u2s]
    · rw [wk 31 (by decide) (by decide), v31.2.2.1, hR0, z_u2j _ _ _ _ (by decide), z_u2s]
    · rw [wk 31 (by decide) (by decide), v31.2.2.2, hR0, z_u2s]
  obtain ⟨z', X', M', t1, t2, _, t3, t4, t5⟩ := z_run (n := n) (K := A) (c := V 32) (m := C 16) g 6 0 b 8 8 0 0 0 FU FU W R0 hp hb (by omega) (by omega) (by omega) hR (by omega) (by unfold FU; omega) (by unfold FU; omega)
  obtain ⟨U, u1, uk, u19⟩ := z9_copies (a := 20) (b := 19) (by decide) (M := M') (m := 34) (by decide) (by decide) (by omega)
  obtain ⟨S, hS⟩ : ∃ S, S = u2 X' 0 11 (X' 31 5) := ⟨_, rfl⟩
  obtain ⟨R, hRR⟩ : ∃ R, R = u2 U 0 34 (U 0 37) := ⟨_, rfl⟩
  have U0 : U 0 = M' 0 := uk 0 (by decide)
  have M16 := t5.1
  -- frames
  have sk : ∀ k, k ≠ 0 → k ≠ 3 → k ≠ 4 → k ≠ 5 → k ≠ 9 → k ≠ 10 → k ≠ 21 → k ≠ 22 → k ≠ 33 → k ≠ 31 → S k = W k := fun k a b c d e f g h i j => by rw [hS, z_u2k _ _ _ _ a, t4.1 k b c d e f g h i j]
  have sx : ∀ k, k ≠ 0 → S k = X' k := fun k a => by rw [hS, z_u2k _ _ _ _ a]
  have Rk : ∀ k, k ≠ 0 → k ≠ 13 → k ≠ 14 → k ≠ 19 → k ≠ 20 → R k = R0 k := fun k a b c d e => by rw [hRR, z_u2k _ _ _ _ a, uk k d, t5.1 k b c e a]
  have Rj : ∀ j, j ≠ 34 → j ≠ 35 → j ≠ 36 → j ≠ 37 → R 0 j = R0 0 j := fun j a b c d => by rw [hRR, z_u2j _ _ _ _ a, U0, t5.2 j b c d]
  have R19 : ∀ j, j < 34 → R 19 j = M' 20 j := fun j hj => by
    rw [hRR, z_u2k _ _ _ _ (by decide), u19]
    show (if j < 34 then M' 20 j else _) = _
    rw [if_pos hj]
  have hSR : zS A R := zS.mk (by rw [Rk 7 (by decide) (by decide) (by decide) (by decide) (by decide)]; exact sR.m7) (by rw [Rk 8 (by decide) (by decide) (by decide) (by decide) (by decide)]; exact sR.m8) (by rw [Rk 11 (by decide) (by decide) (by decide) (by decide) (by decide)]; exact sR.m11) (by rw [Rk 12 (by decide) (by decide) (by decide) (by decide) (by decide)]; exact sR.m12) (by rw [Rj 19 (by decide) (by decide) (by decide) (by decide)]; exact sR.a19) (by rw [Rj 20 (by decide) (by decide) (by decide) (by decide)]; exact sR.a20) (by rw [Rj 21 (by decide) (by decide) (by decide) (by decide)]; exact sR.a21) (by rw [Rj 28 (by decide) (by decide) (by decide) (by decide)]; exact sR.a28)
  obtain ⟨w', hw', wx, wm, wr⟩ := h.wk
  have ww : w' = w := by
    rw [x37] at wx
    exact ((z_nI_inj (by omega) (by omega)).1 wx).symm
  subst ww
  have S38 : S 38 = Y 38 := by rw [sk 38 (by decide) (by decide) (by decide) (by decide) (by decide) (by decide) (by decide) (by decide) (by decide) (by decide), hW, z_u2k _ _ _ _ (by decide)]
  have R21 : R 21 = N 21 := (Rk 21 (by decide) (by decide) (by decide) (by decide) (by decide)).trans r21
  refine ⟨S, R, X' 31 4, ?_, ?_, ?_, ?_⟩
  · rw [keep, Option.bind_some]
    have e1 : W 31 1 = nI b := by rw [wk 31 (by decide) (by decide)]; exact v31.1
    have e2 : f_X6_run 8 W (nI 0) (nI b) (nI 0) = some X' := by
      show (if nI 0 ≤ nI 6 then L_X6_run_14 (f_X6_run 7) FU W (nI b) (nI 0) (nI 0) (nI 0) else some W) = _
      rw [if_pos (by decide)]; exact t1
    rw [e1, e2, Option.bind_some, ← hS, sx 31 (by decide)]
  · rw [n1]
    unfold zWT
    rw [N33, z_nI_add, ← hP, take, Option.bind_some, ← hR0, rj 32 (by decide) (by decide) (by decide) (by decide), c32]
    have e2 : f_X9_goesSteps 8 R0 (nI 0) (nI b) = some M' := t2
    rw [e2, Option.bind_some, u1, Option.bind_some, ← hRR]
    have : R 0 36 = X' 31 4 := by rw [hRR, z_u2j _ _ _ _ (by decide), U0]; exact t3.dn.symm
    rw [this]
  · rw [Rj 0 (by decide) (by decide) (by decide) (by decide), rj 0 (by decide) (by decide) (by decide) (by decide)]; exact c00
  · refine zV.mk (zE_K (t3.e.frame' (sx 3 (by decide)) fun k hk => sx k (by unfold zEk at hk; omega)) hSR) ?_ ?_ ⟨0, by omega, ?_, ?_, fun j hj => absurd hj (by omega)⟩ ?_ ?_ ⟨w' + 1, by omega, ?_, ?_, fun i hi => ?_⟩ ?_ ?_ ?_ ?_
    · exact (t3.d.congr h10 R19).frame (sx 3 (by decide)) (sx 4 (by decide)) (sx 5 (by decide)) (sx 9 (by decide)) (sx 10 (by decide))
    · unfold zYr; rw [R19 32 (by omega)]; exact t3.y
    · rw [sk 1 (by decide) (by decide) (by decide) (by decide) (by decide) (by decide) (by decide) (by decide) (by decide) (by decide), wk 1 (by decide) (by decide)]; exact v11
    · rw [Rj 2 (by decide) (by decide) (by decide) (by decide), rj 2 (by decide) (by decide) (by decide) (by decide)]; exact c02
    · rw [sk 1 (by decide) (by decide) (by decide) (by decide) (by decide) (by decide) (by decide) (by decide) (by decide) (by decide), wk 1 (by decide) (by decide), v17, Rj 8 (by decide) (by decide) (by decide) (by decide), rj 8 (by decide) (by decide) (by decide) (by decide), c08]
    · have := h.bk; unfold zBk at *; rw [sk 27 (by decide) (by decide) (by decide) (by decide) (by decide) (by decide) (by decide) (by decide) (by decide) (by decide), wk 27 (by decide) (by decide), xk 27 (by omega), sk 28 (by decide) (by decide) (by decide) (by decide) (by decide) (by decide) (by decide) (by decide) (by decide) (by decide), wk 28 (by decide) (by decide), xk 28 (by omega), Rk 18 (by decide) (by decide) (by decide) (by decide) (by decide), rk 18 (by decide) (by decide) (by decide), mk 18 (by omega), Rj 40 (by decide) (by decide) (by decide) (by decide), rj 40 (by decide) (by decide) (by decide) (by decide), m0 40 (by omega)]; exact this
    · rw [sk 37 (by decide) (by decide) (by decide) (by decide) (by decide) (by decide) (by decide) (by decide) (by decide) (by decide), hW, z_u2s]
    · rw [Rj 33 (by decide) (by decide) (by decide) (by decide)]; exact r33
    · by_cases c : i = w'
      · subst c
        have ea : ∀ j, j < 34 → R 21 (34 * i + j) = A 19 j := fun j hj => by rw [R21, n3 j hj, mk 19 (by omega)]
        exact ⟨zRx_congr y4 (fun j hj => by rw [S38]) ea, zGd_congr h10 (dV.gd h.y) ea⟩
      · refine zRp_pt h10 (wr i (by omega)) (fun j hj => ?_) fun j hj => ?_
        · rw [S38, y3 _ (by omega), xk 38 (by omega)]
        · rw [R21, n4 _ (by omega), mk 21 (by omega)]
    · refine zIm_congr h.im ?_ ?_ ?_ ?_ ?_
      · rw [sk 37 (by decide) (by decide) (by decide) (by decide) (by decide) (by decide) (by decide) (by decide) (by decide) (by decide), hW, z_u2j _ _ _ _ (by decide), y2 37 (by decide), xk 37 (by omega)]
      · rw [sk 39 (by decide) (by decide) (by decide) (by decide) (by decide) (by decide) (by decide) (by decide) (by decide) (by decide), wk 39 (by decide) (by decide), xk 39 (by omega)]
      · rw [sk 40 (by decide) (by decide) (by decide) (by decide) (by decide) (by decide) (by decide) (by decide) (by decide) (by decide), wk 40 (by decide) (by decide), xk 40 (by omega)]
      · rw [Rj 50 (by decide) (by decide) (by decide) (by decide), rj 50 (by decide) (by decide) (by decide) (by decide), m0 50 (by omega)]
      · rw [Rk 26 (by decide) (by decide) (by decide) (by decide) (by decide), rk 26 (by decide) (by decide) (by decide), mk 26 (by omega)]
    · rw [hS, z_u2s, hRR, z_u2s, U0]; exact t3.rf
    · rw [hS, z_u2j _ _ _ _ (by decide), t4.1 0 (by decide) (by decide) (by decide) (by decide) (by decide) (by decide) (by decide) (by decide) (by decide), wk 0 (by decide) (by decide), xk 0 (by omega), Rk 1 (by decide) (by decide) (by decide) (by decide) (by decide), rk 1 (by decide) (by decide) (by decide), mk 1 (by omega)]; exact h.no
    · rw [hS, z_u2j _ _ _ _ (by decide), t4.1 0 (by decide) (by decide) (by decide) (by decide) (by decide) (by decide) (by decide) (by decide) (by decide), wk 0 (by decide) (by decide), xk 0 (by omega), Rk 1 (by decide) (by decide) (by decide) (by decide) (by decide), rk 1 (by decide) (by decide) (by decide), mk 1 (by omega)]; exact h.il
