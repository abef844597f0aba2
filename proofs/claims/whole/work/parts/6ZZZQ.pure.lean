set_option linter.unusedVariables false
theorem zV.setB {n : Nat} {X M Y N : TX} (h : zV n X M) (hX : ∀ k, zXk k → k ≠ 27 → k ≠ 28 → Y k = X k) (hM : ∀ k, zMk k → k ≠ 18 → N k = M k) (m0 : ∀ j, zM0k j → j ≠ 40 → N 0 j = M 0 j) (h17 : Y 1 7 = N 0 8) (ht : zTp Y N) (hB : zBk Y N) : zV n Y N := by
  have x : ∀ k, k = 0 ∨ (3 ≤ k ∧ k ≤ 10) ∨ k = 19 ∨ k = 20 ∨ (37 ≤ k ∧ k ≤ 40) → Y k = X k := fun k hk => hX k (by unfold zXk; omega) (by omega) (by omega)
  have m : ∀ k, k = 1 ∨ k = 7 ∨ k = 8 ∨ k = 11 ∨ k = 12 ∨ k = 19 ∨ k = 21 ∨ k = 26 → N k = M k := fun k hk => hM k (by unfold zMk; omega) (by omega)
  have o : ∀ j, j = 19 ∨ j = 20 ∨ j = 21 ∨ j = 28 ∨ j = 33 ∨ j = 34 ∨ j = 50 → N 0 j = M 0 j := fun j hj => m0 j (by unfold zM0k; omega) (by omega)
  have hS : zS M N := zS.mk (m 7 (by omega)) (m 8 (by omega)) (m 11 (by omega)) (m 12 (by omega)) (o 19 (by omega)) (o 20 (by omega)) (o 21 (by omega)) (o 28 (by omega))
  refine zV.mk (zE_K (h.e.frame' (x 3 (by omega)) fun k hk => x k (by unfold zEk at hk; omega)) hS) ?_ ?_ ht h17 hB ?_ ?_ ?_ ?_ ?_
  · rw [m 19 (by omega)]; exact h.d.frame (x 3 (by omega)) (x 4 (by omega)) (x 5 (by omega)) (x 9 (by omega)) (x 10 (by omega))
  · rw [m 19 (by omega)]; exact h.y
  · exact zWk_congr h.wk (by rw [x 37 (by omega)]) (x 38 (by omega)) (o 33 (by omega)) (m 21 (by omega))
  · exact zIm_congr h.im (by rw [x 37 (by omega)]) (x 39 (by omega)) (x 40 (by omega)) (o 50 (by omega)) (m 26 (by omega))
  · rw [x 0 (by omega), o 34 (by omega)]; exact h.rs
  · rw [x 0 (by omega), m 1 (by omega)]; exact h.no
  · rw [x 0 (by omega), m 1 (by omega)]; exact h.il
theorem z9_book46 (M : TX) : ∃ N, L_X9_book_46 FU M (nI 0) = L_X9_book_66 FU N (nI 0) ∧ (∀ k, k ≠ 17 → N k = M k) ∧ ∀ d, d < 4 → N 17 d = -nI 1 := by
  have l := z_loopE (fun f i N => L_X9_book_46 f N i) (fun i N => (∀ k, k ≠ 17 → N k = M k) ∧ ∀ p, p < i → N 17 p = -nI 1) (fun N => L_X9_book_66 FU N (nI 0)) 4 ?_ ?_ 4 0 FU M ⟨fun _ _ => rfl, fun p hp => absurd hp (by omega)⟩ (by omega) (by unfold FU; omega)
  · obtain ⟨N, l1, l2, l3⟩ := l
    exact ⟨N, l1, l2, l3⟩
  · rintro f N _
    simp (discharger := omega) only [L_X9_book_46, z_lit, z_nI_le, z_nI_lt, z_nI_inj, z_inb, z_nI_tn, z_nI_add, z_nI_mul, z_bitN, z_zb, z_0add, z_add0, z_0or, z_or0, Option.bind_some, decide_eq_true_eq, Nat.zero_add, Nat.add_zero, Nat.le_refl, ↓reduceIte]
  · rintro f i N hi ⟨h1, h2⟩
    have c : ¬ 4 ≤ i := by omega
    refine ⟨u2 N 17 i (-nI 1), ?_, fun k a => (z_u2k _ _ _ _ a).trans (h1 k a), fun p hp => ?_⟩
    · simp (discharger := omega) only [L_X9_book_46, c, hi, z_lit, z_nI_le, z_nI_lt, z_nI_inj, z_inb, z_nI_tn, z_nI_add, z_nI_mul, z_bitN, z_zb, z_0add, z_add0, z_0or, z_or0, Option.bind_some, decide_eq_true_eq, Nat.zero_add, Nat.add_zero, ↓reduceIte]
    · by_cases d : p = i
      · rw [d, z_u2s]
      · rw [z_u2j _ _ _ _ d]; exact h2 p (by omega)
theorem z_book {n : Nat} {X M : TX} (h : zV n X M) (x : Int32) : zCs none (some (nI 1)) (f_X8_book X x) (f_X9_book M x) := by
  have g := h.q (zQX.refl X) (zQM_0 M (nI 0))
  have g0 : u2 M 0 0 (nI 0) 0 0 = nI 0 := z_u2s _ _ _ _
  have n1 : ¬ nI 1 = nI 0 := by decide
  obtain ⟨A, hA⟩ : ∃ A, A = u2 M 0 0 (nI 0) := ⟨_, rfl⟩
  rw [← hA] at g g0
  have l1 := z9_lets1 g0 (nI 1) (nI 1)
  have l0 := z9_lets0 g0 (c := 1) (j := 1) (by omega) (by omega)
  obtain ⟨t, t6, tx, tm, tt⟩ := g.tp
  have cut : ∀ (N : TX) (r : Option (TX × Int32)), (if (N, nI 0).2 = nI 0 then some ((N, nI 0).1, nI 0) else r) = some (N, nI 0) := fun N r => if_pos rfl
  obtain ⟨B, hB⟩ : ∃ B : Int32 → Option (TX × Int32), B = fun v => (f_X9_lets A v (nI 1) (nI 1)).bind fun q2 => if q2.2 = nI 0 then (some (q2.1, nI 0)) else ((f_X9_begins q2.1 x).bind fun q4 => L_X9_book_46 FU q4 (nI 0)) := ⟨_, rfl⟩
  have eM : f_X9_book M x = if x < nI 0 then B (nI 0) else (if (A 0 2) < x then B (nI 0) else (if nI 60 < x then B (nI 0) else B (nI 1))) := by rw [hA, hB, hA]; rfl
  have eB0 : B (nI 0) = some (u2 (u2 A 0 0 (nI 1)) 1 1 (A 1 1 + nI 1), nI 0) := by rw [hB]; show ((f_X9_lets A (nI 0) (nI 1) (nI 1)).bind fun q2 => _) = _; rw [l0, Option.bind_some, cut]
  have eX : f_X8_book X x = (f_X8_needText X x (nI 60)).bind fun q1 => xb q1 (fun _ _ => (f_X7_open q1.1 x).bind fun q2 => (L_X1_read_7 FU (u2 q2 29 1 (nI 0)) (nI 0)).bind fun q3 => if q3.2 = nI 0 then (some (q3.1, .inl ((q3.1 1 6) - nI 10))) else ((f_X1_copyFrom q3.1).bind fun q5 => (f_X1_lines q5).bind fun q6 => some (q5, .inl q6))) := rfl
  rw [eM, eX, eB0]
  rcases z8_needText tx t6 (b := 60) (by omega) x with ⟨k1, c | ⟨c, c1 | ⟨c1, c2⟩⟩⟩ | ⟨s, s1, s2, rfl, k1⟩
  · rw [k1, Option.bind_some, zxb_r, if_pos c]
    exact zCs_il (.inl rfl) g rfl rfl
  · rw [k1, Option.bind_some, zxb_r, if_neg c, tm, if_pos c1]
    exact zCs_il (.inl rfl) g rfl rfl
  · rw [k1, Option.bind_some, zxb_r, if_neg c, tm, if_neg c1, if_pos c2]
    exact zCs_il (.inl rfl) g rfl rfl
  · have ca : ¬ nI s < nI 0 := z_nI_nn (by omega)
    have cb : ¬ nI t < nI s := by rw [z_nI_lt (by omega) (by omega)]; omega
    have cc : ¬ nI 60 < nI s := by rw [z_nI_lt (by omega) (by omega)]; omega
    have cut1 : ∀ (N : TX) (r r' : Option (TX × Int32)), (if (N, nI 1).2 = nI 0 then r else r') = r' := fun N r r' => if_neg n1
    rw [k1, Option.bind_some, zxb_l, if_neg ca, tm, if_neg cb, if_neg cc, hB]
    obtain ⟨T, Y, N, o1, o2, o3, o4, o5, o6, o7, o8, o9, o10, o11, o12, o13⟩ := z_open t6 s1 tt
    obtain ⟨P, p1, p2, p3⟩ := z9_book46 N
    show zCs none (some (nI 1)) ((f_X7_open X (nI s)).bind fun q2 => (L_X1_read_7 FU (u2 q2 29 1 (nI 0)) (nI 0)).bind fun q3 => if q3.2 = nI 0 then (some (q3.1, .inl ((q3.1 1 6) - nI 10))) else ((f_X1_copyFrom q3.1).bind fun q5 => (f_X1_lines q5).bind fun q6 => some (q5, .inl q6))) ((f_X9_lets A (nI 1) (nI 1) (nI 1)).bind fun q2 => if q2.2 = nI 0 then (some (q2.1, nI 0)) else ((f_X9_begins q2.1 (nI s)).bind fun q4 => L_X9_book_46 FU q4 (nI 0)))
    rw [l1, Option.bind_some, cut1, o1, o2, Option.bind_some, Option.bind_some, p1]
    obtain ⟨Z, hZ⟩ : ∃ Z, Z = u2 Y 29 1 (nI 0) := ⟨_, rfl⟩
    have zk : ∀ k, k ≠ 29 → Z k = Y k := fun k a => by rw [hZ, z_u2k _ _ _ _ a]
    have h0 : zBi s T 0 0 Z P := by
      refine zBi.mk (o3.fr (zk 2 (by decide)) (by rw [zk 1 (by decide)]) (by rw [zk 1 (by decide)]; exact o3.xp) o3.ps) (o4.fr (p2 2 (by decide)) (by rw [p2 0 (by decide)]) (by rw [p2 0 (by decide)]; exact o4.mp) o4.ps) (by rw [p2 0 (by decide)]; exact o5) (by rw [zk 1 (by decide)]; exact o8) ⟨fun d hd => .inr ⟨by rw [hZ, z_u2s]; exact bt_nI0 d, p3 d hd⟩, fun q hq => ?_, ?_⟩
      · rw [hZ, z_u2s, bt_nI0] at hq; exact absurd hq (by decide)
      · rw [hZ, z_u2s]; simp [zCnt, bt_nI0]
    rw [← hZ]
    rcases z_bookL 4 0 0 FU FU Z P (by omega) (by unfold FU; omega) (by unfold FU; omega) h0 with ⟨k, V, Q, e1, e2, e3, e4, e5, e6, e7⟩ | ⟨V, Q, kd, pl, x2, e1, e2, b1, b2, b3, b4, b5, b6, b7, b8⟩
    · obtain ⟨C, c1, c2, c3, c4⟩ := z8_copy (a := 30) (b := 28) (by decide) (X := V) (f := 0) (t := 0) (m := 4) (by decide) (by decide) (by decide) (by decide) (by decide)
      obtain ⟨D, d1, d2, d3, d4, d5, d6⟩ := zBfin_ok e3 (nI k)
      obtain ⟨S, hS⟩ : ∃ S, S = u2 C 27 1 (C 29 1) := ⟨_, rfl⟩
      have C29 : C 29 = V 29 := c2 29 (by decide)
      have s27 : S 27 1 = V 29 1 := by rw [hS, z_u2s, C29]
      have sk : ∀ k, k ≠ 27 → k ≠ 28 → S k = V k := fun k a b => by rw [hS, z_u2k _ _ _ _ a, c2 k b]
      have s28 : ∀ d, d < 4 → S 28 d = V 30 d := fun d hd => by
        have := c3 d hd
        rw [Nat.zero_add] at this
        rw [hS, z_u2k _ _ _ _ (by decide), this]
      have lines : f_X1_lines S = some (nI k) := by
        unfold f_X1_lines
        rw [s27, z_bc (fun q hq => by have := e5.2.1 q hq; omega), e5.2.2, Option.bind_some]
      have copy : f_X1_copyFrom V = some S := by
        show ((f_X8_copy 30 28 V (nI 0) (nI 0) (nI 4)).bind fun q1 => some (u2 q1 27 1 (q1 29 1))) = _
        rw [c1, Option.bind_some, ← hS]
      rw [e1, Option.bind_some]
      show zCs none (some (nI 1)) (if nI 1 = nI 0 then _ else ((f_X1_copyFrom V).bind fun q5 => (f_X1_lines q5).bind fun q6 => some (q5, .inl q6))) _
      rw [if_neg n1, copy, Option.bind_some, lines, Option.bind_some, e2]
      refine .inl ⟨n, S, D, nI k, rfl, d1, ?_, g.setB (fun k hk k1 k2 => ?_) (fun k hk k1 => ?_) (fun j hj j1 => ?_) ?_ ⟨0, by omega, ?_, ?_, fun j hj => absurd hj (by omega)⟩ ⟨fun d hd => ?_, ?_, ?_⟩⟩
      · rw [d3 0 (by decide) (by decide), e7.2 0 (by decide) (by decide) (by decide), p2 0 (by decide), o10 0 (by decide) (by decide) (by decide) (by decide) (by decide) (by decide)]; exact g0
      · unfold zXk at hk
        rw [sk k k1 k2, e6.1 k (by omega) (by omega) (by omega), zk k (by omega), o6 k (by omega)]
      · unfold zMk at hk
        rw [d2 k (by omega) k1, e7.1 k (by omega) (by omega), p2 k (by omega), o9 k (by omega)]
      · unfold zM0k at hj
        rw [d3 j (by omega) j1, e7.2 j (by omega) (by omega) (by omega), p2 0 (by omega), o10 j (by omega) (by omega) (by omega) (by omega) (by omega) (by omega)]
      · rw [sk 1 (by decide) (by decide), e4, d4]
      · rw [sk 1 (by decide) (by decide), e6.2, zk 1 (by decide)]; exact o7
      · rw [d3 2 (by decide) (by decide), e7.2 2 (by decide) (by decide) (by decide), p2 0 (by decide)]; exact o11
      · rw [s27, s28 d hd, d6 d hd]; exact e5.1 d hd
      · rw [s27]; exact e5.2.1
      · rw [s27, d5, e5.2.2]
    · rw [e1, Option.bind_some]
      show zCs none (some (nI 1)) (if nI 0 = nI 0 then some (V, .inl (V 1 6 - nI 10)) else _) _
      rw [if_pos rfl, e2]
      refine .inl ⟨n, V, u2 Q 0 8 (nI pl), nI kd - nI 10, by rw [b3], zBfin_bad b5 b6 (by omega) _, ?_, g.fr (fun k hk => ?_) (fun k hk => ?_) (fun j hj => ?_) ?_ ⟨0, by omega, ?_, ?_, fun j hj => absurd hj (by omega)⟩⟩
      · rw [z_u2j _ _ _ _ (by decide), b8.2 0 (by decide) (by decide) (by decide), p2 0 (by decide), o10 0 (by decide) (by decide) (by decide) (by decide) (by decide) (by decide)]; exact g0
      · unfold zXk at hk
        rw [b7.1 k (by omega) (by omega) (by omega), zk k (by omega), o6 k (by omega)]
      · unfold zMk at hk
        rw [z_u2k _ _ _ _ (by omega), b8.1 k (by omega) (by omega), p2 k (by omega), o9 k (by omega)]
      · unfold zM0k at hj
        rw [z_u2j _ _ _ _ (by omega), b8.2 j (by omega) (by omega) (by omega), p2 0 (by omega), o10 j (by omega) (by omega) (by omega) (by omega) (by omega) (by omega)]
      · rw [b4, z_u2s]
      · rw [b7.2, zk 1 (by decide)]; exact o7
      · rw [z_u2j _ _ _ _ (by decide), b8.2 2 (by decide) (by decide) (by decide), p2 0 (by decide)]; exact o11
