set_option linter.unusedVariables false
/-- the reference's stores while fits and look are asked -/
def zLw (n : Nat) (M Y : TX) (s : Nat → Int32) : Prop := zQM M Y ∧ Y 0 0 = nI 0 ∧ Y 20 = s
theorem z9_lays31 {n : Nat} {Y : TX} (hn : Y 0 19 = nI n) (h10 : n ≤ 10) {i : Nat} (hi : i < 40) (k : TX → Int32 → Option TX) :
    ∃ Z, L_X9_laysWon_31 k FU Y (nI i) (nI 0) = k Z (nI (i + 1)) ∧ (∀ j, j ≠ 23 → Z j = Y j) ∧ (∀ d, d < 4 → Z 23 (4 * i + d) = zWd n (Y 20) d) ∧ (∀ j, j < 4 * i → Z 23 j = Y 23 j) := by
  have h := z_loopE (fun f d Z => L_X9_laysWon_31 k f Z (nI i) d) (fun d Z => (∀ j, j ≠ 23 → Z j = Y j) ∧ (∀ e, e < d → Z 23 (4 * i + e) = zWd n (Y 20) e) ∧ (∀ j, j < 4 * i → Z 23 j = Y 23 j)) (fun Z => k Z (nI (i + 1))) 4 ?_ ?_ 4 0 FU Y ⟨fun _ _ => rfl, fun d hd => absurd hd (by omega), fun _ _ => rfl⟩ (by omega) (by unfold FU; omega)
  · exact h
  · intro f Z _
    simp (discharger := omega) only [L_X9_laysWon_31, z_lit, z_nI_le, z_nI_lt, z_nI_inj, z_inb, z_nI_tn, z_nI_add, z_nI_mul, z_bitN, z_zb, z_0add, z_add0, z_0or, z_or0, Option.bind_some, decide_eq_true_eq, Nat.zero_add, Nat.add_zero, Nat.le_refl, ↓reduceIte]
  · intro f d Z hd ⟨z1, z2, z3⟩
    have h1 : ¬ 4 ≤ d := by omega
    have hnZ : Z 0 19 = nI n := by rw [z1 0 (by decide)]; exact hn
    have hw := z9_win hnZ h10 d
    rw [z1 20 (by decide)] at hw
    have i160 : 4 * i + d < 160 := by omega
    refine ⟨u2 Z 23 (4 * i + d) (zWd n (Y 20) d), ?_, fun j hj => (z_u2k _ _ _ _ hj).trans (z1 j hj), fun e he => ?_, fun j hj => by rw [z_u2j _ _ _ _ (by omega)]; exact z3 j hj⟩
    · unfold zWd
      by_cases c : zWin (zLc n (Y 20) d) = -nI 1
      · simp (discharger := omega) only [L_X9_laysWon_31, h1, hw, c, i160, z_lit, z_nI_le, z_nI_lt, z_nI_inj, z_inb, z_nI_tn, z_nI_add, z_nI_mul, z_bitN, z_zb, z_0add, z_add0, z_0or, z_or0, Option.bind_some, decide_eq_true_eq, Nat.zero_add, Nat.add_zero, ↓reduceIte]
      · simp (discharger := omega) only [L_X9_laysWon_31, h1, hw, c, i160, z_lit, z_nI_le, z_nI_lt, z_nI_inj, z_inb, z_nI_tn, z_nI_add, z_nI_mul, z_bitN, z_zb, z_0add, z_add0, z_0or, z_or0, Option.bind_some, decide_eq_true_eq, Nat.zero_add, Nat.add_zero, ↓reduceIte]
    · by_cases c : e = d
      · subst c; rw [z_u2s]
      · rw [z_u2j _ _ _ _ (by omega)]; exact z2 e (by omega)
theorem z9_lays {n : Nat} {M Y : TX} {s : Nat → Int32} (h10 : n ≤ 10) (hK : M 0 19 = nI n) (hs : ∀ j, j < 34 → s j = M 19 j) (hb : ∀ j, 34 ≤ j → Y 20 j = s j) (hQ : zQM M Y) (h0 : Y 0 0 = nI 0) :
    ∃ Z, f_X9_laysWon Y = some Z ∧ zLw n M Z s ∧ ∀ i d, i < 4 * n → d < 4 → Z 23 (4 * i + d) = zWd n (zRi s i) d := by
  have q19 : ∀ {Z}, zQM M Z → Z 19 = M 19 := fun h => h.1 19 (by decide) (by decide) (by decide) (by decide) (by decide) (by decide) (by decide)
  have h := z_loopE (fun f i Z => L_X9_laysWon_2 f Z i) (fun i Z => zQM M Z ∧ Z 0 0 = nI 0 ∧ (∀ j, 34 ≤ j → Z 20 j = s j) ∧ ∀ e d, e < i → d < 4 → Z 23 (4 * e + d) = zWd n (zRi s e) d) (fun Z => (f_X9_take Z).bind fun q2 => some q2) (4 * n) ?_ ?_ (4 * n) 0 FU Y ⟨hQ, h0, hb, fun e d he => absurd he (by omega)⟩ (by omega) (by unfold FU; omega)
  · obtain ⟨Z, e1, e2, e3, e4, e5⟩ := h
    obtain ⟨P, p1, p2, p3⟩ := z_takeS (q19 e2) hs e4
    refine ⟨P, ?_, ⟨e2.trans (zQM_20 p3), by rw [p3 0 (by decide)]; exact e3, p2⟩, fun i d hi hd => by rw [p3 23 (by decide)]; exact e5 i d hi hd⟩
    refine e1.trans ?_
    show (f_X9_take Z).bind _ = _
    rw [p1]; rfl
  · intro f Z ⟨z1, z2, z3, z4⟩
    have hnZ : Z 0 19 = nI n := (z1.2 19 (by decide) (by decide)).trans hK
    simp (discharger := omega) only [L_X9_laysWon_2, hnZ, z_lit, z_nI_le, z_nI_lt, z_nI_inj, z_inb, z_nI_tn, z_nI_add, z_nI_mul, z_bitN, z_zb, z_0add, z_add0, z_0or, z_or0, Option.bind_some, decide_eq_true_eq, Nat.zero_add, Nat.add_zero, Nat.le_refl, ↓reduceIte]
  · intro f i Z hi ⟨z1, z2, z3, z4⟩
    have hnZ : Z 0 19 = nI n := (z1.2 19 (by decide) (by decide)).trans hK
    obtain ⟨P, p1, p2, p3⟩ := z_takeS (q19 z1) hs z3
    have hnP : P 0 19 = nI n := by rw [p3 0 (by decide)]; exact hnZ
    have h1 : ¬ 4 * n ≤ i := by omega
    have hl : i / 4 < 34 := by omega
    have hi2 : i < 40 := by omega
    have e4 : nI i / nI 4 = nI (i / 4) := z_quo (by omega) (by omega) (by omega)
    have er' : nI i - nI (i / 4 * 4) = nI (i % 4) := by rw [← z_nI_mul, ← e4]; exact z_rem (by omega) (by omega) (by omega)
    have hR : u2 P 20 (i / 4) (nI (i % 4)) 20 = zRi s i := by rw [z_u2r, p2]; rfl
    obtain ⟨W, w1, w2, w3, w4⟩ := z9_lays31 (Y := u2 P 20 (i / 4) (nI (i % 4))) (n := n) (by rw [z_u2k _ _ _ _ (by decide)]; exact hnP) h10 hi2 (L_X9_laysWon_2 f)
    rw [hR] at w3
    refine ⟨W, ?_, ?_, ?_, ?_, ?_⟩
    · simp (discharger := omega) only [L_X9_laysWon_2, hnZ, h1, p1, hl, e4, er', z_lit, z_nI_le, z_nI_lt, z_nI_inj, z_inb, z_nI_tn, z_nI_add, z_nI_mul, z_bitN, z_zb, z_0add, z_add0, z_0or, z_or0, Option.bind_some, decide_eq_true_eq, Nat.zero_add, Nat.add_zero, ↓reduceIte]
      exact w1
    · exact (z1.trans (zQM_20 p3)).trans ⟨fun k _ _ _ c _ d _ => (w2 k d).trans (z_u2k _ _ _ _ c), fun j _ _ => by rw [w2 0 (by decide), z_u2k _ _ _ _ (by decide)]⟩
    · rw [w2 0 (by decide), z_u2k _ _ _ _ (by decide), p3 0 (by decide)]; exact z2
    · intro j hj
      rw [w2 20 (by decide), hR]
      unfold zRi
      rw [z_updJ _ _ (by omega)]
    · intro e d he hd
      by_cases c : e = i
      · subst c; exact w3 d hd
      · rw [w4 _ (by omega), z_u2k _ _ _ _ (by decide), p3 23 (by decide)]
        exact z4 e d (by omega) hd
theorem z9_isFit {n : Nat} {M Z : TX} {s : Nat → Int32} (h10 : n ≤ 10) (hK : M 0 19 = nI n) (hZ : zLw n M Z s) (hW : ∀ i d, i < 4 * n → d < 4 → Z 23 (4 * i + d) = zWd n (zRi s i) d) {i : Nat} (hi : i < 4 * n) :
    f_X9_isFit Z (nI i) = some (zbI (zQ M (M 18) n s (fun _ => true) i)) := by
  obtain ⟨hQ, _, h20⟩ := hZ
  have hnZ : Z 0 19 = nI n := (hQ.2 19 (by decide) (by decide)).trans hK
  have h18 : Z 18 = M 18 := hQ.1 18 (by decide) (by decide) (by decide) (by decide) (by decide) (by decide) (by decide)
  have h7 : Z 7 = M 7 := hQ.1 7 (by decide) (by decide) (by decide) (by decide) (by decide) (by decide) (by decide)
  have hi2 : i < 40 := by omega
  have e4 : nI i / (4 : Int32) = nI (i / 4) := z_quo (i := i) (k := 4) (by omega) (by omega) (by omega)
  have er : nI i - nI i / (4 : Int32) * (4 : Int32) = nI (i % 4) := z_rem (i := i) (k := 4) (by omega) (by omega) (by omega)
  have hm := z9_mayCome hnZ h10 (show i / 4 < n by omega) (nI (i % 4))
  rw [h7, h20] at hm
  have hm' : f_X9_mayCome Z (nI (i / 4)) (nI (i % 4)) = some (zbI (zPi M n s i)) := hm
  have t10 : ¬ ((1 : Nat) = 0) := by decide
  have step : ∀ f d b, d < 4 → L_X9_isFit_13 (f + 1) Z (nI i) (zbI b) (nI d) = L_X9_isFit_13 f Z (nI i) (zbI (b && zOk (M 18) n (zRi s i) d)) (nI (d + 1)) := fun f d b hd => by
    have h1 : ¬ 4 ≤ d := by omega
    have hw := hW i d hi hd
    have i160 : 4 * i + d < 160 := by omega
    cases b with
    | false =>
      simp (discharger := omega) only [L_X9_isFit_13, h1, Bool.false_and, zbI, z_lit, z_nI_le, z_nI_lt, z_nI_inj, z_inb, z_nI_tn, z_nI_add, z_nI_mul, z_bitN, z_zb, z_0add, z_add0, z_0or, z_or0, Option.bind_some, decide_eq_true_eq, Nat.zero_add, Nat.add_zero, ↓reduceIte, Bool.false_eq_true]
    | true =>
      unfold zOk
      by_cases c1 : M 18 d = -nI 1
      · simp (discharger := omega) only [L_X9_isFit_13, h1, hd, h18, c1, zbI, t10, Bool.true_and, decide_true, Bool.true_or, z_lit, z_nI_le, z_nI_lt, z_nI_inj, z_inb, z_nI_tn, z_nI_add, z_nI_mul, z_bitN, z_zb, z_0add, z_add0, z_0or, z_or0, Option.bind_some, decide_eq_true_eq, Nat.zero_add, Nat.add_zero, ↓reduceIte]
      · by_cases c2 : zWd n (zRi s i) d = M 18 d
        · simp (discharger := omega) only [L_X9_isFit_13, h1, hd, h18, c1, c2, hw, i160, zbI, t10, Bool.true_and, decide_true, decide_false, Bool.or_true, z_lit, z_nI_le, z_nI_lt, z_nI_inj, z_inb, z_nI_tn, z_nI_add, z_nI_mul, z_bitN, z_zb, z_0add, z_add0, z_0or, z_or0, Option.bind_some, decide_eq_true_eq, Nat.zero_add, Nat.add_zero, ↓reduceIte]
        · simp (discharger := omega) only [L_X9_isFit_13, h1, hd, h18, c1, c2, hw, i160, zbI, t10, Bool.true_and, decide_true, decide_false, Bool.or_false, Bool.false_eq_true, z_lit, z_nI_le, z_nI_lt, z_nI_inj, z_inb, z_nI_tn, z_nI_add, z_nI_mul, z_bitN, z_zb, z_0add, z_add0, z_0or, z_or0, Option.bind_some, decide_eq_true_eq, Nat.zero_add, Nat.add_zero, ↓reduceIte]
  have last : ∀ f b, L_X9_isFit_13 (f + 1) Z (nI i) (zbI b) (nI 4) = some (zbI b) := fun f b => by
    have ha := z_and1 b
    simp (discharger := omega) only [L_X9_isFit_13, ha, z_lit, z_nI_le, z_nI_lt, z_nI_inj, z_inb, z_nI_tn, z_nI_add, z_nI_mul, z_bitN, z_zb, z_0add, z_add0, z_0or, z_or0, Option.bind_some, decide_eq_true_eq, Nat.zero_add, Nat.add_zero, Nat.le_refl, ↓reduceIte]
  unfold f_X9_isFit
  rw [er, e4, hm', Option.bind_some]
  show L_X9_isFit_13 (1019 + 5) Z (nI i) (zbI (zPi M n s i)) (nI 0) = _
  rw [step _ 0 _ (by omega), step _ 1 _ (by omega), step _ 2 _ (by omega), step _ 3 _ (by omega), last]
  unfold zQ zRight
  congr 2
  cases zPi M n s i <;> cases zOk (M 18) n (zRi s i) 0 <;> cases zOk (M 18) n (zRi s i) 1 <;> cases zOk (M 18) n (zRi s i) 2 <;> cases zOk (M 18) n (zRi s i) 3 <;> rfl
theorem z_fits {n : Nat} {X M : TX} (h : zV n X M) (w : Int32) : zCs none (some (nI 1)) (f_X8_fits X w) (f_X9_fits M w) := by
  have h10 := h.e.n10
  have g := h.q (zQX.refl X) (zQM_0 M (nI 0))
  have g0 : u2 M 0 0 (nI 0) 0 0 = nI 0 := z_u2s _ _ _ _
  have l1 : f_X9_lets (u2 M 0 0 (0 : Int32)) (nI 1) (1 : Int32) (1 : Int32) = some (u2 M 0 0 (nI 0), nI 1) := z9_lets1 g0 (nI 1) (nI 1)
  have l0 : f_X9_lets (u2 M 0 0 (0 : Int32)) (nI 0) (1 : Int32) (1 : Int32) = some (u2 (u2 (u2 M 0 0 (nI 0)) 0 0 (nI 1)) 1 1 (u2 M 0 0 (nI 0) 1 1 + nI 1), nI 0) := z9_lets0 g0 (c := 1) (j := 1) (by omega) (by omega)
  rcases z_half2 w with ⟨e1, e2⟩ | ⟨hw, e1, e2⟩
  · refine zCs_il (c := 1) (by omega) g (v := nI 0) ?_ ?_
    · unfold f_X8_fits; rw [e1, Option.bind_some, z8_need0, Option.bind_some, zxb_r]
    · unfold f_X9_fits; rw [e2, Option.bind_some, l0, Option.bind_some, if_pos z_n00]; rfl
  · obtain ⟨N, t1, t2, t3, tS, tD, tY, t4⟩ := h.take (zQM_0 M (nI 0))
    obtain ⟨s, hs⟩ : ∃ s, s = N 20 := ⟨_, rfl⟩
    rw [← hs] at tD t4
    obtain ⟨Z, z1, zL, z3⟩ := z9_lays (n := n) (M := M) (Y := u2 M 0 0 (nI 0)) (s := s) h10 h.e.kn (fun j hj => t4 j hj) (fun j hj => by rw [hs]; exact z_tail t1 j hj) (zQM_0 M (nI 0)) g0
    obtain ⟨Y, y1, y2, y3, y4⟩ := z1_fitting h.e tD h.bk (x2 := (-1 : Int32)) (x3 := (-1 : Int32)) (G := fun _ => true) (.inl ⟨rfl, fun _ => rfl⟩)
    obtain ⟨Q, hQ⟩ : ∃ Q, Q = zQ M (M 18) n s (fun _ => true) := ⟨_, rfl⟩
    rw [← hQ] at y1 y4
    have hnZ : Z 0 19 = nI n := (zL.1.2 19 (by decide) (by decide)).trans h.e.kn
    have rf : L_X9_fits_33 FU Z w (0 : Int32) (-1 : Int32) (0 : Int32) = if w = nI 0 then some (Z, nI (zFi Q (4 * n)).1) else some (Z, (zFi Q (4 * n)).2) := by
      have l := z_loopE (fun f i (b : Int32 × Int32) => L_X9_fits_33 f Z w b.1 b.2 i) (fun i b => b.1 = nI (zFi Q i).1 ∧ b.2 = (zFi Q i).2) (fun b => if w = nI 0 then some (Z, b.1) else some (Z, b.2)) (4 * n) ?_ ?_ (4 * n) 0 FU (0, -1) ⟨rfl, rfl⟩ (by omega) (by unfold FU; omega)
      · obtain ⟨b, k1, k2, k3⟩ := l
        rw [k2, k3] at k1
        exact k1
      · rintro f ⟨a, b⟩ _
        simp (discharger := omega) only [L_X9_fits_33, hnZ, z_lit, z_nI_le, z_nI_lt, z_nI_inj, z_inb, z_nI_tn, z_nI_add, z_nI_mul, z_bitN, z_zb, z_0add, z_add0, z_0or, z_or0, Option.bind_some, decide_eq_true_eq, Nat.zero_add, Nat.add_zero, Nat.le_refl, ↓reduceIte]
        rfl
      · rintro f i ⟨a, b⟩ hi ⟨k1, k2⟩
        simp only at k1 k2
        have h1 : ¬ 4 * n ≤ i := by omega
        have hf := z9_isFit h10 h.e.kn zL z3 hi
        rw [← hQ] at hf
        have hbd := zFi_p Q i (by omega)
        have e4 : nI i / nI 4 = nI (i / 4) := z_quo (by omega) (by omega) (by omega)
        have er' : nI i - nI (i / 4 * 4) = nI (i % 4) := by rw [← z_nI_mul, ← e4]; exact z_rem (by omega) (by omega) (by omega)
        have t10 : ¬ ((1 : Nat) = 0) := by decide
        rw [zFi_succ]
        subst k1 k2
        unfold zFiS
        by_cases c : Q i = true
        · rw [c] at hf
          rw [if_pos c]
          rcases hbd.2 with ⟨d1, d2⟩ | ⟨d1, d2⟩
          · refine ⟨(nI ((zFi Q i).1 + 1), nI (10 * (i / 4) + i % 4)), ?_, rfl, ?_⟩
            · simp (discharger := omega) only [L_X9_fits_33, hnZ, h1, hf, d2, e4, er', zbI, t10, z_lit, z_nI_le, z_nI_lt, z_nI_inj, z_inb, z_nI_tn, z_nI_add, z_nI_mul, z_bitN, z_zb, z_0add, z_add0, z_0or, z_or0, Option.bind_some, decide_eq_true_eq, Nat.zero_add, Nat.add_zero, ↓reduceIte]
            · show nI (10 * (i / 4) + i % 4) = if (zFi Q i).1 = 0 then _ else _
              rw [if_pos d1]
          · refine ⟨(nI ((zFi Q i).1 + 1), (zFi Q i).2), ?_, rfl, ?_⟩
            · simp (discharger := omega) only [L_X9_fits_33, hnZ, h1, hf, d2, zbI, t10, z_lit, z_nI_le, z_nI_lt, z_nI_inj, z_inb, z_nI_tn, z_nI_add, z_nI_mul, z_bitN, z_zb, z_0add, z_add0, z_0or, z_or0, Option.bind_some, decide_eq_true_eq, Nat.zero_add, Nat.add_zero, ↓reduceIte]
            · show (zFi Q i).2 = if (zFi Q i).1 = 0 then _ else _
              rw [if_neg (by omega)]
        · rw [Bool.eq_false_iff.2 c] at hf
          rw [if_neg c]
          refine ⟨(nI (zFi Q i).1, (zFi Q i).2), ?_, rfl, rfl⟩
          simp (discharger := omega) only [L_X9_fits_33, hnZ, h1, hf, zbI, z_lit, z_nI_le, z_nI_lt, z_nI_inj, z_inb, z_nI_tn, z_nI_add, z_nI_mul, z_bitN, z_zb, z_0add, z_add0, z_0or, z_or0, Option.bind_some, decide_eq_true_eq, Nat.zero_add, Nat.add_zero, ↓reduceIte, Bool.false_eq_true]
    refine zCs_oy h ?_ ?_ zL.2.1 y2.y (y3.congr h10 fun j hj => (t4 j hj).symm) zL.1 (v := if w = nI 0 then nI (zFi Q (4 * n)).1 else (zFi Q (4 * n)).2)
    · unfold f_X8_fits
      rw [e1, Option.bind_some, z8_need1, Option.bind_some, zxb_l]
      show (f_X1_fitting X (-1 : Int32) (-1 : Int32)).bind _ = _
      rw [y1, Option.bind_some, ← y4]
      show (if w = nI 0 then _ else _) = _
      split <;> rfl
    · unfold f_X9_fits
      rw [e2, Option.bind_some, l1, Option.bind_some, if_neg z_n10, z1, Option.bind_some, rf]
      split <;> rfl
