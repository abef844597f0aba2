set_option linter.unusedVariables false
theorem z_takeS {M Y : TX} {s : Nat → Int32} (h19 : Y 19 = M 19) (hs : ∀ j, j < 34 → s j = M 19 j) (hb : ∀ j, 34 ≤ j → Y 20 j = s j) : ∃ P, f_X9_take Y = some P ∧ P 20 = s ∧ ∀ k, k ≠ 20 → P k = Y k := by
  obtain ⟨P, q1, q2, q3⟩ := z9_copies (a := 19) (b := 20) (by decide) (M := Y) (m := 34) (by decide) (by decide) (by omega)
  have q1' : f_X9_copies 19 20 Y (34 : Int32) = some P := q1
  refine ⟨P, by unfold f_X9_take; rw [q1']; rfl, ?_, q2⟩
  funext j
  rw [q3]
  show (if j < 34 then Y 19 j else Y 20 j) = s j
  by_cases hj : j < 34
  · rw [if_pos hj, h19, hs j hj]
  · rw [if_neg hj, hb j (by omega)]
theorem z_tail {Y P : TX} (h : f_X9_take Y = some P) : ∀ j, 34 ≤ j → Y 20 j = P 20 j := fun j hj => by
  obtain ⟨Q, q1, q2, q3⟩ := z9_copies (a := 19) (b := 20) (by decide) (M := Y) (m := 34) (by decide) (by decide) (by omega)
  have p1 : f_X9_take Y = some Q := by
    unfold f_X9_take
    have q1' : f_X9_copies 19 20 Y (34 : Int32) = some Q := q1
    rw [q1']; rfl
  rw [h] at p1; cases p1
  rw [q3]
  show _ = if j < 34 then _ else _
  rw [if_neg (by omega)]
/-- who wins a ward, 2: none -/
def zWd (n : Nat) (s : Nat → Int32) (d : Nat) : Int32 := if zWin (zLc n s d) = -nI 1 then nI 2 else zWin (zLc n s d)
theorem zWin_3 (x : Int32) : zWin x = -nI 1 ∨ zWin x = nI 0 ∨ zWin x = nI 1 := by
  unfold zWin
  split
  · exact .inl rfl
  · split
    · exact .inr (.inr rfl)
    · exact .inr (.inl rfl)
/-- a line of the book holds in the row s -/
def zOk (B : Nat → Int32) (n : Nat) (s : Nat → Int32) (d : Nat) : Bool := decide (B d = -nI 1) || decide (zWd n s d = B d)
def zRight (B : Nat → Int32) (n : Nat) (s : Nat → Int32) : Bool := zOk B n s 0 && zOk B n s 1 && zOk B n s 2 && zOk B n s 3
theorem z1_hasLine {X : TX} {d : Nat} (hd : d < 32) : f_X1_hasLine_o27 X (nI d) = some (zbI (bt (X 27 1) d)) := by
  have a11 : (nI 1 &&& 1) = nI 1 := by decide
  have a00 : (nI 0 &&& 1) = nI 0 := by decide
  have e0 : (if (false : Bool) = true then nI 1 else nI 0) = nI 0 := rfl
  have e1 : (if (true : Bool) = true then nI 1 else nI 0) = nI 1 := rfl
  unfold f_X1_hasLine_o27 zbI
  rw [z_has _ hd, Option.bind_some]
  cases bt (X 27 1) d
  · rw [e0, if_pos a00]
  · rw [e1, if_pos a11]
theorem z1_ok {n : Nat} {X M : TX} {s : Nat → Int32} (hD : zD n s X) (hB : zBk X M) {d : Nat} (hd : d < 4) :
    (bt (X 27 1) d = false ∧ zOk (M 18) n s d = true) ∨ (bt (X 27 1) d = true ∧ f_X8_at 28 X (nI d) = some (X 28 d) ∧ (zWin (zLc n s d) = X 28 d ↔ zOk (M 18) n s d = true)) := by
  rcases hB.1 d hd with ⟨h1, w, h2, h3, h4⟩ | ⟨h1, h2⟩
  · right
    refine ⟨h1, z_at (show d < lenX 28 from hd) (by decide), ?_⟩
    unfold zOk zWd
    rw [h3, h4]
    have hw : w = 0 ∨ w = 1 ∨ w = 2 := by omega
    rcases zWin_3 (zLc n s d) with e | e | e <;> rw [e] <;> rcases hw with rfl | rfl | rfl <;> decide
  · left
    refine ⟨h1, ?_⟩
    unfold zOk
    rw [h2]; simp
theorem z1_isRight {n : Nat} {X M : TX} {s : Nat → Int32} (hD : zD n s X) (hB : zBk X M) : f_X1_isRight X = some (zbI (zRight (M 18) n s)) := by
  have step : ∀ f d, d < 4 → L_X1_isRight_2 (f + 1) X (nI d) = if zOk (M 18) n s d = true then L_X1_isRight_2 f X (nI (d + 1)) else some (nI 0) := fun f d hd => by
    have h1 : ¬ 4 ≤ d := by omega
    have hl := z1_hasLine (X := X) (d := d) (by omega)
    have hw := z3_win hD hd
    have t10 : ¬ ((1 : Nat) = 0) := by decide
    rcases z1_ok hD hB hd with ⟨b1, b2⟩ | ⟨b1, b2, b3⟩
    · rw [if_pos b2]
      simp (discharger := omega) only [L_X1_isRight_2, h1, hl, b1, zbI, z_lit, z_nI_le, z_nI_lt, z_nI_inj, z_inb, z_nI_tn, z_nI_add, z_nI_mul, z_bitN, z_zb, z_0add, z_add0, z_0or, z_or0, Option.bind_some, decide_eq_true_eq, Nat.zero_add, Nat.add_zero, ↓reduceIte, Bool.false_eq_true]
    · by_cases c : zOk (M 18) n s d = true
      · rw [if_pos c]
        have c' := b3.2 c
        simp (discharger := omega) only [L_X1_isRight_2, h1, hl, b1, b2, hw, c', zbI, t10, z_lit, z_nI_le, z_nI_lt, z_nI_inj, z_inb, z_nI_tn, z_nI_add, z_nI_mul, z_bitN, z_zb, z_0add, z_add0, z_0or, z_or0, Option.bind_some, decide_eq_true_eq, Nat.zero_add, Nat.add_zero, ↓reduceIte]
      · rw [if_neg c]
        have c' : ¬ zWin (zLc n s d) = X 28 d := fun e => c (b3.1 e)
        simp (discharger := omega) only [L_X1_isRight_2, h1, hl, b1, b2, hw, c', zbI, t10, z_lit, z_nI_le, z_nI_lt, z_nI_inj, z_inb, z_nI_tn, z_nI_add, z_nI_mul, z_bitN, z_zb, z_0add, z_add0, z_0or, z_or0, Option.bind_some, decide_eq_true_eq, Nat.zero_add, Nat.add_zero, ↓reduceIte]
  have last : ∀ f, L_X1_isRight_2 (f + 1) X (nI 4) = some (nI 1) := fun f => by
    simp (discharger := omega) only [L_X1_isRight_2, z_lit, z_nI_le, z_nI_lt, z_nI_inj, z_inb, z_nI_tn, z_nI_add, z_nI_mul, z_bitN, z_zb, z_0add, z_add0, z_0or, z_or0, Option.bind_some, decide_eq_true_eq, Nat.zero_add, Nat.add_zero, Nat.le_refl, ↓reduceIte]
  show L_X1_isRight_2 (1019 + 5) X (nI 0) = _
  rw [step _ 0 (by omega)]
  unfold zRight
  by_cases c0 : zOk (M 18) n s 0 = true
  · rw [if_pos c0, step _ 1 (by omega), c0]
    by_cases c1 : zOk (M 18) n s 1 = true
    · rw [if_pos c1, step _ 2 (by omega), c1]
      by_cases c2 : zOk (M 18) n s 2 = true
      · rw [if_pos c2, step _ 3 (by omega), c2]
        by_cases c3 : zOk (M 18) n s 3 = true
        · rw [if_pos c3, last, c3]; rfl
        · rw [if_neg c3, Bool.eq_false_iff.2 c3]; rfl
      · rw [if_neg c2, Bool.eq_false_iff.2 c2]; rfl
    · rw [if_neg c1, Bool.eq_false_iff.2 c1]; rfl
  · rw [if_neg c0, Bool.eq_false_iff.2 c0]; rfl
/-- how many moves Q lets, and the first of them -/
def zFiS (Q : Nat → Bool) (i : Nat) (b : Nat × Int32) : Nat × Int32 := if Q i = true then (b.1 + 1, if b.1 = 0 then nI (10 * (i / 4) + i % 4) else b.2) else b
def zFi (Q : Nat → Bool) (k : Nat) : Nat × Int32 := zF (zFiS Q) k 0 (0, -nI 1)
theorem zFi_succ (Q : Nat → Bool) (k : Nat) : zFi Q (k + 1) = zFiS Q k (zFi Q k) := by unfold zFi; rw [zF_snoc, Nat.zero_add]
theorem zFi_p (Q : Nat → Bool) : ∀ k, k ≤ 40 → (zFi Q k).1 ≤ k ∧ (((zFi Q k).1 = 0 ∧ (zFi Q k).2 = -nI 1) ∨ (0 < (zFi Q k).1 ∧ ¬ (zFi Q k).2 = -nI 1))
  | 0, _ => ⟨Nat.le_refl _, .inl ⟨rfl, rfl⟩⟩
  | k + 1, hk => by
    have ih := zFi_p Q k (by omega)
    rw [zFi_succ]
    generalize zFi Q k = b at *
    unfold zFiS
    by_cases c : Q k = true
    · rw [if_pos c]
      refine ⟨by have := ih.1; show b.1 + 1 ≤ k + 1; omega, .inr ⟨by show 0 < b.1 + 1; omega, ?_⟩⟩
      show ¬ (if b.1 = 0 then nI (10 * (k / 4) + k % 4) else b.2) = -nI 1
      rcases ih.2 with ⟨h1, h2⟩ | ⟨h1, h2⟩
      · rw [if_pos h1]
        intro e
        have := congrArg Int32.toInt e
        rw [z_nI_toInt (by omega)] at this
        have h3 : (-nI 1 : Int32).toInt = -1 := by decide
        omega
      · rw [if_neg (by omega)]; exact h2
    · rw [if_neg c]; exact ⟨by have := ih.1; omega, ih.2⟩
/-- the moves that the class counts -/
def zQ (K : TX) (B : Nat → Int32) (n : Nat) (s : Nat → Int32) (G : (Nat → Int32) → Bool) (i : Nat) : Bool := zPi K n s i && (zRight B n (zRi s i) && G (zRi s i))
theorem zBk_X {X Y M : TX} (h : zBk X M) (h27 : Y 27 1 = X 27 1) (h28 : Y 28 = X 28) : zBk Y M := by
  unfold zBk at *; rw [h27, h28]; exact h
def zPX (X Y : TX) : Prop := (∀ k, k ≠ 4 → k ≠ 9 → k ≠ 10 → k ≠ 27 → Y k = X k) ∧ Y 27 1 = X 27 1
theorem zPX.y {X Y : TX} (h : zPX X Y) : zQY X Y := ⟨fun k _ b _ d e _ _ g _ _ _ _ => h.1 k b d e g, fun j _ _ _ _ => by rw [h.1 3 (by decide) (by decide) (by decide) (by decide)], h.2⟩
theorem zPX.trans {X Y Z : TX} (h : zPX X Y) (g : zPX Y Z) : zPX X Z := ⟨fun k a b c d => (g.1 k a b c d).trans (h.1 k a b c d), g.2.trans h.2⟩
theorem zPX_pl {X Y : TX} (h : ∀ k, k ≠ 4 → k ≠ 9 → k ≠ 10 → Y k = X k) : zPX X Y := ⟨fun k a b c _ => h k a b c, by rw [h 27 (by decide) (by decide) (by decide)]⟩
theorem zPX_27 (X : TX) (v : Int32) : zPX X (u2 X 27 2 v) := ⟨fun k _ _ _ d => z_u2k _ _ _ _ d, z_u2j _ _ _ _ (by decide)⟩
/-- the class counts the moves that fit; x2 x3: a ward that must be won so, too, or none -/
theorem z1_fitting {n : Nat} {K X M : TX} {s : Nat → Int32} (hE : zE n K X) (hD : zD n s X) (hB : zBk X M) {x2 x3 : Int32} {G : (Nat → Int32) → Bool}
    (hG : (x2 = -nI 1 ∧ ∀ r, G r = true) ∨ (∃ d, d < 4 ∧ x2 = nI d ∧ ∀ r, G r = decide (zWin (zLc n r d) = x3))) :
    ∃ Y, f_X1_fitting X x2 x3 = some (Y, nI (zFi (zQ K (M 18) n s G) (4 * n)).1) ∧ zPX X Y ∧ zD n s Y ∧ Y 27 2 = (zFi (zQ K (M 18) n s G) (4 * n)).2 := by
  have h10 := hE.n10
  obtain ⟨Q, hQ⟩ : ∃ Q, Q = zQ K (M 18) n s G := ⟨_, rfl⟩
  rw [← hQ]
  have hp0 : zPX X (u2 X 27 2 (-1)) := zPX_27 X _
  have hD0 : zD n s (u2 X 27 2 (-1)) := hD.frame (z_u2k _ _ _ _ (by decide)) (z_u2k _ _ _ _ (by decide)) (z_u2k _ _ _ _ (by decide)) (z_u2k _ _ _ _ (by decide)) (z_u2k _ _ _ _ (by decide))
  have loop := z_loopE (fun f i (b : TX × Int32) => L_X1_fitting_11 f b.1 x2 x3 b.2 i) (fun p b => zPX X b.1 ∧ zD n s b.1 ∧ b.1 27 2 = (zFi Q (4 * p)).2 ∧ b.2 = nI (zFi Q (4 * p)).1) (fun b => some (b.1, b.2)) n ?_ ?_ n 0 FU (u2 X 27 2 (-1), 0) ⟨hp0, hD0, (z_u2s X 27 2 (-1)), rfl⟩ (by omega) (by unfold FU; omega)
  · obtain ⟨b, e1, e2, e3, e4, e5⟩ := loop
    refine ⟨b.1, ?_, e2, e3, e4⟩
    rw [← e5]; exact e1
  · rintro f ⟨Y, m⟩ ⟨b1, b2, b3, b4⟩
    simp only at b1 b2 b3 b4
    have hn : Y 3 5 = nI n := (hE.y b1.y).xn
    simp (discharger := omega) only [L_X1_fitting_11, hn, z_lit, z_nI_le, z_nI_lt, z_nI_inj, z_inb, z_nI_tn, z_nI_add, z_nI_mul, z_bitN, z_zb, z_0add, z_add0, z_0or, z_or0, Option.bind_some, decide_eq_true_eq, Nat.zero_add, Nat.add_zero, Nat.le_refl, ↓reduceIte]
  · rintro f p ⟨Y, m⟩ hp ⟨b1, b2, b3, b4⟩
    simp only at b1 b2 b3 b4
    have hEY := hE.y b1.y
    have hn : Y 3 5 = nI n := hEY.xn
    have h1 : ¬ n ≤ p := by omega
    obtain ⟨o, o1, o2⟩ := z3_open hEY b2 hp
    obtain ⟨c, hc, hwp⟩ := hD.xw p hp
    have w1 := z3_wOf b2 (show p < 10 by omega)
    rw [hwp] at w1
    have inner := z_loopE (fun g i (b : TX × Int32) => L_X1_fitting_39 (L_X1_fitting_11 f) g b.1 x2 x3 b.2 (nI p) o (nI c) i) (fun d b => zPX X b.1 ∧ zD n s b.1 ∧ b.1 27 2 = (zFi Q (4 * p + d)).2 ∧ b.2 = nI (zFi Q (4 * p + d)).1) (fun b => L_X1_fitting_11 f b.1 x2 x3 b.2 (nI (p + 1))) 4 ?_ ?_ 4 0 FU (Y, m) ⟨b1, b2, b3, b4⟩ (by omega) (by unfold FU; omega)
    · obtain ⟨b, i1, i2⟩ := inner
      refine ⟨b, ?_, i2⟩
      simp (discharger := omega) only [L_X1_fitting_11, hn, h1, o1, w1, z_lit, z_nI_le, z_nI_lt, z_nI_inj, z_inb, z_nI_tn, z_nI_add, z_nI_mul, z_bitN, z_zb, z_0add, z_add0, z_0or, z_or0, Option.bind_some, decide_eq_true_eq, Nat.zero_add, Nat.add_zero, ↓reduceIte]
      exact i1
    · rintro g ⟨Z, v⟩ _
      simp (discharger := omega) only [L_X1_fitting_39, z_lit, z_nI_le, z_nI_lt, z_nI_inj, z_inb, z_nI_tn, z_nI_add, z_nI_mul, z_bitN, z_zb, z_0add, z_add0, z_0or, z_or0, Option.bind_some, decide_eq_true_eq, Nat.zero_add, Nat.add_zero, Nat.le_refl, ↓reduceIte]
    · rintro g d ⟨Z, v⟩ hd ⟨c1, c2, c3, c4⟩
      simp only at c1 c2 c3 c4
      have hEZ := hE.y c1.y
      have h4 : ¬ 4 ≤ d := by omega
      have q1 : (4 * p + d) / 4 = p := by omega
      have q2 : (4 * p + d) % 4 = d := by omega
      have hst : zFi Q (4 * p + (d + 1)) = zFiS Q (4 * p + d) (zFi Q (4 * p + d)) := by rw [← Nat.add_assoc, zFi_succ]
      have hbd := zFi_p Q (4 * p + d) (by omega)
      have hP : zPi K n s (4 * p + d) = zMay (K 7) s n p (nI d) := by unfold zPi; rw [q1, q2]
      have hR : zRi s (4 * p + d) = upd s p (nI d) := by unfold zRi; rw [q1, q2]
      have hQi : Q (4 * p + d) = (zMay (K 7) s n p (nI d) && (zRight (M 18) n (upd s p (nI d)) && G (upd s p (nI d)))) := by rw [hQ]; unfold zQ; rw [hP, hR]
      have t10 : ¬ ((1 : Nat) = 0) := by decide
      rw [hst]
      generalize zFi Q (4 * p + d) = b at *
      unfold zFiS
      rw [q1, q2]
      by_cases cm : zMay (K 7) s n p (nI d) = true
      · have hb : bt o d = true := (o2 d hd).trans cm
        rw [cm, Bool.true_and] at hQi
        obtain ⟨A, a1, a2, a3⟩ := z3_pl hEZ c2 hp hd
        have fA : zPX Z A := zPX_pl a2
        have hEA := hEZ.y fA.y
        have hBA : zBk A M := zBk_X hB ((c1.trans fA).2) ((c1.trans fA).1 28 (by decide) (by decide) (by decide) (by decide))
        have ir := z1_isRight a3 hBA
        -- back again
        have back : ∀ W : TX, zPX A W → zD n (upd s p (nI d)) W → ∃ C, f_X3_place W (nI p) (nI c) = some C ∧ zPX X C ∧ zD n s C ∧ C 27 2 = W 27 2 := fun W hW hDW => by
          obtain ⟨C, d1, d2, d3⟩ := z3_pl (hEA.y hW.y) hDW hp hc
          rw [← hwp, upd_back] at d3
          exact ⟨C, d1, ((c1.trans fA).trans hW).trans (zPX_pl d2), d3, by rw [d2 27 (by decide) (by decide) (by decide)]⟩
        have hA27 : A 27 2 = b.2 := by rw [a2 27 (by decide) (by decide) (by decide), c3]
        by_cases cr : zRight (M 18) n (upd s p (nI d)) = true
        · rw [cr] at ir
          rw [cr, Bool.true_and] at hQi
          -- what B_85 does
          have yes : Q (4 * p + d) = true → ∃ a' : TX × Int32, B_X1_fitting_85 (L_X1_fitting_11 f) (L_X1_fitting_39 (L_X1_fitting_11 f) g) A x2 x3 v (nI p) o (nI c) (nI d) = L_X1_fitting_39 (L_X1_fitting_11 f) g a'.1 x2 x3 a'.2 (nI p) o (nI c) (nI (d + 1)) ∧ zPX X a'.1 ∧ zD n s a'.1 ∧ a'.1 27 2 = (if b.1 = 0 then nI (10 * p + d) else b.2) ∧ a'.2 = nI (b.1 + 1) := fun _ => by
            have fr : ∀ w, zD n (upd s p (nI d)) (u2 A 27 2 w) := fun w => a3.frame (z_u2k _ _ _ _ (by decide)) (z_u2k _ _ _ _ (by decide)) (z_u2k _ _ _ _ (by decide)) (z_u2k _ _ _ _ (by decide)) (z_u2k _ _ _ _ (by decide))
            have ev : v + (1 : Int32) = nI (b.1 + 1) := by rw [c4]; exact z_nI_succ _
            have ed : nI d + (1 : Int32) = nI (d + 1) := z_nI_succ d
            have ep : (10 : Int32) * nI p + nI d = nI (10 * p + d) := by
              have e1 : nI 10 * nI p = nI (10 * p) := z_nI_mul 10 p
              have e2 : (10 : Int32) * nI p = nI (10 * p) := e1
              rw [e2, z_nI_add]
            unfold B_X1_fitting_85
            by_cases cb : b.1 = 0
            · have hv : v = (0 : Int32) := by rw [c4, cb]; rfl
              obtain ⟨C, k1, k2, k3, k4⟩ := back _ (zPX_27 A (nI (10 * p + d))) (fr _)
              refine ⟨(C, nI (b.1 + 1)), ?_, k2, k3, ?_, rfl⟩
              · rw [if_pos hv, ep, k1, Option.bind_some, ev, ed]
              · rw [if_pos cb]; exact k4.trans (z_u2s _ _ _ _)
            · have hv : ¬ v = (0 : Int32) := fun e => by
                rw [c4] at e
                exact cb ((z_nI_inj (j := 0) (by omega) (by omega)).1 e)
              obtain ⟨C, k1, k2, k3, k4⟩ := back _ (zPX_27 A (A 27 2)) (fr _)
              refine ⟨(C, nI (b.1 + 1)), ?_, k2, k3, ?_, rfl⟩
              · rw [if_neg hv, k1, Option.bind_some, ev, ed]
              · rw [if_neg cb]; exact (k4.trans (z_u2s _ _ _ _)).trans hA27
          rcases hG with ⟨g1, g2⟩ | ⟨w, hw, g1, g2⟩
          · have hq : Q (4 * p + d) = true := by rw [hQi]; exact g2 _
            rw [if_pos hq]
            obtain ⟨a', k1, k2, k3, k4, k5⟩ := yes hq
            refine ⟨a', ?_, k2, k3, k4, k5⟩
            simp (discharger := omega) only [L_X1_fitting_39, h4, z_has, hb, a1, ir, g1, zbI, t10, z_lit, z_nI_le, z_nI_lt, z_nI_inj, z_inb, z_nI_tn, z_nI_add, z_nI_mul, z_bitN, z_zb, z_0add, z_add0, z_0or, z_or0, Option.bind_some, decide_eq_true_eq, Nat.zero_add, Nat.add_zero, ↓reduceIte]
            rw [g1] at k1; exact k1
          · have wi := z3_win a3 hw
            have hx2 : ¬ nI w = -nI 1 := by
              intro e
              have := congrArg Int32.toInt e
              rw [z_nI_toInt (by omega)] at this
              have h3 : (-nI 1 : Int32).toInt = -1 := by decide
              omega
            rw [g2] at hQi
            by_cases cw : zWin (zLc n (upd s p (nI d)) w) = x3
            · have hq : Q (4 * p + d) = true := by rw [hQi]; exact decide_eq_true cw
              rw [if_pos hq]
              obtain ⟨a', k1, k2, k3, k4, k5⟩ := yes hq
              refine ⟨a', ?_, k2, k3, k4, k5⟩
              simp (discharger := omega) only [L_X1_fitting_39, h4, z_has, hb, a1, ir, g1, hx2, wi, cw, zbI, t10, z_lit, z_nI_le, z_nI_lt, z_nI_inj, z_inb, z_nI_tn, z_nI_add, z_nI_mul, z_bitN, z_zb, z_0add, z_add0, z_0or, z_or0, Option.bind_some, decide_eq_true_eq, Nat.zero_add, Nat.add_zero, ↓reduceIte]
              rw [g1] at k1; exact k1
            · have hq : ¬ Q (4 * p + d) = true := by rw [hQi]; simp [cw]
              rw [if_neg hq]
              obtain ⟨C, k1, k2, k3, k4⟩ := back A ⟨fun _ _ _ _ _ => rfl, rfl⟩ a3
              refine ⟨(C, v), ?_, k2, k3, k4.trans hA27, c4⟩
              simp (discharger := omega) only [L_X1_fitting_39, h4, z_has, hb, a1, ir, g1, hx2, wi, cw, k1, zbI, t10, z_lit, z_nI_le, z_nI_lt, z_nI_inj, z_inb, z_nI_tn, z_nI_add, z_nI_mul, z_bitN, z_zb, z_0add, z_add0, z_0or, z_or0, Option.bind_some, decide_eq_true_eq, Nat.zero_add, Nat.add_zero, ↓reduceIte]
        · have cr' := Bool.eq_false_iff.2 cr
          rw [cr'] at ir
          have hq : ¬ Q (4 * p + d) = true := by rw [hQi, cr']; simp
          rw [if_neg hq]
          obtain ⟨C, k1, k2, k3, k4⟩ := back A ⟨fun _ _ _ _ _ => rfl, rfl⟩ a3
          refine ⟨(C, v), ?_, k2, k3, k4.trans hA27, c4⟩
          simp (discharger := omega) only [L_X1_fitting_39, h4, z_has, hb, a1, ir, k1, zbI, t10, z_lit, z_nI_le, z_nI_lt, z_nI_inj, z_inb, z_nI_tn, z_nI_add, z_nI_mul, z_bitN, z_zb, z_0add, z_add0, z_0or, z_or0, Option.bind_some, decide_eq_true_eq, Nat.zero_add, Nat.add_zero, ↓reduceIte, Bool.false_eq_true]
      · have hb : ¬ bt o d = true := by rw [o2 d hd]; exact cm
        have hq : ¬ Q (4 * p + d) = true := by rw [hQi, Bool.eq_false_iff.2 cm]; simp
        rw [if_neg hq]
        refine ⟨(Z, v), ?_, c1, c2, c3, c4⟩
        simp (discharger := omega) only [L_X1_fitting_39, h4, z_has, hb, z_lit, z_nI_le, z_nI_lt, z_nI_inj, z_inb, z_nI_tn, z_nI_add, z_nI_mul, z_bitN, z_zb, z_0add, z_add0, z_0or, z_or0, Option.bind_some, decide_eq_true_eq, Nat.zero_add, Nat.add_zero, ↓reduceIte, Bool.false_eq_true]
