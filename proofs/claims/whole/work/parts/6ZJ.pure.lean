set_option linter.unusedVariables false
def zQY (X Y : TX) : Prop := (∀ k, k ≠ 3 → k ≠ 4 → k ≠ 5 → k ≠ 9 → k ≠ 10 → k ≠ 21 → k ≠ 22 → k ≠ 27 → k ≠ 33 → k ≠ 34 → k ≠ 35 → k ≠ 36 → Y k = X k) ∧ (∀ j, j ≠ 8 → j ≠ 9 → j ≠ 10 → j ≠ 11 → Y 3 j = X 3 j) ∧ Y 27 1 = X 27 1
theorem zQY.refl (X : TX) : zQY X X := ⟨fun _ _ _ _ _ _ _ _ _ _ _ _ _ => rfl, fun _ _ _ _ _ => rfl, rfl⟩
theorem zQY.trans {X Y Z : TX} (h : zQY X Y) (g : zQY Y Z) : zQY X Z :=
  ⟨fun k a b c d e f i j l m o p => (g.1 k a b c d e f i j l m o p).trans (h.1 k a b c d e f i j l m o p), fun j a b c d => (g.2.1 j a b c d).trans (h.2.1 j a b c d), g.2.2.trans h.2.2⟩
theorem zFX.y {X Y : TX} (h : zFX X Y) : zQY X Y := ⟨fun k a b c d e f i _ l _ _ _ => h.1 k a b c d e f i l, h.2, by rw [h.1 27 (by decide) (by decide) (by decide) (by decide) (by decide) (by decide) (by decide) (by decide)]⟩
theorem zQX.y {X Y : TX} (h : zQX X Y) : zQY X Y := ⟨fun k _ _ _ _ _ f i j l m o p => h.1 k f i j l m o p, fun j _ _ _ _ => by rw [h.1 3 (by decide) (by decide) (by decide) (by decide) (by decide) (by decide) (by decide)], h.2⟩
theorem zE.y {n : Nat} {K X Y : TX} (h : zE n K X) (g : zQY X Y) : zE n K Y :=
  h.frame (g.2.1 5 (by decide) (by decide) (by decide) (by decide)) (g.2.1 6 (by decide) (by decide) (by decide) (by decide)) (g.2.1 7 (by decide) (by decide) (by decide) (by decide))
    fun k hk => by unfold zEk at hk; exact g.1 k (by omega) (by omega) (by omega) (by omega) (by omega) (by omega) (by omega) (by omega) (by omega) (by omega) (by omega) (by omega)
theorem zV.y' {n : Nat} {X Y M N : TX} (h : zV n X M) (hX : zQY X Y) (hD : zD n (M 19) Y) (hM : zQM M N) : zV n Y N := by
  have xk : ∀ k, k ≠ 3 ∧ k ≠ 4 ∧ k ≠ 5 ∧ k ≠ 9 ∧ k ≠ 10 ∧ k ≠ 21 ∧ k ≠ 22 ∧ k ≠ 27 ∧ k ≠ 33 ∧ k ≠ 34 ∧ k ≠ 35 ∧ k ≠ 36 → Y k = X k := fun k ⟨a, b, c, d, e, f, g, i, j, l, m, o⟩ => hX.1 k a b c d e f g i j l m o
  have mk : ∀ k, k ≠ 0 ∧ k ≠ 13 ∧ k ≠ 14 ∧ k ≠ 20 ∧ k ≠ 22 ∧ k ≠ 23 ∧ k ≠ 24 → N k = M k := fun k ⟨a, b, c, d, e, f, g⟩ => hM.1 k a b c d e f g
  have m0 : ∀ j, j ≠ 0 ∧ j ≠ 48 → N 0 j = M 0 j := fun j ⟨a, b⟩ => hM.2 j a b
  refine zV.mk (zE_K (h.e.y hX) hM.s) ?_ ?_ ?_ ?_ ?_ ?_ ?_ ?_ ?_ ?_
  · rw [mk 19 (by decide)]; exact hD
  · rw [mk 19 (by decide)]; exact h.y
  · have := h.tp; unfold zTp at *; rw [xk 1 (by decide), xk 2 (by decide), m0 2 (by decide), mk 2 (by decide)]; exact this
  · rw [xk 1 (by decide), m0 8 (by decide)]; exact h.fa
  · have := h.bk; unfold zBk at *; rw [hX.2.2, xk 28 (by decide), m0 40 (by decide), mk 18 (by decide)]; exact this
  · exact zWk_congr h.wk (by rw [xk 37 (by decide)]) (xk 38 (by decide)) (m0 33 (by decide)) (mk 21 (by decide))
  · exact zIm_congr h.im (by rw [xk 37 (by decide)]) (xk 39 (by decide)) (xk 40 (by decide)) (m0 50 (by decide)) (mk 26 (by decide))
  · rw [xk 0 (by decide), m0 34 (by decide)]; exact h.rs
  · rw [xk 0 (by decide), mk 1 (by decide)]; exact h.no
  · rw [xk 0 (by decide), mk 1 (by decide)]; exact h.il
theorem zCs_oy {c0 c1 : Option Int32} {q : Option (TX × (Int32 ⊕ Nat))} {r : Option (TX × Int32)} {n : Nat} {X Y M N : TX} {v : Int32} (h : zV n X M) (hq : q = some (Y, .inl v)) (hr : r = some (N, v)) (h0 : N 0 0 = nI 0) (hX : zQY X Y) (hD : zD n (M 19) Y) (hM : zQM M N) : zCs c0 c1 q r :=
  .inl ⟨n, Y, N, v, hq, hr, h0, h.y' hX hD hM⟩
/-- the greatest of a and f i over the moves -/
def zMxS (P : Nat → Bool) (f : Nat → Int32) (i : Nat) (a : Int32) : Int32 := if P i = true then (if a < f i then f i else a) else a
def zMx (P : Nat → Bool) (f : Nat → Int32) (k : Nat) (a : Int32) : Int32 := zF (zMxS P f) k 0 a
theorem zMx_succ (P : Nat → Bool) (f : Nat → Int32) (k : Nat) (a : Int32) : zMx P f (k + 1) a = zMxS P f k (zMx P f k a) := by unfold zMx; rw [zF_snoc, Nat.zero_add]
/-- the row behind the move of number i -/
def zRi (s : Nat → Int32) (i : Nat) : Nat → Int32 := upd s (i / 4) (nI (i % 4))
def zPi (K : TX) (n : Nat) (s : Nat → Int32) (i : Nat) : Bool := zMay (K 7) s n (i / 4) (nI (i % 4))
/-- the class's search: all moves by one side (t = 0), or by turns -/
def zG (K : TX) (n t : Nat) : Nat → Nat → (Nat → Int32) → Int32
  | 0, a, s => zMg n s (nI a)
  | k + 1, a, s => zMx (zPi K n s) (fun i => if t = 0 then zG K n t k a (zRi s i) else -(zG K n t k (1 - a) (zRi s i))) (4 * n) (if t = 0 then zG K n t k a s else -(zG K n t k (1 - a) s))
def zGn (K : TX) (n t k a : Nat) (s : Nat → Int32) : Int32 := if t = 0 then zG K n t k a s else -(zG K n t k (1 - a) s)
theorem zG_succ (K : TX) (n t k a : Nat) (s : Nat → Int32) : zG K n t (k + 1) a s = zMx (zPi K n s) (fun i => zGn K n t k a (zRi s i)) (4 * n) (zGn K n t k a s) := rfl
theorem z_nn (x : Int32) : - -x = x := by grind
theorem zMg_neg (n : Nat) (s : Nat → Int32) {a : Nat} (ha : a < 2) : -(zMg n s (nI (1 - a))) = zMg n s (nI a) := by
  have h : a = 0 ∨ a = 1 := by omega
  have e : ¬ (nI 1 = 0) := by decide
  have e0 : nI 0 = 0 := rfl
  unfold zMg zMar
  rcases h with rfl | rfl
  · show -(if nI 1 = 0 then _ else _) = (if nI 0 = 0 then _ else _)
    rw [if_neg e, if_pos e0, z_nn]
  · show -(if nI 0 = 0 then _ else _) = (if nI 1 = 0 then _ else _)
    rw [if_neg e, if_pos e0]
theorem zGn_0 (K : TX) (n t : Nat) {a : Nat} (ha : a < 2) (s : Nat → Int32) : zGn K n t 0 a s = zMg n s (nI a) := by
  unfold zGn
  by_cases c : t = 0
  · rw [if_pos c]; rfl
  · rw [if_neg c]; exact zMg_neg n s ha
theorem zgr_eq (D : Nat) (X : TX) (x1 x2 x3 : Int32) : f_X2_greatest (D + 1) X x1 x2 x3 = if 0 < x2 then ((f_X2_greatestThen (f_X2_greatest D) X x1 x2 x3).bind fun q2 => L_X2_greatest_22 (f_X2_greatest D) FU q2.1 x1 x2 x3 q2.2 (0 : Int32)) else ((f_X3_margin X x1).bind fun q18 => some (X, q18)) := rfl
theorem z2_great {n : Nat} {K : TX} {t : Nat} (ht : t < 2) : ∀ (k D a : Nat) (s : Nat → Int32) (X : TX), k < D → k ≤ 3 → a < 2 → zE n K X → zD n s X → ∃ Y, f_X2_greatest D X (nI a) (nI k) (nI t) = some (Y, zG K n t k a s) ∧ zFX X Y ∧ zD n s Y
  | 0, D + 1, a, s, X, _, _, ha, hE, hD => by
    refine ⟨X, ?_, zFX.refl X, hD⟩
    rw [zgr_eq, if_neg (by decide), hD.margin]; rfl
  | k + 1, D + 1, a, s, X, hkD, hk3, ha, hE, hD => by
    have h10 := hE.n10
    -- the search behind a move, or behind none
    have gthen : ∀ (r : Nat → Int32) (Z : TX), zE n K Z → zD n r Z → ∃ Y, f_X2_greatestThen (f_X2_greatest D) Z (nI a) (nI (k + 1)) (nI t) = some (Y, zGn K n t k a r) ∧ zFX Z Y ∧ zD n r Y := fun r Z hEZ hDZ => by
      have ek : nI (k + 1) - (1 : Int32) = nI k := by
        have : nI (k + 1) - nI 1 = nI (k + 1 - 1) := z_subN (by omega)
        exact this
      have ht' : t = 0 ∨ t = 1 := by omega
      unfold f_X2_greatestThen zGn
      rcases ht' with rfl | rfl
      · obtain ⟨Y, e1, e2, e3⟩ := z2_great (t := 0) (by omega) k D a r Z (by omega) (by omega) ha hEZ hDZ
        refine ⟨Y, ?_, e2, e3⟩
        have e1' : f_X2_greatest D Z (nI a) (nI k) (0 : Int32) = _ := e1
        rw [if_pos z_n00, ek, e1', if_pos rfl]; rfl
      · obtain ⟨Y, e1, e2, e3⟩ := z2_great (t := 1) (by omega) k D (1 - a) r Z (by omega) (by omega) (by omega) hEZ hDZ
        refine ⟨Y, ?_, e2, e3⟩
        have e1' : f_X2_greatest D Z ((1 : Int32) - nI a) (nI k) (1 : Int32) = some (Y, zG K n 1 k (1 - a) r) := by
          rw [show (1 : Int32) - nI a = nI (1 - a) from z_one_sub ha]; exact e1
        rw [if_neg z_n10, ek, e1', if_neg (by decide)]; rfl
    obtain ⟨X0, g1, g2, g3⟩ := gthen s X hE hD
    -- over the moves
    have loop := z_loopE (fun f i (b : TX × Int32) => L_X2_greatest_22 (f_X2_greatest D) f b.1 (nI a) (nI (k + 1)) (nI t) b.2 i) (fun p b => zFX X b.1 ∧ zD n s b.1 ∧ b.2 = zMx (zPi K n s) (fun i => zGn K n t k a (zRi s i)) (4 * p) (zGn K n t k a s)) (fun b => some (b.1, b.2)) n ?_ ?_ n 0 FU (X0, zGn K n t k a s) ⟨g2, g3, rfl⟩ (by omega) (by unfold FU; omega)
    · obtain ⟨b, e1, e2, e3, e4⟩ := loop
      refine ⟨b.1, ?_, e2, e3⟩
      have hpos : (0 : Int32) < nI (k + 1) := (z_nI_lt (i := 0) (j := k + 1) (by omega) (by omega)).2 (by omega)
      rw [zgr_eq, if_pos hpos, g1, Option.bind_some]
      refine e1.trans ?_
      rw [e4]; rfl
    · rintro f ⟨Y, m⟩ ⟨b1, b2, b3⟩
      simp only at b1 b2 b3
      have hn : Y 3 5 = nI n := (hE.fx b1).xn
      simp (discharger := omega) only [L_X2_greatest_22, hn, z_lit, z_nI_le, z_nI_lt, z_nI_inj, z_inb, z_nI_tn, z_nI_add, z_nI_mul, z_bitN, z_zb, z_0add, z_add0, z_0or, z_or0, Option.bind_some, decide_eq_true_eq, Nat.zero_add, Nat.add_zero, Nat.le_refl, ↓reduceIte]
    · rintro f p ⟨Y, m⟩ hp ⟨b1, b2, b3⟩
      simp only at b1 b2 b3
      have hEY := hE.fx b1
      have hn : Y 3 5 = nI n := hEY.xn
      have h1 : ¬ n ≤ p := by omega
      obtain ⟨o, o1, o2⟩ := z3_open hEY b2 hp
      obtain ⟨c, hc, hwp⟩ := hD.xw p hp
      have w1 := z3_wOf b2 (show p < 10 by omega)
      rw [hwp] at w1
      have inner := z_loopE (fun g i (b : TX × Int32) => L_X2_greatest_50 (f_X2_greatest D) (L_X2_greatest_22 (f_X2_greatest D) f) g b.1 (nI a) (nI (k + 1)) (nI t) b.2 (nI p) o (nI c) i) (fun d b => zFX X b.1 ∧ zD n s b.1 ∧ b.2 = zMx (zPi K n s) (fun i => zGn K n t k a (zRi s i)) (4 * p + d) (zGn K n t k a s)) (fun b => L_X2_greatest_22 (f_X2_greatest D) f b.1 (nI a) (nI (k + 1)) (nI t) b.2 (nI (p + 1))) 4 ?_ ?_ 4 0 FU (Y, m) ⟨b1, b2, b3⟩ (by omega) (by unfold FU; omega)
      · obtain ⟨b, i1, i2⟩ := inner
        refine ⟨b, ?_, i2⟩
        simp (discharger := omega) only [L_X2_greatest_22, hn, h1, o1, w1, z_lit, z_nI_le, z_nI_lt, z_nI_inj, z_inb, z_nI_tn, z_nI_add, z_nI_mul, z_bitN, z_zb, z_0add, z_add0, z_0or, z_or0, Option.bind_some, decide_eq_true_eq, Nat.zero_add, Nat.add_zero, ↓reduceIte]
        exact i1
      · rintro g ⟨Z, v⟩ _
        simp (discharger := omega) only [L_X2_greatest_50, z_lit, z_nI_le, z_nI_lt, z_nI_inj, z_inb, z_nI_tn, z_nI_add, z_nI_mul, z_bitN, z_zb, z_0add, z_add0, z_0or, z_or0, Option.bind_some, decide_eq_true_eq, Nat.zero_add, Nat.add_zero, Nat.le_refl, ↓reduceIte]
      · rintro g d ⟨Z, v⟩ hd ⟨c1, c2, c3⟩
        simp only at c1 c2 c3
        have hEZ := hE.fx c1
        have h4 : ¬ 4 ≤ d := by omega
        have q1 : (4 * p + d) / 4 = p := by omega
        have q2 : (4 * p + d) % 4 = d := by omega
        have hst : zMx (zPi K n s) (fun i => zGn K n t k a (zRi s i)) (4 * p + (d + 1)) (zGn K n t k a s) = zMxS (zPi K n s) (fun i => zGn K n t k a (zRi s i)) (4 * p + d) v := by
          rw [← Nat.add_assoc, zMx_succ, c3]
        have hP : zPi K n s (4 * p + d) = zMay (K 7) s n p (nI d) := by unfold zPi; rw [q1, q2]
        have hR : zRi s (4 * p + d) = upd s p (nI d) := by unfold zRi; rw [q1, q2]
        have t10 : ¬ ((1 : Nat) = 0) := by decide
        have hst' : zMxS (zPi K n s) (fun i => zGn K n t k a (zRi s i)) (4 * p + d) v = if zMay (K 7) s n p (nI d) = true then (if v < zGn K n t k a (upd s p (nI d)) then zGn K n t k a (upd s p (nI d)) else v) else v := by
          rw [← hP, ← hR]; rfl
        rw [hst, hst']
        by_cases cm : zMay (K 7) s n p (nI d) = true
        · have hb : bt o d = true := (o2 d hd).trans cm
          have hcd : c ≠ d := fun e => by
            subst e
            unfold zMay at cm
            rw [hwp] at cm; simp at cm
          rw [if_pos cm]
          by_cases ck : k = 0
          · subst ck
            have hm := z3_margPl hEZ c2 hp hc hd hwp hcd (nI a)
            rw [zGn_0 K n t ha]
            refine ⟨(Z, if v < zMg n (upd s p (nI d)) (nI a) then zMg n (upd s p (nI d)) (nI a) else v), ?_, c1, c2, rfl⟩
            simp (discharger := omega) only [L_X2_greatest_50, h4, z_has, hb, hm, t10, z_lit, z_nI_le, z_nI_lt, z_nI_inj, z_inb, z_nI_tn, z_nI_add, z_nI_mul, z_bitN, z_zb, z_0add, z_add0, z_0or, z_or0, Option.bind_some, decide_eq_true_eq, Nat.zero_add, Nat.add_zero, ↓reduceIte]
          · have k1 : ¬ k + 1 = 1 := by omega
            obtain ⟨A, a1, a2, a3⟩ := z3_pl hEZ c2 hp hd
            have fA : zFX Z A := ⟨fun j _ x4 _ x9 x10 _ _ _ => a2 j x4 x9 x10, fun j _ _ _ _ => by rw [a2 3 (by decide) (by decide) (by decide)]⟩
            obtain ⟨B, b1', b2', b3'⟩ := gthen _ A (hEZ.fx fA) a3
            obtain ⟨C, d1, d2, d3⟩ := z3_pl ((hEZ.fx fA).fx b2') b3' hp hc
            have fC : zFX B C := ⟨fun j _ x4 _ x9 x10 _ _ _ => d2 j x4 x9 x10, fun j _ _ _ _ => by rw [d2 3 (by decide) (by decide) (by decide)]⟩
            rw [← hwp, upd_back] at d3
            refine ⟨(C, if v < zGn K n t k a (upd s p (nI d)) then zGn K n t k a (upd s p (nI d)) else v), ?_, c1.trans (fA.trans (b2'.trans fC)), d3, rfl⟩
            simp (discharger := omega) only [L_X2_greatest_50, B_X2_greatest_90, h4, z_has, hb, a1, b1', d1, k1, t10, z_lit, z_nI_le, z_nI_lt, z_nI_inj, z_inb, z_nI_tn, z_nI_add, z_nI_mul, z_bitN, z_zb, z_0add, z_add0, z_0or, z_or0, Option.bind_some, decide_eq_true_eq, Nat.zero_add, Nat.add_zero, ↓reduceIte]
        · have hb : ¬ bt o d = true := by rw [o2 d hd]; exact cm
          rw [if_neg cm]
          refine ⟨(Z, v), ?_, c1, c2, rfl⟩
          simp (discharger := omega) only [L_X2_greatest_50, B_X2_greatest_90, h4, z_has, hb, z_lit, z_nI_le, z_nI_lt, z_nI_inj, z_inb, z_nI_tn, z_nI_add, z_nI_mul, z_bitN, z_zb, z_0add, z_add0, z_0or, z_or0, Option.bind_some, decide_eq_true_eq, Nat.zero_add, Nat.add_zero, ↓reduceIte, Bool.false_eq_true]
