set_option linter.unusedVariables false
theorem zTi_yr {K : TX} {n : Nat} {s : Nat → Int32} {b : Nat} (h : zYr b s) : zYr (b + 1) (zVo K n s) := by
  obtain ⟨y, hy, e⟩ := h
  refine ⟨y + 1, by omega, ?_⟩
  unfold zVo; rw [z_updS, e, z_nI_add]
theorem zMv_yr {s : Nat → Int32} {b p d : Nat} (hp : p < 10) (h : zYr b s) : zYr b (zMv s p d) := by
  obtain ⟨y, hy, e⟩ := h
  refine ⟨y, hy, ?_⟩
  unfold zMv; rw [z_updJ _ _ (by decide), z_updJ _ _ (by omega), e]
theorem zYr.mono {a b : Nat} {s : Nat → Int32} (h : zYr a s) (hab : a ≤ b) : zYr b s := by
  obtain ⟨y, hy, e⟩ := h
  exact ⟨y, by omega, e⟩
theorem zDr_yr {K : TX} {n : Nat} {s : Nat → Int32} {b : Nat} (h10 : n ≤ 10) (h : zYr b s) : zYr b (zDr K n s).1 := by
  unfold zDr
  split
  · exact h
  · cases hb : (zBest K n s (s 30)).1 with
    | none => exact h
    | some q =>
      have hq := zBest_p (4 * n) (Nat.le_refl _) q hb
      exact zMv_yr (by omega) h
theorem zMo_yr {K : TX} {n : Nat} {s : Nat → Int32} {b p d : Nat} (hp : p < 10) (h : zYr b s) : zYr b (zMo K n s p d).1 := by
  unfold zMo
  split
  · exact zMv_yr hp h
  · exact h
theorem zRc_yr {s : Nat → Int32} {c p a b : Nat} (hp : p < 10) (h : zYr c s) : zYr c (zRc s p a b).1 := by
  unfold zRc
  split
  · exact h
  · obtain ⟨y, hy, e⟩ := h
    exact ⟨y, hy, by show upd (upd s (10 + p) (nI a)) (20 + p) (nI b) 32 = nI y; rw [z_updJ _ _ (by omega), z_updJ _ _ (by omega), e]⟩
/-- a step on both sides -/
def zSt (n : Nat) (c m : Nat → Int32) (a : Nat) : Prop :=
  (c a = nI 1 ∧ m a = nI 0) ∨ (c a = nI 2 ∧ m a = nI 1) ∨
  (∃ p d, p < n ∧ d < 4 ∧ c a = nI 3 ∧ m a = nI 2 ∧ c (a + 1) = nI p ∧ m (a + 1) = nI p ∧ c (a + 2) = nI d ∧ m (a + 2) = nI d) ∨
  (∃ p x y, p < n ∧ x ≤ 99 ∧ y ≤ 99 ∧ c a = nI 4 ∧ m a = nI 3 ∧ c (a + 1) = nI p ∧ m (a + 1) = nI p ∧ c (a + 2) = nI x ∧ m (a + 2) = nI x ∧ c (a + 3) = nI y ∧ m (a + 3) = nI y)
theorem z_and1 (b : Bool) : (zbI b &&& nI 1) = zbI b := by cases b <;> decide
theorem z_step {n : Nat} {K X M : TX} (hE : zE n K X) (hS : zS K M) (hD : zD n (M 20) X) (hy : zYr 400 (M 20)) {a : Nat} (h : zSt n (X 32) (M 16) a) (ha : a + 4 ≤ 150) :
    ∃ X' M' b, f_X6_runStep X (nI a) = some (X', zbI b) ∧ f_X9_isDone M (M 16 a) (M 16 (a + 1)) (M 16 (a + 2)) (M 16 (a + 3)) = some (M', zbI b) ∧ zFX X X' ∧ zFM M M' ∧ zD n (M' 20) X' ∧ zYr 400 (M' 20) := by
  have h10 := hE.n10
  have a32 : ∀ j, j < 150 → f_X8_at 32 X (nI j) = some (X 32 j) := fun j hj => z_at (show j < lenX 32 from hj) (by decide)
  have b11 : (nI 1 &&& nI 1) = nI 1 := by decide
  have b00 : (nI 0 &&& nI 1) = nI 0 := by decide
  have t10 : ¬ ((1 : Nat) = 0) := by decide
  have t21 : ¬ ((2 : Nat) = 1) := by decide
  have t20 : ¬ ((2 : Nat) = 0) := by decide
  have t31 : ¬ ((3 : Nat) = 1) := by decide
  have t30 : ¬ ((3 : Nat) = 0) := by decide
  have t32 : ¬ ((3 : Nat) = 2) := by decide
  have t41 : ¬ ((4 : Nat) = 1) := by decide
  have t42 : ¬ ((4 : Nat) = 2) := by decide
  have t43 : ¬ ((4 : Nat) = 3) := by decide
  have t01 : ¬ ((0 : Nat) = 1) := by decide
  have t02 : ¬ ((0 : Nat) = 2) := by decide
  rcases h with ⟨h1, h2⟩ | ⟨h1, h2⟩ | ⟨p, d, hp, hd, h1, h2, h3, h4, h5, h6⟩ | ⟨p, x, y, hp, hx, hy', h1, h2, h3, h4, h5, h6, h7, h8⟩
  · obtain ⟨y, hy1, ey⟩ := hy
    have hX : X 3 8 = nI y := by rw [hD.year, ey]
    have hM : M 20 32 = nI y := ey
    have h32 : (32 : Nat) < 34 := by omega
    by_cases c : y < 400
    · obtain ⟨X', e1, e2, e3, e4⟩ := z3_elect hE hD ⟨y, by omega, ey⟩
      obtain ⟨M', f1, f2, f3⟩ := z9_votes hE hS rfl ⟨y, by omega, ey⟩
      refine ⟨X', M', true, ?_, ?_, ⟨fun k a b c d e f i j => e2 k a c d e, fun j a b c _ => e3 j a b c⟩, fun k _ _ c => f2 k c, by rw [f3]; exact e4, ?_⟩
      · simp (discharger := omega) only [f_X6_runStep, f_X2_vote, a32, h1, hX, c, e1, b11, z_lit, z_nI_le, z_nI_lt, z_nI_inj, z_inb, z_nI_tn, z_nI_add, z_nI_mul, z_bitN, z_zb, z_0add, z_add0, z_0or, z_or0, Option.bind_some, decide_eq_true_eq, Nat.zero_add, Nat.add_zero, ↓reduceIte, zbI]
      · simp (discharger := omega) only [f_X9_isDone, h2, hM, h32, c, f1, t01, t02, z_lit, z_nI_le, z_nI_lt, z_nI_inj, z_inb, z_nI_tn, z_nI_add, z_nI_mul, z_bitN, z_zb, z_0add, z_add0, z_0or, z_or0, Option.bind_some, decide_eq_true_eq, Nat.zero_add, Nat.add_zero, ↓reduceIte, zbI]
      · rw [f3]; exact (zTi_yr (b := y) ⟨y, Nat.le_refl _, ey⟩).mono (by omega)
    · refine ⟨X, M, false, ?_, ?_, zFX.refl X, zFM.refl M, hD, ⟨y, hy1, ey⟩⟩
      · simp (discharger := omega) only [f_X6_runStep, f_X2_vote, a32, h1, hX, c, b00, z_lit, z_nI_le, z_nI_lt, z_nI_inj, z_inb, z_nI_tn, z_nI_add, z_nI_mul, z_bitN, z_zb, z_0add, z_add0, z_0or, z_or0, Option.bind_some, decide_eq_true_eq, Nat.zero_add, Nat.add_zero, ↓reduceIte, zbI, Bool.false_eq_true]
      · simp (discharger := omega) only [f_X9_isDone, h2, hM, h32, c, t01, t02, z_lit, z_nI_le, z_nI_lt, z_nI_inj, z_inb, z_nI_tn, z_nI_add, z_nI_mul, z_bitN, z_zb, z_0add, z_add0, z_0or, z_or0, Option.bind_some, decide_eq_true_eq, Nat.zero_add, Nat.add_zero, ↓reduceIte, zbI, Bool.false_eq_true]
  · obtain ⟨X', e1, e2, e3⟩ := z2_redraw hE hD
    obtain ⟨M', f1, f2, f3⟩ := z9_isDrawn hE hD hS rfl
    refine ⟨X', M', (zDr K n (M 20)).2, ?_, ?_, e2, f2, by rw [f3]; exact e3, by rw [f3]; exact zDr_yr h10 hy⟩
    · simp (discharger := omega) only [f_X6_runStep, a32, h1, e1, z_and1, t21, z_lit, z_nI_le, z_nI_lt, z_nI_inj, z_inb, z_nI_tn, z_nI_add, z_nI_mul, z_bitN, z_zb, z_0add, z_add0, z_0or, z_or0, Option.bind_some, decide_eq_true_eq, Nat.zero_add, Nat.add_zero, ↓reduceIte]
    · simp (discharger := omega) only [f_X9_isDone, h2, f1, z_and1, z_lit, z_nI_le, z_nI_lt, z_nI_inj, z_inb, z_nI_tn, z_nI_add, z_nI_mul, z_bitN, z_zb, z_0add, z_add0, z_0or, z_or0, Option.bind_some, decide_eq_true_eq, Nat.zero_add, Nat.add_zero, ↓reduceIte]
  · obtain ⟨X', e1, e2, e3⟩ := z2_move hE hD hp hd
    obtain ⟨M', f1, f2, f3⟩ := z9_isMoved hE hD hS rfl hp hd
    refine ⟨X', M', (zMo K n (M 20) p d).2, ?_, ?_, e2, f2, by rw [f3]; exact e3, by rw [f3]; exact zMo_yr (by omega) hy⟩
    · simp (discharger := omega) only [f_X6_runStep, a32, h1, h3, h5, e1, z_and1, t31, t32, z_lit, z_nI_le, z_nI_lt, z_nI_inj, z_inb, z_nI_tn, z_nI_add, z_nI_mul, z_bitN, z_zb, z_0add, z_add0, z_0or, z_or0, Option.bind_some, decide_eq_true_eq, Nat.zero_add, Nat.add_zero, ↓reduceIte]
    · simp (discharger := omega) only [f_X9_isDone, h2, h4, h6, f1, z_and1, t21, z_lit, z_nI_le, z_nI_lt, z_nI_inj, z_inb, z_nI_tn, z_nI_add, z_nI_mul, z_bitN, z_zb, z_0add, z_add0, z_0or, z_or0, Option.bind_some, decide_eq_true_eq, Nat.zero_add, Nat.add_zero, ↓reduceIte]
  · obtain ⟨X', e1, e2, e3⟩ := z3_recount hE hD hp hx hy'
    have v0 : f_X9_votesOf M (nI p) (nI 0) = some (M 20 (10 + p)) := z9_votesOf (s := 0) (by omega) (by omega)
    have v1 : f_X9_votesOf M (nI p) (nI 1) = some (M 20 (20 + p)) := z9_votesOf (s := 1) (by omega) (by omega)
    have g1 : 10 + p < 34 := by omega
    have g2 : 20 + p < 34 := by omega
    have hx1 : f_X6_runStep X (nI a) = some (X', zbI (zRc (M 20) p x y).2) := by
      simp (discharger := omega) only [f_X6_runStep, a32, h1, h3, h5, h7, e1, z_and1, t41, t42, t43, z_lit, z_nI_le, z_nI_lt, z_nI_inj, z_inb, z_nI_tn, z_nI_add, z_nI_mul, z_bitN, z_zb, z_0add, z_add0, z_0or, z_or0, Option.bind_some, decide_eq_true_eq, Nat.zero_add, Nat.add_zero, ↓reduceIte]
    have hyr := zRc_yr (a := x) (b := y) (show p < 10 by omega) hy
    unfold zRc at hx1 e3 hyr
    by_cases c1 : M 20 (10 + p) = nI x
    · by_cases c2 : M 20 (20 + p) = nI y
      · rw [if_pos ⟨c1, c2⟩] at hx1 e3 hyr
        refine ⟨X', M, false, hx1, ?_, e2, zFM.refl M, e3, hyr⟩
        simp (discharger := omega) only [f_X9_isDone, h2, h4, h6, h8, v0, v1, c1, c2, t30, t31, t32, z_lit, z_nI_le, z_nI_lt, z_nI_inj, z_inb, z_nI_tn, z_nI_add, z_nI_mul, z_bitN, z_zb, z_0add, z_add0, z_0or, z_or0, Option.bind_some, decide_eq_true_eq, Nat.zero_add, Nat.add_zero, ↓reduceIte, zbI, Bool.false_eq_true]
      · rw [if_neg fun h => c2 h.2] at hx1 e3 hyr
        refine ⟨X', u2 (u2 M 20 (10 + p) (nI x)) 20 (20 + p) (nI y), true, hx1, ?_, e2, fun k _ _ c => by rw [z_u2k _ _ _ _ c, z_u2k _ _ _ _ c], by rw [z_u2r, z_u2r]; exact e3, by rw [z_u2r, z_u2r]; exact hyr⟩
        simp (discharger := omega) only [f_X9_isDone, h2, h4, h6, h8, v0, v1, c1, c2, g1, g2, t30, t31, t32, z_lit, z_nI_le, z_nI_lt, z_nI_inj, z_inb, z_nI_tn, z_nI_add, z_nI_mul, z_bitN, z_zb, z_0add, z_add0, z_0or, z_or0, Option.bind_some, decide_eq_true_eq, Nat.zero_add, Nat.add_zero, ↓reduceIte, zbI]
    · rw [if_neg fun h => c1 h.1] at hx1 e3 hyr
      refine ⟨X', u2 (u2 M 20 (10 + p) (nI x)) 20 (20 + p) (nI y), true, hx1, ?_, e2, fun k _ _ c => by rw [z_u2k _ _ _ _ c, z_u2k _ _ _ _ c], by rw [z_u2r, z_u2r]; exact e3, by rw [z_u2r, z_u2r]; exact hyr⟩
      simp (discharger := omega) only [f_X9_isDone, h2, h4, h6, h8, v0, c1, g1, g2, t30, t31, t32, z_lit, z_nI_le, z_nI_lt, z_nI_inj, z_inb, z_nI_tn, z_nI_add, z_nI_mul, z_bitN, z_zb, z_0add, z_add0, z_0or, z_or0, Option.bind_some, decide_eq_true_eq, Nat.zero_add, Nat.add_zero, ↓reduceIte, zbI]
