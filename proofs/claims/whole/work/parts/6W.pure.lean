set_option linter.unusedVariables false
theorem zGX.k32 {X Y : TX} (g : zGX X Y) : Y 32 = X 32 := g.1 32 (by decide) (by decide) (by decide) (by decide) (by decide) (by decide) (by decide) (by decide) (by decide)
theorem zGM.k16 {M N : TX} (g : zGM M N) : N 16 = M 16 := g.1 16 (by decide) (by decide) (by decide) (by decide)
/-- with 200 steps begun nothing is done any more -/
theorem z6_idle {X : TX} (h : X 31 3 = nI 200) (D : Nat) (a b o : Int32) : f_X6_run (D + 1) X a b o = some X := by
  have e0 : ∀ f, L_X6_run_14 (f_X6_run D) (f + 1) X b o a (nI 0) = some X := fun f => by
    have c1 : ¬ 200 ≤ 0 := by omega
    have c2 : 200 ≤ 200 := by omega
    by_cases c : b ≤ a
    · simp (discharger := omega) only [L_X6_run_14, c, c1, z_lit, z_nI_le, z_nI_lt, z_nI_inj, z_inb, z_nI_tn, z_nI_add, z_nI_mul, z_bitN, z_zb, z_0add, z_add0, z_0or, z_or0, Option.bind_some, decide_eq_true_eq, Nat.zero_add, Nat.add_zero, ↓reduceIte]
    · simp (discharger := omega) only [L_X6_run_14, c, c1, h, c2, z_lit, z_nI_le, z_nI_lt, z_nI_inj, z_inb, z_nI_tn, z_nI_add, z_nI_mul, z_bitN, z_zb, z_0add, z_add0, z_0or, z_or0, Option.bind_some, decide_eq_true_eq, Nat.zero_add, Nat.add_zero, ↓reduceIte]
  have e : L_X6_run_14 (f_X6_run D) FU X b o a 0 = some X := e0 1023
  have e1 : f_X6_run (D + 1) X a b o = if o ≤ (6 : Int32) then L_X6_run_14 (f_X6_run D) FU X b o a 0 else some X := rfl
  rw [e1]
  by_cases c : o ≤ 6
  · rw [if_pos c]; exact e
  · rw [if_neg c]
theorem z6_idle77 {X : TX} (h : X 31 3 = nI 200) (D : Nat) (k : TX → Int32 → Int32 → Int32 → Int32 → Option TX) {a : Nat} (ha : a + 4 ≤ 150) {t : Nat} (ht : t ≤ 40) (hc : X 32 (a + 1) = nI t) (b o e i : Int32) :
    ∀ j r f, r + j = t → j < f → L_X6_run_77 (f_X6_run (D + 1)) k f X b o (nI a) i e (nI r) = k X b o e (i + 1)
  | 0, r, f + 1, hr, _ => by
    have a32 : f_X8_at 32 X (nI (a + 1)) = some (nI t) := by rw [z_at (show a + 1 < lenX 32 by show a + 1 < 150; omega) (by decide), hc]
    have : t ≤ r := by omega
    simp (discharger := omega) only [L_X6_run_77, a32, this, z_lit, z_nI_le, z_nI_lt, z_nI_inj, z_inb, z_nI_tn, z_nI_add, z_nI_mul, z_bitN, z_zb, z_0add, z_add0, z_0or, z_or0, Option.bind_some, decide_eq_true_eq, Nat.zero_add, Nat.add_zero, ↓reduceIte]
  | j + 1, r, f + 1, hr, hf => by
    have a32 : f_X8_at 32 X (nI (a + 1)) = some (nI t) := by rw [z_at (show a + 1 < lenX 32 by show a + 1 < 150; omega) (by decide), hc]
    have hn : ¬ t ≤ r := by omega
    have ih := z6_idle77 h D k ha ht hc b o e i j (r + 1) f (by omega) (by omega)
    simp (discharger := omega) only [L_X6_run_77, a32, hn, z6_idle h, ih, z_lit, z_nI_le, z_nI_lt, z_nI_inj, z_inb, z_nI_tn, z_nI_add, z_nI_mul, z_bitN, z_zb, z_0add, z_add0, z_0or, z_or0, Option.bind_some, decide_eq_true_eq, Nat.zero_add, Nat.add_zero, ↓reduceIte]
/-- the plan is run on both sides in step -/
theorem z_run {n : Nat} {K : TX} {c m : Nat → Int32} : ∀ (g d a b D E o i z f f' : Nat) (X M : TX), zPl n c m g d a b → b ≤ 148 → d < D → d < E → o + d ≤ 6 → zRr n K c m z X M → i ≤ z → 200 < f + i → 200 < f' + z →
    ∃ z' X' M', L_X6_run_14 (f_X6_run (D - 1)) f X (nI b) (nI o) (nI a) (nI i) = some X' ∧ L_X9_goesSteps_2 (f_X9_goesSteps (E - 1)) f' M (nI b) (nI a) = some M' ∧ z ≤ z' ∧ zRr n K c m z' X' M' ∧ zGX X X' ∧ zGM M M' := by
  -- what ends at once
  have done : ∀ (a b D E o i z f f' : Nat) (X M : TX), b ≤ 148 → a ≤ 148 → (b ≤ a ∨ z = 200) → zRr n K c m z X M → i ≤ z → 200 < f + i → 200 < f' + z →
    ∃ z' X' M', L_X6_run_14 (f_X6_run (D - 1)) f X (nI b) (nI o) (nI a) (nI i) = some X' ∧ L_X9_goesSteps_2 (f_X9_goesSteps (E - 1)) f' M (nI b) (nI a) = some M' ∧ z ≤ z' ∧ zRr n K c m z' X' M' ∧ zGX X X' ∧ zGM M M' := by
    intro a b D E o i z f f' X M hb ha hz hR hi hf hf'
    obtain ⟨f, rfl⟩ : ∃ f0, f = f0 + 1 := ⟨f - 1, by have := hR.z2; omega⟩
    obtain ⟨f', rfl⟩ : ∃ f0, f' = f0 + 1 := ⟨f' - 1, by have := hR.z2; omega⟩
    refine ⟨z, X, M, ?_, ?_, Nat.le_refl _, hR, zGX.refl X, zGM.refl M⟩
    · have hz2 := hR.z2
      by_cases c1 : 200 ≤ i
      · simp (discharger := omega) only [L_X6_run_14, c1, z_lit, z_nI_le, z_nI_lt, z_nI_inj, z_inb, z_nI_tn, z_nI_add, z_nI_mul, z_bitN, z_zb, z_0add, z_add0, z_0or, z_or0, Option.bind_some, decide_eq_true_eq, Nat.zero_add, Nat.add_zero, ↓reduceIte]
      · by_cases c2 : b ≤ a
        · simp (discharger := omega) only [L_X6_run_14, c1, c2, z_lit, z_nI_le, z_nI_lt, z_nI_inj, z_inb, z_nI_tn, z_nI_add, z_nI_mul, z_bitN, z_zb, z_0add, z_add0, z_0or, z_or0, Option.bind_some, decide_eq_true_eq, Nat.zero_add, Nat.add_zero, ↓reduceIte]
        · have c3 : 200 ≤ z := by omega
          simp (discharger := omega) only [L_X6_run_14, c1, c2, hR.zx, c3, z_lit, z_nI_le, z_nI_lt, z_nI_inj, z_inb, z_nI_tn, z_nI_add, z_nI_mul, z_bitN, z_zb, z_0add, z_add0, z_0or, z_or0, Option.bind_some, decide_eq_true_eq, Nat.zero_add, Nat.add_zero, ↓reduceIte]
    · have hz2 := hR.z2
      by_cases c2 : b ≤ a
      · simp (discharger := omega) only [L_X9_goesSteps_2, c2, z_lit, z_nI_le, z_nI_lt, z_nI_inj, z_inb, z_nI_tn, z_nI_add, z_nI_mul, z_bitN, z_zb, z_0add, z_add0, z_0or, z_or0, Option.bind_some, decide_eq_true_eq, Nat.zero_add, Nat.add_zero, ↓reduceIte]
      · have c3 : 200 ≤ z := by omega
        simp (discharger := omega) only [L_X9_goesSteps_2, c2, hR.zm, c3, z_lit, z_nI_le, z_nI_lt, z_nI_inj, z_inb, z_nI_tn, z_nI_add, z_nI_mul, z_bitN, z_zb, z_0add, z_add0, z_0or, z_or0, Option.bind_some, decide_eq_true_eq, Nat.zero_add, Nat.add_zero, ↓reduceIte]
  intro g
  induction g with
  | zero =>
    intro d a b D E o i z f f' X M hP hb hD hE ho hR hi hf hf'
    have hab : a = b := hP
    exact done a b D E o i z f f' X M hb (by omega) (.inl (by omega)) hR hi hf hf'
  | succ g ih =>
    intro d a b D E o i z f f' X M hP hb hD hE ho hR hi hf hf'
    by_cases hz : z = 200
    · rcases Nat.lt_or_ge 148 a with h | h
      · -- a plan ends not ahead of where it begins
        exfalso
        rcases hP with h1 | ⟨_, h1, _⟩ | ⟨e, t, _, _, _, _, _, _, _, _, h1, h2, _⟩ <;> omega
      · exact done a b D E o i z f f' X M hb h (.inr hz) hR hi hf hf'
    have hz2 := hR.z2
    have hz1 : z < 200 := by omega
    obtain ⟨f, rfl⟩ : ∃ f0, f = f0 + 1 := ⟨f - 1, by omega⟩
    obtain ⟨f', rfl⟩ : ∃ f0, f' = f0 + 1 := ⟨f' - 1, by omega⟩
    have c1 : ¬ 200 ≤ i := by omega
    have c3 : ¬ 200 ≤ z := by omega
    have hRb := hR.bump hz1
    have bx := zGX_u X (j := 3) (by omega) (X 31 3 + nI 1)
    have bm := zGM_u M (j := 35) (by omega) (M 0 35 + nI 1)
    rw [hR.zx, z_nI_add] at hRb bx
    rw [hR.zm, z_nI_add] at hRb bm
    have a32 : ∀ j, j < 150 → f_X8_at 32 (u2 X 31 3 (nI (z + 1))) (nI j) = some (c j) := fun j hj => by rw [z_at (show j < lenX 32 from hj) (by decide), hRb.cc]
    have m16 : u2 M 0 35 (nI (z + 1)) 16 = m := hRb.mm
    have t10 : ¬ ((1 : Nat) = 0) := by decide
    rcases hP with h1 | ⟨hst, h4, hP⟩ | ⟨e, t, hd0, ht, h1, h2, h3, h4, h5, h6, h7, h8, hP1, hP2⟩
    · exact done a b D E o i z (f + 1) (f' + 1) X M hb (by omega) (.inl (by omega)) hR hi hf hf'
    · -- a step
      have c2 : ¬ b ≤ a := by omega
      have hst' : zSt n (u2 X 31 3 (nI (z + 1)) 32) (u2 M 0 35 (nI (z + 1)) 16) a := by rw [hRb.cc, hRb.mm]; exact hst
      obtain ⟨X1, M1, r, e1, e2, fx, fm, hD1, hy1⟩ := z_step hRb.e hRb.s hRb.d hRb.y hst' (by omega)
      obtain ⟨hR1, gx, gm⟩ := hRb.count r fx fm hD1 hy1
      obtain ⟨z', X', M', q1, q2, q3, q4, q5, q6⟩ := ih d (a + 4) b D E o (i + 1) (z + 1) f f' (zCX X1 r) (zCM M1 r) hP hb hD hE ho hR1 (by omega) (by omega) (by omega)
      refine ⟨z', X', M', ?_, ?_, by omega, q4, (bx.trans gx).trans q5, (bm.trans gm).trans q6⟩
      · have hne : ¬ c a = nI 5 := by
          rcases hst with ⟨h, _⟩ | ⟨h, _⟩ | ⟨_, _, _, _, h, _⟩ | ⟨_, _, _, _, _, _, h, _⟩ <;> rw [h] <;> decide
        have ha150 : a < 150 := by omega
        unfold zCX at q1
        have h54 : ¬ ((5 : Nat) = 4) := by decide
        cases r
        · simp (discharger := omega) only [L_X6_run_14, c1, c2, hR.zx, c3, a32, hne, e1, z_u2j _ _ _ _ h54, z_lit, z_nI_le, z_nI_lt, z_nI_inj, z_inb, z_nI_tn, z_nI_add, z_nI_mul, z_bitN, z_zb, z_0add, z_add0, z_0or, z_or0, Option.bind_some, decide_eq_true_eq, Nat.zero_add, Nat.add_zero, ↓reduceIte, zbI, Bool.false_eq_true]
          simp (discharger := omega) only [z_lit, z_nI_le, z_nI_lt, z_nI_inj, z_inb, z_nI_tn, z_nI_add, z_nI_mul, z_bitN, z_zb, z_0add, z_add0, z_0or, z_or0, Option.bind_some, decide_eq_true_eq, Nat.zero_add, Nat.add_zero, ↓reduceIte, zbI, Bool.not_false, Bool.false_eq_true] at q1
          exact q1
        · simp (discharger := omega) only [L_X6_run_14, c1, c2, hR.zx, c3, a32, hne, e1, z_u2j _ _ _ _ h54, t10, z_lit, z_nI_le, z_nI_lt, z_nI_inj, z_inb, z_nI_tn, z_nI_add, z_nI_mul, z_bitN, z_zb, z_0add, z_add0, z_0or, z_or0, Option.bind_some, decide_eq_true_eq, Nat.zero_add, Nat.add_zero, ↓reduceIte, zbI]
          simp (discharger := omega) only [z_lit, z_nI_le, z_nI_lt, z_nI_inj, z_inb, z_nI_tn, z_nI_add, z_nI_mul, z_bitN, z_zb, z_0add, z_add0, z_0or, z_or0, Option.bind_some, decide_eq_true_eq, Nat.zero_add, Nat.add_zero, ↓reduceIte, zbI, Bool.not_true, Bool.false_eq_true] at q1
          exact q1
      · have hne : ¬ m a = nI 4 := by
          rcases hst with ⟨_, h⟩ | ⟨_, h⟩ | ⟨_, _, _, _, _, h, _⟩ | ⟨_, _, _, _, _, _, _, h, _⟩ <;> rw [h] <;> decide
        have i0 : a < 200 := by omega
        have i1 : a + 1 < 200 := by omega
        have i2 : a + 2 < 200 := by omega
        have i3 : a + 3 < 200 := by omega
        rw [m16] at e2
        unfold zCM at q2
        cases r
        · simp (discharger := omega) only [L_X9_goesSteps_2, c2, hR.zm, c3, m16, hne, i0, i1, i2, i3, e2, z_lit, z_nI_le, z_nI_lt, z_nI_inj, z_inb, z_nI_tn, z_nI_add, z_nI_mul, z_bitN, z_zb, z_0add, z_add0, z_0or, z_or0, Option.bind_some, decide_eq_true_eq, Nat.zero_add, Nat.add_zero, ↓reduceIte, zbI, Bool.false_eq_true]
          simp (discharger := omega) only [z_lit, z_nI_le, z_nI_lt, z_nI_inj, z_inb, z_nI_tn, z_nI_add, z_nI_mul, z_bitN, z_zb, z_0add, z_add0, z_0or, z_or0, Option.bind_some, decide_eq_true_eq, Nat.zero_add, Nat.add_zero, ↓reduceIte, Bool.false_eq_true] at q2
          exact q2
        · simp (discharger := omega) only [L_X9_goesSteps_2, c2, hR.zm, c3, m16, hne, i0, i1, i2, i3, e2, t10, z_lit, z_nI_le, z_nI_lt, z_nI_inj, z_inb, z_nI_tn, z_nI_add, z_nI_mul, z_bitN, z_zb, z_0add, z_add0, z_0or, z_or0, Option.bind_some, decide_eq_true_eq, Nat.zero_add, Nat.add_zero, ↓reduceIte, zbI]
          simp (discharger := omega) only [z_lit, z_nI_le, z_nI_lt, z_nI_inj, z_inb, z_nI_tn, z_nI_add, z_nI_mul, z_bitN, z_zb, z_0add, z_add0, z_0or, z_or0, Option.bind_some, decide_eq_true_eq, Nat.zero_add, Nat.add_zero, ↓reduceIte] at q2
          exact q2
    · -- an again
      have c2 : ¬ b ≤ a := by omega
      obtain ⟨D', rfl⟩ : ∃ D0, D = D0 + 2 := ⟨D - 2, by omega⟩
      obtain ⟨E', rfl⟩ : ∃ E0, E = E0 + 2 := ⟨E - 2, by omega⟩
      have i0 : a < 200 := by omega
      have i1 : a + 1 < 200 := by omega
      have i2 : a + 2 < 200 := by omega
      have rounds : ∀ (j r F F' z1 : Nat) (X1 M1 : TX), r + j = t → j < F → j < F' → z + 1 ≤ z1 → zRr n K c m z1 X1 M1 →
          ∃ z' X' M', L_X6_run_77 (f_X6_run (D' + 1)) (L_X6_run_14 (f_X6_run (D' + 1)) f) F X1 (nI b) (nI o) (nI a) (nI i) (nI e) (nI r) = some X' ∧ L_X9_goesSteps_50 (f_X9_goesSteps (E' + 1)) (L_X9_goesSteps_2 (f_X9_goesSteps (E' + 1)) f') F' M1 (nI b) (nI a) (nI e) (nI r) = some M' ∧ z1 ≤ z' ∧ zRr n K c m z' X' M' ∧ zGX X1 X' ∧ zGM M1 M' := by
        intro j
        induction j with
        | zero =>
          intro r F F' z1 X1 M1 hr hF hF' hz1 hR1
          obtain ⟨F, rfl⟩ : ∃ F0, F = F0 + 1 := ⟨F - 1, by omega⟩
          obtain ⟨F', rfl⟩ : ∃ F0, F' = F0 + 1 := ⟨F' - 1, by omega⟩
          obtain ⟨z', X', M', q1, q2, q3, q4, q5, q6⟩ := ih d e b (D' + 2) (E' + 2) o (i + 1) z1 f f' X1 M1 hP2 hb (by omega) (by omega) ho hR1 (by omega) (by omega) (by omega)
          have b32 : f_X8_at 32 X1 (nI (a + 1)) = some (nI t) := by rw [z_at (show a + 1 < lenX 32 by show a + 1 < 150; omega) (by decide), hR1.cc, h3]
          have hm1 : M1 16 (a + 1) = nI t := by rw [hR1.mm, h4]
          have hrt : t ≤ r := by omega
          refine ⟨z', X', M', ?_, ?_, q3, q4, q5, q6⟩
          · simp (discharger := omega) only [L_X6_run_77, b32, hrt, z_lit, z_nI_le, z_nI_lt, z_nI_inj, z_inb, z_nI_tn, z_nI_add, z_nI_mul, z_bitN, z_zb, z_0add, z_add0, z_0or, z_or0, Option.bind_some, decide_eq_true_eq, Nat.zero_add, Nat.add_zero, ↓reduceIte]
            exact q1
          · simp (discharger := omega) only [L_X9_goesSteps_50, i1, hm1, hrt, z_lit, z_nI_le, z_nI_lt, z_nI_inj, z_inb, z_nI_tn, z_nI_add, z_nI_mul, z_bitN, z_zb, z_0add, z_add0, z_0or, z_or0, Option.bind_some, decide_eq_true_eq, Nat.zero_add, Nat.add_zero, ↓reduceIte]
            exact q2
        | succ j jh =>
          intro r F F' z1 X1 M1 hr hF hF' hz1 hR1
          obtain ⟨F, rfl⟩ : ∃ F0, F = F0 + 1 := ⟨F - 1, by omega⟩
          obtain ⟨F', rfl⟩ : ∃ F0, F' = F0 + 1 := ⟨F' - 1, by omega⟩
          have b32 : f_X8_at 32 X1 (nI (a + 1)) = some (nI t) := by rw [z_at (show a + 1 < lenX 32 by show a + 1 < 150; omega) (by decide), hR1.cc, h3]
          have hm1 : M1 16 (a + 1) = nI t := by rw [hR1.mm, h4]
          have hrt : ¬ t ≤ r := by omega
          have hz12 := hR1.z2
          by_cases c5 : z1 = 200
          · -- nothing more is done
            obtain ⟨z', X', M', q1, q2, q3, q4, q5, q6⟩ := ih d e b (D' + 2) (E' + 2) o (i + 1) z1 f f' X1 M1 hP2 hb (by omega) (by omega) ho hR1 (by omega) (by omega) (by omega)
            refine ⟨z', X', M', ?_, ?_, q3, q4, q5, q6⟩
            · rw [z6_idle77 (by rw [hR1.zx, c5]) D' _ (by omega) ht (by rw [hR1.cc, h3]) _ _ _ _ (j + 1) r (F + 1) (by omega) (by omega)]
              have : nI i + 1 = nI (i + 1) := z_nI_succ i
              rw [this]; exact q1
            · have c6 : 200 ≤ z1 := by omega
              simp (discharger := omega) only [L_X9_goesSteps_50, i1, hm1, hrt, hR1.zm, c6, z_lit, z_nI_le, z_nI_lt, z_nI_inj, z_inb, z_nI_tn, z_nI_add, z_nI_mul, z_bitN, z_zb, z_0add, z_add0, z_0or, z_or0, Option.bind_some, decide_eq_true_eq, Nat.zero_add, Nat.add_zero, ↓reduceIte]
              exact q2
          · have c6 : ¬ 200 ≤ z1 := by omega
            obtain ⟨z2, X2, M2, q1, q2, q3, q4, q5, q6⟩ := ih (d - 1) (a + 4) e (D' + 1) (E' + 1) (o + 1) 0 z1 FU FU X1 M1 hP1 (by omega) (by omega) (by omega) (by omega) hR1 (by omega) (by unfold FU; omega) (by unfold FU; omega)
            obtain ⟨z', X', M', p1, p2, p3, p4, p5, p6⟩ := jh (r + 1) F F' z2 X2 M2 (by omega) (by omega) (by omega) (by omega) q4
            have ho6 : o + 1 ≤ 6 := by omega
            have r1 : f_X6_run (D' + 1) X1 (nI (a + 4)) (nI e) (nI (o + 1)) = some X2 := by
              have e1 : f_X6_run (D' + 1) X1 (nI (a + 4)) (nI e) (nI (o + 1)) = if nI (o + 1) ≤ (6 : Int32) then L_X6_run_14 (f_X6_run D') FU X1 (nI e) (nI (o + 1)) (nI (a + 4)) 0 else some X1 := rfl
              have e6 : nI (o + 1) ≤ (6 : Int32) := (z_nI_le (i := o + 1) (j := 6) (by omega) (by omega)).2 ho6
              rw [e1, if_pos e6]
              exact q1
            have r2 : f_X9_goesSteps (E' + 1) M1 (nI (a + 4)) (nI e) = some M2 := q2
            refine ⟨z', X', M', ?_, ?_, by omega, p4, q5.trans p5, q6.trans p6⟩
            · simp (discharger := omega) only [L_X6_run_77, b32, hrt, r1, z_lit, z_nI_le, z_nI_lt, z_nI_inj, z_inb, z_nI_tn, z_nI_add, z_nI_mul, z_bitN, z_zb, z_0add, z_add0, z_0or, z_or0, Option.bind_some, decide_eq_true_eq, Nat.zero_add, Nat.add_zero, ↓reduceIte]
              exact p1
            · simp (discharger := omega) only [L_X9_goesSteps_50, i1, hm1, hrt, hR1.zm, c6, r2, z_lit, z_nI_le, z_nI_lt, z_nI_inj, z_inb, z_nI_tn, z_nI_add, z_nI_mul, z_bitN, z_zb, z_0add, z_add0, z_0or, z_or0, Option.bind_some, decide_eq_true_eq, Nat.zero_add, Nat.add_zero, ↓reduceIte]
              exact p2
      obtain ⟨z', X', M', q1, q2, q3, q4, q5, q6⟩ := rounds t 0 FU FU (z + 1) _ _ (by omega) (by unfold FU; omega) (by unfold FU; omega) (Nat.le_refl _) hRb
      refine ⟨z', X', M', ?_, ?_, by omega, q4, bx.trans q5, bm.trans q6⟩
      · have ha150 : a < 150 := by omega
        simp (discharger := omega) only [L_X6_run_14, c1, c2, hR.zx, c3, a32, h1, h5, z_lit, z_nI_le, z_nI_lt, z_nI_inj, z_inb, z_nI_tn, z_nI_add, z_nI_mul, z_bitN, z_zb, z_0add, z_add0, z_0or, z_or0, Option.bind_some, decide_eq_true_eq, Nat.zero_add, Nat.add_zero, ↓reduceIte]
        exact q1
      · simp (discharger := omega) only [L_X9_goesSteps_2, c2, hR.zm, c3, m16, h2, h6, i0, i2, z_lit, z_nI_le, z_nI_lt, z_nI_inj, z_inb, z_nI_tn, z_nI_add, z_nI_mul, z_bitN, z_zb, z_0add, z_add0, z_0or, z_or0, Option.bind_some, decide_eq_true_eq, Nat.zero_add, Nat.add_zero, ↓reduceIte]
        exact q2
