set_option linter.unusedVariables false
/-- the number of the tide to come, 0 without tides -/
def zTx (K : TX) (s : Nat → Int32) : Nat := if K 0 20 = nI 0 then 0 else zTix K s
theorem z3_tideX {n : Nat} {K X : TX} (hE : zE n K X) {s : Nat → Int32} (hy : zYr 1000 s) : f_X3_tideOf X (s 32) = some (nI (zTx K s)) := by
  unfold zTx
  by_cases h : K 0 20 = nI 0
  · rw [if_pos h]
    obtain ⟨t, ht, e1, e2, _⟩ := hE.td
    have ht0 : t = 0 := (z_nI_inj (by omega) (by omega)).1 (e2.symm.trans h)
    unfold f_X3_tideOf
    rw [e1, ht0, if_pos (by decide)]; rfl
  · rw [if_neg h]; exact (z3_tideOf hE hy h).1
theorem zTx_le {n : Nat} {K X : TX} (hE : zE n K X) {s : Nat → Int32} (hy : zYr 1000 s) : zTx K s < 6 := by
  unfold zTx
  by_cases h : K 0 20 = nI 0
  · rw [if_pos h]; omega
  · rw [if_neg h]
    obtain ⟨_, a, b, _, _, hix, _⟩ := z3_tideOf hE hy h
    exact hix
/-- two years are alike -/
noncomputable def zAk (K : TX) (n : Nat) (s : Nat → Int32) (i j : Nat) : Bool := @decide ((∀ k, k < 31 → zYs K n s i k = zYs K n s j k) ∧ zTx K (zYs K n s i) = zTx K (zYs K n s j)) (Classical.propDecidable _)
theorem zAk_t {K : TX} {n : Nat} {s : Nat → Int32} {i j : Nat} (h : (∀ k, k < 31 → zYs K n s i k = zYs K n s j k) ∧ zTx K (zYs K n s i) = zTx K (zYs K n s j)) : zAk K n s i j = true := @decide_eq_true _ (Classical.propDecidable _) h
theorem zAk_f {K : TX} {n : Nat} {s : Nat → Int32} {i j : Nat} (h : ¬ ((∀ k, k < 31 → zYs K n s i k = zYs K n s j k) ∧ zTx K (zYs K n s i) = zTx K (zYs K n s j))) : zAk K n s i j = false := @decide_eq_false _ (Classical.propDecidable _) h
theorem zYs_yr {n : Nat} {K X : TX} {s : Nat → Int32} (h10 : n ≤ 10) (hy : zYr 400 s) : ∀ i, zYr (400 + i) (zYs K n s i)
  | 0 => hy
  | i + 1 => zDr_yr h10 (zTi_yr (zYs_yr (X := X) h10 hy i))
theorem z5_isAlike {n : Nat} {K X : TX} {s : Nat → Int32} (hE : zE n K X) (hy : zYr 400 s) (hrow : ∀ i, i ≤ 60 → zRx (fun j => X 36 (34 * i + j)) (zYs K n s i)) {i j : Nat} (hi : i ≤ 60) (hj : j ≤ 60) : f_X5_isAlike X (nI (34 * i)) (nI (34 * j)) = some (zbI (zAk K n s i j)) := by
  have h10 := hE.n10
  have a36 : ∀ p, p < 2074 → f_X8_at 36 X (nI p) = some (X 36 p) := fun p hp => z_at (show p < lenX 36 from hp) (by decide)
  have yr : ∀ i, i ≤ 60 → zYr 1000 (zYs K n s i) := fun i hi => (zYs_yr (X := X) h10 hy i).mono (by omega)
  have cell : ∀ i, i ≤ 60 → ∀ k, k < 31 → X 36 (34 * i + k) = zYs K n s i k := fun i hi k hk => by
    by_cases c : k = 30
    · subst c; exact (hrow i hi).2.1
    · exact (hrow i hi).1 k (by omega)
  have yc : ∀ i, i ≤ 60 → X 36 (34 * i + 31) = zYs K n s i 32 := fun i hi => (hrow i hi).2.2.1
  -- from cell k on
  have key : ∀ m k f, k + m = 31 → m < f → (∀ e, e < k → zYs K n s i e = zYs K n s j e) → L_X5_isAlike_2 f X (nI (34 * i)) (nI (34 * j)) (nI k) = some (zbI (zAk K n s i j)) := fun m => by
    induction m with
    | zero =>
      intro k f hk hf he
      obtain ⟨f, rfl⟩ : ∃ f0, f = f0 + 1 := ⟨f - 1, by omega⟩
      have hk31 : k = 31 := by omega
      subst hk31
      have c : 30 < 31 := by omega
      have y1 := yc i hi
      have y2 := yc j hj
      have t1 := z3_tideX hE (yr i hi)
      have t2 := z3_tideX hE (yr j hj)
      have l1 := zTx_le hE (yr i hi)
      have l2 := zTx_le hE (yr j hj)
      by_cases ct : zTx K (zYs K n s i) = zTx K (zYs K n s j)
      · have : (∀ k, k < 31 → zYs K n s i k = zYs K n s j k) ∧ zTx K (zYs K n s i) = zTx K (zYs K n s j) := ⟨he, ct⟩
        rw [zAk_t this]
        simp (discharger := omega) only [L_X5_isAlike_2, c, a36, y1, y2, t1, t2, ct, zbI, z_lit, z_nI_le, z_nI_lt, z_nI_inj, z_inb, z_nI_tn, z_nI_add, z_nI_mul, z_bitN, z_zb, z_0add, z_add0, z_0or, z_or0, Option.bind_some, decide_eq_true_eq, Nat.zero_add, Nat.add_zero, ↓reduceIte]
      · have : ¬ ((∀ k, k < 31 → zYs K n s i k = zYs K n s j k) ∧ zTx K (zYs K n s i) = zTx K (zYs K n s j)) := fun h => ct h.2
        rw [zAk_f this]
        simp (discharger := omega) only [L_X5_isAlike_2, c, a36, y1, y2, t1, t2, ct, zbI, Bool.false_eq_true, z_lit, z_nI_le, z_nI_lt, z_nI_inj, z_inb, z_nI_tn, z_nI_add, z_nI_mul, z_bitN, z_zb, z_0add, z_add0, z_0or, z_or0, Option.bind_some, decide_eq_true_eq, Nat.zero_add, Nat.add_zero, ↓reduceIte]
    | succ m ih =>
      intro k f hk hf he
      obtain ⟨f, rfl⟩ : ∃ f0, f = f0 + 1 := ⟨f - 1, by omega⟩
      have c : ¬ 30 < k := by omega
      have y1 := cell i hi k (by omega)
      have y2 := cell j hj k (by omega)
      by_cases ck : zYs K n s i k = zYs K n s j k
      · have := ih (k + 1) f (by omega) (by omega) (fun e h => by
          by_cases ce : e = k
          · subst ce; exact ck
          · exact he e (by omega))
        simp (discharger := omega) only [L_X5_isAlike_2, c, a36, y1, y2, ck, this, z_lit, z_nI_le, z_nI_lt, z_nI_inj, z_inb, z_nI_tn, z_nI_add, z_nI_mul, z_bitN, z_zb, z_0add, z_add0, z_0or, z_or0, Option.bind_some, decide_eq_true_eq, Nat.zero_add, Nat.add_zero, ↓reduceIte]
      · have : ¬ ((∀ k, k < 31 → zYs K n s i k = zYs K n s j k) ∧ zTx K (zYs K n s i) = zTx K (zYs K n s j)) := fun h => ck (h.1 k (by omega))
        rw [zAk_f this]
        simp (discharger := omega) only [L_X5_isAlike_2, c, a36, y1, y2, ck, zbI, Bool.false_eq_true, z_lit, z_nI_le, z_nI_lt, z_nI_inj, z_inb, z_nI_tn, z_nI_add, z_nI_mul, z_bitN, z_zb, z_0add, z_add0, z_0or, z_or0, Option.bind_some, decide_eq_true_eq, Nat.zero_add, Nat.add_zero, ↓reduceIte]
  exact key 31 0 FU (by omega) (by unfold FU; omega) (fun e h => absurd h (by omega))
theorem z9_alike {n : Nat} {K M : TX} {s : Nat → Int32} (hcell : ∀ i, i ≤ 60 → (∀ k, k < 31 → M 22 (32 * i + k) = zYs K n s i k) ∧ M 22 (32 * i + 31) = nI (zTx K (zYs K n s i))) (hlt : ∀ i, i ≤ 60 → zTx K (zYs K n s i) < 6) {i j : Nat} (hi : i ≤ 60) (hj : j ≤ 60) : f_X9_areAlike M (nI i) (nI j) = some (zbI (zAk K n s i j)) := by
  have key : ∀ m k f, k + m = 32 → m < f → (∀ e, e < k → M 22 (32 * i + e) = M 22 (32 * j + e)) → L_X9_areAlike_2 f M (nI i) (nI j) (nI k) = some (zbI (zAk K n s i j)) := fun m => by
    induction m with
    | zero =>
      intro k f hk hf he
      obtain ⟨f, rfl⟩ : ∃ f0, f = f0 + 1 := ⟨f - 1, by omega⟩
      have hk32 : k = 32 := by omega
      subst hk32
      have t : (∀ k, k < 31 → zYs K n s i k = zYs K n s j k) ∧ zTx K (zYs K n s i) = zTx K (zYs K n s j) := by
        refine ⟨fun k hk => ?_, ?_⟩
        · rw [← (hcell i hi).1 k hk, ← (hcell j hj).1 k hk]; exact he k (by omega)
        · have := he 31 (by omega)
          rw [(hcell i hi).2, (hcell j hj).2] at this
          have l1 := hlt i hi
          have l2 := hlt j hj
          exact (z_nI_inj (by omega) (by omega)).1 this
      rw [zAk_t t]
      simp (discharger := omega) only [L_X9_areAlike_2, Nat.le_refl, zbI, z_lit, z_nI_le, z_nI_lt, z_nI_inj, z_inb, z_nI_tn, z_nI_add, z_nI_mul, z_bitN, z_zb, z_0add, z_add0, z_0or, z_or0, Option.bind_some, decide_eq_true_eq, Nat.zero_add, Nat.add_zero, ↓reduceIte]
    | succ m ih =>
      intro k f hk hf he
      obtain ⟨f, rfl⟩ : ∃ f0, f = f0 + 1 := ⟨f - 1, by omega⟩
      have c : ¬ 32 ≤ k := by omega
      have b1 : 32 * i + k < 1952 := by omega
      have b2 : 32 * j + k < 1952 := by omega
      by_cases ck : M 22 (32 * i + k) = M 22 (32 * j + k)
      · have := ih (k + 1) f (by omega) (by omega) (fun e h => by
          by_cases ce : e = k
          · subst ce; exact ck
          · exact he e (by omega))
        simp (discharger := omega) only [L_X9_areAlike_2, c, b1, b2, ck, this, z_lit, z_nI_le, z_nI_lt, z_nI_inj, z_inb, z_nI_tn, z_nI_add, z_nI_mul, z_bitN, z_zb, z_0add, z_add0, z_0or, z_or0, Option.bind_some, decide_eq_true_eq, Nat.zero_add, Nat.add_zero, ↓reduceIte]
      · have : ¬ ((∀ k, k < 31 → zYs K n s i k = zYs K n s j k) ∧ zTx K (zYs K n s i) = zTx K (zYs K n s j)) := fun h => ck (by
          by_cases c31 : k = 31
          · subst c31; rw [(hcell i hi).2, (hcell j hj).2, h.2]
          · rw [(hcell i hi).1 k (by omega), (hcell j hj).1 k (by omega)]; exact h.1 k (by omega))
        rw [zAk_f this]
        simp (discharger := omega) only [L_X9_areAlike_2, c, b1, b2, ck, zbI, Bool.false_eq_true, z_lit, z_nI_le, z_nI_lt, z_nI_inj, z_inb, z_nI_tn, z_nI_add, z_nI_mul, z_bitN, z_zb, z_0add, z_add0, z_0or, z_or0, Option.bind_some, decide_eq_true_eq, Nat.zero_add, Nat.add_zero, ↓reduceIte]
  exact key 32 0 FU (by omega) (by unfold FU; omega) (fun e h => absurd h (by omega))
/-- the search for the round, as both do it: a and b -/
theorem z_roundS {n : Nat} {K X M : TX} {s : Nat → Int32} (w : Int32)
    (hX : ∀ i j, i ≤ 60 → j ≤ 60 → f_X5_isAlike X (nI (34 * i)) (nI (34 * j)) = some (zbI (zAk K n s i j)))
    (hM : ∀ i j, i ≤ 60 → j ≤ 60 → f_X9_areAlike M (nI i) (nI j) = some (zbI (zAk K n s i j))) :
    ∃ a b : Int32, L_X5_findRound_59 FU X 0 = some (u2 (u2 X 34 7 a) 34 8 b) ∧ L_X9_round_119 FU M w 0 = some (M, if w = nI 0 then a else b) := by
  have t10 : ¬ ((1 : Nat) = 0) := by decide
  -- from a on
  have outer : ∀ m i f f', i + m = 60 → m < f → m < f' → ∃ a b : Int32, L_X5_findRound_59 f X (nI i) = some (u2 (u2 X 34 7 a) 34 8 b) ∧ L_X9_round_119 f' M w (nI i) = some (M, if w = nI 0 then a else b) := fun m => by
    induction m with
    | zero =>
      intro i f f' hi hf hf'
      obtain ⟨f, rfl⟩ : ∃ f0, f = f0 + 1 := ⟨f - 1, by omega⟩
      obtain ⟨f', rfl⟩ : ∃ f0, f' = f0 + 1 := ⟨f' - 1, by omega⟩
      have c : 60 ≤ i := by omega
      refine ⟨-nI 1, -nI 1, ?_, ?_⟩
      · simp (discharger := omega) only [L_X5_findRound_59, c, z_lit, z_nI_le, z_nI_lt, z_nI_inj, z_inb, z_nI_tn, z_nI_add, z_nI_mul, z_bitN, z_zb, z_0add, z_add0, z_0or, z_or0, Option.bind_some, decide_eq_true_eq, Nat.zero_add, Nat.add_zero, ↓reduceIte]
      · rw [ite_self]
        simp (discharger := omega) only [L_X9_round_119, c, z_lit, z_nI_le, z_nI_lt, z_nI_inj, z_inb, z_nI_tn, z_nI_add, z_nI_mul, z_bitN, z_zb, z_0add, z_add0, z_0or, z_or0, Option.bind_some, decide_eq_true_eq, Nat.zero_add, Nat.add_zero, ↓reduceIte]
    | succ m ih =>
      intro i f f' hi hf hf'
      obtain ⟨f, rfl⟩ : ∃ f0, f = f0 + 1 := ⟨f - 1, by omega⟩
      obtain ⟨f', rfl⟩ : ∃ f0, f' = f0 + 1 := ⟨f' - 1, by omega⟩
      have c : ¬ 60 ≤ i := by omega
      have inner : ∀ r b g g', i + b + r = 61 → 1 ≤ b → r < g → r < g' → ∃ a' b' : Int32, L_X5_findRound_67 (L_X5_findRound_59 f) g X (nI i) (nI b) = some (u2 (u2 X 34 7 a') 34 8 b') ∧ L_X9_round_127 (L_X9_round_119 f') g' M w (nI i) (nI b) = some (M, if w = nI 0 then a' else b') := fun r => by
        induction r with
        | zero =>
          intro b g g' hb hb1 hg hg'
          obtain ⟨g, rfl⟩ : ∃ f0, g = f0 + 1 := ⟨g - 1, by omega⟩
          obtain ⟨g', rfl⟩ : ∃ f0, g' = f0 + 1 := ⟨g' - 1, by omega⟩
          obtain ⟨a', b', k1, k2⟩ := ih (i + 1) f f' (by omega) (by omega) (by omega)
          have c2 : 60 < i + b := by omega
          refine ⟨a', b', ?_, ?_⟩
          · simp (discharger := omega) only [L_X5_findRound_67, c2, z_lit, z_nI_le, z_nI_lt, z_nI_inj, z_inb, z_nI_tn, z_nI_add, z_nI_mul, z_bitN, z_zb, z_0add, z_add0, z_0or, z_or0, Option.bind_some, decide_eq_true_eq, Nat.zero_add, Nat.add_zero, ↓reduceIte]; exact k1
          · simp (discharger := omega) only [L_X9_round_127, c2, z_lit, z_nI_le, z_nI_lt, z_nI_inj, z_inb, z_nI_tn, z_nI_add, z_nI_mul, z_bitN, z_zb, z_0add, z_add0, z_0or, z_or0, Option.bind_some, decide_eq_true_eq, Nat.zero_add, Nat.add_zero, ↓reduceIte]; exact k2
        | succ r jh =>
          intro b g g' hb hb1 hg hg'
          obtain ⟨g, rfl⟩ : ∃ f0, g = f0 + 1 := ⟨g - 1, by omega⟩
          obtain ⟨g', rfl⟩ : ∃ f0, g' = f0 + 1 := ⟨g' - 1, by omega⟩
          have c2 : ¬ 60 < i + b := by omega
          have hx := hX i (i + b) (by omega) (by omega)
          have hm := hM i (i + b) (by omega) (by omega)
          rw [Nat.mul_comm 34 i, Nat.mul_comm 34 (i + b)] at hx
          by_cases ca : zAk K n s i (i + b) = true
          · rw [ca] at hx hm
            refine ⟨nI i, nI b, ?_, ?_⟩
            · simp (discharger := omega) only [L_X5_findRound_67, c2, hx, zbI, t10, z_lit, z_nI_le, z_nI_lt, z_nI_inj, z_inb, z_nI_tn, z_nI_add, z_nI_mul, z_bitN, z_zb, z_0add, z_add0, z_0or, z_or0, Option.bind_some, decide_eq_true_eq, Nat.zero_add, Nat.add_zero, ↓reduceIte]
            · by_cases cw : w = nI 0
              · simp (discharger := omega) only [L_X9_round_127, c2, hm, cw, zbI, t10, z_lit, z_nI_le, z_nI_lt, z_nI_inj, z_inb, z_nI_tn, z_nI_add, z_nI_mul, z_bitN, z_zb, z_0add, z_add0, z_0or, z_or0, Option.bind_some, decide_eq_true_eq, Nat.zero_add, Nat.add_zero, ↓reduceIte]
              · simp (discharger := omega) only [L_X9_round_127, c2, hm, cw, zbI, t10, z_lit, z_nI_le, z_nI_lt, z_nI_inj, z_inb, z_nI_tn, z_nI_add, z_nI_mul, z_bitN, z_zb, z_0add, z_add0, z_0or, z_or0, Option.bind_some, decide_eq_true_eq, Nat.zero_add, Nat.add_zero, ↓reduceIte]
          · rw [Bool.eq_false_iff.2 ca] at hx hm
            obtain ⟨a', b', k1, k2⟩ := jh (b + 1) g g' (by omega) (by omega) (by omega) (by omega)
            refine ⟨a', b', ?_, ?_⟩
            · simp (discharger := omega) only [L_X5_findRound_67, c2, hx, zbI, Bool.false_eq_true, z_lit, z_nI_le, z_nI_lt, z_nI_inj, z_inb, z_nI_tn, z_nI_add, z_nI_mul, z_bitN, z_zb, z_0add, z_add0, z_0or, z_or0, Option.bind_some, decide_eq_true_eq, Nat.zero_add, Nat.add_zero, ↓reduceIte]; exact k1
            · simp (discharger := omega) only [L_X9_round_127, c2, hm, zbI, Bool.false_eq_true, z_lit, z_nI_le, z_nI_lt, z_nI_inj, z_inb, z_nI_tn, z_nI_add, z_nI_mul, z_bitN, z_zb, z_0add, z_add0, z_0or, z_or0, Option.bind_some, decide_eq_true_eq, Nat.zero_add, Nat.add_zero, ↓reduceIte]; exact k2
      obtain ⟨a', b', k1, k2⟩ := inner (60 - i) 1 FU FU (by omega) (by omega) (by unfold FU; omega) (by unfold FU; omega)
      refine ⟨a', b', ?_, ?_⟩
      · simp (discharger := omega) only [L_X5_findRound_59, c, z_lit, z_nI_le, z_nI_lt, z_nI_inj, z_inb, z_nI_tn, z_nI_add, z_nI_mul, z_bitN, z_zb, z_0add, z_add0, z_0or, z_or0, Option.bind_some, decide_eq_true_eq, Nat.zero_add, Nat.add_zero, ↓reduceIte]; exact k1
      · simp (discharger := omega) only [L_X9_round_119, c, z_lit, z_nI_le, z_nI_lt, z_nI_inj, z_inb, z_nI_tn, z_nI_add, z_nI_mul, z_bitN, z_zb, z_0add, z_add0, z_0or, z_or0, Option.bind_some, decide_eq_true_eq, Nat.zero_add, Nat.add_zero, ↓reduceIte]; exact k2
  exact outer 60 0 FU FU (by omega) (by unfold FU; omega) (by unfold FU; omega)
