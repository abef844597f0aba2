set_option linter.unusedVariables false
/-- the reference's new row -/
theorem z9_sets134 {n : Nat} {A : TX} (hn : A 0 19 = nI n) (h10 : n ≤ 10) (h0 : ∀ j, j < 34 → A 19 j = nI 0) :
    ∃ N, L_X9_sets_134 FU A (nI 0) = some N ∧ (∀ k, k ≠ 19 → N k = A k) ∧ (∀ p, p < n → N 19 p = A 6 (3 * p) ∧ N 19 (10 + p) = A 6 (3 * p + 1) ∧ N 19 (20 + p) = A 6 (3 * p + 2)) ∧ (∀ p, n ≤ p → p < 10 → N 19 p = nI 0 ∧ N 19 (10 + p) = nI 0 ∧ N 19 (20 + p) = nI 0) ∧ N 19 30 = -nI 1 ∧ N 19 31 = nI 0 ∧ N 19 32 = nI 0 ∧ N 19 33 = nI 0 := by
  have l := z_loopE (fun f i N => L_X9_sets_134 f N i) (fun i N => (∀ k, k ≠ 19 → N k = A k) ∧ (∀ p, p < i → N 19 p = A 6 (3 * p) ∧ N 19 (10 + p) = A 6 (3 * p + 1) ∧ N 19 (20 + p) = A 6 (3 * p + 2)) ∧ (∀ p, i ≤ p → p < 10 → N 19 p = nI 0 ∧ N 19 (10 + p) = nI 0 ∧ N 19 (20 + p) = nI 0) ∧ ∀ j, 30 ≤ j → j < 34 → N 19 j = nI 0) (fun N => some (u2 N 19 30 (-nI 1))) n ?_ ?_ n 0 FU A ⟨fun _ _ => rfl, fun p hp => absurd hp (by omega), fun p _ hp => ⟨h0 p (by omega), h0 (10 + p) (by omega), h0 (20 + p) (by omega)⟩, fun j _ hj => h0 j hj⟩ (by omega) (by unfold FU; omega)
  · obtain ⟨N, l1, l2, l3, l4, l5⟩ := l
    refine ⟨u2 N 19 30 (-nI 1), l1, fun k a => (z_u2k _ _ _ _ a).trans (l2 k a), fun p hp => ?_, fun p hp hp2 => ?_, z_u2s _ _ _ _, ?_, ?_, ?_⟩
    · rw [z_u2j _ _ _ _ (by omega), z_u2j _ _ _ _ (by omega), z_u2j _ _ _ _ (by omega)]; exact l3 p hp
    · rw [z_u2j _ _ _ _ (by omega), z_u2j _ _ _ _ (by omega), z_u2j _ _ _ _ (by omega)]; exact l4 p hp hp2
    · rw [z_u2j _ _ _ _ (by decide)]; exact l5 31 (by omega) (by omega)
    · rw [z_u2j _ _ _ _ (by decide)]; exact l5 32 (by omega) (by omega)
    · rw [z_u2j _ _ _ _ (by decide)]; exact l5 33 (by omega) (by omega)
  · rintro f N ⟨h1, _⟩
    have hn2 : N 0 19 = nI n := by rw [h1 0 (by decide)]; exact hn
    have c30 : (30 : Nat) < 34 := by omega
    simp (discharger := omega) only [L_X9_sets_134, hn2, z_lit, z_nI_le, z_nI_lt, z_nI_inj, z_inb, z_nI_tn, z_nI_add, z_nI_mul, z_bitN, z_zb, z_0add, z_add0, z_0or, z_or0, Option.bind_some, decide_eq_true_eq, Nat.zero_add, Nat.add_zero, Nat.le_refl, c30, ↓reduceIte]
  · rintro f i N hi ⟨h1, h2, h3, h4⟩
    have hn2 : N 0 19 = nI n := by rw [h1 0 (by decide)]; exact hn
    have c : ¬ n ≤ i := by omega
    have c1 : 3 * i < 30 := by omega
    have c2 : i < 34 := by omega
    have c3 : 3 * i + 1 < 30 := by omega
    have c4 : 10 + i < 34 := by omega
    have c5 : 3 * i + 2 < 30 := by omega
    have c6 : 20 + i < 34 := by omega
    have h6 : N 6 = A 6 := h1 6 (by decide)
    refine ⟨u2 (u2 (u2 N 19 i (N 6 (3 * i))) 19 (10 + i) (N 6 (3 * i + 1))) 19 (20 + i) (N 6 (3 * i + 2)), ?_, fun k a => ?_, fun p hp => ?_, fun p hp hp2 => ?_, fun j hj hj2 => ?_⟩
    · simp (discharger := omega) only [L_X9_sets_134, hn2, z_lit, z_nI_le, z_nI_lt, z_nI_inj, z_inb, z_nI_tn, z_nI_add, z_nI_mul, z_bitN, z_zb, z_0add, z_add0, z_0or, z_or0, Option.bind_some, decide_eq_true_eq, Nat.zero_add, Nat.add_zero, z_nI_mul, c, c1, c2, c3, c4, c5, c6, ↓reduceIte]
      rfl
    · rw [z_u2k _ _ _ _ a, z_u2k _ _ _ _ a, z_u2k _ _ _ _ a]; exact h1 k a
    · by_cases d : p = i
      · rw [d, h6]
        refine ⟨?_, ?_, ?_⟩
        · rw [z_u2j _ _ _ _ (by omega), z_u2j _ _ _ _ (by omega), z_u2s]
        · rw [z_u2j _ _ _ _ (by omega), z_u2s]
        · rw [z_u2s]
      · rw [z_u2j _ _ _ _ (by omega), z_u2j _ _ _ _ (by omega), z_u2j _ _ _ _ d, z_u2j _ _ _ _ (by omega), z_u2j _ _ _ _ (by omega), z_u2j _ _ _ _ (by omega), z_u2j _ _ _ _ (by omega), z_u2j _ _ _ _ (by omega), z_u2j _ _ _ _ (by omega)]
        exact h2 p (by omega)
    · rw [z_u2j _ _ _ _ (by omega), z_u2j _ _ _ _ (by omega), z_u2j _ _ _ _ (by omega), z_u2j _ _ _ _ (by omega), z_u2j _ _ _ _ (by omega), z_u2j _ _ _ _ (by omega), z_u2j _ _ _ _ (by omega), z_u2j _ _ _ _ (by omega), z_u2j _ _ _ _ (by omega)]
      exact h3 p (by omega) hp2
    · rw [z_u2j _ _ _ _ (by omega), z_u2j _ _ _ _ (by omega), z_u2j _ _ _ _ (by omega)]
      exact h4 j hj hj2
theorem z9_sets113 {n : Nat} {A : TX} (hn : A 0 19 = nI n) (h10 : n ≤ 10) :
    ∃ N, L_X9_sets_113 FU A (nI 0) = some N ∧ (∀ k, k ≠ 19 → N k = A k) ∧ (∀ p, p < n → N 19 p = A 6 (3 * p) ∧ N 19 (10 + p) = A 6 (3 * p + 1) ∧ N 19 (20 + p) = A 6 (3 * p + 2)) ∧ (∀ p, n ≤ p → p < 10 → N 19 p = nI 0 ∧ N 19 (10 + p) = nI 0 ∧ N 19 (20 + p) = nI 0) ∧ N 19 30 = -nI 1 ∧ N 19 31 = nI 0 ∧ N 19 32 = nI 0 ∧ N 19 33 = nI 0 := by
  have l := z_loopE (fun f i N => L_X9_sets_113 f N i) (fun i N => (∀ k, k ≠ 19 → N k = A k) ∧ ∀ p, p < i → N 19 p = nI 0) (fun N => L_X9_sets_134 FU N (nI 0)) 34 ?_ ?_ 34 0 FU A ⟨fun _ _ => rfl, fun p hp => absurd hp (by omega)⟩ (by omega) (by unfold FU; omega)
  · obtain ⟨N, l1, l2, l3⟩ := l
    obtain ⟨P, g1, g2, g3, g4⟩ := z9_sets134 (n := n) (A := N) (by rw [l2 0 (by decide)]; exact hn) h10 l3
    rw [l2 6 (by decide)] at g3
    exact ⟨P, l1.trans g1, fun k a => (g2 k a).trans (l2 k a), g3, g4⟩
  · rintro f N _
    simp (discharger := omega) only [L_X9_sets_113, z_lit, z_nI_le, z_nI_lt, z_nI_inj, z_inb, z_nI_tn, z_nI_add, z_nI_mul, z_bitN, z_zb, z_0add, z_add0, z_0or, z_or0, Option.bind_some, decide_eq_true_eq, Nat.zero_add, Nat.add_zero, Nat.le_refl, ↓reduceIte]
  · rintro f i N hi ⟨h1, h2⟩
    have c : ¬ 34 ≤ i := by omega
    refine ⟨u2 N 19 i (nI 0), ?_, fun k a => (z_u2k _ _ _ _ a).trans (h1 k a), fun p hp => ?_⟩
    · simp (discharger := omega) only [L_X9_sets_113, c, hi, z_lit, z_nI_le, z_nI_lt, z_nI_inj, z_inb, z_nI_tn, z_nI_add, z_nI_mul, z_bitN, z_zb, z_0add, z_add0, z_0or, z_or0, Option.bind_some, decide_eq_true_eq, Nat.zero_add, Nat.add_zero, ↓reduceIte]
    · by_cases d : p = i
      · rw [d, z_u2s]
      · rw [z_u2j _ _ _ _ d]; exact h2 p (by omega)
theorem z9_sets93 {n : Nat} {A : TX} (hn : A 0 19 = nI n) (h10 : n ≤ 10) :
    ∃ N, L_X9_sets_93 FU A (nI 0) = some N ∧ (∀ k, k ≠ 18 → k ≠ 19 → N k = A k) ∧ (∀ d, d < 4 → N 18 d = -nI 1) ∧ (∀ p, p < n → N 19 p = A 6 (3 * p) ∧ N 19 (10 + p) = A 6 (3 * p + 1) ∧ N 19 (20 + p) = A 6 (3 * p + 2)) ∧ (∀ p, n ≤ p → p < 10 → N 19 p = nI 0 ∧ N 19 (10 + p) = nI 0 ∧ N 19 (20 + p) = nI 0) ∧ N 19 30 = -nI 1 ∧ N 19 31 = nI 0 ∧ N 19 32 = nI 0 ∧ N 19 33 = nI 0 := by
  have l := z_loopE (fun f i N => L_X9_sets_93 f N i) (fun i N => (∀ k, k ≠ 18 → N k = A k) ∧ ∀ p, p < i → N 18 p = -nI 1) (fun N => L_X9_sets_113 FU N (nI 0)) 4 ?_ ?_ 4 0 FU A ⟨fun _ _ => rfl, fun p hp => absurd hp (by omega)⟩ (by omega) (by unfold FU; omega)
  · obtain ⟨N, l1, l2, l3⟩ := l
    obtain ⟨P, g1, g2, g3⟩ := z9_sets113 (n := n) (A := N) (by rw [l2 0 (by decide)]; exact hn) h10
    rw [l2 6 (by decide)] at g3
    exact ⟨P, l1.trans g1, fun k a b => (g2 k b).trans (l2 k a), fun d hd => by rw [g2 18 (by decide)]; exact l3 d hd, g3⟩
  · rintro f N _
    simp (discharger := omega) only [L_X9_sets_93, z_lit, z_nI_le, z_nI_lt, z_nI_inj, z_inb, z_nI_tn, z_nI_add, z_nI_mul, z_bitN, z_zb, z_0add, z_add0, z_0or, z_or0, Option.bind_some, decide_eq_true_eq, Nat.zero_add, Nat.add_zero, Nat.le_refl, ↓reduceIte]
  · rintro f i N hi ⟨h1, h2⟩
    have c : ¬ 4 ≤ i := by omega
    refine ⟨u2 N 18 i (-nI 1), ?_, fun k a => (z_u2k _ _ _ _ a).trans (h1 k a), fun p hp => ?_⟩
    · simp (discharger := omega) only [L_X9_sets_93, c, hi, z_lit, z_nI_le, z_nI_lt, z_nI_inj, z_inb, z_nI_tn, z_nI_add, z_nI_mul, z_bitN, z_zb, z_0add, z_add0, z_0or, z_or0, Option.bind_some, decide_eq_true_eq, Nat.zero_add, Nat.add_zero, ↓reduceIte]
    · by_cases d : p = i
      · rw [d, z_u2s]
      · rw [z_u2j _ _ _ _ d]; exact h2 p (by omega)
theorem z9_sets {n : Nat} {M : TX} (hn : M 0 16 = nI n) (h10 : n ≤ 10) :
    ∃ N, f_X9_sets M = some N ∧ (∀ k, k ≠ 0 → k ≠ 6 → k ≠ 7 → k ≠ 8 → k ≠ 18 → k ≠ 19 → N k = M k) ∧ (∀ j, j ≠ 19 → j ≠ 20 → j ≠ 21 → j ≠ 28 → j ≠ 33 → j ≠ 34 → j ≠ 40 → j ≠ 50 → N 0 j = M 0 j) ∧
      (N 0 19 = nI n ∧ N 0 20 = M 0 17 ∧ N 0 21 = M 0 18 ∧ N 0 28 = nI 0 ∧ N 0 33 = nI 0 ∧ N 0 34 = nI 0 ∧ N 0 40 = nI 0 ∧ N 0 50 = nI 0) ∧
      (∀ p, p < 10 → N 7 p = M 4 p) ∧ (∀ p, p < 12 → N 8 p = M 5 p) ∧
      (∀ d, d < 4 → N 18 d = -nI 1) ∧ (∀ p, p < n → N 19 p = M 3 (3 * p) ∧ N 19 (10 + p) = M 3 (3 * p + 1) ∧ N 19 (20 + p) = M 3 (3 * p + 2)) ∧ (∀ p, n ≤ p → p < 10 → N 19 p = nI 0 ∧ N 19 (10 + p) = nI 0 ∧ N 19 (20 + p) = nI 0) ∧ N 19 30 = -nI 1 ∧ N 19 31 = nI 0 ∧ N 19 32 = nI 0 ∧ N 19 33 = nI 0 := by
  obtain ⟨A, hA⟩ : ∃ A, A = u2 (u2 (u2 M 0 19 (M 0 16)) 0 20 (M 0 17)) 0 21 (M 0 18) := ⟨_, rfl⟩
  obtain ⟨B, b1, b2, b3⟩ := z9_copies (a := 3) (b := 6) (by decide) (M := A) (m := 30) (by decide) (by decide) (by decide)
  obtain ⟨C, c1, c2, c3⟩ := z9_copies (a := 4) (b := 7) (by decide) (M := B) (m := 10) (by decide) (by decide) (by decide)
  obtain ⟨D, d1, d2, d3⟩ := z9_copies (a := 5) (b := 8) (by decide) (M := C) (m := 12) (by decide) (by decide) (by decide)
  obtain ⟨E, hE⟩ : ∃ E, E = u2 (u2 (u2 (u2 (u2 D 0 28 (nI 0)) 0 40 (nI 0)) 0 33 (nI 0)) 0 50 (nI 0)) 0 34 (nI 0) := ⟨_, rfl⟩
  have a0 : ∀ k, k ≠ 0 → A k = M k := fun k a => by rw [hA, z_u2k _ _ _ _ a, z_u2k _ _ _ _ a, z_u2k _ _ _ _ a]
  have ek : ∀ k, k ≠ 0 → E k = D k := fun k a => by rw [hE, z_u2k _ _ _ _ a, z_u2k _ _ _ _ a, z_u2k _ _ _ _ a, z_u2k _ _ _ _ a, z_u2k _ _ _ _ a]
  have D0 : D 0 = A 0 := by rw [d2 0 (by decide), c2 0 (by decide), b2 0 (by decide)]
  have ej : ∀ j, j ≠ 28 → j ≠ 40 → j ≠ 33 → j ≠ 50 → j ≠ 34 → E 0 j = A 0 j := fun j a b c d e => by rw [hE, z_u2j _ _ _ _ e, z_u2j _ _ _ _ d, z_u2j _ _ _ _ c, z_u2j _ _ _ _ b, z_u2j _ _ _ _ a, D0]
  have A19 : A 0 19 = nI n := by rw [hA, z_u2j _ _ _ _ (by decide), z_u2j _ _ _ _ (by decide), z_u2s]; exact hn
  have E19 : E 0 19 = nI n := by rw [ej 19 (by decide) (by decide) (by decide) (by decide) (by decide)]; exact A19
  obtain ⟨N, g1, g2, g3, g4, g5, g6⟩ := z9_sets93 (n := n) (A := E) E19 h10
  have g0 : N 0 = E 0 := g2 0 (by decide) (by decide)
  have E6 : ∀ j, j < 30 → E 6 j = M 3 j := fun j hj => by rw [ek 6 (by decide), d2 6 (by decide), c2 6 (by decide), b3]; show (if j < 30 then A 3 j else A 6 j) = M 3 j; rw [if_pos hj, a0 3 (by decide)]
  refine ⟨N, ?_, fun k a b c d e f => ?_, fun j a b c d e f g h => ?_, ⟨?_, ?_, ?_, ?_, ?_, ?_, ?_, ?_⟩, fun p hp => ?_, fun p hp => ?_, g3, fun p hp => ?_, g5, g6⟩
  · show ((f_X9_copies 3 6 (u2 (u2 (u2 M 0 19 (M 0 16)) 0 20 (M 0 17)) 0 21 (M 0 18)) (nI 30)).bind fun q1 => (f_X9_copies 4 7 q1 (nI 10)).bind fun q2 => (f_X9_copies 5 8 q2 (nI 12)).bind fun q3 => L_X9_sets_93 FU (u2 (u2 (u2 (u2 (u2 q3 0 28 (nI 0)) 0 40 (nI 0)) 0 33 (nI 0)) 0 50 (nI 0)) 0 34 (nI 0)) (nI 0)) = some N
    rw [← hA, b1, Option.bind_some, c1, Option.bind_some, d1, Option.bind_some, ← hE, g1]
  · rw [g2 k e f, ek k a, d2 k d, c2 k c, b2 k b, a0 k a]
  · rw [g0, ej j d g e h f, hA, z_u2j _ _ _ _ c, z_u2j _ _ _ _ b, z_u2j _ _ _ _ a]
  · rw [g0]; exact E19
  · rw [g0, ej 20 (by decide) (by decide) (by decide) (by decide) (by decide), hA, z_u2j _ _ _ _ (by decide), z_u2s]
  · rw [g0, ej 21 (by decide) (by decide) (by decide) (by decide) (by decide), hA, z_u2s]
  · rw [g0, hE, z_u2j _ _ _ _ (by decide), z_u2j _ _ _ _ (by decide), z_u2j _ _ _ _ (by decide), z_u2j _ _ _ _ (by decide), z_u2s]
  · rw [g0, hE, z_u2j _ _ _ _ (by decide), z_u2j _ _ _ _ (by decide), z_u2s]
  · rw [g0, hE, z_u2s]
  · rw [g0, hE, z_u2j _ _ _ _ (by decide), z_u2j _ _ _ _ (by decide), z_u2j _ _ _ _ (by decide), z_u2s]
  · rw [g0, hE, z_u2j _ _ _ _ (by decide), z_u2s]
  · rw [g2 7 (by decide) (by decide), ek 7 (by decide), d2 7 (by decide), c3]
    show (if p < 10 then B 4 p else _) = _
    rw [if_pos hp, b2 4 (by decide), a0 4 (by decide)]
  · rw [g2 8 (by decide) (by decide), ek 8 (by decide), d3]
    show (if p < 12 then C 5 p else _) = _
    rw [if_pos hp, c2 5 (by decide), b2 5 (by decide), a0 5 (by decide)]
  · rw [← E6 (3 * p) (by omega), ← E6 (3 * p + 1) (by omega), ← E6 (3 * p + 2) (by omega)]; exact g4 p hp
