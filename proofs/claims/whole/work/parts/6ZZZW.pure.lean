set_option linter.unusedVariables false
def zWT (M : TX) : Option (TX × Int32) := (f_X9_take (u2 M 0 33 ((M 0 33) + nI 1))).bind fun q12 => (f_X9_goesSteps 8 (u2 (u2 (u2 q12 0 35 (nI 0)) 0 36 (nI 0)) 0 37 (nI 0)) (nI 0) ((u2 (u2 (u2 q12 0 35 (nI 0)) 0 36 (nI 0)) 0 37 (nI 0)) 0 32)).bind fun q13 => (f_X9_copies 20 19 q13 (nI 34)).bind fun q14 => some ((u2 q14 0 34 (q14 0 37)), ((u2 q14 0 34 (q14 0 37)) 0 36))
theorem z9_work123 {M : TX} {w : Nat} (hw : M 0 33 = nI w) (h16 : w < 16) : ∃ N, L_X9_work_123 FU M (nI 0) = zWT N ∧ (∀ k, k ≠ 21 → N k = M k) ∧ (∀ j, j < 34 → N 21 (34 * w + j) = M 19 j) ∧ ∀ j, j < 34 * w ∨ 34 * w + 34 ≤ j → N 21 j = M 21 j := by
  have l := z_loopE (fun f i N => L_X9_work_123 f N i) (fun i N => (∀ k, k ≠ 21 → N k = M k) ∧ (∀ j, j < i → N 21 (34 * w + j) = M 19 j) ∧ ∀ j, j < 34 * w ∨ 34 * w + 34 ≤ j → N 21 j = M 21 j) zWT 34 ?_ ?_ 34 0 FU M ⟨fun _ _ => rfl, fun p hp => absurd hp (by omega), fun _ _ => rfl⟩ (by omega) (by unfold FU; omega)
  · obtain ⟨N, l1, l2, l3, l4⟩ := l
    exact ⟨N, l1, l2, l3, l4⟩
  · rintro f N _
    simp (discharger := omega) only [L_X9_work_123, z_lit, z_nI_le, z_nI_lt, z_nI_inj, z_inb, z_nI_tn, z_nI_add, z_nI_mul, z_bitN, z_zb, z_0add, z_add0, z_0or, z_or0, Option.bind_some, decide_eq_true_eq, Nat.zero_add, Nat.add_zero, Nat.le_refl, ↓reduceIte]
    rfl
  · rintro f i N hi ⟨h1, h2, h3⟩
    have c : ¬ 34 ≤ i := by omega
    have c2 : 34 * w + i < 544 := by omega
    have e33 : N 0 33 = nI w := by rw [h1 0 (by decide)]; exact hw
    refine ⟨u2 N 21 (34 * w + i) (N 19 i), ?_, fun k a => (z_u2k _ _ _ _ a).trans (h1 k a), fun p hp => ?_, fun p hp => ?_⟩
    · simp (discharger := omega) only [L_X9_work_123, e33, c, c2, hi, z_lit, z_nI_le, z_nI_lt, z_nI_inj, z_inb, z_nI_tn, z_nI_add, z_nI_mul, z_bitN, z_zb, z_0add, z_add0, z_0or, z_or0, Option.bind_some, decide_eq_true_eq, Nat.zero_add, Nat.add_zero, ↓reduceIte]
    · by_cases d : p = i
      · rw [d, z_u2s, h1 19 (by decide)]
      · rw [z_u2j _ _ _ _ (by omega)]; exact h2 p (by omega)
    · rw [z_u2j _ _ _ _ (by omega)]; exact h3 p hp
def zWE (M : TX) : Option (TX × Int32) := (f_X9_result M (nI 0)).bind fun q8 => if (q8.1 0 5) = -nI 1 then ((f_X9_copies 15 16 q8.1 (q8.1 0 32)).bind fun q10 => L_X9_work_123 FU q10 (nI 0)) else some (q8.1, q8.2)
theorem zWE_bad {M : TX} {pl kd : Nat} (h5 : M 0 5 = nI pl) (h6 : M 0 6 = nI kd) (hp : pl ≤ 600) : zWE M = some (u2 M 0 8 (nI pl), nI kd - nI 10) := by
  have e5 : u2 M 0 8 (nI pl) 0 5 = nI pl := by rw [z_u2j _ _ _ _ (by decide)]; exact h5
  have e6 : u2 M 0 8 (nI pl) 0 6 = nI kd := by rw [z_u2j _ _ _ _ (by decide)]; exact h6
  have er : f_X9_result M (nI 0) = some (u2 M 0 8 (nI pl), nI kd - nI 10) := by
    unfold f_X9_result
    rw [h5, z9_fine0 e5 hp, Option.bind_some, if_pos (by decide), e6]; rfl
  unfold zWE
  rw [er, Option.bind_some]
  show (if u2 M 0 8 (nI pl) 0 5 = -nI 1 then _ else some (u2 M 0 8 (nI pl), nI kd - nI 10)) = _
  rw [e5, if_neg (z_ne1 (by omega))]
theorem zWE_ok {M : TX} {b : Nat} (h5 : M 0 5 = -nI 1) (h32 : M 0 32 = nI b) (hb : b ≤ 148) : ∃ N, zWE M = L_X9_work_123 FU N (nI 0) ∧ (∀ k, k ≠ 0 → k ≠ 16 → N k = M k) ∧ (∀ j, j ≠ 8 → N 0 j = M 0 j) ∧ N 0 8 = -nI 1 ∧ (∀ i, i < b → N 16 i = M 15 i) := by
  obtain ⟨A, hA⟩ : ∃ A, A = u2 M 0 8 (-nI 1) := ⟨_, rfl⟩
  have e5 : A 0 5 = -nI 1 := by rw [hA, z_u2j _ _ _ _ (by decide)]; exact h5
  have e32 : A 0 32 = nI b := by rw [hA, z_u2j _ _ _ _ (by decide)]; exact h32
  have n1 : ¬ nI 1 = (0 : Int32) := by decide
  have er : f_X9_result M (nI 0) = some (A, nI 0) := by
    unfold f_X9_result
    rw [h5, ← hA, z9_fine1 e5, Option.bind_some, if_neg n1]
  obtain ⟨C, c1, c2, c3⟩ := z9_copies (a := 15) (b := 16) (by decide) (M := A) (m := b) (by show b ≤ 200; omega) (by show b ≤ 200; omega) (by omega)
  have ak : ∀ k, k ≠ 0 → A k = M k := fun k a => by rw [hA, z_u2k _ _ _ _ a]
  refine ⟨C, ?_, fun k a b => by rw [c2 k b, ak k a], fun j a => by rw [c2 0 (by decide), hA, z_u2j _ _ _ _ a], ?_, fun i hi => ?_⟩
  · unfold zWE
    rw [er, Option.bind_some]
    show (if A 0 5 = -nI 1 then ((f_X9_copies 15 16 A (A 0 32)).bind fun q10 => L_X9_work_123 FU q10 (nI 0)) else some (A, nI 0)) = _
    rw [if_pos e5, e32, c1, Option.bind_some]
  · rw [c2 0 (by decide), hA, z_u2s]
  · rw [c3]
    show (if i < b then A 15 i else _) = _
    rw [if_pos hi, ak 15 (by decide)]
/-- the steps of a work, from the text's begin on -/
theorem z_stepsT {s : Nat} {T : Nat → Nat} {n : Nat} {X M : TX} (h : zWi s T 0 0 0 n X M) :
    (∃ e b Y N, f_X6_readSteps 8 X (nI 0) = some (Y, nI 1) ∧ L_X9_work_68 FU M = zWE N ∧ zWi s T e b 0 n Y N ∧ zVX X Y ∧ zVM M N ∧ zPl n (Y 32) (N 15) s 6 0 b) ∨
    (∃ Y N kd pl, f_X6_readSteps 8 X (nI 0) = some (Y, nI 0) ∧ L_X9_work_68 FU M = zWE N ∧ zVR s X M Y N kd pl) := by
  have hs := h.s1
  have n1 : ¬ nI 1 = nI 0 := by decide
  have e : f_X6_readSteps 8 X (nI 0) = L_X6_readSteps_14 (f_X6_readSteps 7) FU X (nI 0) (-nI 1) (nI 0) := by
    show (if nI 0 = nI 0 then L_X6_readSteps_14 (f_X6_readSteps 7) FU X (nI 0) (-nI 1) (nI 0) else L_X6_readSteps_14 (f_X6_readSteps 7) FU X (nI 0) (nI 93) (nI 0)) = _
    rw [if_pos rfl]
  have k := z_stepsL (s := s) (T := T) (dep := 0) (n := n) (St := fun q => s ≤ q) (LX := fun f X i => L_X6_readSteps_14 (f_X6_readSteps 7) f X (nI 0) (-nI 1) i) (SX := zSX (f_X6_readSteps 7) 0) (LM := L_X9_work_68) (SM := f_X9_readStep 8) (F := zWE) (Fb := zWE) ?_ ?_ ?_ ?_ ?_ (z_stepD 6 0 rfl) s 0 0 0 FU FU X M (by omega) (by unfold FU; omega) (by unfold FU; omega) (by omega) h
  · rcases k with ⟨e1, b, Y, N, k1, k2, k3, k4, k5, k6, k7, k8, k9⟩ | ⟨Y, N, kd, pl, k1, k2, k3⟩
    · exact .inl ⟨e1, b, Y, N, e.trans k1, k2, k5, k6, k7, k9⟩
    · exact .inr ⟨Y, N, kd, pl, e.trans k1, k2, k3⟩
  · intro g p i X hX hi c
    have n15 : ¬ nI 150 ≤ nI i := by rw [z_nI_le (by omega) (by omega)]; omega
    show (if nI 150 ≤ nI i then (some (X, nI 1)) else ((f_X7_ahead X).bind fun q3 => if q3.2 = -nI 1 then (some (q3.1, nI 1)) else _)) = _
    rw [if_neg n15, z7_ahead hX, Option.bind_some]
    exact if_pos (by unfold zC; rw [if_neg (by omega)])
  · intro g p i X hX hi c
    have n15 : ¬ nI 150 ≤ nI i := by rw [z_nI_le (by omega) (by omega)]; omega
    show (if nI 150 ≤ nI i then (some (X, nI 1)) else ((f_X7_ahead X).bind fun q3 => if q3.2 = -nI 1 then (some (q3.1, nI 1)) else (zAnd (f_X6_readStep (f_X6_readSteps 7) q3.1 (nI 0)) fun A => zAnd (f_X7_sign A (nI 59)) fun B => L_X6_readSteps_14 (f_X6_readSteps 7) g B (nI 0) (-nI 1) (nI i + nI 1)))) = zAnd (zSX (f_X6_readSteps 7) 0 (u2 X 1 3 (nI (zA T s p)))) fun B => L_X6_readSteps_14 (f_X6_readSteps 7) g B (nI 0) (-nI 1) (nI (i + 1))
    rw [if_neg n15, z7_ahead hX, Option.bind_some, z_nI_add]
    unfold zSX
    rw [zAnd_assoc]
    have tq := hX.t (zA T s p)
    exact if_neg (by unfold zC; rw [if_pos (by omega)]; exact z_ne1 (by have := tq (by omega); omega))
  · intro g p M hM hf c
    show ((f_X9_fine M).bind fun q5 => if q5 = nI 0 then zWE M else ((f_X9_isMore M).bind fun q17 => if q17.2 = nI 0 then zWE q17.1 else ((f_X9_readStep 8 q17.1).bind fun q22 => (L_X9_work_68 g) q22))) = _
    rw [z9_fine1 hf, Option.bind_some, if_neg n1, z9_more hM rfl, if_pos c, Option.bind_some]
    exact if_pos rfl
  · intro g p M hM hf c
    show ((f_X9_fine M).bind fun q5 => if q5 = nI 0 then zWE M else ((f_X9_isMore M).bind fun q17 => if q17.2 = nI 0 then zWE q17.1 else ((f_X9_readStep 8 q17.1).bind fun q22 => (L_X9_work_68 g) q22))) = _
    rw [z9_fine1 hf, Option.bind_some, if_neg n1, z9_more hM rfl, if_neg c, Option.bind_some]
    exact if_neg n1
  · intro g M a hf ha
    show ((f_X9_fine M).bind fun q5 => if q5 = nI 0 then zWE M else _) = _
    rw [z9_fine0 hf ha, Option.bind_some, if_pos rfl]
