set_option linter.unusedVariables false
theorem z9_wordL {s : Nat} {T : Nat → Nat} {p q : Nat} {M : TX} (h : zJm s T p M) : ∀ (d k f : Nat), s - (q + k) = d → d < f → q + k ≤ s → (∀ j, q ≤ j → j < q + k → 97 ≤ T j ∧ T j ≤ 122) → L_X9_word_14 f M (nI (zWn T q k)) (nI k) (nI (q + k)) = some (M, nI (zWn T q (zLE T s (q + k) - q))) := by
  have h1 := h.s6
  have ms := h.ms
  have fin : ∀ k, k ≤ 600 → (if nI k ≤ nI 6 then (some (M, nI (zWn T q k)) : Option (TX × Int32)) else some (M, nI 0)) = some (M, nI (zWn T q k)) := fun k hk => by
    by_cases c : k ≤ 6
    · rw [if_pos ((z_nI_le (by omega) (by omega)).2 c)]
    · rw [if_neg (fun x => c ((z_nI_le (by omega) (by omega)).1 x))]
      unfold zWn; rw [if_neg c]
  intro d
  induction d with
  | zero =>
    intro k f hd hf hk hw
    obtain ⟨g, rfl⟩ : ∃ g, f = g + 1 := ⟨f - 1, by omega⟩
    have ea : zLE T s (q + k) = q + k := zSc_stop (by omega)
    have c : s ≤ q + k := by omega
    rw [ea, Nat.add_sub_cancel_left, ← fin k (by omega)]
    show (if M 0 3 ≤ nI (q + k) then (if nI k ≤ (6 : Int32) then some (M, nI (zWn T q k)) else some (M, (0 : Int32))) else _) = _
    rw [ms, if_pos ((z_nI_le (by omega) (by omega)).2 c)]; rfl
  | succ d ih =>
    intro k f hd hf hk hw
    obtain ⟨g, rfl⟩ : ∃ g, f = g + 1 := ⟨f - 1, by omega⟩
    have c : ¬ s ≤ q + k := by omega
    have b : q + k < 600 := by omega
    have a1 := h.mt (q + k) (by omega)
    have t1 := h.t (q + k) (by omega)
    have lt := z7_letter t1
    have eq : L_X9_word_14 (g + 1) M (nI (zWn T q k)) (nI k) (nI (q + k)) = if 97 ≤ T (q + k) ∧ T (q + k) ≤ 122 then (if 6 ≤ k then L_X9_word_14 g M (nI 0) (nI (k + 1)) (nI (q + k + 1)) else L_X9_word_14 g M ((nI (zWn T q k) <<< (nI 5 &&& nI 31)) ||| (nI (T (q + k)) - nI 96)) (nI (k + 1)) (nI (q + k + 1))) else some (M, nI (zWn T q k)) := by
      by_cases sp : 97 ≤ T (q + k) ∧ T (q + k) ≤ 122
      · have e1 : zbI (decide (97 ≤ T (q + k) ∧ T (q + k) ≤ 122)) = nI 1 := by rw [decide_eq_true sp]; rfl
        rw [e1] at lt
        have n1 : ¬ (1 : Nat) = 0 := by decide
        rw [if_pos sp]
        by_cases c6 : 6 ≤ k
        · simp (discharger := omega) only [L_X9_word_14, ms, c, b, a1, z9_small, lt, n1, c6, z_lit, z_nI_le, z_nI_lt, z_nI_inj, z_inb, z_nI_tn, z_nI_add, z_nI_mul, z_bitN, z_zb, z_0add, z_add0, z_0or, z_or0, Option.bind_some, decide_eq_true_eq, Nat.zero_add, Nat.add_zero, ↓reduceIte]
        · simp (discharger := omega) only [L_X9_word_14, ms, c, b, a1, z9_small, lt, n1, c6, z_lit, z_nI_le, z_nI_lt, z_nI_inj, z_inb, z_nI_tn, z_nI_add, z_nI_mul, z_bitN, z_zb, z_0add, z_add0, z_0or, z_or0, Option.bind_some, decide_eq_true_eq, Nat.zero_add, Nat.add_zero, ↓reduceIte]
      · have e1 : zbI (decide (97 ≤ T (q + k) ∧ T (q + k) ≤ 122)) = nI 0 := by rw [decide_eq_false sp]; rfl
        rw [e1] at lt
        rw [if_neg sp, ← fin k (by omega)]
        simp (discharger := omega) only [L_X9_word_14, ms, c, b, a1, z9_small, lt, z_lit, z_nI_le, z_nI_lt, z_nI_inj, z_inb, z_nI_tn, z_nI_add, z_nI_mul, z_bitN, z_zb, z_0add, z_add0, z_0or, z_or0, Option.bind_some, decide_eq_true_eq, Nat.zero_add, Nat.add_zero, ↓reduceIte]
    rw [eq]
    by_cases sp : 97 ≤ T (q + k) ∧ T (q + k) ≤ 122
    · have ea : zLE T s (q + k) = zLE T s (q + (k + 1)) := zSc_step (by omega) ((zLt_iff T _).2 sp)
      have i1 := ih (k + 1) g (by omega) (by omega) (by omega) (fun j a b => by
        by_cases cj : j = q + k
        · rw [cj]; exact sp
        · exact hw j a (by omega))
      rw [if_pos sp, ea, ← i1]
      by_cases c6 : 6 ≤ k
      · rw [if_pos c6]
        have e0 : zWn T q (k + 1) = 0 := by unfold zWn; rw [if_neg (by omega)]
        rw [e0]; rfl
      · rw [if_neg c6]
        have hlt : zWc (fun j => T (q + j) - 96) k < 32 ^ k := zWc_lt k fun j hj => by
          have := hw (q + j) (by omega) (by omega)
          show T (q + j) - 96 < 32
          omega
        have hp : 32 ^ k ≤ 32 ^ 5 := Nat.pow_le_pow_right (by omega) (by omega)
        have e0 : zWn T q (k + 1) = 32 * zWn T q k + (T (q + k) - 96) := by
          unfold zWn; rw [if_pos (by omega), if_pos (by omega)]; rfl
        have e1 : zWn T q k < 33554432 := by
          unfold zWn; rw [if_pos (by omega)]
          have : (32 : Nat) ^ 5 = 33554432 := by decide
          omega
        rw [e0, z_subN (by omega), z_shor e1 (by omega)]; rfl
    · have ea : zLE T s (q + k) = q + k := zSc_stop fun h => sp ((zLt_iff T _).1 h.2)
      rw [if_neg sp, ea, Nat.add_sub_cancel_left]
theorem z9_word {s : Nat} {T : Nat → Nat} {p : Nat} {M : TX} (h : zJm s T p M) : f_X9_word M = some (u2 M 0 4 (nI (zA T s p)), nI (zWn T (zA T s p) (zLE T s (zA T s p) - zA T s p))) := by
  obtain ⟨a1, a2, a3⟩ := zA_spec (T := T) h.ps
  have h1 := h.s6
  unfold f_X9_word
  rw [z9_here h, Option.bind_some]
  show L_X9_word_14 FU (u2 M 0 4 (nI (zA T s p))) (0 : Int32) (0 : Int32) (u2 M 0 4 (nI (zA T s p)) 0 4) = _
  rw [z_u2s]
  exact z9_wordL (h.to a2) (s - zA T s p) 0 FU rfl (by unfold FU; omega) a2 fun j a b => absurd b (by omega)
theorem z9_passL {s : Nat} {T : Nat → Nat} : ∀ (d p f : Nat) (M : TX), s - p = d → d < f → zJm s T p M → L_X9_pass_0 f M = some (u2 M 0 4 (nI (zLE T s p))) := by
  intro d
  induction d with
  | zero =>
    intro p f M hd hf h
    obtain ⟨g, rfl⟩ : ∃ g, f = g + 1 := ⟨f - 1, by omega⟩
    have h1 := h.s6
    have h2 := h.ps
    have ea : zLE T s p = p := zSc_stop (by omega)
    have c : s ≤ p := by omega
    have ms := h.ms
    have mp := h.mp
    rw [ea, z_u2id _ _ _ mp]
    simp (discharger := omega) only [L_X9_pass_0, ms, mp, c, z_lit, z_nI_le, z_nI_lt, z_nI_inj, z_inb, z_nI_tn, z_nI_add, z_nI_mul, z_bitN, z_zb, z_0add, z_add0, z_0or, z_or0, Option.bind_some, decide_eq_true_eq, Nat.zero_add, Nat.add_zero, ↓reduceIte]
  | succ d ih =>
    intro p f M hd hf h
    obtain ⟨g, rfl⟩ : ∃ g, f = g + 1 := ⟨f - 1, by omega⟩
    have h1 := h.s6
    have c : ¬ s ≤ p := by omega
    have b : p < 600 := by omega
    have ms := h.ms
    have mp := h.mp
    have a1 := h.mt p (by omega)
    have lt := z7_letter (h.t p (by omega))
    by_cases sp : 97 ≤ T p ∧ T p ≤ 122
    · have ea : zLE T s p = zLE T s (p + 1) := zSc_step (by omega) ((zLt_iff T p).2 sp)
      have i1 := ih (p + 1) g (u2 M 0 4 (nI (p + 1))) (by omega) (by omega) (h.to (by omega))
      rw [z_u2u] at i1
      have e1 : zbI (decide (97 ≤ T p ∧ T p ≤ 122)) = nI 1 := by rw [decide_eq_true sp]; rfl
      rw [e1] at lt
      have n1 : ¬ (1 : Nat) = 0 := by decide
      rw [ea, ← i1]
      simp (discharger := omega) only [L_X9_pass_0, ms, mp, c, b, a1, z9_small, lt, n1, z_lit, z_nI_le, z_nI_lt, z_nI_inj, z_inb, z_nI_tn, z_nI_add, z_nI_mul, z_bitN, z_zb, z_0add, z_add0, z_0or, z_or0, Option.bind_some, decide_eq_true_eq, Nat.zero_add, Nat.add_zero, ↓reduceIte]
    · have ea : zLE T s p = p := zSc_stop fun h => sp ((zLt_iff T p).1 h.2)
      have e1 : zbI (decide (97 ≤ T p ∧ T p ≤ 122)) = nI 0 := by rw [decide_eq_false sp]; rfl
      rw [e1] at lt
      rw [ea, z_u2id _ _ _ mp]
      simp (discharger := omega) only [L_X9_pass_0, ms, mp, c, b, a1, z9_small, lt, z_lit, z_nI_le, z_nI_lt, z_nI_inj, z_inb, z_nI_tn, z_nI_add, z_nI_mul, z_bitN, z_zb, z_0add, z_add0, z_0or, z_or0, Option.bind_some, decide_eq_true_eq, Nat.zero_add, Nat.add_zero, ↓reduceIte]
theorem z9_pass {s : Nat} {T : Nat → Nat} {p : Nat} {M : TX} (h : zJm s T p M) : f_X9_pass M = some (u2 M 0 4 (nI (zLE T s p))) :=
  z9_passL (s - p) p FU M rfl (by have := h.s6; unfold FU; omega) h
