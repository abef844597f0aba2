set_option linter.unusedVariables false
theorem z9_clears (M : TX) : ∃ N, f_X9_clears M = some N ∧ zUM M N ∧ (∀ p, p < 10 → N 4 p = nI 0) ∧ N 0 16 = nI 0 ∧ N 0 17 = nI 0 ∧ N 0 18 = nI 20 := by
  obtain ⟨A, hA⟩ : ∃ A, A = u2 (u2 (u2 M 0 16 (nI 0)) 0 17 (nI 0)) 0 18 (nI 20) := ⟨_, rfl⟩
  have uA : zUM M A := by rw [hA]; exact ((zUM_0 _ (by omega) _).trans (zUM_0 _ (by omega) _)).trans (zUM_0 _ (by omega) _)
  have l := z_loopE (fun f i N => L_X9_clears_18 f N i) (fun i N => (∀ k, k ≠ 4 → N k = A k) ∧ ∀ p, p < i → N 4 p = nI 0) some 10 ?_ ?_ 10 0 FU A ⟨fun _ _ => rfl, fun p hp => absurd hp (by omega)⟩ (by omega) (by unfold FU; omega)
  · obtain ⟨N, l1, l2, l3⟩ := l
    refine ⟨N, ?_, uA.trans ⟨fun k a b c d => l2 k c, fun j _ _ _ => by rw [l2 0 (by decide)]⟩, l3, ?_, ?_, ?_⟩
    · unfold f_X9_clears
      have e : L_X9_clears_18 FU A (0 : Int32) = some N := l1
      rw [hA] at e; exact e
    · rw [l2 0 (by decide), hA, z_u2j _ _ _ _ (by decide), z_u2j _ _ _ _ (by decide), z_u2s]
    · rw [l2 0 (by decide), hA, z_u2j _ _ _ _ (by decide), z_u2s]
    · rw [l2 0 (by decide), hA, z_u2s]
  · intro f N _
    simp (discharger := omega) only [L_X9_clears_18, z_lit, z_nI_le, z_nI_lt, z_nI_inj, z_inb, z_nI_tn, z_nI_add, z_nI_mul, z_bitN, z_zb, z_0add, z_add0, z_0or, z_or0, Option.bind_some, decide_eq_true_eq, Nat.zero_add, Nat.add_zero, Nat.le_refl, ↓reduceIte]
  · rintro f i N hi ⟨h1, h2⟩
    have c : ¬ 10 ≤ i := by omega
    refine ⟨u2 N 4 i (nI 0), ?_, fun k a => (z_u2k _ _ _ _ a).trans (h1 k a), fun p hp => ?_⟩
    · simp (discharger := omega) only [L_X9_clears_18, c, hi, z_lit, z_nI_le, z_nI_lt, z_nI_inj, z_inb, z_nI_tn, z_nI_add, z_nI_mul, z_bitN, z_zb, z_0add, z_add0, z_0or, z_or0, Option.bind_some, decide_eq_true_eq, Nat.zero_add, Nat.add_zero, ↓reduceIte]
    · by_cases d : p = i
      · rw [d, z_u2s]
      · rw [z_u2j _ _ _ _ d]; exact h2 p (by omega)
