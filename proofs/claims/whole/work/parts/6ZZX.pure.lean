set_option linter.unusedVariables false
/-- a text is opened on both sides -/
theorem z_open {s t : Nat} {X M : TX} (ht : t ≤ 600) (hs : s ≤ t) (hT : ∀ j, j < t → ∃ v, v < 256 ∧ X 2 j = nI v ∧ M 2 j = nI v) :
    ∃ T Y N, f_X7_open X (nI s) = some Y ∧ f_X9_begins M (nI s) = some N ∧ zJx s T 0 Y ∧ zJm s T 0 N ∧ N 0 5 = -nI 1 ∧ (∀ k, k ≠ 1 → Y k = X k) ∧ Y 1 1 = nI 0 ∧ Y 1 7 = -nI 1 ∧ (∀ k, k ≠ 0 → N k = M k) ∧ (∀ j, j ≠ 2 → j ≠ 3 → j ≠ 4 → j ≠ 5 → j ≠ 7 → j ≠ 8 → N 0 j = M 0 j) ∧ N 0 2 = nI 0 ∧ N 0 7 = nI 0 ∧ N 0 8 = -nI 1 := by
  have hv : ∀ j, j < s → (M 2 j).toNatClampNeg < 256 ∧ X 2 j = nI (M 2 j).toNatClampNeg ∧ M 2 j = nI (M 2 j).toNatClampNeg := fun j hj => by
    obtain ⟨v, v1, v2, v3⟩ := hT j (by omega)
    have e : (M 2 j).toNatClampNeg = v := by rw [v3, z_nI_tn (by omega)]
    rw [e]; exact ⟨v1, v2, v3⟩
  obtain ⟨Y, hY⟩ : ∃ Y, Y = u2 (u2 (u2 (u2 X 1 2 (nI s)) 1 3 (nI 0)) 1 1 (nI 0)) 1 7 (-nI 1) := ⟨_, rfl⟩
  obtain ⟨N, hN⟩ : ∃ N, N = u2 (u2 (u2 (u2 (u2 (u2 M 0 2 (nI 0)) 0 8 (-nI 1)) 0 3 (nI s)) 0 4 (nI 0)) 0 5 (-nI 1)) 0 7 (nI 0) := ⟨_, rfl⟩
  have yk : ∀ k, k ≠ 1 → Y k = X k := fun k a => by rw [hY, z_u2k _ _ _ _ a, z_u2k _ _ _ _ a, z_u2k _ _ _ _ a, z_u2k _ _ _ _ a]
  have nk : ∀ k, k ≠ 0 → N k = M k := fun k a => by rw [hN, z_u2k _ _ _ _ a, z_u2k _ _ _ _ a, z_u2k _ _ _ _ a, z_u2k _ _ _ _ a, z_u2k _ _ _ _ a, z_u2k _ _ _ _ a]
  refine ⟨fun j => (M 2 j).toNatClampNeg, Y, N, by rw [hY]; rfl, by rw [hN]; rfl, ?_, ?_, ?_, yk, ?_, ?_, nk, ?_, ?_, ?_, ?_⟩
  · refine zJx.mk (by omega) (by omega) (fun j hj => (hv j hj).1) ?_ ?_ fun j hj => ?_
    · rw [hY, z_u2j _ _ _ _ (by decide), z_u2j _ _ _ _ (by decide), z_u2j _ _ _ _ (by decide), z_u2s]
    · rw [hY, z_u2j _ _ _ _ (by decide), z_u2j _ _ _ _ (by decide), z_u2s]
    · rw [yk 2 (by decide)]; exact (hv j hj).2.1
  · refine zJm.mk (by omega) (by omega) (fun j hj => (hv j hj).1) ?_ ?_ fun j hj => ?_
    · rw [hN, z_u2j _ _ _ _ (by decide), z_u2j _ _ _ _ (by decide), z_u2j _ _ _ _ (by decide), z_u2s]
    · rw [hN, z_u2j _ _ _ _ (by decide), z_u2j _ _ _ _ (by decide), z_u2s]
    · rw [nk 2 (by decide)]; exact (hv j hj).2.2
  · rw [hN, z_u2j _ _ _ _ (by decide), z_u2s]
  · rw [hY, z_u2j _ _ _ _ (by decide), z_u2s]
  · rw [hY, z_u2s]
  · intro j a b c d e f
    rw [hN, z_u2j _ _ _ _ e, z_u2j _ _ _ _ d, z_u2j _ _ _ _ c, z_u2j _ _ _ _ b, z_u2j _ _ _ _ f, z_u2j _ _ _ _ a]
  · rw [hN, z_u2j _ _ _ _ (by decide), z_u2j _ _ _ _ (by decide), z_u2j _ _ _ _ (by decide), z_u2j _ _ _ _ (by decide), z_u2j _ _ _ _ (by decide), z_u2s]
  · rw [hN, z_u2s]
  · rw [hN, z_u2j _ _ _ _ (by decide), z_u2j _ _ _ _ (by decide), z_u2j _ _ _ _ (by decide), z_u2j _ _ _ _ (by decide), z_u2s]
