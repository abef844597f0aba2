set_option linter.unusedVariables false
theorem z3_clear (X : TX) : ∃ Y, f_X3_clear X = some Y ∧ zUX X Y ∧ (∀ p, p < 10 → Y 12 p = nI 0 ∧ Y 13 p = nI 0 ∧ Y 13 (10 + p) = nI 0 ∧ Y 14 p = nI 0) ∧ Y 11 5 = nI 0 ∧ Y 11 6 = nI 0 ∧ Y 11 7 = nI 20 ∧ Y 11 8 = nI 0 ∧ Y 11 9 = -nI 1 ∧ Y 11 10 = nI 0 ∧ Y 11 11 = nI 0 := by
  have l := z_loopE (fun f i Y => L_X3_clear_2 f Y i) (fun i Y => zUX X Y ∧ ∀ p, p < i → Y 12 p = nI 0 ∧ Y 13 p = nI 0 ∧ Y 13 (10 + p) = nI 0 ∧ Y 14 p = nI 0) (fun Y => some (u2 (u2 (u2 (u2 (u2 (u2 (u2 Y 11 5 (nI 0)) 11 6 (nI 0)) 11 7 (nI 20)) 11 8 (nI 0)) 11 9 (-nI 1)) 11 10 (nI 0)) 11 11 (nI 0))) 10 ?_ ?_ 10 0 FU X ⟨fun _ _ => rfl, fun p hp => absurd hp (by omega)⟩ (by omega) (by unfold FU; omega)
  · obtain ⟨Y, l1, l2, l3⟩ := l
    obtain ⟨Z, hZ⟩ : ∃ Z, Z = u2 (u2 (u2 (u2 (u2 (u2 (u2 Y 11 5 (nI 0)) 11 6 (nI 0)) 11 7 (nI 20)) 11 8 (nI 0)) 11 9 (-nI 1)) 11 10 (nI 0)) 11 11 (nI 0) := ⟨_, rfl⟩
    have zk : ∀ k, k ≠ 11 → Z k = Y k := fun k a => by rw [hZ, z_u2k _ _ _ _ a, z_u2k _ _ _ _ a, z_u2k _ _ _ _ a, z_u2k _ _ _ _ a, z_u2k _ _ _ _ a, z_u2k _ _ _ _ a, z_u2k _ _ _ _ a]
    refine ⟨Z, by rw [hZ]; exact l1, fun k hk => (zk k (by omega)).trans (l2 k hk), fun p hp => by rw [zk 12 (by decide), zk 13 (by decide), zk 14 (by decide)]; exact l3 p hp, ?_, ?_, ?_, ?_, ?_, ?_, ?_⟩
    · rw [hZ, z_u2j _ _ _ _ (by decide), z_u2j _ _ _ _ (by decide), z_u2j _ _ _ _ (by decide), z_u2j _ _ _ _ (by decide), z_u2j _ _ _ _ (by decide), z_u2j _ _ _ _ (by decide), z_u2s]
    · rw [hZ, z_u2j _ _ _ _ (by decide), z_u2j _ _ _ _ (by decide), z_u2j _ _ _ _ (by decide), z_u2j _ _ _ _ (by decide), z_u2j _ _ _ _ (by decide), z_u2s]
    · rw [hZ, z_u2j _ _ _ _ (by decide), z_u2j _ _ _ _ (by decide), z_u2j _ _ _ _ (by decide), z_u2j _ _ _ _ (by decide), z_u2s]
    · rw [hZ, z_u2j _ _ _ _ (by decide), z_u2j _ _ _ _ (by decide), z_u2j _ _ _ _ (by decide), z_u2s]
    · rw [hZ, z_u2j _ _ _ _ (by decide), z_u2j _ _ _ _ (by decide), z_u2s]
    · rw [hZ, z_u2j _ _ _ _ (by decide), z_u2s]
    · rw [hZ, z_u2s]
  · rintro f Y _
    have c : nI 10 ≤ nI 10 := by decide
    show (if nI 10 ≤ nI 10 then some (u2 (u2 (u2 (u2 (u2 (u2 (u2 Y 11 5 (nI 0)) 11 6 (nI 0)) 11 7 (nI 20)) 11 8 (nI 0)) 11 9 (-nI 1)) 11 10 (nI 0)) 11 11 (nI 0)) else ((f_X8_put 12 Y (nI 10) (nI 0)).bind fun q2 => (f_X8_put 13 q2 (nI 10) (nI 0)).bind fun q3 => (f_X8_put 13 q3 (nI 10 + nI 10) (nI 0)).bind fun q4 => (f_X8_put 14 q4 (nI 10) (nI 0)).bind fun q5 => L_X3_clear_2 f q5 (nI 10 + nI 1))) = _
    rw [if_pos c]
  · rintro f i Y hi ⟨h1, h2⟩
    have pt : ∀ (k : Nat) (W : TX) j v, j < lenX k → lenX k < 2147483648 → f_X8_put k W (nI j) v = some (u2 W k j v) := fun k W j v a b => z_put a b
    have n10 : ¬ nI 10 ≤ nI i := by rw [z_nI_le (by omega) (by omega)]; omega
    refine ⟨u2 (u2 (u2 (u2 Y 12 i (nI 0)) 13 i (nI 0)) 13 (10 + i) (nI 0)) 14 i (nI 0), ?_, (h1.trans (zUX_k _ (by omega) _ _)).trans (((zUX_k _ (by omega) _ _).trans (zUX_k _ (by omega) _ _)).trans (zUX_k _ (by omega) _ _)), fun p hp => ?_⟩
    · have e : L_X3_clear_2 (f + 1) Y (nI i) = if nI 10 ≤ nI i then some (u2 (u2 (u2 (u2 (u2 (u2 (u2 Y 11 5 (nI 0)) 11 6 (nI 0)) 11 7 (nI 20)) 11 8 (nI 0)) 11 9 (-nI 1)) 11 10 (nI 0)) 11 11 (nI 0)) else ((f_X8_put 12 Y (nI i) (nI 0)).bind fun q2 => (f_X8_put 13 q2 (nI i) (nI 0)).bind fun q3 => (f_X8_put 13 q3 (nI 10 + nI i) (nI 0)).bind fun q4 => (f_X8_put 14 q4 (nI i) (nI 0)).bind fun q5 => L_X3_clear_2 f q5 (nI i + nI 1)) := rfl
      rw [e, if_neg n10, z_nI_add, z_nI_add, pt 12 _ _ _ (by show i < 10; omega) (by decide), Option.bind_some, pt 13 _ _ _ (by show i < 20; omega) (by decide), Option.bind_some, pt 13 _ _ _ (by show 10 + i < 20; omega) (by decide), Option.bind_some, pt 14 _ _ _ (by show i < 10; omega) (by decide), Option.bind_some]
    · refine ⟨?_, ?_, ?_, ?_⟩
      · rw [z_u2k _ _ _ _ (by decide), z_u2k _ _ _ _ (by decide), z_u2k _ _ _ _ (by decide)]
        by_cases c : p = i
        · rw [c, z_u2s]
        · rw [z_u2j _ _ _ _ c]; exact (h2 p (by omega)).1
      · rw [z_u2k _ _ _ _ (by decide), z_u2j _ _ _ _ (by omega)]
        by_cases c : p = i
        · rw [c, z_u2s]
        · rw [z_u2j _ _ _ _ c, z_u2k _ _ _ _ (by decide)]; exact (h2 p (by omega)).2.1
      · rw [z_u2k _ _ _ _ (by decide)]
        by_cases c : p = i
        · rw [c, z_u2s]
        · rw [z_u2j _ _ _ _ (by omega), z_u2j _ _ _ _ (by omega), z_u2k _ _ _ _ (by decide)]; exact (h2 p (by omega)).2.2.1
      · by_cases c : p = i
        · rw [c, z_u2s]
        · rw [z_u2j _ _ _ _ c, z_u2k _ _ _ _ (by decide), z_u2k _ _ _ _ (by decide), z_u2k _ _ _ _ (by decide)]; exact (h2 p (by omega)).2.2.2
