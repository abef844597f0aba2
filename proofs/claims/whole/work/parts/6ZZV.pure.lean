set_option linter.unusedVariables false
theorem z3_readStep {s : Nat} {T : Nat → Nat} {g p i : Nat} {X : TX} (hX : zJx s T p X) (hi : i ≤ 60) :
    L_X3_read_6 (g + 1) X (nI i) = if s ≤ zA T s p then some (u2 X 1 3 (nI (zA T s p)), nI 1) else ((f_X3_readClause (u2 X 1 3 (nI (zA T s p))) (nI i)).bind fun q7 => if q7.2 = nI 0 then some (q7.1, nI 0) else ((f_X7_sign q7.1 (nI 59)).bind fun q9 => if q9.2 = nI 0 then (some (q9.1, nI 0)) else (L_X3_read_6 g q9.1 (nI (i + 1))))) := by
  obtain ⟨a1, a2, a3⟩ := zA_spec (T := T) hX.ps
  have hs := hX.s6
  have n60 : ¬ nI 60 < nI i := by rw [z_nI_lt (by omega) (by omega)]; omega
  have eL : L_X3_read_6 (g + 1) X (nI i) = if nI 60 < nI i then zWrp (f_X7_fail X (nI 3) (X 1 3)) else ((f_X7_ahead X).bind fun q5 => if q5.2 = -nI 1 then (some (q5.1, nI 1)) else ((f_X3_readClause q5.1 (nI i)).bind fun q7 => if q7.2 = nI 0 then (some (q7.1, nI 0)) else ((f_X7_sign q7.1 (nI 59)).bind fun q9 => if q9.2 = nI 0 then (some (q9.1, nI 0)) else (L_X3_read_6 g q9.1 (nI i + nI 1))))) := rfl
  rw [eL, if_neg n60, z7_ahead hX, Option.bind_some, z_nI_add]
  by_cases c : s ≤ zA T s p
  · have e : zC T s (zA T s p) = -nI 1 := by unfold zC; rw [if_neg (by omega)]
    rw [if_pos c]; exact if_pos e
  · have e : ¬ zC T s (zA T s p) = -nI 1 := by
      have tq := hX.t (zA T s p) (by omega)
      unfold zC; rw [if_pos (by omega)]; exact z_ne1 (by omega)
    rw [if_neg c]; exact if_neg e
