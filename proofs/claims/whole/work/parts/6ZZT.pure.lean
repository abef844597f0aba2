set_option linter.unusedVariables false
def zFin (M : TX) : Option (TX × Int32) := (f_X9_result M (M 0 16)).bind fun q => if (q.1 0 5) = -nI 1 then ((f_X9_sets q.1).bind fun q10 => some (q10, q.2)) else some (q.1, q.2)
theorem zFin_bad {M : TX} {pl kd : Nat} (h5 : M 0 5 = nI pl) (h6 : M 0 6 = nI kd) (hp : pl ≤ 600) : zFin M = some (u2 M 0 8 (nI pl), nI kd - nI 10) := by
  have f5 : u2 M 0 8 (nI pl) 0 5 = nI pl := by rw [z_u2j _ _ _ _ (by decide)]; exact h5
  have f6 : u2 M 0 8 (nI pl) 0 6 = nI kd := by rw [z_u2j _ _ _ _ (by decide)]; exact h6
  have e : f_X9_result M (M 0 16) = some (u2 M 0 8 (nI pl), nI kd - nI 10) := by
    unfold f_X9_result
    rw [h5, z9_fine0 f5 hp, Option.bind_some, if_pos (show nI 0 = (0 : Int32) from rfl), f6]; rfl
  unfold zFin
  rw [e, Option.bind_some]
  show (if u2 M 0 8 (nI pl) 0 5 = -nI 1 then _ else some (u2 M 0 8 (nI pl), nI kd - nI 10)) = _
  rw [f5, if_neg (z_ne1 (by omega))]
theorem zFin_ok {M : TX} (h5 : M 0 5 = -nI 1) : zFin M = (f_X9_sets (u2 M 0 8 (-nI 1))).bind fun q10 => some (q10, M 0 16) := by
  have f5 : u2 M 0 8 (-nI 1) 0 5 = -nI 1 := by rw [z_u2j _ _ _ _ (by decide)]; exact h5
  have n1 : ¬ nI 1 = (0 : Int32) := by decide
  have e : f_X9_result M (M 0 16) = some (u2 M 0 8 (-nI 1), M 0 16) := by
    unfold f_X9_result
    rw [h5, z9_fine1 f5, Option.bind_some, if_neg n1]
  unfold zFin
  rw [e, Option.bind_some]
  exact if_pos f5
/-- the outcome of reading a county -/
def zLp (s : Nat) (X M : TX) (x m : Option (TX × Int32)) : Prop :=
  (∃ n t Y N, x = some (Y, nI 1) ∧ m = zFin N ∧ N 0 5 = -nI 1 ∧ zKD n t Y N ∧ zKX X Y ∧ zKM M N) ∨
  (∃ Y N kd pl, x = some (Y, nI 0) ∧ m = zFin N ∧ kd < 4 ∧ pl ≤ s ∧ Y 1 6 = nI kd ∧ Y 1 7 = nI pl ∧ N 0 5 = nI pl ∧ N 0 6 = nI kd ∧ zKX X Y ∧ zKM M N)
theorem z3_clause {s : Nat} {T : Nat → Nat} {q e n t i : Nat} {X Y : TX} (hY : f_X7_word X = some Y) (hJ : zJx s T e Y) (h4 : Y 1 4 = nI q) (hqe : q ≤ e) (hw : ∀ j, q ≤ j → j < e → 97 ≤ T j ∧ T j ≤ 122) (hi : i < 1000) (hn : Y 11 5 = nI n) (ht : Y 11 6 = nI t) (hn2 : n ≤ 10) (ht2 : t ≤ 6) :
    f_X3_readClause X (nI i) = if zKd (zWn T q (e - q)) = 0 then zWrp (f_X7_fail Y (nI 1) (nI q)) else if 60 ≤ i then zWrp (f_X7_fail Y (nI 3) (nI q)) else if (zKd (zWn T q (e - q)) = 1 ∧ n = 10) ∨ (zKd (zWn T q (e - q)) = 3 ∧ t = 6) then zWrp (f_X7_fail Y (nI 3) (nI q)) else B_X3_readClause_43 Y (nI (zKd (zWn T q (e - q)))) := by
  have k := z_kind hJ h4 hqe hw
  have kb : zKd (zWn T q (e - q)) ≤ 4 := by
    unfold zKd
    split
    · omega
    · split
      · omega
      · split
        · omega
        · split <;> omega
  generalize zKd (zWn T q (e - q)) = c at *
  have eC : f_X3_readClause X (nI i) = if nI c = nI 0 then zWrp (f_X7_fail Y (nI 1) (Y 1 4)) else (if nI 60 ≤ nI i then zWrp (f_X7_fail Y (nI 3) (Y 1 4)) else (if nI c = nI 1 then (if nI 10 ≤ (Y 11 5) then zWrp (f_X7_fail Y (nI 3) (Y 1 4)) else (B_X3_readClause_43 Y (nI c))) else (B_X3_readClause_43 Y (nI c)))) := by
    unfold f_X3_readClause
    rw [hY, Option.bind_some, k, Option.bind_some]; rfl
  rw [eC, h4, hn]
  by_cases c0 : c = 0
  · rw [if_pos (by rw [c0]), if_pos c0]
  · rw [if_neg (fun x => c0 ((z_nI_inj (by omega) (by omega)).1 x)), if_neg c0]
    by_cases i6 : 60 ≤ i
    · rw [if_pos ((z_nI_le (by omega) (by omega)).2 i6), if_pos i6]
    · rw [if_neg (fun x => i6 ((z_nI_le (by omega) (by omega)).1 x)), if_neg i6]
      by_cases c1 : c = 1
      · rw [if_pos (by rw [c1])]
        by_cases n10 : n = 10
        · rw [if_pos ((z_nI_le (by omega) (by omega)).2 (by omega)), if_pos (.inl ⟨c1, n10⟩)]
        · rw [if_neg (fun x => n10 (by have := (z_nI_le (by omega) (by omega)).1 x; omega)), if_neg (by omega)]
      · rw [if_neg (fun x => c1 ((z_nI_inj (by omega) (by omega)).1 x))]
        by_cases c3 : c = 3 ∧ t = 6
        · rw [if_pos (.inr c3), c3.1]
          have n6 : ¬ Y 11 6 < nI 6 := by rw [ht, z_nI_lt (by omega) (by omega)]; omega
          have eB : B_X3_readClause_43 Y (nI 3) = if nI 3 = nI 3 then (if (Y 11 6) < nI 6 then (if nI 3 = nI 1 then zWrp (f_X3_readParish Y) else (if nI 3 = nI 2 then zWrp (f_X3_readRoad Y) else (if nI 3 = nI 3 then zWrp (f_X3_readTide Y) else zWrp (f_X3_readPurse Y)))) else zWrp (f_X7_fail Y (nI 3) (Y 1 4))) else (if nI 3 = nI 1 then zWrp (f_X3_readParish Y) else (if nI 3 = nI 2 then zWrp (f_X3_readRoad Y) else (if nI 3 = nI 3 then zWrp (f_X3_readTide Y) else zWrp (f_X3_readPurse Y)))) := rfl
          rw [eB, if_pos rfl, if_neg n6, h4]
        · rw [if_neg (by omega)]
