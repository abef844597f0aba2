set_option linter.unusedVariables false
theorem z9_row {w : Nat} (hw : w < 1073741825) (M : TX) : f_X9_readRow M (nI w) = if zKd w = 1 then zParM M else if zKd w = 2 then f_X9_readRoad M else if zKd w = 3 then zTideM M else ((f_X9_readNumber M (nI 0) (nI 99)).bind fun q7 => some (u2 q7.1 0 18 q7.2)) := by
  have hb : (f_X9_readRoad M).bind (fun q12 => some q12) = f_X9_readRoad M := by cases f_X9_readRoad M <;> rfl
  unfold f_X9_readRow zKd
  rw [z9_of (i := 8) (by decide), z9_of (i := 12) (by decide), z9_of (i := 15) (by decide), Option.bind_some]
  by_cases c8 : w = zOf 8
  · rw [if_pos ((zOf_eq hw (by decide)).2 c8), if_pos c8]; rfl
  · rw [if_neg (fun x => c8 ((zOf_eq hw (by decide)).1 x)), if_neg c8, Option.bind_some]
    by_cases c12 : w = zOf 12
    · rw [if_pos ((zOf_eq hw (by decide)).2 c12), if_pos c12, hb]; rfl
    · rw [if_neg (fun x => c12 ((zOf_eq hw (by decide)).1 x)), if_neg c12, Option.bind_some]
      by_cases c15 : w = zOf 15
      · rw [if_pos ((zOf_eq hw (by decide)).2 c15), if_pos c15]; rfl
      · rw [if_neg (fun x => c15 ((zOf_eq hw (by decide)).1 x)), if_neg c15]
        by_cases c10 : w = zOf 10
        · rw [if_pos c10]; rfl
        · rw [if_neg c10]; rfl
def zWrp (x : Option (TX × Int32)) : Option (TX × Int32) := x.bind fun q => if q.2 &&& nI 1 = q.2 then some (q.1, q.2) else none
theorem zWrp_1 {x : Option (TX × Int32)} {Y : TX} (h : x = some (Y, nI 1)) : zWrp x = some (Y, nI 1) := by
  have e : nI 1 &&& nI 1 = nI 1 := by decide
  unfold zWrp
  rw [h, Option.bind_some]; exact if_pos e
theorem zWrp_0 {x : Option (TX × Int32)} {Y : TX} (h : x = some (Y, nI 0)) : zWrp x = some (Y, nI 0) := by
  have e : nI 0 &&& nI 1 = nI 0 := by decide
  unfold zWrp
  rw [h, Option.bind_some]; exact if_pos e
theorem zRw_wrap {s : Nat} {T : Nat → Nat} {X M : TX} {x : Option (TX × Int32)} {m : Option TX} (h : zRw s T X M x m) : zRw s T X M (zWrp x) m := by
  rcases h with ⟨e, n, t, Y, N, h1, h2, h3, h4, h5, h6, h7, h8⟩ | ⟨Y, N, kd, pl, a, h1, h2, h3, h4, h5, h6, h7, h8, h9, h10, h11⟩
  · exact .inl ⟨e, n, t, Y, N, zWrp_1 h1, h2, h3, h4, h5, h6, h7, h8⟩
  · exact .inr ⟨Y, N, kd, pl, a, zWrp_0 h1, h2, h3, h4, h5, h6, h7, h8, h9, h10, h11⟩
/-- the row that a word begins, read on both sides; the limits are kept -/
theorem z_rowOf {s : Nat} {T : Nat → Nat} {p n t w : Nat} {X M : TX} (hX : zJx s T p X) (hM : zJm s T p M) (hf : M 0 5 = -nI 1) (hD : zKD n t X M) (hw : w < 1073741825) (h0 : zKd w ≠ 0) (hfull : ¬ ((zKd w = 1 ∧ n = 10) ∨ (zKd w = 3 ∧ t = 6))) :
    zRw s T X M (B_X3_readClause_43 X (nI (zKd w))) (f_X9_readRow M (nI w)) := by
  have h10 := hD.n10
  have h6 := hD.t6
  have eB : B_X3_readClause_43 X (nI (zKd w)) = if nI (zKd w) = nI 3 then (if (X 11 6) < nI 6 then (if nI (zKd w) = nI 1 then zWrp (f_X3_readParish X) else (if nI (zKd w) = nI 2 then zWrp (f_X3_readRoad X) else (if nI (zKd w) = nI 3 then zWrp (f_X3_readTide X) else zWrp (f_X3_readPurse X)))) else zWrp (f_X7_fail X (nI 3) (X 1 4))) else (if nI (zKd w) = nI 1 then zWrp (f_X3_readParish X) else (if nI (zKd w) = nI 2 then zWrp (f_X3_readRoad X) else (if nI (zKd w) = nI 3 then zWrp (f_X3_readTide X) else zWrp (f_X3_readPurse X)))) := rfl
  have kb : zKd w ≤ 4 := by
    unfold zKd
    split
    · omega
    · split
      · omega
      · split
        · omega
        · split <;> omega
  rw [eB, z9_row hw]
  have n13 : ¬ nI 1 = nI 3 := by decide
  have n23 : ¬ nI 2 = nI 3 := by decide
  have n43 : ¬ nI 4 = nI 3 := by decide
  have n21 : ¬ nI 2 = nI 1 := by decide
  have n31 : ¬ nI 3 = nI 1 := by decide
  have n32 : ¬ nI 3 = nI 2 := by decide
  have n41 : ¬ nI 4 = nI 1 := by decide
  have n42 : ¬ nI 4 = nI 2 := by decide
  have hc : zKd w = 1 ∨ zKd w = 2 ∨ zKd w = 3 ∨ zKd w = 4 := by omega
  rcases hc with c | c | c | c
  · rw [c, if_neg n13, if_pos rfl, if_pos rfl]
    exact zRw_wrap (z_parRow hX hM hf hD (by omega))
  · rw [c, if_neg n23, if_neg n21, if_pos rfl, if_neg (by decide), if_pos rfl]
    exact zRw_wrap (z_roadRow hX hM hf hD)
  · have t6 : nI t < nI 6 := (z_nI_lt (by omega) (by omega)).2 (by omega)
    rw [c, if_pos rfl, hD.xt, if_pos t6, if_neg n31, if_neg n32, if_pos rfl, if_neg (by decide), if_neg (by decide), if_pos rfl]
    exact zRw_wrap (z_tideRow hX hM hf hD (by omega))
  · rw [c, if_neg n43, if_neg n41, if_neg n42, if_neg n43, if_neg (by decide), if_neg (by decide), if_neg (by decide)]
    exact zRw_wrap (z_purseRow hX hM hf hD)
