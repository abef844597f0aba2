set_option linter.unusedVariables false
def zStep4 (q1 Z : TX) : Option (TX × Int32) := (f_X7_is 16 Z).bind fun q4 => if q4 = nI 0 then ((f_X7_is 2 Z).bind fun q6 => if q6 = nI 0 then ((f_X7_is 7 Z).bind fun q8 => if q8 = nI 0 then ((f_X7_is 1 Z).bind fun q10 => if q10 = nI 0 then zWrp (f_X7_fail Z (nI 1) (Z 1 4)) else ((f_X8_put 32 Z (q1 31 1) (nI 4)).bind fun q14 => zAnd (f_X6_readNumber q14 ((q14 31 2) - nI 1) ((q1 31 1) + nI 1)) fun A => zAnd (f_X6_readNumber A (nI 99) ((q1 31 1) + nI 2)) fun B => zAnd (f_X6_readNumber B (nI 99) ((q1 31 1) + nI 3)) fun C => some (C, nI 1))) else ((f_X8_put 32 Z (q1 31 1) (nI 3)).bind fun q21 => zAnd (f_X6_readNumber q21 ((q21 31 2) - nI 1) ((q1 31 1) + nI 1)) fun A => zAnd (f_X6_readNumber A (nI 3) ((q1 31 1) + nI 2)) fun B => some (B, nI 1))) else ((f_X8_put 32 Z (q1 31 1) (nI 2)).bind fun q26 => some (q26, nI 1))) else ((f_X8_put 32 Z (q1 31 1) (nI 1)).bind fun q27 => some (q27, nI 1))
/-- a step of a work, on both sides -/
theorem z_step1 {s : Nat} {T : Nat → Nat} {dep n D : Nat} {rec : TX → Int32 → Option (TX × Int32)} (hdep : dep ≤ 6)
    (hN : dep < 6 → ∀ p a X M x2, zWi s T p a (dep + 1) n X M → zAR s T p a (dep + 1) n X M (rec X (nI (dep + 1))) (L_X9_readAgain_32 (f_X9_readStep D) FU M x2) (zFA x2))
    {q a : Nat} {X M : TX} (a3 : zA T s q = q) (h : zWi s T q a dep n X M) :
    zSR s T q a dep n (s - q - 1) X M (zSX rec dep X) (f_X9_readStep (D + 1) M) := by
  have hs := h.s1
  have mp := h.mp
  have n0 : ¬ nI 1 = nI 0 := by decide
  obtain ⟨Y, y1, y2, y3, y4⟩ := z7_word h.jx
  have w1 := z9_word h.jm
  rw [a3] at y2 y3 w1
  have uid : u2 M 0 4 (nI q) = M := z_u2id _ _ _ h.jm.mp
  rw [uid] at w1
  obtain ⟨b1, b2, b3⟩ := zLE_spec (T := T) h.jx.ps
  have ps := z9_pass h.jm
  generalize zLE T s q = e at *
  have ya : Y 31 1 = nI a := by rw [y4.1 31 (by decide)]; exact h.xa
  obtain ⟨Z, hZ⟩ : ∃ Z, Z = u2 Y 31 1 (nI (a + 4)) := ⟨_, rfl⟩
  have zk : ∀ k, k ≠ 31 → Z k = Y k := fun k a => by rw [hZ, z_u2k _ _ _ _ a]
  have jz : zJx s T e Z := y2.fr (zk 2 (by decide)) (by rw [zk 1 (by decide)]) (by rw [zk 1 (by decide)]; exact y2.xp) y2.ps
  have z4 : Z 1 4 = nI q := by rw [zk 1 (by decide)]; exact y3
  have fz : zVX X Z := by rw [hZ]; exact y4.vx.trans (zVX_31 _ _)
  have i0 := z7_is y2 y3 b1 b3 (i := 0) (by decide)
  have i16 := z7_is jz z4 b1 b3 (i := 16) (by decide)
  have i2 := z7_is jz z4 b1 b3 (i := 2) (by decide)
  have i7 := z7_is jz z4 b1 b3 (i := 7) (by decide)
  have i1 := z7_is jz z4 b1 b3 (i := 1) (by decide)
  have hw : zWn T q (e - q) < 1073741825 := zWn_lt fun j hj => b3 _ (by omega) (by omega)
  have len : ∀ i, i < 18 → zWn T q (e - q) = zOf i → e = q + SL.getD i 0 := fun i hi hh => by
    have := zWn_len hi (fun j hj => b3 (q + j) (by omega) (by omega)) hh; omega
  generalize zWn T q (e - q) = w at *
  have so := z9_stepOf hw
  have put : ∀ (Z : TX) j v, j < 150 → f_X8_put 32 Z (nI j) v = some (u2 Z 32 j v) := fun Z j v hj => z_put (by show j < 150; omega) (by decide)
  have eX : f_X6_readStep rec X (nI dep) = if zbI (decide (w = zOf 0)) = nI 0 then zStep4 Y Z else zWrp (f_X6_readAgain rec Y (nI dep)) := by
    unfold f_X6_readStep
    rw [y1, Option.bind_some, i0, Option.bind_some, hZ, ← z_nI_add, ← ya]
    rfl
  have e3 : nI 3 = zBe 4 := by unfold zBe; rw [zBe_u (b := 3)]
  have e99 : nI 99 = zBe 100 := by unfold zBe; rw [zBe_u (b := 99)]
  have eM : f_X9_readStep (D + 1) M = if (if zSk w = 5 then -nI 1 else nI (zSk w)) = -nI 1 then ((f_X9_wrong M (nI 1) (M 0 4)).bind fun q24 => (f_X9_sign q24 (nI 59)).bind fun q25 => some q25) else if (if zSk w = 5 then -nI 1 else nI (zSk w)) = nI 4 then ((f_X9_readAgain (f_X9_readStep D) M).bind fun q22 => (f_X9_sign q22 (nI 59)).bind fun q23 => some q23) else ((f_X9_pass M).bind fun q5 => if (if zSk w = 5 then -nI 1 else nI (zSk w)) < nI 2 then (if (if zSk w = 5 then -nI 1 else nI (zSk w)) = nI 2 then ((f_X9_readNumber q5 (nI 0) (nI 3)).bind fun q16 => zB92 q16.1 (if zSk w = 5 then -nI 1 else nI (zSk w)) (nI 0) q16.2) else (if (if zSk w = 5 then -nI 1 else nI (zSk w)) = nI 3 then ((f_X9_readNumber q5 (nI 0) (nI 99)).bind fun q15 => zB92 q15.1 (if zSk w = 5 then -nI 1 else nI (zSk w)) (nI 0) q15.2) else zB92 q5 (if zSk w = 5 then -nI 1 else nI (zSk w)) (nI 0) (nI 0))) else ((f_X9_readNumber q5 (nI 0) ((q5 0 19) - nI 1)).bind fun q17 => if (if zSk w = 5 then -nI 1 else nI (zSk w)) = nI 2 then ((f_X9_readNumber q17.1 (nI 0) (nI 3)).bind fun q21 => zB92 q21.1 (if zSk w = 5 then -nI 1 else nI (zSk w)) q17.2 q21.2) else (if (if zSk w = 5 then -nI 1 else nI (zSk w)) = nI 3 then ((f_X9_readNumber q17.1 (nI 0) (nI 99)).bind fun q20 => zB92 q20.1 (if zSk w = 5 then -nI 1 else nI (zSk w)) q17.2 q20.2) else zB92 q17.1 (if zSk w = 5 then -nI 1 else nI (zSk w)) q17.2 (nI 0)))) := by
    show ((f_X9_word M).bind fun q1 => (f_X9_stepOf q1.2).bind fun q2 => if q2 = -nI 1 then ((f_X9_wrong q1.1 (nI 1) (q1.1 0 4)).bind fun q24 => (f_X9_sign q24 (nI 59)).bind fun q25 => some q25) else if q2 = nI 4 then ((f_X9_readAgain (f_X9_readStep D) q1.1).bind fun q22 => (f_X9_sign q22 (nI 59)).bind fun q23 => some q23) else ((f_X9_pass q1.1).bind fun q5 => if q2 < nI 2 then (if q2 = nI 2 then ((f_X9_readNumber q5 (nI 0) (nI 3)).bind fun q16 => zB92 q16.1 q2 (nI 0) q16.2) else (if q2 = nI 3 then ((f_X9_readNumber q5 (nI 0) (nI 99)).bind fun q15 => zB92 q15.1 q2 (nI 0) q15.2) else zB92 q5 q2 (nI 0) (nI 0))) else ((f_X9_readNumber q5 (nI 0) ((q5 0 19) - nI 1)).bind fun q17 => if q2 = nI 2 then ((f_X9_readNumber q17.1 (nI 0) (nI 3)).bind fun q21 => zB92 q21.1 q2 q17.2 q21.2) else (if q2 = nI 3 then ((f_X9_readNumber q17.1 (nI 0) (nI 99)).bind fun q20 => zB92 q20.1 q2 q17.2 q20.2) else zB92 q17.1 q2 q17.2 (nI 0))))) = _
    rw [w1, Option.bind_some]
    show ((f_X9_stepOf (nI w)).bind fun q2 => _) = _
    rw [so, Option.bind_some]
  unfold zSX
  rw [eX, eM]
  by_cases c0 : w = zOf 0
  · have k : zSk w = 4 := by rw [c0]; decide
    have e5 := len 0 (by decide) c0
    have kv : (if zSk w = 5 then -nI 1 else nI (zSk w)) = nI 4 := by rw [k]; rfl
    rw [zbI_t c0, if_neg n0, kv, if_neg (by decide), if_pos rfl]
    exact z_again hdep hN h (by rw [show q + 5 = e from e5.symm]; exact y2) y3 y4
  · rw [zbI_f c0, if_pos rfl]
    have hM : zTM M (u2 M 0 4 (nI e)) := zTM_u _ _
    have jm := h.jm.to b2
    have zf7 : Z 1 7 = -nI 1 := by rw [zk 1 (by decide), y4.2 7 (by decide) (by decide) (by decide)]; exact h.f7
    have za : Z 31 1 = nI (a + 4) := by rw [hZ, z_u2s]
    have z32 : Z 32 = X 32 := by rw [zk 32 (by decide), y4.1 32 (by decide)]
    have za2 : Z 31 2 = nI n := by rw [hZ, z_u2j _ _ _ _ (by decide), y4.1 31 (by decide)]; exact h.xn
    have m19 : u2 M 0 4 (nI e) 0 19 = nI n := by rw [z_u2j _ _ _ _ (by decide)]; exact h.mn
    have hA : ∀ v, a < 150 → zJx s T e (u2 Z 32 a v) ∧ zVX X (u2 Z 32 a v) ∧ u2 Z 32 a v 1 7 = -nI 1 ∧ u2 Z 32 a v 31 1 = nI (a + 4) ∧ (∀ j, j < a → u2 Z 32 a v 32 j = X 32 j) ∧ u2 Z 32 a v 32 a = v ∧ u2 Z 32 a v 31 2 = nI n := fun v hv =>
      ⟨jz.fr (z_u2k _ _ _ _ (by decide)) (by rw [z_u2k _ _ _ _ (by decide)]) (by rw [z_u2k _ _ _ _ (by decide)]; exact jz.xp) jz.ps, fz.trans (zVX_32 _ _ _), by rw [z_u2k _ _ _ _ (by decide)]; exact zf7, by rw [z_u2k _ _ _ _ (by decide)]; exact za, fun j hj => by rw [z_u2j _ _ _ _ (by omega), z32], z_u2s _ _ _ _, by rw [z_u2k _ _ _ _ (by decide)]; exact za2⟩
    by_cases c16 : w = zOf 16
    · have k : zSk w = 0 := by rw [c16]; decide
      have e4 : e = q + 4 := len 16 (by decide) c16
      obtain ⟨g1, g2, g3, g4, g5, g6, g7⟩ := hA (nI 1) (by omega)
      have eS : zStep4 Y Z = some (u2 Z 32 a (nI 1), nI 1) := by
        unfold zStep4
        rw [i16, Option.bind_some, zbI_t c16, if_neg n0, ya, put _ _ _ (by omega), Option.bind_some]
      rw [eS, zAnd_1 rfl, k, if_neg (by decide), if_neg (by decide), if_neg (by decide), ps, Option.bind_some, if_pos (by decide), if_neg (by decide), if_neg (by decide)]
      unfold zB92
      rw [if_neg (by decide)]
      refine z_stepEnd h (by omega) g1 jm g2 hM g3 g4 g5 (.inl ⟨g6, ?_⟩)
      rw [z_updJ _ _ (by omega), z_updJ _ _ (by omega), z_updJ _ _ (by omega), z_updS]
    · by_cases c2 : w = zOf 2
      · have k : zSk w = 1 := by rw [c2]; decide
        have e4 : e = q + 4 := len 2 (by decide) c2
        obtain ⟨g1, g2, g3, g4, g5, g6, g7⟩ := hA (nI 2) (by omega)
        have eS : zStep4 Y Z = some (u2 Z 32 a (nI 2), nI 1) := by
          unfold zStep4
          rw [i16, Option.bind_some, zbI_f c16, if_pos rfl, i2, Option.bind_some, zbI_t c2, if_neg n0, ya, put _ _ _ (by omega), Option.bind_some]
        rw [eS, zAnd_1 rfl, k, if_neg (by decide), if_neg (by decide), if_neg (by decide), ps, Option.bind_some, if_pos (by decide), if_neg (by decide), if_neg (by decide)]
        unfold zB92
        rw [if_neg (by decide)]
        refine z_stepEnd h (by omega) g1 jm g2 hM g3 g4 g5 (.inr (.inl ⟨g6, ?_⟩))
        rw [z_updJ _ _ (by omega), z_updJ _ _ (by omega), z_updJ _ _ (by omega), z_updS]
      · by_cases c7 : w = zOf 7
        · have k : zSk w = 2 := by rw [c7]; decide
          have e4 : e = q + 4 := len 7 (by decide) c7
          obtain ⟨g1, g2, g3, g4, g5, g6, g7⟩ := hA (nI 3) (by omega)
          have eS : zStep4 Y Z = zAnd (f_X6_readNumber (u2 Z 32 a (nI 3)) (zBe n) (nI (a + 1))) fun A => zAnd (f_X6_readNumber A (zBe 4) (nI (a + 2))) fun B => some (B, nI 1) := by
            unfold zStep4
            rw [i16, Option.bind_some, zbI_f c16, if_pos rfl, i2, Option.bind_some, zbI_f c2, if_pos rfl, i7, Option.bind_some, zbI_t c7, if_neg n0, ya, put _ _ _ (by omega), Option.bind_some, g7, z_nI_add, z_nI_add, e3]
            rfl
          rw [eS, k, if_neg (by decide), if_neg (by decide), if_neg (by decide), ps, Option.bind_some, if_neg (by decide), m19, e3]
          exact z_moveStep h (by omega) g1 jm g2 hM g3 g4 g5 g6
        · by_cases c1 : w = zOf 1
          · have k : zSk w = 3 := by rw [c1]; decide
            have e4 : e = q + 5 := len 1 (by decide) c1
            obtain ⟨g1, g2, g3, g4, g5, g6, g7⟩ := hA (nI 4) (by omega)
            have eS : zStep4 Y Z = zAnd (f_X6_readNumber (u2 Z 32 a (nI 4)) (zBe n) (nI (a + 1))) fun A => zAnd (f_X6_readNumber A (zBe 100) (nI (a + 2))) fun B => zAnd (f_X6_readNumber B (zBe 100) (nI (a + 3))) fun C => some (C, nI 1) := by
              unfold zStep4
              rw [i16, Option.bind_some, zbI_f c16, if_pos rfl, i2, Option.bind_some, zbI_f c2, if_pos rfl, i7, Option.bind_some, zbI_f c7, if_pos rfl, i1, Option.bind_some, zbI_t c1, if_neg n0, ya, put _ _ _ (by omega), Option.bind_some, g7, z_nI_add, z_nI_add, z_nI_add, e99]
              rfl
            rw [eS, k, if_neg (by decide), if_neg (by decide), if_neg (by decide), ps, Option.bind_some, if_neg (by decide), m19, e99]
            exact z_countStep h (by omega) g1 jm g2 hM g3 g4 g5 g6
          · have k : zSk w = 5 := by unfold zSk; rw [if_neg c16, if_neg c2, if_neg c7, if_neg c1, if_neg c0]
            have eS : zStep4 Y Z = zWrp (f_X7_fail Z (nI 1) (Z 1 4)) := by
              unfold zStep4
              rw [i16, Option.bind_some, zbI_f c16, if_pos rfl, i2, Option.bind_some, zbI_f c2, if_pos rfl, i7, Option.bind_some, zbI_f c7, if_pos rfl, i1, Option.bind_some, zbI_f c1, if_pos rfl]
            obtain ⟨V, v1, v2⟩ := z7_fail (X := Z) (kd := 1) (pl := q)
            obtain ⟨N, m1, m2⟩ := z9_wrong (kd := 1) (pl := q) h.jm h.f5 h.jm.ps
            have hq := h.jm.ps
            rw [eS, z4, zAnd_0 (zWrp_0 v1), k, if_pos rfl, if_pos rfl, h.jm.mp, m1, Option.bind_some, z9_sgnS m2.2.2.1 (by omega), Option.bind_some]
            exact .inr ⟨V, N, 1, q, rfl, rfl, (zVR_tf (by omega) v2 m2).pre fz (zVM.refl _)⟩
/-- a step at every depth -/
theorem z_stepD {s : Nat} {T : Nat → Nat} {n : Nat} : ∀ (r dep : Nat), dep + r = 6 → ∀ q a X M, zA T s q = q → zWi s T q a dep n X M → zSR s T q a dep n (s - q - 1) X M (zSX (f_X6_readSteps (r + 1)) dep X) (f_X9_readStep (r + 2) M) := by
  intro r
  induction r with
  | zero =>
    intro dep hd q a X M a3 h
    exact z_step1 (D := 1) (by omega) (fun x => absurd x (by omega)) a3 h
  | succ r ih =>
    intro dep hd q a X M a3 h
    refine z_step1 (D := r + 2) (by omega) (fun _ p a X M x2 h2 => ?_) a3 h
    have e : f_X6_readSteps (r + 2) X (nI (dep + 1)) = L_X6_readSteps_14 (f_X6_readSteps (r + 1)) FU X (nI (dep + 1)) (nI 93) (nI 0) := by
      show (if nI (dep + 1) = nI 0 then _ else L_X6_readSteps_14 (f_X6_readSteps (r + 1)) FU X (nI (dep + 1)) (nI 93) (nI 0)) = _
      rw [if_neg (by rw [z_nI_inj (by omega) (by omega)]; omega)]
    rw [e]
    exact z_stepsN (ih (dep + 1) (by omega)) x2 h2
