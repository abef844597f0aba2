set_option linter.unusedVariables false
theorem zQM_48 (M : TX) (v : Int32) : zQM M (u2 M 0 48 v) := ⟨fun k a _ _ _ _ _ _ => z_u2k _ _ _ _ a, fun j _ b => z_u2j _ _ _ _ b⟩
theorem z_timeL {n n0 q : Nat} {K : TX} (hn0 : n0 ≤ 48) (hq : q ≤ 16) (mb : Int32) : ∀ (k i f f' b : Nat) (X M : TX) (r : Nat → Int32), i + k = n0 → k < f → k < f' → b + k ≤ 1000 → zE n K X → zD n r X → X 34 4 = M 0 48 → zS K M → M 20 = r → zYr b r →
    ∃ X' M' r', L_X5_live_29 f X (nI q) (nI n0) mb (nI i) = ((f_X3_margin (u2 X' 34 5 (X' 3 9)) (0 : Int32)).bind fun q3 => (f_X3_lines (u2 (u2 (u2 X' 34 5 (X' 3 9)) 34 9 q3) 34 10 (((u2 (u2 X' 34 5 (X' 3 9)) 34 9 q3) 3 11) - mb))).bind fun q4 => (f_X3_load 35 (u2 (u2 (u2 (u2 X' 34 5 (X' 3 9)) 34 9 q3) 34 10 (((u2 (u2 X' 34 5 (X' 3 9)) 34 9 q3) 3 11) - mb)) 34 11 q4) (0 : Int32)).bind fun q5 => some q5) ∧ zQY X X' ∧ X' 35 = X 35 ∧ zD n r' X' ∧
      L_X9_timeGoes_12 f' M (nI q) (nI n0) (nI i) = some M' ∧ zQM M M' ∧ M' 0 0 = M 0 0 ∧ M' 20 = r'
  | 0, i, f + 1, f' + 1, b, X, M, r, hi, _, _, _, hE, hD, hsd, hS, hs, hy => by
    have e : n0 ≤ i := by omega
    refine ⟨X, M, r, ?_, zQY.refl X, rfl, hD, ?_, zQM.refl M, rfl, hs⟩
    · have c : nI n0 ≤ nI i := (z_nI_le (by omega) (by omega)).2 e
      have eq : L_X5_live_29 (f + 1) X (nI q) (nI n0) mb (nI i) = if nI n0 ≤ nI i then ((f_X3_margin (u2 X 34 5 (X 3 9)) (0 : Int32)).bind fun q3 => (f_X3_lines (u2 (u2 (u2 X 34 5 (X 3 9)) 34 9 q3) 34 10 (((u2 (u2 X 34 5 (X 3 9)) 34 9 q3) 3 11) - mb))).bind fun q4 => (f_X3_load 35 (u2 (u2 (u2 (u2 X 34 5 (X 3 9)) 34 9 q3) 34 10 (((u2 (u2 X 34 5 (X 3 9)) 34 9 q3) 3 11) - mb)) 34 11 q4) (0 : Int32)).bind fun q5 => some q5) else (if (X 3 5) ≤ 0 then ((f_X5_pass X).bind fun q7 => (L_X5_live_29 f) q7 (nI q) (nI n0) mb (nI i + (1 : Int32))) else ((f_X5_drawn X (X 3 5)).bind fun q8 => (f_X5_drawn q8.1 (4 : Int32)).bind fun q9 => (f_X5_drawn q9.1 (16 : Int32)).bind fun q10 => if nI q ≤ q10.2 then ((f_X5_pass q10.1).bind fun q12 => (L_X5_live_29 f) q12 (nI q) (nI n0) mb (nI i + (1 : Int32))) else ((f_X2_move q10.1 q8.2 q9.2).bind fun q13 => (f_X5_pass q13.1).bind fun q14 => (L_X5_live_29 f) q14 (nI q) (nI n0) mb (nI i + (1 : Int32))))) := rfl
      rw [eq, if_pos c]
    · simp (discharger := omega) only [L_X9_timeGoes_12, e, z_lit, z_nI_le, z_nI_lt, z_nI_inj, z_inb, z_nI_tn, z_nI_add, z_nI_mul, z_bitN, z_zb, z_0add, z_add0, z_0or, z_or0, Option.bind_some, decide_eq_true_eq, Nat.zero_add, Nat.add_zero, ↓reduceIte]
  | k + 1, i, f + 1, f' + 1, b, X, M, r, hi, hf, hf', hb, hE, hD, hsd, hS, hs, hy => by
    have h10 := hE.n10
    have hn := hE.xn
    have hnM : M 0 19 = nI n := hS.a19.trans hE.kn
    have c : ¬ n0 ≤ i := by omega
    -- a year, and on from there
    have go : ∀ (Z P : TX) (u : Nat → Int32), zE n K Z → zD n u Z → Z 34 4 = P 0 48 → zS K P → P 20 = u → zYr b u → ∃ Y A B v, f_X5_pass Z = some Y ∧ f_X9_votes P = some A ∧ f_X9_isDrawn A = some (B, v) ∧ zFX Z Y ∧ zFM P B ∧
        ∃ X' M' r', L_X5_live_29 f Y (nI q) (nI n0) mb (nI (i + 1)) = ((f_X3_margin (u2 X' 34 5 (X' 3 9)) (0 : Int32)).bind fun q3 => (f_X3_lines (u2 (u2 (u2 X' 34 5 (X' 3 9)) 34 9 q3) 34 10 (((u2 (u2 X' 34 5 (X' 3 9)) 34 9 q3) 3 11) - mb))).bind fun q4 => (f_X3_load 35 (u2 (u2 (u2 (u2 X' 34 5 (X' 3 9)) 34 9 q3) 34 10 (((u2 (u2 X' 34 5 (X' 3 9)) 34 9 q3) 3 11) - mb)) 34 11 q4) (0 : Int32)).bind fun q5 => some q5) ∧ zQY Y X' ∧ X' 35 = Y 35 ∧ zD n r' X' ∧
          L_X9_timeGoes_12 f' B (nI q) (nI n0) (nI (i + 1)) = some M' ∧ zQM B M' ∧ M' 0 0 = B 0 0 ∧ M' 20 = r' := fun Z P u hEZ hDZ hsZ hSP hP hyu => by
      obtain ⟨Y, A, B, v, y1, y2, y3, a1, a2, a3, b1, b2, b3, hy'⟩ := z_pass hEZ hDZ hSP hP hyu (by omega)
      have s34 : Y 34 = Z 34 := y2.1 34 (by decide) (by decide) (by decide) (by decide) (by decide) (by decide) (by decide) (by decide)
      exact ⟨Y, A, B, v, y1, a1, b1, y2, b2, z_timeL hn0 hq mb k (i + 1) f f' (b + 1) Y B (zPs K n u) (by omega) (by omega) (by omega) (by omega) (hEZ.fx y2) y3 (by rw [s34, hsZ, b2 0 (by decide) (by decide) (by decide)]) (hSP.fm b2) b3 hy'⟩
    have x35 : ∀ {Z Y : TX}, zFX Z Y → Y 35 = Z 35 := fun h => h.1 35 (by decide) (by decide) (by decide) (by decide) (by decide) (by decide) (by decide) (by decide)
    have x34 : ∀ {Z Y : TX}, zFX Z Y → Y 34 = Z 34 := fun h => h.1 34 (by decide) (by decide) (by decide) (by decide) (by decide) (by decide) (by decide) (by decide)
    have m0 : ∀ {P B : TX}, zFM P B → B 0 = P 0 := fun h => h 0 (by decide) (by decide) (by decide)
    by_cases hz : n ≤ 0
    · obtain ⟨Y, A, B, v, y1, a1, b1, y2, b2, X', M', r', p1, p2, p3, p4, p5, p6, p7, p8⟩ := go X M r hE hD hsd hS hs hy
      refine ⟨X', M', r', ?_, y2.y.trans p2, p3.trans (x35 y2), p4, ?_, b2.q.trans p6, p7.trans (by rw [m0 b2]), p8⟩
      · rw [← p1]
        simp (discharger := omega) only [L_X5_live_29, c, hn, hz, y1, z_lit, z_nI_le, z_nI_lt, z_nI_inj, z_inb, z_nI_tn, z_nI_add, z_nI_mul, z_bitN, z_zb, z_0add, z_add0, z_0or, z_or0, Option.bind_some, decide_eq_true_eq, Nat.zero_add, Nat.add_zero, ↓reduceIte]
      · simp (discharger := omega) only [L_X9_timeGoes_12, c, hnM, hz, a1, b1, z_lit, z_nI_le, z_nI_lt, z_nI_inj, z_inb, z_nI_tn, z_nI_add, z_nI_mul, z_bitN, z_zb, z_0add, z_add0, z_0or, z_or0, Option.bind_some, decide_eq_true_eq, Nat.zero_add, Nat.add_zero, ↓reduceIte]
        exact p5
    · obtain ⟨p, hp, d1, d1'⟩ := z_drawn X (m := n) (by omega) (by omega)
      obtain ⟨X1, hX1⟩ : ∃ Z, Z = u2 X 34 4 (zSd (X 34 4)) := ⟨_, rfl⟩
      obtain ⟨d, hd, d2, d2'⟩ := z_drawn X1 (m := 4) (by omega) (by omega)
      obtain ⟨X2, hX2⟩ : ∃ Z, Z = u2 X1 34 4 (zSd (X1 34 4)) := ⟨_, rfl⟩
      obtain ⟨e, he, d3, d3'⟩ := z_drawn X2 (m := 16) (by omega) (by omega)
      obtain ⟨X3, hX3⟩ : ∃ Z, Z = u2 X2 34 4 (zSd (X2 34 4)) := ⟨_, rfl⟩
      obtain ⟨M1, hM1⟩ : ∃ Z, Z = u2 M 0 48 (zSd (M 0 48)) := ⟨_, rfl⟩
      obtain ⟨M2, hM2⟩ : ∃ Z, Z = u2 M1 0 48 (zSd (M1 0 48)) := ⟨_, rfl⟩
      obtain ⟨M3, hM3⟩ : ∃ Z, Z = u2 M2 0 48 (zSd (M2 0 48)) := ⟨_, rfl⟩
      have s1 : M1 0 48 = X1 34 4 := by rw [hM1, hX1, z_u2s, z_u2s, hsd]
      have s2 : M2 0 48 = X2 34 4 := by rw [hM2, hX2, z_u2s, z_u2s, s1]
      have s3 : X3 34 4 = M3 0 48 := by rw [hM3, hX3, z_u2s, z_u2s, s2]
      have m1 := d1' M hsd.symm
      have m2 := d2' M1 s1
      have m3 := d3' M2 s2
      rw [← hX1] at d1
      rw [← hX2] at d2
      rw [← hX3] at d3
      rw [← hM1] at m1
      rw [← hM2] at m2
      rw [← hM3] at m3
      have qX : zQY X X3 := by rw [hX3, hX2, hX1]; exact ((zQY_34 _ _ _).trans (zQY_34 _ _ _)).trans (zQY_34 _ _ _)
      have qM : zQM M M3 := by rw [hM3, hM2, hM1]; exact ((zQM_48 _ _).trans (zQM_48 _ _)).trans (zQM_48 _ _)
      have D3 : zD n r X3 := by rw [hX3, hX2, hX1]; exact zD_34 (zD_34 (zD_34 hD _ _) _ _) _ _
      have X35 : X3 35 = X 35 := by rw [hX3, hX2, hX1, z_u2k _ _ _ _ (by decide), z_u2k _ _ _ _ (by decide), z_u2k _ _ _ _ (by decide)]
      have M20 : M3 20 = r := by rw [hM3, hM2, hM1, z_u2k _ _ _ _ (by decide), z_u2k _ _ _ _ (by decide), z_u2k _ _ _ _ (by decide)]; exact hs
      have M00 : M3 0 0 = M 0 0 := by rw [hM3, hM2, hM1, z_u2j _ _ _ _ (by decide), z_u2j _ _ _ _ (by decide), z_u2j _ _ _ _ (by decide)]
      have E3 := hE.y qX
      have S3 : zS K M3 := hS.trans qM.s
      have hst : nI i + (1 : Int32) = nI (i + 1) := z_nI_succ i
      have cX : ¬ nI n0 ≤ nI i := fun h => c ((z_nI_le (by omega) (by omega)).1 h)
      have cN : ¬ nI n ≤ (0 : Int32) := fun h => hz ((z_nI_le (i := n) (j := 0) (by omega) (by omega)).1 h)
      have eqX : L_X5_live_29 (f + 1) X (nI q) (nI n0) mb (nI i) = (if nI q ≤ nI e then ((f_X5_pass X3).bind fun q12 => (L_X5_live_29 f) q12 (nI q) (nI n0) mb (nI (i + 1))) else ((f_X2_move X3 (nI p) (nI d)).bind fun q13 => (f_X5_pass q13.1).bind fun q14 => (L_X5_live_29 f) q14 (nI q) (nI n0) mb (nI (i + 1)))) := by
        have d2' : f_X5_drawn X1 (4 : Int32) = some (X2, nI d) := d2
        have d3' : f_X5_drawn X2 (16 : Int32) = some (X3, nI e) := d3
        have eq : L_X5_live_29 (f + 1) X (nI q) (nI n0) mb (nI i) = if nI n0 ≤ nI i then ((f_X3_margin (u2 X 34 5 (X 3 9)) (0 : Int32)).bind fun q3 => (f_X3_lines (u2 (u2 (u2 X 34 5 (X 3 9)) 34 9 q3) 34 10 (((u2 (u2 X 34 5 (X 3 9)) 34 9 q3) 3 11) - mb))).bind fun q4 => (f_X3_load 35 (u2 (u2 (u2 (u2 X 34 5 (X 3 9)) 34 9 q3) 34 10 (((u2 (u2 X 34 5 (X 3 9)) 34 9 q3) 3 11) - mb)) 34 11 q4) (0 : Int32)).bind fun q5 => some q5) else (if (X 3 5) ≤ 0 then ((f_X5_pass X).bind fun q7 => (L_X5_live_29 f) q7 (nI q) (nI n0) mb (nI i + (1 : Int32))) else ((f_X5_drawn X (X 3 5)).bind fun q8 => (f_X5_drawn q8.1 (4 : Int32)).bind fun q9 => (f_X5_drawn q9.1 (16 : Int32)).bind fun q10 => if nI q ≤ q10.2 then ((f_X5_pass q10.1).bind fun q12 => (L_X5_live_29 f) q12 (nI q) (nI n0) mb (nI i + (1 : Int32))) else ((f_X2_move q10.1 q8.2 q9.2).bind fun q13 => (f_X5_pass q13.1).bind fun q14 => (L_X5_live_29 f) q14 (nI q) (nI n0) mb (nI i + (1 : Int32))))) := rfl
        rw [eq, if_neg cX, hn, if_neg cN, d1, Option.bind_some, d2', Option.bind_some, d3', Option.bind_some, hst]
      have eqM : L_X9_timeGoes_12 (f' + 1) M (nI q) (nI n0) (nI i) = (if nI q ≤ nI e then ((f_X9_votes M3).bind fun q10 => (f_X9_isDrawn q10).bind fun q11 => (L_X9_timeGoes_12 f') q11.1 (nI q) (nI n0) (nI (i + 1))) else ((f_X9_isMoved M3 (nI p) (nI d)).bind fun q12 => (f_X9_votes q12.1).bind fun q13 => (f_X9_isDrawn q13).bind fun q14 => (L_X9_timeGoes_12 f') q14.1 (nI q) (nI n0) (nI (i + 1)))) := by
        have m2' : f_X9_draws M1 (4 : Int32) = some (M2, nI d) := m2
        have m3' : f_X9_draws M2 (16 : Int32) = some (M3, nI e) := m3
        have eq : L_X9_timeGoes_12 (f' + 1) M (nI q) (nI n0) (nI i) = if nI n0 ≤ nI i then (some M) else (if (M 0 19) ≤ 0 then ((f_X9_votes M).bind fun q4 => (f_X9_isDrawn q4).bind fun q5 => (L_X9_timeGoes_12 f') q5.1 (nI q) (nI n0) (nI i + (1 : Int32))) else ((f_X9_draws M (M 0 19)).bind fun q6 => (f_X9_draws q6.1 (4 : Int32)).bind fun q7 => (f_X9_draws q7.1 (16 : Int32)).bind fun q8 => if nI q ≤ q8.2 then ((f_X9_votes q8.1).bind fun q10 => (f_X9_isDrawn q10).bind fun q11 => (L_X9_timeGoes_12 f') q11.1 (nI q) (nI n0) (nI i + (1 : Int32))) else ((f_X9_isMoved q8.1 q6.2 q7.2).bind fun q12 => (f_X9_votes q12.1).bind fun q13 => (f_X9_isDrawn q13).bind fun q14 => (L_X9_timeGoes_12 f') q14.1 (nI q) (nI n0) (nI i + (1 : Int32))))) := rfl
        rw [eq, if_neg cX, hnM, if_neg cN, m1, Option.bind_some, m2', Option.bind_some, m3', Option.bind_some, hst]
      rw [eqX, eqM]
      by_cases ce : nI q ≤ nI e
      · obtain ⟨Y, A, B, v, y1, a1, b1, y2, b2, X', M', r', p1, p2, p3, p4, p5, p6, p7, p8⟩ := go X3 M3 r E3 D3 s3 S3 M20 hy
        refine ⟨X', M', r', ?_, (qX.trans y2.y).trans p2, (p3.trans (x35 y2)).trans X35, p4, ?_, (qM.trans b2.q).trans p6, (p7.trans (by rw [m0 b2])).trans M00, p8⟩
        · rw [if_pos ce, y1, Option.bind_some]; exact p1
        · rw [if_pos ce, a1, Option.bind_some, b1, Option.bind_some]; exact p5
      · obtain ⟨Z, z1, z2, z3⟩ := z2_move E3 D3 hp hd
        obtain ⟨P, q1, q2, q3⟩ := z9_isMoved E3 D3 S3 M20 hp hd
        obtain ⟨Y, A, B, v, y1, a1, b1, y2, b2, X', M', r', p1, p2, p3, p4, p5, p6, p7, p8⟩ := go Z P _ (E3.fx z2) z3 (by rw [x34 z2, m0 q2]; exact s3) (S3.fm q2) q3 (zMo_yr (by omega) hy)
        refine ⟨X', M', r', ?_, ((qX.trans z2.y).trans y2.y).trans p2, ((p3.trans (x35 y2)).trans (x35 z2)).trans X35, p4, ?_, ((qM.trans q2.q).trans b2.q).trans p6, ((p7.trans (by rw [m0 b2])).trans (by rw [m0 q2])).trans M00, p8⟩
        · rw [if_neg ce, z1, Option.bind_some]
          show (f_X5_pass Z).bind _ = _
          rw [y1, Option.bind_some]; exact p1
        · rw [if_neg ce, q1, Option.bind_some]
          show (f_X9_votes P).bind _ = _
          rw [a1, Option.bind_some, b1, Option.bind_some]; exact p5
theorem z_live {n q y : Nat} {X0 M X M1 : TX} (h : zV n X0 M) (hE : zE n M X) (hD : zD n (M 19) X) (hQ : zQM M M1) (hq : q ≤ 16) (hy48 : y ≤ 48) (seed : Int32) :
    ∃ Y N r, f_X5_live X seed (nI q) (nI y) = some Y ∧ zQY X Y ∧ zD n (M 19) Y ∧ Y 34 5 = r 30 ∧ Y 34 9 = zMg n r (nI 0) ∧ Y 34 10 = r 33 - M 19 33 ∧ Y 34 11 = nI (zLines (M 7) r n) ∧
      f_X9_timeGoes M1 seed (nI q) (nI y) = some N ∧ zQM M N ∧ N 0 0 = M1 0 0 ∧ N 20 = r := by
  have h10 := hE.n10
  obtain ⟨P, t1, t2, t3, tS, tD, tY, t4⟩ := h.take hQ
  have h19 : ∀ {Z}, zQM M Z → Z 19 = M 19 := fun h => h.1 19 (by decide) (by decide) (by decide) (by decide) (by decide) (by decide) (by decide)
  have hDP : zD n (P 20) X := hD.congr h10 t4
  obtain ⟨A, a1, a2, a3, a4⟩ := z3_save (k := 35) (st := 0) hD (by decide) (by decide) (by decide)
  have hEA : zE n M A := hE.y (zQY_35 a2)
  have hDA : zD n (P 20) A := zD_35 hDP a2
  obtain ⟨X', M', r, p1, p2, p3, p4, p5, p6, p7, p8⟩ := z_timeL (n := n) (K := M) hy48 hq (A 3 11) y 0 FU FU 400 (u2 A 34 4 seed) (u2 P 0 48 seed) (P 20) (by omega) (by unfold FU; omega) (by unfold FU; omega) (by omega) (hEA.y (zQY_34 A 4 seed)) (zD_34 hDA 4 seed) (by rw [z_u2s, z_u2s]) (tS.trans (zQM_48 P seed).s) (z_u2k _ _ _ _ (by decide)) tY
  have hEX' : zE n M X' := (hEA.y (zQY_34 A 4 seed)).y p2
  have mb : A 3 11 = M 19 33 := by rw [a2 3 (by decide)]; exact hD.moved
  -- what is kept of it
  obtain ⟨B, hB⟩ : ∃ B, B = u2 (u2 (u2 (u2 X' 34 5 (r 30)) 34 9 (zMg n r (nI 0))) 34 10 (r 33 - M 19 33)) 34 11 (nI (zLines (M 7) r n)) := ⟨_, rfl⟩
  have qB : zQY X' B := by rw [hB]; exact (((zQY_34 _ _ _).trans (zQY_34 _ _ _)).trans (zQY_34 _ _ _)).trans (zQY_34 _ _ _)
  have B35 : B 35 = A 35 := by
    rw [hB, z_u2k _ _ _ _ (by decide), z_u2k _ _ _ _ (by decide), z_u2k _ _ _ _ (by decide), z_u2k _ _ _ _ (by decide), p3, z_u2k _ _ _ _ (by decide)]
  obtain ⟨C, d1, d2, d3⟩ := z3_load (n := n) (k := 35) (st := 0) h10 (s := M 19) (X := B) (hEX'.y qB).xn (h.d.gd h.y) (by decide) (by decide) (by decide) (by rw [B35]; exact a4)
  have C34 : C 34 = B 34 := d2.1 34 (by decide) (by decide) (by decide) (by decide) (by decide) (by decide) (by decide) (by decide)
  refine ⟨C, M', r, ?_, ((((zQY_35 a2).trans (zQY_34 A 4 seed)).trans p2).trans qB).trans d2.y, d3, ?_, ?_, ?_, ?_, ?_, (t2.trans (zQM_48 P seed)).trans p6, ?_, p8⟩
  · have a1' : f_X3_save 35 X (0 : Int32) = some A := a1
    have d1' : f_X3_load 35 B (0 : Int32) = some C := d1
    have r9 : X' 3 9 = r 30 := p4.ruler
    have r11 : X' 3 11 = r 33 := p4.moved
    have mg : f_X3_margin (u2 X' 34 5 (r 30)) (0 : Int32) = some (zMg n r (nI 0)) := (zD_34 p4 5 _).margin _
    have ln : f_X3_lines (u2 (u2 (u2 X' 34 5 (r 30)) 34 9 (zMg n r (nI 0))) 34 10 (r 33 - M 19 33)) = some (nI (zLines (M 7) r n)) :=
      zLinesX (hEX'.y (((zQY_34 _ _ _).trans (zQY_34 _ _ _)).trans (zQY_34 _ _ _))) (zD_34 (zD_34 (zD_34 p4 _ _) _ _) _ _)
    have e3 : u2 (u2 X' 34 5 (r 30)) 34 9 (zMg n r (nI 0)) 3 11 = r 33 := by rw [z_u2k _ _ _ _ (by decide), z_u2k _ _ _ _ (by decide), r11]
    unfold f_X5_live
    rw [a1', Option.bind_some]
    refine Eq.trans p1 ?_
    rw [r9, mg, Option.bind_some, e3, mb, ln, Option.bind_some, ← hB, d1']; rfl
  · rw [C34, hB, z_u2j _ _ _ _ (by decide), z_u2j _ _ _ _ (by decide), z_u2j _ _ _ _ (by decide), z_u2s]
  · rw [C34, hB, z_u2j _ _ _ _ (by decide), z_u2j _ _ _ _ (by decide), z_u2s]
  · rw [C34, hB, z_u2j _ _ _ _ (by decide), z_u2s]
  · rw [C34, hB, z_u2s]
  · unfold f_X9_timeGoes
    rw [t1, Option.bind_some]; exact p5
  · rw [p7, z_u2j _ _ _ _ (by decide), t3]
