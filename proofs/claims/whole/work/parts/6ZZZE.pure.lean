set_option linter.unusedVariables false
theorem z_county {n : Nat} {X M : TX} (h : zV n X M) (x : Int32) : zCs none (some (nI 1)) (f_X8_county X x) (f_X9_county M x) := by
  have g := h.q (zQX.refl X) (zQM_0 M (nI 0))
  have g0 : u2 M 0 0 (nI 0) 0 0 = nI 0 := z_u2s _ _ _ _
  have n1 : ¬ nI 1 = nI 0 := by decide
  obtain ⟨A, hA⟩ : ∃ A, A = u2 M 0 0 (nI 0) := ⟨_, rfl⟩
  rw [← hA] at g g0
  have l1 := z9_lets1 g0 (nI 1) (nI 1)
  have l0 := z9_lets0 g0 (c := 1) (j := 1) (by omega) (by omega)
  obtain ⟨t, t6, tx, tm, tt⟩ := g.tp
  have eM : f_X9_county M x = if x < nI 0 then ((f_X9_lets A (nI 0) (nI 1) (nI 1)).bind fun q2 => if q2.2 = nI 0 then (some (q2.1, nI 0)) else ((f_X9_begins q2.1 x).bind fun q4 => (f_X9_clears q4).bind fun q5 => L_X9_county_44 FU q5 (nI 0))) else (if (A 0 2) < x then ((f_X9_lets A (nI 0) (nI 1) (nI 1)).bind fun q34 => if q34.2 = nI 0 then (some (q34.1, nI 0)) else ((f_X9_begins q34.1 x).bind fun q36 => (f_X9_clears q36).bind fun q37 => L_X9_county_44 FU q37 (nI 0))) else ((f_X9_lets A (nI 1) (nI 1) (nI 1)).bind fun q38 => if q38.2 = nI 0 then (some (q38.1, nI 0)) else ((f_X9_begins q38.1 x).bind fun q40 => (f_X9_clears q40).bind fun q41 => L_X9_county_44 FU q41 (nI 0)))) := by rw [hA]; rfl
  have eX : f_X8_county X x = (f_X8_needText X x (nI 600)).bind fun q1 => xb q1 (fun _ _ => (f_X7_open q1.1 x).bind fun q2 => (f_X3_read q2).bind fun q3 => if q3.2 = nI 0 then (some (q3.1, .inl ((q3.1 1 6) - nI 10))) else ((f_X3_copyFrom q3.1).bind fun q5 => (f_X4_clear q5).bind fun q6 => (f_X1_clear q6).bind fun q7 => (f_X0_clear q7).bind fun q8 => some ((u2 q8 0 11 (nI 0)), .inl ((u2 q8 0 11 (nI 0)) 3 5)))) := rfl
  have cut : ∀ (N : TX) (r : Option (TX × Int32)), (if (N, nI 0).2 = nI 0 then some ((N, nI 0).1, nI 0) else r) = some (N, nI 0) := fun N r => if_pos rfl
  rw [eM, eX]
  rcases z8_needText tx t6 (b := 600) (by omega) x with ⟨k1, c | ⟨c, c1 | ⟨c1, c2⟩⟩⟩ | ⟨s, s1, s2, rfl, k1⟩
  · rw [k1, Option.bind_some, zxb_r, if_pos c, l0, Option.bind_some, cut]
    exact zCs_il (.inl rfl) g rfl rfl
  · rw [k1, Option.bind_some, zxb_r, if_neg c, tm, if_pos c1, l0, Option.bind_some, cut]
    exact zCs_il (.inl rfl) g rfl rfl
  · exfalso
    rcases z_rng t (by omega) x with d | ⟨_, d⟩ | ⟨s, s1, rfl⟩
    · exact c d
    · exact c1 d
    · rw [z_nI_lt (by omega) (by omega)] at c2; omega
  · have ca : ¬ nI s < nI 0 := z_nI_nn (by omega)
    have cb : ¬ nI t < nI s := by rw [z_nI_lt (by omega) (by omega)]; omega
    have cut1 : ∀ (N : TX) (r r' : Option (TX × Int32)), (if (N, nI 1).2 = nI 0 then r else r') = r' := fun N r r' => if_neg n1
    rw [k1, Option.bind_some, zxb_l, if_neg ca, tm, if_neg cb, l1, Option.bind_some, cut1]
    obtain ⟨T, Y, N, o1, o2, o3, o4, o5, o6, o7, o8, o9, o10, o11, o12, o13⟩ := z_open t6 s1 tt
    obtain ⟨Z, z1, z2, z3, z4, z5, z6, z7⟩ := z3_clear Y
    obtain ⟨P, p1, p2, p3, p4, p5, p6⟩ := z9_clears N
    have Z1 : Z 1 = Y 1 := z2 1 (by omega)
    have jx := z2.jx o3
    have jm := p2.jm o4
    have P5 : P 0 5 = -nI 1 := (p2.2 5 (by decide) (by decide) (by decide)).trans o5
    have hK := zKD_0 (X := X) (M := M) z3 z4 z5 z6 z7 (by rw [Z1]; exact o8) p3 p4 p5 p6
    have rX : f_X3_read Y = L_X3_read_6 FU Z (nI 0) := by
      show ((f_X3_clear Y).bind fun q1 => L_X3_read_6 FU q1 (nI 0)) = _
      rw [z1, Option.bind_some]
    show zCs none (some (nI 1)) ((f_X7_open X (nI s)).bind fun q2 => (f_X3_read q2).bind fun q3 => if q3.2 = nI 0 then (some (q3.1, .inl ((q3.1 1 6) - nI 10))) else ((f_X3_copyFrom q3.1).bind fun q5 => (f_X4_clear q5).bind fun q6 => (f_X1_clear q6).bind fun q7 => (f_X0_clear q7).bind fun q8 => some ((u2 q8 0 11 (nI 0)), .inl ((u2 q8 0 11 (nI 0)) 3 5)))) ((f_X9_begins A (nI s)).bind fun q40 => (f_X9_clears q40).bind fun q41 => L_X9_county_44 FU q41 (nI 0))
    rw [o1, o2, Option.bind_some, Option.bind_some, rX, p1, Option.bind_some]
    rcases z_ctyL 60 0 FU FU 0 0 0 Z P (by omega) (by unfold FU; omega) (by unfold FU; omega) jx jm P5 hK with ⟨n', t', V, Q, e1, e2, e3, e4, e5, e6⟩ | ⟨V, Q, kd, pl, e1, e2, e3, e4, e5, e6, e7, e8, e9, e10⟩
    · obtain ⟨W, w1, w2, w3, w4, w5, w6, w7, w8⟩ := z3_copyFrom e4
      obtain ⟨Q', hQ'⟩ : ∃ Q', Q' = u2 Q 0 8 (-nI 1) := ⟨_, rfl⟩
      have qk : ∀ k, k ≠ 0 → Q' k = Q k := fun k a => by rw [hQ', z_u2k _ _ _ _ a]
      have qj : ∀ j, j ≠ 8 → Q' 0 j = Q 0 j := fun j a => by rw [hQ', z_u2j _ _ _ _ a]
      obtain ⟨R, r1, r2, r3, r4, r5, r6, r7, r8, r9, r10⟩ := z9_sets (n := n') (M := Q') (by rw [qj 16 (by decide)]; exact e4.mn) e4.n10
      obtain ⟨S, hS⟩ : ∃ S, S = u2 (u2 (u2 (u2 (u2 W 19 3 (nI 0)) 27 1 (nI 0)) 37 3 (nI 0)) 37 4 (nI 0)) 0 11 (nI 0) := ⟨_, rfl⟩
      have V0 : V 0 = X 0 := by rw [e5.1 0 (by decide) (by omega), z2 0 (by omega), o6 0 (by decide)]
      have V11 : V 1 1 = nI 0 := by rw [e5.2, Z1]; exact o7
      have Q02 : Q 0 2 = nI 0 := by rw [e6.2 2 (by decide) (by decide) (by decide) (by decide) (by decide) (by decide), p2.2 2 (by decide) (by decide) (by decide)]; exact o11
      have Q00 : Q 0 0 = nI 0 := by rw [e6.2 0 (by decide) (by decide) (by decide) (by decide) (by decide) (by decide), p2.2 0 (by decide) (by decide) (by decide), o10 0 (by decide) (by decide) (by decide) (by decide) (by decide) (by decide)]; exact g0
      have Q1 : Q 1 = A 1 := by rw [e6.1 1 (by decide) (by decide) (by decide) (by decide), p2.1 1 (by decide) (by decide) (by decide) (by decide), o9 1 (by decide)]
      rw [qk 4 (by decide)] at r5
      rw [qk 5 (by decide)] at r6
      rw [qk 3 (by decide)] at r8
      rw [qj 17 (by decide), qj 18 (by decide)] at r4
      have s3 : S 3 5 = nI n' := by rw [hS, z_u2k _ _ _ _ (by decide), z_u2k _ _ _ _ (by decide), z_u2k _ _ _ _ (by decide), z_u2k _ _ _ _ (by decide), z_u2k _ _ _ _ (by decide)]; exact w3.1
      have V5 := z_ctyOk (S := S) (R := R) g e4 w2 w3 w4 w5 w6 w7 w8
        (fun k a b c d => by rw [hS, z_u2k _ _ _ _ a, z_u2k _ _ _ _ d, z_u2k _ _ _ _ d, z_u2k _ _ _ _ c, z_u2k _ _ _ _ b])
        (fun j a => by rw [hS, z_u2j _ _ _ _ a, z_u2k _ _ _ _ (by decide), z_u2k _ _ _ _ (by decide), z_u2k _ _ _ _ (by decide), z_u2k _ _ _ _ (by decide)])
        (by rw [hS, z_u2s])
        (by rw [hS, z_u2k _ _ _ _ (by decide), z_u2k _ _ _ _ (by decide), z_u2k _ _ _ _ (by decide), z_u2k _ _ _ _ (by decide), z_u2s])
        (by rw [hS, z_u2k _ _ _ _ (by decide), z_u2k _ _ _ _ (by decide), z_u2k _ _ _ _ (by decide), z_u2s])
        (by rw [hS, z_u2k _ _ _ _ (by decide), z_u2j _ _ _ _ (by decide), z_u2s])
        (by rw [hS, z_u2k _ _ _ _ (by decide), z_u2s])
        (fun k a b c d e f => (r2 k a b c d e f).trans (qk k a))
        (fun j a b c d e f g h i => (r3 j b c d e f g h i).trans (qj j a))
        (by rw [r3 8 (by decide) (by decide) (by decide) (by decide) (by decide) (by decide) (by decide) (by decide), hQ', z_u2s])
        r4 r5 r6 r7 r8 r9 r10 V11 V0 Q02 Q1
      refine .inl ⟨n', S, R, nI n', ?_, ?_, ?_, V5⟩
      · rw [e1, Option.bind_some]
        have c1 : ∀ (r r' : Option (TX × (Int32 ⊕ Nat))), (if (V, nI 1).2 = nI 0 then r else r') = r' := fun r r' => if_neg n1
        rw [c1, w1, Option.bind_some]
        show some (u2 (u2 (u2 (u2 (u2 W 19 3 (nI 0)) 27 1 (nI 0)) 37 3 (nI 0)) 37 4 (nI 0)) 0 11 (nI 0), Sum.inl ((u2 (u2 (u2 (u2 (u2 W 19 3 (nI 0)) 27 1 (nI 0)) 37 3 (nI 0)) 37 4 (nI 0)) 0 11 (nI 0)) 3 5)) = _
        rw [← hS, s3]
      · rw [e2, zFin_ok e3, ← hQ', r1, Option.bind_some, e4.mn]
      · rw [r3 0 (by decide) (by decide) (by decide) (by decide) (by decide) (by decide) (by decide) (by decide), qj 0 (by decide)]; exact Q00
    · have hpl : pl ≤ 600 := by omega
      refine .inl ⟨n, V, u2 Q 0 8 (nI pl), nI kd - nI 10, ?_, ?_, ?_, g.fr (fun k hk => ?_) (fun k hk => ?_) (fun j hj => ?_) ?_ ⟨0, by omega, ?_, ?_, fun j hj => absurd hj (by omega)⟩⟩
      · rw [e1, Option.bind_some]
        have c1 : ∀ (r r' : Option (TX × (Int32 ⊕ Nat))), (if (V, nI 0).2 = nI 0 then r else r') = r := fun r r' => if_pos rfl
        rw [c1]
        show some (V, Sum.inl (V 1 6 - nI 10)) = _
        rw [e5]
      · rw [e2, zFin_bad e7 e8 hpl]
      · rw [z_u2j _ _ _ _ (by decide), e10.2 0 (by decide) (by decide) (by decide) (by decide) (by decide) (by decide), p2.2 0 (by decide) (by decide) (by decide), o10 0 (by decide) (by decide) (by decide) (by decide) (by decide) (by decide)]; exact g0
      · unfold zXk at hk
        rw [e9.1 k (by omega) (by omega), z2 k (by omega), o6 k (by omega)]
      · unfold zMk at hk
        rw [z_u2k _ _ _ _ (by omega), e10.1 k (by omega) (by omega) (by omega) (by omega), p2.1 k (by omega) (by omega) (by omega) (by omega), o9 k (by omega)]
      · unfold zM0k at hj
        rw [z_u2j _ _ _ _ (by omega), e10.2 j (by omega) (by omega) (by omega) (by omega) (by omega) (by omega), p2.2 j (by omega) (by omega) (by omega), o10 j (by omega) (by omega) (by omega) (by omega) (by omega) (by omega)]
      · rw [e6, z_u2s]
      · rw [e9.2, Z1]; exact o7
      · rw [z_u2j _ _ _ _ (by decide), e10.2 2 (by decide) (by decide) (by decide) (by decide) (by decide) (by decide), p2.2 2 (by decide) (by decide) (by decide)]; exact o11
