set_option linter.unusedVariables false
theorem z_work {n : Nat} {X M : TX} (h : zV n X M) (x : Int32) : zCs none (some (nI 1)) (f_X8_work X x) (f_X9_work M x) := by
  have g := h.q (zQX.refl X) (zQM_0 M (nI 0))
  have g0 : u2 M 0 0 (nI 0) 0 0 = nI 0 := z_u2s _ _ _ _
  have n1 : ¬ nI 1 = nI 0 := by decide
  have h10 := h.e.n10
  obtain ⟨A, hA⟩ : ∃ A, A = u2 M 0 0 (nI 0) := ⟨_, rfl⟩
  rw [← hA] at g g0
  have l1 := z9_lets1 g0 (nI 1) (nI 1)
  have l0 := z9_lets0 g0 (c := 1) (j := 1) (by omega) (by omega)
  obtain ⟨t, t6, tx, tm, tt⟩ := g.tp
  obtain ⟨w, hw, wx, wm, wr⟩ := g.wk
  have cut : ∀ (N : TX) (r : Option (TX × Int32)), (if (N, nI 0).2 = nI 0 then some ((N, nI 0).1, nI 0) else r) = some (N, nI 0) := fun N r => if_pos rfl
  have eM : f_X9_work M x = if x < nI 0 then (B_X9_work_30 A x (nI 0)) else (if (A 0 2) < x then (B_X9_work_30 A x (nI 0)) else (if nI 150 < x then (B_X9_work_30 A x (nI 0)) else (B_X9_work_30 A x (nI 1)))) := by rw [hA]; rfl
  have eB : ∀ v, B_X9_work_30 A x v = (f_X9_lets A v (nI 1) (nI 1)).bind fun q2 => if q2.2 = nI 0 then (some (q2.1, nI 0)) else ((f_X9_begins q2.1 x).bind fun q4 => if (q4 0 33) = nI 16 then ((f_X9_result q4 (nI 0)).bind fun q23 => some (q23.1, -nI 20)) else (L_X9_work_68 FU (u2 q4 0 32 (nI 0)))) := fun _ => rfl
  have eB0 : B_X9_work_30 A x (nI 0) = some (u2 (u2 A 0 0 (nI 1)) 1 1 (A 1 1 + nI 1), nI 0) := by rw [eB, l0, Option.bind_some, cut]
  have eX : f_X8_work X x = (f_X8_needText X x (nI 150)).bind fun q1 => xb q1 (fun _ _ => (f_X7_open q1.1 x).bind fun q2 => if (q2 37 3) < nI 16 then ((f_X6_clear q2 (q2 3 5)).bind fun q4 => (f_X6_readSteps 8 q4 (nI 0)).bind fun q5 => if q5.2 = nI 0 then (some (q5.1, .inl ((q5.1 1 6) - nI 10))) else ((f_X0_keepWork q5.1).bind fun q7 => (f_X6_run 8 q7 (nI 0) (q7 31 1) (nI 0)).bind fun q8 => some ((u2 q8 0 11 (q8 31 5)), .inl ((u2 q8 0 11 (q8 31 5)) 31 4)))) else (some (q2, .inl (-nI 20)))) := rfl
  rw [eM, eX, eB0]
  rcases z8_needText tx t6 (b := 150) (by omega) x with ⟨k1, c | ⟨c, c1 | ⟨c1, c2⟩⟩⟩ | ⟨s, s1, s2, rfl, k1⟩
  · rw [k1, Option.bind_some, zxb_r, if_pos c]
    exact zCs_il (.inl rfl) g rfl rfl
  · rw [k1, Option.bind_some, zxb_r, if_neg c, tm, if_pos c1]
    exact zCs_il (.inl rfl) g rfl rfl
  · rw [k1, Option.bind_some, zxb_r, if_neg c, tm, if_neg c1, if_pos c2]
    exact zCs_il (.inl rfl) g rfl rfl
  · have ca : ¬ nI s < nI 0 := z_nI_nn (by omega)
    have cb : ¬ nI t < nI s := by rw [z_nI_lt (by omega) (by omega)]; omega
    have cc : ¬ nI 150 < nI s := by rw [z_nI_lt (by omega) (by omega)]; omega
    have cut1 : ∀ (N : TX) (r r' : Option (TX × Int32)), (if (N, nI 1).2 = nI 0 then r else r') = r' := fun N r r' => if_neg n1
    rw [k1, Option.bind_some, zxb_l, if_neg ca, tm, if_neg cb, if_neg cc, eB, l1, Option.bind_some, cut1]
    obtain ⟨T, Y, N, o1, o2, o3, o4, o5, o6, o7, o8, o9, o10, o11, o12, o13⟩ := z_open t6 s1 tt
    show zCs none (some (nI 1)) ((f_X7_open X (nI s)).bind fun q2 => if (q2 37 3) < nI 16 then ((f_X6_clear q2 (q2 3 5)).bind fun q4 => (f_X6_readSteps 8 q4 (nI 0)).bind fun q5 => if q5.2 = nI 0 then (some (q5.1, .inl ((q5.1 1 6) - nI 10))) else ((f_X0_keepWork q5.1).bind fun q7 => (f_X6_run 8 q7 (nI 0) (q7 31 1) (nI 0)).bind fun q8 => some ((u2 q8 0 11 (q8 31 5)), .inl ((u2 q8 0 11 (q8 31 5)) 31 4)))) else (some (q2, .inl (-nI 20)))) ((f_X9_begins A (nI s)).bind fun q4 => if (q4 0 33) = nI 16 then ((f_X9_result q4 (nI 0)).bind fun q23 => some (q23.1, -nI 20)) else (L_X9_work_68 FU (u2 q4 0 32 (nI 0))))
    have N33 : N 0 33 = nI w := by rw [o10 33 (by decide) (by decide) (by decide) (by decide) (by decide) (by decide)]; exact wm
    have Y37 : Y 37 3 = nI w := by rw [o6 37 (by decide)]; exact wx
    rw [o1, o2, Option.bind_some, Option.bind_some, N33, Y37]
    by_cases c16 : w = 16
    · rw [if_neg (by rw [z_nI_lt (by omega) (by omega)]; omega), if_pos (by rw [c16])]
      have n1' : ¬ nI 1 = (0 : Int32) := by decide
      have e5 : u2 N 0 8 (-nI 1) 0 5 = -nI 1 := by rw [z_u2j _ _ _ _ (by decide)]; exact o5
      have er : f_X9_result N (nI 0) = some (u2 N 0 8 (-nI 1), nI 0) := by
        unfold f_X9_result
        rw [o5, z9_fine1 e5, Option.bind_some, if_neg n1']
      rw [er, Option.bind_some]
      refine .inl ⟨n, Y, u2 N 0 8 (-nI 1), -nI 20, rfl, rfl, ?_, g.fr (fun k hk => ?_) (fun k hk => ?_) (fun j hj => ?_) ?_ ⟨0, by omega, o7, ?_, fun j hj => absurd hj (by omega)⟩⟩
      · rw [z_u2j _ _ _ _ (by decide), o10 0 (by decide) (by decide) (by decide) (by decide) (by decide) (by decide)]; exact g0
      · unfold zXk at hk
        exact o6 k (by omega)
      · unfold zMk at hk
        rw [z_u2k _ _ _ _ (by omega), o9 k (by omega)]
      · unfold zM0k at hj
        rw [z_u2j _ _ _ _ (by omega), o10 j (by omega) (by omega) (by omega) (by omega) (by omega) (by omega)]
      · rw [o8, z_u2s]
      · rw [z_u2j _ _ _ _ (by decide)]; exact o11
    · rw [if_pos (by rw [z_nI_lt (by omega) (by omega)]; omega), if_neg (by rw [z_nI_inj (by omega) (by omega)]; exact c16)]
      obtain ⟨Z, hZ⟩ : ∃ Z, Z = u2 (u2 (u2 (u2 (u2 Y 31 1 (nI 0)) 31 3 (nI 0)) 31 4 (nI 0)) 31 5 (nI 0)) 31 2 (Y 3 5) := ⟨_, rfl⟩
      have clr : f_X6_clear Y (Y 3 5) = some Z := by rw [hZ]; rfl
      obtain ⟨P, hP⟩ : ∃ P, P = u2 N 0 32 (nI 0) := ⟨_, rfl⟩
      have zk : ∀ k, k ≠ 31 → Z k = Y k := fun k a => by rw [hZ, z_u2k _ _ _ _ a, z_u2k _ _ _ _ a, z_u2k _ _ _ _ a, z_u2k _ _ _ _ a, z_u2k _ _ _ _ a]
      have pk : ∀ k, k ≠ 0 → P k = N k := fun k a => by rw [hP, z_u2k _ _ _ _ a]
      have pj : ∀ j, j ≠ 32 → P 0 j = N 0 j := fun j a => by rw [hP, z_u2j _ _ _ _ a]
      have z1 : Z 31 1 = nI 0 := by rw [hZ, z_u2j _ _ _ _ (by decide), z_u2j _ _ _ _ (by decide), z_u2j _ _ _ _ (by decide), z_u2j _ _ _ _ (by decide), z_u2s]
      have z3 : Z 31 3 = nI 0 := by rw [hZ, z_u2j _ _ _ _ (by decide), z_u2j _ _ _ _ (by decide), z_u2j _ _ _ _ (by decide), z_u2s]
      have z4 : Z 31 4 = nI 0 := by rw [hZ, z_u2j _ _ _ _ (by decide), z_u2j _ _ _ _ (by decide), z_u2s]
      have z5 : Z 31 5 = nI 0 := by rw [hZ, z_u2j _ _ _ _ (by decide), z_u2s]
      have z2 : Z 31 2 = nI n := by rw [hZ, z_u2s, o6 3 (by decide)]; exact h.e.xn
      have h0 : zWi s T 0 0 0 n Z P := by
        refine zWi.mk (o3.fr (zk 2 (by decide)) (by rw [zk 1 (by decide)]) (by rw [zk 1 (by decide)]; exact o3.xp) o3.ps) (o4.fr (pk 2 (by decide)) (pj 3 (by decide)) (by rw [pj 4 (by decide)]; exact o4.mp) o4.ps) (by rw [pj 5 (by decide)]; exact o5) (by rw [zk 1 (by decide)]; exact o8) z1 (by rw [hP, z_u2s]) (by omega) (by rw [pj 7 (by decide)]; exact o12) (by omega) z2 ?_ h10
        rw [pj 19 (by decide), o10 19 (by decide) (by decide) (by decide) (by decide) (by decide) (by decide)]; exact g.e.kn
      rw [clr, Option.bind_some, ← hP]
      rcases z_stepsT h0 with ⟨e, b, V, Q, e1, e2, e3, e4, e5, e6⟩ | ⟨V, Q, kd, pl, e1, e2, b1, b2, b3, b4, b5, b6, b7, b8⟩
      · have hb : b ≤ 148 := by have := e3.mp; have := e3.jx.ps; have := e3.s1; omega
        obtain ⟨C, c1, c2, c3, c4, c5⟩ := zWE_ok e3.f5 e3.ma hb
        have pl := zPl_congr (c' := V 32) (m' := C 16) _ _ _ _ e6 fun j _ hj => ⟨rfl, c5 j hj⟩
        obtain ⟨S, R, v, r1, r2, r3, r4⟩ := z_workRun (w := w) (b := b) (V := V) (C := C) g (by omega)
          (fun k hk => by unfold zXk at hk; rw [e4.1 k (by omega) (by omega) (by omega), zk k (by omega), o6 k (by omega)])
          ⟨e3.xa, by rw [e4.2.2 3 (by decide)]; exact z3, by rw [e4.2.2 4 (by decide)]; exact z4, by rw [e4.2.2 5 (by decide)]; exact z5⟩ e3.f7
          (by rw [e4.2.1, zk 1 (by decide)]; exact o7)
          (fun k hk => by unfold zMk at hk; rw [c2 k (by omega) (by omega), e5.1 k (by omega) (by omega), pk k (by omega), o9 k (by omega)])
          (fun j hj => by unfold zM0k at hj; rw [c3 j (by omega), e5.2 j (by omega) (by omega) (by omega) (by omega) (by omega), pj j (by omega), o10 j (by omega) (by omega) (by omega) (by omega) (by omega) (by omega)])
          (by rw [c3 32 (by decide)]; exact e3.ma) c4
          (by rw [c3 2 (by decide), e5.2 2 (by decide) (by decide) (by decide) (by decide) (by decide), pj 2 (by decide)]; exact o11)
          (by rw [c3 0 (by decide), e5.2 0 (by decide) (by decide) (by decide) (by decide) (by decide), pj 0 (by decide), o10 0 (by decide) (by decide) (by decide) (by decide) (by decide) (by decide)]; exact g0)
          wx wm hb pl
        rw [e1, Option.bind_some, e2, c1]
        show zCs none (some (nI 1)) (if nI 1 = nI 0 then _ else ((f_X0_keepWork V).bind fun q7 => (f_X6_run 8 q7 (nI 0) (q7 31 1) (nI 0)).bind fun q8 => some ((u2 q8 0 11 (q8 31 5)), .inl ((u2 q8 0 11 (q8 31 5)) 31 4)))) _
        rw [if_neg n1]
        exact .inl ⟨n, S, R, v, r1, r2, r3, r4⟩
      · rw [e1, Option.bind_some, e2]
        show zCs none (some (nI 1)) (if nI 0 = nI 0 then some (V, .inl (V 1 6 - nI 10)) else _) _
        rw [if_pos rfl]
        refine .inl ⟨n, V, u2 Q 0 8 (nI pl), nI kd - nI 10, by rw [b3], zWE_bad b5 b6 (by omega), ?_, g.fr (fun k hk => ?_) (fun k hk => ?_) (fun j hj => ?_) ?_ ⟨0, by omega, ?_, ?_, fun j hj => absurd hj (by omega)⟩⟩
        · rw [z_u2j _ _ _ _ (by decide), b8.2 0 (by decide) (by decide) (by decide) (by decide) (by decide), pj 0 (by decide), o10 0 (by decide) (by decide) (by decide) (by decide) (by decide) (by decide)]; exact g0
        · unfold zXk at hk
          rw [b7.1 k (by omega) (by omega) (by omega), zk k (by omega), o6 k (by omega)]
        · unfold zMk at hk
          rw [z_u2k _ _ _ _ (by omega), b8.1 k (by omega) (by omega), pk k (by omega), o9 k (by omega)]
        · unfold zM0k at hj
          rw [z_u2j _ _ _ _ (by omega), b8.2 j (by omega) (by omega) (by omega) (by omega) (by omega), pj j (by omega), o10 j (by omega) (by omega) (by omega) (by omega) (by omega) (by omega)]
        · rw [b4, z_u2s]
        · rw [b7.2.1, zk 1 (by decide)]; exact o7
        · rw [z_u2j _ _ _ _ (by decide), b8.2 2 (by decide) (by decide) (by decide) (by decide) (by decide), pj 2 (by decide)]; exact o11
