set_option linter.unusedVariables false
theorem z_law {n : Nat} {X M : TX} (h : zV n X M) (x : Int32) : zCs none (some (nI 1)) (f_X8_law X x) (f_X9_law M x) := by
  have g := h.q (zQX.refl X) (zQM_0 M (nI 0))
  have g0 : u2 M 0 0 (nI 0) 0 0 = nI 0 := z_u2s _ _ _ _
  have n1 : ¬ nI 1 = nI 0 := by decide
  obtain ⟨A, hA⟩ : ∃ A, A = u2 M 0 0 (nI 0) := ⟨_, rfl⟩
  rw [← hA] at g g0
  have l1 := z9_lets1 g0 (nI 1) (nI 1)
  have l0 := z9_lets0 g0 (c := 1) (j := 1) (by omega) (by omega)
  obtain ⟨t, t6, tx, tm, tt⟩ := g.tp
  have cut : ∀ (N : TX) (r : Option (TX × Int32)), (if (N, nI 0).2 = nI 0 then some ((N, nI 0).1, nI 0) else r) = some (N, nI 0) := fun N r => if_pos rfl
  have eM : f_X9_law M x = if x < nI 0 then (B_X9_law_30 A x (nI 0)) else (if (A 0 2) < x then (B_X9_law_30 A x (nI 0)) else (if nI 150 < x then (B_X9_law_30 A x (nI 0)) else (B_X9_law_30 A x (nI 1)))) := by rw [hA]; rfl
  have eB : ∀ v, B_X9_law_30 A x v = (f_X9_lets A v (nI 1) (nI 1)).bind fun q2 => if q2.2 = nI 0 then (some (q2.1, nI 0)) else ((f_X9_begins q2.1 x).bind fun q4 => (f_X9_readSum 8 (u2 q4 0 27 (nI 0))).bind fun q5 => zLw9 q5) := fun _ => rfl
  have eB0 : B_X9_law_30 A x (nI 0) = some (u2 (u2 A 0 0 (nI 1)) 1 1 (A 1 1 + nI 1), nI 0) := by rw [eB, l0, Option.bind_some, cut]
  have eX : f_X8_law X x = (f_X8_needText X x (nI 150)).bind fun q1 => xb q1 (fun _ _ => (f_X7_open q1.1 x).bind fun q2 => (zAnd (f_X4_readSum 8 (u2 q2 23 3 (nI 0)) (nI 0)) zLw2).bind fun q3 => if q3.2 = nI 0 then (some (q3.1, .inl ((q3.1 1 6) - nI 10))) else ((f_X4_copyFrom q3.1).bind fun q5 => some (q5, .inl (nI 1)))) := rfl
  rw [eM, eX, eB0]
  rcases z8_needText tx t6 (b := 150) (by omega) x with ⟨k1, c | ⟨c, c1 | ⟨c1, c2⟩⟩⟩ | ⟨s, s1, s2, rfl, k1⟩
  · rw [k1, Option.bind_some, zxb_r, if_pos c]
    exact zCs_il (.inl rfl) g rfl rfl
  · rw [k1, Option.bind_some, zxb_r, if_neg c, tm, if_pos c1]
    exact zCs_il (.inl rfl) g rfl rfl
  · rw [k1, Option.bind_some, zxb_r, if_neg c, tm, if_neg c1, if_pos c2]
    exact zCs_il (.inl rfl) g rfl rfl
  · have ca : ¬ nI s < nI 0 := z_nI_nn (by omega)
    have cb : ¬ nI t < nI s := by rw [z_nI_lt (by omega) (by omega)]; omega
    have cc : ¬ nI 150 < nI s := by rw [z_nI_lt (by omega) (by omega)]; omega
    have cut1 : ∀ (N : TX) (r r' : Option (TX × Int32)), (if (N, nI 1).2 = nI 0 then r else r') = r' := fun N r r' => if_neg n1
    rw [k1, Option.bind_some, zxb_l, if_neg ca, tm, if_neg cb, if_neg cc, eB, l1, Option.bind_some, cut1]
    obtain ⟨T, Y, N, o1, o2, o3, o4, o5, o6, o7, o8, o9, o10, o11, o12, o13⟩ := z_open t6 s1 tt
    show zCs none (some (nI 1)) ((f_X7_open X (nI s)).bind fun q2 => (zAnd (f_X4_readSum 8 (u2 q2 23 3 (nI 0)) (nI 0)) zLw2).bind fun q3 => if q3.2 = nI 0 then (some (q3.1, .inl ((q3.1 1 6) - nI 10))) else ((f_X4_copyFrom q3.1).bind fun q5 => some (q5, .inl (nI 1)))) ((f_X9_begins A (nI s)).bind fun q4 => (f_X9_readSum 8 (u2 q4 0 27 (nI 0))).bind fun q5 => zLw9 q5)
    rw [o1, o2, Option.bind_some, Option.bind_some]
    obtain ⟨Z, hZ⟩ : ∃ Z, Z = u2 Y 23 3 (nI 0) := ⟨_, rfl⟩
    obtain ⟨P, hP⟩ : ∃ P, P = u2 N 0 27 (nI 0) := ⟨_, rfl⟩
    have zk : ∀ k, k ≠ 23 → Z k = Y k := fun k a => by rw [hZ, z_u2k _ _ _ _ a]
    have pk : ∀ k, k ≠ 0 → P k = N k := fun k a => by rw [hP, z_u2k _ _ _ _ a]
    have pj : ∀ j, j ≠ 27 → P 0 j = N 0 j := fun j a => by rw [hP, z_u2j _ _ _ _ a]
    have h0 : zLi s T 0 0 0 0 Z P := by
      refine zLi.mk (o3.fr (zk 2 (by decide)) (by rw [zk 1 (by decide)]) (by rw [zk 1 (by decide)]; exact o3.xp) o3.ps) (o4.fr (pk 2 (by decide)) (pj 3 (by decide)) (by rw [pj 4 (by decide)]; exact o4.mp) o4.ps) (by rw [pj 5 (by decide)]; exact o5) (by rw [zk 1 (by decide)]; exact o8) ⟨by rw [hZ, z_u2s], by rw [hP, z_u2s], fun _ => 0, rfl, rfl, fun i hi => absurd hi (by omega)⟩ (Nat.le_refl _) (by rw [pj 7 (by decide)]; exact o12) (by omega)
    rw [← hZ, ← hP]
    -- a refusal
    have bad : ∀ (V Q : TX) kd pl, zLb s Z P V Q kd pl → zCs none (some (nI 1)) (some (V, .inl (V 1 6 - nI 10))) (B_X9_law_77 Q) := by
      rintro V Q kd pl ⟨b1, b2, b3, b4, b5, b6, b7, b8⟩
      refine .inl ⟨n, V, u2 Q 0 8 (nI pl), nI kd - nI 10, by rw [b3], zB77_bad b5 b6 (by omega), ?_, g.fr (fun k hk => ?_) (fun k hk => ?_) (fun j hj => ?_) ?_ ⟨0, by omega, ?_, ?_, fun j hj => absurd hj (by omega)⟩⟩
      · rw [z_u2j _ _ _ _ (by decide), b8.2 0 (by decide) (by decide) (by decide) (by decide) (by decide), pj 0 (by decide), o10 0 (by decide) (by decide) (by decide) (by decide) (by decide) (by decide)]; exact g0
      · unfold zXk at hk
        rw [b7.1 k (by omega) (by omega) (by omega), zk k (by omega), o6 k (by omega)]
      · unfold zMk at hk
        rw [z_u2k _ _ _ _ (by omega), b8.1 k (by omega) (by omega) (by omega), pk k (by omega), o9 k (by omega)]
      · unfold zM0k at hj
        rw [z_u2j _ _ _ _ (by omega), b8.2 j (by omega) (by omega) (by omega) (by omega) (by omega), pj j (by omega), o10 j (by omega) (by omega) (by omega) (by omega) (by omega) (by omega)]
      · rw [b4, z_u2s]
      · rw [b7.2, zk 1 (by decide)]; exact o7
      · rw [z_u2j _ _ _ _ (by decide), b8.2 2 (by decide) (by decide) (by decide) (by decide) (by decide), pj 2 (by decide)]; exact o11
    have cX0 : ∀ (V : TX), ((some (V, nI 0) : Option (TX × Int32)).bind fun q3 => if q3.2 = nI 0 then (some (q3.1, .inl ((q3.1 1 6) - nI 10))) else ((f_X4_copyFrom q3.1).bind fun q5 => (some (q5, .inl (nI 1)) : Option (TX × (Int32 ⊕ Nat))))) = some (V, .inl (V 1 6 - nI 10)) := fun V => by rw [Option.bind_some]; exact if_pos rfl
    have cX1 : ∀ (V : TX), ((some (V, nI 1) : Option (TX × Int32)).bind fun q3 => if q3.2 = nI 0 then (some (q3.1, .inl ((q3.1 1 6) - nI 10))) else ((f_X4_copyFrom q3.1).bind fun q5 => (some (q5, .inl (nI 1)) : Option (TX × (Int32 ⊕ Nat))))) = (f_X4_copyFrom V).bind fun q5 => some (q5, .inl (nI 1)) := fun V => by rw [Option.bind_some]; exact if_neg n1
    rcases z_sum (s := s) (T := T) 6 0 rfl 0 0 0 Z P h0 with ⟨e, m, V, Q, e1, e2, e3, e4, e5, e6, e7⟩ | ⟨V, Q, kd, pl, e1, e2, e3⟩
    · rw [zAnd_1 e1, e2, Option.bind_some]
      rcases z_lawEnd e5 with ⟨W, R, w1, w2, w3, w4, w5, w6, w7⟩ | ⟨W, R, kd, pl, w1, w2, w3⟩
      · have hm : m ≤ 150 := by have := e5.mp; have := e5.jx.ps; omega
        obtain ⟨x23, m27, ht, hh1, hh2, hh3⟩ := w3
        obtain ⟨C, c1, c2, c3, c4⟩ := z4_copyFrom x23 hm
        obtain ⟨D, d1, d2, d3, d4, d5, d6⟩ := zB77_ok w4 m27 hm
        have wx := e6.trans w6
        have wm := e7.trans w7
        rw [w1, cX1, c1, Option.bind_some, w2]
        refine .inl ⟨n, C, D, nI 1, rfl, d1, ?_, g.setL (fun k hk k1 k2 => ?_) (fun k hk k1 k2 => ?_) (fun j hj j1 => ?_) ?_ ⟨0, by omega, ?_, ?_, fun j hj => absurd hj (by omega)⟩ ⟨m, hm, c3, d5, ht, hh1, .inr (by omega), fun i hi => ?_⟩⟩
        · rw [d3 0 (by decide) (by decide), wm.2 0 (by decide) (by decide) (by decide) (by decide) (by decide), pj 0 (by decide), o10 0 (by decide) (by decide) (by decide) (by decide) (by decide) (by decide)]; exact g0
        · unfold zXk at hk
          rw [c2 k k1 k2, wx.1 k (by omega) (by omega) (by omega), zk k (by omega), o6 k (by omega)]
        · unfold zMk at hk
          rw [d2 k (by omega) k1 k2, wm.1 k (by omega) (by omega) (by omega), pk k (by omega), o9 k (by omega)]
        · unfold zM0k at hj
          rw [d3 j (by omega) j1, wm.2 j (by omega) (by omega) (by omega) (by omega) (by omega), pj j (by omega), o10 j (by omega) (by omega) (by omega) (by omega) (by omega) (by omega)]
        · rw [c2 1 (by decide) (by decide), w5, d4]
        · rw [c2 1 (by decide) (by decide), wx.2, zk 1 (by decide)]; exact o7
        · rw [d3 2 (by decide) (by decide), wm.2 2 (by decide) (by decide) (by decide) (by decide) (by decide), pj 2 (by decide)]; exact o11
        · rw [c4 i hi, (d6 i hi).1, (d6 i hi).2]; exact hh3 i hi
      · rw [w1, cX0, w2]
        exact bad W R kd pl (w3.pre e6 e7)
    · have hpl := e3.2.1
      have n5 := e3.2.2.2.2.1
      have e9 : zLw9 Q = B_X9_law_77 Q := by
        unfold zLw9
        rw [z9_fine0 n5 (by omega), Option.bind_some, if_pos rfl]
      rw [zAnd_0 e1, cX0, e2, Option.bind_some, e9]
      exact bad V Q kd pl e3
