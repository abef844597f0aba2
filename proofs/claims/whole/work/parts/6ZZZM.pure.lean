set_option linter.unusedVariables false
theorem zV.setL {n : Nat} {X M Y N : TX} (h : zV n X M) (hX : ∀ k, zXk k → k ≠ 19 → k ≠ 20 → Y k = X k) (hM : ∀ k, zMk k → k ≠ 11 → k ≠ 12 → N k = M k) (m0 : ∀ j, zM0k j → j ≠ 28 → N 0 j = M 0 j) (h17 : Y 1 7 = N 0 8) (ht : zTp Y N) (hL : zL Y N) : zV n Y N := by
  have x : ∀ k, k = 0 ∨ (3 ≤ k ∧ k ≤ 10) ∨ k = 27 ∨ k = 28 ∨ (37 ≤ k ∧ k ≤ 40) → Y k = X k := fun k hk => hX k (by unfold zXk; omega) (by omega) (by omega)
  have m : ∀ k, k = 1 ∨ k = 7 ∨ k = 8 ∨ k = 18 ∨ k = 19 ∨ k = 21 ∨ k = 26 → N k = M k := fun k hk => hM k (by unfold zMk; omega) (by omega) (by omega)
  have o : ∀ j, j = 19 ∨ j = 20 ∨ j = 21 ∨ j = 33 ∨ j = 34 ∨ j = 40 ∨ j = 50 → N 0 j = M 0 j := fun j hj => m0 j (by unfold zM0k; omega) (by omega)
  refine zV.mk (zE.mk h.e.n10 ?_ ?_ ?_ ?_ ?_ hL ?_) ?_ ?_ ht h17 ?_ ?_ ?_ ?_ ?_ ?_
  · rw [x 3 (by omega)]; exact h.e.xn
  · rw [o 19 (by omega)]; exact h.e.kn
  · rw [x 6 (by omega), m 7 (by omega)]; exact h.e.r
  · rw [m 7 (by omega)]; exact h.e.rd
  · rw [x 3 (by omega), o 21 (by omega)]; exact h.e.pu
  · have := h.e.td; unfold zTd at *; rw [x 3 (by omega), x 7 (by omega), x 8 (by omega), o 20 (by omega), m 8 (by omega)]; exact this
  · rw [m 19 (by omega)]; exact h.d.frame (x 3 (by omega)) (x 4 (by omega)) (x 5 (by omega)) (x 9 (by omega)) (x 10 (by omega))
  · rw [m 19 (by omega)]; exact h.y
  · have := h.bk; unfold zBk at *; rw [x 27 (by omega), x 28 (by omega), o 40 (by omega), m 18 (by omega)]; exact this
  · exact zWk_congr h.wk (by rw [x 37 (by omega)]) (x 38 (by omega)) (o 33 (by omega)) (m 21 (by omega))
  · exact zIm_congr h.im (by rw [x 37 (by omega)]) (x 39 (by omega)) (x 40 (by omega)) (o 50 (by omega)) (m 26 (by omega))
  · rw [x 0 (by omega), o 34 (by omega)]; exact h.rs
  · rw [x 0 (by omega), m 1 (by omega)]; exact h.no
  · rw [x 0 (by omega), m 1 (by omega)]; exact h.il
theorem zB77_bad {M : TX} {pl kd : Nat} (h5 : M 0 5 = nI pl) (h6 : M 0 6 = nI kd) (hp : pl ≤ 600) : B_X9_law_77 M = some (u2 M 0 8 (nI pl), nI kd - nI 10) := by
  have e5 : u2 M 0 8 (nI pl) 0 5 = nI pl := by rw [z_u2j _ _ _ _ (by decide)]; exact h5
  have e6 : u2 M 0 8 (nI pl) 0 6 = nI kd := by rw [z_u2j _ _ _ _ (by decide)]; exact h6
  have er : f_X9_result M (nI 1) = some (u2 M 0 8 (nI pl), nI kd - nI 10) := by
    unfold f_X9_result
    rw [h5, z9_fine0 e5 hp, Option.bind_some, if_pos (by decide), e6]; rfl
  show ((f_X9_result M (nI 1)).bind fun q8 => if (q8.1 0 5) = -nI 1 then ((f_X9_copies 9 11 (u2 q8.1 0 28 (q8.1 0 27)) ((u2 q8.1 0 28 (q8.1 0 27)) 0 27)).bind fun q10 => (f_X9_copies 10 12 q10 (q10 0 27)).bind fun q11 => some (q11, q8.2)) else (some (q8.1, q8.2))) = _
  rw [er, Option.bind_some]
  show (if u2 M 0 8 (nI pl) 0 5 = -nI 1 then _ else some (u2 M 0 8 (nI pl), nI kd - nI 10)) = _
  rw [e5, if_neg (z_ne1 (by omega))]
theorem zB77_ok {M : TX} {m : Nat} (h5 : M 0 5 = -nI 1) (h27 : M 0 27 = nI m) (hm : m ≤ 150) : ∃ N, B_X9_law_77 M = some (N, nI 1) ∧ (∀ k, k ≠ 0 → k ≠ 11 → k ≠ 12 → N k = M k) ∧ (∀ j, j ≠ 8 → j ≠ 28 → N 0 j = M 0 j) ∧ N 0 8 = -nI 1 ∧ N 0 28 = nI m ∧ (∀ i, i < m → N 11 i = M 9 i ∧ N 12 i = M 10 i) := by
  obtain ⟨A, hA⟩ : ∃ A, A = u2 M 0 8 (-nI 1) := ⟨_, rfl⟩
  have e5 : A 0 5 = -nI 1 := by rw [hA, z_u2j _ _ _ _ (by decide)]; exact h5
  have e27 : A 0 27 = nI m := by rw [hA, z_u2j _ _ _ _ (by decide)]; exact h27
  have n1 : ¬ nI 1 = (0 : Int32) := by decide
  have er : f_X9_result M (nI 1) = some (A, nI 1) := by
    unfold f_X9_result
    rw [h5, ← hA, z9_fine1 e5, Option.bind_some, if_neg n1]
  obtain ⟨B, hB⟩ : ∃ B, B = u2 A 0 28 (nI m) := ⟨_, rfl⟩
  have b27 : B 0 27 = nI m := by rw [hB, z_u2j _ _ _ _ (by decide)]; exact e27
  obtain ⟨C, c1, c2, c3⟩ := z9_copies (a := 9) (b := 11) (by decide) (M := B) (m := m) (by show m ≤ 150; omega) (by show m ≤ 150; omega) (by omega)
  have c27 : C 0 27 = nI m := by rw [c2 0 (by decide)]; exact b27
  obtain ⟨D, d1, d2, d3⟩ := z9_copies (a := 10) (b := 12) (by decide) (M := C) (m := m) (by show m ≤ 150; omega) (by show m ≤ 150; omega) (by omega)
  have bk : ∀ k, k ≠ 0 → B k = M k := fun k a => by rw [hB, z_u2k _ _ _ _ a, hA, z_u2k _ _ _ _ a]
  have D0 : D 0 = B 0 := by rw [d2 0 (by decide), c2 0 (by decide)]
  refine ⟨D, ?_, fun k a b c => by rw [d2 k c, c2 k b, bk k a], fun j a b => by rw [D0, hB, z_u2j _ _ _ _ b, hA, z_u2j _ _ _ _ a], ?_, ?_, fun i hi => ⟨?_, ?_⟩⟩
  · show ((f_X9_result M (nI 1)).bind fun q8 => if (q8.1 0 5) = -nI 1 then ((f_X9_copies 9 11 (u2 q8.1 0 28 (q8.1 0 27)) ((u2 q8.1 0 28 (q8.1 0 27)) 0 27)).bind fun q10 => (f_X9_copies 10 12 q10 (q10 0 27)).bind fun q11 => some (q11, q8.2)) else (some (q8.1, q8.2))) = _
    rw [er, Option.bind_some]
    show (if A 0 5 = -nI 1 then ((f_X9_copies 9 11 (u2 A 0 28 (A 0 27)) ((u2 A 0 28 (A 0 27)) 0 27)).bind fun q10 => (f_X9_copies 10 12 q10 (q10 0 27)).bind fun q11 => some (q11, nI 1)) else (some (A, nI 1))) = _
    rw [if_pos e5, e27, ← hB, b27, c1, Option.bind_some, c27, d1, Option.bind_some]
  · rw [D0, hB, z_u2j _ _ _ _ (by decide), hA, z_u2s]
  · rw [D0, hB, z_u2s]
  · rw [d2 11 (by decide), c3]
    show (if i < m then B 9 i else _) = _
    rw [if_pos hi, bk 9 (by decide)]
  · rw [d3]
    show (if i < m then C 10 i else _) = _
    rw [if_pos hi, c2 10 (by decide), bk 10 (by decide)]
theorem z4_copyFrom {X : TX} {m : Nat} (h : X 23 3 = nI m) (hm : m ≤ 150) : ∃ Y, f_X4_copyFrom X = some Y ∧ (∀ k, k ≠ 19 → k ≠ 20 → Y k = X k) ∧ Y 19 3 = nI m ∧ ∀ i, i < m → Y 20 i = X 24 i := by
  obtain ⟨A, a1, a2, a3, a4⟩ := z8_copy (a := 24) (b := 20) (by decide) (X := X) (f := 0) (t := 0) (m := m) (by show 0 + m ≤ 150; omega) (by show 0 + m ≤ 150; omega) (by decide) (by decide) (by omega)
  have e23 : A 23 3 = nI m := by rw [a2 23 (by decide)]; exact h
  refine ⟨u2 A 19 3 (nI m), ?_, fun k a b => by rw [z_u2k _ _ _ _ a, a2 k b], z_u2s _ _ _ _, fun i hi => ?_⟩
  · show ((f_X8_copy 24 20 X (nI 0) (nI 0) (X 23 3)).bind fun q1 => some (u2 q1 19 3 (q1 23 3))) = _
    rw [h, a1, Option.bind_some, e23]
  · have := a3 i hi
    rw [Nat.zero_add] at this
    rw [z_u2k _ _ _ _ (by decide), this]
/-- the end of a law's text: what is left there is wrong -/
def zLw2 (Y : TX) : Option (TX × Int32) := (f_X7_ahead Y).bind fun q3 => if q3.2 = -nI 1 then (some (q3.1, nI 1)) else ((f_X7_fail q3.1 (nI 1) (q3.1 1 3)).bind fun q5 => if q5.2 = nI 0 then (some (q5.1, nI 0)) else (some (q5.1, nI 1)))
def zLw9 (N : TX) : Option (TX × Int32) := (f_X9_fine N).bind fun q6 => if q6 = nI 0 then (B_X9_law_77 N) else ((f_X9_isMore N).bind fun q12 => if q12.2 = nI 0 then (B_X9_law_77 q12.1) else ((f_X9_wrong q12.1 (nI 1) (q12.1 0 4)).bind fun q14 => B_X9_law_77 q14))
theorem z_lawEnd {s : Nat} {T : Nat → Nat} {e m H d : Nat} {Y N : TX} (h : zLi s T e m H d Y N) :
    (∃ V Q, zLw2 Y = some (V, nI 1) ∧ zLw9 N = B_X9_law_77 Q ∧ zLd m H V Q ∧ Q 0 5 = -nI 1 ∧ V 1 7 = -nI 1 ∧ zWX Y V ∧ zWM N Q) ∨
    (∃ V Q kd pl, zLw2 Y = some (V, nI 0) ∧ zLw9 N = B_X9_law_77 Q ∧ zLb s Y N V Q kd pl) := by
  have n1 : ¬ nI 1 = nI 0 := by decide
  have hs := h.s1
  obtain ⟨a1, a2, a3⟩ := zA_spec (T := T) h.jx.ps
  obtain ⟨q, hq⟩ : ∃ q, zA T s e = q := ⟨_, rfl⟩
  rw [hq] at a1 a2 a3
  have h1 := h.mv (h.jx.to a2) (h.jm.to a2) (zTX_u (.inl rfl) _) (zTM_u _ _) a1
  have eX : zLw2 Y = if zC T s q = -nI 1 then some (u2 Y 1 3 (nI q), nI 1) else ((f_X7_fail (u2 Y 1 3 (nI q)) (nI 1) (nI q)).bind fun q5 => if q5.2 = nI 0 then (some (q5.1, nI 0)) else (some (q5.1, nI 1))) := by
    unfold zLw2
    rw [z7_ahead h.jx, hq, Option.bind_some]
    show (if zC T s q = -nI 1 then some (u2 Y 1 3 (nI q), nI 1) else ((f_X7_fail (u2 Y 1 3 (nI q)) (nI 1) ((u2 Y 1 3 (nI q)) 1 3)).bind fun q5 => if q5.2 = nI 0 then (some (q5.1, nI 0)) else (some (q5.1, nI 1)))) = _
    rw [z_u2s]
  have em : f_X9_isMore N = if s ≤ q then some (u2 N 0 4 (nI q), nI 0) else some (u2 N 0 4 (nI q), nI 1) := by
    unfold f_X9_isMore
    rw [z9_here h.jm, hq, Option.bind_some]
    show (if (u2 N 0 4 (nI q)) 0 3 ≤ (u2 N 0 4 (nI q)) 0 4 then some (u2 N 0 4 (nI q), nI 0) else some (u2 N 0 4 (nI q), nI 1)) = _
    rw [h1.jm.ms, h1.jm.mp]
    by_cases c : s ≤ q
    · rw [if_pos (by rw [z_nI_le (by omega) (by omega)]; exact c), if_pos c]
    · rw [if_neg (by rw [z_nI_le (by omega) (by omega)]; exact c), if_neg c]
  have eM : zLw9 N = if s ≤ q then B_X9_law_77 (u2 N 0 4 (nI q)) else ((f_X9_wrong (u2 N 0 4 (nI q)) (nI 1) (nI q)).bind fun q14 => B_X9_law_77 q14) := by
    unfold zLw9
    rw [z9_fine1 h.f5, Option.bind_some, if_neg n1, em]
    by_cases c : s ≤ q
    · rw [if_pos c, if_pos c, Option.bind_some]; exact if_pos rfl
    · rw [if_neg c, if_neg c, Option.bind_some]
      show (if nI 1 = nI 0 then _ else ((f_X9_wrong (u2 N 0 4 (nI q)) (nI 1) ((u2 N 0 4 (nI q)) 0 4)).bind fun q14 => B_X9_law_77 q14)) = _
      rw [if_neg n1, z_u2s]
  rw [eX, eM]
  by_cases c : s ≤ q
  · rw [if_pos (by unfold zC; rw [if_neg (by omega)]), if_pos c]
    exact .inl ⟨_, _, rfl, rfl, h1.ld, h1.f5, h1.f7, (zTX_u (.inl rfl) _).wx, (zTM_u _ _).wm⟩
  · have tq := h.jx.t q (by omega)
    obtain ⟨Z, z1, z2⟩ := z7_fail (X := u2 Y 1 3 (nI q)) (kd := 1) (pl := q)
    obtain ⟨P, p1, p2⟩ := z9_wrong (kd := 1) (pl := q) h1.jm h1.f5 a2
    rw [if_neg (by unfold zC; rw [if_pos (by omega)]; exact z_ne1 (by omega)), if_neg c, z1, Option.bind_some, p1, Option.bind_some]
    exact .inr ⟨Z, P, 1, q, if_pos rfl, rfl, (zLb_tf (by omega) z2 p2).pre (zTX_u (.inl rfl) _).wx (zTM_u _ _).wm⟩
