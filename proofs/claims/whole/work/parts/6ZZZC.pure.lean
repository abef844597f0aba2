set_option linter.unusedVariables false
/-- what was read becomes the county of the class -/
theorem z3_copyFrom {n t : Nat} {X M : TX} (h : zKD n t X M) : ∃ Y, f_X3_copyFrom X = some Y ∧ (∀ k, k < 3 ∨ 10 < k → Y k = X k) ∧
    (Y 3 5 = nI n ∧ Y 3 6 = nI t ∧ Y 3 7 = X 11 7 ∧ Y 3 8 = nI 0 ∧ Y 3 9 = -nI 1 ∧ Y 3 10 = nI 0 ∧ Y 3 11 = nI 0) ∧
    (∀ p, p < 10 → Y 4 p = X 12 p) ∧ (∀ p, p < 20 → Y 5 p = X 13 p) ∧ (∀ p, p < 10 → Y 6 p = X 14 p) ∧ (∀ p, p < 6 → Y 7 p = X 15 p ∧ Y 8 p = X 16 p) ∧
    zTal n (Y 4) (Y 5) (fun p => Y 5 (10 + p)) (Y 9) (Y 10) := by
  obtain ⟨A, a1, a2, a3, a4⟩ := z8_copy (a := 12) (b := 4) (by decide) (X := X) (f := 0) (t := 0) (m := 10) (by decide) (by decide) (by decide) (by decide) (by decide)
  obtain ⟨B, b1, b2, b3, b4⟩ := z8_copy (a := 13) (b := 5) (by decide) (X := A) (f := 0) (t := 0) (m := 20) (by decide) (by decide) (by decide) (by decide) (by decide)
  obtain ⟨C, c1, c2, c3, c4⟩ := z8_copy (a := 14) (b := 6) (by decide) (X := B) (f := 0) (t := 0) (m := 10) (by decide) (by decide) (by decide) (by decide) (by decide)
  obtain ⟨D, d1, d2, d3, d4⟩ := z8_copy (a := 15) (b := 7) (by decide) (X := C) (f := 0) (t := 0) (m := 6) (by decide) (by decide) (by decide) (by decide) (by decide)
  obtain ⟨E, e1, e2, e3, e4⟩ := z8_copy (a := 16) (b := 8) (by decide) (X := D) (f := 0) (t := 0) (m := 6) (by decide) (by decide) (by decide) (by decide) (by decide)
  have ek : ∀ k, k ≠ 4 → k ≠ 5 → k ≠ 6 → k ≠ 7 → k ≠ 8 → E k = X k := fun k a b c d e => by rw [e2 k e, d2 k d, c2 k c, b2 k b, a2 k a]
  obtain ⟨Z, hZ⟩ : ∃ Z, Z = u2 (u2 (u2 (u2 (u2 (u2 (u2 E 3 5 (E 11 5)) 3 6 (E 11 6)) 3 7 (E 11 7)) 3 8 (E 11 8)) 3 9 (E 11 9)) 3 10 (E 11 10)) 3 11 (E 11 11) := ⟨_, rfl⟩
  have zk : ∀ k, k ≠ 3 → Z k = E k := fun k a => by rw [hZ, z_u2k _ _ _ _ a, z_u2k _ _ _ _ a, z_u2k _ _ _ _ a, z_u2k _ _ _ _ a, z_u2k _ _ _ _ a, z_u2k _ _ _ _ a, z_u2k _ _ _ _ a]
  have E11 : E 11 = X 11 := ek 11 (by decide) (by decide) (by decide) (by decide) (by decide)
  have z5 : Z 3 5 = nI n := by rw [hZ, z_u2j _ _ _ _ (by decide), z_u2j _ _ _ _ (by decide), z_u2j _ _ _ _ (by decide), z_u2j _ _ _ _ (by decide), z_u2j _ _ _ _ (by decide), z_u2j _ _ _ _ (by decide), z_u2s, E11]; exact h.xn
  have z6 : Z 3 6 = nI t := by rw [hZ, z_u2j _ _ _ _ (by decide), z_u2j _ _ _ _ (by decide), z_u2j _ _ _ _ (by decide), z_u2j _ _ _ _ (by decide), z_u2j _ _ _ _ (by decide), z_u2s, E11]; exact h.xt
  have z7 : Z 3 7 = X 11 7 := by rw [hZ, z_u2j _ _ _ _ (by decide), z_u2j _ _ _ _ (by decide), z_u2j _ _ _ _ (by decide), z_u2j _ _ _ _ (by decide), z_u2s, E11]
  have z8 : Z 3 8 = nI 0 := by rw [hZ, z_u2j _ _ _ _ (by decide), z_u2j _ _ _ _ (by decide), z_u2j _ _ _ _ (by decide), z_u2s, E11]; exact h.dz.1
  have z9 : Z 3 9 = -nI 1 := by rw [hZ, z_u2j _ _ _ _ (by decide), z_u2j _ _ _ _ (by decide), z_u2s, E11]; exact h.dz.2.1
  have z10 : Z 3 10 = nI 0 := by rw [hZ, z_u2j _ _ _ _ (by decide), z_u2s, E11]; exact h.dz.2.2.1
  have z11 : Z 3 11 = nI 0 := by rw [hZ, z_u2s, E11]; exact h.dz.2.2.2
  have Z4 : ∀ p, p < 10 → Z 4 p = X 12 p := fun p hp => by
    have := a3 p hp
    rw [Nat.zero_add] at this
    rw [zk 4 (by decide), e2 4 (by decide), d2 4 (by decide), c2 4 (by decide), b2 4 (by decide), this]
  have Z5 : ∀ p, p < 20 → Z 5 p = X 13 p := fun p hp => by
    have := b3 p hp
    rw [Nat.zero_add] at this
    rw [zk 5 (by decide), e2 5 (by decide), d2 5 (by decide), c2 5 (by decide), this, a2 13 (by decide)]
  have Z6 : ∀ p, p < 10 → Z 6 p = X 14 p := fun p hp => by
    have := c3 p hp
    rw [Nat.zero_add] at this
    rw [zk 6 (by decide), e2 6 (by decide), d2 6 (by decide), this, b2 14 (by decide), a2 14 (by decide)]
  have Z7 : ∀ p, p < 6 → Z 7 p = X 15 p := fun p hp => by
    have := d3 p hp
    rw [Nat.zero_add] at this
    rw [zk 7 (by decide), e2 7 (by decide), this, c2 15 (by decide), b2 15 (by decide), a2 15 (by decide)]
  have Z8 : ∀ p, p < 6 → Z 8 p = X 16 p := fun p hp => by
    have := e3 p hp
    rw [Nat.zero_add] at this
    rw [zk 8 (by decide), this, d2 16 (by decide), c2 16 (by decide), b2 16 (by decide), a2 16 (by decide)]
  have n10 := h.n10
  have hw : zWs n (Z 4) := fun p hp => by
    obtain ⟨w, w1, w2, _⟩ := h.w p hp
    exact ⟨w, w1, (Z4 p (by omega)).trans w2⟩
  obtain ⟨Y, y1, y2, y3⟩ := z3_tally z5 h.n10 hw
  have yk : ∀ k, k ≠ 9 → k ≠ 10 → Y k = Z k := y2
  refine ⟨Y, ?_, fun k hk => ?_, ?_, ?_, ?_, ?_, ?_, ?_⟩
  · show ((f_X8_copy 12 4 X (nI 0) (nI 0) (nI 10)).bind fun q1 => (f_X8_copy 13 5 q1 (nI 0) (nI 0) (nI 20)).bind fun q2 => (f_X8_copy 14 6 q2 (nI 0) (nI 0) (nI 10)).bind fun q3 => (f_X8_copy 15 7 q3 (nI 0) (nI 0) (nI 6)).bind fun q4 => (f_X8_copy 16 8 q4 (nI 0) (nI 0) (nI 6)).bind fun q5 => (f_X3_tally (u2 (u2 (u2 (u2 (u2 (u2 (u2 q5 3 5 (q5 11 5)) 3 6 (q5 11 6)) 3 7 (q5 11 7)) 3 8 (q5 11 8)) 3 9 (q5 11 9)) 3 10 (q5 11 10)) 3 11 (q5 11 11))).bind fun q6 => some q6) = some Y
    rw [a1, Option.bind_some, b1, Option.bind_some, c1, Option.bind_some, d1, Option.bind_some, e1, Option.bind_some, ← hZ, y1]; rfl
  · rw [yk k (by omega) (by omega), zk k (by omega), ek k (by omega) (by omega) (by omega) (by omega) (by omega)]
  · rw [yk 3 (by decide) (by decide)]; exact ⟨z5, z6, z7, z8, z9, z10, z11⟩
  · rw [yk 4 (by decide) (by decide)]; exact Z4
  · rw [yk 5 (by decide) (by decide)]; exact Z5
  · rw [yk 6 (by decide) (by decide)]; exact Z6
  · rw [yk 7 (by decide) (by decide), yk 8 (by decide) (by decide)]; exact fun p hp => ⟨Z7 p hp, Z8 p hp⟩
  · rw [yk 4 (by decide) (by decide), yk 5 (by decide) (by decide)]; exact y3
