set_option linter.unusedVariables false
/-- what the agreement speaks of -/
def zXk (k : Nat) : Prop := k = 0 ∨ (3 ≤ k ∧ k ≤ 10) ∨ k = 19 ∨ k = 20 ∨ k = 27 ∨ k = 28 ∨ (37 ≤ k ∧ k ≤ 40)
def zMk (k : Nat) : Prop := k = 1 ∨ k = 7 ∨ k = 8 ∨ k = 11 ∨ k = 12 ∨ k = 18 ∨ k = 19 ∨ k = 21 ∨ k = 26
def zM0k (j : Nat) : Prop := j = 19 ∨ j = 20 ∨ j = 21 ∨ j = 28 ∨ j = 33 ∨ j = 34 ∨ j = 40 ∨ j = 50
theorem zV.fr {n : Nat} {X M Y N : TX} (h : zV n X M) (hX : ∀ k, zXk k → Y k = X k) (hM : ∀ k, zMk k → N k = M k) (m0 : ∀ j, zM0k j → N 0 j = M 0 j) (h17 : Y 1 7 = N 0 8) (ht : zTp Y N) : zV n Y N := by
  have x : ∀ k, k = 0 ∨ (3 ≤ k ∧ k ≤ 10) ∨ k = 19 ∨ k = 20 ∨ k = 27 ∨ k = 28 ∨ (37 ≤ k ∧ k ≤ 40) → Y k = X k := hX
  have m : ∀ k, k = 1 ∨ k = 7 ∨ k = 8 ∨ k = 11 ∨ k = 12 ∨ k = 18 ∨ k = 19 ∨ k = 21 ∨ k = 26 → N k = M k := hM
  have o : ∀ j, j = 19 ∨ j = 20 ∨ j = 21 ∨ j = 28 ∨ j = 33 ∨ j = 34 ∨ j = 40 ∨ j = 50 → N 0 j = M 0 j := m0
  have hS : zS M N := zS.mk (m 7 (by omega)) (m 8 (by omega)) (m 11 (by omega)) (m 12 (by omega)) (o 19 (by omega)) (o 20 (by omega)) (o 21 (by omega)) (o 28 (by omega))
  refine zV.mk (zE_K (h.e.frame' (x 3 (by omega)) fun k hk => x k (by unfold zEk at hk; omega)) hS) ?_ ?_ ht h17 ?_ ?_ ?_ ?_ ?_ ?_
  · rw [m 19 (by omega)]; exact h.d.frame (x 3 (by omega)) (x 4 (by omega)) (x 5 (by omega)) (x 9 (by omega)) (x 10 (by omega))
  · rw [m 19 (by omega)]; exact h.y
  · have := h.bk; unfold zBk at *; rw [x 27 (by omega), x 28 (by omega), o 40 (by omega), m 18 (by omega)]; exact this
  · exact zWk_congr h.wk (by rw [x 37 (by omega)]) (x 38 (by omega)) (o 33 (by omega)) (m 21 (by omega))
  · exact zIm_congr h.im (by rw [x 37 (by omega)]) (x 39 (by omega)) (x 40 (by omega)) (o 50 (by omega)) (m 26 (by omega))
  · rw [x 0 (by omega), o 34 (by omega)]; exact h.rs
  · rw [x 0 (by omega), m 1 (by omega)]; exact h.no
  · rw [x 0 (by omega), m 1 (by omega)]; exact h.il
/-- how long a text may be: the class's question -/
theorem z8_needText {X : TX} {t b : Nat} (ht : X 1 1 = nI t) (ht6 : t ≤ 600) (hb : b ≤ 600) (x : Int32) :
    (f_X8_needText X x (nI b) = some (u2 X 0 13 (X 0 13 + nI 1), .inr 1) ∧ (x < nI 0 ∨ (¬ x < nI 0 ∧ (nI t < x ∨ (¬ nI t < x ∧ nI b < x))))) ∨
    (∃ s, s ≤ t ∧ s ≤ b ∧ x = nI s ∧ f_X8_needText X x (nI b) = some (X, .inl ())) := by
  have e : f_X8_needText X x (nI b) = if x < nI 0 then ((f_X8_need X (nI 0)).bind fun q2 => xb q2 (fun _ _ => some (q2.1, .inl ()))) else (if nI b < x then ((f_X8_need X (nI 0)).bind fun q4 => xb q4 (fun _ _ => some (q4.1, .inl ()))) else (if (X 1 1) < x then ((f_X8_need X (nI 0)).bind fun q6 => xb q6 (fun _ _ => some (q6.1, .inl ()))) else ((f_X8_need X (nI 1)).bind fun q7 => xb q7 (fun _ _ => some (q7.1, .inl ()))))) := rfl
  rw [e, ht, z8_need0, z8_need1, Option.bind_some, Option.bind_some, zxb_r, zxb_l]
  by_cases c : x < nI 0
  · exact .inl ⟨if_pos c, .inl c⟩
  · rw [if_neg c]
    by_cases c1 : nI b < x
    · refine .inl ⟨if_pos c1, .inr ⟨c, ?_⟩⟩
      by_cases c2 : nI t < x
      · exact .inl c2
      · exact .inr ⟨c2, c1⟩
    · rw [if_neg c1]
      by_cases c2 : nI t < x
      · exact .inl ⟨if_pos c2, .inr ⟨c, .inl c2⟩⟩
      · rcases z_rng t (by omega) x with d | ⟨_, d⟩ | ⟨s, s1, rfl⟩
        · exact absurd d c
        · exact absurd d c2
        · exact .inr ⟨s, s1, by rw [z_nI_lt (by omega) (by omega)] at c1; omega, rfl, if_neg c2⟩
theorem zRd_congr {n : Nat} {r r' : Nat → Int32} (h : zRd n r) (e : ∀ p, p < n → r' p = r p) : zRd n r' :=
  ⟨fun a ha b hb => h.1 a ha b (by rw [← e a ha]; exact hb), fun a b ha hb => by rw [e a ha, e b hb]; exact h.2.1 a b ha hb, fun a ha => by rw [e a ha]; exact h.2.2 a ha⟩
/-- the new county stands on both sides -/
theorem z_ctyOk {n n0 t : Nat} {X M V Q W R S : TX} (h0 : zV n0 X M) (hD : zKD n t V Q)
    (wk : ∀ k, k < 3 ∨ 10 < k → W k = V k)
    (w3 : W 3 5 = nI n ∧ W 3 6 = nI t ∧ W 3 7 = V 11 7 ∧ W 3 8 = nI 0 ∧ W 3 9 = -nI 1 ∧ W 3 10 = nI 0 ∧ W 3 11 = nI 0)
    (w4 : ∀ p, p < 10 → W 4 p = V 12 p) (w5 : ∀ p, p < 20 → W 5 p = V 13 p) (w6 : ∀ p, p < 10 → W 6 p = V 14 p) (w7 : ∀ p, p < 6 → W 7 p = V 15 p ∧ W 8 p = V 16 p)
    (wt : zTal n (W 4) (W 5) (fun p => W 5 (10 + p)) (W 9) (W 10))
    (sk : ∀ k, k ≠ 0 → k ≠ 19 → k ≠ 27 → k ≠ 37 → S k = W k) (s0 : ∀ j, j ≠ 11 → S 0 j = W 0 j) (s11 : S 0 11 = nI 0) (s19 : S 19 3 = nI 0) (s27 : S 27 1 = nI 0) (s37 : S 37 3 = nI 0) (s374 : S 37 4 = nI 0)
    (rk : ∀ k, k ≠ 0 → k ≠ 6 → k ≠ 7 → k ≠ 8 → k ≠ 18 → k ≠ 19 → R k = Q k)
    (r0 : ∀ j, j ≠ 8 → j ≠ 19 → j ≠ 20 → j ≠ 21 → j ≠ 28 → j ≠ 33 → j ≠ 34 → j ≠ 40 → j ≠ 50 → R 0 j = Q 0 j) (r08 : R 0 8 = -nI 1)
    (rr : R 0 19 = nI n ∧ R 0 20 = Q 0 17 ∧ R 0 21 = Q 0 18 ∧ R 0 28 = nI 0 ∧ R 0 33 = nI 0 ∧ R 0 34 = nI 0 ∧ R 0 40 = nI 0 ∧ R 0 50 = nI 0)
    (r7 : ∀ p, p < 10 → R 7 p = Q 4 p) (r8 : ∀ p, p < 12 → R 8 p = Q 5 p) (r18 : ∀ d, d < 4 → R 18 d = -nI 1)
    (r19 : ∀ p, p < n → R 19 p = Q 3 (3 * p) ∧ R 19 (10 + p) = Q 3 (3 * p + 1) ∧ R 19 (20 + p) = Q 3 (3 * p + 2))
    (r19z : ∀ p, n ≤ p → p < 10 → R 19 p = nI 0 ∧ R 19 (10 + p) = nI 0 ∧ R 19 (20 + p) = nI 0)
    (rh : R 19 30 = -nI 1 ∧ R 19 31 = nI 0 ∧ R 19 32 = nI 0 ∧ R 19 33 = nI 0)
    (v11 : V 1 1 = nI 0) (v0 : V 0 = X 0) (q2 : Q 0 2 = nI 0) (q1 : Q 1 = M 1) : zV n S R := by
  have n10 := hD.n10
  have t6 := hD.t6
  have x4 : ∀ p, p < 10 → S 4 p = R 19 p := fun p hp => by
    rw [sk 4 (by decide) (by decide) (by decide) (by decide), w4 p hp]
    by_cases c : p < n
    · obtain ⟨w, _, e1, e2⟩ := hD.w p c
      rw [(r19 p c).1, e1, e2]
    · rw [(r19z p (by omega) hp).1, (hD.z p (by omega) hp).1]
  have x5 : ∀ p, p < 20 → S 5 p = R 19 (10 + p) := fun p hp => by
    rw [sk 5 (by decide) (by decide) (by decide) (by decide), w5 p hp]
    by_cases d : p < 10
    · by_cases c : p < n
      · obtain ⟨a, b, _, _, e1, e2, e3, e4⟩ := hD.v p c
        rw [(r19 p c).2.1, e1, e3]
      · rw [(r19z p (by omega) d).2.1, (hD.z p (by omega) d).2.1]
    · obtain ⟨q, rfl⟩ : ∃ q, p = 10 + q := ⟨p - 10, by omega⟩
      rw [show 10 + (10 + q) = 20 + q by omega]
      by_cases c : q < n
      · obtain ⟨a, b, _, _, e1, e2, e3, e4⟩ := hD.v q c
        rw [(r19 q c).2.2, e2, e4]
      · rw [(r19z q (by omega) (by omega)).2.2, (hD.z q (by omega) (by omega)).2.2]
  have S3 : S 3 = W 3 := sk 3 (by decide) (by decide) (by decide) (by decide)
  have xw : zWs n (R 19) := fun p hp => by
    obtain ⟨w, e0, _, e2⟩ := hD.w p hp
    exact ⟨w, e0, (r19 p hp).1.trans e2⟩
  have vb : zVb n (R 19) := fun p hp => by
    obtain ⟨a, b, a1, b1, _, _, e3, e4⟩ := hD.v p hp
    exact ⟨a, b, (r19 p hp).2.1.trans e3, (r19 p hp).2.2.trans e4, by omega⟩
  have S9 : S 9 = W 9 := sk 9 (by decide) (by decide) (by decide) (by decide)
  have S10 : S 10 = W 10 := sk 10 (by decide) (by decide) (by decide) (by decide)
  have S4 : S 4 = W 4 := sk 4 (by decide) (by decide) (by decide) (by decide)
  have S5 : S 5 = W 5 := sk 5 (by decide) (by decide) (by decide) (by decide)
  have S1 : S 1 = V 1 := (sk 1 (by decide) (by decide) (by decide) (by decide)).trans (wk 1 (by omega))
  have tal : zTal n (R 19) (fun p => R 19 (10 + p)) (fun p => R 19 (20 + p)) (S 9) (S 10) := by
    rw [S9, S10]
    refine zTal_congr wt (fun p hp => ?_) (fun p hp => ?_) fun p hp => ?_
    · rw [← S4]; exact x4 p (by omega)
    · rw [← S5]; exact x5 p (by omega)
    · show W 5 (10 + p) = R 19 (20 + p)
      rw [← S5, x5 (10 + p) (by omega), show 10 + (10 + p) = 20 + p by omega]
  refine zV.mk (zE.mk n10 ?_ rr.1 ?_ ?_ ?_ ?_ ?_) (zD.mk xw x4 x5 vb tal ?_ (.inl rh.1) ?_ ?_ ?_) ⟨0, by omega, rh.2.2.1⟩ ⟨0, by omega, ?_, ?_, fun j hj => absurd hj (by omega)⟩ ?_ ⟨?_, ?_, ?_⟩ ⟨0, by omega, s37, rr.2.2.2.2.1, fun i hi => absurd hi (by omega)⟩ ⟨0, by omega, s374, rr.2.2.2.2.2.2.2, fun i hi => absurd hi (by omega)⟩ ?_ ?_ ?_
  · rw [S3]; exact w3.1
  · intro p hp
    rw [sk 6 (by decide) (by decide) (by decide) (by decide), w6 p hp, r7 p hp]; exact hD.r p hp
  · exact zRd_congr hD.rd fun p hp => r7 p (by omega)
  · obtain ⟨u, u1, u2', u3⟩ := hD.pu
    exact ⟨u, u1, by rw [S3, w3.2.2.1]; exact u2', by rw [rr.2.2.1]; exact u3⟩
  · exact ⟨0, by omega, s19, rr.2.2.2.1, fun _ => 0, rfl, .inl rfl, fun i hi => absurd hi (by omega)⟩
  · refine ⟨t, t6, by rw [S3]; exact w3.2.1, by rw [rr.2.1]; exact hD.mt, fun i hi => ?_⟩
    obtain ⟨a, b, a1, b1, e1, e2, e3, e4⟩ := hD.td i hi
    refine ⟨a, b, a1, b1, ?_, ?_, ?_, ?_⟩
    · rw [sk 7 (by decide) (by decide) (by decide) (by decide), (w7 i (by omega)).1]; exact e1
    · rw [r8 _ (by omega)]; exact e2
    · rw [sk 8 (by decide) (by decide) (by decide) (by decide), (w7 i (by omega)).2]; exact e3
    · rw [r8 _ (by omega)]; exact e4
  · rw [S3, w3.2.2.2.2.1, rh.1]
  · rw [S3, w3.2.2.2.2.2.1, rh.2.1]
  · rw [S3, w3.2.2.2.1, rh.2.2.1]
  · rw [S3, w3.2.2.2.2.2.2, rh.2.2.2]
  · rw [S1]; exact v11
  · rw [r0 2 (by decide) (by decide) (by decide) (by decide) (by decide) (by decide) (by decide) (by decide) (by decide)]; exact q2
  · rw [S1, hD.f7, r08]
  · intro d hd
    exact .inr ⟨by rw [s27]; exact bt_nI0 d, r18 d hd⟩
  · intro q hq
    rw [s27, bt_nI0] at hq; exact absurd hq (by decide)
  · rw [s27, rr.2.2.2.2.2.2.1]
    have : zCnt 10 (nI 0) = 0 := by simp [zCnt, bt_nI0]
    rw [this]
  · rw [s11, rr.2.2.2.2.2.1]
  · rw [s0 12 (by decide), wk 0 (by omega), v0, rk 1 (by decide) (by decide) (by decide) (by decide) (by decide) (by decide), q1]; exact h0.no
  · rw [s0 13 (by decide), wk 0 (by omega), v0, rk 1 (by decide) (by decide) (by decide) (by decide) (by decide) (by decide), q1]; exact h0.il
