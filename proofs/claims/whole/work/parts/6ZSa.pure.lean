set_option linter.unusedVariables false
/-- recount's two answers -/
def zCr (L : TL) (q : Option (TX × (Int64 ⊕ Nat))) (r : Option (TX × TL × Int64)) : Prop :=
  (∃ n X M L' v, q = some (X, .inl v) ∧ r = some (M, L', v) ∧ M 0 0 = nI 0 ∧ zV n X M ∧ zLk L L') ∨
  (∃ n X M v, q = some (X, .inr 1) ∧ r = some (M, L, v) ∧ M 0 0 = nI 1 ∧ zV n X M)
theorem z8_rc26_0 (X : TX) (x1 x2 x3 x4 : Int32) : B_X8_recount_26 X x1 x2 x3 x4 (0 : Int32) = some (u2 X 0 13 (X 0 13 + nI 1), .inr 1) := by
  have e : f_X8_need X (0 : Int32) = some (u2 X 0 13 (X 0 13 + nI 1), .inr 1) := z8_need0 X
  unfold B_X8_recount_26
  rw [e]; rfl
theorem z8_rc26_r (X : TX) (x1 x2 x3 x4 : Int32) (h : x3 < (0 : Int32) ∨ (¬ x3 < (0 : Int32) ∧ ((16 : Int32) < x3 ∨ (¬ (16 : Int32) < x3 ∧ f_X8_isHalf x4 = some (nI 0))))) : B_X8_recount_26 X x1 x2 x3 x4 (1 : Int32) = some (u2 X 0 13 (X 0 13 + nI 1), .inr 1) := by
  have e : f_X8_need X (1 : Int32) = some (X, .inl ()) := z8_need1 X
  have e0 : f_X8_need X (0 : Int32) = some (u2 X 0 13 (X 0 13 + nI 1), .inr 1) := z8_need0 X
  unfold B_X8_recount_26
  rw [e, Option.bind_some, zxb_l]
  rcases h with h | ⟨h1, h | ⟨h2, h⟩⟩
  · rw [if_pos h]
    show (f_X8_need X (0 : Int32)).bind _ = _
    rw [e0]; rfl
  · rw [if_neg h1, if_pos h]
    show (f_X8_need X (0 : Int32)).bind _ = _
    rw [e0]; rfl
  · rw [if_neg h1, if_neg h2, h, Option.bind_some, if_pos z_n00]
    show (f_X8_need X (0 : Int32)).bind _ = _
    rw [e0]; rfl
theorem z8_rc26_1 (X : TX) (x1 x2 x3 x4 : Int32) (h1 : ¬ x3 < (0 : Int32)) (h2 : ¬ (16 : Int32) < x3) (h : f_X8_isHalf x4 = some (nI 1)) : B_X8_recount_26 X x1 x2 x3 x4 (1 : Int32) = L_X8_recount_62 FU X x1 x3 x4 (0 : Int64) x2 := by
  have e : f_X8_need X (1 : Int32) = some (X, .inl ()) := z8_need1 X
  unfold B_X8_recount_26
  rw [e, Option.bind_some, zxb_l, if_neg h1, if_neg h2, h, Option.bind_some, if_neg z_n10]
  show (f_X8_need X (1 : Int32)).bind _ = _
  rw [e]; rfl
theorem z_recount {n : Nat} {X M : TX} (h : zV n X M) (L : TL) (x1 x2 x3 x4 : Int32) : zCr L (f_X8_recount X x1 x2 x3 x4) (f_X9_recount M L x1 x2 x3 x4) := by
  have g := h.q (zQX.refl X) (zQM_0 M (nI 0))
  have g0 : u2 M 0 0 (nI 0) 0 0 = nI 0 := z_u2s _ _ _ _
  have l1 : f_X9_lets (u2 M 0 0 (0 : Int32)) (1 : Int32) (1 : Int32) (1 : Int32) = some (u2 M 0 0 (nI 0), nI 1) := z9_lets1 g0 (nI 1) (nI 1)
  have l0 : f_X9_lets (u2 M 0 0 (0 : Int32)) (0 : Int32) (1 : Int32) (1 : Int32) = some (u2 (u2 (u2 M 0 0 (nI 0)) 0 0 (nI 1)) 1 1 (u2 M 0 0 (nI 0) 1 1 + nI 1), nI 0) := z9_lets0 g0 (c := 1) (j := 1) (by omega) (by omega)
  have no : ∀ {q r}, q = some (u2 X 0 13 (X 0 13 + nI 1), .inr 1) → r = some (u2 (u2 (u2 M 0 0 (nI 0)) 0 0 (nI 1)) 1 1 (u2 M 0 0 (nI 0) 1 1 + nI 1), L, (0 : Int64)) → zCr L q r := fun hq hr =>
    .inr ⟨n, _, _, 0, hq, hr, by rw [z_u2k _ _ _ _ (by decide), z_u2s], g.refuse (j := 1) (by omega) (nI 1)⟩
  by_cases a1 : x1 < (0 : Int32)
  · refine no ?_ ?_
    · unfold f_X8_recount; rw [if_pos a1, z8_rc26_0]
    · unfold f_X9_recount; rw [z9_lo a1, Option.bind_some, if_pos z_n00, l0, Option.bind_some, if_pos z_n00]
  by_cases b1 : (12 : Int32) < x1
  · refine no ?_ ?_
    · unfold f_X8_recount; rw [if_neg a1, if_pos b1, z8_rc26_0]
    · unfold f_X9_recount; rw [z9_hi a1 b1, Option.bind_some, if_pos z_n00, l0, Option.bind_some, if_pos z_n00]
  by_cases a2 : x2 < (0 : Int32)
  · refine no ?_ ?_
    · unfold f_X8_recount; rw [if_neg a1, if_neg b1, if_pos a2, z8_rc26_0]
    · unfold f_X9_recount; rw [z9_in a1 b1, Option.bind_some, if_neg z_n10, z9_lo a2, Option.bind_some, if_pos z_n00, l0, Option.bind_some, if_pos z_n00]
  by_cases b2 : (13 : Int32) < x2
  · refine no ?_ ?_
    · unfold f_X8_recount; rw [if_neg a1, if_neg b1, if_neg a2, if_pos b2, z8_rc26_0]
    · unfold f_X9_recount; rw [z9_in a1 b1, Option.bind_some, if_neg z_n10, z9_hi a2 b2, Option.bind_some, if_pos z_n00, l0, Option.bind_some, if_pos z_n00]
  by_cases a3 : x3 < (0 : Int32)
  · refine no ?_ ?_
    · unfold f_X8_recount; rw [if_neg a1, if_neg b1, if_neg a2, if_neg b2, z8_rc26_r _ _ _ _ _ (.inl a3)]
    · unfold f_X9_recount; rw [z9_in a1 b1, Option.bind_some, if_neg z_n10, z9_in a2 b2, Option.bind_some, if_neg z_n10, z9_lo a3, Option.bind_some, if_pos z_n00, l0, Option.bind_some, if_pos z_n00]
  by_cases b3 : (16 : Int32) < x3
  · refine no ?_ ?_
    · unfold f_X8_recount; rw [if_neg a1, if_neg b1, if_neg a2, if_neg b2, z8_rc26_r _ _ _ _ _ (.inr ⟨a3, .inl b3⟩)]
    · unfold f_X9_recount; rw [z9_in a1 b1, Option.bind_some, if_neg z_n10, z9_in a2 b2, Option.bind_some, if_neg z_n10, z9_hi a3 b3, Option.bind_some, if_pos z_n00, l0, Option.bind_some, if_pos z_n00]
  rcases z_half2 x4 with ⟨f1, f2⟩ | ⟨hw, f1, f2⟩
  · refine no ?_ ?_
    · unfold f_X8_recount; rw [if_neg a1, if_neg b1, if_neg a2, if_neg b2, z8_rc26_r _ _ _ _ _ (.inr ⟨a3, .inr ⟨b3, f1⟩⟩)]
    · unfold f_X9_recount; rw [z9_in a1 b1, Option.bind_some, if_neg z_n10, z9_in a2 b2, Option.bind_some, if_neg z_n10, z9_in a3 b3, Option.bind_some, if_neg z_n10, f2, Option.bind_some, if_pos z_n00, l0, Option.bind_some, if_pos z_n00]
  · have get : ∀ (x : Int32) (m : Nat), m < 1000 → ¬ x < nI 0 → ¬ nI m < x → ∃ w, w ≤ m ∧ x = nI w := fun x m hm ha hb => by
      rcases z_rng m hm x with c | ⟨_, c⟩ | c
      · exact absurd c ha
      · exact absurd c hb
      · exact c
    obtain ⟨m, hm, rfl⟩ := get x1 12 (by omega) a1 b1
    obtain ⟨k, hk, rfl⟩ := get x2 13 (by omega) a2 b2
    obtain ⟨q, hq, rfl⟩ := get x3 16 (by omega) a3 b3
    obtain ⟨L1, p1, p2, p3⟩ := z9_rc64 (M := u2 M 0 0 (nI 0)) (q := q) (nI m) (nI k) x4 L
    obtain ⟨L2, r1, r2, r3⟩ := z9_rc100 (M := u2 M 0 0 (nI 0)) hq hm (nI k) x4 L1 p3
    have r4 := z9_rc183 (M := u2 M 0 0 (nI 0)) hk x4 (nL (16 ^ m)) L2 r3
    have hub : zUp q m k (14 - k) ≤ 16 ^ m := Nat.le_trans (zUp_le q m k (14 - k)) (zW_sum q hq m _)
    have hb : 16 ^ m ≤ 16 ^ 12 := Nat.pow_le_pow_right (by omega) hm
    have hb12 : (16 : Nat) ^ 12 = 281474976710656 := by decide
    have hb0 : 0 < 16 ^ m := Nat.pow_pos (by omega)
    obtain ⟨v, v1, v2⟩ := z_least (u := zUp q m k (14 - k)) (b := 16 ^ m) (by omega) hb0 (Nat.lt_of_le_of_lt hb (by decide)) hw
    refine .inl ⟨n, X, u2 M 0 0 (nI 0), L2, v, ?_, ?_, g0, g, fun a ha => (r2 a ha).trans (p2 a ha)⟩
    · unfold f_X8_recount
      rw [if_neg a1, if_neg b1, if_neg a2, if_neg b2, z8_rc26_1 _ _ _ _ _ a3 b3 f1, z8_rc62 hm hq hk, v1]; rfl
    · unfold f_X9_recount
      rw [z9_in a1 b1, Option.bind_some, if_neg z_n10, z9_in a2 b2, Option.bind_some, if_neg z_n10, z9_in a3 b3, Option.bind_some, if_neg z_n10, f2, Option.bind_some, if_neg z_n10, l1, Option.bind_some, if_neg z_n10]
      have p1' : L_X9_recount_64 FU (u2 M 0 0 (nI 0)) L (nI m) (nI k) (nI q) x4 (0 : Int32) = _ := p1
      show L_X9_recount_64 FU (u2 M 0 0 (nI 0)) L (nI m) (nI k) (nI q) x4 (0 : Int32) = _
      rw [p1', r1, r4, v2]; rfl
