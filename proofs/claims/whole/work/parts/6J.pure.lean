set_option linter.unusedVariables false
def zOp (o : Nat) : Int32 := match o with
  | 2 => -11 | 3 => -12 | 4 => -13 | 5 => -14 | 8 => -15 | 6 => -16 | _ => -17
/-- a part of a law on both sides, and how many operands stand before and behind it -/
def zCode (a b f : Int32) (h h' : Nat) : Prop :=
  (∃ v, v < 1000 ∧ a = nI v ∧ b = nI 0 ∧ f = nI v ∧ h' = h + 1) ∨
  (∃ k, k < 8 ∧ a = -nI 1 - nI k ∧ b = nI 1 ∧ f = nI k ∧ h' = h + 1) ∨
  (∃ o, 2 ≤ o ∧ o ≤ 8 ∧ a = zOp o ∧ b = nI o ∧ 1 ≤ h' ∧ h = h' + 1)
def zLaw (m : Nat) (a b f : Nat → Int32) : Prop := ∃ h : Nat → Nat, h 0 = 0 ∧ (m = 0 ∨ 1 ≤ h m) ∧ ∀ i, i < m → zCode (a i) (b i) (f i) (h i) (h (i + 1))
theorem z_bothop {o : Nat} (h2 : 2 ≤ o) (h8 : o ≤ 8) (x y : Int32) : ∃ r, f_X4_joined (zOp o) x y = some r ∧ f_X9_both (nI o) x y = some r := by
  have e2 : (zOp 2 = -11) := rfl
  have ho : o = 2 ∨ o = 3 ∨ o = 4 ∨ o = 5 ∨ o = 6 ∨ o = 7 ∨ o = 8 := by omega
  rcases ho with rfl | rfl | rfl | rfl | rfl | rfl | rfl
  · exact ⟨x + y, by simp [f_X4_joined, zOp], by simp [f_X9_both, nI]⟩
  · exact ⟨x - y, by simp [f_X4_joined, zOp], by simp [f_X9_both, nI]⟩
  · exact ⟨x * y, by simp [f_X4_joined, zOp], by simp [f_X9_both, nI]⟩
  · by_cases h : y = 0
    · exact ⟨0, by simp [f_X4_joined, zOp, h], by simp [f_X9_both, nI, h]⟩
    · exact ⟨x / y, by simp [f_X4_joined, zOp, h], by simp [f_X9_both, nI, h]⟩
  · refine ⟨if y < x then y else x, by simp [f_X4_joined, zOp], ?_⟩
    have : f_X9_both (nI 6) x y = some (if y ≤ x then y else x) := by
      by_cases h : y ≤ x <;> simp [f_X9_both, nI, h]
    rw [this]
    by_cases h1 : y < x
    · rw [if_pos h1, if_pos (Int32.le_of_lt h1)]
    · rw [if_neg h1]
      by_cases h3 : y ≤ x
      · rw [if_pos h3, Int32.le_antisymm h3 (Int32.not_lt.1 h1)]
      · rw [if_neg h3]
  · refine ⟨if x < y then y else x, by simp [f_X4_joined, zOp], ?_⟩
    have : f_X9_both (nI 7) x y = some (if y ≤ x then x else y) := by
      by_cases h : y ≤ x <;> simp [f_X9_both, nI, h]
    rw [this]
    by_cases h1 : x < y
    · rw [if_pos h1, if_neg (Int32.not_le.2 h1)]
    · rw [if_neg h1, if_pos (Int32.not_lt.1 h1)]
  · by_cases h : y = 0
    · exact ⟨0, by simp [f_X4_joined, zOp, h], by simp [f_X9_both, nI, h]⟩
    · exact ⟨x - x / y * y, by simp [f_X4_joined, zOp, h], by simp [f_X9_both, nI, h]⟩
theorem zOp_lt {o : Nat} (h2 : 2 ≤ o) (h8 : o ≤ 8) : zOp o ≤ -nI 11 := by
  have ho : o = 2 ∨ o = 3 ∨ o = 4 ∨ o = 5 ∨ o = 6 ∨ o = 7 ∨ o = 8 := by omega
  rcases ho with rfl | rfl | rfl | rfl | rfl | rfl | rfl <;> decide
theorem z_le_at {k : Nat} {X : TX} {i : Nat} (h : i < lenX k) (hk : lenX k < 2147483648) : f_X8_at k X (nI i) = some (X k i) := z_at h hk
theorem z_pm (x : Int32) : x + 1 + -1 = x := by grind
theorem z_pm' (x : Int32) : x + 1 - 1 = x := by grind
theorem z_fact {v : Nat} (h : v < 8) : ¬ -nI 1 - nI v ≤ -nI 11 ∧ -nI 1 - nI v < nI 0 ∧ -nI 1 - (-nI 1 - nI v) = nI v := by
  have : ∀ v : Fin 8, ¬ -nI 1 - nI v ≤ -nI 11 ∧ -nI 1 - nI v < nI 0 ∧ -nI 1 - (-nI 1 - nI v) = nI v := by decide +kernel
  exact this ⟨v, h⟩
/-- the law's loops in step -/
theorem z_pay {m : Nat} (hm : m ≤ 150) {h : Nat → Nat} (h0 : h 0 = 0) (hm1 : 1 ≤ h m) : ∀ (k i fX fM : Nat) (X M : TX), i + k = m → k < fX → k < fM → X 19 3 = nI m → M 0 28 = nI m → (∀ i, i < m → zCode (X 20 i) (M 11 i) (M 12 i) (h i) (h (i + 1))) → (∀ j, j < 8 → X 22 j = M 14 j) → (∀ i, i ≤ m → h i ≤ i) → (∀ j, j < h i → X 21 j = M 13 j) →
    ∃ X' M' v, L_X4_price_13 fX X (nI (h i)) (nI i) = some (X', (if 0 < (if v < 60 then v else 60) then (if v < 60 then v else 60) else 0)) ∧ L_X9_valueNow_4 fM M (nI (h i)) (nI i) = some (M', v) ∧ (∀ a, a ≠ 21 → X' a = X a) ∧ (∀ a, a ≠ 13 → M' a = M a)
  | 0, i, fX + 1, fM + 1, X, M, hi, _, _, hX, hM, hc, hf, hh, hs => by
    have e : i = m := by omega
    subst e
    have a21 : f_X8_at 21 X (nI 0) = some (X 21 0) := z_at (by decide) (by decide)
    refine ⟨X, M, X 21 0, ?_, ?_, fun _ _ => rfl, fun _ _ => rfl⟩
    · simp (discharger := omega) only [L_X4_price_13, hX, z_lit, z_nI_le, z_nI_lt, z_nI_inj, z_inb, z_nI_tn, z_nI_add, z_nI_mul, z_bitN, z_zb, z_0add, z_add0, z_0or, z_or0, Option.bind_some, decide_eq_true_eq, Nat.zero_add, Nat.add_zero, Nat.le_refl, if_true, a21]
    · have : 0 < 150 := by omega
      simp (discharger := omega) only [L_X9_valueNow_4, hM, z_lit, z_nI_le, z_nI_lt, z_nI_inj, z_inb, z_nI_tn, z_nI_add, z_nI_mul, z_bitN, z_zb, z_0add, z_add0, z_0or, z_or0, Option.bind_some, decide_eq_true_eq, Nat.zero_add, Nat.add_zero, Nat.le_refl, if_true, this]
      rw [hs 0 (by omega)]
  | k + 1, i, fX + 1, fM + 1, X, M, hi, hfX, hfM, hX, hM, hc, hf, hh, hs => by
    have hlt : i < m := by omega
    have h1 : ¬ m ≤ i := by omega
    have h150 : i < 150 := by omega
    have hhi := hh i (by omega)
    have hhj := hh (i + 1) (by omega)
    have a20 : f_X8_at 20 X (nI i) = some (X 20 i) := z_at (show i < lenX 20 from h150) (by decide)
    rcases hc i hlt with ⟨v, hv, ea, eb, ef, eh⟩ | ⟨v, hv, ea, eb, ef, eh⟩ | ⟨o, h2, h8, ea, eb, h11, eh⟩
    · have p21 : ∀ x, f_X8_put 21 X (nI (h i)) x = some (u2 X 21 (h i) x) := fun x => z_put (show h i < lenX 21 by show h i < 150; omega) (by decide)
      obtain ⟨X', M', r, e1, e2, e3, e4⟩ := z_pay hm h0 hm1 k (i + 1) fX fM (u2 X 21 (h i) (nI v)) (u2 M 13 (h i) (nI v)) (by omega) (by omega) (by omega) (by simp [z_u2, hX]) (by simp [z_u2, hM]) (fun j hj => by have := hc j hj; simpa [z_u2] using this) (fun j hj => by simp [z_u2, hf j hj]) hh (fun j hj => by
        by_cases e : j = h i
        · simp [z_u2, e]
        · simp [z_u2, e]; exact hs j (by omega))
      rw [eh] at e1 e2
      refine ⟨X', M', r, ?_, ?_, fun a ha => by rw [e3 a ha, z_u2k _ _ _ _ ha], fun a ha => by rw [e4 a ha, z_u2k _ _ _ _ ha]⟩
      · have n1 : ¬ nI v ≤ -nI 11 := by
          rw [Int32.le_iff_toInt_le, z_nI_toInt (by omega)]; have : (-nI 11).toInt = -11 := by decide
          omega
        have n2 : ¬ nI v < nI 0 := z_nI_nn (by omega)
        simp (discharger := omega) only [L_X4_price_13, hX, z_lit, z_nI_le, z_nI_lt, z_nI_inj, z_inb, z_nI_tn, z_nI_add, z_nI_mul, z_bitN, z_zb, z_0add, z_add0, z_0or, z_or0, Option.bind_some, decide_eq_true_eq, Nat.zero_add, Nat.add_zero, h1, if_false, a20, ea, n1, n2, p21]
        exact e1
      · have n1 : ¬ nI 1 < nI 0 := by decide
        have h2 : h i < 150 := by omega
        simp (discharger := omega) only [L_X9_valueNow_4, hM, z_lit, z_nI_le, z_nI_lt, z_nI_inj, z_inb, z_nI_tn, z_nI_add, z_nI_mul, z_bitN, z_zb, z_0add, z_add0, z_0or, z_or0, Option.bind_some, decide_eq_true_eq, Nat.zero_add, Nat.add_zero, h1, if_false, if_true, h150, eb, ef, h2]
        exact e2
    · have p21 : ∀ x, f_X8_put 21 X (nI (h i)) x = some (u2 X 21 (h i) x) := fun x => z_put (show h i < lenX 21 by show h i < 150; omega) (by decide)
      have a22 : f_X8_at 22 X (nI v) = some (M 14 v) := by rw [z_at (show v < lenX 22 from hv) (by decide), hf v hv]
      obtain ⟨X', M', r, e1, e2, e3, e4⟩ := z_pay hm h0 hm1 k (i + 1) fX fM (u2 X 21 (h i) (M 14 v)) (u2 M 13 (h i) (M 14 v)) (by omega) (by omega) (by omega) (by simp [z_u2, hX]) (by simp [z_u2, hM]) (fun j hj => by have := hc j hj; simpa [z_u2] using this) (fun j hj => by simp [z_u2, hf j hj]) hh (fun j hj => by
        by_cases e : j = h i
        · simp [z_u2, e]
        · simp [z_u2, e]; exact hs j (by omega))
      rw [eh] at e1 e2
      refine ⟨X', M', r, ?_, ?_, fun a ha => by rw [e3 a ha, z_u2k _ _ _ _ ha], fun a ha => by rw [e4 a ha, z_u2k _ _ _ _ ha]⟩
      · have n1 : ¬ X 20 i ≤ -nI 11 := by rw [ea]; exact (z_fact hv).1
        have n2 : X 20 i < nI 0 := by rw [ea]; exact (z_fact hv).2.1
        have n3 : -nI 1 - X 20 i = nI v := by rw [ea]; exact (z_fact hv).2.2

        simp (discharger := omega) only [L_X4_price_13, hX, z_lit, z_nI_le, z_nI_lt, z_nI_inj, z_inb, z_nI_tn, z_nI_add, z_nI_mul, z_bitN, z_zb, z_0add, z_add0, z_0or, z_or0, Option.bind_some, decide_eq_true_eq, Nat.zero_add, Nat.add_zero, h1, if_false, if_true, a20, n1, n2, n3, a22, p21]
        exact e1
      · have n1 : ¬ (1 : Nat) = 0 := by decide
        have n4 : ¬ (1 : Nat) < 1 := by decide
        have h2 : h i < 150 := by omega
        simp (discharger := omega) only [L_X9_valueNow_4, hM, z_lit, z_nI_le, z_nI_lt, z_nI_inj, z_inb, z_nI_tn, z_nI_add, z_nI_mul, z_bitN, z_zb, z_0add, z_add0, z_0or, z_or0, Option.bind_some, decide_eq_true_eq, Nat.zero_add, Nat.add_zero, h1, if_false, if_true, h150, eb, ef, h2, hv, n1, n4]
        exact e2
    · obtain ⟨r0, j1, j2⟩ := z_bothop h2 h8 (X 21 (h (i + 1) - 1)) (X 21 (h (i + 1)))
      have a21 : ∀ j, j < 150 → f_X8_at 21 X (nI j) = some (X 21 j) := fun j hj => z_at (show j < lenX 21 from hj) (by decide)
      have p21 : ∀ j x, j < 150 → f_X8_put 21 X (nI j) x = some (u2 X 21 j x) := fun j x hj => z_put (show j < lenX 21 from hj) (by decide)
      have m1 : nI (h i) + -nI 1 = nI (h (i + 1)) := by rw [eh, ← z_nI_succ]; exact z_pm _
      have m2 : nI (h (i + 1)) - nI 1 = nI (h (i + 1) - 1) := by
        obtain ⟨g, hg⟩ : ∃ g, h (i + 1) = g + 1 := ⟨h (i + 1) - 1, by omega⟩
        rw [hg, ← z_nI_succ]; exact z_pm' _
      obtain ⟨X', M', r, e1, e2, e3, e4⟩ := z_pay hm h0 hm1 k (i + 1) fX fM (u2 X 21 (h (i + 1) - 1) r0) (u2 M 13 (h (i + 1) - 1) r0) (by omega) (by omega) (by omega) (by simp [z_u2, hX]) (by simp [z_u2, hM]) (fun j hj => by have := hc j hj; simpa [z_u2] using this) (fun j hj => by simp [z_u2, hf j hj]) hh (fun j hj => by
        by_cases e : j = h (i + 1) - 1
        · simp [z_u2, e]
        · simp [z_u2, e]; exact hs j (by omega))
      have s1 := hs (h (i + 1) - 1) (by omega)
      have s2 := hs (h (i + 1)) (by omega)
      refine ⟨X', M', r, ?_, ?_, fun a ha => by rw [e3 a ha, z_u2k _ _ _ _ ha], fun a ha => by rw [e4 a ha, z_u2k _ _ _ _ ha]⟩
      · have n1 := zOp_lt h2 h8
        simp (discharger := omega) only [L_X4_price_13, hX, z_lit, z_nI_le, z_nI_lt, z_nI_inj, z_inb, z_nI_tn, z_nI_add, z_nI_mul, z_bitN, z_zb, z_0add, z_add0, z_0or, z_or0, Option.bind_some, decide_eq_true_eq, Nat.zero_add, Nat.add_zero, h1, if_false, if_true, a20, ea, n1, m1, m2, a21, j1, p21]
        exact e1
      · have g1 : 1 < o := by omega
        have g2 : h (i + 1) - 1 < 150 := by omega
        have g3 : h (i + 1) < 150 := by omega
        rw [s1, s2] at j2
        simp (discharger := omega) only [L_X9_valueNow_4, hM, z_lit, z_nI_le, z_nI_lt, z_nI_inj, z_inb, z_nI_tn, z_nI_add, z_nI_mul, z_bitN, z_zb, z_0add, z_add0, z_0or, z_or0, Option.bind_some, decide_eq_true_eq, Nat.zero_add, Nat.add_zero, h1, if_false, if_true, h150, eb, g1, m1, m2, g2, g3, j2]
        exact e2
