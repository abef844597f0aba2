set_option linter.unusedVariables false
theorem zRd_grow {n : Nat} {r : Nat → Int32} (h : zRd n r) (hz : r n = nI 0) : zRd (n + 1) r := by
  have z : ∀ q, bt (r n) q = false := fun q => by rw [hz]; exact bt_nI0 q
  have k : ∀ q, q < n → bt (r q) n = false := fun q hq => by
    cases hh : bt (r q) n with
    | false => rfl
    | true => exact absurd (h.1 q hq n hh) (by omega)
  refine ⟨fun p hp q hq => ?_, fun p q hp hq => ?_, fun p hp => ?_⟩
  · by_cases c : p = n
    · subst c; rw [z q] at hq; exact absurd hq (by decide)
    · have := h.1 p (by omega) q hq; omega
  · by_cases c : p = n
    · subst c
      by_cases d : q = p
      · rw [d]
      · rw [z q, k q (by omega)]
    · by_cases d : q = n
      · subst d; rw [z p, k p (by omega)]
      · exact h.2.1 p q (by omega) (by omega)
  · by_cases c : p = n
    · subst c; exact z p
    · exact h.2.2 p (by omega)
def zParM4 (i : Int32) (C : TX) (v : Int32) : TX := u2 (u2 C 3 i.toNatClampNeg v) 0 16 ((u2 C 3 i.toNatClampNeg v) 0 16 + nI 1)
def zParM3 (B : TX) : Option TX := (f_X9_readNumber B (nI 0) (nI 99)).bind fun q17 => if inb ((nI 3 * (B 0 16)) + nI 2) 30 = true then some (zParM4 ((nI 3 * (B 0 16)) + nI 2) q17.1 q17.2) else none
def zParM2 (A : TX) : Option TX := (f_X9_readNumber A (nI 0) (nI 99)).bind fun q15 => if inb ((nI 3 * (A 0 16)) + nI 1) 30 = true then zParM3 (u2 q15.1 3 (Int32.toNatClampNeg ((nI 3 * (A 0 16)) + nI 1)) q15.2) else none
def zParM (M : TX) : Option TX := (f_X9_readNumber M (nI 0) (nI 3)).bind fun q13 => if inb (nI 3 * (M 0 16)) 30 = true then zParM2 (u2 q13.1 3 (Int32.toNatClampNeg (nI 3 * (M 0 16))) q13.2) else none
theorem zParM3_eq {B C : TX} {n : Nat} {v : Int32} (h : f_X9_readNumber B (nI 0) (nI 99) = some (C, v)) (hB : B 0 16 = nI n) (hC : C 0 16 = nI n) (hn : n < 10) :
    zParM3 B = some (u2 (u2 C 3 (3 * n + 2) v) 0 16 (nI (n + 1))) := by
  have b1 : inb (nI (3 * n + 2)) 30 = true := by rw [z_inb (by omega)]; simp; omega
  unfold zParM3
  rw [h, Option.bind_some, hB, z_nI_mul, z_nI_add, if_pos b1]
  unfold zParM4
  rw [z_nI_tn (by omega)]
  show some (u2 (u2 C 3 (3 * n + 2) v) 0 16 (u2 C 3 (3 * n + 2) v 0 16 + nI 1)) = _
  rw [z_u2k _ _ _ _ (show (0 : Nat) ≠ 3 by decide), hC, z_nI_add]
theorem zParM2_eq {A B : TX} {n : Nat} {v : Int32} (h : f_X9_readNumber A (nI 0) (nI 99) = some (B, v)) (hA : A 0 16 = nI n) (hn : n < 10) :
    zParM2 A = zParM3 (u2 B 3 (3 * n + 1) v) := by
  have b1 : inb (nI (3 * n + 1)) 30 = true := by rw [z_inb (by omega)]; simp; omega
  unfold zParM2
  rw [h, Option.bind_some, hA, z_nI_mul, z_nI_add, if_pos b1, z_nI_tn (by omega)]
theorem zParM_eq {M A : TX} {n : Nat} {v : Int32} (h : f_X9_readNumber M (nI 0) (nI 3) = some (A, v)) (hM : M 0 16 = nI n) (hn : n < 10) :
    zParM M = zParM2 (u2 A 3 (3 * n) v) := by
  have b1 : inb (nI (3 * n)) 30 = true := by rw [z_inb (by omega)]; simp; omega
  unfold zParM
  rw [h, Option.bind_some, hM, z_nI_mul, if_pos b1, z_nI_tn (by omega)]
theorem zParM3_S {B : TX} {a n : Nat} (h : B 0 5 = nI a) (ha : a ≤ 600) (hB : B 0 16 = nI n) (hn : n < 10) : ∃ R, zParM3 B = some R ∧ zUM B R :=
  ⟨_, zParM3_eq (z9_numS h ha _ _) hB hB hn, (zUM_k _ (by omega) _ _).trans (zUM_0 _ (by omega) _)⟩
theorem zParM2_S {A : TX} {a n : Nat} (h : A 0 5 = nI a) (ha : a ≤ 600) (hA : A 0 16 = nI n) (hn : n < 10) : ∃ R, zParM2 A = some R ∧ zUM A R := by
  have u : zUM A (u2 A 3 (3 * n + 1) (nI 0)) := zUM_k _ (by omega) _ _
  obtain ⟨R, r1, r2⟩ := zParM3_S (B := u2 A 3 (3 * n + 1) (nI 0)) (a := a) (n := n) ((u.2 5 (by decide) (by decide) (by decide)).trans h) ha (by rw [z_u2k _ _ _ _ (by decide)]; exact hA) hn
  exact ⟨R, (zParM2_eq (z9_numS h ha _ _) hA hn).trans r1, u.trans r2⟩
theorem zParX (g i : Nat) (hi : i < 2) (X : TX) : L_X3_readParish_27 (g + 1) X (nI i) = (f_X7_number X (nI 99)).bind fun q5 => if q5.2 = nI 0 then (some (q5.1, nI 0)) else ((f_X8_put 13 q5.1 ((nI i * nI 10) + (q5.1 11 5)) (q5.1 1 5)).bind fun q7 => L_X3_readParish_27 g q7 (nI (i + 1))) := by
  have c : ¬ nI 2 ≤ nI i := by rw [z_nI_le (by omega) (by omega)]; omega
  show (if nI 2 ≤ nI i then _ else ((f_X7_number X (nI 99)).bind fun q5 => if q5.2 = nI 0 then (some (q5.1, nI 0)) else ((f_X8_put 13 q5.1 ((nI i * nI 10) + (q5.1 11 5)) (q5.1 1 5)).bind fun q7 => L_X3_readParish_27 g q7 (nI i + nI 1)))) = _
  rw [if_neg c, z_nI_add]
theorem zParX2 (g : Nat) (X : TX) : L_X3_readParish_27 (g + 1) X (nI 2) = some ((u2 X 11 5 ((X 11 5) + nI 1)), nI 1) := by
  have c : nI 2 ≤ nI 2 := by decide
  show (if nI 2 ≤ nI 2 then (some ((u2 X 11 5 ((X 11 5) + nI 1)), nI 1)) else ((f_X7_number X (nI 99)).bind fun q5 => if q5.2 = nI 0 then (some (q5.1, nI 0)) else ((f_X8_put 13 q5.1 ((nI 2 * nI 10) + (q5.1 11 5)) (q5.1 1 5)).bind fun q7 => L_X3_readParish_27 g q7 (nI 2 + nI 1)))) = _
  rw [if_pos c]
