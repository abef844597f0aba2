set_option linter.unusedVariables false
theorem z_lawStep {xs : Nat → Int32} {Lth n g i : Nat} {X M : TX} {L : TL} (hL : Lth ≤ 4608) (hi : i + 9 ≤ Lth) (h : zV n X M) (hk : ∀ n X M L, zV n X M → L_law_23 xs Lth g X M L (nI i + nI 9) = some 1) : L_law_23 xs Lth (g + 1) X M L (nI i) = some 1 := by
  have hb : ∀ j, 1 ≤ j → j < 9 → inb (nI i + nI j) Lth = true := fun j h1 h2 => by
    rw [z_nI_add, z_inb (by omega)]; simp; omega
  have h0 : inb (nI i) Lth = true := by rw [z_inb (by omega)]; simp; omega
  have e : nI Lth - nI 9 = zI ((Lth : Int) - 9) := by rw [zI_nat, zI_nat, zI_sub]; rfl
  have nl : ¬ nI Lth - (9 : Int32) < nI i := by
    show ¬ nI Lth - nI 9 < nI i
    rw [e, Int32.lt_iff_toInt_lt, zI_toInt (by omega) (by omega), z_nI_toInt (by omega)]; omega
  rw [L_law_23]
  dsimp only
  rw [if_neg nl, if_pos h0]
  generalize xs (Int32.toNatClampNeg (nI i)) &&& (63 : Int32) = v
  by_cases c0 : v = (0 : Int32)
  · rw [if_pos c0]; exact zl_208 h hb hk
  rw [if_neg c0]
  by_cases c1 : v = (1 : Int32)
  · rw [if_pos c1]; exact zl_281 h hb hk
  rw [if_neg c1]
  by_cases c2 : v = (2 : Int32)
  · rw [if_pos c2]; exact zl_337 h hb hk
  rw [if_neg c2]
  by_cases c3 : v = (3 : Int32)
  · rw [if_pos c3]; exact zl_393 h hb hk
  rw [if_neg c3]
  by_cases c4 : v = (4 : Int32)
  · rw [if_pos c4]; exact zl_449 h hb hk
  rw [if_neg c4]
  by_cases c5 : v = (5 : Int32)
  · rw [if_pos c5]; exact zl_505 h hb hk
  rw [if_neg c5]
  by_cases c6 : v = (6 : Int32)
  · rw [if_pos c6]; exact zl_518 h hb hk
  rw [if_neg c6]
  by_cases c7 : v = (7 : Int32)
  · rw [if_pos c7]; exact zl_531 h hb hk
  rw [if_neg c7]
  by_cases c8 : v = (8 : Int32)
  · rw [if_pos c8]; exact zl_587 h hb hk
  rw [if_neg c8]
  by_cases c9 : v = (9 : Int32)
  · rw [if_pos c9]; exact zl_655 h hb hk
  rw [if_neg c9]
  by_cases c10 : v = (10 : Int32)
  · rw [if_pos c10]; exact zl_723 h hb hk
  rw [if_neg c10]
  by_cases c11 : v = (11 : Int32)
  · rw [if_pos c11]; exact zl_791 h hb hk
  rw [if_neg c11]
  by_cases c12 : v = (12 : Int32)
  · rw [if_pos c12]; exact zl_859 h hb hk
  rw [if_neg c12]
  by_cases c13 : v = (13 : Int32)
  · rw [if_pos c13]; exact zl_1005 h hb hk
  rw [if_neg c13]
  by_cases c14 : v = (14 : Int32)
  · rw [if_pos c14]; exact zl_1061 h hb hk
  rw [if_neg c14]
  by_cases c15 : v = (15 : Int32)
  · rw [if_pos c15]; exact zl_1129 h hb hk
  rw [if_neg c15]
  by_cases c16 : v = (16 : Int32)
  · rw [if_pos c16]; exact zl_1197 h hb hk
  rw [if_neg c16]
  by_cases c17 : v = (17 : Int32)
  · rw [if_pos c17]; exact zl_1253 h hb hk
  rw [if_neg c17]
  by_cases c18 : v = (18 : Int32)
  · rw [if_pos c18]; exact zl_1321 h hb hk
  rw [if_neg c18]
  by_cases c19 : v = (19 : Int32)
  · rw [if_pos c19]; exact zl_1377 h hb hk
  rw [if_neg c19]
  by_cases c20 : v = (20 : Int32)
  · rw [if_pos c20]; exact zl_1433 h hb hk
  rw [if_neg c20]
  by_cases c21 : v = (21 : Int32)
  · rw [if_pos c21]; exact zl_1501 h hb hk
  rw [if_neg c21]
  by_cases c22 : v = (22 : Int32)
  · rw [if_pos c22]; exact zl_1557 h hb hk
  rw [if_neg c22]
  by_cases c23 : v = (23 : Int32)
  · rw [if_pos c23]; exact zl_1613 h hb hk
  rw [if_neg c23]
  by_cases c24 : v = (24 : Int32)
  · rw [if_pos c24]; exact zl_1704 h hb hk
  rw [if_neg c24]
  by_cases c25 : v = (25 : Int32)
  · rw [if_pos c25]; exact zl_1760 h hb hk
  rw [if_neg c25]
  by_cases c26 : v = (26 : Int32)
  · rw [if_pos c26]; exact zl_1816 h hb hk
  rw [if_neg c26]
  by_cases c27 : v = (27 : Int32)
  · rw [if_pos c27]; exact zl_1829 h hb hk
  rw [if_neg c27]
  by_cases c28 : v = (28 : Int32)
  · rw [if_pos c28]; exact zl_1885 h hb hk
  rw [if_neg c28]
  by_cases c29 : v = (29 : Int32)
  · rw [if_pos c29]; exact zl_1941 h hb hk
  rw [if_neg c29]
  by_cases c30 : v = (30 : Int32)
  · rw [if_pos c30]; exact zl_1954 h hb hk
  rw [if_neg c30]
  by_cases c31 : v = (31 : Int32)
  · rw [if_pos c31]; exact zl_2010 h hb hk
  rw [if_neg c31]
  by_cases c32 : v = (32 : Int32)
  · rw [if_pos c32]; exact zl_2078 h hb hk
  rw [if_neg c32]
  by_cases c33 : v = (33 : Int32)
  · rw [if_pos c33]; exact zl_2170 h hb hk
  rw [if_neg c33]
  by_cases c34 : v = (34 : Int32)
  · rw [if_pos c34]; exact zl_2288 h hb hk
  rw [if_neg c34]
  by_cases c35 : v = (35 : Int32)
  · rw [if_pos c35]; exact zl_2301 h hb hk
  rw [if_neg c35]
  by_cases c36 : v = (36 : Int32)
  · rw [if_pos c36]; exact zl_2314 h hb hk
  rw [if_neg c36]
  by_cases c37 : v = (37 : Int32)
  · rw [if_pos c37]; exact zl_2339 h hb hk
  rw [if_neg c37]
  exact hk n X M L h
theorem z_lawL {xs : Nat → Int32} {Lth : Nat} (hL : Lth ≤ 4608) : ∀ (f i n : Nat) (X M : TX) (L : TL), i ≤ 20000 → Lth < i + 9 * (f + 1) → zV n X M → L_law_23 xs Lth (f + 1) X M L (nI i) = some 1 := by
  intro f
  induction f with
  | zero => ?_
  | succ f ih => ?_
  all_goals
    intro i n X M L hi hf h
    by_cases c : i + 9 ≤ Lth
    · first
      | (exfalso; omega)
      | exact z_lawStep hL c h fun n X M L h => by rw [z_nI_add]; exact ih (i + 9) n X M L (by omega) (by omega) h
    · have e : nI Lth - nI 9 = zI ((Lth : Int) - 9) := by rw [zI_nat, zI_nat, zI_sub]; rfl
      have yl : nI Lth - (9 : Int32) < nI i := by
        show nI Lth - nI 9 < nI i
        rw [e, Int32.lt_iff_toInt_lt, zI_toInt (by omega) (by omega), z_nI_toInt (by omega)]; omega
      rw [L_law_23]
      dsimp only
      rw [if_pos yl]
theorem z_lawAll {xs : Nat → Int32} {Lth n : Nat} (hL : Lth ≤ 4608) {X M : TX} {L : TL} (h : zV n X M) : L_law_23 xs Lth FU X M L (nI 0) = some 1 := z_lawL hL 1023 0 n X M L (by omega) (by omega) h
