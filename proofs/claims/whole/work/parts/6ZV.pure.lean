set_option linter.unusedVariables false
/-- how many fitting moves leave ward d to v -/
def zCn (K : TX) (B : Nat → Int32) (n : Nat) (s : Nat → Int32) (d : Nat) (v : Int32) (k : Nat) : Nat := (zFi (zQ K B n s (fun r => decide (zWin (zLc n r d) = v))) k).1
theorem zCn_succ (K : TX) (B : Nat → Int32) (n : Nat) (s : Nat → Int32) (d : Nat) (v : Int32) (k : Nat) : zCn K B n s d v (k + 1) = if zQ K B n s (fun _ => true) k = true ∧ zWin (zLc n (zRi s k) d) = v then zCn K B n s d v k + 1 else zCn K B n s d v k := by
  unfold zCn
  rw [zFi_succ]
  unfold zFiS
  have e : (zQ K B n s (fun r => decide (zWin (zLc n r d) = v)) k = true) ↔ (zQ K B n s (fun _ => true) k = true ∧ zWin (zLc n (zRi s k) d) = v) := by
    unfold zQ
    simp only [Bool.and_eq_true, decide_eq_true_eq]
    constructor
    · rintro ⟨a, b, c⟩; exact ⟨⟨a, b, trivial⟩, c⟩
    · rintro ⟨⟨a, b, _⟩, c⟩; exact ⟨a, b, c⟩
  by_cases c : zQ K B n s (fun _ => true) k = true ∧ zWin (zLc n (zRi s k) d) = v
  · rw [if_pos c, if_pos (e.2 c)]
  · rw [if_neg c, if_neg (fun h => c (e.1 h))]
theorem zCn_le (K : TX) (B : Nat → Int32) (n : Nat) (s : Nat → Int32) (d : Nat) (v : Int32) (k : Nat) (hk : k ≤ 40) : zCn K B n s d v k ≤ k := (zFi_p _ k hk).1
def zWo (K : TX) (B : Nat → Int32) (n : Nat) (s : Nat → Int32) (d k : Nat) : Nat := max (max (zCn K B n s d (-nI 1) k) (zCn K B n s d (nI 0) k)) (zCn K B n s d (nI 1) k)
theorem z_mx {a b : Nat} (ha : a < 1000) (hb : b < 1000) : (if nI a < nI b then nI b else nI a) = nI (max a b) := by
  by_cases c : a < b
  · rw [if_pos ((z_nI_lt (by omega) (by omega)).2 c), Nat.max_eq_right (by omega)]
  · rw [if_neg (fun h => c ((z_nI_lt (by omega) (by omega)).1 h)), Nat.max_eq_left (by omega)]
theorem z1_worst {n : Nat} {K X M : TX} {s : Nat → Int32} (hE : zE n K X) (hD : zD n s X) (hB : zBk X M) {d : Nat} (hd : d < 4) :
    ∃ Y, f_X1_worstFitting X (nI d) = some (Y, nI (zWo K (M 18) n s d (4 * n))) ∧ zPX X Y ∧ zD n s Y := by
  have h10 := hE.n10
  have bk : ∀ {Y}, zPX X Y → zBk Y M := fun h => zBk_X hB h.2 (h.1 28 (by decide) (by decide) (by decide) (by decide))
  have b40 : 4 * n ≤ 40 := by omega
  obtain ⟨A, a1, a2, a3, _⟩ := z1_fitting hE hD hB (x2 := nI d) (x3 := (-1 : Int32)) (G := fun r => decide (zWin (zLc n r d) = -nI 1)) (.inr ⟨d, hd, rfl, fun _ => rfl⟩)
  obtain ⟨B, b1, b2, b3, _⟩ := z1_fitting (hE.y a2.y) a3 (bk a2) (x2 := nI d) (x3 := nI 0) (G := fun r => decide (zWin (zLc n r d) = nI 0)) (.inr ⟨d, hd, rfl, fun _ => rfl⟩)
  obtain ⟨C, c1, c2, c3, _⟩ := z1_fitting ((hE.y a2.y).y b2.y) b3 (bk (a2.trans b2)) (x2 := nI d) (x3 := nI 1) (G := fun r => decide (zWin (zLc n r d) = nI 1)) (.inr ⟨d, hd, rfl, fun _ => rfl⟩)
  have l0 := zCn_le K (M 18) n s d (-nI 1) (4 * n) b40
  have l1 := zCn_le K (M 18) n s d (nI 0) (4 * n) b40
  have l2 := zCn_le K (M 18) n s d (nI 1) (4 * n) b40
  have a1' : f_X1_fitting X (nI d) (-1 : Int32) = some (A, nI (zCn K (M 18) n s d (-nI 1) (4 * n))) := a1
  have b1' : f_X1_fitting A (nI d) (0 : Int32) = some (B, nI (zCn K (M 18) n s d (nI 0) (4 * n))) := b1
  have c1' : f_X1_fitting B (nI d) (nI 0 + (1 : Int32)) = some (C, nI (zCn K (M 18) n s d (nI 1) (4 * n))) := c1
  refine ⟨C, ?_, (a2.trans b2).trans c2, c3⟩
  have eq : ∀ f Z x3 x4, L_X1_worstFitting_11 (f + 1) Z (nI d) x3 x4 = if (2 : Int32) ≤ x4 then (some (Z, x3)) else ((f_X1_fitting Z (nI d) x4).bind fun q3 => (L_X1_worstFitting_11 f) q3.1 (nI d) (if x3 < q3.2 then q3.2 else x3) (x4 + (1 : Int32))) := fun _ _ _ _ => rfl
  unfold f_X1_worstFitting
  rw [a1', Option.bind_some]
  show L_X1_worstFitting_11 (1021 + 3) A (nI d) (nI (zCn K (M 18) n s d (-nI 1) (4 * n))) (0 : Int32) = _
  rw [eq, if_neg (by decide), b1', Option.bind_some]
  show L_X1_worstFitting_11 (1021 + 2) B (nI d) (if nI (zCn K (M 18) n s d (-nI 1) (4 * n)) < nI (zCn K (M 18) n s d (nI 0) (4 * n)) then nI (zCn K (M 18) n s d (nI 0) (4 * n)) else nI (zCn K (M 18) n s d (-nI 1) (4 * n))) (nI 0 + (1 : Int32)) = _
  rw [z_mx (by omega) (by omega), eq, if_neg (by decide), c1', Option.bind_some]
  show L_X1_worstFitting_11 (1021 + 1) C (nI d) (if nI (max (zCn K (M 18) n s d (-nI 1) (4 * n)) (zCn K (M 18) n s d (nI 0) (4 * n))) < nI (zCn K (M 18) n s d (nI 1) (4 * n)) then nI (zCn K (M 18) n s d (nI 1) (4 * n)) else nI (max (zCn K (M 18) n s d (-nI 1) (4 * n)) (zCn K (M 18) n s d (nI 0) (4 * n)))) (nI 0 + (1 : Int32) + (1 : Int32)) = _
  rw [z_mx (by omega) (by omega), eq, if_pos (by decide)]
  rfl
theorem z9_worst {n : Nat} {M Z : TX} {s : Nat → Int32} (h10 : n ≤ 10) (hK : M 0 19 = nI n) (hZ : zLw n M Z s) (hW : ∀ i d, i < 4 * n → d < 4 → Z 23 (4 * i + d) = zWd n (zRi s i) d) {d : Nat} (hd : d < 4) :
    ∃ Y, f_X9_worstOf Z (nI d) = some (Y, nI (zWo M (M 18) n s d (4 * n))) ∧ zLw n M Y s ∧ Y 23 = Z 23 := by
  have h := z_loopE (fun f i Y => L_X9_worstOf_2 f Y (nI d) i) (fun i Y => (∀ j, j ≠ 24 → Y j = Z j) ∧ ∀ e, e < i → Y 24 e = nI 0) (fun Y => L_X9_worstOf_24 FU Y (nI d) 0 0) 3 ?_ ?_ 3 0 FU Z ⟨fun _ _ => rfl, fun e he => absurd he (by omega)⟩ (by omega) (by unfold FU; omega)
  · obtain ⟨Y, e1, e2, e3⟩ := h
    have l := z_loopE (fun f i (b : TX × Int32) => L_X9_worstOf_24 f b.1 (nI d) b.2 i) (fun i b => (∀ j, j ≠ 24 → b.1 j = Z j) ∧ b.1 24 2 = nI (zCn M (M 18) n s d (-nI 1) i) ∧ b.1 24 0 = nI (zCn M (M 18) n s d (nI 0) i) ∧ b.1 24 1 = nI (zCn M (M 18) n s d (nI 1) i) ∧ b.2 = nI (zWo M (M 18) n s d i)) (fun b => some (b.1, b.2)) (4 * n) ?_ ?_ (4 * n) 0 FU (Y, 0) ⟨e2, e3 2 (by omega), e3 0 (by omega), e3 1 (by omega), rfl⟩ (by omega) (by unfold FU; omega)
    · obtain ⟨b, k1, k2, k3, k4, k5, k6⟩ := l
      refine ⟨b.1, ?_, ⟨hZ.1.trans ⟨fun k _ _ _ _ _ _ c => k2 k c, fun j _ _ => by rw [k2 0 (by decide)]⟩, by rw [k2 0 (by decide)]; exact hZ.2.1, by rw [k2 20 (by decide)]; exact hZ.2.2⟩, k2 23 (by decide)⟩
      rw [← k6]
      exact e1.trans k1
    · rintro f ⟨W, v⟩ ⟨k2, _⟩
      simp only at k2
      have hnW : W 0 19 = nI n := by rw [k2 0 (by decide)]; exact (hZ.1.2 19 (by decide) (by decide)).trans hK
      simp (discharger := omega) only [L_X9_worstOf_24, hnW, z_lit, z_nI_le, z_nI_lt, z_nI_inj, z_inb, z_nI_tn, z_nI_add, z_nI_mul, z_bitN, z_zb, z_0add, z_add0, z_0or, z_or0, Option.bind_some, decide_eq_true_eq, Nat.zero_add, Nat.add_zero, Nat.le_refl, ↓reduceIte]
    · rintro f i ⟨W, v⟩ hi ⟨k2, k3, k4, k5, k6⟩
      simp only at k2 k3 k4 k5 k6
      have hnW : W 0 19 = nI n := by rw [k2 0 (by decide)]; exact (hZ.1.2 19 (by decide) (by decide)).trans hK
      have hWL : zLw n M W s := ⟨hZ.1.trans ⟨fun k _ _ _ _ _ _ c => k2 k c, fun j _ _ => by rw [k2 0 (by decide)]⟩, by rw [k2 0 (by decide)]; exact hZ.2.1, by rw [k2 20 (by decide)]; exact hZ.2.2⟩
      have hf := z9_isFit h10 hK hWL (by rw [k2 23 (by decide)]; exact hW) hi
      have h1 : ¬ 4 * n ≤ i := by omega
      have i160 : 4 * i + d < 160 := by omega
      have h23 : W 23 (4 * i + d) = zWd n (zRi s i) d := by rw [k2 23 (by decide)]; exact hW i d hi hd
      have t10 : ¬ ((1 : Nat) = 0) := by decide
      have b0 := zCn_le M (M 18) n s d (-nI 1) i (by omega)
      have b1 := zCn_le M (M 18) n s d (nI 0) i (by omega)
      have b2 := zCn_le M (M 18) n s d (nI 1) i (by omega)
      have s0 := zCn_succ M (M 18) n s d (-nI 1) i
      have s1 := zCn_succ M (M 18) n s d (nI 0) i
      have s2 := zCn_succ M (M 18) n s d (nI 1) i
      by_cases cq : zQ M (M 18) n s (fun _ => true) i = true
      · rw [cq] at hf
        -- the ward's count is one more
        have go : ∀ (e : Nat) (c : Nat), e < 3 → c ≤ i → zWd n (zRi s i) d = nI e → W 24 e = nI c →
            L_X9_worstOf_24 (f + 1) W (nI d) v (nI i) = L_X9_worstOf_24 f (u2 W 24 e (nI (c + 1))) (nI d) (if nI (c + 1) ≤ v then v else nI (c + 1)) (nI (i + 1)) := fun e c he hc h3 h4 => by
          by_cases cv : nI (c + 1) ≤ v
          · simp (discharger := omega) only [L_X9_worstOf_24, hnW, h1, hf, i160, h23, h3, h4, he, cv, zbI, t10, z_u2s, z_lit, z_nI_le, z_nI_lt, z_nI_inj, z_inb, z_nI_tn, z_nI_add, z_nI_mul, z_bitN, z_zb, z_0add, z_add0, z_0or, z_or0, Option.bind_some, decide_eq_true_eq, Nat.zero_add, Nat.add_zero, ↓reduceIte]
          · simp (discharger := omega) only [L_X9_worstOf_24, hnW, h1, hf, i160, h23, h3, h4, he, cv, zbI, t10, z_u2s, z_lit, z_nI_le, z_nI_lt, z_nI_inj, z_inb, z_nI_tn, z_nI_add, z_nI_mul, z_bitN, z_zb, z_0add, z_add0, z_0or, z_or0, Option.bind_some, decide_eq_true_eq, Nat.zero_add, Nat.add_zero, ↓reduceIte]
        have mx : ∀ a b : Nat, a < 1000 → b < 1000 → (if nI b ≤ nI a then nI a else nI b) = nI (max a b) := fun a b ha hb => by
          by_cases c : b ≤ a
          · rw [if_pos ((z_nI_le (by omega) (by omega)).2 c), Nat.max_eq_left c]
          · rw [if_neg (fun h => c ((z_nI_le (by omega) (by omega)).1 h)), Nat.max_eq_right (by omega)]
        have fr : ∀ e x j, j ≠ 24 → u2 W 24 e x j = Z j := fun e x j hj => (z_u2k _ _ _ _ hj).trans (k2 j hj)
        rcases zWin_3 (zLc n (zRi s i) d) with ew | ew | ew
        · have hz : zWd n (zRi s i) d = nI 2 := by unfold zWd; rw [if_pos ew]
          rw [if_pos ⟨cq, ew⟩] at s0
          rw [if_neg (fun h => absurd (ew.symm.trans h.2) (by decide))] at s1
          rw [if_neg (fun h => absurd (ew.symm.trans h.2) (by decide))] at s2
          refine ⟨(u2 W 24 2 (nI (zCn M (M 18) n s d (-nI 1) i + 1)), nI (max (zWo M (M 18) n s d i) (zCn M (M 18) n s d (-nI 1) i + 1))), ?_, fr _ _, ?_, ?_, ?_, ?_⟩
          · show L_X9_worstOf_24 (f + 1) W (nI d) v (nI i) = _
            rw [go 2 _ (by omega) b0 hz k3, k6, mx _ _ (by unfold zWo; omega) (by omega)]
          · rw [s0]; dsimp only; rw [z_u2s]
          · rw [s1]; dsimp only; rw [z_u2j _ _ _ _ (by decide)]; exact k4
          · rw [s2]; dsimp only; rw [z_u2j _ _ _ _ (by decide)]; exact k5
          · show nI _ = nI _
            have : max (zWo M (M 18) n s d i) (zCn M (M 18) n s d (-nI 1) i + 1) = zWo M (M 18) n s d (i + 1) := by unfold zWo; rw [s0, s1, s2]; omega
            rw [this]
        · have hz : zWd n (zRi s i) d = nI 0 := by unfold zWd; rw [ew, if_neg (by decide)]
          rw [if_neg (fun h => absurd (ew.symm.trans h.2) (by decide))] at s0
          rw [if_pos ⟨cq, ew⟩] at s1
          rw [if_neg (fun h => absurd (ew.symm.trans h.2) (by decide))] at s2
          refine ⟨(u2 W 24 0 (nI (zCn M (M 18) n s d (nI 0) i + 1)), nI (max (zWo M (M 18) n s d i) (zCn M (M 18) n s d (nI 0) i + 1))), ?_, fr _ _, ?_, ?_, ?_, ?_⟩
          · show L_X9_worstOf_24 (f + 1) W (nI d) v (nI i) = _
            rw [go 0 _ (by omega) b1 hz k4, k6, mx _ _ (by unfold zWo; omega) (by omega)]
          · rw [s0]; dsimp only; rw [z_u2j _ _ _ _ (by decide)]; exact k3
          · rw [s1]; dsimp only; rw [z_u2s]
          · rw [s2]; dsimp only; rw [z_u2j _ _ _ _ (by decide)]; exact k5
          · show nI _ = nI _
            have : max (zWo M (M 18) n s d i) (zCn M (M 18) n s d (nI 0) i + 1) = zWo M (M 18) n s d (i + 1) := by unfold zWo; rw [s0, s1, s2]; omega
            rw [this]
        · have hz : zWd n (zRi s i) d = nI 1 := by unfold zWd; rw [ew, if_neg (by decide)]
          rw [if_neg (fun h => absurd (ew.symm.trans h.2) (by decide))] at s0
          rw [if_neg (fun h => absurd (ew.symm.trans h.2) (by decide))] at s1
          rw [if_pos ⟨cq, ew⟩] at s2
          refine ⟨(u2 W 24 1 (nI (zCn M (M 18) n s d (nI 1) i + 1)), nI (max (zWo M (M 18) n s d i) (zCn M (M 18) n s d (nI 1) i + 1))), ?_, fr _ _, ?_, ?_, ?_, ?_⟩
          · show L_X9_worstOf_24 (f + 1) W (nI d) v (nI i) = _
            rw [go 1 _ (by omega) b2 hz k5, k6, mx _ _ (by unfold zWo; omega) (by omega)]
          · rw [s0]; dsimp only; rw [z_u2j _ _ _ _ (by decide)]; exact k3
          · rw [s1]; dsimp only; rw [z_u2j _ _ _ _ (by decide)]; exact k4
          · rw [s2]; dsimp only; rw [z_u2s]
          · show nI _ = nI _
            have : max (zWo M (M 18) n s d i) (zCn M (M 18) n s d (nI 1) i + 1) = zWo M (M 18) n s d (i + 1) := by unfold zWo; rw [s0, s1, s2]; omega
            rw [this]
      · rw [Bool.eq_false_iff.2 cq] at hf
        rw [if_neg (fun h => cq h.1)] at s0 s1 s2
        have hWo : zWo M (M 18) n s d (i + 1) = zWo M (M 18) n s d i := by unfold zWo; rw [s0, s1, s2]
        refine ⟨(W, v), ?_, k2, by rw [s0]; exact k3, by rw [s1]; exact k4, by rw [s2]; exact k5, by rw [hWo]; exact k6⟩
        simp (discharger := omega) only [L_X9_worstOf_24, hnW, h1, hf, zbI, z_lit, z_nI_le, z_nI_lt, z_nI_inj, z_inb, z_nI_tn, z_nI_add, z_nI_mul, z_bitN, z_zb, z_0add, z_add0, z_0or, z_or0, Option.bind_some, decide_eq_true_eq, Nat.zero_add, Nat.add_zero, ↓reduceIte, Bool.false_eq_true]
  · intro f Y _
    simp (discharger := omega) only [L_X9_worstOf_2, z_lit, z_nI_le, z_nI_lt, z_nI_inj, z_inb, z_nI_tn, z_nI_add, z_nI_mul, z_bitN, z_zb, z_0add, z_add0, z_0or, z_or0, Option.bind_some, decide_eq_true_eq, Nat.zero_add, Nat.add_zero, Nat.le_refl, ↓reduceIte]
  · intro f i Y hi ⟨k1, k2⟩
    have h1 : ¬ 3 ≤ i := by omega
    refine ⟨u2 Y 24 i (nI 0), ?_, fun j hj => (z_u2k _ _ _ _ hj).trans (k1 j hj), fun e he => ?_⟩
    · simp (discharger := omega) only [L_X9_worstOf_2, h1, hi, z_lit, z_nI_le, z_nI_lt, z_nI_inj, z_inb, z_nI_tn, z_nI_add, z_nI_mul, z_bitN, z_zb, z_0add, z_add0, z_0or, z_or0, Option.bind_some, decide_eq_true_eq, Nat.zero_add, Nat.add_zero, ↓reduceIte]
    · by_cases c : e = i
      · subst c; rw [z_u2s]
      · rw [z_u2j _ _ _ _ c]; exact k2 e (by omega)
