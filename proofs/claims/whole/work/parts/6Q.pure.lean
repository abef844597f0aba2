set_option linter.unusedVariables false
theorem z2_choose {n : Nat} {K X : TX} {s : Nat → Int32} (hE : zE n K X) (hD : zD n s X) (side : Int32) :
    ∃ X', f_X2_choose X side = some (X', if (zBest K n s side).1 = none then nI 0 else nI 1) ∧ (∀ k, k ≠ 21 → k ≠ 22 → k ≠ 33 → X' k = X k) ∧ zPk (zBest K n s side) X' := by
  have h10 := hE.n10
  have hm : f_X3_margin (u2 X 33 2 (-1)) side = some (zMg n s side) := by
    have : zD n s (u2 X 33 2 (-1)) := hD.frame (z_u2k _ _ _ _ (by decide)) (z_u2k _ _ _ _ (by decide)) (z_u2k _ _ _ _ (by decide)) (z_u2k _ _ _ _ (by decide)) (z_u2k _ _ _ _ (by decide))
    exact this.margin side
  have h := z_loopE (fun f i (a : TX × Int32) => L_X2_choose_21 f a.1 side a.2 i) (fun p a => (∀ k, k ≠ 21 → k ≠ 22 → k ≠ 33 → a.1 k = X k) ∧ zPk (zF (zBs K n s side) (4 * p) 0 (zB0 n s side)) a.1 ∧ a.2 = (zF (zBs K n s side) (4 * p) 0 (zB0 n s side)).2.2) (fun a => if a.1 33 2 = -1 then some (a.1, 0) else some (a.1, 1)) n ?_ ?_ n 0 FU (u2 (u2 X 33 2 (-1)) 33 4 (zMg n s side), 0) ⟨fun k h1 h2 h3 => by show u2 (u2 X 33 2 (-1)) 33 4 (zMg n s side) k = X k; rw [z_u2k _ _ _ _ h3, z_u2k _ _ _ _ h3], ⟨by simp [z_u2, zF, zB0], by simp [zF, zB0, z_u2]⟩, rfl⟩ (by omega) (by unfold FU; omega)
  · obtain ⟨a, e, hf, hk, hc⟩ := h
    have hq : ∀ q, (zBest K n s side).1 = some q → q.1 < 10 := fun q hq => by
      have := (zBest_p (4 * n) (Nat.le_refl _) q hq).1
      omega
    refine ⟨a.1, ?_, hf, hk⟩
    unfold f_X2_choose
    rw [hm, Option.bind_some]
    refine e.trans ?_
    have hn := zPk_none hk hq
    by_cases c : (zBest K n s side).1 = none
    · rw [if_pos c, if_pos (hn.2 c)]; rfl
    · rw [if_neg c, if_neg (fun h => c (hn.1 h))]; rfl
  · rintro f ⟨Y, c⟩ ⟨hf, hk, hc⟩
    simp only at hf hk hc
    have h3 : Y 3 5 = nI n := by rw [hf 3 (by decide) (by decide) (by decide)]; exact hE.xn
    simp (discharger := omega) only [L_X2_choose_21, h3, z_lit, z_nI_le, z_nI_lt, z_nI_inj, z_inb, z_nI_tn, z_nI_add, z_nI_mul, z_bitN, z_zb, z_0add, z_add0, z_0or, z_or0, Option.bind_some, decide_eq_true_eq, Nat.zero_add, Nat.add_zero, Nat.le_refl, if_true]
  · rintro f p ⟨Y, c⟩ hp ⟨hf, hk, hc⟩
    have h3 : Y 3 5 = nI n := by
      have := hf 3 (by decide) (by decide) (by decide)
      simp only at this
      rw [this]; exact hE.xn
    have h1 : ¬ n ≤ p := by omega
    have hE' : zE n K Y := hE.frame' (hf 3 (by decide) (by decide) (by decide)) fun k hk => hf k (by unfold zEk at hk; omega) (by unfold zEk at hk; omega) (by unfold zEk at hk; omega)
    have hD' : zD n s Y := hD.frame (hf 3 (by decide) (by decide) (by decide)) (hf 4 (by decide) (by decide) (by decide)) (hf 5 (by decide) (by decide) (by decide)) (hf 9 (by decide) (by decide) (by decide)) (hf 10 (by decide) (by decide) (by decide))
    obtain ⟨o, e1, ho⟩ := z3_open hE' hD' hp
    obtain ⟨a, e2, e3⟩ := z2_ch45 hE hD hp o ho (L_X2_choose_21 f) Y c hf hk hc (side := side)
    refine ⟨a, ?_, e3⟩
    simp (discharger := omega) only [L_X2_choose_21, h3, z_lit, z_nI_le, z_nI_lt, z_nI_inj, z_inb, z_nI_tn, z_nI_add, z_nI_mul, z_bitN, z_zb, z_0add, z_add0, z_0or, z_or0, Option.bind_some, decide_eq_true_eq, Nat.zero_add, Nat.add_zero, h1, if_false, e1]
    exact e2
/-- the number of a move -/
def zBn (b : ZB) : Int32 := match b.1 with
  | none => -1
  | some q => nI (10 * q.1 + q.2)
theorem zBn_none {b : ZB} (h : ∀ q, b.1 = some q → q.1 < 10 ∧ q.2 < 4) : (zBn b = -nI 1) ↔ b.1 = none := by
  obtain ⟨b1, b2⟩ := b
  cases b1 with
  | none => exact ⟨fun _ => rfl, fun _ => rfl⟩
  | some q =>
    have hl := h q rfl
    constructor
    · intro e
      have e : nI (10 * q.1 + q.2) = -nI 1 := e
      have := congrArg Int32.toInt e
      rw [z_nI_toInt (by omega)] at this
      have h2 : (-nI 1 : Int32).toInt = -1 := by decide
      omega
    · intro e; cases e
theorem upd_back (s : Nat → Int32) (p : Nat) (x : Int32) : upd (upd s p x) p (s p) = s := by
  funext q; unfold upd; by_cases h : q = p
  · simp [h]
  · simp [h]
theorem z_M20 (M : TX) (s : Nat → Int32) (h : M 20 = s) (p : Nat) (x : Int32) : u2 M 20 p x 20 = upd s p x := by rw [z_u2r, h]
theorem zS.set20 {K M : TX} (h : zS K M) (j : Nat) (v : Int32) : zS K (u2 M 20 j v) :=
  h.frame (z_u2k _ _ _ _ (by decide)) fun k hk => z_u2k _ _ _ _ (by omega)
theorem z9_bestOf {n : Nat} {K X M : TX} {s : Nat → Int32} (hE : zE n K X) (hD : zD n s X) (hS : zS K M) (hs : M 20 = s) {sd : Nat} (hsd : sd < 2) :
    ∃ M', f_X9_bestOf M (nI sd) = some (M', zBn (zBest K n s (nI sd))) ∧ M' 20 = s ∧ (∀ k, k ≠ 13 → k ≠ 14 → k ≠ 20 → M' k = M k) := by
  have h10 := hE.n10
  have h := z_loopE (fun f i (a : TX × Int32 × Int32 × Int32) => L_X9_bestOf_14 f a.1 (nI sd) a.2.1 a.2.2.1 a.2.2.2 i) (fun i a => a.1 20 = s ∧ (∀ k, k ≠ 13 → k ≠ 14 → k ≠ 20 → a.1 k = M k) ∧ a.2.1 = zBn (zF (zBs K n s (nI sd)) i 0 (zB0 n s (nI sd))) ∧ a.2.2.1 = (zF (zBs K n s (nI sd)) i 0 (zB0 n s (nI sd))).2.1 ∧ a.2.2.2 = (zF (zBs K n s (nI sd)) i 0 (zB0 n s (nI sd))).2.2) (fun a => some (a.1, a.2.1)) (4 * n) ?_ ?_ (4 * n) 0 FU (M, -1, zMg n s (nI sd), 0) ⟨hs, fun _ _ _ _ => rfl, rfl, rfl, rfl⟩ (by omega) (by unfold FU; omega)
  · obtain ⟨a, e, ha, hf, hb, _⟩ := h
    refine ⟨a.1, ?_, ha, hf⟩
    unfold f_X9_bestOf
    rw [z9_mg (hS.a19.trans hE.kn) h10 hsd, hs, Option.bind_some]
    refine e.trans ?_
    rw [hb]; rfl
  · rintro f ⟨Y, b, m, c⟩ ⟨ha, hf, hb, hm, hc⟩
    have hn : Y 0 19 = nI n := by
      have := hf 0 (by decide) (by decide) (by decide)
      simp only at this
      rw [this]; exact hS.a19.trans hE.kn
    simp (discharger := omega) only [L_X9_bestOf_14, hn, z_lit, z_nI_le, z_nI_lt, z_nI_inj, z_inb, z_nI_tn, z_nI_add, z_nI_mul, z_bitN, z_zb, z_0add, z_add0, z_0or, z_or0, Option.bind_some, decide_eq_true_eq, Nat.zero_add, Nat.add_zero, Nat.le_refl, ↓reduceIte]
  · rintro f i ⟨Y, b, m, c⟩ hi ⟨ha, hf, hb, hm, hc⟩
    simp only at ha hf hb hm hc
    have hSY : zS K Y := hS.frame (hf 0 (by decide) (by decide) (by decide)) fun k hk => hf k (by omega) (by omega) (by omega)
    have hn : Y 0 19 = nI n := hSY.a19.trans hE.kn
    have hp : i / 4 < n := by omega
    have hd : i % 4 < 4 := by omega
    obtain ⟨g, hg⟩ : ∃ g, g = zF (zBs K n s (nI sd)) i 0 (zB0 n s (nI sd)) := ⟨_, rfl⟩
    have hgq : ∀ q, g.1 = some q → q.1 < 10 ∧ q.2 < 4 := fun q hq => by
      rw [hg] at hq
      have := zBest_p i (by omega) q hq
      omega
    have hst : zF (zBs K n s (nI sd)) (i + 1) 0 (zB0 n s (nI sd)) = zBs K n s (nI sd) i g := by
      rw [zF_snoc, hg, Nat.zero_add]
    rw [hst]
    rw [← hg] at hb hm hc
    have h1 : ¬ 4 * n ≤ i := by omega
    have hi2 : i < 40 := by omega
    have e4 : nI i / nI 4 = nI (i / 4) := z_quo (by omega) (by omega) (by omega)
    have er : nI i - nI (i / 4) * nI 4 = nI (i % 4) := by rw [← e4]; exact z_rem (by omega) (by omega) (by omega)
    have er' : nI i - nI (i / 4 * 4) = nI (i % 4) := by rw [← z_nI_mul]; exact er
    have hmay := z9_mayCome hn h10 hp (nI (i % 4))
    rw [hSY.m7, ha] at hmay
    obtain ⟨Z, e1, e2⟩ := z9_costBy hE hD hSY ha hp hd
    have hSZ : zS K Z := hSY.frame (e2 0 (by decide) (by decide)) fun k hk => e2 k (by omega) (by omega)
    have hZ20 : Z 20 = s := (e2 20 (by decide) (by decide)).trans ha
    have hpu : Z 0 21 = K 0 21 := hSZ.a21
    have hsp : s (i / 4) = Z 20 (i / 4) := by rw [hZ20]
    have hmg : f_X9_marginOf (u2 Z 20 (i / 4) (nI (i % 4))) (nI sd) = some (zMg n (upd s (i / 4) (nI (i % 4))) (nI sd)) := by
      rw [z9_mg (n := n) (by rw [z_u2k _ _ _ _ (by decide)]; exact hSZ.a19.trans hE.kn) h10 hsd, z_M20 Z s hZ20]
    have hback : ∀ x, u2 (u2 Z 20 (i / 4) x) 20 (i / 4) (Z 20 (i / 4)) 20 = s := fun x => by
      rw [z_u2r, z_u2r, hZ20, upd_back]
    have hfZ : ∀ k, k ≠ 13 → k ≠ 14 → k ≠ 20 → Z k = M k := fun k a b c => (e2 k a b).trans (hf k a b c)
    have hfB : ∀ x k, k ≠ 13 → k ≠ 14 → k ≠ 20 → u2 (u2 Z 20 (i / 4) x) 20 (i / 4) (Z 20 (i / 4)) k = M k := fun x k a b c => by
      rw [z_u2k _ _ _ _ c, z_u2k _ _ _ _ c]; exact hfZ k a b c
    have hl : i / 4 < 34 := by omega
    have t10 : ¬ ((1 : Nat) = 0) := by decide
    have hbn : (b = -nI 1) ↔ g.1 = none := by rw [hb]; exact zBn_none hgq
    unfold zBs
    by_cases c1 : zMay (K 7) s n (i / 4) (nI (i % 4)) = true
    · rw [if_pos c1]
      by_cases c2 : K 0 21 < zCost K s (i / 4) (i % 4)
      · have c2' : ¬ zCost K s (i / 4) (i % 4) ≤ K 0 21 := fun h => Int32.not_lt.2 h c2
        rw [if_pos c2]
        refine ⟨(Z, b, m, c), ?_, hZ20, hfZ, hb, hm, hc⟩
        simp (discharger := omega) only [c1, c2', L_X9_bestOf_14, hn, h1, e4, er', hmay, e1, hpu, t10, z_lit, z_nI_le, z_nI_lt, z_nI_inj, z_inb, z_nI_tn, z_nI_add, z_nI_mul, z_bitN, z_zb, z_0add, z_add0, z_0or, z_or0, Option.bind_some, decide_eq_true_eq, Nat.zero_add, Nat.add_zero, ↓reduceIte]
      · have c2' : zCost K s (i / 4) (i % 4) ≤ K 0 21 := Int32.not_lt.1 c2
        rw [if_neg c2]
        by_cases c3 : zMg n (upd s (i / 4) (nI (i % 4))) (nI sd) < g.2.1
        · rw [if_pos c3]
          refine ⟨(u2 (u2 Z 20 (i / 4) (nI (i % 4))) 20 (i / 4) (Z 20 (i / 4)), b, m, c), ?_, hback (nI (i % 4)), hfB (nI (i % 4)), hb, hm, hc⟩
          simp (discharger := omega) only [c1, c2', c3, hm, L_X9_bestOf_14, hn, h1, e4, er', hmay, e1, hpu, hl, hmg, t10, z_lit, z_nI_le, z_nI_lt, z_nI_inj, z_inb, z_nI_tn, z_nI_add, z_nI_mul, z_bitN, z_zb, z_0add, z_add0, z_0or, z_or0, Option.bind_some, decide_eq_true_eq, Nat.zero_add, Nat.add_zero, ↓reduceIte]
        · rw [if_neg c3]
          by_cases c4 : zMg n (upd s (i / 4) (nI (i % 4))) (nI sd) = g.2.1 ∧ (g.1 = none ∨ g.2.2 ≤ zCost K s (i / 4) (i % 4))
          · rw [if_pos c4]
            refine ⟨(u2 (u2 Z 20 (i / 4) (nI (i % 4))) 20 (i / 4) (Z 20 (i / 4)), b, m, c), ?_, hback (nI (i % 4)), hfB (nI (i % 4)), hb, hm, hc⟩
            have c5 := c4.1
            by_cases c6 : g.1 = none
            · have c7 := hbn.2 c6
              have c8 : ¬ g.2.1 < g.2.1 := fun h => by rw [Int32.lt_iff_toInt_lt] at h; omega
              simp (discharger := omega) only [c1, c2', c8, c5, c7, hm, L_X9_bestOf_14, hn, h1, e4, er', hmay, e1, hpu, hl, hmg, t10, z_lit, z_nI_le, z_nI_lt, z_nI_inj, z_inb, z_nI_tn, z_nI_add, z_nI_mul, z_bitN, z_zb, z_0add, z_add0, z_0or, z_or0, Option.bind_some, decide_eq_true_eq, Nat.zero_add, Nat.add_zero, ↓reduceIte]
            · have c7 : ¬ b = -nI 1 := fun h => c6 (hbn.1 h)
              have c8 : ¬ g.2.1 < g.2.1 := fun h => by rw [Int32.lt_iff_toInt_lt] at h; omega
              have c9 : ¬ zCost K s (i / 4) (i % 4) < g.2.2 := Int32.not_lt.2 (c4.2.resolve_left c6)
              simp (discharger := omega) only [c1, c2', c8, c5, c7, c9, hm, hc, L_X9_bestOf_14, hn, h1, e4, er', hmay, e1, hpu, hl, hmg, t10, z_lit, z_nI_le, z_nI_lt, z_nI_inj, z_inb, z_nI_tn, z_nI_add, z_nI_mul, z_bitN, z_zb, z_0add, z_add0, z_0or, z_or0, Option.bind_some, decide_eq_true_eq, Nat.zero_add, Nat.add_zero, ↓reduceIte]
          · rw [if_neg c4]
            refine ⟨(u2 (u2 Z 20 (i / 4) (nI (i % 4))) 20 (i / 4) (Z 20 (i / 4)), nI (10 * (i / 4) + i % 4), zMg n (upd s (i / 4) (nI (i % 4))) (nI sd), zCost K s (i / 4) (i % 4)), ?_, hback (nI (i % 4)), hfB (nI (i % 4)), rfl, rfl, rfl⟩
            by_cases c5 : zMg n (upd s (i / 4) (nI (i % 4))) (nI sd) = g.2.1
            · have c6 : ¬ g.1 = none := fun h => c4 ⟨c5, .inl h⟩
              have c7 : ¬ b = -nI 1 := fun h => c6 (hbn.1 h)
              have c8 : ¬ g.2.1 < g.2.1 := fun h => by rw [Int32.lt_iff_toInt_lt] at h; omega
              have c9 : zCost K s (i / 4) (i % 4) < g.2.2 := Int32.not_le.1 fun h => c4 ⟨c5, .inr h⟩
              simp (discharger := omega) only [c1, c2', c8, c5, c7, c9, hm, hc, L_X9_bestOf_14, hn, h1, e4, er', hmay, e1, hpu, hl, hmg, t10, z_lit, z_nI_le, z_nI_lt, z_nI_inj, z_inb, z_nI_tn, z_nI_add, z_nI_mul, z_bitN, z_zb, z_0add, z_add0, z_0or, z_or0, Option.bind_some, decide_eq_true_eq, Nat.zero_add, Nat.add_zero, ↓reduceIte]
            · simp (discharger := omega) only [c1, c2', c3, c5, hm, L_X9_bestOf_14, hn, h1, e4, er', hmay, e1, hpu, hl, hmg, t10, z_lit, z_nI_le, z_nI_lt, z_nI_inj, z_inb, z_nI_tn, z_nI_add, z_nI_mul, z_bitN, z_zb, z_0add, z_add0, z_0or, z_or0, Option.bind_some, decide_eq_true_eq, Nat.zero_add, Nat.add_zero, ↓reduceIte]
    · rw [if_neg c1]
      refine ⟨(Y, b, m, c), ?_, ha, hf, hb, hm, hc⟩
      simp (maxSteps := 1000000) (discharger := omega) only [c1, Bool.false_eq_true, L_X9_bestOf_14, hn, h1, e4, er', hmay, t10, z_lit, z_nI_le, z_nI_lt, z_nI_inj, z_inb, z_nI_tn, z_nI_add, z_nI_mul, z_bitN, z_zb, z_0add, z_add0, z_0or, z_or0, Option.bind_some, decide_eq_true_eq, Nat.zero_add, Nat.add_zero, ↓reduceIte]
