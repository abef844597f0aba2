set_option linter.unusedVariables false
def zFX (X Y : TX) : Prop := (∀ k, k ≠ 3 → k ≠ 4 → k ≠ 5 → k ≠ 9 → k ≠ 10 → k ≠ 21 → k ≠ 22 → k ≠ 33 → Y k = X k) ∧ (∀ j, j ≠ 8 → j ≠ 9 → j ≠ 10 → j ≠ 11 → Y 3 j = X 3 j)
def zFM (M N : TX) : Prop := ∀ k, k ≠ 13 → k ≠ 14 → k ≠ 20 → N k = M k
theorem zFX.refl (X : TX) : zFX X X := ⟨fun _ _ _ _ _ _ _ _ _ => rfl, fun _ _ _ _ _ => rfl⟩
theorem zFX.trans {X Y Z : TX} (h : zFX X Y) (g : zFX Y Z) : zFX X Z :=
  ⟨fun k a b c d e f i j => (g.1 k a b c d e f i j).trans (h.1 k a b c d e f i j), fun j a b c d => (g.2 j a b c d).trans (h.2 j a b c d)⟩
theorem zFM.refl (M : TX) : zFM M M := fun _ _ _ _ => rfl
theorem zFM.trans {M N P : TX} (h : zFM M N) (g : zFM N P) : zFM M P := fun k a b c => (g k a b c).trans (h k a b c)
theorem zE.fx {n : Nat} {K X Y : TX} (h : zE n K X) (g : zFX X Y) : zE n K Y :=
  h.frame (g.2 5 (by decide) (by decide) (by decide) (by decide)) (g.2 6 (by decide) (by decide) (by decide) (by decide)) (g.2 7 (by decide) (by decide) (by decide) (by decide))
    fun k hk => by unfold zEk at hk; exact g.1 k (by omega) (by omega) (by omega) (by omega) (by omega) (by omega) (by omega) (by omega)
theorem zS.fm {K M N : TX} (h : zS K M) (g : zFM M N) : zS K N := h.frame (g 0 (by decide) (by decide) (by decide)) fun k hk => g k (by omega) (by omega) (by omega)
/-- a move, made -/
def zMv (s : Nat → Int32) (p d : Nat) : Nat → Int32 := upd (upd s p (nI d)) 33 (s 33 + nI 1)
theorem z2_shift {n : Nat} {K X : TX} {s : Nat → Int32} (hE : zE n K X) (hD : zD n s X) {p d : Nat} (hp : p < n) (hd : d < 4) :
    ∃ Y, f_X2_shift X (nI p) (nI d) = some (Y, nI 1) ∧ zFX X Y ∧ zD n (zMv s p d) Y := by
  have h10 := hE.n10
  obtain ⟨Z, e1, e2, hZ⟩ := z3_pl hE hD hp hd
  have z3 : Z 3 = X 3 := e2 3 (by decide) (by decide) (by decide)
  refine ⟨u2 Z 3 11 (Z 3 11 + nI 1), ?_, ⟨?_, ?_⟩, ?_⟩
  · unfold f_X2_shift; rw [e1]; rfl
  · intro k a b c d e f i j
    rw [z_u2k _ _ _ _ a]; exact e2 k b d e
  · intro j a b c d
    rw [z_u2j _ _ _ _ d, z3]
  · have t : ∀ j, j < 33 → zMv s p d j = upd s p (nI d) j := fun j hj => by unfold zMv; rw [z_updJ _ _ (by omega)]
    refine zD_head h10 hZ (fun j hj => t j (by omega)) (z_u2k _ _ _ _ (by decide)) (z_u2k _ _ _ _ (by decide)) (z_u2k _ _ _ _ (by decide)) (z_u2k _ _ _ _ (by decide)) ?_ ?_ ?_ ?_ ?_
    · rw [z_u2j _ _ _ _ (by decide), t 30 (by decide)]; exact hZ.ruler
    · rw [t 30 (by decide)]; exact hZ.rul
    · rw [z_u2j _ _ _ _ (by decide), t 31 (by decide)]; exact hZ.reign
    · rw [z_u2j _ _ _ _ (by decide), t 32 (by decide)]; exact hZ.year
    · rw [z_u2s, z3, hD.moved]; unfold zMv; rw [z_updS]
/-- a draw: the row behind it, and whether it could be -/
def zDr (K : TX) (n : Nat) (s : Nat → Int32) : (Nat → Int32) × Bool :=
  if s 30 = -nI 1 then (s, false) else match (zBest K n s (s 30)).1 with
    | none => (s, false)
    | some q => (zMv s q.1 q.2, true)
def zMo (K : TX) (n : Nat) (s : Nat → Int32) (p d : Nat) : (Nat → Int32) × Bool :=
  if zMay (K 7) s n p (nI d) = true ∧ ¬ K 0 21 < zCost K s p d then (zMv s p d, true) else (s, false)
def zbI (b : Bool) : Int32 := if b = true then nI 1 else nI 0
theorem z9_isMoved {n : Nat} {K X M : TX} {s : Nat → Int32} (hE : zE n K X) (hD : zD n s X) (hS : zS K M) (hs : M 20 = s) {p d : Nat} (hp : p < n) (hd : d < 4) :
    ∃ N, f_X9_isMoved M (nI p) (nI d) = some (N, zbI (zMo K n s p d).2) ∧ zFM M N ∧ N 20 = (zMo K n s p d).1 := by
  have h10 := hE.n10
  have hn : M 0 19 = nI n := hS.a19.trans hE.kn
  have hmay := z9_mayCome hn h10 hp (nI d)
  rw [hS.m7, hs] at hmay
  obtain ⟨Z, e1, e2⟩ := z9_costBy hE hD hS hs hp hd
  have hZ20 : Z 20 = s := (e2 20 (by decide) (by decide)).trans hs
  have hZ0 : Z 0 21 = K 0 21 := by rw [e2 0 (by decide) (by decide)]; exact hS.a21
  have h34 : p < 34 := by omega
  have h33 : (33 : Nat) < 34 := by omega
  have t10 : ¬ ((1 : Nat) = 0) := by decide
  unfold zMo
  by_cases c1 : zMay (K 7) s n p (nI d) = true
  · by_cases c2 : K 0 21 < zCost K s p d
    · have c2' : ¬ zCost K s p d ≤ K 0 21 := fun h => Int32.not_lt.2 h c2
      have c3 : ¬ (zMay (K 7) s n p (nI d) = true ∧ ¬ K 0 21 < zCost K s p d) := fun h => h.2 c2
      rw [if_neg c3]
      refine ⟨Z, ?_, fun k a b c => e2 k a b, hZ20⟩
      simp (discharger := omega) only [f_X9_isMoved, hmay, c1, e1, hZ0, c2', t10, z_lit, z_nI_le, z_nI_lt, z_nI_inj, z_inb, z_nI_tn, z_nI_add, z_nI_mul, z_bitN, z_zb, z_0add, z_add0, z_0or, z_or0, Option.bind_some, decide_eq_true_eq, Nat.zero_add, Nat.add_zero, ↓reduceIte, zbI, Bool.false_eq_true]
    · have c2' : zCost K s p d ≤ K 0 21 := Int32.not_lt.1 c2
      rw [if_pos ⟨c1, c2⟩]
      have hne : ¬ ((33 : Nat) = p) := by omega
      refine ⟨u2 (u2 Z 20 p (nI d)) 20 33 (Z 20 33 + nI 1), ?_, ?_, ?_⟩
      · simp (discharger := omega) only [f_X9_isMoved, hmay, c1, e1, hZ0, c2', t10, h34, h33, z_u2j _ _ _ _ hne, z_lit, z_nI_le, z_nI_lt, z_nI_inj, z_inb, z_nI_tn, z_nI_add, z_nI_mul, z_bitN, z_zb, z_0add, z_add0, z_0or, z_or0, Option.bind_some, decide_eq_true_eq, Nat.zero_add, Nat.add_zero, ↓reduceIte, zbI]
      · intro k a b c
        rw [z_u2k _ _ _ _ c, z_u2k _ _ _ _ c]; exact e2 k a b
      · rw [z_u2r, z_u2r, hZ20]; rfl
  · rw [if_neg fun h => c1 h.1]
    refine ⟨M, ?_, zFM.refl M, hs⟩
    simp (discharger := omega) only [f_X9_isMoved, hmay, c1, z_lit, z_nI_le, z_nI_lt, z_nI_inj, z_inb, z_nI_tn, z_nI_add, z_nI_mul, z_bitN, z_zb, z_0add, z_add0, z_0or, z_or0, Option.bind_some, decide_eq_true_eq, Nat.zero_add, Nat.add_zero, ↓reduceIte, zbI, Bool.false_eq_true]
theorem z2_move {n : Nat} {K X : TX} {s : Nat → Int32} (hE : zE n K X) (hD : zD n s X) {p d : Nat} (hp : p < n) (hd : d < 4) :
    ∃ Y, f_X2_move X (nI p) (nI d) = some (Y, zbI (zMo K n s p d).2) ∧ zFX X Y ∧ zD n (zMo K n s p d).1 Y := by
  have h10 := hE.n10
  obtain ⟨o, e1, ho⟩ := z3_open hE hD hp
  obtain ⟨Z, e2, e3⟩ := z2_priceOf hE hD hp hd
  have hfZ : zFX X Z := ⟨fun k a b c d e f i j => e3 k f i, fun j _ _ _ _ => by rw [e3 3 (by decide) (by decide)]⟩
  have hEZ := hE.fx hfZ
  have hDZ : zD n s Z := hD.frame (e3 3 (by decide) (by decide)) (e3 4 (by decide) (by decide)) (e3 5 (by decide) (by decide)) (e3 9 (by decide) (by decide)) (e3 10 (by decide) (by decide))
  obtain ⟨Y, e4, e5, e6⟩ := z2_shift hEZ hDZ hp hd
  obtain ⟨u, hu, pu, ku⟩ := hEZ.pu
  have hpu : Z 3 7 = K 0 21 := pu.trans ku.symm
  have t10 : ¬ ((1 : Nat) = 0) := by decide
  unfold zMo
  by_cases c1 : zMay (K 7) s n p (nI d) = true
  · have hb : bt o d = true := (ho d hd).trans c1
    by_cases c2 : K 0 21 < zCost K s p d
    · have c3 : ¬ (zMay (K 7) s n p (nI d) = true ∧ ¬ K 0 21 < zCost K s p d) := fun h => h.2 c2
      rw [if_neg c3]
      refine ⟨Z, ?_, hfZ, hDZ⟩
      simp (discharger := omega) only [f_X2_move, e1, z_has, hb, e2, hpu, c2, t10, z_lit, z_nI_le, z_nI_lt, z_nI_inj, z_inb, z_nI_tn, z_nI_add, z_nI_mul, z_bitN, z_zb, z_0add, z_add0, z_0or, z_or0, Option.bind_some, decide_eq_true_eq, Nat.zero_add, Nat.add_zero, ↓reduceIte, zbI, Bool.false_eq_true]
    · rw [if_pos ⟨c1, c2⟩]
      refine ⟨Y, ?_, hfZ.trans e5, e6⟩
      simp (discharger := omega) only [f_X2_move, e1, z_has, hb, e2, hpu, c2, e4, t10, z_lit, z_nI_le, z_nI_lt, z_nI_inj, z_inb, z_nI_tn, z_nI_add, z_nI_mul, z_bitN, z_zb, z_0add, z_add0, z_0or, z_or0, Option.bind_some, decide_eq_true_eq, Nat.zero_add, Nat.add_zero, ↓reduceIte, zbI]
  · have hb : ¬ bt o d = true := by rw [ho d hd]; exact c1
    rw [if_neg fun h => c1 h.1]
    refine ⟨X, ?_, zFX.refl X, hD⟩
    simp (discharger := omega) only [f_X2_move, e1, z_has, hb, z_lit, z_nI_le, z_nI_lt, z_nI_inj, z_inb, z_nI_tn, z_nI_add, z_nI_mul, z_bitN, z_zb, z_0add, z_add0, z_0or, z_or0, Option.bind_some, decide_eq_true_eq, Nat.zero_add, Nat.add_zero, ↓reduceIte, zbI, Bool.false_eq_true]
theorem z9_isDrawn {n : Nat} {K X M : TX} {s : Nat → Int32} (hE : zE n K X) (hD : zD n s X) (hS : zS K M) (hs : M 20 = s) :
    ∃ N, f_X9_isDrawn M = some (N, zbI (zDr K n s).2) ∧ zFM M N ∧ N 20 = (zDr K n s).1 := by
  have h10 := hE.n10
  have h30 : (30 : Nat) < 34 := by omega
  have t10 : ¬ ((1 : Nat) = 0) := by decide
  unfold zDr
  by_cases c1 : s 30 = -nI 1
  · rw [if_pos c1]
    refine ⟨M, ?_, zFM.refl M, hs⟩
    simp (discharger := omega) only [f_X9_isDrawn, h30, hs, c1, z_lit, z_nI_le, z_nI_lt, z_nI_inj, z_inb, z_nI_tn, z_nI_add, z_nI_mul, z_bitN, z_zb, z_0add, z_add0, z_0or, z_or0, Option.bind_some, decide_eq_true_eq, Nat.zero_add, Nat.add_zero, ↓reduceIte, zbI, Bool.false_eq_true]
  · rw [if_neg c1]
    obtain ⟨a, ha, ea⟩ : ∃ a, a < 2 ∧ s 30 = nI a := by
      rcases hD.rul with h | h | h
      · exact absurd h c1
      · exact ⟨0, by omega, h⟩
      · exact ⟨1, by omega, h⟩
    obtain ⟨Z, e1, e2, e3⟩ := z9_bestOf hE hD hS hs ha
    rw [← ea] at e1
    have hSZ : zS K Z := hS.fm e3
    cases hb : (zBest K n s (s 30)).1 with
    | none =>
      have hbn : zBn (zBest K n s (s 30)) = -nI 1 := by unfold zBn; rw [hb]; rfl
      refine ⟨Z, ?_, e3, e2⟩
      simp (discharger := omega) only [f_X9_isDrawn, h30, hs, c1, e1, hbn, z_lit, z_nI_le, z_nI_lt, z_nI_inj, z_inb, z_nI_tn, z_nI_add, z_nI_mul, z_bitN, z_zb, z_0add, z_add0, z_0or, z_or0, Option.bind_some, decide_eq_true_eq, Nat.zero_add, Nat.add_zero, ↓reduceIte, zbI, Bool.false_eq_true]
    | some q =>
      have hq := zBest_p (4 * n) (Nat.le_refl _) q hb
      have hbn : zBn (zBest K n s (s 30)) = nI (10 * q.1 + q.2) := by unfold zBn; rw [hb]
      have hne : ¬ nI (10 * q.1 + q.2) = -nI 1 := fun e => by
        have := congrArg Int32.toInt e
        rw [z_nI_toInt (by omega)] at this
        have h2 : (-nI 1 : Int32).toInt = -1 := by decide
        omega
      obtain ⟨N, f1, f2, f3⟩ := z9_isMoved hE hD hSZ e2 hq.1 hq.2.1
      have hmo : zMo K n s q.1 q.2 = (zMv s q.1 q.2, true) := by unfold zMo; rw [if_pos ⟨hq.2.2.1, hq.2.2.2.1⟩]
      rw [hmo] at f1 f3
      have e10 : nI (10 * q.1 + q.2) / nI 10 = nI q.1 := by rw [z_quo (by omega) (by omega) (by omega)]; congr 1; omega
      have er : nI (10 * q.1 + q.2) - nI (q.1 * 10) = nI q.2 := by rw [z_subN (by omega)]; congr 1; omega
      refine ⟨N, ?_, fun k a b c => (f2 k a b c).trans (e3 k a b c), f3⟩
      have f1' : f_X9_isMoved Z (nI q.1) (nI q.2) = some (N, nI 1) := f1
      simp (discharger := omega) only [f_X9_isDrawn, h30, hs, c1, e1, hbn, hne, e10, er, f1', t10, z_lit, z_nI_le, z_nI_lt, z_nI_inj, z_inb, z_nI_tn, z_nI_add, z_nI_mul, z_bitN, z_zb, z_0add, z_add0, z_0or, z_or0, Option.bind_some, decide_eq_true_eq, Nat.zero_add, Nat.add_zero, ↓reduceIte, zbI]
theorem z2_redraw {n : Nat} {K X : TX} {s : Nat → Int32} (hE : zE n K X) (hD : zD n s X) :
    ∃ Y, f_X2_redraw X = some (Y, zbI (zDr K n s).2) ∧ zFX X Y ∧ zD n (zDr K n s).1 Y := by
  have h10 := hE.n10
  have t10 : ¬ ((1 : Nat) = 0) := by decide
  have hru : X 3 9 = s 30 := hD.ruler
  unfold zDr
  by_cases c1 : s 30 = -nI 1
  · rw [if_pos c1]
    refine ⟨X, ?_, zFX.refl X, hD⟩
    simp (discharger := omega) only [f_X2_redraw, hru, c1, z_lit, z_nI_le, z_nI_lt, z_nI_inj, z_inb, z_nI_tn, z_nI_add, z_nI_mul, z_bitN, z_zb, z_0add, z_add0, z_0or, z_or0, Option.bind_some, decide_eq_true_eq, Nat.zero_add, Nat.add_zero, ↓reduceIte, zbI, Bool.false_eq_true]
  · rw [if_neg c1]
    obtain ⟨Z, e1, e2, e3⟩ := z2_choose hE hD (s 30)
    have hfZ : zFX X Z := ⟨fun k a b c d e f i j => e2 k f i j, fun j _ _ _ _ => by rw [e2 3 (by decide) (by decide) (by decide)]⟩
    have hEZ := hE.fx hfZ
    have hDZ : zD n s Z := hD.frame (e2 3 (by decide) (by decide) (by decide)) (e2 4 (by decide) (by decide) (by decide)) (e2 5 (by decide) (by decide) (by decide)) (e2 9 (by decide) (by decide) (by decide)) (e2 10 (by decide) (by decide) (by decide))
    cases hb : (zBest K n s (s 30)).1 with
    | none =>
      rw [if_pos hb] at e1
      refine ⟨Z, ?_, hfZ, hDZ⟩
      simp (discharger := omega) only [f_X2_redraw, hru, c1, e1, z_lit, z_nI_le, z_nI_lt, z_nI_inj, z_inb, z_nI_tn, z_nI_add, z_nI_mul, z_bitN, z_zb, z_0add, z_add0, z_0or, z_or0, Option.bind_some, decide_eq_true_eq, Nat.zero_add, Nat.add_zero, ↓reduceIte, zbI, Bool.false_eq_true]
    | some q =>
      have hq := zBest_p (4 * n) (Nat.le_refl _) q hb
      rw [if_neg (by rw [hb]; exact fun h => nomatch h)] at e1
      have hk : Z 33 2 = nI q.1 ∧ Z 33 3 = nI q.2 := by
        have := e3.2; rw [hb] at this; exact this
      obtain ⟨Y, f1, f2, f3⟩ := z2_shift hEZ hDZ hq.1 hq.2.1
      refine ⟨Y, ?_, hfZ.trans f2, f3⟩
      simp (discharger := omega) only [f_X2_redraw, hru, c1, e1, hk.1, hk.2, f1, t10, z_lit, z_nI_le, z_nI_lt, z_nI_inj, z_inb, z_nI_tn, z_nI_add, z_nI_mul, z_bitN, z_zb, z_0add, z_add0, z_0or, z_or0, Option.bind_some, decide_eq_true_eq, Nat.zero_add, Nat.add_zero, ↓reduceIte, zbI]
/-- a count -/
def zRc (s : Nat → Int32) (p a b : Nat) : (Nat → Int32) × Bool :=
  if s (10 + p) = nI a ∧ s (20 + p) = nI b then (s, false) else (upd (upd s (10 + p) (nI a)) (20 + p) (nI b), true)
theorem z3_recount {n : Nat} {K X : TX} {s : Nat → Int32} (hE : zE n K X) (hD : zD n s X) {p a b : Nat} (hp : p < n) (ha : a ≤ 99) (hb : b ≤ 99) :
    ∃ Y, f_X2_recountParish X (nI p) (nI a) (nI b) = some (Y, zbI (zRc s p a b).2) ∧ zFX X Y ∧ zD n (zRc s p a b).1 Y := by
  have h10 := hE.n10
  have v0 : f_X3_votesOf X (nI 0) (nI p) = some (s (10 + p)) := by
    rw [z3_votesOf (by omega) (by omega), hD.v _ (by omega)]; congr 2; omega
  have v1 : f_X3_votesOf X (nI 1) (nI p) = some (s (20 + p)) := by
    rw [z3_votesOf (by omega) (by omega), hD.v _ (by omega)]; congr 2; omega
  have p5 : ∀ (Z : TX) j v, j < 20 → f_X8_put 5 Z (nI j) v = some (u2 Z 5 j v) := fun Z j v hj => z_put (show j < lenX 5 from hj) (by decide)
  have a11 : (nI 1 &&& nI 1) = nI 1 := by decide
  have a00 : (nI 0 &&& nI 1) = nI 0 := by decide
  obtain ⟨Y, e1, e2, e3⟩ := z3_tally (X := u2 (u2 X 5 p (nI a)) 5 (10 + p) (nI b)) (n := n) (by rw [z_u2k _ _ _ _ (by decide), z_u2k _ _ _ _ (by decide)]; exact hE.xn) h10 (by rw [z_u2k _ _ _ _ (by decide), z_u2k _ _ _ _ (by decide)]; exact hD.xws h10)
  have hrow : ∀ j, (j < 10 ∨ 30 ≤ j) → upd (upd s (10 + p) (nI a)) (20 + p) (nI b) j = s j := fun j hj => by rw [z_updJ _ _ (by omega), z_updJ _ _ (by omega)]
  have hYk : ∀ k, k ≠ 5 → k ≠ 9 → k ≠ 10 → Y k = X k := fun k h5 h9 hx => by rw [e2 k h9 hx, z_u2k _ _ _ _ h5, z_u2k _ _ _ _ h5]
  have hY5 : Y 5 = upd (upd (X 5) p (nI a)) (10 + p) (nI b) := by rw [e2 5 (by decide) (by decide), z_u2r, z_u2r]
  have hDY : zD n (upd (upd s (10 + p) (nI a)) (20 + p) (nI b)) Y := by
    refine zD_of h10 hD hrow ?_ (hYk 3 (by decide) (by decide) (by decide)) (hYk 4 (by decide) (by decide) (by decide)) ?_ ?_
    · intro q hq
      by_cases h : q = p
      · subst h
        exact ⟨a, b, by rw [z_updJ _ _ (by omega), z_updS], z_updS _ _ _, by omega⟩
      · obtain ⟨x, y, g1, g2, g3⟩ := hD.vb q hq
        exact ⟨x, y, by rw [z_updJ _ _ (by omega), z_updJ _ _ (by omega), g1], by rw [z_updJ _ _ (by omega), z_updJ _ _ (by omega), g2], g3⟩
    · intro q hq
      rw [hY5]
      by_cases h1 : q = 10 + p
      · subst h1; rw [z_updS, show 10 + (10 + p) = 20 + p by omega, z_updS]
      · rw [z_updJ _ _ h1, z_updJ _ _ (show 10 + q ≠ 20 + p by omega)]
        by_cases h2 : q = p
        · subst h2; rw [z_updS, z_updS]
        · rw [z_updJ _ _ h2, z_updJ _ _ (show 10 + q ≠ 10 + p by omega), hD.v q hq]
    · have h4 : Y 4 = (u2 (u2 X 5 p (nI a)) 5 (10 + p) (nI b)) 4 := e2 4 (by decide) (by decide)
      have h5 : Y 5 = (u2 (u2 X 5 p (nI a)) 5 (10 + p) (nI b)) 5 := e2 5 (by decide) (by decide)
      rw [h4, h5]; exact e3
  have hfY : zFX X Y := ⟨fun k a b c d e f i j => hYk k c d e, fun j _ _ _ _ => by rw [hYk 3 (by decide) (by decide) (by decide)]⟩
  unfold zRc
  by_cases c1 : s (10 + p) = nI a
  · by_cases c2 : s (20 + p) = nI b
    · rw [if_pos ⟨c1, c2⟩]
      refine ⟨X, ?_, zFX.refl X, hD⟩
      have t10 : ¬ ((1 : Nat) = 0) := by decide
      unfold f_X2_recountParish f_X3_recountParish
      simp only [z_lit, v0, v1, Option.bind_some, c1, c2, ↓reduceIte, zbI, Bool.false_eq_true, a00]
    · rw [if_neg fun h => c2 h.2]
      refine ⟨Y, ?_, hfY, hDY⟩
      unfold f_X2_recountParish f_X3_recountParish
      simp (discharger := omega) only [z_lit, z_nI_add, v0, v1, Option.bind_some, c1, c2, p5, e1, ↓reduceIte, zbI, a11]
  · rw [if_neg fun h => c1 h.1]
    refine ⟨Y, ?_, hfY, hDY⟩
    unfold f_X2_recountParish f_X3_recountParish
    simp (discharger := omega) only [z_lit, z_nI_add, v0, v1, Option.bind_some, c1, p5, e1, ↓reduceIte, zbI, a11]
