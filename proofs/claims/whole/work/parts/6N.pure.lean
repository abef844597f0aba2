set_option linter.unusedVariables false
theorem zCode_h {a b f : Int32} {h h' : Nat} (c : zCode a b f h h') : h' ≤ h + 1 := by
  rcases c with ⟨v, _, _, _, _, e⟩ | ⟨v, _, _, _, _, e⟩ | ⟨o, _, _, _, _, _, e⟩ <;> omega
theorem z_clamp (v : Int32) : (if 0 ≤ v then (if v ≤ 60 then v else 60) else 0) = (if 0 < (if v < 60 then v else 60) then (if v < 60 then v else 60) else (0 : Int32)) := by
  have e0 : (0 : Int32).toInt = 0 := by decide
  have e6 : (60 : Int32).toInt = 60 := by decide
  by_cases h1 : 0 ≤ v
  · rw [if_pos h1]
    by_cases h2 : v < 60
    · rw [if_pos h2, if_pos (Int32.le_of_lt h2)]
      by_cases h3 : 0 < v
      · rw [if_pos h3]
      · rw [if_neg h3]; exact Int32.le_antisymm (Int32.not_lt.1 h3) h1
    · rw [if_neg h2]
      rw [if_pos (show (0 : Int32) < 60 by decide)]
      by_cases h3 : v ≤ 60
      · rw [if_pos h3]; exact Int32.le_antisymm h3 (Int32.not_lt.1 h2)
      · rw [if_neg h3]
  · rw [if_neg h1]
    have h2 : v < 60 := by rw [Int32.lt_iff_toInt_lt, e6]; rw [Int32.le_iff_toInt_le, e0] at h1; omega
    have h3 : ¬ 0 < v := fun h => h1 (Int32.le_of_lt h)
    rw [if_pos h2, if_neg h3]
theorem z_price {X M : TX} (hL : zL X M) (hf : ∀ j, j < 8 → X 22 j = M 14 j) :
    ∃ X' M' v, f_X4_price X = some (X', v) ∧ f_X9_costNow M = some (M', v) ∧ (∀ a, a ≠ 21 → X' a = X a) ∧ (∀ a, a ≠ 13 → M' a = M a) := by
  obtain ⟨m, hm, hX, hM, h, h0, h1, hc⟩ := hL
  by_cases e : m = 0
  · subst e
    refine ⟨X, M, 1, ?_, ?_, fun _ _ => rfl, fun _ _ => rfl⟩
    · unfold f_X4_price; rw [hX]; exact if_pos rfl
    · unfold f_X9_costNow; rw [hM]; exact if_pos rfl
  · have h1 : 1 ≤ h m := h1.resolve_left e
    have hh : ∀ i, i ≤ m → h i ≤ i := fun i => by
      induction i with
      | zero => intro _; omega
      | succ i ih => intro hi; have := zCode_h (hc i (by omega)); have := ih (by omega); omega
    obtain ⟨X', M', v, e1, e2, e3, e4⟩ := z_pay hm h0 h1 m 0 FU FU X M (by omega) (by unfold FU; omega) (by unfold FU; omega) hX hM hc hf hh (fun j hj => by omega)
    rw [h0] at e1 e2
    have hz : ¬ (nI m = 0) := fun e' => e ((z_nI_inj (by omega) (by omega)).1 e')
    refine ⟨X', M', (if 0 < (if v < 60 then v else 60) then (if v < 60 then v else 60) else 0), ?_, ?_, e3, e4⟩
    · unfold f_X4_price; rw [hX, if_neg hz]; exact e1
    · unfold f_X9_costNow f_X9_valueNow; rw [hM, if_neg hz]
      have e2' : L_X9_valueNow_4 FU M 0 0 = some (M', v) := e2
      rw [e2', Option.bind_some, ← z_clamp]
      by_cases c1 : 0 ≤ v <;> by_cases c2 : v ≤ 60 <;> simp [c1, c2]
/-- the store K with the row s -/
def zKs (K : TX) (s : Nat → Int32) : TX := fun k => if k = 20 then s else K k
theorem zS_Ks (K : TX) (s : Nat → Int32) : zS K (zKs K s) := zS.mk rfl rfl rfl rfl rfl rfl rfl rfl
theorem zKs_20 (K : TX) (s : Nat → Int32) : zKs K s 20 = s := rfl
/-- the cost of a move by the law, in the row s -/
def zCost (K : TX) (s : Nat → Int32) (p d : Nat) : Int32 := ((f_X9_costBy (zKs K s) (nI p) (nI d)).map Prod.snd).getD 0
def zF8 (Y : TX) (k : Nat) (a0 a1 a2 a3 a4 a5 a6 a7 : Int32) : TX := u2 (u2 (u2 (u2 (u2 (u2 (u2 (u2 Y k 0 a0) k 1 a1) k 2 a2) k 3 a3) k 4 a4) k 5 a5) k 6 a6) k 7 a7
theorem zF8_k (Y : TX) (k : Nat) (a0 a1 a2 a3 a4 a5 a6 a7 : Int32) {b : Nat} (h : b ≠ k) : zF8 Y k a0 a1 a2 a3 a4 a5 a6 a7 b = Y b := by
  unfold zF8; simp only [z_u2k _ _ _ _ h]
theorem zF8_eq (Y Z : TX) (k l : Nat) (a0 a1 a2 a3 a4 a5 a6 a7 : Int32) (j : Nat) (hj : j < 8) : zF8 Y k a0 a1 a2 a3 a4 a5 a6 a7 k j = zF8 Z l a0 a1 a2 a3 a4 a5 a6 a7 l j := by
  have : j = 0 ∨ j = 1 ∨ j = 2 ∨ j = 3 ∨ j = 4 ∨ j = 5 ∨ j = 6 ∨ j = 7 := by omega
  unfold zF8
  rcases this with rfl | rfl | rfl | rfl | rfl | rfl | rfl | rfl <;> simp [z_u2]
theorem zL_frame {X M Y N : TX} (h : zL X M) (h19 : Y 19 = X 19) (h20 : Y 20 = X 20) (h0 : N 0 = M 0) (h11 : N 11 = M 11) (h12 : N 12 = M 12) : zL Y N := by
  unfold zL at *; rw [h19, h20, h0, h11, h12]; exact h
/-- the facts of a price, in the row s -/
def zFa (K : TX) (n : Nat) (s : Nat → Int32) (p d : Nat) (Y : TX) (k : Nat) : TX :=
  zF8 Y k (s (10 + p) + s (20 + p)) (if s 30 = nI 1 then s (20 + p) - s (10 + p) else s (10 + p) - s (20 + p)) (nI (zCnt 10 (zSet n s (s p)))) (nI (zCnt 10 (zSet n s (nI d)))) (nI (zLines (K 7) s n)) (s 31) (s 32) (nI p)
theorem zSet_10 {n : Nat} (h : n ≤ 10) (w : Nat → Int32) (d : Int32) (q : Nat) (hq : bt (zSet n w d) q = true) : q < 10 := by
  rw [bt_zSet (by omega)] at hq
  simp at hq; omega
theorem z2_price0 {n : Nat} {K X : TX} {s : Nat → Int32} (hE : zE n K X) (hD : zD n s X) {p d : Nat} (hp : p < n) (hd : d < 4) :
    f_X2_priceOf X (nI p) (nI d) = (f_X4_price (zFa K n s p d X 22)).bind fun q => some (q.1, q.2) := by
  have h10 := hE.n10
  obtain ⟨c, hc, hwp⟩ := hD.xw p hp
  have p22 : ∀ (Y : TX) j v, j < 8 → f_X8_put 22 Y (nI j) v = some (u2 Y 22 j v) := fun Y j v hj => z_put (show j < lenX 22 from hj) (by decide)
  have z22 : ∀ (Y : TX) j v a, a ≠ 22 → u2 Y 22 j v a = Y a := fun Y j v a ha => z_u2k _ _ _ _ ha
  have v0 : f_X3_votesOf X (nI 0) (nI p) = some (s (10 + p)) := by
    rw [z3_votesOf (by omega) (by omega), hD.v _ (by omega)]; congr 2; omega
  have v1 : f_X3_votesOf X (nI 1) (nI p) = some (s (20 + p)) := by
    rw [z3_votesOf (by omega) (by omega), hD.v _ (by omega)]; congr 2; omega
  have a4 : ∀ Y : TX, f_X8_at 4 Y (nI p) = some (Y 4 p) := fun Y => z_at (show p < lenX 4 by show p < 10; omega) (by decide)
  have h4 : X 4 p = nI c := by rw [hD.w p (by omega), hwp]
  have a9 : ∀ (Y : TX) e, e < 4 → f_X8_at 9 Y (nI e) = some (Y 9 e) := fun Y e he => z_at (show e < lenX 9 from he) (by decide)
  have h9 : ∀ e, e < 4 → X 9 e = zSet n s (nI e) := hD.set
  have hb : ∀ e, f_J6_bitCount_0f7a4 (zSet n s (nI e)) = some (nI (zCnt 10 (zSet n s (nI e)))) := fun e => z_bc (zSet_10 h10 s _)
  have hl : ∀ a b e f, f_X3_lines (u2 (u2 (u2 (u2 X 22 0 a) 22 1 b) 22 2 e) 22 3 f) = some (nI (zLines (K 7) s n)) := fun a b e f => by
    refine zLinesX (hE.frame' ?_ fun k hk => ?_) (hD.frame ?_ ?_ ?_ ?_ ?_)
    all_goals first | (rw [z22, z22, z22, z22] <;> decide) | (unfold zEk at hk; rw [z22, z22, z22, z22] <;> omega)
  have hru : X 3 9 = s 30 := hD.ruler
  have hre : X 3 10 = s 31 := hD.reign
  have hye : X 3 8 = s 32 := hD.year
  have main : ∀ a, B_X2_priceOf_60 (u2 X 22 0 (s (10 + p) + s (20 + p))) (nI p) (nI d) a (nI 1) = (f_X4_price (zF8 X 22 (s (10 + p) + s (20 + p)) a (nI (zCnt 10 (zSet n s (s p)))) (nI (zCnt 10 (zSet n s (nI d)))) (nI (zLines (K 7) s n)) (s 31) (s 32) (nI p))).bind fun q => some (q.1, q.2) := fun a => by
    have tl : ∀ (Y : TX) j v, j < 8 → f_X4_tell Y (nI j) v = some (u2 Y 22 j v) := fun Y j v hj => by unfold f_X4_tell; rw [p22 Y j v hj]; rfl
    have t2 : ∀ (Y : TX) v, f_X4_tell Y (2 : Int32) v = some (u2 Y 22 2 v) := fun Y v => tl Y 2 v (by decide)
    have t3 : ∀ (Y : TX) v, f_X4_tell Y (3 : Int32) v = some (u2 Y 22 3 v) := fun Y v => tl Y 3 v (by decide)
    have t4 : ∀ (Y : TX) v, f_X4_tell Y (4 : Int32) v = some (u2 Y 22 4 v) := fun Y v => tl Y 4 v (by decide)
    have t5 : ∀ (Y : TX) v, f_X4_tell Y (5 : Int32) v = some (u2 Y 22 5 v) := fun Y v => tl Y 5 v (by decide)
    have t6 : ∀ (Y : TX) v, f_X4_tell Y (6 : Int32) v = some (u2 Y 22 6 v) := fun Y v => tl Y 6 v (by decide)
    have t7 : ∀ (Y : TX) v, f_X4_tell Y (7 : Int32) v = some (u2 Y 22 7 v) := fun Y v => tl Y 7 v (by decide)
    have w1 : ∀ Y : TX, Y 4 = X 4 → f_X3_wardOf Y (nI p) = some (nI c) := fun Y hY => by unfold f_X3_wardOf; rw [a4, hY, h4]; rfl
    have m1 : ∀ (Y : TX) e, e < 4 → Y 9 = X 9 → f_X3_membersOf Y (nI e) = some (zSet n s (nI e)) := fun Y e he hY => by unfold f_X3_membersOf; rw [a9 Y e he, hY, h9 e he]; rfl
    unfold B_X2_priceOf_60
    rw [tl _ 1 _ (by decide), Option.bind_some, w1 _ (by rw [z22, z22] <;> decide), Option.bind_some, m1 _ c hc (by rw [z22, z22] <;> decide), Option.bind_some, hb c, Option.bind_some, t2, Option.bind_some, m1 _ d hd (by rw [z22, z22, z22] <;> decide), Option.bind_some, hb d, Option.bind_some, t3, Option.bind_some, hl, Option.bind_some, t4, Option.bind_some, t5, Option.bind_some, t6, Option.bind_some, t7, Option.bind_some]
    have z3 : ∀ (Y : TX) j v, u2 Y 22 j v 3 = Y 3 := fun Y j v => z22 Y j v 3 (by decide)
    simp only [z3]
    rw [hre, hye, hwp]
    rfl
  unfold f_X2_priceOf
  simp (discharger := omega) only [z_lit, z_nI_le, z_nI_lt, z_nI_inj, z_inb, z_nI_tn, z_nI_add, z_nI_mul, z_bitN, z_zb, z_0add, z_add0, z_0or, z_or0, Option.bind_some, decide_eq_true_eq, Nat.zero_add, Nat.add_zero, v0, v1, f_X4_tell, p22, z22, hru]
  by_cases h : s 30 = nI 1
  · rw [if_pos h]; refine (main _).trans ?_; unfold zFa; rw [if_pos h]
  · rw [if_neg h]; refine (main _).trans ?_; unfold zFa; rw [if_neg h]
theorem z9_costOf (M : TX) (x1 x2 x3 x4 x5 x6 x7 x8 : Int32) : f_X9_costOf M x1 x2 x3 x4 x5 x6 x7 x8 = (f_X9_costNow (zF8 M 14 x1 x2 x3 x4 x5 x6 x7 x8)).bind fun q => some (q.1, q.2) := by
  unfold f_X9_costOf zF8; rfl
theorem z9_cost0 {n : Nat} {K M : TX} (h10 : n ≤ 10) (hK : K 0 19 = nI n) (hS : zS K M) {s : Nat → Int32} (hs : M 20 = s) {p d : Nat} (hp : p < n) :
    f_X9_costBy M (nI p) (nI d) = (f_X9_costNow (zFa K n s p d M 14)).bind fun q => some (q.1, q.2) := by
  have hn : M 0 19 = nI n := hS.a19.trans hK
  subst hs
  have v0 : f_X9_votesOf M (nI p) (nI 0) = some (M 20 (10 + p)) := z9_votesOf (s := 0) (by omega) (by omega)
  have v1 : f_X9_votesOf M (nI p) (nI 1) = some (M 20 (20 + p)) := z9_votesOf (s := 1) (by omega) (by omega)
  have e1 : nI 1 - nI 0 = nI 1 := by decide
  have e2 : nI 1 - nI 1 = nI 0 := by decide
  have h3 : p < 34 := by omega
  unfold f_X9_costBy
  have main : ∀ t a, (f_X9_votesOf M (nI p) t).bind (fun x => (f_X9_votesOf M (nI p) (nI 1 - t)).bind fun y => some (x - y)) = some a → B_X9_costBy_16 M (nI p) (nI d) t = (f_X9_costNow (zF8 M 14 (M 20 (10 + p) + M 20 (20 + p)) a (nI (zCnt 10 (zSet n (M 20) (M 20 p)))) (nI (zCnt 10 (zSet n (M 20) (nI d)))) (nI (zLines (K 7) (M 20) n)) (M 20 31) (M 20 32) (nI p))).bind fun q => some (q.1, q.2) := fun t a ha => by
    obtain ⟨x, hx, ha⟩ := Option.bind_eq_some_iff.1 ha
    obtain ⟨y, hy, ha⟩ := Option.bind_eq_some_iff.1 ha
    cases ha
    simp (discharger := omega) only [B_X9_costBy_16, z9_costOf, z_lit, z_nI_le, z_nI_lt, z_nI_inj, z_inb, z_nI_tn, z_nI_add, z_nI_mul, z_bitN, z_zb, z_0add, z_add0, z_0or, z_or0, Option.bind_some, decide_eq_true_eq, Nat.zero_add, Nat.add_zero, v0, v1, hx, hy, h3, if_true, z9_setOf hn h10, z9_ones, z9_linesNow hn h10, hS.m7]
    generalize f_X9_costNow _ = o
    cases o <;> rfl
  have h4 : (30 : Nat) < 34 := by omega
  simp (discharger := omega) only [z_lit, z_nI_le, z_nI_lt, z_nI_inj, z_inb, z_nI_tn, z_nI_add, z_nI_mul, z_bitN, z_zb, z_0add, z_add0, z_0or, z_or0, Option.bind_some, decide_eq_true_eq, Nat.zero_add, Nat.add_zero, h4, if_true]
  by_cases h : M 20 30 = nI 1
  · rw [if_pos h]
    refine (main _ (M 20 (20 + p) - M 20 (10 + p)) (by rw [v1, e2, Option.bind_some, v0]; rfl)).trans ?_
    unfold zFa; rw [if_pos h]
  · rw [if_neg h]
    refine (main _ (M 20 (10 + p) - M 20 (20 + p)) (by rw [v0, e1, Option.bind_some, v1]; rfl)).trans ?_
    unfold zFa; rw [if_neg h]
theorem z_cost {n : Nat} {K X M : TX} {s : Nat → Int32} (hE : zE n K X) (hD : zD n s X) (hS : zS K M) (hs : M 20 = s) {p d : Nat} (hp : p < n) (hd : d < 4) :
    ∃ X' M' v, f_X2_priceOf X (nI p) (nI d) = some (X', v) ∧ f_X9_costBy M (nI p) (nI d) = some (M', v) ∧ (∀ k, k ≠ 21 → k ≠ 22 → X' k = X k) ∧ (∀ k, k ≠ 13 → k ≠ 14 → M' k = M k) := by
  rw [z2_price0 hE hD hp hd, z9_cost0 hE.n10 hE.kn hS hs hp]
  have e : ∀ j, j < 8 → zFa K n s p d X 22 22 j = zFa K n s p d M 14 14 j := fun j hj => zF8_eq _ _ _ _ _ _ _ _ _ _ _ _ j hj
  obtain ⟨X', M', v, e1, e2, e3, e4⟩ := z_price (X := zFa K n s p d X 22) (M := zFa K n s p d M 14) (by
    have := hE.law
    have : zL X M := by
      unfold zL at *; rw [hS.a28, hS.m11, hS.m12]; exact this
    exact zL_frame this (zF8_k _ _ _ _ _ _ _ _ _ _ (by decide)) (zF8_k _ _ _ _ _ _ _ _ _ _ (by decide)) (zF8_k _ _ _ _ _ _ _ _ _ _ (by decide)) (zF8_k _ _ _ _ _ _ _ _ _ _ (by decide)) (zF8_k _ _ _ _ _ _ _ _ _ _ (by decide))) e
  refine ⟨X', M', v, by rw [e1]; rfl, by rw [e2]; rfl, fun k h1 h2 => (e3 k h1).trans (zF8_k _ _ _ _ _ _ _ _ _ _ h2), fun k h1 h2 => (e4 k h1).trans (zF8_k _ _ _ _ _ _ _ _ _ _ h2)⟩
theorem z2_priceOf {n : Nat} {K X : TX} {s : Nat → Int32} (hE : zE n K X) (hD : zD n s X) {p d : Nat} (hp : p < n) (hd : d < 4) :
    ∃ X', f_X2_priceOf X (nI p) (nI d) = some (X', zCost K s p d) ∧ (∀ k, k ≠ 21 → k ≠ 22 → X' k = X k) := by
  obtain ⟨X', M', v, e1, e2, e3, e4⟩ := z_cost hE hD (zS_Ks K s) rfl hp hd
  have : zCost K s p d = v := by unfold zCost; rw [e2]; rfl
  exact ⟨X', by rw [this]; exact e1, e3⟩
theorem z9_costBy {n : Nat} {K X M : TX} {s : Nat → Int32} (hE : zE n K X) (hD : zD n s X) (hS : zS K M) (hs : M 20 = s) {p d : Nat} (hp : p < n) (hd : d < 4) :
    ∃ M', f_X9_costBy M (nI p) (nI d) = some (M', zCost K s p d) ∧ (∀ k, k ≠ 13 → k ≠ 14 → M' k = M k) := by
  obtain ⟨X', M', v, e1, e2, e3, e4⟩ := z_cost hE hD hS hs hp hd
  obtain ⟨Y, e5, _⟩ := z2_priceOf hE hD hp hd
  rw [e5] at e1
  cases e1
  exact ⟨M', e2, e4⟩
