set_option linter.unusedVariables false
def zBy (e : Nat) (x : Int32) : Int32 := (x >>> (nI (24 - 8 * e) &&& 31)) &&& 255
theorem z7_add {X : TX} {t : Nat} (ht : X 1 1 = nI t) (h600 : t + 4 ≤ 600) (x : Int32) : ∃ Y, f_X7_add X x = some Y ∧ Y 1 1 = nI (t + 4) ∧ (∀ k, k ≠ 1 → k ≠ 2 → Y k = X k) ∧ (∀ j, j ≠ 1 → Y 1 j = X 1 j) ∧ (∀ e, e < 4 → Y 2 (t + e) = zBy e x) ∧ (∀ j, j < t → Y 2 j = X 2 j) := by
  have p2 : ∀ (Z : TX) j v, j < 600 → f_X8_put 2 Z (nI j) v = some (u2 Z 2 j v) := fun Z j v hj => z_put (show j < lenX 2 from hj) (by decide)
  have step : ∀ f (Z : TX) (s : Nat) (e : Nat), e < 4 → s < 600 → Z 1 1 = nI s → L_X7_add_3 (f + 1) Z x (nI (24 - 8 * e)) = L_X7_add_3 f (u2 (u2 Z 2 s (zBy e x)) 1 1 (nI (s + 1))) x (nI (24 - 8 * e) + (-8 : Int32)) := fun f Z s e he hs hz => by
    have c : ¬ nI (24 - 8 * e) < 0 := z_nI_nn (by omega)
    have eq : L_X7_add_3 (f + 1) Z x (nI (24 - 8 * e)) = if nI (24 - 8 * e) < 0 then (some Z) else ((f_X8_put 2 Z (Z 1 1) (zLsr x (nI (24 - 8 * e)) &&& (255 : Int32))).bind fun q2 => (L_X7_add_3 f) (u2 q2 1 1 ((q2 1 1) + (1 : Int32))) x (nI (24 - 8 * e) + (-8 : Int32))) := rfl
    have sh : (zLsr x (nI (24 - 8 * e)) &&& (255 : Int32)) = zBy e x := z_shift255 x (by omega)
    rw [eq, if_neg c, sh, hz, p2 Z s _ hs, Option.bind_some, z_u2k _ _ _ _ (show (1 : Nat) ≠ 2 by decide), hz, show nI s + (1 : Int32) = nI (s + 1) from z_nI_succ s]
  have d1 : nI 24 + (-8 : Int32) = nI (24 - 8 * 1) := by decide
  have d2 : nI (24 - 8 * 1) + (-8 : Int32) = nI (24 - 8 * 2) := by decide
  have d3 : nI (24 - 8 * 2) + (-8 : Int32) = nI (24 - 8 * 3) := by decide
  have d4 : nI (24 - 8 * 3) + (-8 : Int32) < 0 := by decide
  have last : ∀ f (Z : TX), L_X7_add_3 (f + 1) Z x (nI (24 - 8 * 3) + (-8 : Int32)) = some Z := fun f Z => by
    simp only [L_X7_add_3, d4, ↓reduceIte]
  obtain ⟨A, hA⟩ : ∃ A, A = u2 (u2 X 2 t (zBy 0 x)) 1 1 (nI (t + 1)) := ⟨_, rfl⟩
  obtain ⟨B, hB⟩ : ∃ B, B = u2 (u2 A 2 (t + 1) (zBy 1 x)) 1 1 (nI (t + 1 + 1)) := ⟨_, rfl⟩
  obtain ⟨C, hC⟩ : ∃ C, C = u2 (u2 B 2 (t + 1 + 1) (zBy 2 x)) 1 1 (nI (t + 1 + 1 + 1)) := ⟨_, rfl⟩
  obtain ⟨D, hD⟩ : ∃ D, D = u2 (u2 C 2 (t + 1 + 1 + 1) (zBy 3 x)) 1 1 (nI (t + 1 + 1 + 1 + 1)) := ⟨_, rfl⟩
  have fr : ∀ (Z W : TX) (s : Nat) (v w : Int32), W = u2 (u2 Z 2 s v) 1 1 w → (∀ k, k ≠ 1 → k ≠ 2 → W k = Z k) ∧ (∀ j, j ≠ 1 → W 1 j = Z 1 j) ∧ W 1 1 = w ∧ W 2 s = v ∧ ∀ j, j ≠ s → W 2 j = Z 2 j := fun Z W s v w h => by
    subst h
    exact ⟨fun k a b => by rw [z_u2k _ _ _ _ a, z_u2k _ _ _ _ b], fun j a => by rw [z_u2j _ _ _ _ a, z_u2k _ _ _ _ (by decide)], z_u2s _ _ _ _, by rw [z_u2k _ _ _ _ (by decide), z_u2s], fun j a => by rw [z_u2k _ _ _ _ (by decide), z_u2j _ _ _ _ a]⟩
  obtain ⟨a1, a2, a3, a4, a5⟩ := fr _ _ _ _ _ hA
  obtain ⟨b1, b2, b3, b4, b5⟩ := fr _ _ _ _ _ hB
  obtain ⟨c1, c2, c3, c4, c5⟩ := fr _ _ _ _ _ hC
  obtain ⟨e1, e2, e3, e4, e5⟩ := fr _ _ _ _ _ hD
  refine ⟨D, ?_, e3, fun k x y => by rw [e1 k x y, c1 k x y, b1 k x y, a1 k x y], fun j x => by rw [e2 j x, c2 j x, b2 j x, a2 j x], fun e he => ?_, fun j hj => by rw [e5 j (by omega), c5 j (by omega), b5 j (by omega), a5 j (by omega)]⟩
  · show L_X7_add_3 (1019 + 5) X x (nI (24 - 8 * 0)) = _
    rw [step _ X t 0 (by omega) (by omega) ht, ← hA]
    show L_X7_add_3 (1019 + 4) A x (nI 24 + (-8 : Int32)) = _
    rw [d1, step _ A (t + 1) 1 (by omega) (by omega) a3, ← hB, d2, step _ B (t + 1 + 1) 2 (by omega) (by omega) b3, ← hC, d3, step _ C (t + 1 + 1 + 1) 3 (by omega) (by omega) c3, ← hD, last]
  · have h : e = 0 ∨ e = 1 ∨ e = 2 ∨ e = 3 := by omega
    rcases h with rfl | rfl | rfl | rfl
    · rw [e5 _ (by omega), c5 _ (by omega), b5 _ (by omega)]; exact a4
    · rw [e5 _ (by omega), c5 _ (by omega)]; exact b4
    · rw [e5 _ (by omega)]; exact c4
    · exact e4
/-- the five numbers fed -/
def zNb (x1 x2 x3 x4 x5 : Int32) (i : Nat) : Int32 := if i = 0 then x1 else if i = 1 then x2 else if i = 2 then x3 else if i = 3 then x4 else x5
theorem z9_feedL {M : TX} {t : Nat} (ht : M 0 2 = nI t) (h600 : t + 20 ≤ 600) (x1 x2 x3 x4 x5 : Int32) :
    ∃ N, L_X9_feed_23 FU M x1 x2 x3 x4 x5 (nI 0) = some (N, nI (t + 20)) ∧ N 0 2 = nI (t + 20) ∧ (∀ k, k ≠ 0 → k ≠ 2 → N k = M k) ∧ (∀ j, j ≠ 2 → N 0 j = M 0 j) ∧ (∀ e, e < 20 → N 2 (t + e) = zBy (e % 4) (zNb x1 x2 x3 x4 x5 (e / 4))) ∧ (∀ j, j < t → N 2 j = M 2 j) := by
  have h := z_loopE (fun f i N => L_X9_feed_23 f N x1 x2 x3 x4 x5 i) (fun i N => N 0 2 = nI (t + i) ∧ (∀ k, k ≠ 0 → k ≠ 2 → N k = M k) ∧ (∀ j, j ≠ 2 → N 0 j = M 0 j) ∧ (∀ e, e < i → N 2 (t + e) = zBy (e % 4) (zNb x1 x2 x3 x4 x5 (e / 4))) ∧ (∀ j, j < t → N 2 j = M 2 j)) (fun N => some (N, N 0 2)) 20 ?_ ?_ 20 0 FU M ⟨ht, fun _ _ _ => rfl, fun _ _ => rfl, fun e he => absurd he (by omega), fun _ _ => rfl⟩ (by omega) (by unfold FU; omega)
  · obtain ⟨N, e1, e2, e3⟩ := h
    exact ⟨N, by rw [← e2]; exact e1, e2, e3⟩
  · intro f N _
    simp (discharger := omega) only [L_X9_feed_23, z_lit, z_nI_le, z_nI_lt, z_nI_inj, z_inb, z_nI_tn, z_nI_add, z_nI_mul, z_bitN, z_zb, z_0add, z_add0, z_0or, z_or0, Option.bind_some, decide_eq_true_eq, Nat.zero_add, Nat.add_zero, Nat.le_refl, ↓reduceIte]
  · intro f i N hi ⟨k1, k2, k3, k4, k5⟩
    have c20 : ¬ 20 ≤ i := by omega
    have i600 : t + i < 600 := by omega
    have er : nI i - nI (i / 4 * 4) = nI (i % 4) := by
      rw [← z_nI_mul]
      have := z_rem (i := i) (k := 4) (by omega) (by omega) (by omega)
      rw [z_quo (by omega) (by omega) (by omega)] at this
      exact this
    have eq4 : nI i / nI 4 = nI (i / 4) := z_quo (by omega) (by omega) (by omega)
    have es : nI 24 - nI (8 * (i % 4)) = nI (24 - 8 * (i % 4)) := z_subN (by omega)
    have blk : ∀ v, B_X9_feed_76 (L_X9_feed_23 f) N x1 x2 x3 x4 x5 (nI i) v = L_X9_feed_23 f (u2 (u2 N 2 (t + i) (zBy (i % 4) v)) 0 2 (nI (t + i + 1))) x1 x2 x3 x4 x5 (nI (i + 1)) := fun v => by
      have h02 : ¬ ((0 : Nat) = 2) := by decide
      unfold zBy
      simp (discharger := omega) only [B_X9_feed_76, k1, i600, eq4, er, es, z_u2k _ _ _ _ h02, z_lit, z_nI_le, z_nI_lt, z_nI_inj, z_inb, z_nI_tn, z_nI_add, z_nI_mul, z_bitN, z_zb, z_0add, z_add0, z_0or, z_or0, Option.bind_some, decide_eq_true_eq, Nat.zero_add, Nat.add_zero, ↓reduceIte]
    refine ⟨u2 (u2 N 2 (t + i) (zBy (i % 4) (zNb x1 x2 x3 x4 x5 (i / 4)))) 0 2 (nI (t + i + 1)), ?_, z_u2s _ _ _ _, fun k a b => by rw [z_u2k _ _ _ _ a, z_u2k _ _ _ _ b, k2 k a b], fun j a => by rw [z_u2j _ _ _ _ a, z_u2k _ _ _ _ (by decide), k3 j a], fun e he => ?_, fun j hj => by rw [z_u2k _ _ _ _ (by decide), z_u2j _ _ _ _ (by omega), k5 j hj]⟩
    · have c4 : (4 ≤ i) ↔ ¬ i / 4 = 0 := by omega
      have eqn : L_X9_feed_23 (f + 1) N x1 x2 x3 x4 x5 (nI i) = B_X9_feed_76 (L_X9_feed_23 f) N x1 x2 x3 x4 x5 (nI i) (zNb x1 x2 x3 x4 x5 (i / 4)) := by
        unfold zNb
        by_cases d1 : 4 ≤ i
        · rw [if_neg (show ¬ i / 4 = 0 by omega)]
          by_cases d2 : 8 ≤ i
          · rw [if_neg (show ¬ i / 4 = 1 by omega)]
            by_cases d3 : 12 ≤ i
            · rw [if_neg (show ¬ i / 4 = 2 by omega)]
              by_cases d4 : 16 ≤ i
              · rw [if_neg (show ¬ i / 4 = 3 by omega)]
                simp (discharger := omega) only [L_X9_feed_23, c20, d1, d2, d3, d4, z_lit, z_nI_le, z_nI_lt, z_nI_inj, z_inb, z_nI_tn, z_nI_add, z_nI_mul, z_bitN, z_zb, z_0add, z_add0, z_0or, z_or0, Option.bind_some, decide_eq_true_eq, Nat.zero_add, Nat.add_zero, ↓reduceIte]
              · rw [if_pos (show i / 4 = 3 by omega)]
                simp (discharger := omega) only [L_X9_feed_23, c20, d1, d2, d3, d4, z_lit, z_nI_le, z_nI_lt, z_nI_inj, z_inb, z_nI_tn, z_nI_add, z_nI_mul, z_bitN, z_zb, z_0add, z_add0, z_0or, z_or0, Option.bind_some, decide_eq_true_eq, Nat.zero_add, Nat.add_zero, ↓reduceIte]
            · rw [if_pos (show i / 4 = 2 by omega)]
              simp (discharger := omega) only [L_X9_feed_23, c20, d1, d2, d3, z_lit, z_nI_le, z_nI_lt, z_nI_inj, z_inb, z_nI_tn, z_nI_add, z_nI_mul, z_bitN, z_zb, z_0add, z_add0, z_0or, z_or0, Option.bind_some, decide_eq_true_eq, Nat.zero_add, Nat.add_zero, ↓reduceIte]
          · rw [if_pos (show i / 4 = 1 by omega)]
            simp (discharger := omega) only [L_X9_feed_23, c20, d1, d2, z_lit, z_nI_le, z_nI_lt, z_nI_inj, z_inb, z_nI_tn, z_nI_add, z_nI_mul, z_bitN, z_zb, z_0add, z_add0, z_0or, z_or0, Option.bind_some, decide_eq_true_eq, Nat.zero_add, Nat.add_zero, ↓reduceIte]
        · rw [if_pos (show i / 4 = 0 by omega)]
          simp (discharger := omega) only [L_X9_feed_23, c20, d1, z_lit, z_nI_le, z_nI_lt, z_nI_inj, z_inb, z_nI_tn, z_nI_add, z_nI_mul, z_bitN, z_zb, z_0add, z_add0, z_0or, z_or0, Option.bind_some, decide_eq_true_eq, Nat.zero_add, Nat.add_zero, ↓reduceIte]
      exact eqn.trans (blk _)
    · by_cases c : e = i
      · subst c; rw [z_u2k _ _ _ _ (by decide), z_u2s]
      · rw [z_u2k _ _ _ _ (by decide), z_u2j _ _ _ _ (by omega), k4 e (by omega)]
/-- what the tape alone changes -/
theorem zV.tape {n : Nat} {X M Y N : TX} (h : zV n X M) (hX : ∀ k, k ≠ 1 → k ≠ 2 → Y k = X k) (h17 : Y 1 7 = N 0 8) (hM : ∀ k, k ≠ 0 → k ≠ 2 → N k = M k) (hM0 : ∀ j, j ≠ 0 → j ≠ 2 → j ≠ 3 → j ≠ 4 → j ≠ 5 → j ≠ 6 → j ≠ 7 → j ≠ 8 → N 0 j = M 0 j) (ht : zTp Y N) : zV n Y N := by
  have m0 : ∀ j, j ≠ 0 ∧ j ≠ 2 ∧ j ≠ 3 ∧ j ≠ 4 ∧ j ≠ 5 ∧ j ≠ 6 ∧ j ≠ 7 ∧ j ≠ 8 → N 0 j = M 0 j := fun j ⟨a, b, c, d, e, f, g, i⟩ => hM0 j a b c d e f g i
  have hS : zS M N := zS.mk (hM 7 (by decide) (by decide)) (hM 8 (by decide) (by decide)) (hM 11 (by decide) (by decide)) (hM 12 (by decide) (by decide)) (m0 19 (by decide)) (m0 20 (by decide)) (m0 21 (by decide)) (m0 28 (by decide))
  refine zV.mk (zE_K (h.e.frame' (hX 3 (by decide) (by decide)) fun k hk => hX k (by unfold zEk at hk; omega) (by unfold zEk at hk; omega)) hS) ?_ ?_ ht h17 ?_ ?_ ?_ ?_ ?_ ?_
  · rw [hM 19 (by decide) (by decide)]; exact h.d.frame (hX 3 (by decide) (by decide)) (hX 4 (by decide) (by decide)) (hX 5 (by decide) (by decide)) (hX 9 (by decide) (by decide)) (hX 10 (by decide) (by decide))
  · rw [hM 19 (by decide) (by decide)]; exact h.y
  · have := h.bk; unfold zBk at *; rw [hX 27 (by decide) (by decide), hX 28 (by decide) (by decide), m0 40 (by decide), hM 18 (by decide) (by decide)]; exact this
  · exact zWk_congr h.wk (by rw [hX 37 (by decide) (by decide)]) (hX 38 (by decide) (by decide)) (m0 33 (by decide)) (hM 21 (by decide) (by decide))
  · exact zIm_congr h.im (by rw [hX 37 (by decide) (by decide)]) (hX 39 (by decide) (by decide)) (hX 40 (by decide) (by decide)) (m0 50 (by decide)) (hM 26 (by decide) (by decide))
  · rw [hX 0 (by decide) (by decide), m0 34 (by decide)]; exact h.rs
  · rw [hX 0 (by decide) (by decide), hM 1 (by decide) (by decide)]; exact h.no
  · rw [hX 0 (by decide) (by decide), hM 1 (by decide) (by decide)]; exact h.il
theorem z_feed {n : Nat} {X M : TX} (h : zV n X M) (x1 x2 x3 x4 x5 : Int32) : zOq (f_X8_feed X x1 x2 x3 x4 x5) (f_X9_feed M x1 x2 x3 x4 x5) := by
  obtain ⟨t, ht, tx, tm, tb⟩ := h.tp
  have g := h.q (zQX.refl X) (zQM_0 M (nI 0))
  have m2 : u2 M 0 0 (0 : Int32) 0 2 = nI t := by rw [z_u2j _ _ _ _ (by decide)]; exact tm
  by_cases c : t ≤ 580
  · have c1 : nI t ≤ (580 : Int32) := (z_nI_le (i := t) (j := 580) (by omega) (by omega)).2 c
    have c2 : nI t + (20 : Int32) ≤ (600 : Int32) := by
      have : nI t + nI 20 ≤ nI 600 := by rw [z_nI_add]; exact (z_nI_le (by omega) (by omega)).2 (by omega)
      exact this
    obtain ⟨A, a1, a2, a3, a4, a5, a6⟩ := z7_add tx (by omega) x1
    obtain ⟨B, b1, b2, b3, b4, b5, b6⟩ := z7_add a2 (by omega) x2
    obtain ⟨C, c1', c2', c3, c4, c5, c6⟩ := z7_add b2 (by omega) x3
    obtain ⟨D, d1, d2, d3, d4, d5, d6⟩ := z7_add c2' (by omega) x4
    obtain ⟨E, e1, e2, e3, e4, e5, e6⟩ := z7_add d2 (by omega) x5
    obtain ⟨N, n1, n2, n3, n4, n5, n6⟩ := z9_feedL (M := u2 M 0 0 (nI 0)) m2 (by omega) x1 x2 x3 x4 x5
    refine ⟨n, E, N, nI (t + 20), ?_, ?_, ?_⟩
    · unfold f_X8_feed
      rw [tx, if_pos c1, a1, Option.bind_some, b1, Option.bind_some, c1', Option.bind_some, d1, Option.bind_some, e1, Option.bind_some, e2]
    · unfold f_X9_feed
      rw [m2, if_pos c2]; exact n1
    · refine h.tape (fun k a b => by rw [e3 k a b, d3 k a b, c3 k a b, b3 k a b, a3 k a b]) ?_ (fun k a b => (n3 k a b).trans (z_u2k _ _ _ _ a)) (fun j a b _ _ _ _ _ _ => (n4 j b).trans (z_u2j _ _ _ _ a)) ?_
      · rw [e4 7 (by decide), d4 7 (by decide), c4 7 (by decide), b4 7 (by decide), a4 7 (by decide), n4 8 (by decide), z_u2j _ _ _ _ (by decide)]; exact h.fa
      · refine ⟨t + 20, by omega, e2, n2, fun j hj => ?_⟩
        by_cases cj : j < t
        · obtain ⟨v, v1, v2, v3⟩ := tb j cj
          refine ⟨v, v1, ?_, ?_⟩
          · rw [e6 j (by omega), d6 j (by omega), c6 j (by omega), b6 j (by omega), a6 j (by omega)]; exact v2
          · rw [n6 j cj, z_u2k _ _ _ _ (by decide)]; exact v3
        · obtain ⟨e, rfl⟩ : ∃ e, j = t + e := ⟨j - t, by omega⟩
          obtain ⟨v, v1, v2⟩ := z_byte ((zNb x1 x2 x3 x4 x5 (e / 4)) >>> (nI (24 - 8 * (e % 4)) &&& 31))
          have hN : N 2 (t + e) = nI v := (n5 e (by omega)).trans v2
          refine ⟨v, v1, ?_, hN⟩
          rw [← hN, n5 e (by omega)]
          have he : e / 4 = 0 ∨ e / 4 = 1 ∨ e / 4 = 2 ∨ e / 4 = 3 ∨ e / 4 = 4 := by omega
          rcases he with q | q | q | q | q
          · have hz : zNb x1 x2 x3 x4 x5 (e / 4) = x1 := by rw [q]; rfl
            rw [hz, e6 _ (by omega), d6 _ (by omega), c6 _ (by omega), b6 _ (by omega), show t + e = t + e % 4 by omega, a5 _ (by omega)]
          · have hz : zNb x1 x2 x3 x4 x5 (e / 4) = x2 := by rw [q]; rfl
            rw [hz, e6 _ (by omega), d6 _ (by omega), c6 _ (by omega), show t + e = t + 4 + e % 4 by omega, b5 _ (by omega)]
          · have hz : zNb x1 x2 x3 x4 x5 (e / 4) = x3 := by rw [q]; rfl
            rw [hz, e6 _ (by omega), d6 _ (by omega), show t + e = t + 4 + 4 + e % 4 by omega, c5 _ (by omega)]
          · have hz : zNb x1 x2 x3 x4 x5 (e / 4) = x4 := by rw [q]; rfl
            rw [hz, e6 _ (by omega), show t + e = t + 4 + 4 + 4 + e % 4 by omega, d5 _ (by omega)]
          · have hz : zNb x1 x2 x3 x4 x5 (e / 4) = x5 := by rw [q]; rfl
            rw [hz, show t + e = t + 4 + 4 + 4 + 4 + e % 4 by omega, e5 _ (by omega)]
  · have c1 : ¬ nI t ≤ (580 : Int32) := fun e => by
      have := (z_nI_le (i := t) (j := 580) (by omega) (by omega)).1 e
      omega
    have c2 : ¬ nI t + (20 : Int32) ≤ (600 : Int32) := fun e => by
      have : nI t + nI 20 ≤ nI 600 := e
      rw [z_nI_add] at this
      have := (z_nI_le (i := t + 20) (j := 600) (by omega) (by omega)).1 this
      omega
    refine ⟨n, X, u2 M 0 0 (nI 0), -1, ?_, ?_, g⟩
    · unfold f_X8_feed; rw [tx, if_neg c1]
    · unfold f_X9_feed; rw [m2, if_neg c2]; rfl
