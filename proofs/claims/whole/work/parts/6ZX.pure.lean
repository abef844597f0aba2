set_option linter.unusedVariables false
/-- a year -/
def zPs (K : TX) (n : Nat) (s : Nat → Int32) : Nat → Int32 := (zDr K n (zVo K n s)).1
theorem zPs_30 {K : TX} {n : Nat} {s : Nat → Int32} (h10 : n ≤ 10) : zPs K n s 30 = zVo K n s 30 := by
  unfold zPs zDr
  split
  · rfl
  · cases hb : (zBest K n (zVo K n s) (zVo K n s 30)).1 with
    | none => rfl
    | some q =>
      have hq := zBest_p (4 * n) (Nat.le_refl _) q hb
      show zMv (zVo K n s) q.1 q.2 30 = _
      unfold zMv
      rw [z_updJ _ _ (by decide), z_updJ _ _ (by omega)]
theorem z_pass {n b : Nat} {K X M : TX} {s : Nat → Int32} (hE : zE n K X) (hD : zD n s X) (hS : zS K M) (hs : M 20 = s) (hy : zYr b s) (hb : b ≤ 1000) :
    ∃ Y A B v, f_X5_pass X = some Y ∧ zFX X Y ∧ zD n (zPs K n s) Y ∧ f_X9_votes M = some A ∧ zFM M A ∧ A 20 = zVo K n s ∧ f_X9_isDrawn A = some (B, v) ∧ zFM M B ∧ B 20 = zPs K n s ∧ zYr (b + 1) (zPs K n s) := by
  have h10 := hE.n10
  have hy1 : zYr 1000 s := hy.mono hb
  obtain ⟨Z, e1, e2, e2', e3⟩ := z3_elect hE hD hy1
  have fZ : zFX X Z := ⟨fun k a b c d e f i j => e2 k a c d e, fun j a b c _ => e2' j a b c⟩
  have hEZ := hE.fx fZ
  obtain ⟨Y, y1, y2, y3⟩ := z2_redraw hEZ e3
  obtain ⟨A, a1, a2, a3⟩ := z9_votes hE hS hs hy1
  have fA : zFM M A := fun k _ _ c => a2 k c
  obtain ⟨B, b1, b2, b3⟩ := z9_isDrawn hEZ e3 (hS.fm fA) a3
  refine ⟨Y, A, B, _, ?_, fZ.trans y2, y3, a1, fA, a3, b1, fA.trans b2, b3, zDr_yr h10 (zTi_yr hy)⟩
  unfold f_X5_pass
  rw [e1, Option.bind_some, y1]; rfl
/-- the row behind i years -/
def zYs (K : TX) (n : Nat) (s : Nat → Int32) : Nat → Nat → Int32
  | 0 => s
  | i + 1 => zPs K n (zYs K n s i)
/-- how often another side ruled -/
def zChg (K : TX) (n : Nat) (s : Nat → Int32) : Nat → Int32
  | 0 => nI 0
  | i + 1 => zChg K n s i + if zYs K n s (i + 1) 30 = zYs K n s i 30 then nI 0 else nI 1
theorem z_reignsL {n n0 : Nat} {K : TX} {s : Nat → Int32} {R : Nat → Int32} (hn0 : n0 ≤ 60) (x2 : Int32) : ∀ (k i f f' : Nat) (X M : TX), i + k = n0 → k < f → k < f' → zE n K X → zD n (zYs K n s i) X → X 34 6 = zChg K n s i → zS K M → M 20 = zYs K n s i → zYr (400 + i) (zYs K n s i) →
    ∃ X' M', L_X5_lookAhead_19 f X (nI n0) (nI i) = ((f_X3_load 35 (u2 X' 34 5 (zYs K n s n0 30)) (0 : Int32)).bind fun q3 => some q3) ∧ X' 34 6 = zChg K n s n0 ∧ zQY X X' ∧ X' 35 = X 35 ∧ L_X9_reigns_49 f' M (nI n0) x2 (zChg K n s i) (nI i) = (if x2 = 0 then some (M', zYs K n s n0 30) else some (M', zChg K n s n0)) ∧ zFM M M'
  | 0, i, f + 1, f' + 1, X, M, hi, _, _, hE, hD, h6, hS, hs, hy => by
    have e : i = n0 := by omega
    subst e
    have h30 : (30 : Nat) < 34 := by omega
    refine ⟨X, M, ?_, h6, zQY.refl X, rfl, ?_, zFM.refl M⟩
    · have hr := hD.ruler
      simp (discharger := omega) only [L_X5_lookAhead_19, hr, z_lit, z_nI_le, z_nI_lt, z_nI_inj, z_inb, z_nI_tn, z_nI_add, z_nI_mul, z_bitN, z_zb, z_0add, z_add0, z_0or, z_or0, Option.bind_some, decide_eq_true_eq, Nat.zero_add, Nat.add_zero, Nat.le_refl, ↓reduceIte]
    · simp (discharger := omega) only [L_X9_reigns_49, hs, h30, z_lit, z_nI_le, z_nI_lt, z_nI_inj, z_inb, z_nI_tn, z_nI_add, z_nI_mul, z_bitN, z_zb, z_0add, z_add0, z_0or, z_or0, Option.bind_some, decide_eq_true_eq, Nat.zero_add, Nat.add_zero, Nat.le_refl, ↓reduceIte]
      rfl
  | k + 1, i, f + 1, f' + 1, X, M, hi, hf, hf', hE, hD, h6, hS, hs, hy => by
    have h10 := hE.n10
    obtain ⟨Y, A, B, v, y1, y2, y3, a1, a2, a3, b1, b2, b3, hy'⟩ := z_pass hE hD hS hs hy (by omega)
    have h1 : ¬ n0 ≤ i := by omega
    have h30 : (30 : Nat) < 34 := by omega
    have hr := hD.ruler
    have hr' : Y 3 9 = zYs K n s (i + 1) 30 := y3.ruler
    have hA30 : A 20 30 = zYs K n s (i + 1) 30 := by rw [a3]; exact (zPs_30 h10).symm
    have Y34 : Y 34 = X 34 := y2.1 34 (by decide) (by decide) (by decide) (by decide) (by decide) (by decide) (by decide) (by decide)
    have Y35 : Y 35 = X 35 := y2.1 35 (by decide) (by decide) (by decide) (by decide) (by decide) (by decide) (by decide) (by decide)
    -- the class's next state
    have hW : ∀ c : Int32, zE n K (u2 Y 34 6 c) ∧ zD n (zYs K n s (i + 1)) (u2 Y 34 6 c) ∧ zQY X (u2 Y 34 6 c) ∧ u2 Y 34 6 c 35 = X 35 := fun c => by
      have q : zQX Y (u2 Y 34 6 c) := ⟨fun k _ _ _ _ d _ _ => z_u2k _ _ _ _ d, by rw [z_u2k _ _ _ _ (by decide)]⟩
      exact ⟨(hE.fx y2).y q.y, y3.q q, y2.y.trans q.y, by rw [z_u2k _ _ _ _ (by decide), Y35]⟩
    have hyn : zYr (400 + (i + 1)) (zYs K n s (i + 1)) := hy'
    by_cases c : zYs K n s (i + 1) 30 = zYs K n s i 30
    · have hch : zChg K n s (i + 1) = zChg K n s i := by
        show zChg K n s i + _ = _
        rw [if_pos c, z_add0]
      obtain ⟨X', M', p1, p2, p3, p4, p5, p6⟩ := z_reignsL hn0 x2 (R := R) k (i + 1) f f' (u2 Y 34 6 (zChg K n s i)) B (by omega) (by omega) (by omega) (hW _).1 (hW _).2.1 (by rw [z_u2s, hch]) (hS.fm b2) b3 hyn
      refine ⟨X', M', ?_, p2, (hW _).2.2.1.trans p3, p4.trans (hW _).2.2.2, ?_, b2.trans p6⟩
      · have e6 : Y 34 6 = zChg K n s i := by rw [Y34]; exact h6
        simp (discharger := omega) only [L_X5_lookAhead_19, h1, y1, hr, hr', c, e6, z_lit, z_nI_le, z_nI_lt, z_nI_inj, z_inb, z_nI_tn, z_nI_add, z_nI_mul, z_bitN, z_zb, z_0add, z_add0, z_0or, z_or0, Option.bind_some, decide_eq_true_eq, Nat.zero_add, Nat.add_zero, ↓reduceIte]
        exact p1
      · simp (discharger := omega) only [L_X9_reigns_49, h1, h30, a1, hs, hA30, c, b1, z_lit, z_nI_le, z_nI_lt, z_nI_inj, z_inb, z_nI_tn, z_nI_add, z_nI_mul, z_bitN, z_zb, z_0add, z_add0, z_0or, z_or0, Option.bind_some, decide_eq_true_eq, Nat.zero_add, Nat.add_zero, ↓reduceIte]
        rw [hch] at p5; exact p5
    · have hch : zChg K n s (i + 1) = zChg K n s i + nI 1 := by
        show zChg K n s i + _ = _
        rw [if_neg c]
      obtain ⟨X', M', p1, p2, p3, p4, p5, p6⟩ := z_reignsL hn0 x2 (R := R) k (i + 1) f f' (u2 Y 34 6 (zChg K n s i + nI 1)) B (by omega) (by omega) (by omega) (hW _).1 (hW _).2.1 (by rw [z_u2s, hch]) (hS.fm b2) b3 hyn
      refine ⟨X', M', ?_, p2, (hW _).2.2.1.trans p3, p4.trans (hW _).2.2.2, ?_, b2.trans p6⟩
      · have e6 : Y 34 6 = zChg K n s i := by rw [Y34]; exact h6
        simp (discharger := omega) only [L_X5_lookAhead_19, h1, y1, hr, hr', c, e6, z_lit, z_nI_le, z_nI_lt, z_nI_inj, z_inb, z_nI_tn, z_nI_add, z_nI_mul, z_bitN, z_zb, z_0add, z_add0, z_0or, z_or0, Option.bind_some, decide_eq_true_eq, Nat.zero_add, Nat.add_zero, ↓reduceIte]
        exact p1
      · simp (discharger := omega) only [L_X9_reigns_49, h1, h30, a1, hs, hA30, c, b1, z_lit, z_nI_le, z_nI_lt, z_nI_inj, z_inb, z_nI_tn, z_nI_add, z_nI_mul, z_bitN, z_zb, z_0add, z_add0, z_0or, z_or0, Option.bind_some, decide_eq_true_eq, Nat.zero_add, Nat.add_zero, ↓reduceIte]
        rw [hch] at p5; exact p5
theorem zQY_35 {X Y : TX} (h : ∀ j, j ≠ 35 → Y j = X j) : zQY X Y := ⟨fun k _ _ _ _ _ _ _ _ _ _ d _ => h k d, fun j _ _ _ _ => by rw [h 3 (by decide)], by rw [h 27 (by decide)]⟩
theorem zQY_34 (X : TX) (j : Nat) (v : Int32) : zQY X (u2 X 34 j v) := ⟨fun k _ _ _ _ _ _ _ _ _ d _ _ => z_u2k _ _ _ _ d, fun i _ _ _ _ => by rw [z_u2k _ _ _ _ (by decide)], by rw [z_u2k _ _ _ _ (by decide)]⟩
theorem zD_34 {n : Nat} {s : Nat → Int32} {X : TX} (h : zD n s X) (j : Nat) (v : Int32) : zD n s (u2 X 34 j v) :=
  h.frame (z_u2k _ _ _ _ (by decide)) (z_u2k _ _ _ _ (by decide)) (z_u2k _ _ _ _ (by decide)) (z_u2k _ _ _ _ (by decide)) (z_u2k _ _ _ _ (by decide))
theorem zD_35 {n : Nat} {s : Nat → Int32} {X Y : TX} (h : zD n s X) (g : ∀ j, j ≠ 35 → Y j = X j) : zD n s Y :=
  h.frame (g 3 (by decide)) (g 4 (by decide)) (g 5 (by decide)) (g 9 (by decide)) (g 10 (by decide))
theorem z_reigns {n : Nat} {X M : TX} (h : zV n X M) (x w : Int32) : zCs none (some (nI 1)) (f_X8_reigns X x w) (f_X9_reigns M x w) := by
  have h10 := h.e.n10
  have g := h.q (zQX.refl X) (zQM_0 M (nI 0))
  have g0 : u2 M 0 0 (nI 0) 0 0 = nI 0 := z_u2s _ _ _ _
  have l1 : f_X9_lets (u2 M 0 0 (0 : Int32)) (1 : Int32) (1 : Int32) (1 : Int32) = some (u2 M 0 0 (nI 0), nI 1) := z9_lets1 g0 (nI 1) (nI 1)
  have l0 : f_X9_lets (u2 M 0 0 (0 : Int32)) (0 : Int32) (1 : Int32) (1 : Int32) = some (u2 (u2 (u2 M 0 0 (nI 0)) 0 0 (nI 1)) 1 1 (u2 M 0 0 (nI 0) 1 1 + nI 1), nI 0) := z9_lets0 g0 (c := 1) (j := 1) (by omega) (by omega)
  have nd : f_X8_need X (1 : Int32) = some (X, .inl ()) := z8_need1 X
  have n0 : f_X8_need X (0 : Int32) = some (u2 X 0 13 (X 0 13 + nI 1), .inr 1) := z8_need0 X
  rcases z_rng 60 (by omega) x with c | ⟨c1, c2⟩ | ⟨v, hv, rfl⟩
  · have c' : x < (0 : Int32) := c
    refine zCs_il (c := 1) (by omega) g (v := nI 0) ?_ ?_
    · unfold f_X8_reigns; rw [if_pos c', n0]; rfl
    · unfold f_X9_reigns; rw [z9_lo c', Option.bind_some, if_pos z_n00, l0, Option.bind_some, if_pos z_n00]; rfl
  · have c' : ¬ x < (0 : Int32) := c1
    have c2' : (60 : Int32) < x := c2
    refine zCs_il (c := 1) (by omega) g (v := nI 0) ?_ ?_
    · unfold f_X8_reigns; rw [if_neg c', if_pos c2', n0]; rfl
    · unfold f_X9_reigns; rw [z9_hi c' c2', Option.bind_some, if_pos z_n00, l0, Option.bind_some, if_pos z_n00]; rfl
  · have c' : ¬ nI v < (0 : Int32) := z_nI_nn (by omega)
    have c2' : ¬ (60 : Int32) < nI v := fun hh => by
      have := (z_nI_lt (i := 60) (j := v) (by omega) (by omega)).1 hh
      omega
    rcases z_half2 w with ⟨e1, e2⟩ | ⟨hw, e1, e2⟩
    · refine zCs_il (c := 1) (by omega) g (v := nI 0) ?_ ?_
      · unfold f_X8_reigns; rw [if_neg c', if_neg c2', nd, Option.bind_some, zxb_l, e1, Option.bind_some]
        show (f_X8_need X (nI 0)).bind _ = _
        rw [z8_need0]; rfl
      · unfold f_X9_reigns; rw [z9_in c' c2', Option.bind_some, if_neg z_n10, e2, Option.bind_some, if_pos z_n00, l0, Option.bind_some, if_pos z_n00]; rfl
    · obtain ⟨N, t1, t2, t3, tS, tD, tY, t4⟩ := h.take (zQM_0 M (nI 0))
      obtain ⟨s, hs⟩ : ∃ s, s = N 20 := ⟨_, rfl⟩
      rw [← hs] at tD tY t4
      obtain ⟨A, a1, a2, a3, a4⟩ := z3_save (k := 35) (st := 0) tD (by decide) (by decide) (by decide)
      have hEA : zE n M A := h.e.y (zQY_35 a2)
      have hDA : zD n s A := zD_35 tD a2
      obtain ⟨X', M', p1, p2, p3, p4, p5, p6⟩ := z_reignsL (n := n) (K := M) (s := s) (R := A 35) hv w v 0 FU FU (u2 A 34 6 (nI 0)) N (by omega) (by unfold FU; omega) (by unfold FU; omega) (hEA.y (zQY_34 A 6 _)) (zD_34 hDA 6 _) (z_u2s _ _ _ _) tS hs.symm tY
      have hq : zQY X X' := ((zQY_35 a2).trans (zQY_34 A 6 _)).trans p3
      have x35 : X' 35 = A 35 := p4.trans (z_u2k _ _ _ _ (by decide))
      obtain ⟨C, d1, d2, d3⟩ := z3_load (n := n) (k := 35) (st := 0) h10 (s := s) (X := u2 X' 34 5 (zYs M n s v 30)) (by rw [z_u2k _ _ _ _ (by decide)]; exact (h.e.y hq).xn) (tD.gd tY) (by decide) (by decide) (by decide) (by
        rw [z_u2k _ _ _ _ (by decide), x35]; exact a4)
      have C34 : C 34 = u2 X' 34 5 (zYs M n s v 30) 34 := d2.1 34 (by decide) (by decide) (by decide) (by decide) (by decide) (by decide) (by decide) (by decide)
      have a1' : f_X3_save 35 X (0 : Int32) = some A := a1
      have d1' : f_X3_load 35 (u2 X' 34 5 (zYs M n s v 30)) (0 : Int32) = some C := d1
      have look : f_X5_lookAhead X (nI v) = some C := by
        unfold f_X5_lookAhead
        rw [a1', Option.bind_some]
        refine Eq.trans p1 ?_
        rw [d1']; rfl
      refine zCs_oy h ?_ ?_ (N := M') (Y := C) (v := if w = 0 then zYs M n s v 30 else zChg M n s v) ?_ ?_ ?_ ?_
      · unfold f_X8_reigns; rw [if_neg c', if_neg c2', nd, Option.bind_some, zxb_l, e1, Option.bind_some]
        show (f_X8_need X (nI 1)).bind _ = _
        rw [z8_need1, Option.bind_some, zxb_l]
        show (f_X5_lookAhead X (nI v)).bind _ = _
        rw [look, Option.bind_some]
        have q5 : C 34 5 = zYs M n s v 30 := by rw [C34, z_u2s]
        have q6 : C 34 6 = zChg M n s v := by rw [C34, z_u2j _ _ _ _ (by decide)]; exact p2
        rw [q5, q6]
        split <;> rfl
      · unfold f_X9_reigns
        rw [z9_in c' c2', Option.bind_some, if_neg z_n10, e2, Option.bind_some, if_neg z_n10, l1, Option.bind_some, if_neg z_n10, t1, Option.bind_some]
        refine Eq.trans p5 ?_
        split <;> rfl
      · rw [p6 0 (by decide) (by decide) (by decide), t3]; exact g0
      · exact (hq.trans (zQY_34 X' 5 _)).trans d2.y
      · exact d3.congr h10 fun j hj => (t4 j hj).symm
      · exact t2.trans p6.q
