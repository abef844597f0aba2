set_option linter.unusedVariables false
theorem z9_r36 {n : Nat} {K M : TX} {r : Nat → Int32} {t : Nat} (hn20 : M 20 = r) (hT : M 0 20 = nI t) (ht6 : t ≤ 6) (hy : zYr 1000 r) (hS : zS K M) {i : Nat} (hi : i ≤ 60) (k : TX → Int32 → Int32 → Option (TX × Int32)) (w : Int32) :
    ∃ N, L_X9_round_36 k FU M w (nI i) (nI 0) = ((f_X9_votes N).bind fun q => (f_X9_isDrawn q).bind fun q' => k q'.1 w (nI (i + 1))) ∧ (∀ j, j ≠ 22 → N j = M j) ∧ (∀ e, e < 31 → N 22 (32 * i + e) = r e) ∧ N 22 (32 * i + 31) = nI (zTx K r) ∧ (∀ e, e < 32 * i → N 22 e = M 22 e) := by
  have l := z_loopE (fun f e Y => L_X9_round_36 k f Y w (nI i) e) (fun e Y => (∀ j, j ≠ 22 → Y j = M j) ∧ (∀ d, d < e → Y 22 (32 * i + d) = r d) ∧ (∀ d, d < 32 * i → Y 22 d = M 22 d)) (fun Y => L_X9_round_36 k 900 Y w (nI i) (nI 31)) 31 ?_ ?_ 31 0 FU M ⟨fun _ _ => rfl, fun d hd => absurd hd (by omega), fun _ _ => rfl⟩ (by omega) (by unfold FU; omega)
  · obtain ⟨Y, e1, e2, e3, e4⟩ := l
    have hY20 : Y 20 = r := (e2 20 (by decide)).trans hn20
    have hYT : Y 0 20 = nI t := by rw [e2 0 (by decide)]; exact hT
    have c : 30 < 31 := by omega
    have b : 32 * i + 30 + 1 < 1952 := by omega
    have ei : 32 * i + 30 + 1 = 32 * i + 31 := by omega
    have h32 : (32 : Nat) < 34 := by omega
    have hKT : K 0 20 = nI t := hS.a20.symm.trans hT
    refine ⟨u2 Y 22 (32 * i + 31) (nI (zTx K r)), ?_, fun j hj => (z_u2k _ _ _ _ hj).trans (e2 j hj), fun e he => by rw [z_u2j _ _ _ _ (by omega)]; exact e3 e he, z_u2s _ _ _ _, fun e he => by rw [z_u2j _ _ _ _ (by omega)]; exact e4 e he⟩
    refine e1.trans ?_
    unfold zTx
    by_cases ct : t = 0
    · subst ct
      rw [if_pos hKT]
      show L_X9_round_36 k (899 + 1) Y w (nI i) (nI 31) = _
      simp (discharger := omega) only [L_X9_round_36, c, hYT, b, ei, z_lit, z_nI_le, z_nI_lt, z_nI_inj, z_inb, z_nI_tn, z_nI_add, z_nI_mul, z_bitN, z_zb, z_0add, z_add0, z_0or, z_or0, Option.bind_some, decide_eq_true_eq, Nat.zero_add, Nat.add_zero, ↓reduceIte]
    · have hne : ¬ K 0 20 = nI 0 := by rw [hKT, z_nI_inj (by omega) (by omega)]; exact ct
      rw [if_neg hne]
      obtain ⟨y, hy1, ey⟩ := hy
      have hix : zTix K r = y % t := by unfold zTix; rw [ey, hKT, z_nI_tn (by omega), z_nI_tn (by omega)]
      have her : nI y - nI y / nI t * nI t = nI (y % t) := z_rem (by omega) (by omega) (by omega)
      rw [hix]
      show L_X9_round_36 k (899 + 1) Y w (nI i) (nI 31) = _
      simp (discharger := omega) only [L_X9_round_36, c, hYT, ct, b, ei, h32, hY20, ey, her, z_lit, z_nI_le, z_nI_lt, z_nI_inj, z_inb, z_nI_tn, z_nI_add, z_nI_mul, z_bitN, z_zb, z_0add, z_add0, z_0or, z_or0, Option.bind_some, decide_eq_true_eq, Nat.zero_add, Nat.add_zero, ↓reduceIte]
  · -- at the end, whatever fuel is left
    rintro f Y ⟨k1, k2, k3⟩
    have c : 30 < 31 := by omega
    show L_X9_round_36 k (f + 1) Y w (nI i) (nI 31) = L_X9_round_36 k (899 + 1) Y w (nI i) (nI 31)
    simp (discharger := omega) only [L_X9_round_36, c, z_lit, z_nI_le, z_nI_lt, z_nI_inj, z_inb, z_nI_tn, z_nI_add, z_nI_mul, z_bitN, z_zb, z_0add, z_add0, z_0or, z_or0, Option.bind_some, decide_eq_true_eq, Nat.zero_add, Nat.add_zero, ↓reduceIte]
  · intro f e Y he ⟨k1, k2, k3⟩
    have hY20 : Y 20 = r := (k1 20 (by decide)).trans hn20
    have c : ¬ 30 < e := by omega
    have b1 : e < 34 := by omega
    have b2 : 32 * i + e < 1952 := by omega
    refine ⟨u2 Y 22 (32 * i + e) (r e), ?_, fun j hj => (z_u2k _ _ _ _ hj).trans (k1 j hj), fun d hd => ?_, fun d hd => by rw [z_u2j _ _ _ _ (by omega)]; exact k3 d hd⟩
    · simp (discharger := omega) only [L_X9_round_36, c, b1, b2, hY20, z_lit, z_nI_le, z_nI_lt, z_nI_inj, z_inb, z_nI_tn, z_nI_add, z_nI_mul, z_bitN, z_zb, z_0add, z_add0, z_0or, z_or0, Option.bind_some, decide_eq_true_eq, Nat.zero_add, Nat.add_zero, ↓reduceIte]
    · by_cases ce : d = e
      · subst ce; rw [z_u2s]
      · rw [z_u2j _ _ _ _ (by omega)]; exact k2 d (by omega)
theorem zQY_36 {X Y : TX} (h : ∀ j, j ≠ 36 → Y j = X j) : zQY X Y := ⟨fun k _ _ _ _ _ _ _ _ _ _ _ d => h k d, fun j _ _ _ _ => by rw [h 3 (by decide)], by rw [h 27 (by decide)]⟩
theorem z_roundL {n : Nat} {K : TX} {s : Nat → Int32} (hy0 : zYr 400 s) (w : Int32) : ∀ (k i f f' : Nat) (X M : TX), i + k = 61 → k < f → k < f' → zE n K X → zD n (zYs K n s i) X → (∀ e, e < i → zRx (fun j => X 36 (34 * e + j)) (zYs K n s e)) → zS K M → M 20 = zYs K n s i → (∀ e, e < i → (∀ k, k < 31 → M 22 (32 * e + k) = zYs K n s e k) ∧ M 22 (32 * e + 31) = nI (zTx K (zYs K n s e))) →
    ∃ X' M', L_X5_findRound_14 f X (nI i) = ((f_X3_load 35 X' (0 : Int32)).bind fun q3 => L_X5_findRound_59 FU q3 (0 : Int32)) ∧ zQY X X' ∧ X' 35 = X 35 ∧ (∀ e, e < 61 → zRx (fun j => X' 36 (34 * e + j)) (zYs K n s e)) ∧
      L_X9_round_28 f' M w (nI i) = L_X9_round_119 FU M' w (0 : Int32) ∧ zQM M M' ∧ M' 0 0 = M 0 0 ∧ (∀ e, e < 61 → (∀ k, k < 31 → M' 22 (32 * e + k) = zYs K n s e k) ∧ M' 22 (32 * e + 31) = nI (zTx K (zYs K n s e)))
  | 0, i, f + 1, f' + 1, X, M, hi, _, _, hE, hD, hr, hS, hs, hm => by
    have e : i = 61 := by omega
    subst e
    have c : 60 < 61 := by omega
    refine ⟨X, M, ?_, zQY.refl X, rfl, hr, ?_, zQM.refl M, rfl, hm⟩
    · simp (discharger := omega) only [L_X5_findRound_14, c, z_lit, z_nI_le, z_nI_lt, z_nI_inj, z_inb, z_nI_tn, z_nI_add, z_nI_mul, z_bitN, z_zb, z_0add, z_add0, z_0or, z_or0, Option.bind_some, decide_eq_true_eq, Nat.zero_add, Nat.add_zero, ↓reduceIte]
    · simp (discharger := omega) only [L_X9_round_28, c, z_lit, z_nI_le, z_nI_lt, z_nI_inj, z_inb, z_nI_tn, z_nI_add, z_nI_mul, z_bitN, z_zb, z_0add, z_add0, z_0or, z_or0, Option.bind_some, decide_eq_true_eq, Nat.zero_add, Nat.add_zero, ↓reduceIte]
  | k + 1, i, f + 1, f' + 1, X, M, hi, hf, hf', hE, hD, hr, hS, hs, hm => by
    have h10 := hE.n10
    have hy := zYs_yr (K := K) (X := X) h10 hy0 i
    have c : ¬ 60 < i := by omega
    obtain ⟨A, a1, a2, a3, a4⟩ := z3_save (k := 36) (st := 34 * i) hD (by decide) (by show 34 * i + 34 ≤ 2074; omega) (by decide)
    have hEA : zE n K A := hE.y (zQY_36 a2)
    have hDA : zD n (zYs K n s i) A := hD.frame (a2 3 (by decide)) (a2 4 (by decide)) (a2 5 (by decide)) (a2 9 (by decide)) (a2 10 (by decide))
    obtain ⟨t, ht, _, mt, _⟩ := hE.td
    obtain ⟨P, p1, p2, p3, p4, p5⟩ := z9_r36 (n := n) (K := K) (t := t) hs (hS.a20.trans mt) ht (hy.mono (by omega)) hS (show i ≤ 60 by omega) (L_X9_round_28 f') w
    have hSP : zS K P := hS.frame (p2 0 (by decide)) fun j hj => p2 j (by omega)
    obtain ⟨Y, B, C, v, y1, y2, y3, b1, b2, b3, c1, c2, c3, hy'⟩ := z_pass hEA hDA hSP ((p2 20 (by decide)).trans hs) hy (by omega)
    have Y36 : Y 36 = A 36 := y2.1 36 (by decide) (by decide) (by decide) (by decide) (by decide) (by decide) (by decide) (by decide)
    have Y35 : Y 35 = X 35 := (y2.1 35 (by decide) (by decide) (by decide) (by decide) (by decide) (by decide) (by decide) (by decide)).trans (a2 35 (by decide))
    have C22 : C 22 = P 22 := c2 22 (by decide) (by decide) (by decide)
    obtain ⟨X', M', q1, q2, q3, q4, q5, q6, q7, q8⟩ := z_roundL hy0 w k (i + 1) f f' Y C (by omega) (by omega) (by omega) (hEA.fx y2) y3 (fun e he => by
      rw [Y36]
      by_cases ce : e = i
      · subst ce; exact a4
      · refine zRx_congr (hr e (by omega)) (fun j hj => ?_) (fun _ _ => rfl)
        exact a3 _ (by omega)) (hSP.fm c2) c3 (fun e he => by
      rw [C22]
      by_cases ce : e = i
      · subst ce; exact ⟨p3, p4⟩
      · exact ⟨fun k hk => by rw [p5 _ (by omega)]; exact (hm e (by omega)).1 k hk, by rw [p5 _ (by omega)]; exact (hm e (by omega)).2⟩)
    have qMP : zQM M P := ⟨fun k _ _ _ _ d _ _ => p2 k d, fun j _ _ => by rw [p2 0 (by decide)]⟩
    refine ⟨X', M', ?_, ((zQY_36 a2).trans y2.y).trans q2, q3.trans Y35, q4, ?_, (qMP.trans c2.q).trans q6, by rw [q7, c2 0 (by decide) (by decide) (by decide), p2 0 (by decide)], q8⟩
    · have a1' : f_X3_save 36 X (nI (i * 34)) = some A := by rw [Nat.mul_comm i 34]; exact a1
      simp (discharger := omega) only [L_X5_findRound_14, c, a1', y1, z_lit, z_nI_le, z_nI_lt, z_nI_inj, z_inb, z_nI_tn, z_nI_add, z_nI_mul, z_bitN, z_zb, z_0add, z_add0, z_0or, z_or0, Option.bind_some, decide_eq_true_eq, Nat.zero_add, Nat.add_zero, ↓reduceIte]
      exact q1
    · simp (discharger := omega) only [L_X9_round_28, c, z_lit, z_nI_le, z_nI_lt, z_nI_inj, z_inb, z_nI_tn, z_nI_add, z_nI_mul, z_bitN, z_zb, z_0add, z_add0, z_0or, z_or0, Option.bind_some, decide_eq_true_eq, Nat.zero_add, Nat.add_zero, ↓reduceIte]
      rw [p1, b1, Option.bind_some, c1, Option.bind_some]
      exact q5
theorem z_round {n : Nat} {X M : TX} (h : zV n X M) (w : Int32) : zCs none (some (nI 1)) (f_X8_round X w) (f_X9_round M w) := by
  have h10 := h.e.n10
  have g := h.q (zQX.refl X) (zQM_0 M (nI 0))
  have g0 : u2 M 0 0 (nI 0) 0 0 = nI 0 := z_u2s _ _ _ _
  have l1 : f_X9_lets (u2 M 0 0 (0 : Int32)) (nI 1) (1 : Int32) (1 : Int32) = some (u2 M 0 0 (nI 0), nI 1) := z9_lets1 g0 (nI 1) (nI 1)
  have l0 : f_X9_lets (u2 M 0 0 (0 : Int32)) (nI 0) (1 : Int32) (1 : Int32) = some (u2 (u2 (u2 M 0 0 (nI 0)) 0 0 (nI 1)) 1 1 (u2 M 0 0 (nI 0) 1 1 + nI 1), nI 0) := z9_lets0 g0 (c := 1) (j := 1) (by omega) (by omega)
  rcases z_half2 w with ⟨e1, e2⟩ | ⟨hw, e1, e2⟩
  · refine zCs_il (c := 1) (by omega) g (v := nI 0) ?_ ?_
    · unfold f_X8_round; rw [e1, Option.bind_some, z8_need0, Option.bind_some, zxb_r]
    · unfold f_X9_round; rw [e2, Option.bind_some, l0, Option.bind_some, if_pos z_n00]; rfl
  · obtain ⟨N, t1, t2, t3, tS, tD, tY, t4⟩ := h.take (zQM_0 M (nI 0))
    obtain ⟨s, hs⟩ : ∃ s, s = N 20 := ⟨_, rfl⟩
    rw [← hs] at tD tY t4
    obtain ⟨A, a1, a2, a3, a4⟩ := z3_save (k := 35) (st := 0) tD (by decide) (by decide) (by decide)
    have hEA : zE n M A := h.e.y (zQY_35 a2)
    have hDA : zD n s A := zD_35 tD a2
    obtain ⟨X', M', p1, p2, p3, p4, p5, p6, p7, p8⟩ := z_roundL (n := n) (K := M) tY w 61 0 FU FU A N (by omega) (by unfold FU; omega) (by unfold FU; omega) hEA hDA (fun e he => absurd he (by omega)) tS hs.symm (fun e he => absurd he (by omega))
    have hq : zQY X X' := (zQY_35 a2).trans p2
    obtain ⟨C, d1, d2, d3⟩ := z3_load (n := n) (k := 35) (st := 0) h10 (s := s) (X := X') (h.e.y hq).xn (tD.gd tY) (by decide) (by decide) (by decide) (by rw [p3]; exact a4)
    have hEC : zE n M C := (h.e.y hq).fx d2
    have C36 : C 36 = X' 36 := d2.1 36 (by decide) (by decide) (by decide) (by decide) (by decide) (by decide) (by decide) (by decide)
    have hX : ∀ i j, i ≤ 60 → j ≤ 60 → f_X5_isAlike C (nI (34 * i)) (nI (34 * j)) = some (zbI (zAk M n s i j)) := fun i j hi hj =>
      z5_isAlike hEC tY (fun i hi => by rw [C36]; exact p4 i (by omega)) hi hj
    have hM : ∀ i j, i ≤ 60 → j ≤ 60 → f_X9_areAlike M' (nI i) (nI j) = some (zbI (zAk M n s i j)) := fun i j hi hj =>
      z9_alike (fun i hi => p8 i (by omega)) (fun i hi => zTx_le hEC ((zYs_yr (K := M) (X := C) h10 tY i).mono (by omega))) hi hj
    obtain ⟨a, b, r1, r2⟩ := z_roundS (n := n) (K := M) (s := s) w hX hM
    have a1' : f_X3_save 35 X (0 : Int32) = some A := a1
    have d1' : f_X3_load 35 X' (0 : Int32) = some C := d1
    have p1' : L_X5_findRound_14 FU A (0 : Int32) = _ := p1
    have p5' : L_X9_round_28 FU N w (0 : Int32) = _ := p5
    refine zCs_oy h ?_ ?_ (N := M') (Y := u2 (u2 C 34 7 a) 34 8 b) (v := if w = nI 0 then a else b) ?_ ?_ ?_ ?_
    · unfold f_X8_round
      rw [e1, Option.bind_some, z8_need1, Option.bind_some, zxb_l]
      show (f_X5_findRound X).bind _ = _
      unfold f_X5_findRound
      rw [a1', Option.bind_some, p1', d1', Option.bind_some, r1, Option.bind_some]
      have q7 : u2 (u2 C 34 7 a) 34 8 b 34 7 = a := by rw [z_u2j _ _ _ _ (by decide), z_u2s]
      have q8 : u2 (u2 C 34 7 a) 34 8 b 34 8 = b := z_u2s _ _ _ _
      rw [q7, q8]
      show (if w = nI 0 then _ else _) = _
      split <;> rfl
    · unfold f_X9_round
      rw [e2, Option.bind_some, l1, Option.bind_some, if_neg z_n10, t1, Option.bind_some, p5', r2]
    · rw [p7, t3]; exact g0
    · exact ((hq.trans d2.y).trans (zQY_34 C 7 a)).trans (zQY_34 _ 8 b)
    · exact (zD_34 (zD_34 d3 7 a) 8 b).congr h10 fun j hj => (t4 j hj).symm
    · exact t2.trans p6
