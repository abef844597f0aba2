set_option linter.unusedVariables false
theorem z_told {n : Nat} {X M : TX} (h : zV n X M) (w : Int32) : zCs none (some (nI 1)) (f_X8_told X w) (f_X9_told M w) := by
  have h10 := h.e.n10
  have g := h.q (zQX.refl X) (zQM_0 M (nI 0))
  have g0 : u2 M 0 0 (nI 0) 0 0 = nI 0 := z_u2s _ _ _ _
  have l1 := z9_lets1 g0 (nI 1) (nI 1)
  have l0 := z9_lets0 g0 (c := 1) (j := 1) (by omega) (by omega)
  rcases z_rng 12 (by omega) w with c | ⟨c1, c2⟩ | ⟨v, hv, rfl⟩
  · refine zCs_il (c := 1) (by omega) g (v := nI 0) ?_ ?_
    · simp (discharger := omega) only [f_X8_told, B_X8_told_16, zxb_r, c, z8_need0, z_lit, z_nI_le, z_nI_lt, z_nI_inj, z_inb, z_nI_tn, z_nI_add, z_nI_mul, z_bitN, z_zb, z_0add, z_add0, z_0or, z_or0, Option.bind_some, decide_eq_true_eq, Nat.zero_add, Nat.add_zero, ↓reduceIte]
    · simp (decide := true) (discharger := omega) only [f_X9_told, z9_within, c, l0, z_lit, z_nI_le, z_nI_lt, z_nI_inj, z_inb, z_nI_tn, z_nI_add, z_nI_mul, z_bitN, z_zb, z_0add, z_add0, z_0or, z_or0, Option.bind_some, decide_eq_true_eq, Nat.zero_add, Nat.add_zero, ↓reduceIte]
  · refine zCs_il (c := 1) (by omega) g (v := nI 0) ?_ ?_
    · simp (discharger := omega) only [f_X8_told, B_X8_told_16, zxb_r, c1, c2, z8_need0, z_lit, z_nI_le, z_nI_lt, z_nI_inj, z_inb, z_nI_tn, z_nI_add, z_nI_mul, z_bitN, z_zb, z_0add, z_add0, z_0or, z_or0, Option.bind_some, decide_eq_true_eq, Nat.zero_add, Nat.add_zero, ↓reduceIte]
    · simp (decide := true) (discharger := omega) only [f_X9_told, z9_within, c1, c2, l0, z_lit, z_nI_le, z_nI_lt, z_nI_inj, z_inb, z_nI_tn, z_nI_add, z_nI_mul, z_bitN, z_zb, z_0add, z_add0, z_0or, z_or0, Option.bind_some, decide_eq_true_eq, Nat.zero_add, Nat.add_zero, ↓reduceIte]
  · obtain ⟨N, t1, t2, t3, tS, tD, tY, t4⟩ := h.take (zQM_0 M (nI 0))
    have hn : N 0 19 = nI n := tS.a19.trans h.e.kn
    have n0 : N 0 0 = nI 0 := t3 ▸ g0
    have x5 := h.e.xn
    obtain ⟨td, _, x6, m6, _⟩ := h.e.td
    have n6 : N 0 20 = nI td := tS.a20.trans m6
    obtain ⟨pu, _, x7, m7⟩ := h.e.pu
    have n7 : N 0 21 = nI pu := tS.a21.trans m7
    have rc := z3_roadCount h.e
    have rc9 := z9_told36 hn h10
    rw [tS.m7] at rc9
    have x8 := tD.year
    have x9 := tD.ruler
    have xr := tD.reign
    have xm := tD.moved
    have hl := zLinesX h.e tD
    have hl9 := z9_linesNow hn h10
    rw [tS.m7] at hl9
    have a0' : f_X3_allVotes X (0 : Int32) = _ := z3_all h.e tD (a := 0) (by omega)
    have a1' : f_X3_allVotes X (1 : Int32) = _ := z3_all h.e tD (a := 1) (by omega)
    obtain ⟨e, b1, b2⟩ := z9_all hn h10 (a := 0) (by omega)
    obtain ⟨e', b1', b3⟩ := z9_all hn h10 (a := 1) (by omega)
    rw [b1] at b1'; cases b1'
    have b2' : f_X9_votesIn N e (0 : Int32) = _ := b2
    have b3' : f_X9_votesIn N e (1 : Int32) = _ := b3
    obtain ⟨y, hy1, hy2⟩ := z3_held tD
    obtain ⟨y', hz1, hz2⟩ := z9_told70 hn h10 tD.xw (nI 9)
    have hyy : y = y' := bt_ext fun q _ => (hy2 q).trans (hz2 q).symm
    subst hyy
    have r11 : X 0 11 = N 0 34 := h.rs.trans (t2.2 34 (by decide) (by decide)).symm
    have bl : f_X1_lines X = some (N 0 40) := by
      unfold f_X1_lines
      rw [z_bc (fun q hq => by have := h.bk.2.1 q hq; omega), t2.2 40 (by decide) (by decide), h.bk.2.2]; rfl
    have i33 : (33 : Nat) < 34 := by omega
    have hv4 : v = 0 ∨ v = 1 ∨ v = 2 ∨ v = 3 ∨ v = 4 ∨ v = 5 ∨ v = 6 ∨ v = 7 ∨ v = 8 ∨ v = 9 ∨ v = 10 ∨ v = 11 ∨ v = 12 := by omega
    have nd : f_X8_need X (1 : Int32) = some (X, .inl ()) := z8_need1 X
    have l1' : f_X9_lets (u2 M 0 0 (0 : Int32)) (nI 1) (1 : Int32) (1 : Int32) = some (u2 M 0 0 (nI 0), nI 1) := l1
    have hc : ∀ v, v ≤ 12 → ¬ nI v < (0 : Int32) ∧ ¬ (12 : Int32) < nI v := fun v hv => ⟨z_nI_nn (by omega), fun h => by
      have := (z_nI_lt (i := 12) (j := v) (by omega) (by omega)).1 h
      omega⟩
    have hx : ∀ v, v ≤ 12 → f_X8_told X (nI v) = B_X8_told_16 X (nI v) (1 : Int32) := fun v hv => by
      unfold f_X8_told; rw [if_neg (hc v hv).1, if_neg (hc v hv).2]
    have hm : ∀ v, v ≤ 12 → f_X9_told M (nI v) = if nI v = (1 : Int32) then L_X9_told_36 FU N (nI v) (0 : Int32) (0 : Int32) else if nI v = (9 : Int32) then L_X9_told_70 FU N (nI v) (0 : Int32) (0 : Int32) else B_X9_told_97 N (nI v) (0 : Int32) := fun v hv => by
      unfold f_X9_told
      rw [z9_in (hc v hv).1 (hc v hv).2, Option.bind_some, l1', Option.bind_some, if_neg z_n10]
      show (f_X9_take (u2 M 0 0 (nI 0))).bind _ = _
      rw [t1, Option.bind_some]
    rcases hv4 with rfl | rfl | rfl | rfl | rfl | rfl | rfl | rfl | rfl | rfl | rfl | rfl | rfl
    · refine zCs_ok h ?_ ?_ n0 (zQX.refl X) t2 (v := nI n)
      · rw [hx _ (by omega)]; unfold B_X8_told_16
        rw [nd, Option.bind_some, zxb_l, if_pos (by decide)]
        exact congrArg (fun z => some (X, Sum.inl z)) x5
      · rw [hm _ (by omega), if_neg (by decide), if_neg (by decide)]
        unfold B_X9_told_97
        rw [if_neg (by decide), if_pos (by decide), hn]
    · refine zCs_ok h ?_ ?_ n0 (zQX.refl X) t2 (v := nI (nS n fun p => zCnt 10 (M 7 p)) / nI 2)
      · rw [hx _ (by omega)]; unfold B_X8_told_16
        rw [nd, Option.bind_some, zxb_l, if_neg (by decide), if_pos (by decide), rc, Option.bind_some]
      · rw [hm _ (by omega), if_pos (by decide)]
        have rc9' : L_X9_told_36 FU N (nI 1) (0 : Int32) (0 : Int32) = B_X9_told_97 N (nI 1) (nI (nS n fun p => zCnt 10 (M 7 p))) := rc9
        rw [rc9']
        unfold B_X9_told_97
        rw [if_neg (by decide), if_neg (by decide), if_pos (by decide)]
        rfl
    · refine zCs_ok h ?_ ?_ n0 (zQX.refl X) t2 (v := nI td)
      · rw [hx _ (by omega)]; unfold B_X8_told_16
        rw [nd, Option.bind_some, zxb_l, if_neg (by decide), if_neg (by decide), if_pos (by decide)]
        exact congrArg (fun z => some (X, Sum.inl z)) x6
      · rw [hm _ (by omega), if_neg (by decide), if_neg (by decide)]
        unfold B_X9_told_97
        rw [if_neg (by decide), if_neg (by decide), if_neg (by decide), if_pos (by decide), n6]
    · refine zCs_ok h ?_ ?_ n0 (zQX.refl X) t2 (v := nI pu)
      · rw [hx _ (by omega)]; unfold B_X8_told_16
        rw [nd, Option.bind_some, zxb_l, if_neg (by decide), if_neg (by decide), if_neg (by decide), if_pos (by decide)]
        exact congrArg (fun z => some (X, Sum.inl z)) x7
      · rw [hm _ (by omega), if_neg (by decide), if_neg (by decide)]
        unfold B_X9_told_97
        rw [if_neg (by decide), if_neg (by decide), if_neg (by decide), if_neg (by decide), n7]
    · refine zCs_ok h ?_ ?_ n0 (zQX.refl X) t2 (v := N 20 32)
      · rw [hx _ (by omega)]; unfold B_X8_told_16
        rw [nd, Option.bind_some, zxb_l, if_neg (by decide), if_neg (by decide), if_neg (by decide), if_neg (by decide), if_pos (by decide)]
        exact congrArg (fun z => some (X, Sum.inl z)) x8
      · rw [hm _ (by omega), if_neg (by decide), if_neg (by decide)]
        unfold B_X9_told_97
        rw [if_pos (by decide), if_neg (by decide), if_pos (by decide), if_pos (by decide)]
        rfl
    · refine zCs_ok h ?_ ?_ n0 (zQX.refl X) t2 (v := N 20 30)
      · rw [hx _ (by omega)]; unfold B_X8_told_16
        rw [nd, Option.bind_some, zxb_l, if_neg (by decide), if_neg (by decide), if_neg (by decide), if_neg (by decide), if_neg (by decide), if_pos (by decide)]
        exact congrArg (fun z => some (X, Sum.inl z)) x9
      · rw [hm _ (by omega), if_neg (by decide), if_neg (by decide)]
        unfold B_X9_told_97
        rw [if_pos (by decide), if_neg (by decide), if_neg (by decide), if_pos (by decide), if_pos (by decide)]
        rfl
    · refine zCs_ok h ?_ ?_ n0 (zQX.refl X) t2 (v := N 20 31)
      · rw [hx _ (by omega)]; unfold B_X8_told_16
        rw [nd, Option.bind_some, zxb_l, if_neg (by decide), if_neg (by decide), if_neg (by decide), if_neg (by decide), if_neg (by decide), if_neg (by decide), if_pos (by decide)]
        exact congrArg (fun z => some (X, Sum.inl z)) xr
      · rw [hm _ (by omega), if_neg (by decide), if_neg (by decide)]
        unfold B_X9_told_97
        rw [if_pos (by decide), if_neg (by decide), if_neg (by decide), if_neg (by decide), if_pos (by decide)]
        rfl
    · refine zCs_ok h ?_ ?_ n0 (zQX.refl X) t2 (v := nI (zLines (M 7) (N 20) n))
      · rw [hx _ (by omega)]; unfold B_X8_told_16
        rw [nd, Option.bind_some, zxb_l, if_neg (by decide), if_neg (by decide), if_neg (by decide), if_neg (by decide), if_neg (by decide), if_neg (by decide), if_neg (by decide), if_pos (by decide), hl, Option.bind_some]
      · rw [hm _ (by omega), if_neg (by decide), if_neg (by decide)]
        unfold B_X9_told_97
        rw [if_pos (by decide), if_pos (by decide), if_neg (by decide), if_pos (by decide), hl9, Option.bind_some]
    · refine zCs_ok h ?_ ?_ n0 (zQX.refl X) t2 (v := zAll n (N 20) 0 + zAll n (N 20) 1)
      · rw [hx _ (by omega)]; unfold B_X8_told_16
        rw [nd, Option.bind_some, zxb_l, if_neg (by decide), if_neg (by decide), if_neg (by decide), if_neg (by decide), if_neg (by decide), if_neg (by decide), if_neg (by decide), if_neg (by decide), if_pos (by decide), a0', Option.bind_some, a1', Option.bind_some]
      · rw [hm _ (by omega), if_neg (by decide), if_neg (by decide)]
        unfold B_X9_told_97
        rw [if_pos (by decide), if_pos (by decide), if_neg (by decide), if_neg (by decide), if_pos (by decide), b1, Option.bind_some, b2', Option.bind_some, Option.bind_some, b3', Option.bind_some]
    · refine zCs_ok h ?_ ?_ n0 (zQX.refl X) t2 (v := y)
      · rw [hx _ (by omega)]; unfold B_X8_told_16
        rw [nd, Option.bind_some, zxb_l, if_neg (by decide), if_neg (by decide), if_neg (by decide), if_neg (by decide), if_neg (by decide), if_neg (by decide), if_neg (by decide), if_neg (by decide), if_neg (by decide), if_pos (by decide), hy1, Option.bind_some]
      · rw [hm _ (by omega), if_neg (by decide), if_pos (by decide)]
        have hz1' : L_X9_told_70 FU N (nI 9) (0 : Int32) (0 : Int32) = B_X9_told_97 N (nI 9) y := hz1
        rw [hz1']
        unfold B_X9_told_97
        rw [if_pos (by decide), if_pos (by decide), if_neg (by decide), if_neg (by decide), if_neg (by decide)]
    · refine zCs_ok h ?_ ?_ n0 (zQX.refl X) t2 (v := N 0 34)
      · rw [hx _ (by omega)]; unfold B_X8_told_16
        rw [nd, Option.bind_some, zxb_l, if_neg (by decide), if_neg (by decide), if_neg (by decide), if_neg (by decide), if_neg (by decide), if_neg (by decide), if_neg (by decide), if_neg (by decide), if_neg (by decide), if_neg (by decide), if_pos (by decide)]
        exact congrArg (fun z => some (X, Sum.inl z)) r11
      · rw [hm _ (by omega), if_neg (by decide), if_neg (by decide)]
        unfold B_X9_told_97
        rw [if_pos (by decide), if_pos (by decide), if_pos (by decide), if_pos (by decide)]
    · refine zCs_ok h ?_ ?_ n0 (zQX.refl X) t2 (v := N 0 40)
      · rw [hx _ (by omega)]; unfold B_X8_told_16
        rw [nd, Option.bind_some, zxb_l, if_neg (by decide), if_neg (by decide), if_neg (by decide), if_neg (by decide), if_neg (by decide), if_neg (by decide), if_neg (by decide), if_neg (by decide), if_neg (by decide), if_neg (by decide), if_neg (by decide), if_pos (by decide), bl, Option.bind_some]
      · rw [hm _ (by omega), if_neg (by decide), if_neg (by decide)]
        unfold B_X9_told_97
        rw [if_pos (by decide), if_pos (by decide), if_pos (by decide), if_neg (by decide), if_pos (by decide)]
    · refine zCs_ok h ?_ ?_ n0 (zQX.refl X) t2 (v := N 20 33)
      · rw [hx _ (by omega)]; unfold B_X8_told_16
        rw [nd, Option.bind_some, zxb_l, if_neg (by decide), if_neg (by decide), if_neg (by decide), if_neg (by decide), if_neg (by decide), if_neg (by decide), if_neg (by decide), if_neg (by decide), if_neg (by decide), if_neg (by decide), if_neg (by decide), if_neg (by decide)]
        exact congrArg (fun z => some (X, Sum.inl z)) xm
      · rw [hm _ (by omega), if_neg (by decide), if_neg (by decide)]
        unfold B_X9_told_97
        rw [if_pos (by decide), if_pos (by decide), if_pos (by decide), if_neg (by decide), if_neg (by decide), if_pos (by decide)]
        rfl
