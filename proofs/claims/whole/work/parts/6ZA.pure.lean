set_option linter.unusedVariables false
theorem z_npS {n : Nat} {X M : TX} (h : zV n X M) (x : Int32) : (f_X8_needParish X x = some (u2 X 0 12 (X 0 12 + nI 1), .inr 0) ∧ f_X9_isThere (u2 M 0 0 (nI 0)) x (nI n) = some (u2 (u2 (u2 M 0 0 (nI 0)) 0 0 (nI 1)) 1 0 (u2 M 0 0 (nI 0) 1 0 + nI 1), nI 0)) ∨
    ∃ p, p < n ∧ x = nI p ∧ f_X8_needParish X x = some (X, .inl ()) ∧ f_X9_isThere (u2 M 0 0 (nI 0)) x (nI n) = some (u2 M 0 0 (nI 0), nI 1) := by
  have h10 := h.e.n10
  rw [z8_np h.e.xn h10, z9_there (z_u2s _ _ _ _)]
  by_cases c : x < nI 0 ∨ nI n - nI 1 < x
  · rw [if_pos c, if_pos c]; exact .inl ⟨rfl, rfl⟩
  · rw [if_neg c, if_neg c]
    obtain ⟨p, hp, e⟩ := z_good (by omega) c
    exact .inr ⟨p, hp, e, rfl, rfl⟩
theorem z_nwS {X M1 : TX} (g0 : M1 0 0 = nI 0) (x : Int32) : (f_X8_needWard X x = some (u2 X 0 12 (X 0 12 + nI 1), .inr 0) ∧ f_X9_isThere M1 x (nI 4) = some (u2 (u2 M1 0 0 (nI 1)) 1 0 (M1 1 0 + nI 1), nI 0)) ∨
    ∃ p, p < 4 ∧ x = nI p ∧ f_X8_needWard X x = some (X, .inl ()) ∧ f_X9_isThere M1 x (nI 4) = some (M1, nI 1) := by
  rw [z8_nw, z9_there g0]
  by_cases c : x < nI 0 ∨ nI 4 - nI 1 < x
  · rw [if_pos c, if_pos c]; exact .inl ⟨rfl, rfl⟩
  · rw [if_neg c, if_neg c]
    obtain ⟨p, hp, e⟩ := z_good (by omega) c
    exact .inr ⟨p, hp, e, rfl, rfl⟩
theorem z_nsS {X M1 : TX} (g0 : M1 0 0 = nI 0) (x : Int32) : (f_X8_needSide X x = some (u2 X 0 12 (X 0 12 + nI 1), .inr 0) ∧ f_X9_isThere M1 x (nI 2) = some (u2 (u2 M1 0 0 (nI 1)) 1 0 (M1 1 0 + nI 1), nI 0)) ∨
    ∃ p, p < 2 ∧ x = nI p ∧ f_X8_needSide X x = some (X, .inl ()) ∧ f_X9_isThere M1 x (nI 2) = some (M1, nI 1) := by
  rw [z8_ns, z9_there g0]
  by_cases c : x < nI 0 ∨ nI 2 - nI 1 < x
  · rw [if_pos c, if_pos c]; exact .inl ⟨rfl, rfl⟩
  · rw [if_neg c, if_neg c]
    obtain ⟨p, hp, e⟩ := z_good (by omega) c
    exact .inr ⟨p, hp, e, rfl, rfl⟩
theorem z_parish {n : Nat} {X M : TX} (h : zV n X M) (x w : Int32) : zCs (some (nI 1)) (some (nI 2)) (f_X8_parish X x w) (f_X9_parish M x w) := by
  have h10 := h.e.n10
  have g := h.q (zQX.refl X) (zQM_0 M (nI 0))
  have g0 : u2 M 0 0 (nI 0) 0 0 = nI 0 := z_u2s _ _ _ _
  have gn : u2 M 0 0 (nI 0) 0 19 = nI n := by rw [z_u2j _ _ _ _ (by decide)]; exact h.e.kn
  have l1 := z9_lets1 g0 (nI 2) (nI 1)
  have l0 := z9_lets0 g0 (c := 2) (j := 1) (by omega) (by omega)
  rcases z_npS h x with ⟨e1, e2⟩ | ⟨p, hp, rfl, e1, e2⟩
  · refine zCs_no g (v := nI 0) ?_ ?_
    · simp only [f_X8_parish, e1, Option.bind_some, zxb_r]
    · simp (discharger := omega) only [f_X9_parish, z_lit, gn, e2, z_lit, z_nI_le, z_nI_lt, z_nI_inj, z_inb, z_nI_tn, z_nI_add, z_nI_mul, z_bitN, z_zb, z_0add, z_add0, z_0or, z_or0, Option.bind_some, decide_eq_true_eq, Nat.zero_add, Nat.add_zero, ↓reduceIte]
  · rcases z_rng 3 (by omega) w with c | ⟨c1, c2⟩ | ⟨v, hv, rfl⟩
    · refine zCs_il (c := 2) (by omega) g (v := nI 0) ?_ ?_
      · simp (discharger := omega) only [f_X8_parish, B_X8_parish_20, e1, zxb_l, zxb_r, c, z8_need0, z_lit, z_nI_le, z_nI_lt, z_nI_inj, z_inb, z_nI_tn, z_nI_add, z_nI_mul, z_bitN, z_zb, z_0add, z_add0, z_0or, z_or0, Option.bind_some, decide_eq_true_eq, Nat.zero_add, Nat.add_zero, ↓reduceIte]
      · simp (decide := true) (discharger := omega) only [f_X9_parish, gn, e2, z9_within, c, l0, z_lit, z_nI_le, z_nI_lt, z_nI_inj, z_inb, z_nI_tn, z_nI_add, z_nI_mul, z_bitN, z_zb, z_0add, z_add0, z_0or, z_or0, Option.bind_some, decide_eq_true_eq, Nat.zero_add, Nat.add_zero, ↓reduceIte]
    · refine zCs_il (c := 2) (by omega) g (v := nI 0) ?_ ?_
      · simp (discharger := omega) only [f_X8_parish, B_X8_parish_20, e1, zxb_l, zxb_r, c1, c2, z8_need0, z_lit, z_nI_le, z_nI_lt, z_nI_inj, z_inb, z_nI_tn, z_nI_add, z_nI_mul, z_bitN, z_zb, z_0add, z_add0, z_0or, z_or0, Option.bind_some, decide_eq_true_eq, Nat.zero_add, Nat.add_zero, ↓reduceIte]
      · simp (decide := true) (discharger := omega) only [f_X9_parish, gn, e2, z9_within, c1, c2, l0, z_lit, z_nI_le, z_nI_lt, z_nI_inj, z_inb, z_nI_tn, z_nI_add, z_nI_mul, z_bitN, z_zb, z_0add, z_add0, z_0or, z_or0, Option.bind_some, decide_eq_true_eq, Nat.zero_add, Nat.add_zero, ↓reduceIte]
    · obtain ⟨N, t1, t2, t3, tS, tD, tY, t4⟩ := h.take (zQM_0 M (nI 0))
      have hp34 : p < 34 := by omega
      have hp10 : p < 10 := by omega
      have w0 := z3_wOf tD hp10
      have v0 := z3_vOf tD (a := 0) (by omega) hp10
      have v1 := z3_vOf tD (a := 1) (by omega) hp10
      have u0 : f_X9_votesOf N (nI p) (nI 0) = _ := z9_votesOf (s := 0) (by omega) hp10
      have u1 : f_X9_votesOf N (nI p) (nI 1) = _ := z9_votesOf (s := 1) (by omega) hp10
      have r0 : f_X3_roadsFrom X (nI p) = some (N 7 p) := by
        unfold f_X3_roadsFrom
        rw [z_at (show p < lenX 6 from hp10) (by decide), h.e.r p hp10, tS.m7]; rfl
      have s10 : nI 1 - nI 1 = nI 0 := by decide
      have s21 : nI 2 - nI 1 = nI 1 := by decide
      have hv4 : v = 0 ∨ v = 1 ∨ v = 2 ∨ v = 3 := by omega
      rcases hv4 with rfl | rfl | rfl | rfl
      · refine zCs_ok h ?_ ?_ (t3 ▸ g0 : N 0 0 = nI 0) (zQX.refl X) t2 (v := N 20 p)
        · simp (decide := true) (discharger := omega) only [f_X8_parish, B_X8_parish_20, e1, zxb_l, z8_need1, w0, v0, v1, r0, z_lit, z_nI_lt, z_nI_inj, Option.bind_some, ↓reduceIte]
        · simp (decide := true) (discharger := omega) only [f_X9_parish, gn, e2, z9_within, l1, t1, hp34, hp10, u0, u1, s10, s21, z_lit, z_nI_le, z_nI_lt, z_nI_inj, z_inb, z_nI_tn, z_nI_add, z_nI_mul, z_bitN, z_zb, z_0add, z_add0, z_0or, z_or0, Option.bind_some, decide_eq_true_eq, Nat.zero_add, Nat.add_zero, ↓reduceIte]
      · refine zCs_ok h ?_ ?_ (t3 ▸ g0 : N 0 0 = nI 0) (zQX.refl X) t2 (v := N 20 (10 + 10 * 0 + p))
        · simp (decide := true) (discharger := omega) only [f_X8_parish, B_X8_parish_20, e1, zxb_l, z8_need1, w0, v0, v1, r0, z_lit, z_nI_lt, z_nI_inj, Option.bind_some, ↓reduceIte]
        · simp (decide := true) (discharger := omega) only [f_X9_parish, gn, e2, z9_within, l1, t1, hp34, hp10, u0, u1, s10, s21, z_lit, z_nI_le, z_nI_lt, z_nI_inj, z_inb, z_nI_tn, z_nI_add, z_nI_mul, z_bitN, z_zb, z_0add, z_add0, z_0or, z_or0, Option.bind_some, decide_eq_true_eq, Nat.zero_add, Nat.add_zero, ↓reduceIte]
      · refine zCs_ok h ?_ ?_ (t3 ▸ g0 : N 0 0 = nI 0) (zQX.refl X) t2 (v := N 20 (10 + 10 * 1 + p))
        · simp (decide := true) (discharger := omega) only [f_X8_parish, B_X8_parish_20, e1, zxb_l, z8_need1, w0, v0, v1, r0, z_lit, z_nI_lt, z_nI_inj, Option.bind_some, ↓reduceIte]
        · simp (decide := true) (discharger := omega) only [f_X9_parish, gn, e2, z9_within, l1, t1, hp34, hp10, u0, u1, s10, s21, z_lit, z_nI_le, z_nI_lt, z_nI_inj, z_inb, z_nI_tn, z_nI_add, z_nI_mul, z_bitN, z_zb, z_0add, z_add0, z_0or, z_or0, Option.bind_some, decide_eq_true_eq, Nat.zero_add, Nat.add_zero, ↓reduceIte]
      · refine zCs_ok h ?_ ?_ (t3 ▸ g0 : N 0 0 = nI 0) (zQX.refl X) t2 (v := N 7 p)
        · simp (decide := true) (discharger := omega) only [f_X8_parish, B_X8_parish_20, e1, zxb_l, z8_need1, w0, v0, v1, r0, z_lit, z_nI_lt, z_nI_inj, Option.bind_some, ↓reduceIte]
        · simp (decide := true) (discharger := omega) only [f_X9_parish, gn, e2, z9_within, l1, t1, hp34, hp10, u0, u1, s10, s21, z_lit, z_nI_le, z_nI_lt, z_nI_inj, z_inb, z_nI_tn, z_nI_add, z_nI_mul, z_bitN, z_zb, z_0add, z_add0, z_0or, z_or0, Option.bind_some, decide_eq_true_eq, Nat.zero_add, Nat.add_zero, ↓reduceIte]
theorem z_ward {n : Nat} {X M : TX} (h : zV n X M) (x w : Int32) : zCs (some (nI 1)) (some (nI 2)) (f_X8_ward X x w) (f_X9_ward M x w) := by
  have h10 := h.e.n10
  have g := h.q (zQX.refl X) (zQM_0 M (nI 0))
  have g0 : u2 M 0 0 (nI 0) 0 0 = nI 0 := z_u2s _ _ _ _
  have l1 := z9_lets1 g0 (nI 2) (nI 1)
  have l0 := z9_lets0 g0 (c := 2) (j := 1) (by omega) (by omega)
  rcases z_nwS (X := X) g0 x with ⟨e1, e2⟩ | ⟨p, hp, rfl, e1, e2⟩
  · refine zCs_no g (v := nI 0) ?_ ?_
    · simp only [f_X8_ward, e1, Option.bind_some, zxb_r]
    · simp (discharger := omega) only [f_X9_ward, z_lit, e2, z_lit, z_nI_le, z_nI_lt, z_nI_inj, z_inb, z_nI_tn, z_nI_add, z_nI_mul, z_bitN, z_zb, z_0add, z_add0, z_0or, z_or0, Option.bind_some, decide_eq_true_eq, Nat.zero_add, Nat.add_zero, ↓reduceIte]
  · rcases z_rng 4 (by omega) w with c | ⟨c1, c2⟩ | ⟨v, hv, rfl⟩
    · refine zCs_il (c := 2) (by omega) g (v := nI 0) ?_ ?_
      · simp (discharger := omega) only [f_X8_ward, B_X8_ward_20, e1, zxb_l, zxb_r, c, z8_need0, z_lit, z_nI_le, z_nI_lt, z_nI_inj, z_inb, z_nI_tn, z_nI_add, z_nI_mul, z_bitN, z_zb, z_0add, z_add0, z_0or, z_or0, Option.bind_some, decide_eq_true_eq, Nat.zero_add, Nat.add_zero, ↓reduceIte]
      · simp (decide := true) (discharger := omega) only [f_X9_ward, e2, z9_within, c, l0, z_lit, z_nI_le, z_nI_lt, z_nI_inj, z_inb, z_nI_tn, z_nI_add, z_nI_mul, z_bitN, z_zb, z_0add, z_add0, z_0or, z_or0, Option.bind_some, decide_eq_true_eq, Nat.zero_add, Nat.add_zero, ↓reduceIte]
    · refine zCs_il (c := 2) (by omega) g (v := nI 0) ?_ ?_
      · simp (discharger := omega) only [f_X8_ward, B_X8_ward_20, e1, zxb_l, zxb_r, c1, c2, z8_need0, z_lit, z_nI_le, z_nI_lt, z_nI_inj, z_inb, z_nI_tn, z_nI_add, z_nI_mul, z_bitN, z_zb, z_0add, z_add0, z_0or, z_or0, Option.bind_some, decide_eq_true_eq, Nat.zero_add, Nat.add_zero, ↓reduceIte]
      · simp (decide := true) (discharger := omega) only [f_X9_ward, e2, z9_within, c1, c2, l0, z_lit, z_nI_le, z_nI_lt, z_nI_inj, z_inb, z_nI_tn, z_nI_add, z_nI_mul, z_bitN, z_zb, z_0add, z_add0, z_0or, z_or0, Option.bind_some, decide_eq_true_eq, Nat.zero_add, Nat.add_zero, ↓reduceIte]
    · obtain ⟨N, t1, t2, t3, tS, tD, tY, t4⟩ := h.take (zQM_0 M (nI 0))
      have hn : N 0 19 = nI n := tS.a19.trans h.e.kn
      have m0 := z3_mOf tD hp
      have v0 := z3_wV h.e tD (a := 0) (by omega) (nI p)
      have v1 := z3_wV h.e tD (a := 1) (by omega) (nI p)
      have wi := z3_win tD hp
      have hg := z3_hang h.e (S := zSet n (N 20) (nI p)) (fun q hq => by rw [bt_zSet (by omega)] at hq; simp at hq; omega)
      rw [← tS.m7] at hg
      have u0 : f_X9_votesIn N (zSet n (N 20) (nI p)) (nI 0) = _ := z9_votesInSet hn h10 (nI p) (s := 0) (by omega)
      have u1 : f_X9_votesIn N (zSet n (N 20) (nI p)) (nI 1) = _ := z9_votesInSet hn h10 (nI p) (s := 1) (by omega)
      have uw := z9_win hn h10 p
      have us := z9_setOf hn h10 (nI p)
      have uh := z9_hangs hn h10 (zSet n (N 20) (nI p))
      have s10 : nI 1 - nI 1 = nI 0 := by decide
      have s21 : nI 2 - nI 1 = nI 1 := by decide
      have hv4 : v = 0 ∨ v = 1 ∨ v = 2 ∨ v = 3 ∨ v = 4 := by omega
      rcases hv4 with rfl | rfl | rfl | rfl | rfl
      · refine zCs_ok h ?_ ?_ (t3 ▸ g0 : N 0 0 = nI 0) (zQX.refl X) t2 (v := zSet n (N 20) (nI p))
        · simp (decide := true) (discharger := omega) only [f_X8_ward, B_X8_ward_20, e1, zxb_l, z8_need1, m0, z_lit, z_nI_le, z_nI_lt, z_nI_inj, z_inb, z_nI_tn, z_nI_add, z_nI_mul, z_bitN, z_zb, z_0add, z_add0, z_0or, z_or0, Option.bind_some, decide_eq_true_eq, Nat.zero_add, Nat.add_zero, ↓reduceIte]
        · simp (decide := true) (discharger := omega) only [f_X9_ward, e2, z9_within, l1, t1, us, z_lit, z_nI_le, z_nI_lt, z_nI_inj, z_inb, z_nI_tn, z_nI_add, z_nI_mul, z_bitN, z_zb, z_0add, z_add0, z_0or, z_or0, Option.bind_some, decide_eq_true_eq, Nat.zero_add, Nat.add_zero, ↓reduceIte]
      · refine zCs_ok h ?_ ?_ (t3 ▸ g0 : N 0 0 = nI 0) (zQX.refl X) t2 (v := zVot n (N 20) (fun p => N 20 (10 + 10 * 0 + p)) (nI p))
        · simp (decide := true) (discharger := omega) only [f_X8_ward, B_X8_ward_20, e1, zxb_l, z8_need1, v0, z_lit, z_nI_lt, z_nI_inj, Option.bind_some, ↓reduceIte]
        · simp (decide := true) (discharger := omega) only [f_X9_ward, e2, z9_within, l1, t1, us, s10, u0, z_lit, z_nI_lt, z_nI_inj, Option.bind_some, ↓reduceIte]
      · refine zCs_ok h ?_ ?_ (t3 ▸ g0 : N 0 0 = nI 0) (zQX.refl X) t2 (v := zVot n (N 20) (fun p => N 20 (10 + 10 * 1 + p)) (nI p))
        · simp (decide := true) (discharger := omega) only [f_X8_ward, B_X8_ward_20, e1, zxb_l, z8_need1, v1, z_lit, z_nI_lt, z_nI_inj, Option.bind_some, ↓reduceIte]
        · simp (decide := true) (discharger := omega) only [f_X9_ward, e2, z9_within, l1, t1, us, s21, u1, z_lit, z_nI_lt, z_nI_inj, Option.bind_some, ↓reduceIte]
      · refine zCs_ok h ?_ ?_ (t3 ▸ g0 : N 0 0 = nI 0) (zQX.refl X) t2 (v := zWin (zLc n (N 20) p))
        · simp (decide := true) (discharger := omega) only [f_X8_ward, B_X8_ward_20, e1, zxb_l, z8_need1, wi, z_lit, z_nI_le, z_nI_lt, z_nI_inj, z_inb, z_nI_tn, z_nI_add, z_nI_mul, z_bitN, z_zb, z_0add, z_add0, z_0or, z_or0, Option.bind_some, decide_eq_true_eq, Nat.zero_add, Nat.add_zero, ↓reduceIte]
        · simp (decide := true) (discharger := omega) only [f_X9_ward, e2, z9_within, l1, t1, us, uw, z_lit, z_nI_le, z_nI_lt, z_nI_inj, z_inb, z_nI_tn, z_nI_add, z_nI_mul, z_bitN, z_zb, z_0add, z_add0, z_0or, z_or0, Option.bind_some, decide_eq_true_eq, Nat.zero_add, Nat.add_zero, ↓reduceIte]
      · refine zCs_ok h ?_ ?_ (t3 ▸ g0 : N 0 0 = nI 0) (zQX.refl X) t2 (v := if zSet n (N 20) (nI p) = nI 0 ∨ zHang (N 7) n (zSet n (N 20) (nI p)) = true then nI 1 else nI 0)
        · by_cases c : zSet n (N 20) (nI p) = nI 0 ∨ zHang (N 7) n (zSet n (N 20) (nI p)) = true
          · rw [if_pos c] at hg ⊢
            simp (decide := true) (discharger := omega) only [f_X8_ward, B_X8_ward_20, e1, zxb_l, z8_need1, m0, hg, z_lit, z_nI_le, z_nI_lt, z_nI_inj, z_inb, z_nI_tn, z_nI_add, z_nI_mul, z_bitN, z_zb, z_0add, z_add0, z_0or, z_or0, Option.bind_some, decide_eq_true_eq, Nat.zero_add, Nat.add_zero, ↓reduceIte]
          · rw [if_neg c] at hg ⊢
            simp (decide := true) (discharger := omega) only [f_X8_ward, B_X8_ward_20, e1, zxb_l, z8_need1, m0, hg, z_lit, z_nI_le, z_nI_lt, z_nI_inj, z_inb, z_nI_tn, z_nI_add, z_nI_mul, z_bitN, z_zb, z_0add, z_add0, z_0or, z_or0, Option.bind_some, decide_eq_true_eq, Nat.zero_add, Nat.add_zero, ↓reduceIte]
        · by_cases c : zSet n (N 20) (nI p) = nI 0 ∨ zHang (N 7) n (zSet n (N 20) (nI p)) = true
          · rw [if_pos c] at uh ⊢
            simp (decide := true) (discharger := omega) only [f_X9_ward, e2, z9_within, l1, t1, us, uh, z_lit, z_nI_le, z_nI_lt, z_nI_inj, z_inb, z_nI_tn, z_nI_add, z_nI_mul, z_bitN, z_zb, z_0add, z_add0, z_0or, z_or0, Option.bind_some, decide_eq_true_eq, Nat.zero_add, Nat.add_zero, ↓reduceIte]
          · rw [if_neg c] at uh ⊢
            simp (decide := true) (discharger := omega) only [f_X9_ward, e2, z9_within, l1, t1, us, uh, z_lit, z_nI_le, z_nI_lt, z_nI_inj, z_inb, z_nI_tn, z_nI_add, z_nI_mul, z_bitN, z_zb, z_0add, z_add0, z_0or, z_or0, Option.bind_some, decide_eq_true_eq, Nat.zero_add, Nat.add_zero, ↓reduceIte]
