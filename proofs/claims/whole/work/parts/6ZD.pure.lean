set_option linter.unusedVariables false
theorem z9_side80 {n : Nat} {M : TX} (hn : M 0 19 = nI n) (h10 : n ≤ 10) (a : Int32) : ∃ y, L_X9_side_80 FU M a (nI 0) (nI 0) = some (M, y) ∧ ∀ q, bt y q = (decide (q < 4) && decide (zWin (zLc n (M 20) q) = a)) := by
  refine ⟨_, z_loop (fun f i y => L_X9_side_80 f M a y i) (fun d y => if zWin (zLc n (M 20) d) = a then y ||| zb d else y) (fun y => some (M, y)) 4 ?_ ?_ 4 0 FU (nI 0) (by omega) (by unfold FU; omega), ?_⟩
  · intro f i y h
    subst h
    simp (discharger := omega) only [L_X9_side_80, z_lit, z_nI_le, z_nI_lt, z_nI_inj, z_inb, z_nI_tn, z_nI_add, z_nI_mul, z_bitN, z_zb, z_0add, z_add0, z_0or, z_or0, Option.bind_some, decide_eq_true_eq, Nat.zero_add, Nat.add_zero, Nat.le_refl, ↓reduceIte]
  · intro f i y h
    have h1 : ¬ 4 ≤ i := by omega
    by_cases c : zWin (zLc n (M 20) i) = a
    · simp (discharger := omega) only [L_X9_side_80, h1, z9_win hn h10, c, z_lit, z_nI_le, z_nI_lt, z_nI_inj, z_inb, z_nI_tn, z_nI_add, z_nI_mul, z_bitN, z_zb, z_0add, z_add0, z_0or, z_or0, Option.bind_some, decide_eq_true_eq, Nat.zero_add, Nat.add_zero, ↓reduceIte]
    · simp (discharger := omega) only [L_X9_side_80, h1, z9_win hn h10, c, z_lit, z_nI_le, z_nI_lt, z_nI_inj, z_inb, z_nI_tn, z_nI_add, z_nI_mul, z_bitN, z_zb, z_0add, z_add0, z_0or, z_or0, Option.bind_some, decide_eq_true_eq, Nat.zero_add, Nat.add_zero, ↓reduceIte]
  · refine zF_inv _ (fun i y => ∀ q, bt y q = (decide (q < i) && decide (zWin (zLc n (M 20) q) = a))) 4 0 (nI 0) (fun q => by simp [bt_nI0]) fun j y _ h2 hj q => ?_
    by_cases c : zWin (zLc n (M 20) j) = a
    · rw [if_pos c, bt_or, bt_zb (by omega), hj]
      by_cases e : q = j
      · subst e; simp [c]
      · have h1 : q < j + 1 ↔ q < j := by omega
        have h2 : ¬ j = q := fun h => e h.symm
        simp [h1, h2]
    · rw [if_neg c, hj]
      by_cases e : q = j
      · subst e; simp [c]
      · have : q < j + 1 ↔ q < j := by omega
        simp [this]
theorem z_side {n : Nat} {X M : TX} (h : zV n X M) (x w : Int32) : zCs (some (nI 1)) (some (nI 2)) (f_X8_side X x w) (f_X9_side M x w) := by
  have h10 := h.e.n10
  have g := h.q (zQX.refl X) (zQM_0 M (nI 0))
  have g0 : u2 M 0 0 (nI 0) 0 0 = nI 0 := z_u2s _ _ _ _
  have l1 := z9_lets1 g0 (nI 2) (nI 1)
  have l0 := z9_lets0 g0 (c := 2) (j := 1) (by omega) (by omega)
  rcases z_nsS (X := X) g0 x with ⟨e1, e2⟩ | ⟨p, hp, rfl, e1, e2⟩
  · refine zCs_no g (v := nI 0) ?_ ?_
    · simp only [f_X8_side, e1, Option.bind_some, zxb_r]
    · simp (discharger := omega) only [f_X9_side, z_lit, e2, z_lit, z_nI_le, z_nI_lt, z_nI_inj, z_inb, z_nI_tn, z_nI_add, z_nI_mul, z_bitN, z_zb, z_0add, z_add0, z_0or, z_or0, Option.bind_some, decide_eq_true_eq, Nat.zero_add, Nat.add_zero, ↓reduceIte]
  · rcases z_rng 3 (by omega) w with c | ⟨c1, c2⟩ | ⟨v, hv, rfl⟩
    · refine zCs_il (c := 2) (by omega) g (v := nI 0) ?_ ?_
      · simp (discharger := omega) only [f_X8_side, B_X8_side_20, e1, zxb_l, zxb_r, c, z8_need0, z_lit, z_nI_le, z_nI_lt, z_nI_inj, z_inb, z_nI_tn, z_nI_add, z_nI_mul, z_bitN, z_zb, z_0add, z_add0, z_0or, z_or0, Option.bind_some, decide_eq_true_eq, Nat.zero_add, Nat.add_zero, ↓reduceIte]
      · simp (decide := true) (discharger := omega) only [f_X9_side, e2, z9_within, c, l0, z_lit, z_nI_le, z_nI_lt, z_nI_inj, z_inb, z_nI_tn, z_nI_add, z_nI_mul, z_bitN, z_zb, z_0add, z_add0, z_0or, z_or0, Option.bind_some, decide_eq_true_eq, Nat.zero_add, Nat.add_zero, ↓reduceIte]
    · refine zCs_il (c := 2) (by omega) g (v := nI 0) ?_ ?_
      · simp (discharger := omega) only [f_X8_side, B_X8_side_20, e1, zxb_l, zxb_r, c1, c2, z8_need0, z_lit, z_nI_le, z_nI_lt, z_nI_inj, z_inb, z_nI_tn, z_nI_add, z_nI_mul, z_bitN, z_zb, z_0add, z_add0, z_0or, z_or0, Option.bind_some, decide_eq_true_eq, Nat.zero_add, Nat.add_zero, ↓reduceIte]
      · simp (decide := true) (discharger := omega) only [f_X9_side, e2, z9_within, c1, c2, l0, z_lit, z_nI_le, z_nI_lt, z_nI_inj, z_inb, z_nI_tn, z_nI_add, z_nI_mul, z_bitN, z_zb, z_0add, z_add0, z_0or, z_or0, Option.bind_some, decide_eq_true_eq, Nat.zero_add, Nat.add_zero, ↓reduceIte]
    · obtain ⟨N, t1, t2, t3, tS, tD, tY, t4⟩ := h.take (zQM_0 M (nI 0))
      have hn : N 0 19 = nI n := tS.a19.trans h.e.kn
      have n0 : N 0 0 = nI 0 := t3 ▸ g0
      obtain ⟨y, y1, y2⟩ := z3_wonBy tD (nI p)
      obtain ⟨z, z1, z2⟩ := z9_side80 hn h10 (nI p)
      have hyz : y = z := bt_ext fun q _ => (y2 q).trans (z2 q).symm
      subst hyz
      have bc : f_J6_bitCount_0f7a4 y = some (zSeat (zLc n (N 20)) (nI p)) := by
        rw [zSeat_bits y2]
        exact z_bc fun q hq => by rw [y2] at hq; simp at hq; omega
      have us : f_X9_seatsOf N (nI p) = some (zSeat (zLc n (N 20)) (nI p)) := z9_seatsOf hn h10 (nI p)
      have a0 := z3_all h.e tD hp
      obtain ⟨e, b1, b2⟩ := z9_all hn h10 hp
      have mg := tD.margin (nI p)
      have mg9 := z9_mg hn h10 hp
      have hv4 : v = 0 ∨ v = 1 ∨ v = 2 ∨ v = 3 := by omega
      have nd : f_X8_need X (1 : Int32) = some (X, .inl ()) := z8_need1 X
      have l1' : f_X9_lets (u2 M 0 0 (nI 0)) (nI 1) (2 : Int32) (1 : Int32) = some (u2 M 0 0 (nI 0), nI 1) := l1
      have e2' : f_X9_isThere (u2 M 0 0 (0 : Int32)) (nI p) (2 : Int32) = some (u2 M 0 0 (nI 0), nI 1) := e2
      have hc : ∀ v, v ≤ 3 → ¬ nI v < (0 : Int32) ∧ ¬ (3 : Int32) < nI v := fun v hv => ⟨z_nI_nn (by omega), fun h => by
        have := (z_nI_lt (i := 3) (j := v) (by omega) (by omega)).1 h
        omega⟩
      have hx : ∀ v, v ≤ 3 → f_X8_side X (nI p) (nI v) = B_X8_side_20 X (nI p) (nI v) (1 : Int32) := fun v hv => by
        unfold f_X8_side
        rw [e1, Option.bind_some, zxb_l]
        show (if nI v < (0 : Int32) then _ else _) = _
        rw [if_neg (hc v hv).1, if_neg (hc v hv).2]
      have hm : ∀ v, v ≤ 3 → f_X9_side M (nI p) (nI v) = if (3 : Int32) ≤ nI v then L_X9_side_80 FU N (nI p) (0 : Int32) (0 : Int32) else (if nI v = 0 then ((f_X9_seatsOf N (nI p)).bind fun q16 => some (N, q16)) else (if nI v = (1 : Int32) then ((f_X9_everybody N).bind fun q14 => (f_X9_votesIn N q14 (nI p)).bind fun q15 => some (N, q15)) else ((f_X9_marginOf N (nI p)).bind fun q13 => some (N, q13)))) := fun v hv => by
        unfold f_X9_side
        rw [e2', Option.bind_some, if_neg z_n10, z9_in (hc v hv).1 (hc v hv).2, Option.bind_some, l1', Option.bind_some, if_neg z_n10, t1, Option.bind_some]
      rcases hv4 with rfl | rfl | rfl | rfl
      · refine zCs_ok h ?_ ?_ n0 (zQX.refl X) t2 (v := zSeat (zLc n (N 20)) (nI p))
        · rw [hx _ (by omega)]; unfold B_X8_side_20
          rw [nd, Option.bind_some, zxb_l, if_pos (by decide), y1, Option.bind_some, bc, Option.bind_some]
        · rw [hm _ (by omega), if_neg (by decide), if_pos (by decide), us, Option.bind_some]
      · refine zCs_ok h ?_ ?_ n0 (zQX.refl X) t2 (v := zAll n (N 20) p)
        · rw [hx _ (by omega)]; unfold B_X8_side_20
          rw [nd, Option.bind_some, zxb_l, if_neg (by decide), if_pos (by decide), a0, Option.bind_some]
        · rw [hm _ (by omega), if_neg (by decide), if_neg (by decide), if_pos (by decide), b1, Option.bind_some, b2, Option.bind_some]
      · refine zCs_ok h ?_ ?_ n0 (zQX.refl X) t2 (v := zMg n (N 20) (nI p))
        · rw [hx _ (by omega)]; unfold B_X8_side_20
          rw [nd, Option.bind_some, zxb_l, if_neg (by decide), if_neg (by decide), if_pos (by decide), mg, Option.bind_some]
        · rw [hm _ (by omega), if_neg (by decide), if_neg (by decide), if_neg (by decide), mg9, Option.bind_some]
      · refine zCs_ok h ?_ ?_ n0 (zQX.refl X) t2 (v := y)
        · rw [hx _ (by omega)]; unfold B_X8_side_20
          rw [nd, Option.bind_some, zxb_l, if_neg (by decide), if_neg (by decide), if_neg (by decide), y1, Option.bind_some]
        · rw [hm _ (by omega), if_pos (by decide)]; exact z1
