set_option linter.unusedVariables false
theorem zQX_p {X Y : TX} (h : ∀ k, k ≠ 21 → k ≠ 22 → Y k = X k) : zQX X Y := ⟨fun k a b _ _ _ _ _ => h k a b, by rw [h 27 (by decide) (by decide)]⟩
theorem zQM_p {M N : TX} (h : ∀ k, k ≠ 13 → k ≠ 14 → N k = M k) : zQM M N := ⟨fun k _ a b _ _ _ _ => h k a b, fun j _ _ => by rw [h 0 (by decide) (by decide)]⟩
theorem z_costQ {n : Nat} {X M : TX} (h : zV n X M) (x w : Int32) : zCs (some (nI 1)) none (f_X8_cost X x w) (f_X9_cost M x w) := by
  have h10 := h.e.n10
  have g := h.q (zQX.refl X) (zQM_0 M (nI 0))
  have g0 : u2 M 0 0 (nI 0) 0 0 = nI 0 := z_u2s _ _ _ _
  have gn : u2 M 0 0 (nI 0) 0 19 = nI n := by rw [z_u2j _ _ _ _ (by decide)]; exact h.e.kn
  rcases z_npS h x with ⟨e1, e2⟩ | ⟨p, hp, rfl, e1, e2⟩
  · refine zCs_no g (v := nI 0) ?_ ?_
    · simp only [f_X8_cost, e1, Option.bind_some, zxb_r]
    · simp (discharger := omega) only [f_X9_cost, z_lit, gn, e2, z_lit, z_nI_le, z_nI_lt, z_nI_inj, z_inb, z_nI_tn, z_nI_add, z_nI_mul, z_bitN, z_zb, z_0add, z_add0, z_0or, z_or0, Option.bind_some, decide_eq_true_eq, Nat.zero_add, Nat.add_zero, ↓reduceIte]
  · rcases z_nwS (X := X) g0 w with ⟨f1, f2⟩ | ⟨d, hd, rfl, f1, f2⟩
    · refine zCs_no g (v := nI 0) ?_ ?_
      · simp only [f_X8_cost, e1, f1, Option.bind_some, zxb_l, zxb_r]
      · simp (decide := true) (discharger := omega) only [f_X9_cost, z_lit, gn, e2, f2, z_lit, z_nI_le, z_nI_lt, z_nI_inj, z_inb, z_nI_tn, z_nI_add, z_nI_mul, z_bitN, z_zb, z_0add, z_add0, z_0or, z_or0, Option.bind_some, decide_eq_true_eq, Nat.zero_add, Nat.add_zero, ↓reduceIte]
    · obtain ⟨N, t1, t2, t3, tS, tD, tY, t4⟩ := h.take (zQM_0 M (nI 0))
      obtain ⟨X', k1, k2⟩ := z2_priceOf h.e tD hp hd
      obtain ⟨N', m1, m2⟩ := z9_costBy h.e tD tS rfl hp hd
      have n0 : N' 0 0 = nI 0 := by rw [m2 0 (by decide) (by decide), t3]; exact g0
      refine zCs_ok h ?_ ?_ n0 (zQX_p k2) (t2.trans (zQM_p m2)) (v := zCost M (N 20) p d)
      · simp only [f_X8_cost, e1, f1, k1, Option.bind_some, zxb_l]
      · simp (decide := true) (discharger := omega) only [f_X9_cost, z_lit, gn, e2, f2, t1, m1, z_lit, z_nI_le, z_nI_lt, z_nI_inj, z_inb, z_nI_tn, z_nI_add, z_nI_mul, z_bitN, z_zb, z_0add, z_add0, z_0or, z_or0, Option.bind_some, decide_eq_true_eq, Nat.zero_add, Nat.add_zero, ↓reduceIte]
theorem z_may {n : Nat} {X M : TX} (h : zV n X M) (x : Int32) : zCs (some (nI 1)) none (f_X8_may X x) (f_X9_may M x) := by
  have h10 := h.e.n10
  have g := h.q (zQX.refl X) (zQM_0 M (nI 0))
  have g0 : u2 M 0 0 (nI 0) 0 0 = nI 0 := z_u2s _ _ _ _
  have gn : u2 M 0 0 (nI 0) 0 19 = nI n := by rw [z_u2j _ _ _ _ (by decide)]; exact h.e.kn
  rcases z_npS h x with ⟨e1, e2⟩ | ⟨p, hp, rfl, e1, e2⟩
  · refine zCs_no g (v := nI 0) ?_ ?_
    · simp only [f_X8_may, e1, Option.bind_some, zxb_r]
    · simp (discharger := omega) only [f_X9_may, z_lit, gn, e2, z_lit, z_nI_le, z_nI_lt, z_nI_inj, z_inb, z_nI_tn, z_nI_add, z_nI_mul, z_bitN, z_zb, z_0add, z_add0, z_0or, z_or0, Option.bind_some, decide_eq_true_eq, Nat.zero_add, Nat.add_zero, ↓reduceIte]
  · obtain ⟨N, t1, t2, t3, tS, tD, tY, t4⟩ := h.take (zQM_0 M (nI 0))
    have hn : N 0 19 = nI n := tS.a19.trans h.e.kn
    have n0 : N 0 0 = nI 0 := t3 ▸ g0
    obtain ⟨o, o1, o2⟩ := z3_openB h.e tD hp
    have hm : ∀ d, f_X9_mayCome N (nI p) (nI d) = _ := fun d => z9_mayCome hn h10 hp (nI d)
    rw [tS.m7] at hm
    obtain ⟨y, y1, y2⟩ : ∃ y, L_X9_may_27 FU N (nI p) (nI 0) (nI 0) = some (N, y) ∧ ∀ q, bt y q = (decide (q < 4) && zMay (M 7) (N 20) n p (nI q)) := by
      refine ⟨_, z_loop (fun f i y => L_X9_may_27 f N (nI p) y i) (fun d y => if zMay (M 7) (N 20) n p (nI d) = true then y ||| zb d else y) (fun y => some (N, y)) 4 ?_ ?_ 4 0 FU (nI 0) (by omega) (by unfold FU; omega), ?_⟩
      · intro f i y h
        subst h
        simp (discharger := omega) only [L_X9_may_27, z_lit, z_nI_le, z_nI_lt, z_nI_inj, z_inb, z_nI_tn, z_nI_add, z_nI_mul, z_bitN, z_zb, z_0add, z_add0, z_0or, z_or0, Option.bind_some, decide_eq_true_eq, Nat.zero_add, Nat.add_zero, Nat.le_refl, ↓reduceIte]
      · intro f i y h
        have h1 : ¬ 4 ≤ i := by omega
        have hmi := hm i
        by_cases c : zMay (M 7) (N 20) n p (nI i) = true
        · rw [if_pos c] at hmi
          simp (decide := true) (discharger := omega) only [L_X9_may_27, h1, hmi, c, z_lit, z_nI_le, z_nI_lt, z_nI_inj, z_inb, z_nI_tn, z_nI_add, z_nI_mul, z_bitN, z_zb, z_0add, z_add0, z_0or, z_or0, Option.bind_some, decide_eq_true_eq, Nat.zero_add, Nat.add_zero, ↓reduceIte]
        · rw [if_neg c] at hmi
          simp (decide := true) (discharger := omega) only [L_X9_may_27, h1, hmi, c, z_lit, z_nI_le, z_nI_lt, z_nI_inj, z_inb, z_nI_tn, z_nI_add, z_nI_mul, z_bitN, z_zb, z_0add, z_add0, z_0or, z_or0, Option.bind_some, decide_eq_true_eq, Nat.zero_add, Nat.add_zero, ↓reduceIte]
      · refine zF_inv _ (fun i y => ∀ q, bt y q = (decide (q < i) && zMay (M 7) (N 20) n p (nI q))) 4 0 (nI 0) (fun q => by simp [bt_nI0]) fun j y _ h2 hj q => ?_
        by_cases c : zMay (M 7) (N 20) n p (nI j) = true
        · rw [if_pos c, bt_or, bt_zb (by omega), hj]
          by_cases e : q = j
          · subst e; simp [c]
          · have h1 : q < j + 1 ↔ q < j := by omega
            have h2 : ¬ j = q := fun h => e h.symm
            simp [h1, h2]
        · rw [if_neg c, hj]
          by_cases e : q = j
          · subst e; simp [c]
          · have : q < j + 1 ↔ q < j := by omega
            simp [this]
    have hoy : o = y := bt_ext fun q _ => (o2 q).trans (y2 q).symm
    subst hoy
    refine zCs_ok h ?_ ?_ n0 (zQX.refl X) t2 (v := o)
    · simp only [f_X8_may, e1, o1, Option.bind_some, zxb_l]
    · simp (decide := true) (discharger := omega) only [f_X9_may, z_lit, gn, e2, t1, y1, z_lit, z_nI_le, z_nI_lt, z_nI_inj, z_inb, z_nI_tn, z_nI_add, z_nI_mul, z_bitN, z_zb, z_0add, z_add0, z_0or, z_or0, Option.bind_some, decide_eq_true_eq, Nat.zero_add, Nat.add_zero, ↓reduceIte]
theorem z9_in {x a b : Int32} (h1 : ¬ x < a) (h2 : ¬ b < x) : f_X9_within x a b = some (nI 1) := by rw [z9_within, if_neg h1, if_neg h2]
theorem z9_lo {x a b : Int32} (h1 : x < a) : f_X9_within x a b = some (nI 0) := by rw [z9_within, if_pos h1]
theorem z9_hi {x a b : Int32} (h1 : ¬ x < a) (h2 : b < x) : f_X9_within x a b = some (nI 0) := by rw [z9_within, if_neg h1, if_pos h2]
theorem z_n10 : ¬ (nI 1 = (0 : Int32)) := by decide
theorem z_n00 : nI 0 = (0 : Int32) := rfl
theorem zw0_29 (X : TX) (x1 x2 x3 x4 x5 x6 x7 x8 : Int32) : B_X8_would_29 X x1 x2 x3 x4 x5 x6 x7 x8 (0 : Int32) = some (u2 X 0 13 (X 0 13 + nI 1), .inr 1) := by
  have e : f_X8_need X (0 : Int32) = some (u2 X 0 13 (X 0 13 + nI 1), .inr 1) := z8_need0 X
  unfold B_X8_would_29
  rw [e]; rfl
theorem zw0_60 (X : TX) (x1 x2 x3 x4 x5 x6 x7 x8 : Int32) : B_X8_would_60 X x1 x2 x3 x4 x5 x6 x7 x8 (0 : Int32) = some (u2 X 0 13 (X 0 13 + nI 1), .inr 1) := by
  have e : f_X8_need X (0 : Int32) = some (u2 X 0 13 (X 0 13 + nI 1), .inr 1) := z8_need0 X
  unfold B_X8_would_60
  rw [e]; rfl
theorem zw0_94 (X : TX) (x1 x2 x3 x4 x5 x6 x7 x8 : Int32) : B_X8_would_94 X x1 x2 x3 x4 x5 x6 x7 x8 (0 : Int32) = some (u2 X 0 13 (X 0 13 + nI 1), .inr 1) := by
  have e : f_X8_need X (0 : Int32) = some (u2 X 0 13 (X 0 13 + nI 1), .inr 1) := z8_need0 X
  unfold B_X8_would_94
  rw [e]; rfl
theorem zw0_128 (X : TX) (x1 x2 x3 x4 x5 x6 x7 x8 : Int32) : B_X8_would_128 X x1 x2 x3 x4 x5 x6 x7 x8 (0 : Int32) = some (u2 X 0 13 (X 0 13 + nI 1), .inr 1) := by
  have e : f_X8_need X (0 : Int32) = some (u2 X 0 13 (X 0 13 + nI 1), .inr 1) := z8_need0 X
  unfold B_X8_would_128
  rw [e]; rfl
theorem zw1_29 (X : TX) (x1 x2 x3 x4 x5 x6 x7 x8 : Int32) (h1 : ¬ x3 < (0 : Int32)) (h2 : ¬ (10 : Int32) < x3) (h3 : ¬ x4 < (0 : Int32)) (h4 : ¬ (10 : Int32) < x4) : B_X8_would_29 X x1 x2 x3 x4 x5 x6 x7 x8 (1 : Int32) = B_X8_would_60 X x1 x2 x3 x4 x5 x6 x7 x8 (1 : Int32) := by
  have e : f_X8_need X (1 : Int32) = some (X, .inl ()) := z8_need1 X
  unfold B_X8_would_29
  rw [e, Option.bind_some, zxb_l]
  show (if x3 < 0 then _ else _) = _
  rw [if_neg h1, if_neg h2, if_neg h3, if_neg h4]
theorem zwr_29 (X : TX) (x1 x2 x3 x4 x5 x6 x7 x8 : Int32) (h : x3 < (0 : Int32) ∨ (¬ x3 < (0 : Int32) ∧ ((10 : Int32) < x3 ∨ (¬ (10 : Int32) < x3 ∧ (x4 < (0 : Int32) ∨ (¬ x4 < (0 : Int32) ∧ (10 : Int32) < x4)))))) : B_X8_would_29 X x1 x2 x3 x4 x5 x6 x7 x8 (1 : Int32) = some (u2 X 0 13 (X 0 13 + nI 1), .inr 1) := by
  have e : f_X8_need X (1 : Int32) = some (X, .inl ()) := z8_need1 X
  unfold B_X8_would_29
  rw [e, Option.bind_some, zxb_l]
  show (if x3 < 0 then _ else _) = _
  rcases h with h | ⟨h1, h | ⟨h2, h | ⟨h3, h⟩⟩⟩
  · rw [if_pos h, zw0_60]
  · rw [if_neg h1, if_pos h, zw0_60]
  · rw [if_neg h1, if_neg h2, if_pos h, zw0_60]
  · rw [if_neg h1, if_neg h2, if_neg h3, if_pos h, zw0_60]
theorem zw1_60 (X : TX) (x1 x2 x3 x4 x5 x6 x7 x8 : Int32) (h1 : ¬ x5 < (0 : Int32)) (h2 : ¬ (60 : Int32) < x5) (h3 : ¬ x6 < (0 : Int32)) (h4 : ¬ (400 : Int32) < x6) : B_X8_would_60 X x1 x2 x3 x4 x5 x6 x7 x8 (1 : Int32) = B_X8_would_94 X x1 x2 x3 x4 x5 x6 x7 x8 (1 : Int32) := by
  have e : f_X8_need X (1 : Int32) = some (X, .inl ()) := z8_need1 X
  unfold B_X8_would_60
  rw [e, Option.bind_some, zxb_l]
  show (if x5 < 0 then _ else _) = _
  rw [if_neg h1, if_neg h2, if_neg h3, if_neg h4]
theorem zwr_60 (X : TX) (x1 x2 x3 x4 x5 x6 x7 x8 : Int32) (h : x5 < (0 : Int32) ∨ (¬ x5 < (0 : Int32) ∧ ((60 : Int32) < x5 ∨ (¬ (60 : Int32) < x5 ∧ (x6 < (0 : Int32) ∨ (¬ x6 < (0 : Int32) ∧ (400 : Int32) < x6)))))) : B_X8_would_60 X x1 x2 x3 x4 x5 x6 x7 x8 (1 : Int32) = some (u2 X 0 13 (X 0 13 + nI 1), .inr 1) := by
  have e : f_X8_need X (1 : Int32) = some (X, .inl ()) := z8_need1 X
  unfold B_X8_would_60
  rw [e, Option.bind_some, zxb_l]
  show (if x5 < 0 then _ else _) = _
  rcases h with h | ⟨h1, h | ⟨h2, h | ⟨h3, h⟩⟩⟩
  · rw [if_pos h, zw0_94]
  · rw [if_neg h1, if_pos h, zw0_94]
  · rw [if_neg h1, if_neg h2, if_pos h, zw0_94]
  · rw [if_neg h1, if_neg h2, if_neg h3, if_pos h, zw0_94]
theorem zw1_94 (X : TX) (x1 x2 x3 x4 x5 x6 x7 x8 : Int32) (h1 : ¬ x7 < (0 : Int32)) (h2 : ¬ (400 : Int32) < x7) (h3 : ¬ x8 < (0 : Int32)) (h4 : ¬ (10 : Int32) ≤ x8) : B_X8_would_94 X x1 x2 x3 x4 x5 x6 x7 x8 (1 : Int32) = B_X8_would_128 X x1 x2 x3 x4 x5 x6 x7 x8 (1 : Int32) := by
  have e : f_X8_need X (1 : Int32) = some (X, .inl ()) := z8_need1 X
  unfold B_X8_would_94
  rw [e, Option.bind_some, zxb_l]
  show (if x7 < 0 then _ else _) = _
  rw [if_neg h1, if_neg h2, if_neg h3, if_neg h4]
theorem zwr_94 (X : TX) (x1 x2 x3 x4 x5 x6 x7 x8 : Int32) (h : x7 < (0 : Int32) ∨ (¬ x7 < (0 : Int32) ∧ ((400 : Int32) < x7 ∨ (¬ (400 : Int32) < x7 ∧ (x8 < (0 : Int32) ∨ (¬ x8 < (0 : Int32) ∧ (10 : Int32) ≤ x8)))))) : B_X8_would_94 X x1 x2 x3 x4 x5 x6 x7 x8 (1 : Int32) = some (u2 X 0 13 (X 0 13 + nI 1), .inr 1) := by
  have e : f_X8_need X (1 : Int32) = some (X, .inl ()) := z8_need1 X
  unfold B_X8_would_94
  rw [e, Option.bind_some, zxb_l]
  show (if x7 < 0 then _ else _) = _
  rcases h with h | ⟨h1, h | ⟨h2, h | ⟨h3, h⟩⟩⟩
  · rw [if_pos h, zw0_128]
  · rw [if_neg h1, if_pos h, zw0_128]
  · rw [if_neg h1, if_neg h2, if_pos h, zw0_128]
  · rw [if_neg h1, if_neg h2, if_neg h3, if_pos h, zw0_128]
theorem z_would {n : Nat} {X M : TX} (h : zV n X M) (x1 x2 x3 x4 x5 x6 x7 x8 : Int32) : zCs none (some (nI 1)) (f_X8_would X x1 x2 x3 x4 x5 x6 x7 x8) (f_X9_would M x1 x2 x3 x4 x5 x6 x7 x8) := by
  have g := h.q (zQX.refl X) (zQM_0 M (nI 0))
  have g0 : u2 M 0 0 (nI 0) 0 0 = nI 0 := z_u2s _ _ _ _
  have l1 : f_X9_lets (u2 M 0 0 (0 : Int32)) (1 : Int32) (1 : Int32) (1 : Int32) = some (u2 M 0 0 (nI 0), nI 1) := z9_lets1 g0 (nI 1) (nI 1)
  have l0 : f_X9_lets (u2 M 0 0 (0 : Int32)) (0 : Int32) (1 : Int32) (1 : Int32) = some (u2 (u2 (u2 M 0 0 (nI 0)) 0 0 (nI 1)) 1 1 (u2 M 0 0 (nI 0) 1 1 + nI 1), nI 0) := z9_lets0 g0 (c := 1) (j := 1) (by omega) (by omega)
  by_cases a1 : x1 < (0 : Int32)
  · refine zCs_il (c := 1) (by omega) g (v := nI 0) ?_ ?_
    · unfold f_X8_would; rw [if_pos a1, zw0_29]
    · unfold f_X9_would; rw [z9_lo a1, Option.bind_some, if_pos z_n00, l0, Option.bind_some, if_pos z_n00]; rfl
  by_cases b1 : (198 : Int32) < x1
  · refine zCs_il (c := 1) (by omega) g (v := nI 0) ?_ ?_
    · unfold f_X8_would; rw [if_neg a1, if_pos b1, zw0_29]
    · unfold f_X9_would; rw [z9_hi a1 b1, Option.bind_some, if_pos z_n00, l0, Option.bind_some, if_pos z_n00]; rfl
  by_cases a2 : x2 < (-99 : Int32)
  · refine zCs_il (c := 1) (by omega) g (v := nI 0) ?_ ?_
    · unfold f_X8_would; rw [if_neg a1, if_neg b1, if_pos a2, zw0_29]
    · unfold f_X9_would; rw [z9_in a1 b1, Option.bind_some, if_neg z_n10, z9_lo a2, Option.bind_some, if_pos z_n00, l0, Option.bind_some, if_pos z_n00]; rfl
  by_cases b2 : (99 : Int32) < x2
  · refine zCs_il (c := 1) (by omega) g (v := nI 0) ?_ ?_
    · unfold f_X8_would; rw [if_neg a1, if_neg b1, if_neg a2, if_pos b2, zw0_29]
    · unfold f_X9_would; rw [z9_in a1 b1, Option.bind_some, if_neg z_n10, z9_hi a2 b2, Option.bind_some, if_pos z_n00, l0, Option.bind_some, if_pos z_n00]; rfl
  by_cases a3 : x3 < (0 : Int32)
  · refine zCs_il (c := 1) (by omega) g (v := nI 0) ?_ ?_
    · unfold f_X8_would; rw [if_neg a1, if_neg b1, if_neg a2, if_neg b2, zwr_29 _ _ _ _ _ _ _ _ _ (.inl a3)]
    · unfold f_X9_would; rw [z9_in a1 b1, Option.bind_some, if_neg z_n10, z9_in a2 b2, Option.bind_some, if_neg z_n10, z9_lo a3, Option.bind_some, if_pos z_n00, l0, Option.bind_some, if_pos z_n00]; rfl
  by_cases b3 : (10 : Int32) < x3
  · refine zCs_il (c := 1) (by omega) g (v := nI 0) ?_ ?_
    · unfold f_X8_would; rw [if_neg a1, if_neg b1, if_neg a2, if_neg b2, zwr_29 _ _ _ _ _ _ _ _ _ (.inr ⟨a3, .inl b3⟩)]
    · unfold f_X9_would; rw [z9_in a1 b1, Option.bind_some, if_neg z_n10, z9_in a2 b2, Option.bind_some, if_neg z_n10, z9_hi a3 b3, Option.bind_some, if_pos z_n00, l0, Option.bind_some, if_pos z_n00]; rfl
  by_cases a4 : x4 < (0 : Int32)
  · refine zCs_il (c := 1) (by omega) g (v := nI 0) ?_ ?_
    · unfold f_X8_would; rw [if_neg a1, if_neg b1, if_neg a2, if_neg b2, zwr_29 _ _ _ _ _ _ _ _ _ (.inr ⟨a3, .inr ⟨b3, .inl a4⟩⟩)]
    · unfold f_X9_would; rw [z9_in a1 b1, Option.bind_some, if_neg z_n10, z9_in a2 b2, Option.bind_some, if_neg z_n10, z9_in a3 b3, Option.bind_some, if_neg z_n10, z9_lo a4, Option.bind_some, if_pos z_n00, l0, Option.bind_some, if_pos z_n00]; rfl
  by_cases b4 : (10 : Int32) < x4
  · refine zCs_il (c := 1) (by omega) g (v := nI 0) ?_ ?_
    · unfold f_X8_would; rw [if_neg a1, if_neg b1, if_neg a2, if_neg b2, zwr_29 _ _ _ _ _ _ _ _ _ (.inr ⟨a3, .inr ⟨b3, .inr ⟨a4, b4⟩⟩⟩)]
    · unfold f_X9_would; rw [z9_in a1 b1, Option.bind_some, if_neg z_n10, z9_in a2 b2, Option.bind_some, if_neg z_n10, z9_in a3 b3, Option.bind_some, if_neg z_n10, z9_hi a4 b4, Option.bind_some, if_pos z_n00, l0, Option.bind_some, if_pos z_n00]; rfl
  by_cases a5 : x5 < (0 : Int32)
  · refine zCs_il (c := 1) (by omega) g (v := nI 0) ?_ ?_
    · unfold f_X8_would; rw [if_neg a1, if_neg b1, if_neg a2, if_neg b2, zw1_29 _ _ _ _ _ _ _ _ _ a3 b3 a4 b4, zwr_60 _ _ _ _ _ _ _ _ _ (.inl a5)]
    · unfold f_X9_would; rw [z9_in a1 b1, Option.bind_some, if_neg z_n10, z9_in a2 b2, Option.bind_some, if_neg z_n10, z9_in a3 b3, Option.bind_some, if_neg z_n10, z9_in a4 b4, Option.bind_some, if_neg z_n10, z9_lo a5, Option.bind_some, if_pos z_n00, l0, Option.bind_some, if_pos z_n00]; rfl
  by_cases b5 : (60 : Int32) < x5
  · refine zCs_il (c := 1) (by omega) g (v := nI 0) ?_ ?_
    · unfold f_X8_would; rw [if_neg a1, if_neg b1, if_neg a2, if_neg b2, zw1_29 _ _ _ _ _ _ _ _ _ a3 b3 a4 b4, zwr_60 _ _ _ _ _ _ _ _ _ (.inr ⟨a5, .inl b5⟩)]
    · unfold f_X9_would; rw [z9_in a1 b1, Option.bind_some, if_neg z_n10, z9_in a2 b2, Option.bind_some, if_neg z_n10, z9_in a3 b3, Option.bind_some, if_neg z_n10, z9_in a4 b4, Option.bind_some, if_neg z_n10, z9_hi a5 b5, Option.bind_some, if_pos z_n00, l0, Option.bind_some, if_pos z_n00]; rfl
  by_cases a6 : x6 < (0 : Int32)
  · refine zCs_il (c := 1) (by omega) g (v := nI 0) ?_ ?_
    · unfold f_X8_would; rw [if_neg a1, if_neg b1, if_neg a2, if_neg b2, zw1_29 _ _ _ _ _ _ _ _ _ a3 b3 a4 b4, zwr_60 _ _ _ _ _ _ _ _ _ (.inr ⟨a5, .inr ⟨b5, .inl a6⟩⟩)]
    · unfold f_X9_would; rw [z9_in a1 b1, Option.bind_some, if_neg z_n10, z9_in a2 b2, Option.bind_some, if_neg z_n10, z9_in a3 b3, Option.bind_some, if_neg z_n10, z9_in a4 b4, Option.bind_some, if_neg z_n10, z9_in a5 b5, Option.bind_some, if_neg z_n10, z9_lo a6, Option.bind_some, if_pos z_n00, l0, Option.bind_some, if_pos z_n00]; rfl
  by_cases b6 : (400 : Int32) < x6
  · refine zCs_il (c := 1) (by omega) g (v := nI 0) ?_ ?_
    · unfold f_X8_would; rw [if_neg a1, if_neg b1, if_neg a2, if_neg b2, zw1_29 _ _ _ _ _ _ _ _ _ a3 b3 a4 b4, zwr_60 _ _ _ _ _ _ _ _ _ (.inr ⟨a5, .inr ⟨b5, .inr ⟨a6, b6⟩⟩⟩)]
    · unfold f_X9_would; rw [z9_in a1 b1, Option.bind_some, if_neg z_n10, z9_in a2 b2, Option.bind_some, if_neg z_n10, z9_in a3 b3, Option.bind_some, if_neg z_n10, z9_in a4 b4, Option.bind_some, if_neg z_n10, z9_in a5 b5, Option.bind_some, if_neg z_n10, z9_hi a6 b6, Option.bind_some, if_pos z_n00, l0, Option.bind_some, if_pos z_n00]; rfl
  by_cases a7 : x7 < (0 : Int32)
  · refine zCs_il (c := 1) (by omega) g (v := nI 0) ?_ ?_
    · unfold f_X8_would; rw [if_neg a1, if_neg b1, if_neg a2, if_neg b2, zw1_29 _ _ _ _ _ _ _ _ _ a3 b3 a4 b4, zw1_60 _ _ _ _ _ _ _ _ _ a5 b5 a6 b6, zwr_94 _ _ _ _ _ _ _ _ _ (.inl a7)]
    · unfold f_X9_would; rw [z9_in a1 b1, Option.bind_some, if_neg z_n10, z9_in a2 b2, Option.bind_some, if_neg z_n10, z9_in a3 b3, Option.bind_some, if_neg z_n10, z9_in a4 b4, Option.bind_some, if_neg z_n10, z9_in a5 b5, Option.bind_some, if_neg z_n10, z9_in a6 b6, Option.bind_some, if_neg z_n10, z9_lo a7, Option.bind_some, if_pos z_n00, l0, Option.bind_some, if_pos z_n00]; rfl
  by_cases b7 : (400 : Int32) < x7
  · refine zCs_il (c := 1) (by omega) g (v := nI 0) ?_ ?_
    · unfold f_X8_would; rw [if_neg a1, if_neg b1, if_neg a2, if_neg b2, zw1_29 _ _ _ _ _ _ _ _ _ a3 b3 a4 b4, zw1_60 _ _ _ _ _ _ _ _ _ a5 b5 a6 b6, zwr_94 _ _ _ _ _ _ _ _ _ (.inr ⟨a7, .inl b7⟩)]
    · unfold f_X9_would; rw [z9_in a1 b1, Option.bind_some, if_neg z_n10, z9_in a2 b2, Option.bind_some, if_neg z_n10, z9_in a3 b3, Option.bind_some, if_neg z_n10, z9_in a4 b4, Option.bind_some, if_neg z_n10, z9_in a5 b5, Option.bind_some, if_neg z_n10, z9_in a6 b6, Option.bind_some, if_neg z_n10, z9_hi a7 b7, Option.bind_some, if_pos z_n00, l0, Option.bind_some, if_pos z_n00]; rfl
  by_cases a8 : x8 < (0 : Int32)
  · refine zCs_il (c := 1) (by omega) g (v := nI 0) ?_ ?_
    · unfold f_X8_would; rw [if_neg a1, if_neg b1, if_neg a2, if_neg b2, zw1_29 _ _ _ _ _ _ _ _ _ a3 b3 a4 b4, zw1_60 _ _ _ _ _ _ _ _ _ a5 b5 a6 b6, zwr_94 _ _ _ _ _ _ _ _ _ (.inr ⟨a7, .inr ⟨b7, .inl a8⟩⟩)]
    · unfold f_X9_would; rw [z9_in a1 b1, Option.bind_some, if_neg z_n10, z9_in a2 b2, Option.bind_some, if_neg z_n10, z9_in a3 b3, Option.bind_some, if_neg z_n10, z9_in a4 b4, Option.bind_some, if_neg z_n10, z9_in a5 b5, Option.bind_some, if_neg z_n10, z9_in a6 b6, Option.bind_some, if_neg z_n10, z9_in a7 b7, Option.bind_some, if_neg z_n10, z9_lo a8, Option.bind_some, if_pos z_n00, l0, Option.bind_some, if_pos z_n00]; rfl
  by_cases b8 : (9 : Int32) < x8
  · have b8' : (10 : Int32) ≤ x8 := by
      have e9 : (9 : Int32).toInt = 9 := by decide
      have e10 : (10 : Int32).toInt = 10 := by decide
      rw [Int32.lt_iff_toInt_lt, e9] at b8; rw [Int32.le_iff_toInt_le, e10]; omega
    refine zCs_il (c := 1) (by omega) g (v := nI 0) ?_ ?_
    · unfold f_X8_would; rw [if_neg a1, if_neg b1, if_neg a2, if_neg b2, zw1_29 _ _ _ _ _ _ _ _ _ a3 b3 a4 b4, zw1_60 _ _ _ _ _ _ _ _ _ a5 b5 a6 b6, zwr_94 _ _ _ _ _ _ _ _ _ (.inr ⟨a7, .inr ⟨b7, .inr ⟨a8, b8'⟩⟩⟩)]
    · unfold f_X9_would; rw [z9_in a1 b1, Option.bind_some, if_neg z_n10, z9_in a2 b2, Option.bind_some, if_neg z_n10, z9_in a3 b3, Option.bind_some, if_neg z_n10, z9_in a4 b4, Option.bind_some, if_neg z_n10, z9_in a5 b5, Option.bind_some, if_neg z_n10, z9_in a6 b6, Option.bind_some, if_neg z_n10, z9_in a7 b7, Option.bind_some, if_neg z_n10, z9_hi a8 b8, Option.bind_some, if_pos z_n00, l0, Option.bind_some, if_pos z_n00]; rfl
  have b8' : ¬ (10 : Int32) ≤ x8 := by
    have e9 : (9 : Int32).toInt = 9 := by decide
    have e10 : (10 : Int32).toInt = 10 := by decide
    rw [Int32.lt_iff_toInt_lt, e9] at b8; rw [Int32.le_iff_toInt_le, e10]; omega
  have hL : zL (zF8 X 22 x1 x2 x3 x4 x5 x6 x7 x8) (zF8 (u2 M 0 0 (nI 0)) 14 x1 x2 x3 x4 x5 x6 x7 x8) := by
    have := g.e.law
    exact zL_frame this (zF8_k _ _ _ _ _ _ _ _ _ _ (by decide)) (zF8_k _ _ _ _ _ _ _ _ _ _ (by decide)) (zF8_k _ _ _ _ _ _ _ _ _ _ (by decide)) (zF8_k _ _ _ _ _ _ _ _ _ _ (by decide)) (zF8_k _ _ _ _ _ _ _ _ _ _ (by decide))
  obtain ⟨X', M', v, p1, p2, p3, p4⟩ := z_price hL (fun j hj => zF8_eq _ _ _ _ _ _ _ _ _ _ _ _ j hj)
  have m0 : ∀ k, k ≠ 13 → k ≠ 14 → M' k = u2 M 0 0 (nI 0) k := fun k a b => (p4 k a).trans (zF8_k _ _ _ _ _ _ _ _ _ _ b)
  have tl : ∀ (Y : TX) j v, j < 8 → f_X4_tell Y (nI j) v = some (u2 Y 22 j v) := fun Y j v hj => by
    unfold f_X4_tell; rw [z_put (show j < lenX 22 from hj) (by decide)]; rfl
  have t0 : ∀ (Y : TX) v, f_X4_tell Y (0 : Int32) v = some (u2 Y 22 0 v) := fun Y v => tl Y 0 v (by decide)
  have t1 : ∀ (Y : TX) v, f_X4_tell Y (1 : Int32) v = some (u2 Y 22 1 v) := fun Y v => tl Y 1 v (by decide)
  have t2 : ∀ (Y : TX) v, f_X4_tell Y (2 : Int32) v = some (u2 Y 22 2 v) := fun Y v => tl Y 2 v (by decide)
  have t3 : ∀ (Y : TX) v, f_X4_tell Y (3 : Int32) v = some (u2 Y 22 3 v) := fun Y v => tl Y 3 v (by decide)
  have t4 : ∀ (Y : TX) v, f_X4_tell Y (4 : Int32) v = some (u2 Y 22 4 v) := fun Y v => tl Y 4 v (by decide)
  have t5 : ∀ (Y : TX) v, f_X4_tell Y (5 : Int32) v = some (u2 Y 22 5 v) := fun Y v => tl Y 5 v (by decide)
  have t6 : ∀ (Y : TX) v, f_X4_tell Y (6 : Int32) v = some (u2 Y 22 6 v) := fun Y v => tl Y 6 v (by decide)
  have t7 : ∀ (Y : TX) v, f_X4_tell Y (7 : Int32) v = some (u2 Y 22 7 v) := fun Y v => tl Y 7 v (by decide)
  unfold zF8 at p1
  have nd : f_X8_need X (1 : Int32) = some (X, .inl ()) := z8_need1 X
  refine zCs_ok h ?_ ?_ (v := v) (N := M') (Y := X') ?_ ?_ ?_
  · unfold f_X8_would
    rw [if_neg a1, if_neg b1, if_neg a2, if_neg b2, zw1_29 _ _ _ _ _ _ _ _ _ a3 b3 a4 b4, zw1_60 _ _ _ _ _ _ _ _ _ a5 b5 a6 b6, zw1_94 _ _ _ _ _ _ _ _ _ a7 b7 a8 b8']
    unfold B_X8_would_128
    rw [nd, Option.bind_some, zxb_l]
    show (f_X4_tell X (0 : Int32) x1).bind _ = _
    rw [t0, Option.bind_some, t1, Option.bind_some, t2, Option.bind_some, t3, Option.bind_some, t4, Option.bind_some, t5, Option.bind_some, t6, Option.bind_some, t7, Option.bind_some, p1]; rfl
  · unfold f_X9_would
    rw [z9_in a1 b1, Option.bind_some, if_neg z_n10, z9_in a2 b2, Option.bind_some, if_neg z_n10, z9_in a3 b3, Option.bind_some, if_neg z_n10, z9_in a4 b4, Option.bind_some, if_neg z_n10, z9_in a5 b5, Option.bind_some, if_neg z_n10, z9_in a6 b6, Option.bind_some, if_neg z_n10, z9_in a7 b7, Option.bind_some, if_neg z_n10, z9_in a8 b8, Option.bind_some, if_neg z_n10, l1, Option.bind_some, if_neg z_n10, z9_costOf]
    show ((f_X9_costNow (zF8 (u2 M 0 0 (nI 0)) 14 x1 x2 x3 x4 x5 x6 x7 x8)).bind _).bind _ = _
    rw [p2]; rfl
  · rw [m0 0 (by decide) (by decide)]; exact g0
  · exact zQX_p fun k a b => (p3 k a).trans (zF8_k _ _ _ _ _ _ _ _ _ _ b)
  · exact (zQM_0 M (nI 0)).trans (zQM_p m0)
