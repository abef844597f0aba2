set_option linter.unusedVariables false
/-- the ward to ask of, and what is left at the worst -/
def zLkS (B : Nat → Int32) (W : Nat → Nat) (d : Nat) (b : Option Nat × Int32) : Option Nat × Int32 :=
  if B d = -nI 1 then (match b.1 with | none => (some d, nI (W d)) | some e => if nI (W d) < b.2 then (some d, nI (W d)) else b) else b
def zLkF (B : Nat → Int32) (W : Nat → Nat) (k : Nat) : Option Nat × Int32 := zF (zLkS B W) k 0 (none, -nI 1)
theorem zLkF_succ (B : Nat → Int32) (W : Nat → Nat) (k : Nat) : zLkF B W (k + 1) = zLkS B W k (zLkF B W k) := by unfold zLkF; rw [zF_snoc, Nat.zero_add]
theorem zLkF_p (B : Nat → Int32) (W : Nat → Nat) : ∀ k d, (zLkF B W k).1 = some d → d < k
  | 0, d, h => by cases h
  | k + 1, d, h => by
    rw [zLkF_succ] at h
    have ih := zLkF_p B W k
    generalize zLkF B W k = b at *
    unfold zLkS at h
    by_cases c : B k = -nI 1
    · rw [if_pos c] at h
      obtain ⟨b1, b2⟩ := b
      cases b1 with
      | none => cases h; omega
      | some e =>
        have := ih e rfl
        simp only at h
        by_cases c2 : nI (W k) < b2
        · rw [if_pos c2] at h; cases h; omega
        · rw [if_neg c2] at h; cases h; omega
    · rw [if_neg c] at h
      have := ih d h
      omega
theorem z_look {n : Nat} {X M : TX} (h : zV n X M) (w : Int32) : zCs none (some (nI 1)) (f_X8_look X w) (f_X9_look M w) := by
  have h10 := h.e.n10
  have g := h.q (zQX.refl X) (zQM_0 M (nI 0))
  have g0 : u2 M 0 0 (nI 0) 0 0 = nI 0 := z_u2s _ _ _ _
  have l1 : f_X9_lets (u2 M 0 0 (0 : Int32)) (nI 1) (1 : Int32) (1 : Int32) = some (u2 M 0 0 (nI 0), nI 1) := z9_lets1 g0 (nI 1) (nI 1)
  have l0 : f_X9_lets (u2 M 0 0 (0 : Int32)) (nI 0) (1 : Int32) (1 : Int32) = some (u2 (u2 (u2 M 0 0 (nI 0)) 0 0 (nI 1)) 1 1 (u2 M 0 0 (nI 0) 1 1 + nI 1), nI 0) := z9_lets0 g0 (c := 1) (j := 1) (by omega) (by omega)
  rcases z_half2 w with ⟨e1, e2⟩ | ⟨hw, e1, e2⟩
  · refine zCs_il (c := 1) (by omega) g (v := nI 0) ?_ ?_
    · unfold f_X8_look; rw [e1, Option.bind_some, z8_need0, Option.bind_some, zxb_r]
    · unfold f_X9_look; rw [e2, Option.bind_some, l0, Option.bind_some, if_pos z_n00]; rfl
  · obtain ⟨N, t1, t2, t3, tS, tD, tY, t4⟩ := h.take (zQM_0 M (nI 0))
    obtain ⟨s, hs⟩ : ∃ s, s = N 20 := ⟨_, rfl⟩
    rw [← hs] at tD t4
    obtain ⟨Z, z1, zL, z3⟩ := z9_lays (n := n) (M := M) (Y := u2 M 0 0 (nI 0)) (s := s) h10 h.e.kn (fun j hj => t4 j hj) (fun j hj => by rw [hs]; exact z_tail t1 j hj) (zQM_0 M (nI 0)) g0
    obtain ⟨W, hW⟩ : ∃ W : Nat → Nat, W = fun d => zWo M (M 18) n s d (4 * n) := ⟨_, rfl⟩
    have hWd : ∀ d, zWo M (M 18) n s d (4 * n) = W d := fun d => by rw [hW]
    have hline : ∀ d, d < 4 → (bt (X 27 1) d = true ∧ ¬ M 18 d = -nI 1) ∨ (bt (X 27 1) d = false ∧ M 18 d = -nI 1) := fun d hd => by
      rcases h.bk.1 d hd with ⟨a1, v, a2, a3, _⟩ | a
      · refine .inl ⟨a1, ?_⟩
        rw [a3]
        have hv : v = 0 ∨ v = 1 ∨ v = 2 := by omega
        rcases hv with rfl | rfl | rfl <;> decide
      · exact .inr a
    have cl : ∃ Y, L_X8_look_15 FU X w (-1 : Int32) (-1 : Int32) (0 : Int32) = (if w = nI 0 then some (Y, .inl (zNo (zLkF (M 18) W 4).1)) else some (Y, .inl (zLkF (M 18) W 4).2)) ∧ zPX X Y ∧ zD n s Y := by
      have l := z_loopE (fun f i (b : TX × Int32 × Int32) => L_X8_look_15 f b.1 w b.2.1 b.2.2 i) (fun i b => zPX X b.1 ∧ zD n s b.1 ∧ b.2.1 = zNo (zLkF (M 18) W i).1 ∧ b.2.2 = (zLkF (M 18) W i).2) (fun b => if w = nI 0 then some (b.1, .inl b.2.1) else some (b.1, .inl b.2.2)) 4 ?_ ?_ 4 0 FU (X, -1, -1) ⟨⟨fun _ _ _ _ _ => rfl, rfl⟩, tD, rfl, rfl⟩ (by omega) (by unfold FU; omega)
      · obtain ⟨b, k1, k2, k3, k4, k5⟩ := l
        refine ⟨b.1, ?_, k2, k3⟩
        rw [← k4, ← k5]; exact k1
      · rintro f ⟨Y, a, b⟩ _
        simp (discharger := omega) only [L_X8_look_15, z_lit, z_nI_le, z_nI_lt, z_nI_inj, z_inb, z_nI_tn, z_nI_add, z_nI_mul, z_bitN, z_zb, z_0add, z_add0, z_0or, z_or0, Option.bind_some, decide_eq_true_eq, Nat.zero_add, Nat.add_zero, Nat.le_refl, ↓reduceIte]
        rfl
      · rintro f d ⟨Y, a, b⟩ hd ⟨k1, k2, k3, k4⟩
        simp only at k1 k2 k3 k4
        have h1 : ¬ 4 ≤ d := by omega
        have hl := z1_hasLine (X := Y) (d := d) (by omega)
        rw [k1.2] at hl
        have t10 : ¬ ((1 : Nat) = 0) := by decide
        have hlt := zLkF_p (M 18) W d
        rw [zLkF_succ]
        subst k3 k4
        unfold zLkS
        rcases hline d hd with ⟨b1, b2⟩ | ⟨b1, b2⟩
        · rw [b1] at hl
          rw [if_neg b2]
          refine ⟨(Y, zNo (zLkF (M 18) W d).1, (zLkF (M 18) W d).2), ?_, k1, k2, rfl, rfl⟩
          simp (discharger := omega) only [L_X8_look_15, h1, hl, zbI, t10, z_lit, z_nI_le, z_nI_lt, z_nI_inj, z_inb, z_nI_tn, z_nI_add, z_nI_mul, z_bitN, z_zb, z_0add, z_add0, z_0or, z_or0, Option.bind_some, decide_eq_true_eq, Nat.zero_add, Nat.add_zero, ↓reduceIte]
        · rw [b1] at hl
          rw [if_pos b2]
          obtain ⟨C, c1, c2, c3⟩ := z1_worst (h.e.y k1.y) k2 (zBk_X h.bk k1.2 (k1.1 28 (by decide) (by decide) (by decide) (by decide))) hd
          rw [hWd] at c1
          cases ho : (zLkF (M 18) W d).1 with
          | none =>
            have hz : zNo none = -nI 1 := rfl
            refine ⟨(C, nI d, nI (W d)), ?_, k1.trans c2, c3, rfl, rfl⟩
            simp (discharger := omega) only [L_X8_look_15, h1, hl, c1, hz, zbI, z_lit, z_nI_le, z_nI_lt, z_nI_inj, z_inb, z_nI_tn, z_nI_add, z_nI_mul, z_bitN, z_zb, z_0add, z_add0, z_0or, z_or0, Option.bind_some, decide_eq_true_eq, Nat.zero_add, Nat.add_zero, ↓reduceIte, Bool.false_eq_true]
          | some e =>
            have hz := z_someN (rfl : some e = some e) (show e < 4 by have := hlt e ho; omega)
            by_cases c : nI (W d) < (zLkF (M 18) W d).2
            · have c' : ¬ (zLkF (M 18) W d).2 ≤ nI (W d) := Int32.not_le.2 c
              refine ⟨(C, nI d, nI (W d)), ?_, k1.trans c2, c3, ?_, ?_⟩
              · simp (discharger := omega) only [L_X8_look_15, h1, hl, c1, hz, c', zbI, z_lit, z_nI_le, z_nI_lt, z_nI_inj, z_inb, z_nI_tn, z_nI_add, z_nI_mul, z_bitN, z_zb, z_0add, z_add0, z_0or, z_or0, Option.bind_some, decide_eq_true_eq, Nat.zero_add, Nat.add_zero, ↓reduceIte, Bool.false_eq_true]
              · simp only [c, ↓reduceIte]; rfl
              · simp only [c, ↓reduceIte]
            · have c' : (zLkF (M 18) W d).2 ≤ nI (W d) := Int32.not_lt.1 c
              refine ⟨(C, nI e, (zLkF (M 18) W d).2), ?_, k1.trans c2, c3, ?_, ?_⟩
              · simp (discharger := omega) only [L_X8_look_15, h1, hl, c1, hz, c', zbI, z_lit, z_nI_le, z_nI_lt, z_nI_inj, z_inb, z_nI_tn, z_nI_add, z_nI_mul, z_bitN, z_zb, z_0add, z_add0, z_0or, z_or0, Option.bind_some, decide_eq_true_eq, Nat.zero_add, Nat.add_zero, ↓reduceIte, Bool.false_eq_true]; rfl
              · simp only [c, ↓reduceIte]; rw [ho]; rfl
              · simp only [c, ↓reduceIte]
    have rf : ∃ Y, L_X9_look_33 FU Z w (-1 : Int32) (-1 : Int32) (0 : Int32) = (if w = nI 0 then some (Y, zNo (zLkF (M 18) W 4).1) else some (Y, (zLkF (M 18) W 4).2)) ∧ zLw n M Y s := by
      have l := z_loopE (fun f i (b : TX × Int32 × Int32) => L_X9_look_33 f b.1 w b.2.1 b.2.2 i) (fun i b => zLw n M b.1 s ∧ b.1 23 = Z 23 ∧ b.2.1 = zNo (zLkF (M 18) W i).1 ∧ b.2.2 = (zLkF (M 18) W i).2) (fun b => if w = nI 0 then some (b.1, b.2.1) else some (b.1, b.2.2)) 4 ?_ ?_ 4 0 FU (Z, -1, -1) ⟨zL, rfl, rfl, rfl⟩ (by omega) (by unfold FU; omega)
      · obtain ⟨b, k1, k2, k3, k4, k5⟩ := l
        refine ⟨b.1, ?_, k2⟩
        rw [← k4, ← k5]; exact k1
      · rintro f ⟨Y, a, b⟩ _
        simp (discharger := omega) only [L_X9_look_33, z_lit, z_nI_le, z_nI_lt, z_nI_inj, z_inb, z_nI_tn, z_nI_add, z_nI_mul, z_bitN, z_zb, z_0add, z_add0, z_0or, z_or0, Option.bind_some, decide_eq_true_eq, Nat.zero_add, Nat.add_zero, Nat.le_refl, ↓reduceIte]
        rfl
      · rintro f d ⟨Y, a, b⟩ hd ⟨k1, k2, k3, k4⟩
        simp only at k1 k2 k3 k4
        have h1 : ¬ 4 ≤ d := by omega
        have h18 : Y 18 = M 18 := k1.1.1 18 (by decide) (by decide) (by decide) (by decide) (by decide) (by decide) (by decide)
        have hlt := zLkF_p (M 18) W d
        rw [zLkF_succ]
        subst k3 k4
        unfold zLkS
        rcases hline d hd with ⟨b1, b2⟩ | ⟨b1, b2⟩
        · rw [if_neg b2]
          refine ⟨(Y, zNo (zLkF (M 18) W d).1, (zLkF (M 18) W d).2), ?_, k1, k2, rfl, rfl⟩
          simp (discharger := omega) only [L_X9_look_33, h1, hd, h18, b2, z_lit, z_nI_le, z_nI_lt, z_nI_inj, z_inb, z_nI_tn, z_nI_add, z_nI_mul, z_bitN, z_zb, z_0add, z_add0, z_0or, z_or0, Option.bind_some, decide_eq_true_eq, Nat.zero_add, Nat.add_zero, ↓reduceIte]
        · rw [if_pos b2]
          obtain ⟨C, c1, c2, c3⟩ := z9_worst h10 h.e.kn k1 (by rw [k2]; exact z3) hd
          rw [hWd] at c1
          cases ho : (zLkF (M 18) W d).1 with
          | none =>
            have hz : zNo none = -nI 1 := rfl
            refine ⟨(C, nI d, nI (W d)), ?_, c2, c3.trans k2, rfl, rfl⟩
            simp (discharger := omega) only [L_X9_look_33, h1, hd, h18, b2, c1, hz, z_lit, z_nI_le, z_nI_lt, z_nI_inj, z_inb, z_nI_tn, z_nI_add, z_nI_mul, z_bitN, z_zb, z_0add, z_add0, z_0or, z_or0, Option.bind_some, decide_eq_true_eq, Nat.zero_add, Nat.add_zero, ↓reduceIte]
          | some e =>
            have hz := z_someN (rfl : some e = some e) (show e < 4 by have := hlt e ho; omega)
            by_cases c : nI (W d) < (zLkF (M 18) W d).2
            · refine ⟨(C, nI d, nI (W d)), ?_, c2, c3.trans k2, ?_, ?_⟩
              · simp (discharger := omega) only [L_X9_look_33, h1, hd, h18, b2, c1, hz, c, z_lit, z_nI_le, z_nI_lt, z_nI_inj, z_inb, z_nI_tn, z_nI_add, z_nI_mul, z_bitN, z_zb, z_0add, z_add0, z_0or, z_or0, Option.bind_some, decide_eq_true_eq, Nat.zero_add, Nat.add_zero, ↓reduceIte]
              · simp only [c, ↓reduceIte]; rfl
              · simp only [c, ↓reduceIte]
            · refine ⟨(C, nI e, (zLkF (M 18) W d).2), ?_, c2, c3.trans k2, ?_, ?_⟩
              · simp (discharger := omega) only [L_X9_look_33, h1, hd, h18, b2, c1, hz, c, z_lit, z_nI_le, z_nI_lt, z_nI_inj, z_inb, z_nI_tn, z_nI_add, z_nI_mul, z_bitN, z_zb, z_0add, z_add0, z_0or, z_or0, Option.bind_some, decide_eq_true_eq, Nat.zero_add, Nat.add_zero, ↓reduceIte]; rfl
              · simp only [c, ↓reduceIte]; rw [ho]; rfl
              · simp only [c, ↓reduceIte]
    obtain ⟨Y, y1, y2, y3⟩ := cl
    obtain ⟨R, r1, r2⟩ := rf
    refine zCs_oy h ?_ ?_ r2.2.1 y2.y (y3.congr h10 fun j hj => (t4 j hj).symm) r2.1 (v := if w = nI 0 then zNo (zLkF (M 18) W 4).1 else (zLkF (M 18) W 4).2)
    · unfold f_X8_look
      rw [e1, Option.bind_some, z8_need1, Option.bind_some, zxb_l]
      refine y1.trans ?_
      split <;> rfl
    · unfold f_X9_look
      rw [e2, Option.bind_some, l1, Option.bind_some, if_neg z_n10, z1, Option.bind_some, r1]
      split <;> rfl
