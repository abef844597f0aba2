set_option linter.unusedVariables false
theorem zcl15 (f : Nat) (X : TX) (x1 x2 x3 x4 : Int32) : L_X8_closest_15 (f + 1) X x1 x2 x3 x4 = if (4 : Int32) ≤ x4 then (if x1 = 0 then (some (X, .inl x2)) else (some (X, .inl x3))) else ((f_X3_leadIn X x4).bind fun q5 => if zAbs q5 ≤ 0 then (L_X8_closest_15 f X x1 x2 x3 (x4 + (1 : Int32))) else (if x2 = (-1 : Int32) then (L_X8_closest_15 f X x1 x4 (zAbs q5) (x4 + (1 : Int32))) else (if x3 ≤ zAbs q5 then (L_X8_closest_15 f X x1 x2 x3 (x4 + (1 : Int32))) else (L_X8_closest_15 f X x1 x4 (zAbs q5) (x4 + (1 : Int32)))))) := rfl
theorem z_closest {n : Nat} {X M : TX} (h : zV n X M) (w : Int32) : zCs none (some (nI 1)) (f_X8_closest X w) (f_X9_closest M w) := by
  have h10 := h.e.n10
  have g := h.q (zQX.refl X) (zQM_0 M (nI 0))
  have g0 : u2 M 0 0 (nI 0) 0 0 = nI 0 := z_u2s _ _ _ _
  have l1 : f_X9_lets (u2 M 0 0 (0 : Int32)) (nI 1) (1 : Int32) (1 : Int32) = some (u2 M 0 0 (nI 0), nI 1) := z9_lets1 g0 (nI 1) (nI 1)
  have l0 : f_X9_lets (u2 M 0 0 (0 : Int32)) (nI 0) (1 : Int32) (1 : Int32) = some (u2 (u2 (u2 M 0 0 (nI 0)) 0 0 (nI 1)) 1 1 (u2 M 0 0 (nI 0) 1 1 + nI 1), nI 0) := z9_lets0 g0 (c := 1) (j := 1) (by omega) (by omega)
  rcases z_half2 w with ⟨e1, e2⟩ | ⟨hw, e1, e2⟩
  · refine zCs_il (c := 1) (by omega) g (v := nI 0) ?_ ?_
    · unfold f_X8_closest; rw [e1, Option.bind_some, z8_need0, Option.bind_some, zxb_r]
    · unfold f_X9_closest; rw [e2, Option.bind_some, l0, Option.bind_some, if_pos z_n00]; rfl
  · obtain ⟨N, t1, t2, t3, tS, tD, tY, t4⟩ := h.take (zQM_0 M (nI 0))
    have hn : N 0 19 = nI n := tS.a19.trans h.e.kn
    obtain ⟨A, hA⟩ : ∃ A : Nat → Int32, A = fun d => zAbs (zLc n (N 20) d) := ⟨_, rfl⟩
    obtain ⟨P, hP⟩ : ∃ P : Nat → Bool, P = fun d => decide (¬ A d ≤ nI 0) := ⟨_, rfl⟩
    have hPd : ∀ d, P d = true ↔ ¬ A d ≤ nI 0 := fun d => by rw [hP]; simp
    have li : ∀ d, d < 4 → f_X3_leadIn X (nI d) = some (zLc n (N 20) d) := fun d hd => z3_leadIn tD hd
    have hs : ∀ d, zAbs (zLc n (N 20) d) = A d := fun d => by rw [hA]
    have vo : ∀ d, f_X9_leadOf N (nI d) = some (A d) := fun d => by rw [hA]; exact z9_leadOf hn h10 d
    have cl : L_X8_closest_15 FU X w (-1 : Int32) (-1 : Int32) (0 : Int32) = if w = nI 0 then some (X, .inl (zNo (zLe P A 4))) else some (X, .inl (zAt A (zLe P A 4) (-nI 1))) := by
      have hl := z_loopE (fun f i (s : Int32 × Int32) => L_X8_closest_15 f X w s.1 s.2 i) (fun i s => s.1 = zNo (zLe P A i) ∧ s.2 = zAt A (zLe P A i) (-nI 1)) (fun s => if w = nI 0 then some (X, .inl s.1) else some (X, .inl s.2)) 4 ?_ ?_ 4 0 FU (-1, -1) ⟨rfl, rfl⟩ (by omega) (by unfold FU; omega)
      · obtain ⟨s, k1, k2, k3⟩ := hl
        rw [k2, k3] at k1
        exact k1
      · rintro f ⟨b, v⟩ _
        simp (discharger := omega) only [zcl15, z_lit, z_nI_le, z_nI_lt, z_nI_inj, z_inb, z_nI_tn, z_nI_add, z_nI_mul, z_bitN, z_zb, z_0add, z_add0, z_0or, z_or0, Option.bind_some, decide_eq_true_eq, Nat.zero_add, Nat.add_zero, Nat.le_refl, ↓reduceIte]
        rfl
      · rintro f i ⟨b, v⟩ hi ⟨k1, k2⟩
        simp only at k1 k2
        have h1 : ¬ 4 ≤ i := by omega
        have hli := li i hi
        have hlt := zLe_p P A i
        rw [zLe_succ]
        subst k1 k2
        unfold zLeS
        by_cases c : A i ≤ nI 0
        · have c' : ¬ P i = true := fun h => (hPd i).1 h c
          rw [if_neg c']
          refine ⟨(zNo (zLe P A i), zAt A (zLe P A i) (-nI 1)), ?_, rfl, rfl⟩
          simp (discharger := omega) only [zcl15, h1, hli, hs, c, z_lit, z_nI_le, z_nI_lt, z_nI_inj, z_inb, z_nI_tn, z_nI_add, z_nI_mul, z_bitN, z_zb, z_0add, z_add0, z_0or, z_or0, Option.bind_some, decide_eq_true_eq, Nat.zero_add, Nat.add_zero, ↓reduceIte]
        · have c' : P i = true := (hPd i).2 c
          rw [if_pos c']
          cases ho : zLe P A i with
          | none =>
            refine ⟨(nI i, A i), ?_, rfl, rfl⟩
            have hz : zNo none = -nI 1 := rfl
            simp (discharger := omega) only [zcl15, h1, hli, hs, c, hz, z_lit, z_nI_le, z_nI_lt, z_nI_inj, z_inb, z_nI_tn, z_nI_add, z_nI_mul, z_bitN, z_zb, z_0add, z_add0, z_0or, z_or0, Option.bind_some, decide_eq_true_eq, Nat.zero_add, Nat.add_zero, ↓reduceIte]
          | some e =>
            have hz := z_someN (rfl : some e = some e) (show e < 4 by have := hlt e ho; omega)
            by_cases c2 : A e ≤ A i
            · refine ⟨(nI e, A e), ?_, ?_, ?_⟩
              · simp (discharger := omega) only [zcl15, h1, hli, hs, c, hz, zAt, c2, z_lit, z_nI_le, z_nI_lt, z_nI_inj, z_inb, z_nI_tn, z_nI_add, z_nI_mul, z_bitN, z_zb, z_0add, z_add0, z_0or, z_or0, Option.bind_some, decide_eq_true_eq, Nat.zero_add, Nat.add_zero, ↓reduceIte]; rfl
              · simp only [c2, ↓reduceIte]; rfl
              · simp only [c2, ↓reduceIte]; rfl
            · refine ⟨(nI i, A i), ?_, ?_, ?_⟩
              · simp (discharger := omega) only [zcl15, h1, hli, hs, c, hz, zAt, c2, z_lit, z_nI_le, z_nI_lt, z_nI_inj, z_inb, z_nI_tn, z_nI_add, z_nI_mul, z_bitN, z_zb, z_0add, z_add0, z_0or, z_or0, Option.bind_some, decide_eq_true_eq, Nat.zero_add, Nat.add_zero, ↓reduceIte]
              · simp only [c2, ↓reduceIte]; rfl
              · simp only [c2, ↓reduceIte]; rfl
    have rf : L_X9_closest_30 FU N w (-1 : Int32) (0 : Int32) = if w = nI 0 then some (N, zNo (zLe P A 4)) else some (N, zAt A (zLe P A 4) (-nI 1)) := by
      have hl := z_loopE (fun f i (s : Int32) => L_X9_closest_30 f N w s i) (fun i s => s = zNo (zLe P A i)) (fun s => if w = nI 0 then some (N, s) else if s = -nI 1 then some (N, s) else (f_X9_leadOf N s).bind fun q8 => some (N, q8)) 4 ?_ ?_ 4 0 FU (-1) rfl (by omega) (by unfold FU; omega)
      · obtain ⟨s, k1, k2⟩ := hl
        rw [k2] at k1
        refine k1.trans ?_
        by_cases c : w = nI 0
        · rw [if_pos c, if_pos c]
        · rw [if_neg c, if_neg c]
          cases ho : zLe P A 4 with
          | none => rfl
          | some e =>
            have hz := z_someN (rfl : some e = some e) (zLe_p P A 4 e ho)
            rw [if_neg hz]
            show (f_X9_leadOf N (nI e)).bind _ = _
            rw [vo]; rfl
      · rintro f b _
        simp (discharger := omega) only [L_X9_closest_30, z_lit, z_nI_le, z_nI_lt, z_nI_inj, z_inb, z_nI_tn, z_nI_add, z_nI_mul, z_bitN, z_zb, z_0add, z_add0, z_0or, z_or0, Option.bind_some, decide_eq_true_eq, Nat.zero_add, Nat.add_zero, Nat.le_refl, ↓reduceIte]
        rfl
      · rintro f i b hi k1
        have h1 : ¬ 4 ≤ i := by omega
        have hlt := zLe_p P A i
        rw [zLe_succ]
        subst k1
        unfold zLeS
        by_cases c : A i ≤ nI 0
        · have c' : ¬ P i = true := fun h => (hPd i).1 h c
          rw [if_neg c']
          refine ⟨zNo (zLe P A i), ?_, rfl⟩
          simp (discharger := omega) only [L_X9_closest_30, h1, vo, c, z_lit, z_nI_le, z_nI_lt, z_nI_inj, z_inb, z_nI_tn, z_nI_add, z_nI_mul, z_bitN, z_zb, z_0add, z_add0, z_0or, z_or0, Option.bind_some, decide_eq_true_eq, Nat.zero_add, Nat.add_zero, ↓reduceIte]
        · have c' : P i = true := (hPd i).2 c
          rw [if_pos c']
          cases ho : zLe P A i with
          | none =>
            have hz : zNo none = -nI 1 := rfl
            refine ⟨nI i, ?_, rfl⟩
            simp (discharger := omega) only [L_X9_closest_30, h1, c, vo, hz, z_lit, z_nI_le, z_nI_lt, z_nI_inj, z_inb, z_nI_tn, z_nI_add, z_nI_mul, z_bitN, z_zb, z_0add, z_add0, z_0or, z_or0, Option.bind_some, decide_eq_true_eq, Nat.zero_add, Nat.add_zero, ↓reduceIte]
          | some e =>
            have hz := z_someN (rfl : some e = some e) (show e < 4 by have := hlt e ho; omega)
            have he : zNo (some e) = nI e := rfl
            rw [he] at hz
            by_cases c2 : A e ≤ A i
            · refine ⟨nI e, ?_, ?_⟩
              · simp (discharger := omega) only [L_X9_closest_30, h1, c, vo, he, hz, c2, z_lit, z_nI_le, z_nI_lt, z_nI_inj, z_inb, z_nI_tn, z_nI_add, z_nI_mul, z_bitN, z_zb, z_0add, z_add0, z_0or, z_or0, Option.bind_some, decide_eq_true_eq, Nat.zero_add, Nat.add_zero, ↓reduceIte]
              · simp only [c2, ↓reduceIte]; rfl
            · refine ⟨nI i, ?_, ?_⟩
              · simp (discharger := omega) only [L_X9_closest_30, h1, c, vo, he, hz, c2, z_lit, z_nI_le, z_nI_lt, z_nI_inj, z_inb, z_nI_tn, z_nI_add, z_nI_mul, z_bitN, z_zb, z_0add, z_add0, z_0or, z_or0, Option.bind_some, decide_eq_true_eq, Nat.zero_add, Nat.add_zero, ↓reduceIte]
              · simp only [c2, ↓reduceIte]; rfl
    refine zCs_ok h ?_ ?_ (t3 ▸ g0 : N 0 0 = nI 0) (zQX.refl X) t2 (v := if w = nI 0 then zNo (zLe P A 4) else zAt A (zLe P A 4) (-nI 1))
    · unfold f_X8_closest; rw [e1, Option.bind_some, z8_need1, Option.bind_some, zxb_l]
      refine cl.trans ?_
      split <;> rfl
    · unfold f_X9_closest; rw [e2, Option.bind_some, l1, Option.bind_some, if_neg z_n10, t1, Option.bind_some]
      refine rf.trans ?_
      split <;> rfl
theorem z_fault {n : Nat} {X M : TX} (h : zV n X M) : zCq n X M (f_X8_fault X) (f_X9_fault M) := by
  refine ⟨u2 M 0 0 (nI 0), M 0 8, ?_, ?_, h.q (zQX.refl X) (zQM_0 M (nI 0))⟩
  · unfold f_X8_fault; rw [h.fa]
  · unfold f_X9_fault
    have : u2 M 0 0 (0 : Int32) 0 8 = M 0 8 := z_u2j _ _ _ _ (by decide)
    rw [this]; rfl
theorem z_status {n : Nat} {X M : TX} (h : zV n X M) (w : Int32) : zCq n X M (f_X8_status X w) (f_X9_status M w) := by
  have hV := h.q (zQX.refl X) (zQM_0 M (nI 0))
  have e1 : u2 M 0 0 (0 : Int32) 1 = M 1 := z_u2k _ _ _ _ (by decide)
  rcases z_hlf w with (rfl | rfl) | ⟨h0, h1⟩
  · exact ⟨u2 M 0 0 (nI 0), M 1 0, by rw [← h.no]; rfl, by rw [← e1]; rfl, hV⟩
  · exact ⟨u2 M 0 0 (nI 0), M 1 1, by rw [← h.il]; rfl, by rw [← e1]; rfl, hV⟩
  · refine ⟨u2 M 0 0 (nI 0), -1, ?_, ?_, hV⟩
    · unfold f_X8_status
      have a0 : ¬ w = (0 : Int32) := fun e => h0 (.inl e)
      have a1 : ¬ w = (1 : Int32) := fun e => h0 (.inr e)
      rw [if_neg a0, if_neg a1]
    · have : f_X9_within w (0 : Int32) (1 : Int32) = some (nI 0) := by
        rcases h1 with h1 | ⟨h1, h2⟩
        · exact z9_lo h1
        · exact z9_hi h1 h2
      unfold f_X9_status
      rw [this, Option.bind_some, if_pos z_n00]; rfl
theorem z_count {n : Nat} {X M : TX} (h : zV n X M) (w : Int32) : zCq n X M (f_X8_count X w) (f_X9_count M w) := by
  have hV := h.q (zQX.refl X) (zQM_0 M (nI 0))
  have ms : ∀ j, j ≠ 0 → u2 M 0 0 (0 : Int32) 0 j = M 0 j := fun j hj => z_u2j _ _ _ _ hj
  obtain ⟨t, ht, tx, tm, _⟩ := h.tp
  obtain ⟨k, hk, kx, km, _⟩ := h.wk
  obtain ⟨m, hm, mx, mm, _⟩ := h.im
  by_cases c0 : w = (0 : Int32)
  · refine ⟨u2 M 0 0 (nI 0), nI m, ?_, ?_, hV⟩
    · unfold f_X8_count; rw [if_pos c0, mx]
    · unfold f_X9_count; rw [if_pos c0, ms 50 (by decide), mm]; rfl
  · by_cases c1 : w = (1 : Int32)
    · refine ⟨u2 M 0 0 (nI 0), nI t, ?_, ?_, hV⟩
      · unfold f_X8_count; rw [if_neg c0, if_pos c1, tx]
      · unfold f_X9_count; rw [if_neg c0, if_pos c1, ms 2 (by decide), tm]; rfl
    · by_cases c2 : w = (2 : Int32)
      · refine ⟨u2 M 0 0 (nI 0), nI k, ?_, ?_, hV⟩
        · unfold f_X8_count; rw [if_neg c0, if_neg c1, if_pos c2, kx]
        · unfold f_X9_count; rw [if_neg c0, if_neg c1, if_pos c2, ms 33 (by decide), km]; rfl
      · refine ⟨u2 M 0 0 (nI 0), -1, ?_, ?_, hV⟩
        · unfold f_X8_count; rw [if_neg c0, if_neg c1, if_neg c2]
        · unfold f_X9_count; rw [if_neg c0, if_neg c1, if_neg c2]; rfl
