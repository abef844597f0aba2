set_option linter.unusedVariables false
theorem z9_most {n : Nat} {K : TX} (h10 : n ≤ 10) (hK : K 0 19 = nI n) {a : Nat} (ha : a < 2) : ∀ (k D : Nat) (s : Nat → Int32) (M : TX), k < D → k ≤ 3 → zS K M → M 20 = s → ∃ N, f_X9_mostBy D M (nI a) (nI k) = some (N, zMb K n a k s) ∧ N 20 = s ∧ ∀ j, j ≠ 20 → N j = M j
  | 0, D + 1, s, M, _, _, hS, hs => by
    have hn : M 0 19 = nI n := hS.a19.trans hK
    have e : f_X9_mostBy (D + 1) M (nI a) (nI 0) = (f_X9_marginOf M (nI a)).bind fun q1 => L_X9_mostBy_9 (f_X9_mostBy D) FU M (nI a) (nI 0) q1 (0 : Int32) := rfl
    refine ⟨M, ?_, hs, fun _ _ => rfl⟩
    rw [e, z9_mg hn h10 ha, Option.bind_some, hs]
    have l : ∀ f, L_X9_mostBy_9 (f_X9_mostBy D) (f + 1) M (nI a) (nI 0) (zMg n s (nI a)) (nI 0) = some (M, zMg n s (nI a)) := fun f => by
      by_cases c : 4 * n ≤ 0
      · simp (discharger := omega) only [L_X9_mostBy_9, hn, c, z_lit, z_nI_le, z_nI_lt, z_nI_inj, z_inb, z_nI_tn, z_nI_add, z_nI_mul, z_bitN, z_zb, z_0add, z_add0, z_0or, z_or0, Option.bind_some, decide_eq_true_eq, Nat.zero_add, Nat.add_zero, ↓reduceIte]
      · simp (discharger := omega) only [L_X9_mostBy_9, hn, c, Nat.le_refl, z_lit, z_nI_le, z_nI_lt, z_nI_inj, z_inb, z_nI_tn, z_nI_add, z_nI_mul, z_bitN, z_zb, z_0add, z_add0, z_0or, z_or0, Option.bind_some, decide_eq_true_eq, Nat.zero_add, Nat.add_zero, ↓reduceIte]
    exact l 1023
  | k + 1, D + 1, s, M, hkD, hk3, hS, hs => by
    have hn : M 0 19 = nI n := hS.a19.trans hK
    have e : f_X9_mostBy (D + 1) M (nI a) (nI (k + 1)) = (f_X9_marginOf M (nI a)).bind fun q1 => L_X9_mostBy_9 (f_X9_mostBy D) FU M (nI a) (nI (k + 1)) q1 (0 : Int32) := rfl
    have l := z_loopE (fun f i (b : TX × Int32) => L_X9_mostBy_9 (f_X9_mostBy D) f b.1 (nI a) (nI (k + 1)) b.2 i) (fun i b => b.1 20 = s ∧ (∀ j, j ≠ 20 → b.1 j = M j) ∧ b.2 = zMx (zPi K n s) (fun i => zMb K n a k (zRi s i)) i (zMg n s (nI a))) (fun b => some (b.1, b.2)) (4 * n) ?_ ?_ (4 * n) 0 FU (M, zMg n s (nI a)) ⟨hs, fun _ _ => rfl, rfl⟩ (by omega) (by unfold FU; omega)
    · obtain ⟨b, e1, e2, e3, e4⟩ := l
      refine ⟨b.1, ?_, e2, e3⟩
      rw [e, z9_mg hn h10 ha, Option.bind_some, hs]
      refine e1.trans ?_
      rw [e4]; rfl
    · rintro f ⟨Y, v⟩ ⟨b1, b2, b3⟩
      simp only at b1 b2 b3
      have hnY : Y 0 19 = nI n := by rw [b2 0 (by decide)]; exact hn
      simp (discharger := omega) only [L_X9_mostBy_9, hnY, z_lit, z_nI_le, z_nI_lt, z_nI_inj, z_inb, z_nI_tn, z_nI_add, z_nI_mul, z_bitN, z_zb, z_0add, z_add0, z_0or, z_or0, Option.bind_some, decide_eq_true_eq, Nat.zero_add, Nat.add_zero, Nat.le_refl, ↓reduceIte]
    · rintro f i ⟨Y, v⟩ hi ⟨b1, b2, b3⟩
      simp only at b1 b2 b3
      have hnY : Y 0 19 = nI n := by rw [b2 0 (by decide)]; exact hn
      have hSY : zS K Y := hS.frame (b2 0 (by decide)) fun j hj => b2 j (by omega)
      have hp : i / 4 < n := by omega
      have h1 : ¬ 4 * n ≤ i := by omega
      have hk0 : ¬ k + 1 ≤ 0 := by omega
      have hi2 : i < 40 := by omega
      have e4 : nI i / nI 4 = nI (i / 4) := z_quo (by omega) (by omega) (by omega)
      have er' : nI i - nI (i / 4 * 4) = nI (i % 4) := by rw [← z_nI_mul, ← e4]; exact z_rem (by omega) (by omega) (by omega)
      have ek : nI (k + 1) - nI 1 = nI k := z_subN (by omega)
      have hmay := z9_mayCome hnY h10 hp (nI (i % 4))
      rw [hSY.m7, b1] at hmay
      have hl : i / 4 < 34 := by omega
      have t10 : ¬ ((1 : Nat) = 0) := by decide
      have hst : zMx (zPi K n s) (fun i => zMb K n a k (zRi s i)) (i + 1) (zMg n s (nI a)) = if zMay (K 7) s n (i / 4) (nI (i % 4)) = true then (if v < zMb K n a k (zRi s i) then zMb K n a k (zRi s i) else v) else v := by
        rw [zMx_succ, ← b3]; rfl
      rw [hst]
      by_cases cm : zMay (K 7) s n (i / 4) (nI (i % 4)) = true
      · rw [if_pos cm] at hmay
        rw [if_pos cm]
        obtain ⟨Z, z1, z2, z3⟩ := z9_most h10 hK ha k D (zRi s i) (u2 Y 20 (i / 4) (nI (i % 4))) (by omega) (by omega) (hSY.set20 _ _) (z_M20 Y s b1 _ _)
        have back : u2 Z 20 (i / 4) (Y 20 (i / 4)) 20 = s := by rw [z_u2r, z2, b1]; exact upd_back s _ _
        have fr : ∀ j, j ≠ 20 → u2 Z 20 (i / 4) (Y 20 (i / 4)) j = M j := fun j hj => by rw [z_u2k _ _ _ _ hj, z3 j hj, z_u2k _ _ _ _ hj, b2 j hj]
        by_cases c : v < zMb K n a k (zRi s i)
        · have c' : ¬ zMb K n a k (zRi s i) ≤ v := Int32.not_le.2 c
          refine ⟨(u2 Z 20 (i / 4) (Y 20 (i / 4)), zMb K n a k (zRi s i)), ?_, back, fr, by rw [if_pos c]⟩
          simp (maxSteps := 400000) (discharger := omega) only [L_X9_mostBy_9, hnY, h1, hk0, e4, er', ek, hmay, hl, z1, c', t10, z_lit, z_nI_le, z_nI_lt, z_nI_inj, z_inb, z_nI_tn, z_nI_add, z_nI_mul, z_bitN, z_zb, z_0add, z_add0, z_0or, z_or0, Option.bind_some, decide_eq_true_eq, Nat.zero_add, Nat.add_zero, ↓reduceIte]
        · have c' : zMb K n a k (zRi s i) ≤ v := Int32.not_lt.1 c
          refine ⟨(u2 Z 20 (i / 4) (Y 20 (i / 4)), v), ?_, back, fr, by rw [if_neg c]⟩
          simp (maxSteps := 400000) (discharger := omega) only [L_X9_mostBy_9, hnY, h1, hk0, e4, er', ek, hmay, hl, z1, c', t10, z_lit, z_nI_le, z_nI_lt, z_nI_inj, z_inb, z_nI_tn, z_nI_add, z_nI_mul, z_bitN, z_zb, z_0add, z_add0, z_0or, z_or0, Option.bind_some, decide_eq_true_eq, Nat.zero_add, Nat.add_zero, ↓reduceIte]
      · rw [if_neg cm] at hmay
        rw [if_neg cm]
        refine ⟨(Y, v), ?_, b1, b2, rfl⟩
        simp (maxSteps := 400000) (discharger := omega) only [L_X9_mostBy_9, hnY, h1, hk0, e4, er', hmay, z_lit, z_nI_le, z_nI_lt, z_nI_inj, z_inb, z_nI_tn, z_nI_add, z_nI_mul, z_bitN, z_zb, z_0add, z_add0, z_0or, z_or0, Option.bind_some, decide_eq_true_eq, Nat.zero_add, Nat.add_zero, ↓reduceIte]
theorem z9_turns {n : Nat} {K : TX} (h10 : n ≤ 10) (hK : K 0 19 = nI n) : ∀ (k D a : Nat) (s : Nat → Int32) (M : TX), k < D → k ≤ 3 → a < 2 → zS K M → M 20 = s → ∃ N, f_X9_turnsBy D M (nI a) (nI k) = some (N, zTb K n k a s) ∧ N 20 = s ∧ ∀ j, j ≠ 20 → N j = M j
  | 0, D + 1, a, s, M, _, _, _, hS, hs => by
    have hn : M 0 19 = nI n := hS.a19.trans hK
    have e : f_X9_turnsBy (D + 1) M (nI a) (nI 0) = if nI 0 = 0 then ((f_X9_marginOf M (0 : Int32)).bind fun q16 => some (M, q16)) else (((f_X9_turnsBy D) M ((1 : Int32) - nI a) (nI 0 - (1 : Int32))).bind fun q2 => L_X9_turnsBy_24 (f_X9_turnsBy D) FU q2.1 (nI a) (nI 0) q2.2 (0 : Int32)) := rfl
    have m0 : f_X9_marginOf M (0 : Int32) = some (zMg n (M 20) (nI 0)) := z9_mg hn h10 (side := 0) (by omega)
    refine ⟨M, ?_, hs, fun _ _ => rfl⟩
    rw [e, if_pos z_n00, m0, hs]; rfl
  | k + 1, D + 1, a, s, M, hkD, hk3, ha, hS, hs => by
    have hn : M 0 19 = nI n := hS.a19.trans hK
    have e : f_X9_turnsBy (D + 1) M (nI a) (nI (k + 1)) = if nI (k + 1) = 0 then ((f_X9_marginOf M (0 : Int32)).bind fun q16 => some (M, q16)) else (((f_X9_turnsBy D) M ((1 : Int32) - nI a) (nI (k + 1) - (1 : Int32))).bind fun q2 => L_X9_turnsBy_24 (f_X9_turnsBy D) FU q2.1 (nI a) (nI (k + 1)) q2.2 (0 : Int32)) := rfl
    have hne : ¬ nI (k + 1) = (0 : Int32) := fun h => by
      have := (z_nI_inj (i := k + 1) (j := 0) (by omega) (by omega)).1 h
      omega
    have ek' : nI (k + 1) - (1 : Int32) = nI k := by
      have : nI (k + 1) - nI 1 = nI (k + 1 - 1) := z_subN (by omega)
      exact this
    have ea : (1 : Int32) - nI a = nI (1 - a) := z_one_sub ha
    obtain ⟨M0, d1, d2, d3⟩ := z9_turns h10 hK k D (1 - a) s M (by omega) (by omega) (by omega) hS hs
    have hS0 : zS K M0 := hS.frame (d3 0 (by decide)) fun j hj => d3 j (by omega)
    -- what the spec's fold is
    obtain ⟨F, hF⟩ : ∃ F : Nat → Int32 → Int32, F = if a = 0 then zMxS (zPi K n s) (fun i => zTb K n k 1 (zRi s i)) else zMnS (zPi K n s) (fun i => zTb K n k 0 (zRi s i)) := ⟨_, rfl⟩
    have hTb : zTb K n (k + 1) a s = zF F (4 * n) 0 (zTb K n k (1 - a) s) := by
      have h : a = 0 ∨ a = 1 := by omega
      rcases h with rfl | rfl
      · rw [hF, if_pos rfl]; rfl
      · rw [hF, if_neg (by decide)]; rfl
    have l := z_loopE (fun f i (b : TX × Int32) => L_X9_turnsBy_24 (f_X9_turnsBy D) f b.1 (nI a) (nI (k + 1)) b.2 i) (fun i b => b.1 20 = s ∧ (∀ j, j ≠ 20 → b.1 j = M j) ∧ b.2 = zF F i 0 (zTb K n k (1 - a) s)) (fun b => some (b.1, b.2)) (4 * n) ?_ ?_ (4 * n) 0 FU (M0, zTb K n k (1 - a) s) ⟨d2, d3, rfl⟩ (by omega) (by unfold FU; omega)
    · obtain ⟨b, e1, e2, e3, e4⟩ := l
      refine ⟨b.1, ?_, e2, e3⟩
      rw [e, if_neg hne, ea, ek', d1, Option.bind_some]
      refine e1.trans ?_
      rw [e4, hTb]
    · rintro f ⟨Y, v⟩ ⟨b1, b2, b3⟩
      simp only at b1 b2 b3
      have hnY : Y 0 19 = nI n := by rw [b2 0 (by decide)]; exact hn
      simp (discharger := omega) only [L_X9_turnsBy_24, hnY, z_lit, z_nI_le, z_nI_lt, z_nI_inj, z_inb, z_nI_tn, z_nI_add, z_nI_mul, z_bitN, z_zb, z_0add, z_add0, z_0or, z_or0, Option.bind_some, decide_eq_true_eq, Nat.zero_add, Nat.add_zero, Nat.le_refl, ↓reduceIte]
    · rintro f i ⟨Y, v⟩ hi ⟨b1, b2, b3⟩
      simp only at b1 b2 b3
      have hnY : Y 0 19 = nI n := by rw [b2 0 (by decide)]; exact hn
      have hSY : zS K Y := hS.frame (b2 0 (by decide)) fun j hj => b2 j (by omega)
      have hp : i / 4 < n := by omega
      have h1 : ¬ 4 * n ≤ i := by omega
      have hi2 : i < 40 := by omega
      have e4 : nI i / nI 4 = nI (i / 4) := z_quo (by omega) (by omega) (by omega)
      have er' : nI i - nI (i / 4 * 4) = nI (i % 4) := by rw [← z_nI_mul, ← e4]; exact z_rem (by omega) (by omega) (by omega)
      have ek : nI (k + 1) - nI 1 = nI k := z_subN (by omega)
      have ea' : nI 1 - nI a = nI (1 - a) := z_one_sub ha
      have hmay := z9_mayCome hnY h10 hp (nI (i % 4))
      rw [hSY.m7, b1] at hmay
      have hl : i / 4 < 34 := by omega
      have t10 : ¬ ((1 : Nat) = 0) := by decide
      rw [zF_snoc, ← b3, Nat.zero_add, hF]
      by_cases cm : zMay (K 7) s n (i / 4) (nI (i % 4)) = true
      · rw [if_pos cm] at hmay
        have hPi : zPi K n s i = true := cm
        obtain ⟨Z, z1, z2, z3⟩ := z9_turns h10 hK k D (1 - a) (zRi s i) (u2 Y 20 (i / 4) (nI (i % 4))) (by omega) (by omega) (by omega) (hSY.set20 _ _) (z_M20 Y s b1 _ _)
        have back : u2 Z 20 (i / 4) (Y 20 (i / 4)) 20 = s := by rw [z_u2r, z2, b1]; exact upd_back s _ _
        have fr : ∀ j, j ≠ 20 → u2 Z 20 (i / 4) (Y 20 (i / 4)) j = M j := fun j hj => by rw [z_u2k _ _ _ _ hj, z3 j hj, z_u2k _ _ _ _ hj, b2 j hj]
        have h : a = 0 ∨ a = 1 := by omega
        rcases h with rfl | rfl
        · rw [if_pos rfl]
          unfold zMxS
          rw [if_pos hPi]
          by_cases c : v < zTb K n k 1 (zRi s i)
          · have c' : ¬ zTb K n k 1 (zRi s i) ≤ v := Int32.not_le.2 c
            refine ⟨(u2 Z 20 (i / 4) (Y 20 (i / 4)), zTb K n k 1 (zRi s i)), ?_, back, fr, by rw [if_pos c]⟩
            simp (maxSteps := 400000) (discharger := omega) only [L_X9_turnsBy_24, hnY, h1, e4, er', ek, ea', hmay, hl, z1, c', t10, z_lit, z_nI_le, z_nI_lt, z_nI_inj, z_inb, z_nI_tn, z_nI_add, z_nI_mul, z_bitN, z_zb, z_0add, z_add0, z_0or, z_or0, Option.bind_some, decide_eq_true_eq, Nat.zero_add, Nat.add_zero, ↓reduceIte]
          · have c' : zTb K n k 1 (zRi s i) ≤ v := Int32.not_lt.1 c
            refine ⟨(u2 Z 20 (i / 4) (Y 20 (i / 4)), v), ?_, back, fr, by rw [if_neg c]⟩
            simp (maxSteps := 400000) (discharger := omega) only [L_X9_turnsBy_24, hnY, h1, e4, er', ek, ea', hmay, hl, z1, c', t10, z_lit, z_nI_le, z_nI_lt, z_nI_inj, z_inb, z_nI_tn, z_nI_add, z_nI_mul, z_bitN, z_zb, z_0add, z_add0, z_0or, z_or0, Option.bind_some, decide_eq_true_eq, Nat.zero_add, Nat.add_zero, ↓reduceIte]
        · rw [if_neg (by decide)]
          unfold zMnS
          rw [if_pos hPi]
          by_cases c : v ≤ zTb K n k 0 (zRi s i)
          · refine ⟨(u2 Z 20 (i / 4) (Y 20 (i / 4)), v), ?_, back, fr, by rw [if_pos c]⟩
            simp (maxSteps := 400000) (discharger := omega) only [L_X9_turnsBy_24, hnY, h1, e4, er', ek, ea', hmay, hl, z1, c, t10, z_lit, z_nI_le, z_nI_lt, z_nI_inj, z_inb, z_nI_tn, z_nI_add, z_nI_mul, z_bitN, z_zb, z_0add, z_add0, z_0or, z_or0, Option.bind_some, decide_eq_true_eq, Nat.zero_add, Nat.add_zero, ↓reduceIte]
          · refine ⟨(u2 Z 20 (i / 4) (Y 20 (i / 4)), zTb K n k 0 (zRi s i)), ?_, back, fr, by rw [if_neg c]⟩
            simp (maxSteps := 400000) (discharger := omega) only [L_X9_turnsBy_24, hnY, h1, e4, er', ek, ea', hmay, hl, z1, c, t10, z_lit, z_nI_le, z_nI_lt, z_nI_inj, z_inb, z_nI_tn, z_nI_add, z_nI_mul, z_bitN, z_zb, z_0add, z_add0, z_0or, z_or0, Option.bind_some, decide_eq_true_eq, Nat.zero_add, Nat.add_zero, ↓reduceIte]
      · rw [if_neg cm] at hmay
        have hPi : ¬ zPi K n s i = true := cm
        refine ⟨(Y, v), ?_, b1, b2, ?_⟩
        · simp (maxSteps := 400000) (discharger := omega) only [L_X9_turnsBy_24, hnY, h1, e4, er', hmay, z_lit, z_nI_le, z_nI_lt, z_nI_inj, z_inb, z_nI_tn, z_nI_add, z_nI_mul, z_bitN, z_zb, z_0add, z_add0, z_0or, z_or0, Option.bind_some, decide_eq_true_eq, Nat.zero_add, Nat.add_zero, ↓reduceIte]
        · have h : a = 0 ∨ a = 1 := by omega
          rcases h with rfl | rfl
          · rw [if_pos rfl]; unfold zMxS; rw [if_neg hPi]
          · rw [if_neg (by decide)]; unfold zMnS; rw [if_neg hPi]
