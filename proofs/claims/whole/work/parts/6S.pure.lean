set_option linter.unusedVariables false
theorem zD_of {n : Nat} {s t : Nat → Int32} {X Y : TX} (h10 : n ≤ 10) (hD : zD n s X) (ht : ∀ j, (j < 10 ∨ 30 ≤ j) → t j = s j) (hv : zVb n t) (h3 : Y 3 = X 3) (h4 : Y 4 = X 4) (h5 : ∀ q, q < 20 → Y 5 q = t (10 + q)) (hT : zTal n (Y 4) (Y 5) (fun p => Y 5 (10 + p)) (Y 9) (Y 10)) : zD n t Y := by
  refine zD.mk ?_ ?_ h5 hv ?_ ?_ ?_ ?_ ?_ ?_
  · intro p hp
    rw [ht p (by omega)]; exact hD.xw p hp
  · intro p hp
    rw [h4, ht p (by omega)]; exact hD.w p hp
  · refine zTal_congr hT (fun p hp => ?_) (fun p hp => h5 p (by omega)) (fun p hp => ?_)
    · rw [h4, ht p (by omega)]; exact hD.w p (by omega)
    · rw [h5 (10 + p) (by omega)]; congr 1; omega
  · rw [h3, ht 30 (by omega)]; exact hD.ruler
  · rw [ht 30 (by omega)]; exact hD.rul
  · rw [h3, ht 31 (by omega)]; exact hD.reign
  · rw [h3, ht 32 (by omega)]; exact hD.year
  · rw [h3, ht 33 (by omega)]; exact hD.moved
theorem zD_head {n : Nat} {s t : Nat → Int32} {X Y : TX} (h10 : n ≤ 10) (hD : zD n s X) (ht : ∀ j, j < 30 → t j = s j) (h4 : Y 4 = X 4) (h5 : Y 5 = X 5) (h9 : Y 9 = X 9) (hX : Y 10 = X 10) (g9 : Y 3 9 = t 30) (gr : t 30 = -nI 1 ∨ t 30 = nI 0 ∨ t 30 = nI 1) (g10 : Y 3 10 = t 31) (g8 : Y 3 8 = t 32) (g11 : Y 3 11 = t 33) : zD n t Y := by
  refine zD.mk ?_ ?_ ?_ ?_ ?_ g9 gr g10 g8 g11
  · intro p hp
    rw [ht p (by omega)]; exact hD.xw p hp
  · intro p hp
    rw [h4, ht p (by omega)]; exact hD.w p hp
  · intro p hp
    rw [h5, ht _ (by omega)]; exact hD.v p hp
  · intro p hp
    rw [ht _ (by omega), ht _ (by omega)]; exact hD.vb p hp
  · rw [h9, hX]
    exact zTal_congr hD.tal (fun p hp => (ht p (by omega)).symm) (fun p hp => (ht _ (by omega)).symm) (fun p hp => (ht _ (by omega)).symm)
theorem zTi_vb {n : Nat} {K X : TX} (hE : zE n K X) {s : Nat → Int32} (hy : zYr 1000 s) (hv : zVb n s) : zVb n (zTi K n s) := by
  unfold zTi
  by_cases h : K 0 20 = nI 0
  · rw [if_pos h]; exact hv
  · rw [if_neg h]
    obtain ⟨t, ht, e1, e2, e3⟩ := hE.td
    obtain ⟨y, hy, ey⟩ := hy
    have ht0 : t ≠ 0 := fun e => h (by rw [e2, e])
    have hi : zTix K s < t := by unfold zTix; rw [ey, e2, z_nI_tn (by omega), z_nI_tn (by omega)]; exact Nat.mod_lt _ (by omega)
    obtain ⟨a, b, ha, hb, f1, f2, f3, f4⟩ := e3 _ hi
    rw [f2, f4, z_nI_tn (by omega)]
    exact zCo_vb ha (by omega) hE.n10 hv
theorem z3_tideOf {n : Nat} {K X : TX} (hE : zE n K X) {s : Nat → Int32} (hy : zYr 1000 s) (h0 : ¬ K 0 20 = nI 0) : f_X3_tideOf X (s 32) = some (nI (zTix K s)) ∧ ∃ a b, a < 2 ∧ b ≤ 20 ∧ zTix K s < 6 ∧ X 7 (zTix K s) = nI a ∧ K 8 (2 * zTix K s) = nI a ∧ X 8 (zTix K s) = nI b ∧ K 8 (2 * zTix K s + 1) = nI b := by
  obtain ⟨t, ht, e1, e2, e3⟩ := hE.td
  obtain ⟨y, hy, ey⟩ := hy
  have ht0 : t ≠ 0 := fun e => h0 (by rw [e2, e])
  have hix : zTix K s = y % t := by unfold zTix; rw [ey, e2, z_nI_tn (by omega), z_nI_tn (by omega)]
  have hi : zTix K s < t := by rw [hix]; exact Nat.mod_lt _ (by omega)
  obtain ⟨a, b, ha, hb, f⟩ := e3 _ hi
  refine ⟨?_, a, b, ha, hb, by omega, f⟩
  have her : nI y - nI y / nI t * nI t = nI (y % t) := z_rem (by omega) (by omega) (by omega)
  have c1 : ¬ t ≤ 0 := by omega
  unfold f_X3_tideOf
  simp (discharger := omega) only [e1, ey, c1, ht0, her, hix, z_lit, z_nI_le, z_nI_lt, z_nI_inj, z_inb, z_nI_tn, z_nI_add, z_nI_mul, z_bitN, z_zb, z_0add, z_add0, z_0or, z_or0, Option.bind_some, decide_eq_true_eq, Nat.zero_add, Nat.add_zero, ↓reduceIte]
theorem z3_comeTide {n : Nat} {K X : TX} {s : Nat → Int32} (hE : zE n K X) (hD : zD n s X) (hy : zYr 1000 s) : ∃ Y, f_X3_comeTide X = some Y ∧ (∀ k, k ≠ 5 → k ≠ 9 → k ≠ 10 → Y k = X k) ∧ zD n (zTi K n s) Y := by
  have h10 := hE.n10
  obtain ⟨t, ht, e1, e2, e3⟩ := hE.td
  by_cases h : K 0 20 = nI 0
  · have ht0 : t = 0 := (z_nI_inj (by omega) (by omega)).1 (e2.symm.trans h)
    refine ⟨X, ?_, fun _ _ _ _ => rfl, ?_⟩
    · unfold f_X3_comeTide; rw [e1, ht0]; exact if_pos rfl
    · unfold zTi; rw [if_pos h]; exact hD
  · have ht0 : ¬ t = 0 := fun e => h (by rw [e2, e])
    obtain ⟨g1, a, b, ha, hb, hix, f1, f2, f3, f4⟩ := z3_tideOf hE hy h
    have hye : X 3 8 = s 32 := hD.year
    have a7 : f_X8_at 7 X (nI (zTix K s)) = some (nI a) := by rw [z_at (show zTix K s < lenX 7 from hix) (by decide), f1]
    have a8 : f_X8_at 8 X (nI (zTix K s)) = some (nI b) := by rw [z_at (show zTix K s < lenX 8 from hix) (by decide), f3]
    have hs1 : f_X3_comingSide X = some (nI a) := by unfold f_X3_comingSide; rw [hye, g1, Option.bind_some, a7]; rfl
    have hs2 : f_X3_comingShare X = some (nI b) := by unfold f_X3_comingShare; rw [hye, g1, Option.bind_some, a8]; rfl
    have hl := z_loopE (fun f i Y => L_X3_comeTide_34 f Y (nI (10 * a)) (nI (10 * (1 - a))) (nI b) i) (fun p Y => (∀ k, k ≠ 5 → Y k = X k) ∧ ∀ q, q < 20 → Y 5 q = zCo p a (nI b) s (10 + q)) (fun Y => (f_X3_tally Y).bind fun q6 => some q6) n ?_ ?_ n 0 FU X ⟨fun _ _ => rfl, hD.v⟩ (by omega) (by unfold FU; omega)
    · obtain ⟨Y, k1, k2, k3⟩ := hl
      obtain ⟨Z, m1, m2, m3⟩ := z3_tally (X := Y) (n := n) (by rw [k2 3 (by decide)]; exact hE.xn) h10 (by rw [k2 4 (by decide)]; exact hD.xws h10)
      refine ⟨Z, ?_, fun k h5 h9 hX => (m2 k h9 hX).trans (k2 k h5), ?_⟩
      · have c0 : ¬ nI t = nI 0 := fun e => ht0 ((z_nI_inj (by omega) (by omega)).1 e)
        unfold f_X3_comeTide
        simp (discharger := omega) only [e1, ht0, hs1, hs2, z_one_sub ha, z_lit, z_nI_le, z_nI_lt, z_nI_inj, z_inb, z_nI_tn, z_nI_add, z_nI_mul, z_bitN, z_zb, z_0add, z_add0, z_0or, z_or0, Option.bind_some, decide_eq_true_eq, Nat.zero_add, Nat.add_zero, Nat.mul_comm _ 10, ↓reduceIte]
        rw [k1, m1]; rfl
      · refine zD_of h10 hD (fun j hj => zTi_out hE hj hy) (zTi_vb hE hy hD.vb) ((m2 3 (by decide) (by decide)).trans (k2 3 (by decide))) ((m2 4 (by decide) (by decide)).trans (k2 4 (by decide))) (fun q hq => ?_) ?_
        · rw [m2 5 (by decide) (by decide), k3 q hq]
          unfold zTi; rw [if_neg h, f2, f4, z_nI_tn (by omega)]
        · rw [m2 4 (by decide) (by decide), m2 5 (by decide) (by decide)]; exact m3
    · intro f Y ⟨hY, _⟩
      simp (discharger := omega) only [L_X3_comeTide_34, hY 3 (by decide), hE.xn, z_lit, z_nI_le, z_nI_lt, z_nI_inj, z_inb, z_nI_tn, z_nI_add, z_nI_mul, z_bitN, z_zb, z_0add, z_add0, z_0or, z_or0, Option.bind_some, decide_eq_true_eq, Nat.zero_add, Nat.add_zero, Nat.le_refl, ↓reduceIte]
    · intro f p Y hp ⟨hY, hq⟩
      have h1 : ¬ n ≤ p := by omega
      have a5 : ∀ (Z : TX) j, j < 20 → f_X8_at 5 Z (nI j) = some (Z 5 j) := fun Z j hj => z_at (show j < lenX 5 from hj) (by decide)
      have p5 : ∀ (Z : TX) j v, j < 20 → f_X8_put 5 Z (nI j) v = some (u2 Z 5 j v) := fun Z j v hj => z_put (show j < lenX 5 from hj) (by decide)
      have hne : ¬ (10 * a + p = 10 * (1 - a) + p) := by omega
      refine ⟨u2 (u2 Y 5 (10 * (1 - a) + p) (Y 5 (10 * (1 - a) + p) - Y 5 (10 * (1 - a) + p) * nI b / nI 100)) 5 (10 * a + p) (Y 5 (10 * a + p) + Y 5 (10 * (1 - a) + p) * nI b / nI 100), ?_, ?_, ?_⟩
      · simp (discharger := omega) only [L_X3_comeTide_34, hY 3 (by decide), hE.xn, h1, a5, p5, z_lit, z_nI_le, z_nI_lt, z_nI_inj, z_inb, z_nI_tn, z_nI_add, z_nI_mul, z_bitN, z_zb, z_0add, z_add0, z_0or, z_or0, Option.bind_some, decide_eq_true_eq, Nat.zero_add, Nat.add_zero, ↓reduceIte]
        rw [z_u2j _ _ _ _ hne]
      · intro k hk
        rw [z_u2k _ _ _ _ hk, z_u2k _ _ _ _ hk, hY k hk]
      · intro q hq20
        rw [zCo_snoc, z_u2r, z_u2r]
        by_cases c1 : q = 10 * a + p
        · rw [c1, z_updS, show 10 + (10 * a + p) = 10 + 10 * a + p by omega, zCoS_1 ha, hq _ (by omega), hq _ (by omega)]
          rw [show 10 + (10 * a + p) = 10 + 10 * a + p by omega, show 10 + (10 * (1 - a) + p) = 10 + 10 * (1 - a) + p by omega]
        · rw [z_updJ _ _ c1]
          by_cases c2 : q = 10 * (1 - a) + p
          · rw [c2, z_updS, show 10 + (10 * (1 - a) + p) = 10 + 10 * (1 - a) + p by omega, zCoS_2, hq _ (by omega)]
            rw [show 10 + (10 * (1 - a) + p) = 10 + 10 * (1 - a) + p by omega]
          · rw [z_updJ _ _ c2, zCoS_j _ (by omega) (by omega), hq q hq20]
theorem zRu_rul {n : Nat} {s : Nat → Int32} (h : s 30 = -nI 1 ∨ s 30 = nI 0 ∨ s 30 = nI 1) : zRu n s = -nI 1 ∨ zRu n s = nI 0 ∨ zRu n s = nI 1 := by
  unfold zRu
  split
  · exact h
  · split
    · exact .inr (.inr rfl)
    · exact .inr (.inl rfl)
theorem zVo_j {K : TX} {n : Nat} {s : Nat → Int32} {j : Nat} (h0 : j ≠ 30) (h1 : j ≠ 31) (h2 : j ≠ 32) : zVo K n s j = zTi K n s j := by
  unfold zVo; rw [z_updJ _ _ h2, z_updJ _ _ h1, z_updJ _ _ h0]
theorem z3_elect {n : Nat} {K X : TX} {s : Nat → Int32} (hE : zE n K X) (hD : zD n s X) (hy : zYr 1000 s) : ∃ Y, f_X3_elect X = some Y ∧ (∀ k, k ≠ 3 → k ≠ 5 → k ≠ 9 → k ≠ 10 → Y k = X k) ∧ (∀ j, j ≠ 8 → j ≠ 9 → j ≠ 10 → Y 3 j = X 3 j) ∧ zD n (zVo K n s) Y := by
  have h10 := hE.n10
  obtain ⟨Z, k1, k2, hZ⟩ := z3_comeTide hE hD hy
  have hEZ : zE n K Z := hE.frame' (k2 3 (by decide) (by decide) (by decide)) fun k hk => k2 k (by unfold zEk at hk; omega) (by unfold zEk at hk; omega) (by unfold zEk at hk; omega)
  obtain ⟨t, ht⟩ : ∃ t, t = zTi K n s := ⟨_, rfl⟩
  have hm := hZ.margin (nI 0)
  have ha0 := z3_all hEZ hZ (a := 0) (by omega)
  have ha1 := z3_all hEZ hZ (a := 1) (by omega)
  have hru : Z 3 9 = s 30 := by rw [k2 3 (by decide) (by decide) (by decide)]; exact hD.ruler
  have hre : Z 3 10 = s 31 := by rw [k2 3 (by decide) (by decide) (by decide)]; exact hD.reign
  have hye : Z 3 8 = s 32 := by rw [k2 3 (by decide) (by decide) (by decide)]; exact hD.year
  have hmo : Z 3 11 = s 33 := by rw [k2 3 (by decide) (by decide) (by decide)]; exact hD.moved
  have t30 : t 30 = s 30 := by rw [ht]; exact zTi_out hE (by omega) hy
  have t33 : t 33 = s 33 := by rw [ht]; exact zTi_out hE (by omega) hy
  rw [← ht] at hm ha0 ha1 hZ
  have n98 : ¬ ((8 : Nat) = 9) := by omega
  have n910 : ¬ ((9 : Nat) = 10) := by omega
  have n109 : ¬ ((10 : Nat) = 9) := by omega
  have n810 : ¬ ((8 : Nat) = 10) := by omega
  have key : ∀ W : TX, (∀ k, k ≠ 3 → W k = Z k) → (∀ j, j ≠ 9 → W 3 j = Z 3 j) → W 3 9 = zRu n t → ∃ Y, B_X3_elect_48 W (s 30) = some Y ∧ (∀ k, k ≠ 3 → k ≠ 5 → k ≠ 9 → k ≠ 10 → Y k = X k) ∧ (∀ j, j ≠ 8 → j ≠ 9 → j ≠ 10 → Y 3 j = X 3 j) ∧ zD n (zVo K n s) Y := fun W hW hj h9 => by
    have hWe := hj 10 (by decide)
    have hWy := hj 8 (by decide)
    refine ⟨u2 (u2 W 3 10 (if zRu n t = -nI 1 then nI 0 else if zRu n t = s 30 then s 31 + nI 1 else nI 1)) 3 8 (s 32 + nI 1), ?_, ?_, ?_, ?_⟩
    · by_cases c1 : zRu n t = -nI 1
      · simp (discharger := omega) only [B_X3_elect_48, h9, c1, z_lit, z_nI_le, z_nI_lt, z_nI_inj, z_inb, z_nI_tn, z_nI_add, z_nI_mul, z_bitN, z_zb, z_0add, z_add0, z_0or, z_or0, Option.bind_some, decide_eq_true_eq, Nat.zero_add, Nat.add_zero, z_u2j _ _ _ _ n810, hWy, hye, ↓reduceIte]
      · by_cases c2 : zRu n t = s 30
        · have c1' : ¬ s 30 = -nI 1 := c2 ▸ c1
          simp (discharger := omega) only [B_X3_elect_48, h9, c1', c2, z_lit, z_nI_le, z_nI_lt, z_nI_inj, z_inb, z_nI_tn, z_nI_add, z_nI_mul, z_bitN, z_zb, z_0add, z_add0, z_0or, z_or0, Option.bind_some, decide_eq_true_eq, Nat.zero_add, Nat.add_zero, z_u2j _ _ _ _ n810, hWy, hWe, hye, hre, ↓reduceIte]
        · simp (discharger := omega) only [B_X3_elect_48, h9, c1, c2, z_lit, z_nI_le, z_nI_lt, z_nI_inj, z_inb, z_nI_tn, z_nI_add, z_nI_mul, z_bitN, z_zb, z_0add, z_add0, z_0or, z_or0, Option.bind_some, decide_eq_true_eq, Nat.zero_add, Nat.add_zero, z_u2j _ _ _ _ n810, hWy, hye, ↓reduceIte]
    · intro k h3 h5 hk9 hk10
      rw [z_u2k _ _ _ _ h3, z_u2k _ _ _ _ h3, hW k h3, k2 k h5 hk9 hk10]
    · intro j j8 j9 j10
      rw [z_u2j _ _ _ _ j8, z_u2j _ _ _ _ j10, hj j j9, k2 3 (by decide) (by decide) (by decide)]
    · have w3 : ∀ k, k ≠ 3 → u2 (u2 W 3 10 (if zRu n t = -nI 1 then nI 0 else if zRu n t = s 30 then s 31 + nI 1 else nI 1)) 3 8 (s 32 + nI 1) k = Z k := fun k h3 => by rw [z_u2k _ _ _ _ h3, z_u2k _ _ _ _ h3, hW k h3]
      refine zD_head h10 hZ (fun j hj => by rw [zVo_j (by omega) (by omega) (by omega), ht]) (w3 4 (by decide)) (w3 5 (by decide)) (w3 9 (by decide)) (w3 10 (by decide)) ?_ ?_ ?_ ?_ ?_
      · rw [z_u2j _ _ _ _ (show (9 : Nat) ≠ 8 by decide), z_u2j _ _ _ _ n910, h9]
        unfold zVo; rw [z_updJ _ _ (by decide), z_updJ _ _ (by decide), z_updS, ht]
      · unfold zVo; rw [z_updJ _ _ (by decide), z_updJ _ _ (by decide), z_updS, ← ht]
        exact zRu_rul (by rw [t30]; exact hD.rul)
      · rw [z_u2j _ _ _ _ (show (10 : Nat) ≠ 8 by decide), z_u2s]
        unfold zVo; rw [z_updJ _ _ (by decide), z_updS, ← ht]
      · rw [z_u2s]
        unfold zVo; rw [z_updS]
      · rw [z_u2j _ _ _ _ (show (11 : Nat) ≠ 8 by decide), z_u2j _ _ _ _ (show (11 : Nat) ≠ 10 by decide), hj 11 (by decide), hmo, zVo_j (by decide) (by decide) (by decide), ← ht, t33]
  have hZ9 : Z 3 9 = s 30 := hru
  have kU : ∀ v, zRu n t = v → ∃ Y, B_X3_elect_48 (u2 Z 3 9 v) (s 30) = some Y ∧ (∀ k, k ≠ 3 → k ≠ 5 → k ≠ 9 → k ≠ 10 → Y k = X k) ∧ (∀ j, j ≠ 8 → j ≠ 9 → j ≠ 10 → Y 3 j = X 3 j) ∧ zD n (zVo K n s) Y := fun v hv =>
    key _ (fun k hk => z_u2k _ _ _ _ hk) (fun j hj => z_u2j _ _ _ _ hj) (by rw [z_u2s, hv])
  have kN : zRu n t = s 30 → ∃ Y, B_X3_elect_48 Z (s 30) = some Y ∧ (∀ k, k ≠ 3 → k ≠ 5 → k ≠ 9 → k ≠ 10 → Y k = X k) ∧ (∀ j, j ≠ 8 → j ≠ 9 → j ≠ 10 → Y 3 j = X 3 j) ∧ zD n (zVo K n s) Y := fun hv =>
    key Z (fun k hk => rfl) (fun j hj => rfl) (by rw [hv, hru])
  by_cases c1 : zMg n t (nI 0) = nI 0
  · by_cases c2 : zAll n t 0 - zAll n t 1 = nI 0
    · obtain ⟨Y, y1, y2⟩ := kN (by unfold zRu zAh; rw [if_pos c1, if_pos c2, t30])
      refine ⟨Y, ?_, y2⟩
      simp (discharger := omega) only [f_X3_elect, k1, hm, c1, ha0, ha1, c2, hru, y1, z_lit, z_nI_le, z_nI_lt, z_nI_inj, z_inb, z_nI_tn, z_nI_add, z_nI_mul, z_bitN, z_zb, z_0add, z_add0, z_0or, z_or0, Option.bind_some, decide_eq_true_eq, Nat.zero_add, Nat.add_zero, ↓reduceIte]
    · by_cases c3 : zAll n t 0 - zAll n t 1 ≤ nI 0
      · obtain ⟨Y, y1, y2⟩ := kU (nI 1) (by unfold zRu zAh; rw [if_pos c1, if_neg c2, if_pos c3])
        refine ⟨Y, ?_, y2⟩
        simp (discharger := omega) only [f_X3_elect, k1, hm, c1, ha0, ha1, c2, c3, hru, y1, z_lit, z_nI_le, z_nI_lt, z_nI_inj, z_inb, z_nI_tn, z_nI_add, z_nI_mul, z_bitN, z_zb, z_0add, z_add0, z_0or, z_or0, Option.bind_some, decide_eq_true_eq, Nat.zero_add, Nat.add_zero, ↓reduceIte]
      · obtain ⟨Y, y1, y2⟩ := kU (nI 0) (by unfold zRu zAh; rw [if_pos c1, if_neg c2, if_neg c3])
        refine ⟨Y, ?_, y2⟩
        simp (discharger := omega) only [f_X3_elect, k1, hm, c1, ha0, ha1, c2, c3, hru, y1, z_lit, z_nI_le, z_nI_lt, z_nI_inj, z_inb, z_nI_tn, z_nI_add, z_nI_mul, z_bitN, z_zb, z_0add, z_add0, z_0or, z_or0, Option.bind_some, decide_eq_true_eq, Nat.zero_add, Nat.add_zero, ↓reduceIte]
  · by_cases c3 : zMg n t (nI 0) ≤ nI 0
    · obtain ⟨Y, y1, y2⟩ := kU (nI 1) (by unfold zRu zAh; rw [if_neg c1, if_neg c1, if_pos c3])
      refine ⟨Y, ?_, y2⟩
      simp (discharger := omega) only [f_X3_elect, k1, hm, c1, c3, hru, y1, z_lit, z_nI_le, z_nI_lt, z_nI_inj, z_inb, z_nI_tn, z_nI_add, z_nI_mul, z_bitN, z_zb, z_0add, z_add0, z_0or, z_or0, Option.bind_some, decide_eq_true_eq, Nat.zero_add, Nat.add_zero, ↓reduceIte]
    · obtain ⟨Y, y1, y2⟩ := kU (nI 0) (by unfold zRu zAh; rw [if_neg c1, if_neg c1, if_neg c3])
      refine ⟨Y, ?_, y2⟩
      simp (discharger := omega) only [f_X3_elect, k1, hm, c1, c3, hru, y1, z_lit, z_nI_le, z_nI_lt, z_nI_inj, z_inb, z_nI_tn, z_nI_add, z_nI_mul, z_bitN, z_zb, z_0add, z_add0, z_0or, z_or0, Option.bind_some, decide_eq_true_eq, Nat.zero_add, Nat.add_zero, ↓reduceIte]
