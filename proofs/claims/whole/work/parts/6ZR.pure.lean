set_option linter.unusedVariables false
def zLk (L L' : TL) : Prop := ∀ k, k ≠ 25 → L' k = L k
theorem u2L_s (L : TL) (k j : Nat) (v : Int64) : u2L L k j v k j = v := by simp [u2L, vp_updL]
theorem u2L_k (L : TL) (k j : Nat) (v : Int64) {a : Nat} (h : a ≠ k) : u2L L k j v a = L a := by funext b; simp [u2L, h]
theorem u2L_j (L : TL) (k j : Nat) (v : Int64) {b : Nat} (h : b ≠ j) : u2L L k j v k b = L k b := by simp [u2L, vp_updL, h]
theorem zrc110_eq (k : TX → TL → Int32 → Int32 → Int32 → Int32 → Int64 → Int32 → Option (TX × TL × Int64)) (n : Nat) (M : TX) (L : TL) (x1 x2 x3 x4 : Int32) (x5 : Int64) (x7 x8 : Int32) : L_X9_recount_110 k (n + 1) M L x1 x2 x3 x4 x5 x7 x8 = if x8 < 0 then (k M L x1 x2 x3 x4 (x5 * (16 : Int64)) (x7 + (1 : Int32))) else (if inb x8 14 = true then (if x8 ≤ 0 then (if inb x8 14 = true then ((L_X9_recount_110 k n) M (u2L L 25 (Int32.toNatClampNeg x8) (((L 25 (Int32.toNatClampNeg x8)) * (Int32.toInt64 ((16 : Int32) - x3))) + (0 : Int64))) x1 x2 x3 x4 x5 x7 (x8 + (-1 : Int32))) else none) else (if inb (x8 - (1 : Int32)) 14 = true then (if inb x8 14 = true then ((L_X9_recount_110 k n) M (u2L L 25 (Int32.toNatClampNeg x8) (((L 25 (Int32.toNatClampNeg x8)) * (Int32.toInt64 ((16 : Int32) - x3))) + ((L 25 (Int32.toNatClampNeg (x8 - (1 : Int32)))) * (Int32.toInt64 x3)))) x1 x2 x3 x4 x5 x7 (x8 + (-1 : Int32))) else none) else none)) else none) := rfl
theorem z9_rc110 {M : TX} {q : Nat} (hq : q ≤ 16) (k : TX → TL → Int32 → Int32 → Int32 → Int32 → Int64 → Int32 → Option (TX × TL × Int64)) (x1 x2 x4 : Int32) (x5 : Int64) (x7 : Int32) (i : Nat) :
    ∀ (j f : Nat) (L : TL), j ≤ 13 → j + 1 < f → (∀ t, t ≤ j → L 25 t = nL (zW q i t)) → (∀ t, j < t → t ≤ 13 → L 25 t = nL (zW q (i + 1) t)) →
    ∃ L', L_X9_recount_110 k f M L x1 x2 (nI q) x4 x5 x7 (nI j) = k M L' x1 x2 (nI q) x4 (x5 * 16) (x7 + 1) ∧ zLk L L' ∧ ∀ t, t ≤ 13 → L' 25 t = nL (zW q (i + 1) t) := by
  have e16 : (16 : Int32) - nI q = nI (16 - q) := by
    have : nI 16 - nI q = nI (16 - q) := z_subN hq
    exact this
  have t16 : Int32.toInt64 ((16 : Int32) - nI q) = nL (16 - q) := by rw [e16]; exact z_toL (by omega)
  have tq : Int32.toInt64 (nI q) = nL q := z_toL (by omega)
  intro j
  induction j with
  | zero =>
    intro f L hj hf h1 h2
    obtain ⟨f, rfl⟩ : ∃ f0, f = f0 + 2 := ⟨f - 2, by omega⟩
    refine ⟨u2L L 25 0 (L 25 0 * nL (16 - q) + 0), ?_, fun a ha => u2L_k _ _ _ _ ha, fun t ht => ?_⟩
    · have hneg : nI 0 + (-1 : Int32) < 0 := by decide
      have e : ∀ L, L_X9_recount_110 k (f + 1) M L x1 x2 (nI q) x4 x5 x7 (nI 0 + (-1 : Int32)) = k M L x1 x2 (nI q) x4 (x5 * 16) (x7 + 1) := fun L => by simp only [L_X9_recount_110, hneg, ↓reduceIte]
      rw [zrc110_eq, if_neg (by decide), if_pos (by decide), if_pos (by decide), if_pos (by decide), e, t16]
      rfl
    · by_cases c : t = 0
      · subst c
        rw [u2L_s, h1 0 (by omega), nL_mul]
        have : zW q (i + 1) 0 = zW q i 0 * (16 - q) := by
          show zW q i 0 * (16 - q) + 0 = _; rw [Nat.add_zero]
        rw [this]
        show nL _ + nL 0 = _
        rw [nL_add, Nat.add_zero]
      · rw [u2L_j _ _ _ _ c]; exact h2 t (by omega) ht
  | succ j ih =>
    intro f L hj hf h1 h2
    obtain ⟨f, rfl⟩ : ∃ f0, f = f0 + 1 := ⟨f - 1, by omega⟩
    have ep : nI (j + 1) + (-1 : Int32) = nI j := by
      have := z_pm (nI j)
      rw [show nI j + 1 = nI (j + 1) from z_nI_succ j] at this
      exact this
    have em : nI (j + 1) - (1 : Int32) = nI j := by
      have : nI (j + 1) - nI 1 = nI (j + 1 - 1) := z_subN (by omega)
      exact this
    have c0 : ¬ nI (j + 1) < 0 := z_nI_nn (by omega)
    have c1 : ¬ nI (j + 1) ≤ (0 : Int32) := fun e => by
      have := (z_nI_le (i := j + 1) (j := 0) (by omega) (by omega)).1 e
      omega
    have b1 : inb (nI (j + 1)) 14 = true := by rw [z_inb (by omega)]; simp; omega
    have b2 : inb (nI j) 14 = true := by rw [z_inb (by omega)]; simp; omega
    obtain ⟨L', l1, l2, l3⟩ := ih f (u2L L 25 (j + 1) (L 25 (j + 1) * nL (16 - q) + L 25 j * nL q)) (by omega) (by omega) (fun t ht => by
      rw [u2L_j _ _ _ _ (by omega)]; exact h1 t (by omega)) (fun t ht ht13 => by
      by_cases c : t = j + 1
      · subst c
        rw [u2L_s, h1 (j + 1) (by omega), h1 j (by omega), nL_mul, nL_mul, nL_add]
        have : zW q (i + 1) (j + 1) = zW q i (j + 1) * (16 - q) + zW q i j * q := by
          show zW q i (j + 1) * (16 - q) + (if j + 1 = 0 then 0 else zW q i (j + 1 - 1) * q) = _
          rw [if_neg (by omega), Nat.add_sub_cancel]
        rw [this]
      · rw [u2L_j _ _ _ _ c]; exact h2 t (by omega) ht13)
    refine ⟨L', ?_, fun a ha => (l2 a ha).trans (u2L_k _ _ _ _ ha), l3⟩
    rw [zrc110_eq, if_neg c0, if_pos b1, if_neg c1, em, if_pos b2, if_pos b1, ep, t16, tq, z_nI_tn (by omega), z_nI_tn (by omega)]
    exact l1
theorem z9_rc100 {M : TX} {q n : Nat} (hq : q ≤ 16) (hn : n ≤ 12) (x2 x4 : Int32) (L : TL) (h0 : ∀ t, t ≤ 13 → L 25 t = nL (zW q 0 t)) :
    ∃ L', L_X9_recount_100 FU M L (nI n) x2 (nI q) x4 1 0 = L_X9_recount_183 FU M L' x4 (nL (16 ^ n)) 0 x2 ∧ zLk L L' ∧ ∀ t, t ≤ 13 → L' 25 t = nL (zW q n t) := by
  have h := z_loopE (fun f i (b : TL × Int64) => L_X9_recount_100 f M b.1 (nI n) x2 (nI q) x4 b.2 i) (fun i b => zLk L b.1 ∧ (∀ t, t ≤ 13 → b.1 25 t = nL (zW q i t)) ∧ b.2 = nL (16 ^ i)) (fun b => L_X9_recount_183 FU M b.1 x4 b.2 0 x2) n ?_ ?_ n 0 FU (L, 1) ⟨fun _ _ => rfl, h0, rfl⟩ (by omega) (by unfold FU; omega)
  · obtain ⟨b, e1, e2, e3, e4⟩ := h
    exact ⟨b.1, by rw [← e4]; exact e1, e2, e3⟩
  · rintro f ⟨L1, b⟩ _
    simp (discharger := omega) only [L_X9_recount_100, z_lit, z_nI_le, z_nI_lt, z_nI_inj, z_inb, z_nI_tn, z_nI_add, z_nI_mul, z_bitN, z_zb, z_0add, z_add0, z_0or, z_or0, Option.bind_some, decide_eq_true_eq, Nat.zero_add, Nat.add_zero, Nat.le_refl, ↓reduceIte]
  · rintro f i ⟨L1, b⟩ hi ⟨k1, k2, k3⟩
    simp only at k1 k2 k3
    have h1 : ¬ nI n ≤ nI i := fun e => by
      have := (z_nI_le (i := n) (j := i) (by omega) (by omega)).1 e
      omega
    obtain ⟨L2, l1, l2, l3⟩ := z9_rc110 (M := M) hq (L_X9_recount_100 f) (nI n) x2 x4 b (nI i) i 13 FU L1 (by omega) (by unfold FU; omega) (fun t ht => k2 t (by omega)) (fun t ht ht' => absurd ht (by omega))
    refine ⟨(L2, b * 16), ?_, fun a ha => (l2 a ha).trans (k1 a ha), l3, ?_⟩
    · show (if nI n ≤ nI i then _ else (L_X9_recount_110 (L_X9_recount_100 f) FU M L1 (nI n) x2 (nI q) x4 b (nI i) (13 : Int32))) = _
      rw [if_neg h1]
      rw [show nI (i + 1) = nI i + 1 from (z_nI_succ i).symm]
      exact l1
    · show b * 16 = _
      rw [k3, show (16 : Int64) = nL 16 from rfl, nL_mul, Nat.pow_succ]
theorem z9_rc64 {M : TX} {q : Nat} (x1 x2 x4 : Int32) (L : TL) :
    ∃ L', L_X9_recount_64 FU M L x1 x2 (nI q) x4 0 = L_X9_recount_100 FU M L' x1 x2 (nI q) x4 1 0 ∧ zLk L L' ∧ ∀ t, t ≤ 13 → L' 25 t = nL (zW q 0 t) := by
  have h := z_loopE (fun f i (b : TL) => L_X9_recount_64 f M b x1 x2 (nI q) x4 i) (fun i b => zLk L b ∧ ∀ t, t < i → b 25 t = nL (zW q 0 t)) (fun b => L_X9_recount_100 FU M b x1 x2 (nI q) x4 1 0) 14 ?_ ?_ 14 0 FU L ⟨fun _ _ => rfl, fun t ht => absurd ht (by omega)⟩ (by omega) (by unfold FU; omega)
  · obtain ⟨b, e1, e2, e3⟩ := h
    exact ⟨b, e1, e2, fun t ht => e3 t (by omega)⟩
  · rintro f L1 _
    simp (discharger := omega) only [L_X9_recount_64, z_lit, z_nI_le, z_nI_lt, z_nI_inj, z_inb, z_nI_tn, z_nI_add, z_nI_mul, z_bitN, z_zb, z_0add, z_add0, z_0or, z_or0, Option.bind_some, decide_eq_true_eq, Nat.zero_add, Nat.add_zero, Nat.le_refl, ↓reduceIte]
  · rintro f i L1 hi ⟨k1, k2⟩
    have h1 : ¬ 14 ≤ i := by omega
    by_cases c : i = 0
    · subst c
      refine ⟨u2L L1 25 0 1, ?_, fun a ha => (u2L_k _ _ _ _ ha).trans (k1 a ha), fun t ht => ?_⟩
      · simp (discharger := omega) only [L_X9_recount_64, h1, hi, z_lit, z_nI_le, z_nI_lt, z_nI_inj, z_inb, z_nI_tn, z_nI_add, z_nI_mul, z_bitN, z_zb, z_0add, z_add0, z_0or, z_or0, Option.bind_some, decide_eq_true_eq, Nat.zero_add, Nat.add_zero, ↓reduceIte]
      · have : t = 0 := by omega
        subst this
        rw [u2L_s]; rfl
    · refine ⟨u2L L1 25 i 0, ?_, fun a ha => (u2L_k _ _ _ _ ha).trans (k1 a ha), fun t ht => ?_⟩
      · simp (discharger := omega) only [L_X9_recount_64, h1, hi, c, z_lit, z_nI_le, z_nI_lt, z_nI_inj, z_inb, z_nI_tn, z_nI_add, z_nI_mul, z_bitN, z_zb, z_0add, z_add0, z_0or, z_or0, Option.bind_some, decide_eq_true_eq, Nat.zero_add, Nat.add_zero, ↓reduceIte]
      · by_cases ct : t = i
        · subst ct
          rw [u2L_s]
          have : zW q 0 t = 0 := if_neg c
          rw [this]; rfl
        · rw [u2L_j _ _ _ _ ct]; exact k2 t (by omega)
theorem z9_rc183 {M : TX} {q n k : Nat} (hk : k ≤ 13) (x4 : Int32) (b : Int64) (L : TL) (hL : ∀ t, t ≤ 13 → L 25 t = nL (zW q n t)) :
    L_X9_recount_183 FU M L x4 b 0 (nI k) = (f_X9_least (nL (zUp q n k (14 - k))) b x4).bind fun q8 => some (M, L, q8) := by
  have key : ∀ j f, k + j ≤ 14 → 14 - (k + j) < f → L_X9_recount_183 f M L x4 b (nL (zUp q n k j)) (nI (k + j)) = (f_X9_least (nL (zUp q n k (14 - k))) b x4).bind fun q8 => some (M, L, q8) := by
    have : ∀ m j f, k + j + m = 14 → m < f → L_X9_recount_183 f M L x4 b (nL (zUp q n k j)) (nI (k + j)) = (f_X9_least (nL (zUp q n k (14 - k))) b x4).bind fun q8 => some (M, L, q8) := fun m => by
      induction m with
      | zero =>
        intro j f h hf
        obtain ⟨f, rfl⟩ : ∃ f0, f = f0 + 1 := ⟨f - 1, by omega⟩
        have e : j = 14 - k := by omega
        have c : (14 : Int32) ≤ nI (k + j) := (z_nI_le (i := 14) (j := k + j) (by omega) (by omega)).2 (by omega)
        show (if (14 : Int32) ≤ nI (k + j) then _ else (if inb (nI (k + j)) 14 = true then (L_X9_recount_183 f M L x4 b (nL (zUp q n k j) + (L 25 (Int32.toNatClampNeg (nI (k + j))))) (nI (k + j) + (1 : Int32))) else none)) = _
        rw [if_pos c, e]
      | succ m ih =>
        intro j f h hf
        obtain ⟨f, rfl⟩ : ∃ f0, f = f0 + 1 := ⟨f - 1, by omega⟩
        have c : ¬ (14 : Int32) ≤ nI (k + j) := fun e => by
          have := (z_nI_le (i := 14) (j := k + j) (by omega) (by omega)).1 e
          omega
        have b1 : inb (nI (k + j)) 14 = true := by rw [z_inb (by omega)]; simp; omega
        show (if (14 : Int32) ≤ nI (k + j) then _ else (if inb (nI (k + j)) 14 = true then (L_X9_recount_183 f M L x4 b (nL (zUp q n k j) + (L 25 (Int32.toNatClampNeg (nI (k + j))))) (nI (k + j) + (1 : Int32))) else none)) = _
        rw [if_neg c, if_pos b1, z_nI_tn (by omega), hL (k + j) (by omega), nL_add, show nI (k + j) + (1 : Int32) = nI (k + j + 1) from z_nI_succ _]
        exact ih (j + 1) f (by omega) (by omega)
    intro j f h hf
    exact this (14 - (k + j)) j f (by omega) hf
  exact key 0 FU (by omega) (by unfold FU; omega)
theorem zrc62_eq (f : Nat) (X : TX) (x1 x3 x4 : Int32) (x5 : Int64) (x7 : Int32) : L_X8_recount_62 (f + 1) X x1 x3 x4 x5 x7 = if x1 < x7 then ((f_X8_power (16 : Int64) x1).bind fun q6 => (f_X8_leastTerm x5 q6 x4).bind fun q7 => some (X, Sum.inl q7)) else ((f_X8_waysToTake x7 x1).bind fun q8 => (f_X8_power (Int32.toInt64 x3) x7).bind fun q9 => (f_X8_power (Int32.toInt64 ((16 : Int32) - x3)) (x1 - x7)).bind fun q10 => (L_X8_recount_62 f) X x1 x3 x4 (x5 + ((q8 * q9) * q10)) (x7 + (1 : Int32))) := rfl
theorem z8_rc62 {X : TX} {q n k : Nat} (hn : n ≤ 12) (hq : q ≤ 16) (hk : k ≤ 13) (x4 : Int32) :
    L_X8_recount_62 FU X (nI n) (nI q) x4 0 (nI k) = (f_X8_leastTerm (nL (zUp q n k (14 - k))) (nL (16 ^ n)) x4).bind fun q7 => some (X, .inl q7) := by
  have e16 : (16 : Int32) - nI q = nI (16 - q) := by
    have : nI 16 - nI q = nI (16 - q) := z_subN hq
    exact this
  have t16 : Int32.toInt64 ((16 : Int32) - nI q) = nL (16 - q) := by rw [e16]; exact z_toL (by omega)
  have tq : Int32.toInt64 (nI q) = nL q := z_toL (by omega)
  have fin : ∀ f j, n < k + j → k + j ≤ 14 → L_X8_recount_62 (f + 1) X (nI n) (nI q) x4 (nL (zUp q n k j)) (nI (k + j)) = (f_X8_leastTerm (nL (zUp q n k (14 - k))) (nL (16 ^ n)) x4).bind fun q7 => some (X, .inl q7) := fun f j h h14 => by
    have c : nI n < nI (k + j) := (z_nI_lt (by omega) (by omega)).2 h
    have hup : zUp q n k (14 - k) = zUp q n k j := by
      have := zUp_more q n k j (14 - k - j) h
      rw [show j + (14 - k - j) = 14 - k by omega] at this
      exact this
    have pw : f_X8_power (16 : Int64) (nI n) = some (nL (16 ^ n)) := z8_power 16 n (by omega)
    rw [zrc62_eq, if_pos c, pw, Option.bind_some, hup]
  have step : ∀ m j f, k + j + m = n + 1 → m < f → L_X8_recount_62 f X (nI n) (nI q) x4 (nL (zUp q n k j)) (nI (k + j)) = (f_X8_leastTerm (nL (zUp q n k (14 - k))) (nL (16 ^ n)) x4).bind fun q7 => some (X, .inl q7) := fun m => by
    induction m with
    | zero =>
      intro j f h hf
      obtain ⟨f, rfl⟩ : ∃ f0, f = f0 + 1 := ⟨f - 1, by omega⟩
      exact fin f j (by omega) (by omega)
    | succ m ih =>
      intro j f h hf
      obtain ⟨f, rfl⟩ : ∃ f0, f = f0 + 1 := ⟨f - 1, by omega⟩
      have c : ¬ nI n < nI (k + j) := fun e => by
        have := (z_nI_lt (by omega) (by omega)).1 e
        omega
      have w := z8_ways n (k + j) hn (by omega)
      have p1 := z8_power q (k + j) (by omega)
      have p2 := z8_power (16 - q) (n - (k + j)) (by omega)
      have es : nI n - nI (k + j) = nI (n - (k + j)) := z_subN (by omega)
      have ew : nL (zCh n (k + j)) * nL (q ^ (k + j)) * nL ((16 - q) ^ (n - (k + j))) = nL (zW q n (k + j)) := by
        rw [nL_mul, nL_mul, zW_eq q n (k + j) (by omega)]
      rw [zrc62_eq, if_neg c, w, Option.bind_some, tq, p1, Option.bind_some, t16, es, p2, Option.bind_some, ew, nL_add, show nI (k + j) + (1 : Int32) = nI (k + j + 1) from z_nI_succ _]
      exact ih (j + 1) f (by omega) (by omega)
  by_cases c : k ≤ n
  · exact step (n + 1 - k) 0 FU (by omega) (by unfold FU; omega)
  · exact fin 1023 0 (by omega) (by omega)
