set_option linter.unusedVariables false
theorem z8_copy {a b : Nat} (hab : a ≠ b) {X : TX} {f t m : Nat} (hf : f + m ≤ lenX a) (ht : t + m ≤ lenX b) (ha : lenX a < 100000) (hb : lenX b < 100000) (hm : m < 1000) :
    ∃ Y, f_X8_copy a b X (nI f) (nI t) (nI m) = some Y ∧ (∀ k, k ≠ b → Y k = X k) ∧ (∀ j, j < m → Y b (t + j) = X a (f + j)) ∧ (∀ j, j < t ∨ t + m ≤ j → Y b j = X b j) := by
  have h := z_loopE (fun g i Y => L_X8_copy_3 a b g Y (nI f) (nI t) (nI m) i) (fun i Y => (∀ k, k ≠ b → Y k = X k) ∧ (∀ j, j < i → Y b (t + j) = X a (f + j)) ∧ (∀ j, j < t ∨ t + i ≤ j → Y b j = X b j)) some m ?_ ?_ m 0 FU X ⟨fun _ _ => rfl, fun j hj => absurd hj (by omega), fun _ _ => rfl⟩ (by omega) (by unfold FU; omega)
  · exact h
  · intro g Y h
    simp (discharger := omega) only [L_X8_copy_3, z_lit, z_nI_le, z_nI_lt, z_nI_inj, z_inb, z_nI_tn, z_nI_add, z_nI_mul, z_bitN, z_zb, z_0add, z_add0, z_0or, z_or0, Option.bind_some, decide_eq_true_eq, Nat.zero_add, Nat.add_zero, Nat.le_refl, ↓reduceIte]
  · intro g i Y hi ⟨h1, h2, h3⟩
    have hn : ¬ m ≤ i := by omega
    have e1 : f_X8_at a Y (nI (f + i)) = some (X a (f + i)) := by rw [z_at (by omega) (by omega), h1 a hab]
    have e2 : ∀ v, f_X8_put b Y (nI (t + i)) v = some (u2 Y b (t + i) v) := fun v => z_put (by omega) (by omega)
    refine ⟨u2 Y b (t + i) (X a (f + i)), ?_, ?_, ?_, ?_⟩
    · simp (discharger := omega) only [L_X8_copy_3, hn, e1, e2, z_lit, z_nI_le, z_nI_lt, z_nI_inj, z_inb, z_nI_tn, z_nI_add, z_nI_mul, z_bitN, z_zb, z_0add, z_add0, z_0or, z_or0, Option.bind_some, decide_eq_true_eq, Nat.zero_add, Nat.add_zero, ↓reduceIte]
    · intro k hk; rw [z_u2k _ _ _ _ hk, h1 k hk]
    · intro j hj
      by_cases e : j = i
      · subst e; rw [z_u2s]
      · rw [z_u2j _ _ _ _ (by omega), h2 j (by omega)]
    · intro j hj
      rw [z_u2j _ _ _ _ (by omega), h3 j (by omega)]
theorem z9_copies {a b : Nat} (hab : a ≠ b) {M : TX} {m : Nat} (ha : m ≤ lenM a) (hb : m ≤ lenM b) (hm : m < 1000) :
    ∃ N, f_X9_copies a b M (nI m) = some N ∧ (∀ k, k ≠ b → N k = M k) ∧ (N b = fun j => if j < m then M a j else M b j) := by
  have h := z_loopE (fun g i Y => L_X9_copies_3 a b g Y (nI m) i) (fun i Y => (∀ k, k ≠ b → Y k = M k) ∧ (Y b = fun j => if j < i then M a j else M b j)) some m ?_ ?_ m 0 FU M ⟨fun _ _ => rfl, by funext j; simp⟩ (by omega) (by unfold FU; omega)
  · exact h
  · intro g Y h
    simp (discharger := omega) only [L_X9_copies_3, z_lit, z_nI_le, z_nI_lt, z_nI_inj, z_inb, z_nI_tn, z_nI_add, z_nI_mul, z_bitN, z_zb, z_0add, z_add0, z_0or, z_or0, Option.bind_some, decide_eq_true_eq, Nat.zero_add, Nat.add_zero, Nat.le_refl, ↓reduceIte]
  · intro g i Y hi ⟨h1, h2⟩
    have hn : ¬ m ≤ i := by omega
    have e1 : i < lenM a := by omega
    have e2 : i < lenM b := by omega
    refine ⟨u2 Y b i (Y a i), ?_, ?_, ?_⟩
    · simp (discharger := omega) only [L_X9_copies_3, hn, e1, e2, z_lit, z_nI_le, z_nI_lt, z_nI_inj, z_inb, z_nI_tn, z_nI_add, z_nI_mul, z_bitN, z_zb, z_0add, z_add0, z_0or, z_or0, Option.bind_some, decide_eq_true_eq, Nat.zero_add, Nat.add_zero, ↓reduceIte]
    · intro k hk; rw [z_u2k _ _ _ _ hk, h1 k hk]
    · rw [z_u2r, h2, h1 a hab]
      funext j
      unfold upd
      by_cases e : j = i
      · subst e; simp
      · have : (j < i + 1) ↔ (j < i) := by omega
        simp [e, this]
/-- a kept row x of the class is the row s -/
def zRx (x s : Nat → Int32) : Prop := (∀ p, p < 30 → x p = s p) ∧ x 30 = s 30 ∧ x 31 = s 32 ∧ x 32 = s 31 ∧ x 33 = s 33
/-- a good row -/
def zGd (n : Nat) (s : Nat → Int32) : Prop :=
  (zWs n s) ∧
  (zVb n s) ∧
  (s 30 = -nI 1 ∨ s 30 = nI 0 ∨ s 30 = nI 1) ∧
  (zYr 400 s)
theorem zGd.xw {n : Nat} {s : Nat → Int32} (h : zGd n s) : zWs n s := h.1
theorem zGd.vb {n : Nat} {s : Nat → Int32} (h : zGd n s) : zVb n s := h.2.1
theorem zGd.rul {n : Nat} {s : Nat → Int32} (h : zGd n s) : s 30 = -nI 1 ∨ s 30 = nI 0 ∨ s 30 = nI 1 := h.2.2.1
theorem zGd.yr {n : Nat} {s : Nat → Int32} (h : zGd n s) : zYr 400 s := h.2.2.2
theorem zGd.mk {n : Nat} {s : Nat → Int32} (xw : zWs n s) (vb : zVb n s) (rul : s 30 = -nI 1 ∨ s 30 = nI 0 ∨ s 30 = nI 1) (yr : zYr 400 s) : zGd n s := ⟨xw, vb, rul, yr⟩
theorem zRx_congr {x y s t : Nat → Int32} (h : zRx x s) (hx : ∀ j, j < 34 → y j = x j) (hs : ∀ j, j < 34 → t j = s j) : zRx y t :=
  ⟨fun p hp => by rw [hx p (by omega), hs p (by omega), h.1 p hp], by rw [hx 30 (by omega), hs 30 (by omega), h.2.1], by rw [hx 31 (by omega), hs 32 (by omega), h.2.2.1], by rw [hx 32 (by omega), hs 31 (by omega), h.2.2.2.1], by rw [hx 33 (by omega), hs 33 (by omega), h.2.2.2.2]⟩
theorem zGd_congr {n : Nat} (h10 : n ≤ 10) {s t : Nat → Int32} (h : zGd n s) (hs : ∀ j, j < 34 → t j = s j) : zGd n t :=
  zGd.mk (fun p hp => by rw [hs p (by omega)]; exact h.xw p hp) (fun p hp => by rw [hs _ (by omega), hs _ (by omega)]; exact h.vb p hp) (by rw [hs 30 (by omega)]; exact h.rul) (by unfold zYr; rw [hs 32 (by omega)]; exact h.yr)
theorem zD.congr {n : Nat} (h10 : n ≤ 10) {s t : Nat → Int32} {X : TX} (h : zD n s X) (hs : ∀ j, j < 34 → t j = s j) : zD n t X :=
  zD.mk (fun p hp => by rw [hs p (by omega)]; exact h.xw p hp) (fun p hp => by rw [hs p (by omega)]; exact h.w p hp) (fun p hp => by rw [hs _ (by omega)]; exact h.v p hp)
    (fun p hp => by rw [hs _ (by omega), hs _ (by omega)]; exact h.vb p hp)
    (zTal_congr h.tal (fun p hp => (hs p (by omega)).symm) (fun p hp => (hs _ (by omega)).symm) (fun p hp => (hs _ (by omega)).symm))
    (by rw [hs 30 (by omega)]; exact h.ruler) (by rw [hs 30 (by omega)]; exact h.rul) (by rw [hs 31 (by omega)]; exact h.reign) (by rw [hs 32 (by omega)]; exact h.year) (by rw [hs 33 (by omega)]; exact h.moved)
theorem zD.gd {n : Nat} {s : Nat → Int32} {X : TX} (h : zD n s X) (hy : zYr 400 s) : zGd n s := zGd.mk h.xw h.vb h.rul hy
theorem z3_save {n k st : Nat} {s : Nat → Int32} {X : TX} (hD : zD n s X) (hk : k ≠ 3 ∧ k ≠ 4 ∧ k ≠ 5) (hst : st + 34 ≤ lenX k) (hl : lenX k < 100000) :
    ∃ Y, f_X3_save k X (nI st) = some Y ∧ (∀ j, j ≠ k → Y j = X j) ∧ (∀ j, j < st ∨ st + 34 ≤ j → Y k j = X k j) ∧ zRx (fun j => Y k (st + j)) s := by
  obtain ⟨A, a1, a2, a3, a4⟩ := z8_copy (a := 4) (b := k) (X := X) (f := 0) (t := st) (m := 10) (by omega) (by decide) (by omega) (by decide) hl (by omega)
  obtain ⟨B, b1, b2, b3, b4⟩ := z8_copy (a := 5) (b := k) (X := A) (f := 0) (t := st + 10) (m := 20) (by omega) (by decide) (by omega) (by decide) hl (by omega)
  have pk : ∀ (Z : TX) j v, j < lenX k → f_X8_put k Z (nI j) v = some (u2 Z k j v) := fun Z j v hj => z_put hj (by omega)
  have hB3 : B 3 = X 3 := (b2 3 (by omega)).trans (a2 3 (by omega))
  have u3 : ∀ (Z : TX) j v, u2 Z k j v 3 = Z 3 := fun Z j v => z_u2k _ _ _ _ (by omega)
  refine ⟨u2 (u2 (u2 (u2 B k (st + 30) (s 30)) k (st + 31) (s 32)) k (st + 32) (s 31)) k (st + 33) (s 33), ?_, ?_, ?_, ?_⟩
  · have a1' : f_X8_copy 4 k X (0 : Int32) (nI st) (10 : Int32) = some A := a1
    have b1' : f_X8_copy 5 k A (0 : Int32) (nI (st + 10)) (20 : Int32) = some B := b1
    unfold f_X3_save
    rw [a1', Option.bind_some, show nI st + (10 : Int32) = nI (st + 10) from z_nI_add st 10, b1', Option.bind_some,
      show nI st + (30 : Int32) = nI (st + 30) from z_nI_add st 30, show nI st + (31 : Int32) = nI (st + 31) from z_nI_add st 31, show nI st + (32 : Int32) = nI (st + 32) from z_nI_add st 32, show nI st + (33 : Int32) = nI (st + 33) from z_nI_add st 33,
      pk _ _ _ (by omega), Option.bind_some, pk _ _ _ (by omega), Option.bind_some, pk _ _ _ (by omega), Option.bind_some, pk _ _ _ (by omega), Option.bind_some]
    simp only [u3, hB3, hD.ruler, hD.year, hD.reign, hD.moved]
  · intro j hj
    rw [z_u2k _ _ _ _ hj, z_u2k _ _ _ _ hj, z_u2k _ _ _ _ hj, z_u2k _ _ _ _ hj, b2 j hj, a2 j hj]
  · intro j hj
    rw [z_u2j _ _ _ _ (by omega), z_u2j _ _ _ _ (by omega), z_u2j _ _ _ _ (by omega), z_u2j _ _ _ _ (by omega), b4 j (by omega), a4 j (by omega)]
  · refine ⟨fun p hp => ?_, ?_, ?_, ?_, ?_⟩
    · show u2 (u2 (u2 (u2 B k (st + 30) (s 30)) k (st + 31) (s 32)) k (st + 32) (s 31)) k (st + 33) (s 33) k (st + p) = s p
      rw [z_u2j _ _ _ _ (by omega), z_u2j _ _ _ _ (by omega), z_u2j _ _ _ _ (by omega), z_u2j _ _ _ _ (by omega)]
      by_cases hp10 : p < 10
      · rw [b4 _ (by omega), a3 p hp10, Nat.zero_add, hD.w p hp10]
      · obtain ⟨q, rfl⟩ : ∃ q, p = 10 + q := ⟨p - 10, by omega⟩
        have := b3 q (by omega)
        rw [show st + (10 + q) = st + 10 + q by omega, this, Nat.zero_add, a2 5 (by omega), hD.v q (by omega)]
    all_goals simp only [u2, upd, if_true]
    all_goals simp
theorem z3_load {n k st : Nat} (h10 : n ≤ 10) {s : Nat → Int32} {X : TX} (hn : X 3 5 = nI n) (hG : zGd n s) (hk : k ≠ 3 ∧ k ≠ 4 ∧ k ≠ 5 ∧ k ≠ 9 ∧ k ≠ 10) (hst : st + 34 ≤ lenX k) (hl : lenX k < 100000) (hx : zRx (fun j => X k (st + j)) s) :
    ∃ Y, f_X3_load k X (nI st) = some Y ∧ zFX X Y ∧ zD n s Y := by
  obtain ⟨A, a1, a2, a3, a4⟩ := z8_copy (a := k) (b := 4) (X := X) (f := st) (t := 0) (m := 10) (by omega) (by omega) (by decide) hl (by decide) (by omega)
  obtain ⟨B, b1, b2, b3, b4⟩ := z8_copy (a := k) (b := 5) (X := A) (f := st + 10) (t := 0) (m := 20) (by omega) (by omega) (by decide) hl (by decide) (by omega)
  have hBk : B k = X k := (b2 k (by omega)).trans (a2 k (by omega))
  have hB3 : B 3 = X 3 := (b2 3 (by omega)).trans (a2 3 (by omega))
  have hB4 : ∀ p, p < 10 → B 4 p = s p := fun p hp => by
    have := a3 p hp
    rw [Nat.zero_add] at this
    rw [b2 4 (by omega), this]; exact hx.1 p (by omega)
  have hB5 : ∀ p, p < 20 → B 5 p = s (10 + p) := fun p hp => by
    have := b3 p hp
    rw [Nat.zero_add, a2 k (by omega), Nat.add_assoc] at this
    rw [this]; exact hx.1 (10 + p) (by omega)
  have ak : ∀ (Z : TX) j, j < lenX k → f_X8_at k Z (nI j) = some (Z k j) := fun Z j hj => z_at hj (by omega)
  have uk : ∀ (Z : TX) j v, u2 Z 3 j v k = Z k := fun Z j v => z_u2k _ _ _ _ (by omega)
  obtain ⟨C, hC⟩ : ∃ C, C = u2 (u2 (u2 (u2 B 3 9 (s 30)) 3 8 (s 32)) 3 10 (s 31)) 3 11 (s 33) := ⟨_, rfl⟩
  have hCk : ∀ j, j ≠ 3 → C j = B j := fun j hj => by rw [hC, z_u2k _ _ _ _ hj, z_u2k _ _ _ _ hj, z_u2k _ _ _ _ hj, z_u2k _ _ _ _ hj]
  have hC3 : ∀ j, j ≠ 8 → j ≠ 9 → j ≠ 10 → j ≠ 11 → C 3 j = X 3 j := fun j a b c d => by
    rw [hC, z_u2j _ _ _ _ d, z_u2j _ _ _ _ c, z_u2j _ _ _ _ a, z_u2j _ _ _ _ b, hB3]
  obtain ⟨D, d1, d2, d3⟩ := z3_tally (X := C) (n := n) (by rw [hC3 5 (by decide) (by decide) (by decide) (by decide)]; exact hn) h10 (by
    rw [hCk 4 (by decide)]
    intro p hp
    obtain ⟨d, hd, e⟩ := hG.xw p hp
    exact ⟨d, hd, by rw [hB4 p (by omega), e]⟩)
  refine ⟨D, ?_, ⟨?_, ?_⟩, ?_⟩
  · have a1' : f_X8_copy k 4 X (nI st) (0 : Int32) (10 : Int32) = some A := a1
    have b1' : f_X8_copy k 5 A (nI (st + 10)) (0 : Int32) (20 : Int32) = some B := b1
    have e30 : B k (st + 30) = s 30 := by rw [hBk]; exact hx.2.1
    have e31 : B k (st + 31) = s 32 := by rw [hBk]; exact hx.2.2.1
    have e32 : B k (st + 32) = s 31 := by rw [hBk]; exact hx.2.2.2.1
    have e33 : B k (st + 33) = s 33 := by rw [hBk]; exact hx.2.2.2.2
    unfold f_X3_load
    rw [a1', Option.bind_some, show nI st + (10 : Int32) = nI (st + 10) from z_nI_add st 10, b1', Option.bind_some,
      show nI st + (30 : Int32) = nI (st + 30) from z_nI_add st 30, show nI st + (31 : Int32) = nI (st + 31) from z_nI_add st 31, show nI st + (32 : Int32) = nI (st + 32) from z_nI_add st 32, show nI st + (33 : Int32) = nI (st + 33) from z_nI_add st 33,
      ak _ _ (by omega), Option.bind_some, ak _ _ (by omega), Option.bind_some, ak _ _ (by omega), Option.bind_some, ak _ _ (by omega), Option.bind_some]
    simp only [uk, e30, e31, e32, e33]
    rw [← hC, d1, Option.bind_some]
  · intro j j3 j4 j5 j9 j10 _ _ _
    rw [d2 j j9 j10, hCk j j3, b2 j j5, a2 j j4]
  · intro j a b c d
    rw [d2 3 (by decide) (by decide), hC3 j a b c d]
  · have D3 : D 3 = C 3 := d2 3 (by decide) (by decide)
    have D4 : D 4 = B 4 := (d2 4 (by decide) (by decide)).trans (hCk 4 (by decide))
    have D5 : D 5 = B 5 := (d2 5 (by decide) (by decide)).trans (hCk 5 (by decide))
    refine zD.mk hG.xw (by rw [D4]; exact hB4) (by rw [D5]; exact hB5) hG.vb ?_ ?_ hG.rul ?_ ?_ ?_
    · refine zTal_congr d3 (fun p hp => ?_) (fun p hp => ?_) (fun p hp => ?_)
      · rw [hCk 4 (by decide), hB4 p (by omega)]
      · rw [hCk 5 (by decide), hB5 p (by omega)]
      · rw [hCk 5 (by decide), hB5 _ (by omega)]; congr 1; omega
    all_goals rw [D3, hC]; simp [z_u2]
