set_option linter.unusedVariables false
theorem zLt_iff (T : Nat → Nat) (j : Nat) : zLt T j = true ↔ 97 ≤ T j ∧ T j ≤ 122 := by unfold zLt; rw [decide_eq_true_eq]
theorem z7_wordL {s : Nat} {T : Nat → Nat} : ∀ (d p f : Nat) (X : TX), s - p = d → d < f → zJx s T p X → L_X7_word_13 f X = some (u2 X 1 3 (nI (zLE T s p))) := by
  intro d
  induction d with
  | zero =>
    intro p f X hd hf h
    obtain ⟨g, rfl⟩ : ∃ g, f = g + 1 := ⟨f - 1, by omega⟩
    have h1 := h.s6
    have h2 := h.ps
    have ea : zLE T s p = p := zSc_stop (by omega)
    have c : s ≤ p := by omega
    have xs := h.xs
    have xp := h.xp
    rw [ea, z_u2id _ _ _ xp]
    simp (discharger := omega) only [L_X7_word_13, xs, xp, c, z_lit, z_nI_le, z_nI_lt, z_nI_inj, z_inb, z_nI_tn, z_nI_add, z_nI_mul, z_bitN, z_zb, z_0add, z_add0, z_0or, z_or0, Option.bind_some, decide_eq_true_eq, Nat.zero_add, Nat.add_zero, ↓reduceIte]
  | succ d ih =>
    intro p f X hd hf h
    obtain ⟨g, rfl⟩ : ∃ g, f = g + 1 := ⟨f - 1, by omega⟩
    have h1 := h.s6
    have c : ¬ s ≤ p := by omega
    have xs := h.xs
    have xp := h.xp
    have a1 := h.at (j := p) (by omega)
    have lt := z7_letter (h.t p (by omega))
    by_cases sp : 97 ≤ T p ∧ T p ≤ 122
    · have ea : zLE T s p = zLE T s (p + 1) := zSc_step (by omega) ((zLt_iff T p).2 sp)
      have i1 := ih (p + 1) g (u2 X 1 3 (nI (p + 1))) (by omega) (by omega) (h.to (by omega))
      rw [z_u2u] at i1
      have e1 : zbI (decide (97 ≤ T p ∧ T p ≤ 122)) = nI 1 := by rw [decide_eq_true sp]; rfl
      rw [e1] at lt
      have n1 : ¬ (1 : Nat) = 0 := by decide
      rw [ea, ← i1]
      simp (discharger := omega) only [L_X7_word_13, xs, xp, c, a1, lt, n1, z_lit, z_nI_le, z_nI_lt, z_nI_inj, z_inb, z_nI_tn, z_nI_add, z_nI_mul, z_bitN, z_zb, z_0add, z_add0, z_0or, z_or0, Option.bind_some, decide_eq_true_eq, Nat.zero_add, Nat.add_zero, ↓reduceIte]
    · have ea : zLE T s p = p := zSc_stop fun h => sp ((zLt_iff T p).1 h.2)
      have e1 : zbI (decide (97 ≤ T p ∧ T p ≤ 122)) = nI 0 := by rw [decide_eq_false sp]; rfl
      rw [e1] at lt
      rw [ea, z_u2id _ _ _ xp]
      simp (discharger := omega) only [L_X7_word_13, xs, xp, c, a1, lt, z_lit, z_nI_le, z_nI_lt, z_nI_inj, z_inb, z_nI_tn, z_nI_add, z_nI_mul, z_bitN, z_zb, z_0add, z_add0, z_0or, z_or0, Option.bind_some, decide_eq_true_eq, Nat.zero_add, Nat.add_zero, ↓reduceIte]
theorem zLE_spec {T : Nat → Nat} {s p : Nat} (h : p ≤ s) : p ≤ zLE T s p ∧ zLE T s p ≤ s ∧ ∀ j, p ≤ j → j < zLE T s p → 97 ≤ T j ∧ T j ≤ 122 :=
  ⟨(zSc_spec _ _ _ _ rfl h).1, (zSc_spec _ _ _ _ rfl h).2.1, fun j a b => (zLt_iff T j).1 ((zSc_spec _ _ _ _ rfl h).2.2.2 j a b)⟩
/-- what reading leaves alone -/
def zTX (X Y : TX) : Prop := (∀ k, k ≠ 1 → Y k = X k) ∧ ∀ j, j ≠ 3 → j ≠ 4 → j ≠ 5 → Y 1 j = X 1 j
theorem zTX.refl (X : TX) : zTX X X := ⟨fun _ _ => rfl, fun _ _ _ _ => rfl⟩
theorem zTX.trans {X Y Z : TX} (h : zTX X Y) (g : zTX Y Z) : zTX X Z := ⟨fun k a => (g.1 k a).trans (h.1 k a), fun j a b c => (g.2 j a b c).trans (h.2 j a b c)⟩
theorem zTX_u {X : TX} {j : Nat} (h : j = 3 ∨ j = 4 ∨ j = 5) (v : Int32) : zTX X (u2 X 1 j v) :=
  ⟨fun k hk => z_u2k _ _ _ _ hk, fun i a b c => z_u2j _ _ _ _ (by omega)⟩
theorem z7_word {s : Nat} {T : Nat → Nat} {p : Nat} {X : TX} (h : zJx s T p X) : ∃ Y, f_X7_word X = some Y ∧ zJx s T (zLE T s (zA T s p)) Y ∧ Y 1 4 = nI (zA T s p) ∧ zTX X Y := by
  obtain ⟨a1, a2, a3⟩ := zA_spec (T := T) h.ps
  obtain ⟨b1, b2, b3⟩ := zLE_spec (T := T) a2
  have h1 := h.s6
  have hW : zJx s T (zA T s p) (u2 (u2 X 1 3 (nI (zA T s p))) 1 4 (nI (zA T s p))) :=
    (h.to a2).fr (z_u2k _ _ _ _ (by decide)) (z_u2j _ _ _ _ (by decide)) (by rw [z_u2j _ _ _ _ (by decide), z_u2s]) a2
  refine ⟨u2 (u2 (u2 X 1 3 (nI (zA T s p))) 1 4 (nI (zA T s p))) 1 3 (nI (zLE T s (zA T s p))), ?_, hW.to b2, ?_, ?_⟩
  · unfold f_X7_word
    rw [z7_ahead h, Option.bind_some]
    show L_X7_word_13 FU (u2 (u2 X 1 3 (nI (zA T s p))) 1 4 (u2 X 1 3 (nI (zA T s p)) 1 3)) = _
    rw [z_u2s]
    exact z7_wordL (s - zA T s p) _ FU _ rfl (by unfold FU; omega) hW
  · rw [z_u2j _ _ _ _ (by decide), z_u2s]
  · exact ((zTX_u (.inl rfl) _).trans (zTX_u (.inr (.inl rfl)) _)).trans (zTX_u (.inl rfl) _)
theorem z7_isL {s : Nat} {T : Nat → Nat} {p q i : Nat} {X : TX} (h : zJx s T p X) (hq : X 1 4 = nI q) (hi : i < 18) (hl : q + SL.getD i 0 ≤ s) : ∀ (d j f : Nat), SL.getD i 0 - j = d → d < f → j ≤ SL.getD i 0 →
    ∃ b, L_X7_is_20 i f X (nI j) = some (zbI b) ∧ (b = true ↔ ∀ l, j ≤ l → l < SL.getD i 0 → T (q + l) = zSb i l) := by
  have h1 := h.s6
  have hL := zSb_1 hi
  have hS := fun j (hj : j < SL.getD i 0) => zSb_2 hi hj
  intro d
  induction d with
  | zero =>
    intro j f hd hf hj
    obtain ⟨g, rfl⟩ : ∃ g, f = g + 1 := ⟨f - 1, by omega⟩
    have c : SL.getD i 0 ≤ j := by omega
    refine ⟨true, ?_, fun _ l a b => absurd b (by omega), fun _ => rfl⟩
    show (if nI (SL.getD i 0) ≤ nI j then some (1 : Int32) else _) = _
    rw [if_pos ((z_nI_le (by omega) (by omega)).2 c)]; rfl
  | succ d ih =>
    intro j f hd hf hj
    obtain ⟨g, rfl⟩ : ∃ g, f = g + 1 := ⟨f - 1, by omega⟩
    have c : ¬ SL.getD i 0 ≤ j := by omega
    have a1 := h.at (j := q + j) (by omega)
    have t1 := h.t (q + j) (by omega)
    obtain ⟨s1, s2, s3⟩ := hS j (by omega)
    have eq : L_X7_is_20 i (g + 1) X (nI j) = if T (q + j) = zSb i j then L_X7_is_20 i g X (nI (j + 1)) else some (nI 0) := by
      show (if nI (SL.getD i 0) ≤ nI j then some (1 : Int32) else (if inb (nI j) (SL.getD i 0) = true then ((f_X8_at 2 X ((X 1 4) + nI j)).bind fun q6 => if ((SB.getD i []).getD (Int32.toNatClampNeg (nI j)) 0) = q6 then ((L_X7_is_20 i g) X (nI j + (1 : Int32))) else (some (0 : Int32))) else none)) = _
      rw [if_neg (by rw [z_nI_le (by omega) (by omega)]; exact c), if_pos (by rw [z_inb (by omega)]; exact decide_eq_true (by omega)), hq, z_nI_add, a1, Option.bind_some, z_nI_tn (by omega), s3, show nI j + (1 : Int32) = nI (j + 1) from z_nI_succ j]
      by_cases e : T (q + j) = zSb i j
      · rw [if_pos e, if_pos (by rw [e])]
      · rw [if_neg e, if_neg (fun x => e ((z_nI_inj (by omega) (by omega)).1 x).symm)]; rfl
    by_cases e : T (q + j) = zSb i j
    · obtain ⟨b, b1, b2⟩ := ih (j + 1) g (by omega) (by omega) (by omega)
      refine ⟨b, by rw [eq, if_pos e, b1], fun hb l x y => ?_, fun hb => b2.2 fun l x y => hb l (by omega) y⟩
      by_cases cl : l = j
      · rw [cl]; exact e
      · exact b2.1 hb l (by omega) y
    · refine ⟨false, by rw [eq, if_neg e]; rfl, fun hb => absurd hb (by decide), fun hb => absurd (hb j (Nat.le_refl _) (by omega)) e⟩
theorem z7_is {s : Nat} {T : Nat → Nat} {q e i : Nat} {X : TX} (h : zJx s T e X) (hq : X 1 4 = nI q) (hqe : q ≤ e) (hw : ∀ j, q ≤ j → j < e → 97 ≤ T j ∧ T j ≤ 122) (hi : i < 18) :
    f_X7_is i X = some (zbI (decide (zWn T q (e - q) = zOf i))) := by
  have h1 := h.s6
  have h2 := h.ps
  have hL := zSb_1 hi
  have hO := (zOf_all ⟨i, hi⟩).2.1
  have hd : ∀ j, j < e - q → 1 ≤ T (q + j) - 96 ∧ T (q + j) - 96 < 32 := fun j hj => by have := hw (q + j) (by omega) (by omega); omega
  have hs : ∀ j, j < SL.getD i 0 → 1 ≤ zSb i j - 96 ∧ zSb i j - 96 < 32 := fun j hj => by have := zSb_2 hi hj; omega
  unfold f_X7_is
  rw [h.xp, hq, z_subN hqe]
  by_cases c : e - q = SL.getD i 0
  · rw [if_pos (by rw [c])]
    obtain ⟨b, b1, b2⟩ := z7_isL h hq hi (by omega) (SL.getD i 0) 0 FU rfl (by unfold FU; omega) (by omega)
    have b1' : L_X7_is_20 i FU X (0 : Int32) = some (zbI b) := b1
    rw [b1']
    have : b = decide (zWn T q (e - q) = zOf i) := by
      rw [Bool.eq_iff_iff, b2, decide_eq_true_eq]
      unfold zWn zOf
      rw [if_pos (by omega)]
      constructor
      · intro x
        rw [c]
        exact zWc_congr _ fun j hj => by
          show T (q + j) - 96 = _
          rw [x j (by omega) hj]
      · intro x l _ hl
        have := (zWc_inj (d := fun j => T (q + j) - 96) _ _ hd hs x).2 l (by omega)
        have a := hw (q + l) (by omega) (by omega)
        have b := zSb_2 hi hl
        have this' : T (q + l) - 96 = zSb i l - 96 := this
        omega
    rw [this]
  · rw [if_neg (fun x => c ((z_nI_inj (by omega) (by omega)).1 x))]
    have : ¬ zWn T q (e - q) = zOf i := fun x => by
      unfold zWn at x
      by_cases c6 : e - q ≤ 6
      · rw [if_pos c6] at x
        exact c (zWc_inj (d := fun j => T (q + j) - 96) _ _ hd hs x).1
      · rw [if_neg c6] at x
        have hO' : 1 ≤ zOf i := hO
        omega
    rw [decide_eq_false this]; rfl
