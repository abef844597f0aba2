set_option linter.unusedVariables false
/-- the clause that a word begins -/
def zKd (w : Nat) : Nat := if w = zOf 8 then 1 else if w = zOf 12 then 2 else if w = zOf 15 then 3 else if w = zOf 10 then 4 else 0
theorem zbI_t {c : Prop} [Decidable c] (h : c) : zbI (decide c) = nI 1 := by rw [decide_eq_true h]; rfl
theorem zbI_f {c : Prop} [Decidable c] (h : ¬ c) : zbI (decide c) = nI 0 := by rw [decide_eq_false h]; rfl
theorem zOf_lt {i : Nat} (h : i < 18) : zOf i < 1073741824 := (zOf_all ⟨i, h⟩).2.2
theorem zWn_lt {T : Nat → Nat} {q k : Nat} (h : ∀ j, j < k → 97 ≤ T (q + j) ∧ T (q + j) ≤ 122) : zWn T q k < 1073741825 := by
  unfold zWn
  by_cases c : k ≤ 6
  · rw [if_pos c]
    have h1 : zWc (fun j => T (q + j) - 96) k < 32 ^ k := zWc_lt k fun j hj => by
      have := h j hj
      show T (q + j) - 96 < 32
      omega
    have h2 : 32 ^ k ≤ 32 ^ 6 := Nat.pow_le_pow_right (by omega) c
    have h3 : (32 : Nat) ^ 6 = 1073741824 := by decide
    omega
  · rw [if_neg c]; omega
theorem z_kind {s : Nat} {T : Nat → Nat} {q e : Nat} {X : TX} (h : zJx s T e X) (hq : X 1 4 = nI q) (hqe : q ≤ e) (hw : ∀ j, q ≤ j → j < e → 97 ≤ T j ∧ T j ≤ 122) :
    f_X3_clauseKind X = some (nI (zKd (zWn T q (e - q)))) := by
  have n1 : ¬ nI 1 = (0 : Int32) := by decide
  have z0 : nI 0 = (0 : Int32) := rfl
  have i8 := z7_is h hq hqe hw (i := 8) (by decide)
  have i12 := z7_is h hq hqe hw (i := 12) (by decide)
  have i15 := z7_is h hq hqe hw (i := 15) (by decide)
  have i10 := z7_is h hq hqe hw (i := 10) (by decide)
  generalize zWn T q (e - q) = w at *
  unfold f_X3_clauseKind zKd
  rw [i8, i12, i15, i10, Option.bind_some]
  by_cases c8 : w = zOf 8
  · rw [zbI_t c8, if_neg n1, if_pos c8]; rfl
  · rw [zbI_f c8, if_pos z0, if_neg c8, Option.bind_some]
    by_cases c12 : w = zOf 12
    · rw [zbI_t c12, if_neg n1, if_pos c12]; rfl
    · rw [zbI_f c12, if_pos z0, if_neg c12, Option.bind_some]
      by_cases c15 : w = zOf 15
      · rw [zbI_t c15, if_neg n1, if_pos c15]; rfl
      · rw [zbI_f c15, if_pos z0, if_neg c15, Option.bind_some]
        by_cases c10 : w = zOf 10
        · rw [zbI_t c10, if_neg n1, if_pos c10]; rfl
        · rw [zbI_f c10, if_pos z0, if_neg c10]; rfl
theorem zOf_eq {w i : Nat} (hw : w < 1073741825) (hi : i < 18) : nI w = nI (zOf i) ↔ w = zOf i := z_nI_inj (by omega) (by have := zOf_lt hi; omega)
theorem z9_isRow {w : Nat} (hw : w < 1073741825) : f_X9_isRow (nI w) = some (zbI (decide (zKd w ≠ 0))) := by
  unfold f_X9_isRow zKd
  rw [z9_of (i := 8) (by decide), z9_of (i := 12) (by decide), z9_of (i := 15) (by decide), z9_of (i := 10) (by decide), Option.bind_some]
  by_cases c8 : w = zOf 8
  · rw [if_pos ((zOf_eq hw (by decide)).2 c8), if_pos c8]; rfl
  · rw [if_neg (fun x => c8 ((zOf_eq hw (by decide)).1 x)), if_neg c8, Option.bind_some]
    by_cases c12 : w = zOf 12
    · rw [if_pos ((zOf_eq hw (by decide)).2 c12), if_pos c12]; rfl
    · rw [if_neg (fun x => c12 ((zOf_eq hw (by decide)).1 x)), if_neg c12, Option.bind_some]
      by_cases c15 : w = zOf 15
      · rw [if_pos ((zOf_eq hw (by decide)).2 c15), if_pos c15]; rfl
      · rw [if_neg (fun x => c15 ((zOf_eq hw (by decide)).1 x)), if_neg c15, Option.bind_some]
        by_cases c10 : w = zOf 10
        · rw [if_pos ((zOf_eq hw (by decide)).2 c10), if_pos c10]; rfl
        · rw [if_neg (fun x => c10 ((zOf_eq hw (by decide)).1 x)), if_neg c10]; rfl
theorem z9_isFull {w n t : Nat} {M : TX} (hw : w < 1073741825) (hn : M 0 16 = nI n) (ht : M 0 17 = nI t) (hn2 : n ≤ 10) (ht2 : t ≤ 6) : f_X9_isFull M (nI w) = some (zbI (decide ((zKd w = 1 ∧ n = 10) ∨ (zKd w = 3 ∧ t = 6)))) := by
  have h10 : (nI n = (10 : Int32)) ↔ n = 10 := z_nI_inj (i := n) (j := 10) (by omega) (by omega)
  have h6 : (nI t = (6 : Int32)) ↔ t = 6 := z_nI_inj (i := t) (j := 6) (by omega) (by omega)
  unfold f_X9_isFull zKd
  rw [z9_of (i := 8) (by decide), z9_of (i := 15) (by decide), Option.bind_some, hn, ht]
  by_cases c8 : w = zOf 8
  · rw [if_pos ((zOf_eq hw (by decide)).2 c8), if_pos c8]
    by_cases c : n = 10
    · rw [if_pos (h10.2 c), zbI_t (.inl ⟨rfl, c⟩)]; rfl
    · rw [if_neg (fun x => c (h10.1 x)), zbI_f (by omega)]; rfl
  · rw [if_neg (fun x => c8 ((zOf_eq hw (by decide)).1 x)), if_neg c8, Option.bind_some]
    by_cases c12 : w = zOf 12
    · have d : ¬ w = zOf 15 := by rw [c12]; decide
      rw [if_neg (fun x => d ((zOf_eq hw (by decide)).1 x)), if_pos c12, zbI_f (by omega)]; rfl
    · by_cases c15 : w = zOf 15
      · rw [if_pos ((zOf_eq hw (by decide)).2 c15), if_neg c12, if_pos c15]
        by_cases c : t = 6
        · rw [if_pos (h6.2 c), zbI_t (.inr ⟨rfl, c⟩)]; rfl
        · rw [if_neg (fun x => c (h6.1 x)), zbI_f (by omega)]; rfl
      · rw [if_neg (fun x => c15 ((zOf_eq hw (by decide)).1 x)), if_neg c12, if_neg c15]
        by_cases c10 : w = zOf 10
        · rw [if_pos c10, zbI_f (by omega)]; rfl
        · rw [if_neg c10, zbI_f (by omega)]; rfl
