set_option linter.unusedVariables false
/-- the reference's search of one side -/
def zMb (K : TX) (n a : Nat) : Nat → (Nat → Int32) → Int32
  | 0, s => zMg n s (nI a)
  | k + 1, s => zMx (zPi K n s) (fun i => zMb K n a k (zRi s i)) (4 * n) (zMg n s (nI a))
theorem z_le_rfl (a : Int32) : a ≤ a := Int32.le_refl a
theorem zMxS_ge {P : Nat → Bool} {f : Nat → Int32} {i : Nat} {a : Int32} : a ≤ zMxS P f i a := by
  unfold zMxS
  split
  · split
    · rename_i h; exact Int32.le_of_lt h
    · exact Int32.le_refl _
  · exact Int32.le_refl _
theorem zMx_ge {P : Nat → Bool} {f : Nat → Int32} {a : Int32} : ∀ k, a ≤ zMx P f k a
  | 0 => Int32.le_refl _
  | k + 1 => by rw [zMx_succ]; exact Int32.le_trans (zMx_ge k) zMxS_ge
theorem zMx_at {P : Nat → Bool} {f : Nat → Int32} {a : Int32} : ∀ k i, i < k → P i = true → f i ≤ zMx P f k a
  | k + 1, i, hi, hP => by
    rw [zMx_succ]
    by_cases e : i = k
    · subst e
      unfold zMxS
      rw [if_pos hP]
      split
      · exact Int32.le_refl _
      · rename_i h; exact Int32.not_lt.1 h
    · exact Int32.le_trans (zMx_at k i (by omega) hP) zMxS_ge
theorem zMx_le {P : Nat → Bool} {f : Nat → Int32} {a b : Int32} (ha : a ≤ b) : ∀ k, (∀ i, i < k → P i = true → f i ≤ b) → zMx P f k a ≤ b
  | 0, _ => ha
  | k + 1, h => by
    have ih := zMx_le (P := P) (f := f) ha k fun i hi hP => h i (by omega) hP
    rw [zMx_succ]
    unfold zMxS
    split
    · rename_i hP
      split
      · exact h k (by omega) hP
      · exact ih
    · exact ih
theorem zMb_mono (K : TX) (n a : Nat) : ∀ k s, zMb K n a k s ≤ zMb K n a (k + 1) s
  | 0, s => zMx_ge _
  | k + 1, s => zMx_le (zMx_ge _) _ fun i hi hP => Int32.le_trans (zMb_mono K n a k (zRi s i)) (zMx_at (f := fun i => zMb K n a (k + 1) (zRi s i)) _ i hi hP)
theorem zMb_margin (K : TX) (n a : Nat) : ∀ k s, zMg n s (nI a) ≤ zMb K n a k s
  | 0, s => Int32.le_refl _
  | k + 1, s => zMx_ge _
theorem zMx_congr {P : Nat → Bool} {f g : Nat → Int32} {k : Nat} {a : Int32} (h : ∀ i, i < k → P i = true → f i = g i) : zMx P f k a = zMx P g k a := by
  unfold zMx
  refine zF_congr _ _ k 0 a fun j b _ hj => ?_
  unfold zMxS
  by_cases c : P j = true
  · rw [if_pos c, if_pos c, h j (by omega) c]
  · rw [if_neg c, if_neg c]
/-- both searches of one side find the same -/
theorem zG_Mb (K : TX) (n a : Nat) : ∀ k s, zG K n 0 k a s = zMb K n a k s
  | 0, s => rfl
  | k + 1, s => by
    rw [zG_succ]
    have e1 : zGn K n 0 k a s = zMb K n a k s := by unfold zGn; rw [if_pos rfl]; exact zG_Mb K n a k s
    have e2 : zMx (zPi K n s) (fun i => zGn K n 0 k a (zRi s i)) (4 * n) (zGn K n 0 k a s) = zMx (zPi K n s) (fun i => zMb K n a k (zRi s i)) (4 * n) (zMb K n a k s) := by
      rw [e1]
      exact zMx_congr fun i _ _ => by unfold zGn; rw [if_pos rfl]; exact zG_Mb K n a k _
    rw [e2]
    refine Int32.le_antisymm (zMx_le ?_ _ fun i hi hP => ?_) (zMx_le ?_ _ fun i hi hP => ?_)
    · exact zMb_mono K n a k s
    · exact zMx_at (f := fun i => zMb K n a k (zRi s i)) _ i hi hP
    · exact Int32.le_trans (zMb_margin K n a k s) (zMx_ge _)
    · exact zMx_at (f := fun i => zMb K n a k (zRi s i)) _ i hi hP
/-- the reference's search by turns -/
def zMnS (P : Nat → Bool) (f : Nat → Int32) (i : Nat) (a : Int32) : Int32 := if P i = true then (if a ≤ f i then a else f i) else a
def zMn (P : Nat → Bool) (f : Nat → Int32) (k : Nat) (a : Int32) : Int32 := zF (zMnS P f) k 0 a
theorem zMn_succ (P : Nat → Bool) (f : Nat → Int32) (k : Nat) (a : Int32) : zMn P f (k + 1) a = zMnS P f k (zMn P f k a) := by unfold zMn; rw [zF_snoc, Nat.zero_add]
def zTb (K : TX) (n : Nat) : Nat → Nat → (Nat → Int32) → Int32
  | 0, _, s => zMg n s (nI 0)
  | k + 1, a, s => if a = 0 then zMx (zPi K n s) (fun i => zTb K n k 1 (zRi s i)) (4 * n) (zTb K n k 1 s) else zMn (zPi K n s) (fun i => zTb K n k 0 (zRi s i)) (4 * n) (zTb K n k 0 s)
/-- a small number -/
def zSm (x : Int32) : Prop := ∃ z : Int, -4 ≤ z ∧ z ≤ 4 ∧ x = zI z
theorem zSm_sg (x : Int32) : zSg x 0 = zI (-1) ∨ zSg x 0 = zI 0 ∨ zSg x 0 = zI 1 := by
  unfold zSg
  split
  · split
    · exact .inr (.inl rfl)
    · exact .inr (.inr rfl)
  · exact .inl rfl
theorem zSm_neg {x : Int32} (h : zSm x) : zSm (-x) := by
  obtain ⟨z, h1, h2, rfl⟩ := h
  exact ⟨-z, by omega, by omega, zI_neg z⟩
theorem zMg_sm (n : Nat) (s : Nat → Int32) (a : Int32) : zSm (zMg n s a) := by
  have : ∀ k : Nat, ∃ z : Int, -k ≤ z ∧ z ≤ k ∧ zF (fun d x => x + zSg (zLc n s d) 0) k 0 (nI 0) = zI z := fun k => by
    induction k with
    | zero => exact ⟨0, by omega, by omega, rfl⟩
    | succ k ih =>
      obtain ⟨z, h1, h2, h3⟩ := ih
      rw [zF_snoc, h3, Nat.zero_add]
      rcases zSm_sg (zLc n s k) with e | e | e
      · exact ⟨z - 1, by omega, by omega, by rw [e, zI_add]; congr 1⟩
      · exact ⟨z, by omega, by omega, by rw [e, zI_add]; congr 1; omega⟩
      · exact ⟨z + 1, by omega, by omega, by rw [e, zI_add]⟩
  obtain ⟨z, h1, h2, h3⟩ := this 4
  have hz : zSm (zI z) := ⟨z, by omega, by omega, rfl⟩
  unfold zMg zMar
  show zSm (if a = 0 then _ else _)
  split
  · show zSm (zF (fun d x => x + zSg (zLc n s d) 0) 4 0 (nI 0)); rw [h3]; exact hz
  · show zSm (-(zF (fun d x => x + zSg (zLc n s d) 0) 4 0 (nI 0))); rw [h3]; exact zSm_neg hz
theorem zMx_sm {P : Nat → Bool} {f : Nat → Int32} {a : Int32} (ha : zSm a) (hf : ∀ i, zSm (f i)) : ∀ k, zSm (zMx P f k a)
  | 0 => ha
  | k + 1 => by
    have ih := zMx_sm (P := P) ha hf k
    rw [zMx_succ]; unfold zMxS
    split
    · split
      · exact hf k
      · exact ih
    · exact ih
theorem zMn_sm {P : Nat → Bool} {f : Nat → Int32} {a : Int32} (ha : zSm a) (hf : ∀ i, zSm (f i)) : ∀ k, zSm (zMn P f k a)
  | 0 => ha
  | k + 1 => by
    have ih := zMn_sm (P := P) ha hf k
    rw [zMn_succ]; unfold zMnS
    split
    · split
      · exact ih
      · exact hf k
    · exact ih
theorem zTb_sm (K : TX) (n : Nat) : ∀ k a s, zSm (zTb K n k a s)
  | 0, _, s => zMg_sm n s _
  | k + 1, a, s => by
    unfold zTb
    split
    · exact zMx_sm (zTb_sm K n k 1 s) (fun i => zTb_sm K n k 1 _) _
    · exact zMn_sm (zTb_sm K n k 0 s) (fun i => zTb_sm K n k 0 _) _
theorem zSm_lt {x y : Int32} (hx : zSm x) (hy : zSm y) : (-x < -y) ↔ ¬ x ≤ y := by
  obtain ⟨a, a1, a2, rfl⟩ := hx
  obtain ⟨b, b1, b2, rfl⟩ := hy
  rw [zI_neg, zI_neg, Int32.lt_iff_toInt_lt, Int32.le_iff_toInt_le, zI_toInt (by omega) (by omega), zI_toInt (by omega) (by omega), zI_toInt (by omega) (by omega), zI_toInt (by omega) (by omega)]
  omega
theorem zMx_neg {P : Nat → Bool} {f : Nat → Int32} {a : Int32} (ha : zSm a) (hf : ∀ i, zSm (f i)) : ∀ k, zMx P (fun i => -(f i)) k (-a) = -(zMn P f k a)
  | 0 => rfl
  | k + 1 => by
    rw [zMx_succ, zMn_succ, zMx_neg ha hf k]
    have hs := zMn_sm (P := P) ha hf k
    unfold zMxS zMnS
    by_cases c : P k = true
    · rw [if_pos c, if_pos c]
      have := zSm_lt hs (hf k)
      by_cases c2 : zMn P f k a ≤ f k
      · rw [if_pos c2, if_neg (fun h => (this.1 h) c2)]
      · rw [if_neg c2, if_pos (this.2 c2)]
    · rw [if_neg c, if_neg c]
/-- both searches by turns find the same -/
theorem zG_Tb (K : TX) (n : Nat) : ∀ k a s, a < 2 → zG K n 1 k a s = if a = 0 then zTb K n k 0 s else -(zTb K n k 1 s)
  | 0, a, s, ha => by
    have h : a = 0 ∨ a = 1 := by omega
    rcases h with rfl | rfl
    · rfl
    · exact (zMg_neg n s (a := 1) (by omega)).symm
  | k + 1, a, s, ha => by
    rw [zG_succ]
    have h : a = 0 ∨ a = 1 := by omega
    rcases h with rfl | rfl
    · have e : ∀ r, zGn K n 1 k 0 r = zTb K n k 1 r := fun r => by
        unfold zGn
        rw [if_neg (by decide), zG_Tb K n k (1 - 0) r (by omega), if_neg (by decide), z_nn]
      rw [e s, zMx_congr (g := fun i => zTb K n k 1 (zRi s i)) fun i _ _ => e _]
      rfl
    · have e : ∀ r, zGn K n 1 k 1 r = -(zTb K n k 0 r) := fun r => by
        unfold zGn
        rw [if_neg (by decide), zG_Tb K n k (1 - 1) r (by omega), if_pos rfl]
      rw [e s, zMx_congr (g := fun i => -(zTb K n k 0 (zRi s i))) fun i _ _ => e _, zMx_neg (zTb_sm K n k 0 s) (fun i => zTb_sm K n k 0 _)]
      rfl
