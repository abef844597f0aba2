set_option linter.unusedVariables false
def zPass (r : Nat → Int32) (W : Int32) (n : Nat) (x : Int32) : Int32 := zF (fun p x => if bt x p then x ||| (r p &&& W) else x) n 0 x
def zIt (r : Nat → Int32) (W : Int32) (n : Nat) : Nat → Int32 → Int32
  | 0, x => x
  | k + 1, x => zIt r W n k (zPass r W n x)
theorem zIt_snoc (r : Nat → Int32) (W : Int32) (n : Nat) : ∀ k x, zIt r W n (k + 1) x = zPass r W n (zIt r W n k x)
  | 0, x => rfl
  | k + 1, x => by rw [zIt, zIt_snoc r W n k, zIt]
theorem zIt_fix {r : Nat → Int32} {W : Int32} {n : Nat} {x : Int32} (h : zPass r W n x = x) : ∀ k, zIt r W n k x = x
  | 0 => rfl
  | k + 1 => by rw [zIt, h, zIt_fix h k]
def zCnt : Nat → Int32 → Nat
  | 0, _ => 0
  | n + 1, x => zCnt n x + (bt x n).toNat
theorem zCnt_le : ∀ n x, zCnt n x ≤ n
  | 0, x => Nat.le_refl _
  | n + 1, x => by have := zCnt_le n x; rw [zCnt]; cases bt x n <;> simp <;> omega
theorem zCnt_mono {x y : Int32} (h : ∀ q, bt x q = true → bt y q = true) : ∀ n, zCnt n x ≤ zCnt n y
  | 0 => Nat.le_refl _
  | n + 1 => by
    have := zCnt_mono h n; have := h n; rw [zCnt, zCnt]
    cases hx : bt x n <;> cases hy : bt y n <;> simp_all <;> omega
theorem zCnt_lt {x y : Int32} (h : ∀ q, bt x q = true → bt y q = true) {q : Nat} (h1 : bt x q = false) (h2 : bt y q = true) : ∀ n, q < n → zCnt n x < zCnt n y
  | n + 1, hq => by
    rw [zCnt, zCnt]
    by_cases e : q = n
    · subst e; have := zCnt_mono h q; rw [h1, h2]; simp; omega
    · have := zCnt_lt h h1 h2 n (by omega); have := h n
      cases hx : bt x n <;> cases hy : bt y n <;> simp_all <;> omega
theorem zPass_sup (r : Nat → Int32) (W : Int32) (n : Nat) (x : Int32) (q : Nat) (h : bt x q = true) : bt (zPass r W n x) q = true := by
  unfold zPass
  refine zF_inv _ (fun _ y => bt y q = true) n 0 x h fun j a _ _ hj => ?_
  by_cases hc : bt a j = true
  · rw [if_pos hc, bt_or, hj]; rfl
  · rw [if_neg hc]; exact hj
theorem zPass_sub (r : Nat → Int32) (W : Int32) (n : Nat) (x : Int32) (q : Nat) : bt (zPass r W n x) q = true → bt x q = true ∨ bt W q = true := by
  unfold zPass
  refine zF_inv _ (fun _ y => bt y q = true → bt x q = true ∨ bt W q = true) n 0 x (fun h => .inl h) fun j a _ _ hj => ?_
  by_cases hc : bt a j = true
  · rw [if_pos hc, bt_or, bt_and]
    intro h
    rcases Bool.or_eq_true _ _ ▸ h with h | h
    · exact hj h
    · exact .inr ((Bool.and_eq_true _ _ ▸ h).2)
  · rw [if_neg hc]; exact hj
theorem z_ne_bit {x y : Int32} (h : x ≠ y) : ∃ q, q < 32 ∧ bt x q ≠ bt y q := by
  apply Classical.byContradiction
  intro hn
  exact h (bt_ext fun q hq => Classical.byContradiction fun h' => hn ⟨q, hq, h'⟩)
/-- in n rounds within n parishes all is reached -/
theorem zIt_done {r : Nat → Int32} {W : Int32} {n : Nat} {x : Int32} (hW : ∀ q, bt W q = true → q < n) (hx : ∀ q, bt x q = true → q < n) : zPass r W n (zIt r W n n x) = zIt r W n n x := by
  have hb : ∀ k q, bt (zIt r W n k x) q = true → q < n := fun k => by
    induction k with
    | zero => exact hx
    | succ k ih => intro q h; rw [zIt_snoc] at h; rcases zPass_sub r W n _ q h with h | h
                   · exact ih q h
                   · exact hW q h
  by_cases h0 : zPass r W n x = x
  · rw [zIt_fix h0, h0]
  have key : ∀ k, zPass r W n (zIt r W n k x) = zIt r W n k x ∨ k + 1 ≤ zCnt n (zIt r W n (k + 1) x) := fun k => by
    induction k with
    | zero =>
      right
      obtain ⟨q, _, hq⟩ := z_ne_bit h0
      have hs := zPass_sup r W n x
      have h1 : bt x q = false := by cases h : bt x q; rfl; exact absurd ((hs q h).trans h.symm) hq
      have h2 : bt (zPass r W n x) q = true := by cases h : bt (zPass r W n x) q; exact absurd (h.trans h1.symm) hq; rfl
      have := zCnt_lt hs h1 h2 n (hb 1 q (by rw [zIt_snoc]; exact h2))
      show 0 + 1 ≤ zCnt n (zPass r W n x); omega
    | succ k ih =>
      rcases ih with ih | ih
      · left; rw [zIt_snoc, ih, ih]
      · by_cases hf : zPass r W n (zIt r W n (k + 1) x) = zIt r W n (k + 1) x
        · exact .inl hf
        · right
          obtain ⟨q, _, hq⟩ := z_ne_bit hf
          have hs := zPass_sup r W n (zIt r W n (k + 1) x)
          have h1 : bt (zIt r W n (k + 1) x) q = false := by cases h : bt (zIt r W n (k + 1) x) q; rfl; exact absurd ((hs q h).trans h.symm) hq
          have h2 : bt (zPass r W n (zIt r W n (k + 1) x)) q = true := by cases h : bt (zPass r W n (zIt r W n (k + 1) x)) q; exact absurd (h.trans h1.symm) hq; rfl
          have := zCnt_lt hs h1 h2 n (hb (k + 2) q (by rw [zIt_snoc]; exact h2))
          rw [zIt_snoc r W n (k + 1)]; omega
  rcases key n with h | h
  · exact h
  · have := zCnt_le n (zIt r W n (n + 1) x); omega
theorem zIt_more {r : Nat → Int32} {W : Int32} {n : Nat} {x : Int32} (hW : ∀ q, bt W q = true → q < n) (hx : ∀ q, bt x q = true → q < n) : ∀ k, zIt r W n (n + k) x = zIt r W n n x
  | 0 => rfl
  | k + 1 => by rw [← Nat.add_assoc, zIt_snoc, zIt_more hW hx k, zIt_done hW hx]
theorem z3_reached18 {X : TX} {n : Nat} (hn : X 3 5 = nI n) (h10 : n ≤ 10) (k5 : TX → Int32 → Int32 → Int32 → Option Int32) (W x rd bef : Int32) :
    L_X3_reached_18 k5 FU X W x rd bef (nI 0) = if zPass (X 6) W n x = bef then some (zPass (X 6) W n x) else k5 X W (zPass (X 6) W n x) (rd + nI 1) := by
  refine z_loop (fun f i a => L_X3_reached_18 k5 f X W a rd bef i) (fun p x => if bt x p then x ||| (X 6 p &&& W) else x) (fun y => if y = bef then some y else k5 X W y (rd + nI 1)) n ?_ ?_ n 0 FU x (by omega) (by unfold FU; omega)
  · intro f i a h
    subst h
    simp (discharger := omega) only [L_X3_reached_18, hn, z_lit, z_nI_le, z_nI_lt, z_nI_inj, z_inb, z_nI_tn, z_nI_add, z_nI_mul, z_bitN, z_zb, z_0add, z_add0, z_0or, z_or0, Option.bind_some, decide_eq_true_eq, Nat.zero_add, Nat.add_zero, Nat.le_refl, if_true]
  · intro f i a h
    have h1 : ¬ n ≤ i := by omega
    have a6 : f_X8_at 6 X (nI i) = some (X 6 i) := z_at (show i < 10 by omega) (by decide)
    simp (discharger := omega) only [L_X3_reached_18, hn, z_lit, z_nI_le, z_nI_lt, z_nI_inj, z_inb, z_nI_tn, z_nI_add, z_nI_mul, z_bitN, z_zb, z_0add, z_add0, z_0or, z_or0, Option.bind_some, decide_eq_true_eq, Nat.zero_add, Nat.add_zero, h1, if_false, z_has, a6]
    cases bt a i
    · simp (discharger := omega) only [if_false, z_lit, z_nI_le, z_nI_lt, z_nI_inj, z_inb, z_nI_tn, z_nI_add, z_nI_mul, z_bitN, z_zb, z_0add, z_add0, z_0or, z_or0, Option.bind_some, decide_eq_true_eq, Nat.zero_add, Nat.add_zero, if_true, Bool.false_eq_true]
    · have : ¬ (1 : Nat) = 0 := by omega
      simp (discharger := omega) only [if_false, z_lit, z_nI_le, z_nI_lt, z_nI_inj, z_inb, z_nI_tn, z_nI_add, z_nI_mul, z_bitN, z_zb, z_0add, z_add0, z_0or, z_or0, Option.bind_some, decide_eq_true_eq, Nat.zero_add, Nat.add_zero, if_true, this]
theorem z3_reached {X : TX} {n : Nat} (hn : X 3 5 = nI n) (h10 : n ≤ 10) (W x : Int32) : f_X3_reached X x W = some (zIt (X 6) W n 10 x) := by
  have : ∀ k f x, k ≤ 10 → k < f → L_X3_reached_5 f X W x (nI (10 - k)) = some (zIt (X 6) W n k x) := fun k => by
    induction k with
    | zero =>
      intro f x _ hf
      obtain ⟨f, rfl⟩ : ∃ f', f = f' + 1 := ⟨f - 1, by omega⟩
      simp (discharger := omega) only [L_X3_reached_5, z_lit, z_nI_le, z_nI_lt, z_nI_inj, z_inb, z_nI_tn, z_nI_add, z_nI_mul, z_bitN, z_zb, z_0add, z_add0, z_0or, z_or0, Option.bind_some, decide_eq_true_eq, Nat.zero_add, Nat.add_zero, Nat.sub_zero, Nat.le_refl, if_true, zIt]
    | succ k ih =>
      intro f x hk hf
      obtain ⟨f, rfl⟩ : ∃ f', f = f' + 1 := ⟨f - 1, by omega⟩
      have h1 : ¬ 10 ≤ 10 - (k + 1) := by omega
      have h2 : 10 - (k + 1) + 1 = 10 - k := by omega
      simp (discharger := omega) only [L_X3_reached_5, z_lit, z_nI_le, z_nI_lt, z_nI_inj, z_inb, z_nI_tn, z_nI_add, z_nI_mul, z_bitN, z_zb, z_0add, z_add0, z_0or, z_or0, Option.bind_some, decide_eq_true_eq, Nat.zero_add, Nat.add_zero, h1, if_false, z3_reached18 hn h10, h2, ih f _ (show k ≤ 10 by omega) (show k < f by omega), zIt]
      by_cases h : zPass (X 6) W n x = x
      · rw [if_pos h, h, zIt_fix h]
      · rw [if_neg h]
  exact this 10 FU x (by omega) (by unfold FU; omega)
