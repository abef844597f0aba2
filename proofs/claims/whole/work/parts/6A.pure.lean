set_option linter.unusedVariables false
theorem z_nI_toInt {i : Nat} (h : i < 2147483648) : (nI i).toInt = i := by
  unfold nI
  exact Int32.toInt_ofNat_of_lt (by omega)
theorem z_nI_tn {i : Nat} (h : i < 2147483648) : Int32.toNatClampNeg (nI i) = i := by
  unfold Int32.toNatClampNeg; rw [z_nI_toInt h]; rfl
theorem z_nI_le {i j : Nat} (h : i < 2147483648) (h' : j < 2147483648) : (nI i ≤ nI j) ↔ i ≤ j := by
  rw [Int32.le_iff_toInt_le, z_nI_toInt h, z_nI_toInt h']; omega
theorem z_nI_lt {i j : Nat} (h : i < 2147483648) (h' : j < 2147483648) : (nI i < nI j) ↔ i < j := by
  rw [Int32.lt_iff_toInt_lt, z_nI_toInt h, z_nI_toInt h']; omega
theorem z_nI_inj {i j : Nat} (h : i < 2147483648) (h' : j < 2147483648) : (nI i = nI j) ↔ i = j := by
  rw [← Int32.toInt_inj, z_nI_toInt h, z_nI_toInt h']; omega
theorem z_nI_add (i j : Nat) : nI i + nI j = nI (i + j) := by
  unfold nI; exact (Int32.ofNat_add i j).symm
theorem z_nI_succ (i : Nat) : nI i + 1 = nI (i + 1) := z_nI_add i 1
theorem z_nI_mul (i j : Nat) : nI i * nI j = nI (i * j) := by
  unfold nI; exact (Int32.ofNat_mul i j).symm
theorem z_inb {i n : Nat} (h : i < 2147483648) : inb (nI i) n = decide (i < n) := by
  unfold inb; rw [z_nI_toInt h]; simp
theorem z_lit (i : Nat) : (OfNat.ofNat i : Int32) = nI i := rfl
theorem z_u2 (X : TX) (k j : Nat) (v : Int32) (a b : Nat) : u2 X k j v a b = if a = k then (if b = j then v else X a b) else X a b := by
  unfold u2 upd; by_cases h : a = k
  · subst h; simp
  · simp [h]
theorem z_nI_nn {i : Nat} (h : i < 2147483648) : ¬ nI i < 0 := by
  rw [Int32.lt_iff_toInt_lt, z_nI_toInt h]; simp
theorem z_at {k i : Nat} {X : TX} (h : i < lenX k) (hk : lenX k < 2147483648) : f_X8_at k X (nI i) = some (X k i) := by
  unfold f_X8_at
  rw [if_neg (z_nI_nn (by omega)), if_neg (by rw [z_nI_le hk (by omega)]; omega), z_inb (by omega), z_nI_tn (by omega)]
  simp [h]
theorem z_put {k i : Nat} {X : TX} {v : Int32} (h : i < lenX k) (hk : lenX k < 2147483648) : f_X8_put k X (nI i) v = some (u2 X k i v) := by
  unfold f_X8_put
  rw [if_neg (z_nI_nn (by omega)), if_neg (by rw [z_nI_le hk (by omega)]; omega), z_inb (by omega), z_nI_tn (by omega)]
  simp [h]
/-- a fold over p = i, i+1, .., i+k-1 -/
def zF {α : Type} (g : Nat → α → α) : Nat → Nat → α → α
  | 0, _, a => a
  | k + 1, i, a => zF g k (i + 1) (g i a)
theorem zF_snoc {α : Type} (g : Nat → α → α) : ∀ (k i : Nat) (a : α), zF g (k + 1) i a = g (i + k) (zF g k i a)
  | 0, i, a => rfl
  | k + 1, i, a => by
    have := zF_snoc g k (i + 1) (g i a)
    rw [zF, this, zF]; congr 1; omega
/-- an invariant along a fold -/
theorem zF_inv {α : Type} (g : Nat → α → α) (P : Nat → α → Prop) (k i : Nat) (a : α) (h0 : P i a)
    (hs : ∀ j a, i ≤ j → j < i + k → P j a → P (j + 1) (g j a)) : P (i + k) (zF g k i a) := by
  induction k with
  | zero => exact h0
  | succ k ih =>
    rw [zF_snoc]
    exact hs (i + k) _ (by omega) (by omega) (ih fun j a h1 h2 => hs j a h1 (by omega))
/-- two folds along a relation -/
theorem zF_rel {α β : Type} (g : Nat → α → α) (g' : Nat → β → β) (P : Nat → α → β → Prop) (k i : Nat) (a : α) (b : β) (h0 : P i a b)
    (hs : ∀ j a b, i ≤ j → j < i + k → P j a b → P (j + 1) (g j a) (g' j b)) : P (i + k) (zF g k i a) (zF g' k i b) := by
  induction k with
  | zero => exact h0
  | succ k ih =>
    rw [zF_snoc, zF_snoc]
    exact hs (i + k) _ _ (by omega) (by omega) (ih fun j a b h1 h2 => hs j a b h1 (by omega))
theorem zF_congr {α : Type} (g g' : Nat → α → α) (k i : Nat) (a : α)
    (hs : ∀ j a, i ≤ j → j < i + k → g j a = g' j a) : zF g k i a = zF g' k i a :=
  zF_rel g g' (fun _ a b => a = b) k i a a rfl fun j a b h1 h2 h => h ▸ hs j a h1 h2
/-- a loop of the models: it runs from i to n, its body is g, it ends in e -/
theorem z_loop {α β : Type} (L : Nat → Int32 → α → Option β) (g : Nat → α → α) (e : α → Option β) (n : Nat)
    (he : ∀ f i a, i = n → L (f + 1) (nI i) a = e a)
    (hb : ∀ f i a, i < n → L (f + 1) (nI i) a = L f (nI (i + 1)) (g i a)) :
    ∀ (k i f : Nat) (a : α), i + k = n → k < f → L f (nI i) a = e (zF g k i a)
  | 0, i, f + 1, a, h, _ => by rw [he f i a (by omega), zF]
  | k + 1, i, f + 1, a, h, hf => by
    rw [hb f i a (by omega), z_loop L g e n he hb k (i + 1) f (g i a) (by omega) (by omega), zF]
/-- the same, where only what holds of the state lets the body run -/
theorem z_loopP {α β : Type} (L : Nat → Int32 → α → Option β) (P : Nat → α → Prop) (g : Nat → α → α) (e : α → Option β) (n : Nat)
    (he : ∀ f i a, i = n → P i a → L (f + 1) (nI i) a = e a)
    (hb : ∀ f i a, i < n → P i a → L (f + 1) (nI i) a = L f (nI (i + 1)) (g i a) ∧ P (i + 1) (g i a)) :
    ∀ (k i f : Nat) (a : α), P i a → i + k = n → k < f → L f (nI i) a = e (zF g k i a)
  | 0, i, f + 1, a, hp, h, _ => by rw [he f i a (by omega) hp, zF]
  | k + 1, i, f + 1, a, hp, h, hf => by
    have hq := hb f i a (by omega) hp
    rw [hq.1, z_loopP L P g e n he hb k (i + 1) f (g i a) hq.2 (by omega) (by omega), zF]
theorem z_0add (x : Int32) : nI 0 + x = x := Int32.zero_add x
theorem z_add0 (x : Int32) : x + nI 0 = x := Int32.add_zero x
theorem z_0or (x : Int32) : nI 0 ||| x = x := by show 0 ||| x = x; simp
theorem z_or0 (x : Int32) : x ||| nI 0 = x := by show x ||| 0 = x; simp
theorem z_1mul (x : Int32) : nI 1 * x = x := Int32.one_mul x
theorem z_0mul (x : Int32) : nI 0 * x = nI 0 := Int32.zero_mul
/-- a loop whose states are only told by what holds of them -/
theorem z_loopE {α β : Type} (L : Nat → Int32 → α → Option β) (P : Nat → α → Prop) (e : α → Option β) (n : Nat)
    (he : ∀ f a, P n a → L (f + 1) (nI n) a = e a)
    (hb : ∀ f i a, i < n → P i a → ∃ a', L (f + 1) (nI i) a = L f (nI (i + 1)) a' ∧ P (i + 1) a') :
    ∀ (k i f : Nat) (a : α), P i a → i + k = n → k < f → ∃ a', L f (nI i) a = e a' ∧ P n a'
  | 0, i, f + 1, a, hp, h, _ => by
    have h : i = n := by omega
    subst h
    exact ⟨a, he f a hp, hp⟩
  | k + 1, i, f + 1, a, hp, h, hf => by
    obtain ⟨a1, e1, p1⟩ := hb f i a (by omega) hp
    obtain ⟨a2, e2, p2⟩ := z_loopE L P e n he hb k (i + 1) f a1 p1 (by omega) (by omega)
    exact ⟨a2, e1.trans e2, p2⟩
theorem z_u2s (X : TX) (k j : Nat) (v : Int32) : u2 X k j v k j = v := by simp [z_u2]
theorem z_u2k (X : TX) (k j : Nat) (v : Int32) {a : Nat} (h : a ≠ k) : u2 X k j v a = X a := by funext b; simp [z_u2, h]
theorem z_u2j (X : TX) (k j : Nat) (v : Int32) {b : Nat} (h : b ≠ j) : u2 X k j v k b = X k b := by simp [z_u2, h]
theorem z_u2r (X : TX) (k j : Nat) (v : Int32) : u2 X k j v k = upd (X k) j v := by simp [u2]
theorem z_updS (f : Nat → Int32) (j : Nat) (v : Int32) : upd f j v j = v := by simp [upd]
theorem z_updJ (f : Nat → Int32) {j b : Nat} (v : Int32) (h : b ≠ j) : upd f j v b = f b := by simp [upd, h]
theorem z_sub0 (x : Int32) : x - nI 0 = x := Int32.sub_zero x
