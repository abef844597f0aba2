set_option linter.unusedVariables false
def nL (n : Nat) : Int64 := Int64.ofNat n
theorem nL_toInt {i : Nat} (h : i < 9223372036854775808) : (nL i).toInt = i := by
  unfold nL
  exact Int64.toInt_ofNat_of_lt (by omega)
theorem nL_inj {i j : Nat} (h : i < 9223372036854775808) (h' : j < 9223372036854775808) : (nL i = nL j) ↔ i = j := by
  rw [← Int64.toInt_inj, nL_toInt h, nL_toInt h']; omega
theorem nL_add (i j : Nat) : nL i + nL j = nL (i + j) := by unfold nL; exact (Int64.ofNat_add i j).symm
theorem nL_mul (i j : Nat) : nL i * nL j = nL (i * j) := by unfold nL; exact (Int64.ofNat_mul i j).symm
theorem nL_quo {i k : Nat} (hi : i < 9223372036854775808) (hk : 0 < k) (hk' : k < 9223372036854775808) : nL i / nL k = nL (i / k) := by
  have h0 : i / k < 9223372036854775808 := Nat.lt_of_le_of_lt (Nat.div_le_self i k) hi
  apply Int64.toInt_inj.1
  rw [Int64.toInt_div_of_ne_right, nL_toInt hi, nL_toInt hk', nL_toInt h0]
  · rfl
  · intro e
    have := congrArg Int64.toInt e
    rw [nL_toInt hk'] at this
    have h2 : (-1 : Int64).toInt = -1 := by decide
    omega
theorem nL_rem {i k : Nat} (hi : i < 9223372036854775808) (hk : 0 < k) (hk' : k < 9223372036854775808) : nL i - nL i / nL k * nL k = nL (i % k) := by
  rw [nL_quo hi hk hk', nL_mul]
  have e : nL i = nL (i % k) + nL (i / k * k) := by
    rw [nL_add]; congr 1; rw [Nat.mul_comm]; exact (Nat.mod_add_div i k).symm
  rw [e]; grind
theorem nL_cmp {i : Nat} (h : i < 9223372036854775808) : (lg_cmp (nL i) (0 : Int64) = 0) ↔ i = 0 := by
  have e0 : (nL i = (0 : Int64)) ↔ i = 0 := nL_inj (j := 0) h (by omega)
  unfold lg_cmp
  by_cases c : i = 0
  · subst c; exact ⟨fun _ => rfl, fun _ => by decide⟩
  · have c1 : ¬ nL i = (0 : Int64) := fun e => c (e0.1 e)
    refine ⟨fun e => ?_, fun e => absurd e c⟩
    split at e
    · exact absurd e (by decide)
    · first | (rw [if_neg c1] at e; exact absurd e (by decide)) | exact absurd e (by decide)
/-- Euclid's rounds end within k -/
def zEn : Nat → Nat → Nat → Prop
  | 0, _, y => y = 0
  | k + 1, x, y => y = 0 ∨ zEn k y (x % y)
def zEu : Nat → Nat → Nat → Nat
  | 0, x, _ => x
  | k + 1, x, y => if y = 0 then x else zEu k y (x % y)
theorem zEn_mono : ∀ k x y, zEn k x y → zEn (k + 1) x y
  | 0, x, y, h => .inl h
  | k + 1, x, y, h => by
    rcases h with h | h
    · exact .inl h
    · exact .inr (zEn_mono k y (x % y) h)
theorem zEn_pow : ∀ j x y, y < 2 ^ j → zEn (2 * j) x y
  | 0, x, y, h => by
    have h : y < 1 := h
    show y = 0; omega
  | j + 1, x, y, h => by
    show zEn (2 * j + 1 + 1) x y
    by_cases c : y = 0
    · exact .inl c
    · right
      by_cases c2 : x % y = 0
      · exact .inl c2
      · right
        refine zEn_pow j _ _ ?_
        have h1 : x % y < y := Nat.mod_lt _ (by omega)
        have h2 : y % (x % y) < x % y := Nat.mod_lt _ (by omega)
        have h3 := Nat.mod_add_div y (x % y)
        have h4 : 1 ≤ y / (x % y) := (Nat.one_le_div_iff (by omega)).2 (by omega)
        have h5 : x % y ≤ x % y * (y / (x % y)) := Nat.le_mul_of_pos_right _ h4
        have h6 : 2 ^ (j + 1) = 2 * 2 ^ j := by rw [Nat.pow_succ]; omega
        omega
theorem zEu_pos : ∀ k x y, zEn k x y → 0 < x + y → 0 < zEu k x y
  | 0, x, y, h, hp => by
    have h : y = 0 := h
    show 0 < x; omega
  | k + 1, x, y, h, hp => by
    unfold zEu
    by_cases c : y = 0
    · rw [if_pos c]; omega
    · rw [if_neg c]
      exact zEu_pos k y (x % y) (h.resolve_left c) (by omega)
theorem zEu_le : ∀ k x y B, x ≤ B → y ≤ B → zEu k x y ≤ B
  | 0, x, y, B, hx, _ => hx
  | k + 1, x, y, B, hx, hy => by
    unfold zEu
    by_cases c : y = 0
    · rw [if_pos c]; exact hx
    · rw [if_neg c]
      exact zEu_le k y (x % y) B hy (Nat.le_trans (Nat.le_of_lt (Nat.mod_lt _ (by omega))) hy)
def zTm (u b g : Nat) (h : Int32) : Int64 := if h = 0 then nL u / nL g else nL b / nL g
theorem z8_gcd {u b : Nat} {h : Int32} : ∀ (k f i x y : Nat), zEn k x y → i + k ≤ 100 → k < f → 0 < x + y → x < 9223372036854775808 → y < 9223372036854775808 → L_X8_leastTerm_26 f (nL u) (nL b) h (nL x) (nL y) (nI i) = some (zTm u b (zEu k x y) h) := by
  have fin : ∀ x, 0 < x → x < 9223372036854775808 → (if (lg_cmp (nL x) (0 : Int64)) = 0 then (some (0 : Int64)) else (if h = 0 then (if nL x = 0 then none else (some (nL u / nL x))) else (if nL x = 0 then none else (some (nL b / nL x))))) = some (zTm u b x h) := fun x hx hx2 => by
    have e0 : ¬ nL x = (0 : Int64) := fun e => by
      have := (nL_inj (j := 0) hx2 (by omega)).1 e
      omega
    rw [if_neg (fun e => by have := (nL_cmp hx2).1 e; omega), if_neg e0, if_neg e0]
    unfold zTm
    split <;> rfl
  intro k
  induction k with
  | zero =>
    intro f i x y hE hi hf hp hx hy
    obtain ⟨f, rfl⟩ : ∃ f0, f = f0 + 1 := ⟨f - 1, by omega⟩
    have hE : y = 0 := hE
    subst hE
    show (if (100 : Int32) ≤ nI i then _ else (if (lg_cmp (nL 0) (0 : Int64)) = 0 then _ else _)) = _
    rw [if_pos ((nL_cmp (by omega)).2 rfl), ite_self]
    exact fin x (by omega) hx
  | succ k ih =>
    intro f i x y hE hi hf hp hx hy
    obtain ⟨f, rfl⟩ : ∃ f0, f = f0 + 1 := ⟨f - 1, by omega⟩
    have h1 : ¬ (100 : Int32) ≤ nI i := fun e => by
      have := (z_nI_le (i := 100) (j := i) (by omega) (by omega)).1 e
      omega
    show (if (100 : Int32) ≤ nI i then _ else (if (lg_cmp (nL y) (0 : Int64)) = 0 then _ else (if nL y = 0 then none else (L_X8_leastTerm_26 f (nL u) (nL b) h (nL y) (nL x - nL x / nL y * nL y) (nI i + (1 : Int32)))))) = _
    rw [if_neg h1]
    unfold zEu
    by_cases c : y = 0
    · rw [if_pos ((nL_cmp hy).2 c), if_pos c]; exact fin x (by omega) hx
    · have e0 : ¬ nL y = (0 : Int64) := fun e => c ((nL_inj (j := 0) hy (by omega)).1 e)
      rw [if_neg (fun e => c ((nL_cmp hy).1 e)), if_neg e0, if_neg c, nL_rem hx (by omega) hy, show nI i + (1 : Int32) = nI (i + 1) from z_nI_succ i]
      exact ih f (i + 1) y (x % y) (hE.resolve_left c) (by omega) (by omega) (by omega) hy (Nat.lt_trans (Nat.mod_lt _ (by omega)) hy)
theorem z9_gcd {u b : Nat} {h : Int32} : ∀ (k f x y : Nat), zEn k x y → k < f → 0 < x + y → x < 9223372036854775808 → y < 9223372036854775808 → L_X9_least_6 f (nL u) (nL b) h (nL x) (nL y) = some (zTm u b (zEu k x y) h) := by
  have fin : ∀ x, 0 < x → x < 9223372036854775808 → (if h = 0 then (if nL x = 0 then none else (some (nL u / nL x))) else (if nL x = 0 then none else (some (nL b / nL x)))) = some (zTm u b x h) := fun x hx hx2 => by
    have e0 : ¬ nL x = (0 : Int64) := fun e => by
      have := (nL_inj (j := 0) hx2 (by omega)).1 e
      omega
    rw [if_neg e0, if_neg e0]
    unfold zTm
    split <;> rfl
  intro k
  induction k with
  | zero =>
    intro f x y hE hf hp hx hy
    obtain ⟨f, rfl⟩ : ∃ f0, f = f0 + 1 := ⟨f - 1, by omega⟩
    have hE : y = 0 := hE
    subst hE
    show (if (lg_cmp (nL 0) (0 : Int64)) = 0 then _ else (if nL 0 = 0 then none else (L_X9_least_6 f (nL u) (nL b) h (nL 0) (nL x - nL x / nL 0 * nL 0)))) = _
    rw [if_pos ((nL_cmp (by omega)).2 rfl)]
    exact fin x (by omega) hx
  | succ k ih =>
    intro f x y hE hf hp hx hy
    obtain ⟨f, rfl⟩ : ∃ f0, f = f0 + 1 := ⟨f - 1, by omega⟩
    show (if (lg_cmp (nL y) (0 : Int64)) = 0 then _ else (if nL y = 0 then none else (L_X9_least_6 f (nL u) (nL b) h (nL y) (nL x - nL x / nL y * nL y)))) = _
    unfold zEu
    by_cases c : y = 0
    · rw [if_pos ((nL_cmp hy).2 c), if_pos c]; exact fin x (by omega) hx
    · have e0 : ¬ nL y = (0 : Int64) := fun e => c ((nL_inj (j := 0) hy (by omega)).1 e)
      rw [if_neg (fun e => c ((nL_cmp hy).1 e)), if_neg e0, if_neg c, nL_rem hx (by omega) hy]
      exact ih f y (x % y) (hE.resolve_left c) (by omega) (by omega) hy (Nat.lt_trans (Nat.mod_lt _ (by omega)) hy)
theorem z_least {u b : Nat} (hu : u < 9223372036854775808) (hb : 0 < b) (hb2 : b < 2 ^ 49) {h : Int32} (hh : h = nI 0 ∨ h = nI 1) : ∃ v, f_X8_leastTerm (nL u) (nL b) h = some v ∧ f_X9_least (nL u) (nL b) h = some v := by
  have hb3 : b < 9223372036854775808 := Nat.lt_trans hb2 (by decide)
  have hE := zEn_pow 49 u b hb2
  have h9 : f_X9_least (nL u) (nL b) h = some (zTm u b (zEu (2 * 49) u b) h) := z9_gcd (2 * 49) FU u b hE (by unfold FU; omega) (by omega) hu hb3
  refine ⟨_, ?_, h9⟩
  unfold f_X8_leastTerm
  by_cases c : u = 0
  · rw [if_pos ((nL_cmp hu).2 c)]
    subst c
    have e : zEu (2 * 49) 0 b = b := by
      show (if b = 0 then 0 else zEu 97 b (0 % b)) = b
      rw [if_neg (by omega), Nat.zero_mod]; rfl
    rw [e]
    unfold zTm
    rcases hh with rfl | rfl
    · rw [if_pos z_n00, if_pos z_n00, nL_quo (by omega) hb hb3, Nat.zero_div]; rfl
    · rw [if_neg z_n10, if_neg z_n10, nL_quo hb3 hb hb3, Nat.div_self hb]; rfl
  · rw [if_neg (fun e => c ((nL_cmp hu).1 e))]
    exact z8_gcd (2 * 49) FU 0 u b hE (by omega) (by unfold FU; omega) (by omega) hu hb3
