set_option linter.unusedVariables false
theorem z_shor {c x : Nat} (hc : c < 33554432) (hx : x < 32) : (nI c <<< (nI 5 &&& nI 31)) ||| nI x = nI (32 * c + x) := by
  apply Int32.toBitVec.inj
  show (BitVec.ofNat 32 c <<< (5 : Nat)) ||| BitVec.ofNat 32 x = BitVec.ofNat 32 (32 * c + x)
  apply BitVec.eq_of_toNat_eq
  rw [BitVec.toNat_or, BitVec.toNat_shiftLeft, BitVec.toNat_ofNat, BitVec.toNat_ofNat, BitVec.toNat_ofNat, Nat.mod_eq_of_lt (show c < 2 ^ 32 by omega), Nat.mod_eq_of_lt (show x < 2 ^ 32 by omega), Nat.mod_eq_of_lt (show 32 * c + x < 2 ^ 32 by omega), Nat.shiftLeft_eq, Nat.mod_eq_of_lt (show c * 2 ^ 5 < 2 ^ 32 by omega), Nat.mul_comm c]
  exact (Nat.two_pow_add_eq_or_of_lt (i := 5) hx c).symm
/-- a word as a number -/
def zWc (d : Nat → Nat) : Nat → Nat
  | 0 => 0
  | k + 1 => 32 * zWc d k + d k
def zWn (T : Nat → Nat) (q k : Nat) : Nat := if k ≤ 6 then zWc (fun j => T (q + j) - 96) k else 0
theorem zWc_lt {d : Nat → Nat} : ∀ k, (∀ j, j < k → d j < 32) → zWc d k < 32 ^ k := by
  intro k
  induction k with
  | zero => intro _; exact Nat.zero_lt_one
  | succ k ih =>
    intro h
    have h1 := ih fun j hj => h j (by omega)
    have h2 := h k (by omega)
    show 32 * zWc d k + d k < 32 ^ k * 32
    omega
theorem zWc_inj {d e : Nat → Nat} : ∀ k l, (∀ j, j < k → 1 ≤ d j ∧ d j < 32) → (∀ j, j < l → 1 ≤ e j ∧ e j < 32) → zWc d k = zWc e l → k = l ∧ ∀ j, j < k → d j = e j := by
  intro k
  induction k with
  | zero =>
    intro l _ he h
    cases l with
    | zero => exact ⟨rfl, fun j hj => absurd hj (by omega)⟩
    | succ l =>
      have h1 := he l (by omega)
      have h2 : 0 = 32 * zWc e l + e l := h
      omega
  | succ k ih =>
    intro l hd he h
    have h1 := hd k (by omega)
    cases l with
    | zero =>
      have h2 : 32 * zWc d k + d k = 0 := h
      omega
    | succ l =>
      have h3 := he l (by omega)
      have h2 : 32 * zWc d k + d k = 32 * zWc e l + e l := h
      obtain ⟨a, b⟩ := ih l (fun j hj => hd j (by omega)) (fun j hj => he j (by omega)) (by omega)
      refine ⟨by omega, fun j hj => ?_⟩
      by_cases c : j = k
      · subst c; subst a; omega
      · exact b j (by omega)
theorem zWc_congr {d e : Nat → Nat} : ∀ k, (∀ j, j < k → d j = e j) → zWc d k = zWc e k := by
  intro k
  induction k with
  | zero => intro _; rfl
  | succ k ih =>
    intro h
    show 32 * zWc d k + d k = 32 * zWc e k + e k
    rw [ih fun j hj => h j (by omega), h k (by omega)]
/-- the letters of a name -/
def zSb (i j : Nat) : Nat := ((SB.getD i []).getD j 0).toNatClampNeg
def zOf (i : Nat) : Nat := zWc (fun j => zSb i j - 96) (SL.getD i 0)
theorem zSb_all : ∀ i : Fin 18, 1 ≤ SL.getD i.val 0 ∧ SL.getD i.val 0 ≤ 6 ∧ ∀ j : Fin 6, j.val < SL.getD i.val 0 → 97 ≤ zSb i.val j.val ∧ zSb i.val j.val ≤ 122 ∧ (SB.getD i.val []).getD j.val 0 = nI (zSb i.val j.val) := by decide +kernel
theorem zOf_all : ∀ i : Fin 18, f_X9_of i.val = some (nI (zOf i.val)) ∧ 1 ≤ zOf i.val ∧ zOf i.val < 1073741824 := by decide +kernel
theorem zOf_inj : ∀ i j : Fin 18, zOf i.val = zOf j.val → i = j := by decide +kernel
theorem z9_of {i : Nat} (h : i < 18) : f_X9_of i = some (nI (zOf i)) := (zOf_all ⟨i, h⟩).1
theorem zSb_1 {i : Nat} (h : i < 18) : 1 ≤ SL.getD i 0 ∧ SL.getD i 0 ≤ 6 := ⟨(zSb_all ⟨i, h⟩).1, (zSb_all ⟨i, h⟩).2.1⟩
theorem zSb_2 {i j : Nat} (h : i < 18) (hj : j < SL.getD i 0) : 97 ≤ zSb i j ∧ zSb i j ≤ 122 ∧ (SB.getD i []).getD j 0 = nI (zSb i j) :=
  (zSb_all ⟨i, h⟩).2.2 ⟨j, by have := (zSb_1 h).2; omega⟩ hj
