set_option linter.unusedVariables false
/-- how many ways: the reference's row of ways, i votes turned by q of 16 -/
def zW (q : Nat) : Nat → Nat → Nat
  | 0, j => if j = 0 then 1 else 0
  | i + 1, j => zW q i j * (16 - q) + (if j = 0 then 0 else zW q i (j - 1) * q)
def zCh : Nat → Nat → Nat
  | 0, j => if j = 0 then 1 else 0
  | i + 1, j => zCh i j + (if j = 0 then 0 else zCh i (j - 1))
theorem zCh_big : ∀ i j, i < j → zCh i j = 0
  | 0, j, h => if_neg (by omega)
  | i + 1, j, h => by
    unfold zCh
    rw [zCh_big i j (by omega), if_neg (by omega), zCh_big i (j - 1) (by omega)]
theorem zW_big (q : Nat) : ∀ i j, i < j → zW q i j = 0
  | 0, j, h => if_neg (by omega)
  | i + 1, j, h => by
    unfold zW
    rw [zW_big q i j (by omega), if_neg (by omega), zW_big q i (j - 1) (by omega)]; simp
theorem zW_eq (q : Nat) : ∀ i j, j ≤ i → zW q i j = zCh i j * q ^ j * (16 - q) ^ (i - j)
  | 0, j, h => by
    have : j = 0 := by omega
    subst this
    simp [zW, zCh]
  | i + 1, j, h => by
    unfold zW zCh
    by_cases h0 : j = 0
    · subst h0
      rw [if_pos rfl, if_pos rfl, zW_eq q i 0 (by omega)]
      simp [Nat.pow_succ, Nat.mul_assoc]
    · rw [if_neg h0, if_neg h0, zW_eq q i (j - 1) (by omega)]
      have e2 : zCh i (j - 1) * q ^ (j - 1) * (16 - q) ^ (i - (j - 1)) * q = zCh i (j - 1) * q ^ j * (16 - q) ^ (i + 1 - j) := by
        have ej : j = j - 1 + 1 := by omega
        have e3 : i - (j - 1) = i + 1 - j := by omega
        rw [e3]
        have e4 : q ^ j = q ^ (j - 1) * q := by rw [← Nat.pow_succ]; congr 1
        rw [e4]
        simp only [Nat.mul_assoc, Nat.mul_comm, Nat.mul_left_comm]
      rw [e2]
      by_cases h1 : j = i + 1
      · subst h1
        rw [zW_big q i (i + 1) (by omega), zCh_big i (i + 1) (by omega)]
        simp
      · rw [zW_eq q i j (by omega)]
        have e5 : zCh i j * q ^ j * (16 - q) ^ (i - j) * (16 - q) = zCh i j * q ^ j * (16 - q) ^ (i + 1 - j) := by
          rw [Nat.mul_assoc, ← Nat.pow_succ]; congr 2; omega
        rw [e5, ← Nat.add_mul, ← Nat.add_mul]
theorem z8_power (x : Nat) (m : Nat) (hm : m < 1000) : f_X8_power (nL x) (nI m) = some (nL (x ^ m)) := by
  have h := z_loop (fun f i a => L_X8_power_5 f (nL x) (nI m) a i) (fun _ a => a * nL x) some m ?_ ?_ m 0 FU (nL 1) (by omega) (by unfold FU; omega)
  · refine h.trans ?_
    have : ∀ k, zF (fun _ a => a * nL x) k 0 (nL 1) = nL (x ^ k) := fun k => by
      induction k with
      | zero => rfl
      | succ k ih => rw [zF_snoc, ih, nL_mul, Nat.pow_succ]
    rw [this]
  · intro f i a h
    subst h
    simp (discharger := omega) only [L_X8_power_5, z_lit, z_nI_le, z_nI_lt, z_nI_inj, z_inb, z_nI_tn, z_nI_add, z_nI_mul, z_bitN, z_zb, z_0add, z_add0, z_0or, z_or0, Option.bind_some, decide_eq_true_eq, Nat.zero_add, Nat.add_zero, Nat.le_refl, ↓reduceIte]
  · intro f i a h
    have h1 : ¬ m ≤ i := by omega
    simp (discharger := omega) only [L_X8_power_5, h1, z_lit, z_nI_le, z_nI_lt, z_nI_inj, z_inb, z_nI_tn, z_nI_add, z_nI_mul, z_bitN, z_zb, z_0add, z_add0, z_0or, z_or0, Option.bind_some, decide_eq_true_eq, Nat.zero_add, Nat.add_zero, ↓reduceIte]
theorem z8_ways : ∀ n k, n ≤ 12 → k ≤ n → f_X8_waysToTake (nI k) (nI n) = some (nL (zCh n k)) := by
  have : ∀ n : Fin 13, ∀ k : Fin 13, k.val ≤ n.val → f_X8_waysToTake (nI k) (nI n) = some (nL (zCh n k)) := by decide +kernel
  intro n k hn hk
  exact this ⟨n, by omega⟩ ⟨k, by omega⟩ hk
/-- how likely k or more are, above: the sum from k on -/
def zUp (q n k : Nat) : Nat → Nat
  | 0 => 0
  | j + 1 => zUp q n k j + zW q n (k + j)
theorem zUp_more (q n k : Nat) : ∀ j m, n < k + j → zUp q n k (j + m) = zUp q n k j
  | j, 0, _ => rfl
  | j, m + 1, h => by
    show zUp q n k (j + m) + zW q n (k + (j + m)) = _
    rw [zUp_more q n k j m h, zW_big q n _ (by omega), Nat.add_zero]
theorem zW_sum (q : Nat) (hq : q ≤ 16) : ∀ i m, nS m (fun j => zW q i j) ≤ 16 ^ i
  | 0, m => by
    have : ∀ m, nS m (fun j => zW q 0 j) ≤ 1 := fun m => by
      induction m with
      | zero => exact Nat.zero_le _
      | succ m ih =>
        rw [nS]
        by_cases h : m = 0
        · subst h; show (0 : Nat) + 1 ≤ 1; omega
        · have : zW q 0 m = 0 := if_neg h
          omega
    exact this m
  | i + 1, m => by
    have hstep : ∀ m, nS m (fun j => zW q (i + 1) j) ≤ nS m (fun j => zW q i j) * (16 - q) + nS m (fun j => zW q i j) * q ∧ (∀ m', m = m' + 1 → nS m (fun j => zW q (i + 1) j) = nS m (fun j => zW q i j) * (16 - q) + nS m' (fun j => zW q i j) * q) := fun m => by
      induction m with
      | zero => exact ⟨Nat.zero_le _, fun m' h => absurd h (by omega)⟩
      | succ m ih =>
        have e : nS (m + 1) (fun j => zW q (i + 1) j) = nS (m + 1) (fun j => zW q i j) * (16 - q) + nS m (fun j => zW q i j) * q := by
          rw [nS, nS]
          have ew : zW q (i + 1) m = zW q i m * (16 - q) + (if m = 0 then 0 else zW q i (m - 1) * q) := rfl
          rw [ew]
          cases m with
          | zero => simp [nS]
          | succ m =>
            have n1 : nS (m + 1) (fun j => zW q i j) = nS m (fun j => zW q i j) + zW q i m := rfl
            rw [ih.2 m rfl, if_neg (by omega), Nat.add_sub_cancel, n1]
            simp only [Nat.add_mul]
            omega
        refine ⟨?_, fun m' h => ?_⟩
        · rw [e]
          have : nS m (fun j => zW q i j) ≤ nS (m + 1) (fun j => zW q i j) := by rw [nS]; omega
          have := Nat.mul_le_mul_right q this
          omega
        · have : m' = m := by omega
          rw [this]; exact e
    have h1 := (hstep m).1
    have h2 := zW_sum q hq i m
    have h3 : nS m (fun j => zW q i j) * (16 - q) + nS m (fun j => zW q i j) * q = nS m (fun j => zW q i j) * 16 := by
      rw [← Nat.mul_add]; congr 1; omega
    have h4 := Nat.mul_le_mul_right 16 h2
    rw [Nat.pow_succ]; omega
theorem zUp_le (q n k : Nat) : ∀ j, zUp q n k j ≤ nS (k + j) (fun j => zW q n j)
  | 0 => Nat.zero_le _
  | j + 1 => by
    have := zUp_le q n k j
    show zUp q n k j + zW q n (k + j) ≤ nS (k + j + 1) _
    rw [nS]; omega
