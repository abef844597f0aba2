set_option linter.unusedVariables false
def bt (x : Int32) (p : Nat) : Bool := x.toBitVec.getLsbD p
theorem bt_ext {x y : Int32} (h : ∀ q, q < 32 → bt x q = bt y q) : x = y := by
  apply Int32.toBitVec_inj.1
  apply BitVec.eq_of_getLsbD_eq
  exact h
theorem bt_ge {x : Int32} {q : Nat} (h : 32 ≤ q) : bt x q = false := BitVec.getLsbD_of_ge _ _ h
theorem bt_zero (q : Nat) : bt 0 q = false := by simp [bt]
theorem bt_or (x y : Int32) (q : Nat) : bt (x ||| y) q = (bt x q || bt y q) := by simp [bt]
theorem bt_and (x y : Int32) (q : Nat) : bt (x &&& y) q = (bt x q && bt y q) := by simp [bt]
theorem bt_not (x : Int32) (q : Nat) : bt (x ^^^ -1) q = (decide (q < 32) && !bt x q) := by
  have : x ^^^ -1 = ~~~x := by simp
  rw [this]
  unfold bt
  rw [Int32.toBitVec_not, BitVec.getLsbD_not]
theorem z_sh {p : Nat} (h : p < 32) : (nI p &&& 31) = nI p := by
  have : ∀ p : Fin 32, (nI p &&& 31) = nI p := by decide
  exact this ⟨p, h⟩
theorem bt_shl {p : Nat} (h : p < 32) (q : Nat) : bt ((1 : Int32) <<< (nI p &&& 31)) q = decide (p = q) := by
  rcases Nat.lt_or_ge q 32 with h' | h'
  · have : ∀ p q : Fin 32, bt ((1 : Int32) <<< (nI p &&& 31)) q = decide (p.val = q.val) := by decide
    exact this ⟨p, h⟩ ⟨q, h'⟩
  · rw [bt_ge h']; simp; omega
theorem bt_one (q : Nat) : bt 1 q = decide (q = 0) := by
  rcases Nat.lt_or_ge q 32 with h' | h'
  · have : ∀ q : Fin 32, bt 1 q = decide (q.val = 0) := by decide
    exact this ⟨q, h'⟩
  · rw [bt_ge h']; simp; omega
theorem bt_shr (x : Int32) {p : Nat} (h : p < 32) : bt (x >>> (nI p &&& 31)) 0 = bt x p := by
  rw [z_sh h]
  unfold bt
  rw [Int32.toBitVec_shiftRight]
  have hm : ((nI p).toBitVec.smod 32) = BitVec.ofNat 32 p := by
    have : ∀ p : Fin 32, ((nI p).toBitVec.smod 32) = BitVec.ofNat 32 p := by decide
    exact this ⟨p, h⟩
  rw [hm]
  show (x.toBitVec.sshiftRight (BitVec.ofNat 32 p).toNat).getLsbD 0 = _
  rw [BitVec.getLsbD_sshiftRight, BitVec.toNat_ofNat, Nat.mod_eq_of_lt (by omega)]
  simp [h]

theorem z_bit (x : Int32) {p : Nat} (h : p < 32) : ((x >>> (nI p &&& 31)) &&& 1) = if bt x p then 1 else 0 := by
  apply bt_ext
  intro q hq
  rw [bt_and, bt_one]
  by_cases h0 : q = 0
  · subst h0; rw [bt_shr x h]; cases bt x p <;> simp [bt_zero, bt_one]
  · cases bt x p <;> simp [h0, bt_zero, bt_one]
def zb (p : Nat) : Int32 := (1 : Int32) <<< (nI p &&& 31)
theorem z_zb (p : Nat) : nI 1 <<< (nI p &&& nI 31) = zb p := rfl
theorem z_bitN (x : Int32) {p : Nat} (h : p < 32) : ((x >>> (nI p &&& nI 31)) &&& nI 1) = if bt x p then nI 1 else nI 0 := z_bit x h
theorem bt_notN (x : Int32) (q : Nat) : bt (x ^^^ -nI 1) q = (decide (q < 32) && !bt x q) := bt_not x q
theorem bt_zb {p : Nat} (h : p < 32) (q : Nat) : bt (zb p) q = decide (p = q) := bt_shl h q
theorem bt_nI0 (q : Nat) : bt (nI 0) q = false := bt_zero q
theorem z_has (x : Int32) {p : Nat} (h : p < 32) : f_X8_has x (nI p) = some (if bt x p then nI 1 else nI 0) := by
  unfold f_X8_has; rw [z_bit x h]; cases bt x p <;> rfl
