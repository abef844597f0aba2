set_option linter.unusedVariables false
theorem bt_sar (x : Int32) {p q : Nat} (hp : p < 32) (hq : p + q < 32) : bt (x >>> (nI p &&& 31)) q = bt x (p + q) := by
  rw [z_sh hp]
  unfold bt
  rw [Int32.toBitVec_shiftRight]
  have hm : ((nI p).toBitVec.smod 32) = BitVec.ofNat 32 p := by
    have : ∀ p : Fin 32, ((nI p).toBitVec.smod 32) = BitVec.ofNat 32 p := by decide
    exact this ⟨p, hp⟩
  rw [hm]
  show (x.toBitVec.sshiftRight (BitVec.ofNat 32 p).toNat).getLsbD q = _
  rw [BitVec.getLsbD_sshiftRight, BitVec.toNat_ofNat, Nat.mod_eq_of_lt (by omega)]
  have h1 : ¬ 32 ≤ q := by omega
  simp [h1, hq]
def zLsr (x k : Int32) : Int32 := ((Int32.toUInt32 x) >>> ((Int32.toUInt32 k) &&& Int32.toUInt32 31)).toInt32
theorem bt_lsr (x : Int32) {p : Nat} (hp : p < 32) (q : Nat) : bt (zLsr x (nI p)) q = bt x (p + q) := by
  have hm : ((Int32.toUInt32 (nI p)) &&& Int32.toUInt32 31).toBitVec % 32#32 = BitVec.ofNat 32 p := by
    have : ∀ p : Fin 32, ((Int32.toUInt32 (nI p)) &&& Int32.toUInt32 31).toBitVec % 32#32 = BitVec.ofNat 32 p := by decide
    exact this ⟨p, hp⟩
  unfold zLsr bt
  show ((Int32.toUInt32 x) >>> ((Int32.toUInt32 (nI p)) &&& Int32.toUInt32 31)).toBitVec.getLsbD q = _
  rw [UInt32.toBitVec_shiftRight]
  show ((Int32.toUInt32 x).toBitVec >>> (((Int32.toUInt32 (nI p)) &&& Int32.toUInt32 31).toBitVec % 32#32)).getLsbD q = _
  rw [hm]
  show (x.toBitVec >>> (BitVec.ofNat 32 p).toNat).getLsbD q = _
  rw [BitVec.getLsbD_ushiftRight, BitVec.toNat_ofNat, Nat.mod_eq_of_lt (by omega)]
theorem z_smallM {x : Int32} {m : Nat} (hm : m < 32) (h : ∀ q, bt x q = true → q < m) : ∃ v, v < 2 ^ m ∧ x = nI v := by
  refine ⟨x.toBitVec.toNat, ?_, ?_⟩
  · apply Nat.lt_pow_two_of_testBit (n := m)
    intro i hi
    cases hb : x.toBitVec.toNat.testBit i
    · rfl
    · exact absurd (h i hb) (by omega)
  · unfold nI
    apply Int32.toBitVec_inj.1
    rw [Int32.toBitVec_ofNat', BitVec.ofNat_toNat, BitVec.setWidth_eq]
theorem bt_255 (q : Nat) : bt (255 : Int32) q = decide (q < 8) := by
  rcases Nat.lt_or_ge q 32 with h | h
  · have : ∀ q : Fin 32, bt (255 : Int32) q = decide (q.val < 8) := by decide
    exact this ⟨q, h⟩
  · rw [bt_ge h]; simp; omega
theorem bt_32767 (q : Nat) : bt (32767 : Int32) q = decide (q < 15) := by
  rcases Nat.lt_or_ge q 32 with h | h
  · have : ∀ q : Fin 32, bt (32767 : Int32) q = decide (q.val < 15) := by decide
    exact this ⟨q, h⟩
  · rw [bt_ge h]; simp; omega
theorem z_shift255 (x : Int32) {p : Nat} (hp : p ≤ 24) : (zLsr x (nI p) &&& 255) = ((x >>> (nI p &&& 31)) &&& 255) := by
  refine bt_ext fun q _ => ?_
  rw [bt_and, bt_and, bt_255]
  by_cases c : q < 8
  · rw [bt_lsr x (by omega), bt_sar x (by omega) (by omega)]
  · simp [c]
theorem z_byte (x : Int32) : ∃ v, v < 256 ∧ (x &&& 255) = nI v := by
  obtain ⟨v, h1, h2⟩ := z_smallM (x := x &&& 255) (m := 8) (by omega) (fun q h => by rw [bt_and, bt_255] at h; simp at h; omega)
  exact ⟨v, h1, h2⟩
theorem z_shift15 (x : Int32) : (zLsr x (nI 16) &&& 32767) = ((x >>> (nI 16 &&& 31)) &&& 32767) := by
  refine bt_ext fun q _ => ?_
  rw [bt_and, bt_and, bt_32767]
  by_cases c : q < 15
  · rw [bt_lsr x (by omega), bt_sar x (by omega) (by omega)]
  · simp [c]
theorem z_15 (x : Int32) : ∃ v, v < 32768 ∧ (x &&& 32767) = nI v := by
  obtain ⟨v, h1, h2⟩ := z_smallM (x := x &&& 32767) (m := 15) (by omega) (fun q h => by rw [bt_and, bt_32767] at h; simp at h; omega)
  exact ⟨v, h1, h2⟩
/-- the next seed, and what is drawn by it -/
def zSd (x : Int32) : Int32 := x * 1103515245 + 12345
theorem z_drawn (Y : TX) {m : Nat} (h0 : 0 < m) (hm : m < 100) : ∃ v, v < m ∧ f_X5_drawn Y (nI m) = some (u2 Y 34 4 (zSd (Y 34 4)), nI v) ∧ ∀ M : TX, M 0 48 = Y 34 4 → f_X9_draws M (nI m) = some (u2 M 0 48 (zSd (M 0 48)), nI v) := by
  obtain ⟨v, hv, ev⟩ := z_15 ((zSd (Y 34 4)) >>> (nI 16 &&& 31))
  have e1 : zLsr (zSd (Y 34 4)) (nI 16) &&& 32767 = nI v := (z_shift15 _).trans ev
  have c0 : ¬ nI m ≤ (0 : Int32) := fun e => by
    have := (z_nI_le (i := m) (j := 0) (by omega) (by omega)).1 e
    omega
  have c1 : ¬ nI m = (0 : Int32) := fun e => by
    have := (z_nI_inj (i := m) (j := 0) (by omega) (by omega)).1 e
    omega
  have er : nI v - nI v / nI m * nI m = nI (v % m) := z_rem (by omega) h0 (by omega)
  refine ⟨v % m, Nat.mod_lt _ h0, ?_, fun M hM => ?_⟩
  · have es : u2 Y 34 4 (zSd (Y 34 4)) 34 4 = zSd (Y 34 4) := z_u2s _ _ _ _
    unfold f_X5_drawn
    rw [if_neg c0, if_neg c1]
    show some (u2 Y 34 4 (zSd (Y 34 4)), (zLsr (u2 Y 34 4 (zSd (Y 34 4)) 34 4) (nI 16) &&& 32767) - (zLsr (u2 Y 34 4 (zSd (Y 34 4)) 34 4) (nI 16) &&& 32767) / nI m * nI m) = _
    rw [es, e1, er]
  · have es : u2 M 0 48 (zSd (M 0 48)) 0 48 = zSd (M 0 48) := z_u2s _ _ _ _
    unfold f_X9_draws
    rw [if_neg c1]
    show some (u2 M 0 48 (zSd (M 0 48)), (((u2 M 0 48 (zSd (M 0 48)) 0 48) >>> (nI 16 &&& 31)) &&& 32767) - (((u2 M 0 48 (zSd (M 0 48)) 0 48) >>> (nI 16 &&& 31)) &&& 32767) / nI m * nI m) = _
    rw [es, hM, ev, er]
