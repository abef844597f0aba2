set_option linter.unusedVariables false
def nS : Nat → (Nat → Nat) → Nat
  | 0, _ => 0
  | n + 1, f => nS n f + f n
theorem nS_congr {f g : Nat → Nat} : ∀ {n : Nat}, (∀ p, p < n → f p = g p) → nS n f = nS n g
  | 0, _ => rfl
  | n + 1, h => by rw [nS, nS, nS_congr fun p hp => h p (by omega), h n (by omega)]
theorem nS_add (f g : Nat → Nat) : ∀ n, nS n (fun p => f p + g p) = nS n f + nS n g
  | 0 => rfl
  | n + 1 => by rw [nS, nS, nS, nS_add f g n]; omega
theorem nS_le {f : Nat → Nat} {B : Nat} : ∀ {n : Nat}, (∀ p, p < n → f p ≤ B) → nS n f ≤ n * B
  | 0, _ => by simp [nS]
  | n + 1, h => by
    have := nS_le (f := f) (n := n) fun p hp => h p (by omega)
    have := h n (by omega)
    rw [nS, Nat.succ_mul]; omega
theorem nS_more {f : Nat → Nat} {n : Nat} (h : ∀ p, n ≤ p → f p = 0) : ∀ k, nS (n + k) f = nS n f
  | 0 => rfl
  | k + 1 => by rw [← Nat.add_assoc, nS, nS_more h k, h (n + k) (by omega), Nat.add_zero]
theorem zCnt_nS (x : Int32) : ∀ n, zCnt n x = nS n fun q => (bt x q).toNat
  | 0 => rfl
  | n + 1 => by rw [zCnt, nS, zCnt_nS x n]
theorem zSum_nS {g : Nat → Int32} {f : Nat → Nat} : ∀ {n : Nat}, (∀ p, p < n → g p = nI (f p)) → zSum n g = nI (nS n f)
  | 0, _ => rfl
  | n + 1, h => by rw [zSum_succ, zSum_nS fun p hp => h p (by omega), h n (by omega), z_nI_add]; rfl
theorem z_small {x : Int32} (h : ∀ q, bt x q = true → q < 10) : ∃ v, v < 1024 ∧ x = nI v := by
  refine ⟨x.toBitVec.toNat, ?_, ?_⟩
  · apply Nat.lt_pow_two_of_testBit (n := 10)
    intro i hi
    cases hb : x.toBitVec.toNat.testBit i
    · rfl
    · exact absurd (h i hb) (by omega)
  · unfold nI
    apply Int32.toBitVec_inj.1
    rw [Int32.toBitVec_ofNat', BitVec.ofNat_toNat, BitVec.setWidth_eq]
theorem z_bc {x : Int32} (h : ∀ q, bt x q = true → q < 10) : f_J6_bitCount_0f7a4 x = some (nI (zCnt 10 x)) := by
  obtain ⟨v, hv, rfl⟩ := z_small h
  have : ∀ v : Fin 1024, f_J6_bitCount_0f7a4 (nI v) = some (nI (zCnt 10 (nI v))) := by decide +kernel
  exact this ⟨v, hv⟩
theorem z9_ones (x : Int32) : f_X9_ones x = some (nI (zCnt 10 x)) := by
  have e : nI (zCnt 10 x) = zSum 10 fun p => if bt x p then nI 1 else nI 0 := by
    rw [zCnt_nS]
    refine (zSum_nS fun p _ => ?_).symm
    cases bt x p <;> rfl
  rw [e]
  refine z_loop (fun f i a => L_X9_ones_4 f x a i) (fun p a => a + if bt x p then nI 1 else nI 0) some 10 ?_ ?_ 10 0 FU (nI 0) (by omega) (by unfold FU; omega)
  · intro f i a h
    subst h
    simp (discharger := omega) only [L_X9_ones_4, z_lit, z_nI_le, z_nI_lt, z_nI_inj, z_inb, z_nI_tn, z_nI_add, z_nI_mul, z_bitN, z_zb, z_0add, z_add0, z_0or, z_or0, Option.bind_some, decide_eq_true_eq, Nat.zero_add, Nat.add_zero, Nat.le_refl, if_true]
  · intro f i a h
    have h1 : ¬ 10 ≤ i := by omega
    simp (discharger := omega) only [L_X9_ones_4, z_lit, z_nI_le, z_nI_lt, z_nI_inj, z_inb, z_nI_tn, z_nI_add, z_nI_mul, z_bitN, z_zb, z_0add, z_add0, z_0or, z_or0, Option.bind_some, decide_eq_true_eq, Nat.zero_add, Nat.add_zero, h1, if_false]
/-- two parishes with a road over a line -/
def zEg (r w : Nat → Int32) (a b : Nat) : Bool := bt (r a) b && decide (w a ≠ w b)
/-- roads: within the parishes, both ways, none to itself -/
def zRd (n : Nat) (r : Nat → Int32) : Prop := (∀ a, a < n → ∀ b, bt (r a) b = true → b < n) ∧ (∀ a b, a < n → b < n → bt (r a) b = bt (r b) a) ∧ ∀ a, a < n → bt (r a) a = false
theorem zEg_half {r w : Nat → Int32} {N : Nat} (hr : zRd N r) : ∀ n, n ≤ N → nS n (fun a => nS n fun b => (zEg r w a b).toNat) = 2 * nS n (fun a => nS a fun b => (zEg r w a b).toNat)
  | 0, _ => rfl
  | n + 1, hn => by
    have e : ∀ a, a < n → (zEg r w a n).toNat = (zEg r w n a).toNat := fun a ha => by
      unfold zEg; rw [hr.2.1 a n (by omega) (by omega)]
      by_cases h : w a = w n
      · simp [h]
      · have h' : ¬ w n = w a := fun e => h e.symm
        simp [h, h']
    have e0 : (zEg r w n n).toNat = 0 := by unfold zEg; rw [hr.2.2 n (by omega)]; rfl
    have ih := zEg_half (w := w) hr n (by omega)
    rw [nS, nS, nS]
    have h1 : nS n (fun a => nS (n + 1) fun b => (zEg r w a b).toNat) = nS n (fun a => nS n fun b => (zEg r w a b).toNat) + nS n (fun a => (zEg r w n a).toNat) := by
      rw [← nS_add]
      exact nS_congr fun a ha => by rw [nS, e a ha]
    rw [h1, e0, ih]; omega
def zLines (r w : Nat → Int32) (n : Nat) : Nat := nS n fun a => nS a fun b => (zEg r w a b).toNat
theorem zLines_le (r w : Nat → Int32) {n : Nat} (h10 : n ≤ 10) : zLines r w n ≤ 100 := by
  have : ∀ a, a < n → nS a (fun b => (zEg r w a b).toNat) ≤ 10 := fun a ha => by
    have := nS_le (f := fun b => (zEg r w a b).toNat) (B := 1) (n := a) fun p _ => by cases zEg r w a p <;> decide
    omega
  have := nS_le (f := fun a => nS a fun b => (zEg r w a b).toNat) this
  unfold zLines; omega
theorem z_div2 {v : Nat} (h : v < 2147483648) : nI v / 2 = nI (v / 2) := by
  apply Int32.toInt_inj.1
  rw [Int32.toInt_div_of_ne_right _ _ (by decide), z_nI_toInt h, z_nI_toInt (by omega)]
  rfl
theorem z3_lines {X : TX} {n : Nat} (hn : X 3 5 = nI n) (h10 : n ≤ 10) (hw : zWs n (X 4)) {v0 v1 : Nat → Int32} (hT : zTal n (X 4) v0 v1 (X 9) (X 10)) (hr : zRd n (X 6)) : f_X3_lines X = some (nI (zLines (X 6) (X 4) n)) := by
  have hb : ∀ p, p < n → ∀ d, d < 4 → X 4 p = nI d → (∀ q, bt (X 6 p &&& (X 9 d ^^^ -nI 1)) q = (decide (q < n) && zEg (X 6) (X 4) p q)) := fun p hp d hd hwp q => by
    rw [bt_and, bt_notN, (hT d hd).1, bt_zSet (by omega)]
    unfold zEg
    rw [hwp]
    cases h : bt (X 6 p) q
    · simp
    · have h1 := hr.1 p hp q h
      have h2 : q < 32 := by omega
      by_cases h3 : X 4 q = nI d
      · simp [h1, h3]
      · have h4 : ¬ nI d = X 4 q := fun e => h3 e.symm
        simp [h1, h2, h3, h4]
  have h := z_loop (fun f i a => L_X3_lines_4 f X a i) (fun p a => a + nI (nS n fun q => (zEg (X 6) (X 4) p q).toNat)) (fun a => some (a / 2)) n ?_ ?_ n 0 FU (nI 0) (by omega) (by unfold FU; omega)
  · refine h.trans ?_
    have e : zF (fun p a => a + nI (nS n fun q => (zEg (X 6) (X 4) p q).toNat)) n 0 (nI 0) = nI (nS n fun p => nS n fun q => (zEg (X 6) (X 4) p q).toNat) := zSum_nS fun p _ => rfl
    have hl := zLines_le (X 6) (X 4) h10
    rw [e, zEg_half hr n (Nat.le_refl _)]
    show some (nI (2 * zLines (X 6) (X 4) n) / 2) = _
    rw [z_div2 (by omega), Nat.mul_div_cancel_left _ (by omega)]
  · intro f i a h
    subst h
    simp (discharger := omega) only [L_X3_lines_4, hn, z_lit, z_nI_le, z_nI_lt, z_nI_inj, z_inb, z_nI_tn, z_nI_add, z_nI_mul, z_bitN, z_zb, z_0add, z_add0, z_0or, z_or0, Option.bind_some, decide_eq_true_eq, Nat.zero_add, Nat.add_zero, Nat.le_refl, if_true]
  · intro f i a h
    have h1 : ¬ n ≤ i := by omega
    obtain ⟨d, hd, hwi⟩ := hw i h
    have a6 : f_X8_at 6 X (nI i) = some (X 6 i) := z_at (show i < 10 by omega) (by decide)
    have a4 : f_X8_at 4 X (nI i) = some (nI d) := by rw [z_at (show i < lenX 4 by show i < 10; omega) (by decide), hwi]
    have a9 : f_X8_at 9 X (nI d) = some (X 9 d) := z_at hd (by decide)
    have hx := hb i h d hd hwi
    have bc : f_J6_bitCount_0f7a4 (X 6 i &&& (X 9 d ^^^ -nI 1)) = some (nI (nS n fun q => (zEg (X 6) (X 4) i q).toNat)) := by
      rw [z_bc fun q hq => by rw [hx] at hq; simp at hq; omega, zCnt_nS]
      congr 2
      have e1 : (10 : Nat) = n + (10 - n) := by omega
      rw [e1, nS_more fun q hq => by rw [hx]; have : ¬ q < n := by omega
                                     simp [this]]
      exact nS_congr fun q hq => by rw [hx]; simp [hq]
    simp (discharger := omega) only [L_X3_lines_4, hn, z_lit, z_nI_le, z_nI_lt, z_nI_inj, z_inb, z_nI_tn, z_nI_add, z_nI_mul, z_bitN, z_zb, z_0add, z_add0, z_0or, z_or0, Option.bind_some, decide_eq_true_eq, Nat.zero_add, Nat.add_zero, h1, if_false, a6, a4, a9, bc]
