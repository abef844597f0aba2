set_option linter.unusedVariables false
/-- what is left of a parish's ward without it -/
def zOth (w : Nat → Int32) (n p : Nat) : Int32 := zSet n w (w p) &&& (zb p ^^^ -nI 1)
def zHang (r : Nat → Int32) (n : Nat) (S : Int32) : Bool := decide (zIt r S n n (S &&& -S) = S)
def zMay (r w : Nat → Int32) (n p : Nat) (d : Int32) : Bool :=
  decide (w p ≠ d) && decide (r p &&& zSet n w d ≠ nI 0) && decide (zOth w n p ≠ nI 0) && zHang r n (zOth w n p)
theorem z9_hangs24 {M : TX} {n : Nat} (hn : M 0 19 = nI n) (h10 : n ≤ 10) (k : TX → Int32 → Int32 → Int32 → Option Int32) (S x rd : Int32) :
    L_X9_hangs_24 k FU M S x rd (nI 0) = k M S (zPass (M 7) S n x) (rd + nI 1) := by
  refine z_loop (fun f i a => L_X9_hangs_24 k f M S a rd i) (fun p x => if bt x p then x ||| (M 7 p &&& S) else x) (fun y => k M S y (rd + nI 1)) n ?_ ?_ n 0 FU x (by omega) (by unfold FU; omega)
  · intro f i a h
    subst h
    simp (discharger := omega) only [L_X9_hangs_24, hn, z_lit, z_nI_le, z_nI_lt, z_nI_inj, z_inb, z_nI_tn, z_nI_add, z_nI_mul, z_bitN, z_zb, z_0add, z_add0, z_0or, z_or0, Option.bind_some, decide_eq_true_eq, Nat.zero_add, Nat.add_zero, Nat.le_refl, if_true]
  · intro f i a h
    have h1 : ¬ n ≤ i := by omega
    have h2 : i < 10 := by omega
    simp (discharger := omega) only [L_X9_hangs_24, hn, z_lit, z_nI_le, z_nI_lt, z_nI_inj, z_inb, z_nI_tn, z_nI_add, z_nI_mul, z_bitN, z_zb, z_0add, z_add0, z_0or, z_or0, Option.bind_some, decide_eq_true_eq, Nat.zero_add, Nat.add_zero, h1, h2, if_false, if_true]
    cases bt a i
    · have : ¬ (0 : Nat) = 1 := by omega
      simp (discharger := omega) only [if_false, z_lit, z_nI_le, z_nI_lt, z_nI_inj, z_inb, z_nI_tn, z_nI_add, z_nI_mul, z_bitN, z_zb, z_0add, z_add0, z_0or, z_or0, Option.bind_some, decide_eq_true_eq, Nat.zero_add, Nat.add_zero, if_true, Bool.false_eq_true, this]
    · simp (discharger := omega) only [if_false, z_lit, z_nI_le, z_nI_lt, z_nI_inj, z_inb, z_nI_tn, z_nI_add, z_nI_mul, z_bitN, z_zb, z_0add, z_add0, z_0or, z_or0, Option.bind_some, decide_eq_true_eq, Nat.zero_add, Nat.add_zero, if_true]
theorem z9_hangs {M : TX} {n : Nat} (hn : M 0 19 = nI n) (h10 : n ≤ 10) (S : Int32) : f_X9_hangs M S = some (if S = nI 0 ∨ zHang (M 7) n S = true then nI 1 else nI 0) := by
  have : ∀ k f x, k ≤ n → k < f → L_X9_hangs_13 f M S x (nI (n - k)) = some (if zIt (M 7) S n k x = S then nI 1 else nI 0) := fun k => by
    induction k with
    | zero =>
      intro f x _ hf
      obtain ⟨f, rfl⟩ : ∃ f', f = f' + 1 := ⟨f - 1, by omega⟩
      change _ = some (if x = S then nI 1 else nI 0)
      simp (discharger := omega) only [L_X9_hangs_13, hn, z_lit, z_nI_le, z_nI_lt, z_nI_inj, z_inb, z_nI_tn, z_nI_add, z_nI_mul, z_bitN, z_zb, z_0add, z_add0, z_0or, z_or0, Option.bind_some, decide_eq_true_eq, Nat.zero_add, Nat.add_zero, Nat.sub_zero, Nat.le_refl, if_true]
      by_cases h : x = S
      · rw [if_pos h, if_pos h]
      · rw [if_neg h, if_neg h]
    | succ k ih =>
      intro f x hk hf
      obtain ⟨f, rfl⟩ : ∃ f', f = f' + 1 := ⟨f - 1, by omega⟩
      have h1 : ¬ n ≤ n - (k + 1) := by omega
      have h2 : n - (k + 1) + 1 = n - k := by omega
      change _ = some (if zIt (M 7) S n k (zPass (M 7) S n x) = S then nI 1 else nI 0)
      simp (discharger := omega) only [L_X9_hangs_13, hn, z_lit, z_nI_le, z_nI_lt, z_nI_inj, z_inb, z_nI_tn, z_nI_add, z_nI_mul, z_bitN, z_zb, z_0add, z_add0, z_0or, z_or0, Option.bind_some, decide_eq_true_eq, Nat.zero_add, Nat.add_zero, h1, if_false, z9_hangs24 hn h10, h2, ih f _ (show k ≤ n by omega) (show k < f by omega)]
  have h := this n FU (S &&& -S) (by omega) (by unfold FU; omega)
  rw [Nat.sub_self] at h
  unfold f_X9_hangs
  by_cases h0 : S = 0
  · have h0' : S = nI 0 := h0
    rw [if_pos h0, if_pos (.inl h0')]; rfl
  · have h0' : ¬ S = nI 0 := h0
    rw [if_neg h0]
    refine h.trans ?_
    unfold zHang
    by_cases h3 : zIt (M 7) S n n (S &&& -S) = S <;> simp [h3, h0']
theorem z9_mayCome {M : TX} {n : Nat} (hn : M 0 19 = nI n) (h10 : n ≤ 10) {p : Nat} (hp : p < n) (d : Int32) : f_X9_mayCome M (nI p) d = some (if zMay (M 7) (M 20) n p d = true then nI 1 else nI 0) := by
  have h1 : p < 34 := by omega
  have h2 : p < 10 := by omega
  unfold f_X9_mayCome
  simp (discharger := omega) only [z_lit, z_nI_le, z_nI_lt, z_nI_inj, z_inb, z_nI_tn, z_nI_add, z_nI_mul, z_bitN, z_zb, z_0add, z_add0, z_0or, z_or0, Option.bind_some, decide_eq_true_eq, Nat.zero_add, Nat.add_zero, h1, h2, if_true, z9_setOf hn h10, z9_hangs hn h10]
  unfold zMay zOth
  by_cases c1 : M 20 p = d
  · simp [c1]; 
  by_cases c2 : M 7 p &&& zSet n (M 20) d = nI 0
  · simp [c1, c2]
  by_cases c3 : zSet n (M 20) (M 20 p) &&& (zb p ^^^ -nI 1) = nI 0
  · simp [c1, c2, c3]
  have hz : ¬ (nI 1 = nI 0) := by decide
  cases c4 : zHang (M 7) n (zSet n (M 20) (M 20 p) &&& (zb p ^^^ -nI 1)) <;> simp [c1, c2, c3, c4, hz]
theorem bt_ne0 {x : Int32} : x ≠ nI 0 ↔ ∃ q, bt x q = true := by
  constructor
  · intro h
    obtain ⟨q, _, hq⟩ := z_ne_bit h
    rw [bt_nI0] at hq
    exact ⟨q, by simpa using hq⟩
  · rintro ⟨q, hq⟩ rfl
    rw [bt_nI0] at hq; cases hq
theorem zOth_bits {n : Nat} (h10 : n ≤ 10) (w : Nat → Int32) (p q : Nat) (h : bt (zOth w n p) q = true) : q < n := by
  unfold zOth at h
  rw [bt_and, bt_zSet (by omega)] at h
  by_cases hq : q < n
  · exact hq
  · simp [hq] at h
theorem zHang10 {r : Nat → Int32} {n : Nat} (h10 : n ≤ 10) {S : Int32} (hS : ∀ q, bt S q = true → q < n) : zIt r S n 10 (S &&& -S) = zIt r S n n (S &&& -S) := by
  have := zIt_more (r := r) (W := S) (n := n) (x := S &&& -S) hS (fun q h => hS q (by rw [bt_and] at h; exact (Bool.and_eq_true _ _ ▸ h).1)) (10 - n)
  rw [show n + (10 - n) = 10 by omega] at this
  exact this
theorem z3_roadsOverLine {X : TX} {p c : Nat} (hp : p < 10) (hc : c < 4) (hwp : X 4 p = nI c) : f_X3_roadsOverLine X (nI p) = some (X 6 p &&& (X 9 c ^^^ -nI 1)) := by
  have a6 : f_X8_at 6 X (nI p) = some (X 6 p) := z_at hp (by decide)
  have a4 : f_X8_at 4 X (nI p) = some (nI c) := by rw [z_at (show p < lenX 4 from hp) (by decide), hwp]
  have a9 : f_X8_at 9 X (nI c) = some (X 9 c) := z_at hc (by decide)
  unfold f_X3_roadsOverLine
  simp (discharger := omega) only [z_lit, z_nI_le, z_nI_lt, z_nI_inj, z_inb, z_nI_tn, z_nI_add, z_nI_mul, z_bitN, z_zb, z_0add, z_add0, z_0or, z_or0, Option.bind_some, decide_eq_true_eq, Nat.zero_add, Nat.add_zero, a6, a4, a9]
theorem z3_open57 {X : TX} (o : Int32) : ∃ y, L_X3_openWards_57 FU X o (nI 0) (nI 0) = some y ∧ ∀ q, bt y q = (decide (q < 4) && decide (o &&& X 9 q ≠ nI 0)) := by
  refine ⟨_, z_loop (fun f i a => L_X3_openWards_57 f X o a i) (fun d a => if o &&& X 9 d = nI 0 then a else a ||| zb d) some 4 ?_ ?_ 4 0 FU (nI 0) (by omega) (by unfold FU; omega), ?_⟩
  · intro f i a h
    subst h
    simp (discharger := omega) only [L_X3_openWards_57, z_lit, z_nI_le, z_nI_lt, z_nI_inj, z_inb, z_nI_tn, z_nI_add, z_nI_mul, z_bitN, z_zb, z_0add, z_add0, z_0or, z_or0, Option.bind_some, decide_eq_true_eq, Nat.zero_add, Nat.add_zero, Nat.le_refl, if_true]
  · intro f i a h
    have h1 : ¬ 4 ≤ i := by omega
    have a9 : f_X8_at 9 X (nI i) = some (X 9 i) := z_at h (by decide)
    simp (discharger := omega) only [L_X3_openWards_57, z_lit, z_nI_le, z_nI_lt, z_nI_inj, z_inb, z_nI_tn, z_nI_add, z_nI_mul, z_bitN, z_zb, z_0add, z_add0, z_0or, z_or0, Option.bind_some, decide_eq_true_eq, Nat.zero_add, Nat.add_zero, h1, if_false, a9]
    by_cases c : o &&& X 9 i = nI 0
    · rw [if_pos c, if_pos c]
    · rw [if_neg c, if_neg c]
  · refine zF_inv _ (fun i y => ∀ q, bt y q = (decide (q < i) && decide (o &&& X 9 q ≠ nI 0))) 4 0 (nI 0) (fun q => by simp [bt_nI0]) fun j a _ h2 hj q => ?_
    by_cases c : o &&& X 9 j = nI 0
    · rw [if_pos c, hj]
      by_cases e : q = j
      · subst e; simp [c]
      · have : q < j + 1 ↔ q < j := by omega
        simp [this]
    · rw [if_neg c, bt_or, bt_zb (by omega), hj]
      by_cases e : q = j
      · subst e; simp [c]
      · have h1 : q < j + 1 ↔ q < j := by omega
        have h2 : ¬ j = q := fun h => e h.symm
        simp [h1, h2]
theorem z3_openWards {X : TX} {n : Nat} (hn : X 3 5 = nI n) (h10 : n ≤ 10) (hw : zWs n (X 4)) {v0 v1 : Nat → Int32} (hT : zTal n (X 4) v0 v1 (X 9) (X 10)) {p : Nat} (hp : p < n) :
    ∃ o, f_X3_openWards X (nI p) = some o ∧ (∀ d, d < 4 → bt o d = zMay (X 6) (X 4) n p (nI d)) ∧ ∀ d, 4 ≤ d → bt o d = false := by
  obtain ⟨c, hc, hwp⟩ := hw p hp
  have hm := (hT c hc).1
  have a4 : f_X8_at 4 X (nI p) = some (nI c) := by rw [z_at (show p < lenX 4 by show p < 10; omega) (by decide), hwp]
  have a9 : f_X8_at 9 X (nI c) = some (X 9 c) := z_at hc (by decide)
  have ho : X 9 c &&& (zb p ^^^ -nI 1) = zOth (X 4) n p := by unfold zOth; rw [hm, hwp]
  have hr := z3_reached hn h10 (zOth (X 4) n p) (zOth (X 4) n p &&& -zOth (X 4) n p)
  rw [zHang10 h10 (zOth_bits h10 _ p)] at hr
  -- over the line to d
  have key : ∀ d, d < 4 → (X 6 p &&& (X 9 c ^^^ -nI 1) &&& X 9 d ≠ nI 0 ↔ (X 4 p ≠ nI d ∧ X 6 p &&& zSet n (X 4) (nI d) ≠ nI 0)) := fun d hd => by
    rw [(hT d hd).1, hm, bt_ne0, bt_ne0, hwp]
    have hb : ∀ q, bt (X 6 p &&& (zSet n (X 4) (nI c) ^^^ -nI 1) &&& zSet n (X 4) (nI d)) q = (bt (X 6 p) q && (decide (q < 32) && !(decide (q < n) && decide (X 4 q = nI c))) && (decide (q < n) && decide (X 4 q = nI d))) := fun q => by
      rw [bt_and, bt_and, bt_notN, bt_zSet (by omega), bt_zSet (by omega)]
    have hb2 : ∀ q, bt (X 6 p &&& zSet n (X 4) (nI d)) q = (bt (X 6 p) q && (decide (q < n) && decide (X 4 q = nI d))) := fun q => by
      rw [bt_and, bt_zSet (by omega)]
    simp only [hb, hb2]
    constructor
    · rintro ⟨q, hq⟩
      simp only [Bool.and_eq_true, decide_eq_true_eq, Bool.not_eq_true', Bool.and_eq_false_iff, decide_eq_false_iff_not] at hq
      obtain ⟨⟨h1, h2, h3⟩, h4, h5⟩ := hq
      refine ⟨fun e => ?_, q, by simp [h1, h4, h5]⟩
      rcases h3 with h3 | h3
      · exact h3 h4
      · exact h3 (h5.trans e.symm)
    · rintro ⟨e, q, hq⟩
      simp only [Bool.and_eq_true, decide_eq_true_eq] at hq
      obtain ⟨h1, h4, h5⟩ := hq
      refine ⟨q, ?_⟩
      have h6 : q < 32 := by omega
      have h7 : ¬ (nI d = nI c) := fun h => e h.symm
      simp [h1, h4, h5, h6, h7]
  unfold f_X3_openWards
  simp (discharger := omega) only [z_lit, z_nI_le, z_nI_lt, z_nI_inj, z_inb, z_nI_tn, z_nI_add, z_nI_mul, z_bitN, z_zb, z_0add, z_add0, z_0or, z_or0, Option.bind_some, decide_eq_true_eq, Nat.zero_add, Nat.add_zero, a4, a9, z3_roadsOverLine (show p < 10 by omega) hc hwp, ho, hr]
  by_cases c1 : X 6 p &&& (X 9 c ^^^ -nI 1) = nI 0
  · refine ⟨_, if_pos c1, fun d hd => ?_, fun d _ => bt_nI0 d⟩
    have hk : ¬ (X 4 p ≠ nI d ∧ X 6 p &&& zSet n (X 4) (nI d) ≠ nI 0) := fun h => (key d hd).2 h (by rw [c1]; apply bt_ext; intro q _; rw [bt_and, bt_nI0]; rfl)
    rw [bt_nI0]; unfold zMay
    by_cases e1 : X 4 p = nI d
    · simp [e1]
    · by_cases e2 : X 6 p &&& zSet n (X 4) (nI d) = nI 0
      · simp [e2]
      · exact absurd ⟨e1, e2⟩ hk
  rw [if_neg c1]
  by_cases c2 : zOth (X 4) n p = nI 0
  · refine ⟨_, if_pos c2, fun d hd => ?_, fun d _ => bt_nI0 d⟩
    rw [bt_nI0]; unfold zMay; simp [c2]
  rw [if_neg c2]
  by_cases c3 : zIt (X 6) (zOth (X 4) n p) n n (zOth (X 4) n p &&& -zOth (X 4) n p) = zOth (X 4) n p
  · rw [if_pos c3]
    obtain ⟨y, h1, h2⟩ := z3_open57 (X := X) (X 6 p &&& (X 9 c ^^^ -nI 1))
    refine ⟨y, h1, fun d hd => ?_, fun d hd => by rw [h2]; have : ¬ d < 4 := by omega
                                                  simp [this]⟩
    rw [h2]
    have hk := key d hd
    unfold zMay zHang
    by_cases e1 : X 4 p = nI d
    · have : ¬ (X 6 p &&& (X 9 c ^^^ -nI 1) &&& X 9 d ≠ nI 0) := fun h => ((hk.1 h).1) e1
      simp only [this, e1]; simp
    · by_cases e2 : X 6 p &&& zSet n (X 4) (nI d) = nI 0
      · have : ¬ (X 6 p &&& (X 9 c ^^^ -nI 1) &&& X 9 d ≠ nI 0) := fun h => ((hk.1 h).2) e2
        simp only [this, e2]; simp
      · have := hk.2 ⟨e1, e2⟩
        simp [this, e1, e2, hd, c2, c3]
  · rw [if_neg c3]
    refine ⟨_, rfl, fun d hd => ?_, fun d _ => bt_nI0 d⟩
    rw [bt_nI0]; unfold zMay zHang; simp [c3]
