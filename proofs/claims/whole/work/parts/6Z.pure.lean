set_option linter.unusedVariables false
theorem zxb_l {ρ σ : Type} (X : TX) (r : ρ) (k : TX → ρ → Option (TX × (σ ⊕ Nat))) : xb (X, .inl r) k = k X r := rfl
theorem zxb_r {ρ σ : Type} (X : TX) (n : Nat) (k : TX → ρ → Option (TX × (σ ⊕ Nat))) : xb (X, .inr n) k = some (X, .inr n) := rfl
theorem z8_need1 (X : TX) : f_X8_need X (nI 1) = some (X, .inl ()) := by
  unfold f_X8_need; rw [if_neg (by decide)]
theorem z8_need0 (X : TX) : f_X8_need X (nI 0) = some (u2 X 0 13 (X 0 13 + nI 1), .inr 1) := by
  unfold f_X8_need; rw [if_pos (by decide)]; rfl
theorem z8_there1 (X : TX) : f_X8_needThere X (nI 1) = some (X, .inl ()) := by
  unfold f_X8_needThere; rw [if_neg (by decide)]
theorem z8_there0 (X : TX) : f_X8_needThere X (nI 0) = some (u2 X 0 12 (X 0 12 + nI 1), .inr 0) := by
  unfold f_X8_needThere; rw [if_pos (by decide)]; rfl
theorem z8_np {X : TX} {n : Nat} (hn : X 3 5 = nI n) (h10 : n ≤ 10) (x : Int32) : f_X8_needParish X x = if x < nI 0 ∨ nI n - nI 1 < x then some (u2 X 0 12 (X 0 12 + nI 1), .inr 0) else some (X, .inl ()) := by
  rcases z_idx n (by omega) x with h | ⟨h1, h2, h3⟩ | ⟨w, h1, h2, h3⟩
  · simp (discharger := omega) only [f_X8_needParish, z8_there0, z8_there1, zxb_l, zxb_r, h, true_or, z_lit, z_nI_le, z_nI_lt, z_nI_inj, z_inb, z_nI_tn, z_nI_add, z_nI_mul, z_bitN, z_zb, z_0add, z_add0, z_0or, z_or0, Option.bind_some, decide_eq_true_eq, Nat.zero_add, Nat.add_zero, ↓reduceIte]
  · simp (discharger := omega) only [f_X8_needParish, z8_there0, z8_there1, zxb_l, zxb_r, hn, h1, h2, h3, or_true, z_lit, z_nI_le, z_nI_lt, z_nI_inj, z_inb, z_nI_tn, z_nI_add, z_nI_mul, z_bitN, z_zb, z_0add, z_add0, z_0or, z_or0, Option.bind_some, decide_eq_true_eq, Nat.zero_add, Nat.add_zero, ↓reduceIte]
  · subst h2
    have h4 : ¬ nI w < nI 0 := z_nI_nn (by omega)
    have h5 : ¬ n ≤ w := by omega
    simp (discharger := omega) only [f_X8_needParish, z8_there0, z8_there1, zxb_l, zxb_r, hn, h3, h4, h5, or_self, z_lit, z_nI_le, z_nI_lt, z_nI_inj, z_inb, z_nI_tn, z_nI_add, z_nI_mul, z_bitN, z_zb, z_0add, z_add0, z_0or, z_or0, Option.bind_some, decide_eq_true_eq, Nat.zero_add, Nat.add_zero, ↓reduceIte]
theorem z8_nw (X : TX) (x : Int32) : f_X8_needWard X x = if x < nI 0 ∨ nI 4 - nI 1 < x then some (u2 X 0 12 (X 0 12 + nI 1), .inr 0) else some (X, .inl ()) := by
  rcases z_idx 4 (by omega) x with h | ⟨h1, h2, h3⟩ | ⟨w, h1, h2, h3⟩
  · simp (discharger := omega) only [f_X8_needWard, z8_there0, z8_there1, zxb_l, zxb_r, h, true_or, z_lit, z_nI_le, z_nI_lt, z_nI_inj, z_inb, z_nI_tn, z_nI_add, z_nI_mul, z_bitN, z_zb, z_0add, z_add0, z_0or, z_or0, Option.bind_some, decide_eq_true_eq, Nat.zero_add, Nat.add_zero, ↓reduceIte]
  · simp (discharger := omega) only [f_X8_needWard, z8_there0, z8_there1, zxb_l, zxb_r, h1, h2, h3, or_true, z_lit, z_nI_le, z_nI_lt, z_nI_inj, z_inb, z_nI_tn, z_nI_add, z_nI_mul, z_bitN, z_zb, z_0add, z_add0, z_0or, z_or0, Option.bind_some, decide_eq_true_eq, Nat.zero_add, Nat.add_zero, ↓reduceIte]
  · subst h2
    have h4 : ¬ nI w < nI 0 := z_nI_nn (by omega)
    have h5 : ¬ 4 ≤ w := by omega
    simp (discharger := omega) only [f_X8_needWard, z8_there0, z8_there1, zxb_l, zxb_r, h3, h4, h5, or_self, z_lit, z_nI_le, z_nI_lt, z_nI_inj, z_inb, z_nI_tn, z_nI_add, z_nI_mul, z_bitN, z_zb, z_0add, z_add0, z_0or, z_or0, Option.bind_some, decide_eq_true_eq, Nat.zero_add, Nat.add_zero, ↓reduceIte]
theorem z8_ns (X : TX) (x : Int32) : f_X8_needSide X x = if x < nI 0 ∨ nI 2 - nI 1 < x then some (u2 X 0 12 (X 0 12 + nI 1), .inr 0) else some (X, .inl ()) := by
  rcases z_idx 2 (by omega) x with h | ⟨h1, h2, h3⟩ | ⟨w, h1, h2, h3⟩
  · simp (discharger := omega) only [f_X8_needSide, z8_there0, z8_there1, zxb_l, zxb_r, h, true_or, z_lit, z_nI_le, z_nI_lt, z_nI_inj, z_inb, z_nI_tn, z_nI_add, z_nI_mul, z_bitN, z_zb, z_0add, z_add0, z_0or, z_or0, Option.bind_some, decide_eq_true_eq, Nat.zero_add, Nat.add_zero, ↓reduceIte]
  · simp (discharger := omega) only [f_X8_needSide, z8_there0, z8_there1, zxb_l, zxb_r, h1, h2, h3, or_true, z_lit, z_nI_le, z_nI_lt, z_nI_inj, z_inb, z_nI_tn, z_nI_add, z_nI_mul, z_bitN, z_zb, z_0add, z_add0, z_0or, z_or0, Option.bind_some, decide_eq_true_eq, Nat.zero_add, Nat.add_zero, ↓reduceIte]
  · subst h2
    have h4 : ¬ nI w < nI 0 := z_nI_nn (by omega)
    have h5 : ¬ 2 ≤ w := by omega
    simp (discharger := omega) only [f_X8_needSide, z8_there0, z8_there1, zxb_l, zxb_r, h3, h4, h5, or_self, z_lit, z_nI_le, z_nI_lt, z_nI_inj, z_inb, z_nI_tn, z_nI_add, z_nI_mul, z_bitN, z_zb, z_0add, z_add0, z_0or, z_or0, Option.bind_some, decide_eq_true_eq, Nat.zero_add, Nat.add_zero, ↓reduceIte]
theorem z_good {m : Nat} (hm : m < 1000) {x : Int32} (h : ¬ (x < nI 0 ∨ nI m - nI 1 < x)) : ∃ w, w < m ∧ x = nI w := by
  rcases z_idx m hm x with h1 | ⟨_, _, h3⟩ | ⟨w, h1, h2, _⟩
  · exact absurd (.inl h1) h
  · exact absurd (.inr h3) h
  · exact ⟨w, h1, h2⟩
theorem z8_half (x : Int32) : f_X8_isHalf x = some (if x = nI 0 ∨ x = nI 1 then nI 1 else nI 0) := by
  have e0 : (0 : Int32) = nI 0 := rfl
  have e1 : (1 : Int32) = nI 1 := rfl
  unfold f_X8_isHalf
  rw [e0, e1]
  by_cases c0 : x = nI 0
  · rw [if_pos c0, if_pos (.inl c0)]
  · by_cases c1 : x = nI 1
    · rw [if_neg c0, if_pos c1, if_pos (.inr c1)]
    · rw [if_neg c0, if_neg c1, if_neg (fun h => h.elim c0 c1)]
/-- 0 or 1, or what is refused -/
theorem z_hlf (x : Int32) : (x = nI 0 ∨ x = nI 1) ∨ (¬ (x = nI 0 ∨ x = nI 1) ∧ (x < nI 0 ∨ (¬ x < nI 0 ∧ nI 1 < x))) := by
  rcases z_rng 1 (by omega) x with h | h | ⟨w, h1, h2⟩
  · right
    refine ⟨fun e => ?_, .inl h⟩
    rcases e with rfl | rfl <;> exact absurd h (by decide)
  · right
    refine ⟨fun e => ?_, .inr h⟩
    rcases e with rfl | rfl <;> exact absurd h.2 (by decide)
  · left
    have : w = 0 ∨ w = 1 := by omega
    rcases this with rfl | rfl
    · exact .inl h2
    · exact .inr h2
theorem z3_vOf {n : Nat} {s : Nat → Int32} {X : TX} (hD : zD n s X) {a p : Nat} (ha : a < 2) (hp : p < 10) : f_X3_votesOf X (nI a) (nI p) = some (s (10 + 10 * a + p)) := by
  rw [z3_votesOf ha hp, hD.v _ (by omega)]; congr 2; omega
theorem z3_wOf {n : Nat} {s : Nat → Int32} {X : TX} (hD : zD n s X) {p : Nat} (hp : p < 10) : f_X3_wardOf X (nI p) = some (s p) := by
  rw [z3_wardOf hp, hD.w p hp]
theorem z3_mOf {n : Nat} {s : Nat → Int32} {X : TX} (hD : zD n s X) {d : Nat} (hd : d < 4) : f_X3_membersOf X (nI d) = some (zSet n s (nI d)) := by
  rw [z3_membersOf hd, hD.set d hd]
theorem z3_win {n : Nat} {s : Nat → Int32} {X : TX} (hD : zD n s X) {d : Nat} (hd : d < 4) : f_X3_winner X (nI d) = some (zWin (zLc n s d)) := by
  rw [z3_winner hd, hD.lead d hd]
theorem z9_win {M : TX} {n : Nat} (hn : M 0 19 = nI n) (h10 : n ≤ 10) (d : Nat) : f_X9_winnerOf M (nI d) = some (zWin (zLc n (M 20) d)) := z9_winnerOf hn h10 (nI d)
theorem z3_wV {n : Nat} {K X : TX} {s : Nat → Int32} (hE : zE n K X) (hD : zD n s X) {a : Nat} (ha : a < 2) (d : Int32) : f_X3_wardVotes X (nI a) d = some (zVot n s (fun p => s (10 + 10 * a + p)) d) := by
  have h10 := hE.n10
  rw [z3_wardVotes hE.xn h10 ha]
  exact congrArg some (zSum_congr fun p hp => by
    show (if X 4 p = d then X 5 (10 * a + p) else nI 0) = if s p = d then s (10 + 10 * a + p) else nI 0
    rw [hD.w p (by omega), hD.v _ (by omega), show 10 + (10 * a + p) = 10 + 10 * a + p by omega])
theorem z3_hang {n : Nat} {K X : TX} (hE : zE n K X) {S : Int32} (hS : ∀ q, bt S q = true → q < n) : f_X3_hangsTogether X S = some (if S = nI 0 ∨ zHang (K 7) n S = true then nI 1 else nI 0) := by
  have h10 := hE.n10
  unfold f_X3_hangsTogether
  rw [z3_reached hE.xn h10, Option.bind_some, zHang10 h10 hS, zIt_congr (fun p hp => hE.r p (by omega))]
  unfold zHang
  by_cases c : zIt (K 7) S n n (S &&& -S) = S
  · rw [if_pos c, if_pos (.inr (by simp [c]))]; rfl
  · rw [if_neg c]
    by_cases c0 : S = nI 0
    · exfalso
      apply c
      subst c0
      have e : (nI 0 &&& -nI 0) = nI 0 := by decide
      rw [e]
      refine zIt_fix ?_ n
      unfold zPass
      refine zF_inv _ (fun _ y => y = nI 0) n 0 (nI 0) rfl fun j a _ _ h => ?_
      subst h
      have : bt (nI 0) j = false := bt_nI0 j
      simp [this]
    · rw [if_neg (by simp [c, c0])]; rfl
theorem z3_wonBy {n : Nat} {s : Nat → Int32} {X : TX} (hD : zD n s X) (a : Int32) : ∃ y, f_X3_wonBy X a = some y ∧ ∀ q, bt y q = (decide (q < 4) && decide (zWin (zLc n s q) = a)) := by
  refine ⟨_, z_loop (fun f i y => L_X3_wonBy_4 f X a y i) (fun d y => if zWin (zLc n s d) = a then y ||| zb d else y) some 4 ?_ ?_ 4 0 FU (nI 0) (by omega) (by unfold FU; omega), ?_⟩
  · intro f i y h
    subst h
    simp (discharger := omega) only [L_X3_wonBy_4, z_lit, z_nI_le, z_nI_lt, z_nI_inj, z_inb, z_nI_tn, z_nI_add, z_nI_mul, z_bitN, z_zb, z_0add, z_add0, z_0or, z_or0, Option.bind_some, decide_eq_true_eq, Nat.zero_add, Nat.add_zero, Nat.le_refl, ↓reduceIte]
  · intro f i y h
    have h1 : ¬ 4 ≤ i := by omega
    by_cases c : zWin (zLc n s i) = a
    · simp (discharger := omega) only [L_X3_wonBy_4, h1, z3_win hD h, c, z_lit, z_nI_le, z_nI_lt, z_nI_inj, z_inb, z_nI_tn, z_nI_add, z_nI_mul, z_bitN, z_zb, z_0add, z_add0, z_0or, z_or0, Option.bind_some, decide_eq_true_eq, Nat.zero_add, Nat.add_zero, ↓reduceIte]
    · simp (discharger := omega) only [L_X3_wonBy_4, h1, z3_win hD h, c, z_lit, z_nI_le, z_nI_lt, z_nI_inj, z_inb, z_nI_tn, z_nI_add, z_nI_mul, z_bitN, z_zb, z_0add, z_add0, z_0or, z_or0, Option.bind_some, decide_eq_true_eq, Nat.zero_add, Nat.add_zero, ↓reduceIte]
  · refine zF_inv _ (fun i y => ∀ q, bt y q = (decide (q < i) && decide (zWin (zLc n s q) = a))) 4 0 (nI 0) (fun q => by simp [bt_nI0]) fun j y _ h2 hj q => ?_
    by_cases c : zWin (zLc n s j) = a
    · rw [if_pos c, bt_or, bt_zb (by omega), hj]
      by_cases e : q = j
      · subst e; simp [c]
      · have h1 : q < j + 1 ↔ q < j := by omega
        have h2 : ¬ j = q := fun h => e h.symm
        simp [h1, h2]
    · rw [if_neg c, hj]
      by_cases e : q = j
      · subst e; simp [c]
      · have : q < j + 1 ↔ q < j := by omega
        simp [this]
theorem zSeat_bits {l : Nat → Int32} {a y : Int32} (h : ∀ q, bt y q = (decide (q < 4) && decide (zWin (l q) = a))) : zSeat l a = nI (zCnt 10 y) := by
  have e : ∀ k, k ≤ 4 → zF (fun d x => x + if zWin (l d) = a then nI 1 else nI 0) k 0 (nI 0) = nI (nS k fun q => (bt y q).toNat) := fun k => by
    induction k with
    | zero => intro _; rfl
    | succ k ih =>
      intro hk
      rw [zF_snoc, ih (by omega), nS, Nat.zero_add, h k]
      have : k < 4 := by omega
      by_cases c : zWin (l k) = a
      · simp [c, this, z_nI_add]
      · simp [c, z_add0]
  unfold zSeat
  rw [e 4 (Nat.le_refl _), zCnt_nS]
  congr 1
  refine (nS_more (n := 4) (fun p hp => ?_) 6).symm
  rw [h p]
  have : ¬ p < 4 := by omega
  simp [this]
theorem z_bits4 {y z : Int32} {P : Nat → Prop} {iP : ∀ q, Decidable (P q)} (h : ∀ q, bt y q = (decide (q < 4) && decide (P q))) (g : ∀ q, bt z q = (decide (q < 4) && decide (P q))) : y = z := bt_ext fun q _ => (h q).trans (g q).symm
theorem z3_roadCount {n : Nat} {K X : TX} (hE : zE n K X) : f_X3_roadCount X = some (nI (nS n fun p => zCnt 10 (K 7 p)) / nI 2) := by
  have h10 := hE.n10
  have h := z_loop (fun f i a => L_X3_roadCount_4 f X a i) (fun p a => a + nI (zCnt 10 (K 7 p))) (fun a => some (a / 2)) n ?_ ?_ n 0 FU (nI 0) (by omega) (by unfold FU; omega)
  · refine h.trans ?_
    have e : zF (fun p a => a + nI (zCnt 10 (K 7 p))) n 0 (nI 0) = nI (nS n fun p => zCnt 10 (K 7 p)) := zSum_nS fun p _ => rfl
    rw [e]; rfl
  · intro f i a h
    subst h
    simp (discharger := omega) only [L_X3_roadCount_4, hE.xn, Nat.le_refl, z_lit, z_nI_le, z_nI_lt, z_nI_inj, z_inb, z_nI_tn, z_nI_add, z_nI_mul, z_bitN, z_zb, z_0add, z_add0, z_0or, z_or0, Option.bind_some, decide_eq_true_eq, Nat.zero_add, Nat.add_zero, ↓reduceIte]
  · intro f i a h
    have h1 : ¬ n ≤ i := by omega
    have e1 : f_X3_roadsFrom X (nI i) = some (K 7 i) := by
      unfold f_X3_roadsFrom
      rw [z_at (show i < lenX 6 by show i < 10; omega) (by decide), hE.r i (by omega)]; rfl
    have e2 : f_J6_bitCount_0f7a4 (K 7 i) = some (nI (zCnt 10 (K 7 i))) := z_bc fun q hq => by
      have := hE.rd.1 i h q hq
      omega
    simp only [L_X3_roadCount_4, hE.xn]
    rw [if_neg (by rw [z_nI_le (by omega) (by omega)]; omega), e1, Option.bind_some, e2, Option.bind_some]
    rw [z_nI_succ]
theorem z3_held {n : Nat} {s : Nat → Int32} {X : TX} (hD : zD n s X) : ∃ y, f_X3_heldWards X = some y ∧ ∀ q, bt y q = (decide (q < 4) && decide (zSet n s (nI q) ≠ nI 0)) := by
  refine ⟨_, z_loop (fun f i y => L_X3_heldWards_4 f X y i) (fun d y => if zSet n s (nI d) = nI 0 then y else y ||| zb d) some 4 ?_ ?_ 4 0 FU (nI 0) (by omega) (by unfold FU; omega), ?_⟩
  · intro f i y h
    subst h
    simp (discharger := omega) only [L_X3_heldWards_4, z_lit, z_nI_le, z_nI_lt, z_nI_inj, z_inb, z_nI_tn, z_nI_add, z_nI_mul, z_bitN, z_zb, z_0add, z_add0, z_0or, z_or0, Option.bind_some, decide_eq_true_eq, Nat.zero_add, Nat.add_zero, Nat.le_refl, ↓reduceIte]
  · intro f i y h
    have h1 : ¬ 4 ≤ i := by omega
    by_cases c : zSet n s (nI i) = nI 0
    · simp (discharger := omega) only [L_X3_heldWards_4, h1, z3_mOf hD h, c, z_lit, z_nI_le, z_nI_lt, z_nI_inj, z_inb, z_nI_tn, z_nI_add, z_nI_mul, z_bitN, z_zb, z_0add, z_add0, z_0or, z_or0, Option.bind_some, decide_eq_true_eq, Nat.zero_add, Nat.add_zero, ↓reduceIte]
    · simp (discharger := omega) only [L_X3_heldWards_4, h1, z3_mOf hD h, c, z_lit, z_nI_le, z_nI_lt, z_nI_inj, z_inb, z_nI_tn, z_nI_add, z_nI_mul, z_bitN, z_zb, z_0add, z_add0, z_0or, z_or0, Option.bind_some, decide_eq_true_eq, Nat.zero_add, Nat.add_zero, ↓reduceIte]
  · refine zF_inv _ (fun i y => ∀ q, bt y q = (decide (q < i) && decide (zSet n s (nI q) ≠ nI 0))) 4 0 (nI 0) (fun q => by simp [bt_nI0]) fun j y _ h2 hj q => ?_
    by_cases c : zSet n s (nI j) = nI 0
    · rw [if_pos c, hj]
      by_cases e : q = j
      · subst e; simp [c]
      · have : q < j + 1 ↔ q < j := by omega
        simp [this]
    · rw [if_neg c, bt_or, bt_zb (by omega), hj]
      by_cases e : q = j
      · subst e; simp [c]
      · have h1 : q < j + 1 ↔ q < j := by omega
        have h2 : ¬ j = q := fun h => e h.symm
        simp [h1, h2]
theorem z_sh1 {d : Nat} : (nI 1 <<< (nI d &&& nI 31)) = zb d := rfl
theorem z9_told70 {n : Nat} {M : TX} (hn : M 0 19 = nI n) (h10 : n ≤ 10) (hw : zWs n (M 20)) (x : Int32) : ∃ y, L_X9_told_70 FU M x (nI 0) (nI 0) = B_X9_told_97 M x y ∧ ∀ q, bt y q = (decide (q < 4) && decide (zSet n (M 20) (nI q) ≠ nI 0)) := by
  have h := z_loopE (fun f i y => L_X9_told_70 f M x y i) (fun i y => ∀ q, bt y q = (decide (q < 4) && decide (zSet i (M 20) (nI q) ≠ nI 0))) (fun y => B_X9_told_97 M x y) n ?_ ?_ n 0 FU (nI 0) (fun q => by
    rw [bt_nI0]
    have : zSet 0 (M 20) (nI q) = nI 0 := rfl
    simp [this]) (by omega) (by unfold FU; omega)
  · exact h
  · intro f y _
    simp (discharger := omega) only [L_X9_told_70, hn, Nat.le_refl, z_lit, z_nI_le, z_nI_lt, z_nI_inj, z_inb, z_nI_tn, z_nI_add, z_nI_mul, z_bitN, z_zb, z_0add, z_add0, z_0or, z_or0, Option.bind_some, decide_eq_true_eq, Nat.zero_add, Nat.add_zero, ↓reduceIte]
  · intro f i y hi hy
    have h1 : ¬ n ≤ i := by omega
    have h2 : i < 34 := by omega
    obtain ⟨d, hd, e⟩ := hw i hi
    refine ⟨y ||| zb d, ?_, fun q => ?_⟩
    · simp (discharger := omega) only [L_X9_told_70, hn, h1, h2, e, z_lit, z_nI_le, z_nI_lt, z_nI_inj, z_inb, z_nI_tn, z_nI_add, z_nI_mul, z_bitN, z_zb, z_0add, z_add0, z_0or, z_or0, Option.bind_some, decide_eq_true_eq, Nat.zero_add, Nat.add_zero, ↓reduceIte]
    · rw [bt_or, bt_zb (by omega), hy, zSet_succ, e]
      by_cases c : d = q
      · subst c
        have : zSet i (M 20) (nI d) ||| (if nI d = nI d then zb i else nI 0) ≠ nI 0 := by
          rw [bt_ne0]
          exact ⟨i, by rw [if_pos rfl, bt_or, bt_zb (by omega)]; simp⟩
        rw [if_pos rfl] at this ⊢
        simp [this, hd]
      · by_cases hq : q < 4
        · have hne : ¬ nI d = nI q := fun e => c ((z_nI_inj (by omega) (by omega)).1 e)
          rw [if_neg hne, z_or0]; simp [c]
        · have : ¬ (d = q) := c
          simp [hq, c]
theorem z9_told36 {n : Nat} {M : TX} (hn : M 0 19 = nI n) (h10 : n ≤ 10) : L_X9_told_36 FU M (nI 1) (nI 0) (nI 0) = B_X9_told_97 M (nI 1) (nI (nS n fun p => zCnt 10 (M 7 p))) := by
  have h := z_loop (fun f i a => L_X9_told_36 f M (nI 1) a i) (fun p a => a + nI (zCnt 10 (M 7 p))) (fun a => B_X9_told_97 M (nI 1) a) n ?_ ?_ n 0 FU (nI 0) (by omega) (by unfold FU; omega)
  · refine h.trans ?_
    have e : zF (fun p a => a + nI (zCnt 10 (M 7 p))) n 0 (nI 0) = nI (nS n fun p => zCnt 10 (M 7 p)) := zSum_nS fun p _ => rfl
    rw [e]
  · intro f i a h
    subst h
    simp (decide := true) (discharger := omega) only [L_X9_told_36, hn, Nat.le_refl, z_lit, z_nI_le, z_nI_lt, z_nI_inj, z_inb, z_nI_tn, z_nI_add, z_nI_mul, z_bitN, z_zb, z_0add, z_add0, z_0or, z_or0, Option.bind_some, decide_eq_true_eq, Nat.zero_add, Nat.add_zero, ↓reduceIte]
  · intro f i a h
    have h1 : ¬ n ≤ i := by omega
    have h2 : i < 10 := by omega
    simp (discharger := omega) only [L_X9_told_36, hn, h1, h2, z9_ones, z_lit, z_nI_le, z_nI_lt, z_nI_inj, z_inb, z_nI_tn, z_nI_add, z_nI_mul, z_bitN, z_zb, z_0add, z_add0, z_0or, z_or0, Option.bind_some, decide_eq_true_eq, Nat.zero_add, Nat.add_zero, ↓reduceIte]
