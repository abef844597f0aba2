set_option linter.unusedVariables false
theorem zPass_congr {r r' : Nat → Int32} {W : Int32} {n : Nat} (h : ∀ p, p < n → r p = r' p) (x : Int32) : zPass r W n x = zPass r' W n x :=
  zF_congr _ _ n 0 x fun j a _ hj => by rw [h j (by omega)]
theorem zIt_congr {r r' : Nat → Int32} {W : Int32} {n : Nat} (h : ∀ p, p < n → r p = r' p) : ∀ k x, zIt r W n k x = zIt r' W n k x
  | 0, x => rfl
  | k + 1, x => by rw [zIt, zIt, zPass_congr h, zIt_congr h k]
theorem zMay_congr {r r' w w' : Nat → Int32} {n p : Nat} (hp : p < n) (h : ∀ p, p < n → r p = r' p) (hw : ∀ p, p < n → w p = w' p) (d : Int32) : zMay r w n p d = zMay r' w' n p d := by
  have e1 : ∀ d, zSet n w d = zSet n w' d := fun d => zSet_congr hw
  have e2 : zOth w n p = zOth w' n p := by unfold zOth; rw [hw p hp, e1]
  unfold zMay zHang
  rw [hw p hp, h p hp, e1, e2, zIt_congr h]
theorem z3_open {n : Nat} {K X : TX} {s : Nat → Int32} (hE : zE n K X) (hD : zD n s X) {p : Nat} (hp : p < n) :
    ∃ o, f_X3_openWards X (nI p) = some o ∧ ∀ d, d < 4 → bt o d = zMay (K 7) s n p (nI d) := by
  have h10 := hE.n10
  obtain ⟨o, e1, e2, _⟩ := z3_openWards hE.xn h10 (hD.xws h10) (hD.xtal h10) hp
  exact ⟨o, e1, fun d hd => (e2 d hd).trans (zMay_congr hp (fun q hq => hE.r q (by omega)) (fun q hq => hD.w q (by omega)) _)⟩
theorem z3_openB {n : Nat} {K X : TX} {s : Nat → Int32} (hE : zE n K X) (hD : zD n s X) {p : Nat} (hp : p < n) :
    ∃ o, f_X3_openWards X (nI p) = some o ∧ ∀ d, bt o d = (decide (d < 4) && zMay (K 7) s n p (nI d)) := by
  have h10 := hE.n10
  obtain ⟨o, e1, e2, e3⟩ := z3_openWards hE.xn h10 (hD.xws h10) (hD.xtal h10) hp
  refine ⟨o, e1, fun d => ?_⟩
  by_cases hd : d < 4
  · rw [(e2 d hd).trans (zMay_congr hp (fun q hq => hE.r q (by omega)) (fun q hq => hD.w q (by omega)) _)]; simp [hd]
  · rw [e3 d (by omega)]; simp [hd]
theorem z_quo {i k : Nat} (hi : i < 2147483648) (hk : 0 < k) (hk' : k < 2147483648) : nI i / nI k = nI (i / k) := by
  have h0 : i / k < 2147483648 := Nat.lt_of_le_of_lt (Nat.div_le_self i k) hi
  apply Int32.toInt_inj.1
  rw [Int32.toInt_div_of_ne_right, z_nI_toInt hi, z_nI_toInt hk', z_nI_toInt h0]
  · rfl
  · intro e
    have := congrArg Int32.toInt e
    rw [z_nI_toInt hk'] at this
    have h2 : (-1 : Int32).toInt = -1 := by decide
    omega
theorem z_rem {i k : Nat} (hi : i < 2147483648) (hk : 0 < k) (hk' : k < 2147483648) : nI i - nI i / nI k * nI k = nI (i % k) := by
  rw [z_quo hi hk hk', z_nI_mul]
  have e : nI i = nI (i % k) + nI (i / k * k) := by
    rw [z_nI_add]; congr 1; rw [Nat.mul_comm]; exact (Nat.mod_add_div i k).symm
  rw [e]; grind
theorem z_add_sub (x y : Int32) : x + y - y = x := by grind
theorem z_tri {a b : Int32} (h1 : ¬ a < b) (h2 : ¬ b < a) : a = b := Int32.le_antisymm (Int32.not_lt.1 h2) (Int32.not_lt.1 h1)
/-- what the search for the best move keeps: the move, its margin, its cost -/
abbrev ZB : Type := Option (Nat × Nat) × Int32 × Int32
def zBs (K : TX) (n : Nat) (s : Nat → Int32) (side : Int32) (i : Nat) (b : ZB) : ZB :=
  if zMay (K 7) s n (i / 4) (nI (i % 4)) = true then
    (if K 0 21 < zCost K s (i / 4) (i % 4) then b
     else if zMg n (upd s (i / 4) (nI (i % 4))) side < b.2.1 then b
     else if zMg n (upd s (i / 4) (nI (i % 4))) side = b.2.1 ∧ (b.1 = none ∨ b.2.2 ≤ zCost K s (i / 4) (i % 4)) then b
     else (some (i / 4, i % 4), zMg n (upd s (i / 4) (nI (i % 4))) side, zCost K s (i / 4) (i % 4)))
  else b
def zB0 (n : Nat) (s : Nat → Int32) (side : Int32) : ZB := (none, zMg n s side, 0)
def zBest (K : TX) (n : Nat) (s : Nat → Int32) (side : Int32) : ZB := zF (zBs K n s side) (4 * n) 0 (zB0 n s side)
def zPk (b : ZB) (X : TX) : Prop := X 33 4 = b.2.1 ∧ match b.1 with
  | none => X 33 2 = -1
  | some q => X 33 2 = nI q.1 ∧ X 33 3 = nI q.2
theorem zPk_none {b : ZB} {X : TX} (h : zPk b X) (hq : ∀ q, b.1 = some q → q.1 < 10) : (X 33 2 = -1) ↔ b.1 = none := by
  obtain ⟨b1, b2⟩ := b
  cases b1 with
  | none => exact ⟨fun _ => rfl, fun _ => h.2⟩
  | some q =>
    have e : X 33 2 = nI q.1 := h.2.1
    have hl := hq q rfl
    constructor
    · intro e'
      rw [e] at e'
      have := congrArg Int32.toInt e'
      rw [z_nI_toInt (by omega)] at this
      have h2 : (-1 : Int32).toInt = -1 := by decide
      omega
    · intro e'; cases e'
theorem zBs_p {K : TX} {n : Nat} {s : Nat → Int32} {side : Int32} {i : Nat} {b : ZB} (h : ∀ q, b.1 = some q → q.1 < n ∧ q.2 < 4 ∧ zMay (K 7) s n q.1 (nI q.2) = true ∧ ¬ K 0 21 < zCost K s q.1 q.2 ∧ b.2.1 = zMg n (upd s q.1 (nI q.2)) side) (hi : i < 4 * n) :
    ∀ q, (zBs K n s side i b).1 = some q → q.1 < n ∧ q.2 < 4 ∧ zMay (K 7) s n q.1 (nI q.2) = true ∧ ¬ K 0 21 < zCost K s q.1 q.2 ∧ (zBs K n s side i b).2.1 = zMg n (upd s q.1 (nI q.2)) side := by
  unfold zBs
  by_cases c1 : zMay (K 7) s n (i / 4) (nI (i % 4)) = true
  · rw [if_pos c1]
    by_cases c2 : K 0 21 < zCost K s (i / 4) (i % 4)
    · rw [if_pos c2]; exact h
    · rw [if_neg c2]
      by_cases c3 : zMg n (upd s (i / 4) (nI (i % 4))) side < b.2.1
      · rw [if_pos c3]; exact h
      · rw [if_neg c3]
        by_cases c4 : zMg n (upd s (i / 4) (nI (i % 4))) side = b.2.1 ∧ (b.1 = none ∨ b.2.2 ≤ zCost K s (i / 4) (i % 4))
        · rw [if_pos c4]; exact h
        · rw [if_neg c4]
          intro q hq
          cases hq
          exact ⟨by omega, by omega, c1, c2, rfl⟩
  · rw [if_neg c1]; exact h
theorem zBest_p {K : TX} {n : Nat} {s : Nat → Int32} {side : Int32} : ∀ k, k ≤ 4 * n → ∀ q, (zF (zBs K n s side) k 0 (zB0 n s side)).1 = some q → q.1 < n ∧ q.2 < 4 ∧ zMay (K 7) s n q.1 (nI q.2) = true ∧ ¬ K 0 21 < zCost K s q.1 q.2 ∧ (zF (zBs K n s side) k 0 (zB0 n s side)).2.1 = zMg n (upd s q.1 (nI q.2)) side
  | 0, _, q, h => by cases h
  | k + 1, hk, q, h => by
    rw [zF_snoc] at h ⊢
    exact zBs_p (zBest_p k (by omega)) (by omega) q h
/-- the class's step of the search -/
theorem z2_ch45 {n : Nat} {K X0 : TX} {s : Nat → Int32} (hE0 : zE n K X0) (hD0 : zD n s X0) {side : Int32} {p : Nat} (hp : p < n) (o : Int32) (ho : ∀ d, d < 4 → bt o d = zMay (K 7) s n p (nI d)) (k : TX → Int32 → Int32 → Int32 → Option (TX × Int32)) (X : TX) (c : Int32)
    (hf : ∀ k, k ≠ 21 → k ≠ 22 → k ≠ 33 → X k = X0 k) (hk : zPk (zF (zBs K n s side) (4 * p) 0 (zB0 n s side)) X) (hc : c = (zF (zBs K n s side) (4 * p) 0 (zB0 n s side)).2.2) :
    ∃ a : TX × Int32, L_X2_choose_45 k FU X side c (nI p) o (nI 0) = k a.1 side a.2 (nI (p + 1)) ∧ (∀ k, k ≠ 21 → k ≠ 22 → k ≠ 33 → a.1 k = X0 k) ∧ zPk (zF (zBs K n s side) (4 * (p + 1)) 0 (zB0 n s side)) a.1 ∧ a.2 = (zF (zBs K n s side) (4 * (p + 1)) 0 (zB0 n s side)).2.2 := by
  have h10 := hE0.n10
  refine z_loopE (fun f i (a : TX × Int32) => L_X2_choose_45 k f a.1 side a.2 (nI p) o i) (fun d a => (∀ k, k ≠ 21 → k ≠ 22 → k ≠ 33 → a.1 k = X0 k) ∧ zPk (zF (zBs K n s side) (4 * p + d) 0 (zB0 n s side)) a.1 ∧ a.2 = (zF (zBs K n s side) (4 * p + d) 0 (zB0 n s side)).2.2) (fun a => k a.1 side a.2 (nI (p + 1))) 4 ?_ ?_ 4 0 FU (X, c) ⟨hf, hk, hc⟩ (by omega) (by unfold FU; omega)
  · intro f a h
    simp (discharger := omega) only [L_X2_choose_45, z_lit, z_nI_le, z_nI_lt, z_nI_inj, z_inb, z_nI_tn, z_nI_add, z_nI_mul, z_bitN, z_zb, z_0add, z_add0, z_0or, z_or0, Option.bind_some, decide_eq_true_eq, Nat.zero_add, Nat.add_zero, Nat.le_refl, if_true]
  · rintro f d ⟨X, c⟩ hd ⟨hf, hk, hc⟩
    simp only at hf hk hc
    have hE : zE n K X := hE0.frame' (hf 3 (by decide) (by decide) (by decide)) fun k hk => hf k (by unfold zEk at hk; omega) (by unfold zEk at hk; omega) (by unfold zEk at hk; omega)
    have hD : zD n s X := hD0.frame (hf 3 (by decide) (by decide) (by decide)) (hf 4 (by decide) (by decide) (by decide)) (hf 5 (by decide) (by decide) (by decide)) (hf 9 (by decide) (by decide) (by decide)) (hf 10 (by decide) (by decide) (by decide))
    obtain ⟨b, hb⟩ : ∃ b, b = zF (zBs K n s side) (4 * p + d) 0 (zB0 n s side) := ⟨_, rfl⟩
    have hbq : ∀ q, b.1 = some q → q.1 < 10 := fun q hq => by
      rw [hb] at hq
      have := (zBest_p (4 * p + d) (by omega) q hq).1
      omega
    have hs : zF (zBs K n s side) (4 * p + (d + 1)) 0 (zB0 n s side) = zBs K n s side (4 * p + d) b := by
      rw [← Nat.add_assoc, zF_snoc, hb, Nat.zero_add]
    rw [hs]
    rw [← hb] at hk hc
    have q1 : (4 * p + d) / 4 = p := by omega
    have q2 : (4 * p + d) % 4 = d := by omega
    have h1 : ¬ 4 ≤ d := by omega
    obtain ⟨u, hu, pu, ku⟩ := hE.pu
    have hstep : ∀ (Y : TX) (e : Int32), L_X2_choose_45 k f Y side e (nI p) o (nI d + 1) = L_X2_choose_45 k f Y side e (nI p) o (nI (d + 1)) := fun Y e => by rw [z_nI_succ]
    unfold zBs
    rw [q1, q2]
    by_cases c1 : zMay (K 7) s n p (nI d) = true
    · rw [if_pos c1]
      have hcd : ∃ c, c < 4 ∧ s p = nI c ∧ c ≠ d := by
        obtain ⟨c, hc, hw⟩ := hD.xw p hp
        refine ⟨c, hc, hw, fun e => ?_⟩
        subst e
        unfold zMay at c1
        rw [hw] at c1; simp at c1
      obtain ⟨w, hw4, hwp, hwd⟩ := hcd
      have hm := z3_margPl hE hD hp hw4 hd hwp hwd side
      obtain ⟨X', e1, e2⟩ := z2_priceOf hE hD hp hd
      have hb1 : bt o d = true := (ho d hd).trans c1
      have t10 : ¬ ((1 : Nat) = 0) := by decide
      have hX33 : X' 33 = X 33 := e2 33 (by decide) (by decide)
      have hX3 : X' 3 = X 3 := e2 3 (by decide) (by decide)
      have hf' : ∀ k, k ≠ 21 → k ≠ 22 → k ≠ 33 → X' k = X0 k := fun k h1 h2 h3 => (e2 k h1 h2).trans (hf k h1 h2 h3)
      have hk' : zPk b X' := by unfold zPk at *; rw [hX33]; exact hk
      have hn : (X 33 2 = -nI 1) ↔ b.1 = none := zPk_none hk hbq
      have hm4 : X 33 4 = b.2.1 := hk.1
      have hupd : ∀ Y : TX, (∀ k, k ≠ 21 → k ≠ 22 → k ≠ 33 → Y k = X0 k) → ∀ m : Int32, (∀ k, k ≠ 21 → k ≠ 22 → k ≠ 33 → u2 (u2 (u2 Y 33 2 (nI p)) 33 3 (nI d)) 33 4 m k = X0 k) ∧ zPk (some (p, d), m, zCost K s p d) (u2 (u2 (u2 Y 33 2 (nI p)) 33 3 (nI d)) 33 4 m) := fun Y hY m => by
        refine ⟨fun k h1 h2 h3 => ?_, ?_, ?_, ?_⟩
        · rw [z_u2k _ _ _ _ h3, z_u2k _ _ _ _ h3, z_u2k _ _ _ _ h3]; exact hY k h1 h2 h3
        · simp [z_u2]
        · simp [z_u2]
        · simp [z_u2]
      have hpu : ∀ v, (X 3 7 < v ↔ K 0 21 < v) := fun v => by rw [pu, ku]
      generalize zMg n (upd s p (nI d)) side = m at *
      generalize zCost K s p d = v at *
      by_cases c3 : m < b.2.1
      · have c5 : ¬ b.2.1 < m := fun h => by rw [Int32.lt_iff_toInt_lt] at c3 h; omega
        have c6 : ¬ m = b.2.1 := fun h => by rw [h, Int32.lt_iff_toInt_lt] at c3; omega
        have c7 : ¬ K 0 21 < nI 0 := by rw [ku]; exact z_nI_nn (by omega)
        refine ⟨(X, c), ?_, hf, ?_, ?_⟩
        · simp (discharger := omega) only [c3, c5, c6, c7, L_X2_choose_45, B_X2_choose_124, h1, z_has, Option.bind_some, hb1, t10, hm, e1, z_lit, z_nI_le, z_nI_lt, z_nI_inj, z_inb, z_nI_tn, z_nI_add, z_nI_mul, z_bitN, z_zb, z_0add, z_add0, z_0or, z_or0, Option.bind_some, decide_eq_true_eq, Nat.zero_add, Nat.add_zero, hX3, hX33, hpu, hm4, ite_self, ↓reduceIte]
        · simp only [c3, if_true, ite_self]; exact hk
        · simp only [c3, if_true, ite_self]; exact hc
      · by_cases c2 : K 0 21 < v
        · refine ⟨(X', c), ?_, hf', ?_, ?_⟩
          · simp (discharger := omega) only [c2, c3, L_X2_choose_45, B_X2_choose_124, h1, z_has, Option.bind_some, hb1, t10, hm, e1, z_lit, z_nI_le, z_nI_lt, z_nI_inj, z_inb, z_nI_tn, z_nI_add, z_nI_mul, z_bitN, z_zb, z_0add, z_add0, z_0or, z_or0, Option.bind_some, decide_eq_true_eq, Nat.zero_add, Nat.add_zero, hX3, hX33, hpu, hm4, ite_self, ↓reduceIte]
          · simp only [c2, if_true]; exact hk'
          · simp only [c2, if_true]; exact hc
        · by_cases c4 : b.2.1 < m
          · have c6 : ¬ m = b.2.1 := fun h => by rw [h, Int32.lt_iff_toInt_lt] at c4; omega
            have := hupd X' hf' m
            refine ⟨(u2 (u2 (u2 X' 33 2 (nI p)) 33 3 (nI d)) 33 4 m, v), ?_, this.1, ?_, ?_⟩
            · simp (discharger := omega) only [c2, c3, c4, c6, L_X2_choose_45, B_X2_choose_124, h1, z_has, Option.bind_some, hb1, t10, hm, e1, z_lit, z_nI_le, z_nI_lt, z_nI_inj, z_inb, z_nI_tn, z_nI_add, z_nI_mul, z_bitN, z_zb, z_0add, z_add0, z_0or, z_or0, Option.bind_some, decide_eq_true_eq, Nat.zero_add, Nat.add_zero, hX3, hX33, hpu, hm4, ite_self, ↓reduceIte]
            · simp only [c2, c3, c6, if_false, false_and]; exact this.2
            · simp only [c2, c3, c6, if_false, false_and]
          · have c6 : m = b.2.1 := z_tri c3 c4
            by_cases c7 : b.1 = none
            · have c8 : X 33 2 = -nI 1 := hn.2 c7
              refine ⟨(X', c), ?_, hf', ?_, ?_⟩
              · simp (discharger := omega) only [c2, c3, c4, c8, L_X2_choose_45, B_X2_choose_124, h1, z_has, Option.bind_some, hb1, t10, hm, e1, z_lit, z_nI_le, z_nI_lt, z_nI_inj, z_inb, z_nI_tn, z_nI_add, z_nI_mul, z_bitN, z_zb, z_0add, z_add0, z_0or, z_or0, Option.bind_some, decide_eq_true_eq, Nat.zero_add, Nat.add_zero, hX3, hX33, hpu, hm4, ite_self, ↓reduceIte]
              · simp only [c2, c3, c7, true_or, and_true, if_false, c6, if_true, ite_self]; exact hk'
              · simp only [c2, c3, c7, true_or, and_true, if_false, c6, if_true, ite_self]; exact hc
            · have c8 : ¬ X 33 2 = -nI 1 := fun h => c7 (hn.1 h)
              have c9 : ¬ m < m := fun h => by rw [Int32.lt_iff_toInt_lt] at h; omega
              have c6' := c6.symm
              by_cases c10 : b.2.2 ≤ v
              · refine ⟨(X', c), ?_, hf', ?_, ?_⟩
                · simp (discharger := omega) only [c2, c8, c9, c6', hc, c10, L_X2_choose_45, B_X2_choose_124, h1, z_has, Option.bind_some, hb1, t10, hm, e1, z_lit, z_nI_le, z_nI_lt, z_nI_inj, z_inb, z_nI_tn, z_nI_add, z_nI_mul, z_bitN, z_zb, z_0add, z_add0, z_0or, z_or0, Option.bind_some, decide_eq_true_eq, Nat.zero_add, Nat.add_zero, hX3, hX33, hpu, hm4, ite_self, ↓reduceIte]
                · simp only [c2, c9, c6', c10, or_true, and_self, if_true, if_false]; exact hk'
                · simp only [c2, c9, c6', c10, or_true, and_self, if_true, if_false]; exact hc
              · have := hupd X' hf' m
                refine ⟨(u2 (u2 (u2 X' 33 2 (nI p)) 33 3 (nI d)) 33 4 m, v), ?_, this.1, ?_, ?_⟩
                · simp (discharger := omega) only [c2, c8, c9, c6', hc, c10, L_X2_choose_45, B_X2_choose_124, h1, z_has, Option.bind_some, hb1, t10, hm, e1, z_lit, z_nI_le, z_nI_lt, z_nI_inj, z_inb, z_nI_tn, z_nI_add, z_nI_mul, z_bitN, z_zb, z_0add, z_add0, z_0or, z_or0, Option.bind_some, decide_eq_true_eq, Nat.zero_add, Nat.add_zero, hX3, hX33, hpu, hm4, ite_self, ↓reduceIte]
                · simp only [c2, c7, c9, c6', c10, or_self, and_false, if_false]; exact this.2
                · simp only [c2, c7, c9, c6', c10, or_self, and_false, if_false]
    · have hb0 : (if bt o d = true then nI 1 else nI 0) = 0 := by rw [ho d hd, if_neg c1]; rfl
      refine ⟨(X, c), ?_, hf, ?_, ?_⟩
      · simp (discharger := omega) only [L_X2_choose_45, h1, if_false, z_has, Option.bind_some, hb0, if_true, z_lit, z_nI_le, z_nI_lt, z_nI_inj, z_inb, z_nI_tn, z_nI_add, z_nI_mul, z_bitN, z_zb, z_0add, z_add0, z_0or, z_or0, Option.bind_some, decide_eq_true_eq, Nat.zero_add, Nat.add_zero]
      · rw [if_neg c1]; exact hk
      · rw [if_neg c1]; exact hc
