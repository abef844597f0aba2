set_option linter.unusedVariables false
def zLc (n : Nat) (s : Nat → Int32) (d : Nat) : Int32 := zLead n s (fun p => s (10 + p)) (fun p => s (20 + p)) (nI d)
def zMg (n : Nat) (s : Nat → Int32) (side : Int32) : Int32 := zMar (zLc n s) side
def zL (X M : TX) : Prop := ∃ m, m ≤ 150 ∧ X 19 3 = nI m ∧ M 0 28 = nI m ∧ zLaw m (X 20) (M 11) (M 12)
def zTd (X K : TX) : Prop := ∃ t, t ≤ 6 ∧ X 3 6 = nI t ∧ K 0 20 = nI t ∧ ∀ i, i < t → ∃ a b, a < 2 ∧ b ≤ 20 ∧ X 7 i = nI a ∧ K 8 (2 * i) = nI a ∧ X 8 i = nI b ∧ K 8 (2 * i + 1) = nI b
/-- what a call leaves as it is: the county's own text and the law, on the class's side (X) and the reference's (K) -/
def zE (n : Nat) (K X : TX) : Prop :=
  (n ≤ 10) ∧
  (X 3 5 = nI n) ∧
  (K 0 19 = nI n) ∧
  (∀ p, p < 10 → X 6 p = K 7 p) ∧
  (zRd n (K 7)) ∧
  (∃ u, u < 100 ∧ X 3 7 = nI u ∧ K 0 21 = nI u) ∧
  (zL X K) ∧
  (zTd X K)
theorem zE.n10 {n : Nat} {K X : TX} (h : zE n K X) : n ≤ 10 := h.1
theorem zE.xn {n : Nat} {K X : TX} (h : zE n K X) : X 3 5 = nI n := h.2.1
theorem zE.kn {n : Nat} {K X : TX} (h : zE n K X) : K 0 19 = nI n := h.2.2.1
theorem zE.r {n : Nat} {K X : TX} (h : zE n K X) : ∀ p, p < 10 → X 6 p = K 7 p := h.2.2.2.1
theorem zE.rd {n : Nat} {K X : TX} (h : zE n K X) : zRd n (K 7) := h.2.2.2.2.1
theorem zE.pu {n : Nat} {K X : TX} (h : zE n K X) : ∃ u, u < 100 ∧ X 3 7 = nI u ∧ K 0 21 = nI u := h.2.2.2.2.2.1
theorem zE.law {n : Nat} {K X : TX} (h : zE n K X) : zL X K := h.2.2.2.2.2.2.1
theorem zE.td {n : Nat} {K X : TX} (h : zE n K X) : zTd X K := h.2.2.2.2.2.2.2
theorem zE.mk {n : Nat} {K X : TX} (n10 : n ≤ 10) (xn : X 3 5 = nI n) (kn : K 0 19 = nI n) (r : ∀ p, p < 10 → X 6 p = K 7 p) (rd : zRd n (K 7)) (pu : ∃ u, u < 100 ∧ X 3 7 = nI u ∧ K 0 21 = nI u) (law : zL X K) (td : zTd X K) : zE n K X := ⟨n10, xn, kn, r, rd, pu, law, td⟩
/-- a store of the reference with the same text and law -/
def zS (K M : TX) : Prop :=
  (M 7 = K 7) ∧
  (M 8 = K 8) ∧
  (M 11 = K 11) ∧
  (M 12 = K 12) ∧
  (M 0 19 = K 0 19) ∧
  (M 0 20 = K 0 20) ∧
  (M 0 21 = K 0 21) ∧
  (M 0 28 = K 0 28)
theorem zS.m7 {K M : TX} (h : zS K M) : M 7 = K 7 := h.1
theorem zS.m8 {K M : TX} (h : zS K M) : M 8 = K 8 := h.2.1
theorem zS.m11 {K M : TX} (h : zS K M) : M 11 = K 11 := h.2.2.1
theorem zS.m12 {K M : TX} (h : zS K M) : M 12 = K 12 := h.2.2.2.1
theorem zS.a19 {K M : TX} (h : zS K M) : M 0 19 = K 0 19 := h.2.2.2.2.1
theorem zS.a20 {K M : TX} (h : zS K M) : M 0 20 = K 0 20 := h.2.2.2.2.2.1
theorem zS.a21 {K M : TX} (h : zS K M) : M 0 21 = K 0 21 := h.2.2.2.2.2.2.1
theorem zS.a28 {K M : TX} (h : zS K M) : M 0 28 = K 0 28 := h.2.2.2.2.2.2.2
theorem zS.mk {K M : TX} (m7 : M 7 = K 7) (m8 : M 8 = K 8) (m11 : M 11 = K 11) (m12 : M 12 = K 12) (a19 : M 0 19 = K 0 19) (a20 : M 0 20 = K 0 20) (a21 : M 0 21 = K 0 21) (a28 : M 0 28 = K 0 28) : zS K M := ⟨m7, m8, m11, m12, a19, a20, a21, a28⟩
/-- the county X is the row s -/
def zD (n : Nat) (s : Nat → Int32) (X : TX) : Prop :=
  (zWs n s) ∧
  (∀ p, p < 10 → X 4 p = s p) ∧
  (∀ p, p < 20 → X 5 p = s (10 + p)) ∧
  (∀ p, p < n → ∃ a b, s (10 + p) = nI a ∧ s (20 + p) = nI b ∧ a + b ≤ 198) ∧
  (zTal n s (fun p => s (10 + p)) (fun p => s (20 + p)) (X 9) (X 10)) ∧
  (X 3 9 = s 30) ∧
  (s 30 = -nI 1 ∨ s 30 = nI 0 ∨ s 30 = nI 1) ∧
  (X 3 10 = s 31) ∧
  (X 3 8 = s 32) ∧
  (X 3 11 = s 33)
theorem zD.xw {n : Nat} {s : Nat → Int32} {X : TX} (h : zD n s X) : zWs n s := h.1
theorem zD.w {n : Nat} {s : Nat → Int32} {X : TX} (h : zD n s X) : ∀ p, p < 10 → X 4 p = s p := h.2.1
theorem zD.v {n : Nat} {s : Nat → Int32} {X : TX} (h : zD n s X) : ∀ p, p < 20 → X 5 p = s (10 + p) := h.2.2.1
theorem zD.vb {n : Nat} {s : Nat → Int32} {X : TX} (h : zD n s X) : ∀ p, p < n → ∃ a b, s (10 + p) = nI a ∧ s (20 + p) = nI b ∧ a + b ≤ 198 := h.2.2.2.1
theorem zD.tal {n : Nat} {s : Nat → Int32} {X : TX} (h : zD n s X) : zTal n s (fun p => s (10 + p)) (fun p => s (20 + p)) (X 9) (X 10) := h.2.2.2.2.1
theorem zD.ruler {n : Nat} {s : Nat → Int32} {X : TX} (h : zD n s X) : X 3 9 = s 30 := h.2.2.2.2.2.1
theorem zD.rul {n : Nat} {s : Nat → Int32} {X : TX} (h : zD n s X) : s 30 = -nI 1 ∨ s 30 = nI 0 ∨ s 30 = nI 1 := h.2.2.2.2.2.2.1
theorem zD.reign {n : Nat} {s : Nat → Int32} {X : TX} (h : zD n s X) : X 3 10 = s 31 := h.2.2.2.2.2.2.2.1
theorem zD.year {n : Nat} {s : Nat → Int32} {X : TX} (h : zD n s X) : X 3 8 = s 32 := h.2.2.2.2.2.2.2.2.1
theorem zD.moved {n : Nat} {s : Nat → Int32} {X : TX} (h : zD n s X) : X 3 11 = s 33 := h.2.2.2.2.2.2.2.2.2
theorem zD.mk {n : Nat} {s : Nat → Int32} {X : TX} (xw : zWs n s) (w : ∀ p, p < 10 → X 4 p = s p) (v : ∀ p, p < 20 → X 5 p = s (10 + p)) (vb : ∀ p, p < n → ∃ a b, s (10 + p) = nI a ∧ s (20 + p) = nI b ∧ a + b ≤ 198) (tal : zTal n s (fun p => s (10 + p)) (fun p => s (20 + p)) (X 9) (X 10)) (ruler : X 3 9 = s 30) (rul : s 30 = -nI 1 ∨ s 30 = nI 0 ∨ s 30 = nI 1) (reign : X 3 10 = s 31) (year : X 3 8 = s 32) (moved : X 3 11 = s 33) : zD n s X := ⟨xw, w, v, vb, tal, ruler, rul, reign, year, moved⟩
def zEk (k : Nat) : Prop := k = 6 ∨ k = 7 ∨ k = 8 ∨ k = 19 ∨ k = 20
theorem zE.frame {n : Nat} {K X Y : TX} (h : zE n K X) (h5 : Y 3 5 = X 3 5) (h6 : Y 3 6 = X 3 6) (h7 : Y 3 7 = X 3 7) (hk : ∀ k, zEk k → Y k = X k) : zE n K Y := by
  have k6 := hk 6 (.inl rfl)
  have k7 := hk 7 (.inr (.inl rfl))
  have k8 := hk 8 (.inr (.inr (.inl rfl)))
  have k19 := hk 19 (.inr (.inr (.inr (.inl rfl))))
  have k20 := hk 20 (.inr (.inr (.inr (.inr rfl))))
  refine zE.mk h.n10 (h5.trans h.xn) h.kn (by rw [k6]; exact h.r) h.rd (by rw [h7]; exact h.pu) ?_ ?_
  · have := h.law; unfold zL at *; rw [k19, k20]; exact this
  · have := h.td; unfold zTd at *; rw [h6, k7, k8]; exact this
theorem zE.frame' {n : Nat} {K X Y : TX} (h : zE n K X) (h3 : Y 3 = X 3) (hk : ∀ k, zEk k → Y k = X k) : zE n K Y :=
  h.frame (by rw [h3]) (by rw [h3]) (by rw [h3]) hk
theorem zD.frame {n : Nat} {s : Nat → Int32} {X Y : TX} (h : zD n s X) (h3 : Y 3 = X 3) (h4 : Y 4 = X 4) (h5 : Y 5 = X 5) (h9 : Y 9 = X 9) (h10 : Y 10 = X 10) : zD n s Y :=
  zD.mk h.xw (by rw [h4]; exact h.w) (by rw [h5]; exact h.v) h.vb (by rw [h9, h10]; exact h.tal) (by rw [h3]; exact h.ruler) h.rul (by rw [h3]; exact h.reign) (by rw [h3]; exact h.year) (by rw [h3]; exact h.moved)
theorem zD.xws {n : Nat} {s : Nat → Int32} {X : TX} (h : zD n s X) (h10 : n ≤ 10) : zWs n (X 4) := fun p hp => by
  obtain ⟨d, hd, e⟩ := h.xw p hp
  exact ⟨d, hd, by rw [h.w p (by omega), e]⟩
theorem zD.xtal {n : Nat} {s : Nat → Int32} {X : TX} (h : zD n s X) (h10 : n ≤ 10) : zTal n (X 4) (X 5) (fun p => X 5 (10 + p)) (X 9) (X 10) := fun d hd => by
  have := h.tal d hd
  refine ⟨this.1.trans (zSet_congr fun p hp => (h.w p (by omega)).symm), this.2.trans (zLead_congr (fun p hp => (h.w p (by omega)).symm) (fun p hp => (h.v p (by omega)).symm) fun p hp => ?_)⟩
  rw [h.v (10 + p) (by omega)]; congr 1; omega
theorem zD.lead {n : Nat} {s : Nat → Int32} {X : TX} (h : zD n s X) (d : Nat) (hd : d < 4) : X 10 d = zLc n s d := (h.tal d hd).2
theorem zD.set {n : Nat} {s : Nat → Int32} {X : TX} (h : zD n s X) (d : Nat) (hd : d < 4) : X 9 d = zSet n s (nI d) := (h.tal d hd).1
theorem zD.margin {n : Nat} {s : Nat → Int32} {X : TX} (h : zD n s X) (side : Int32) : f_X3_margin X side = some (zMg n s side) := by
  rw [z3_margin]; exact congrArg some (zMar_congr h.lead side)
theorem z9_mg {M : TX} {n : Nat} (hn : M 0 19 = nI n) (h10 : n ≤ 10) {side : Nat} (hs : side < 2) : f_X9_marginOf M (nI side) = some (zMg n (M 20) (nI side)) := z9_marginOf hn h10 hs
theorem zS.refl (K : TX) : zS K K := zS.mk rfl rfl rfl rfl rfl rfl rfl rfl
theorem zS.trans {K M N : TX} (h : zS K M) (g : zS M N) : zS K N := zS.mk (g.m7.trans h.m7) (g.m8.trans h.m8) (g.m11.trans h.m11) (g.m12.trans h.m12) (g.a19.trans h.a19) (g.a20.trans h.a20) (g.a21.trans h.a21) (g.a28.trans h.a28)
theorem zS.frame {K M N : TX} (h : zS K M) (h0 : N 0 = M 0) (hk : ∀ k, (k = 7 ∨ k = 8 ∨ k = 11 ∨ k = 12) → N k = M k) : zS K N :=
  h.trans (zS.mk (hk 7 (by omega)) (hk 8 (by omega)) (hk 11 (by omega)) (hk 12 (by omega)) (by rw [h0]) (by rw [h0]) (by rw [h0]) (by rw [h0]))
theorem zLines_congr {r r' w w' : Nat → Int32} {n : Nat} (hr : ∀ a, a < n → r a = r' a) (hw : ∀ a, a < n → w a = w' a) : zLines r w n = zLines r' w' n := by
  unfold zLines
  exact nS_congr fun a ha => nS_congr fun b hb => by unfold zEg; rw [hr a ha, hw a ha, hw b (by omega)]
theorem zLinesX {n : Nat} {s : Nat → Int32} {K X : TX} (hE : zE n K X) (hD : zD n s X) : f_X3_lines X = some (nI (zLines (K 7) s n)) := by
  have h10 := hE.n10
  have hr : zRd n (X 6) := by
    have := hE.rd
    exact ⟨fun a ha b hb => this.1 a ha b (by rw [← hE.r a (by omega)]; exact hb), fun a b ha hb => by rw [hE.r a (by omega), hE.r b (by omega)]; exact this.2.1 a b ha hb, fun a ha => by rw [hE.r a (by omega)]; exact this.2.2 a ha⟩
  rw [z3_lines hE.xn h10 (hD.xws h10) (hD.xtal h10) hr]
  rw [zLines_congr (fun a ha => hE.r a (by omega)) (fun a ha => hD.w a (by omega))]
