set_option linter.unusedVariables false
def zTp (X M : TX) : Prop := ∃ t, t ≤ 600 ∧ X 1 1 = nI t ∧ M 0 2 = nI t ∧ ∀ j, j < t → ∃ v, v < 256 ∧ X 2 j = nI v ∧ M 2 j = nI v
def zBk (X M : TX) : Prop := (∀ d, d < 4 → (bt (X 27 1) d = true ∧ ∃ w, w ≤ 2 ∧ M 18 d = nI w ∧ X 28 d = if w = 2 then -nI 1 else nI w) ∨ (bt (X 27 1) d = false ∧ M 18 d = -nI 1)) ∧ (∀ q, bt (X 27 1) q = true → q < 4) ∧ M 0 40 = nI (zCnt 10 (X 27 1))
/-- a kept row on both sides -/
def zRp (n : Nat) (X : TX) (k a : Nat) (M : TX) (l b : Nat) : Prop := zRx (fun j => X k (a + j)) (fun j => M l (b + j)) ∧ zGd n (fun j => M l (b + j))
def zWk (n : Nat) (X M : TX) : Prop := ∃ w, w ≤ 16 ∧ X 37 3 = nI w ∧ M 0 33 = nI w ∧ ∀ i, i < w → zRp n X 38 (34 * i) M 21 (34 * i)
def zIm1 (n : Nat) (X M : TX) (i : Nat) : Prop := zRp n X 39 (578 * i) M 26 (579 * i) ∧ ∃ w, w ≤ 16 ∧ X 40 i = nI w ∧ M 26 (579 * i + 578) = nI w ∧ ∀ l, l < w → zRp n X 39 (578 * i + 34 + 34 * l) M 26 (579 * i + 34 + 34 * l)
def zIm (n : Nat) (X M : TX) : Prop := ∃ m, m ≤ 3 ∧ X 37 4 = nI m ∧ M 0 50 = nI m ∧ ∀ i, i < m → zIm1 n X M i
/-- class and reference agree -/
def zV (n : Nat) (X M : TX) : Prop :=
  (zE n M X) ∧
  (zD n (M 19) X) ∧
  (zYr 400 (M 19)) ∧
  (zTp X M) ∧
  (X 1 7 = M 0 8) ∧
  (zBk X M) ∧
  (zWk n X M) ∧
  (zIm n X M) ∧
  (X 0 11 = M 0 34) ∧
  (X 0 12 = M 1 0) ∧
  (X 0 13 = M 1 1)
theorem zV.e {n : Nat} {X M : TX} (h : zV n X M) : zE n M X := h.1
theorem zV.d {n : Nat} {X M : TX} (h : zV n X M) : zD n (M 19) X := h.2.1
theorem zV.y {n : Nat} {X M : TX} (h : zV n X M) : zYr 400 (M 19) := h.2.2.1
theorem zV.tp {n : Nat} {X M : TX} (h : zV n X M) : zTp X M := h.2.2.2.1
theorem zV.fa {n : Nat} {X M : TX} (h : zV n X M) : X 1 7 = M 0 8 := h.2.2.2.2.1
theorem zV.bk {n : Nat} {X M : TX} (h : zV n X M) : zBk X M := h.2.2.2.2.2.1
theorem zV.wk {n : Nat} {X M : TX} (h : zV n X M) : zWk n X M := h.2.2.2.2.2.2.1
theorem zV.im {n : Nat} {X M : TX} (h : zV n X M) : zIm n X M := h.2.2.2.2.2.2.2.1
theorem zV.rs {n : Nat} {X M : TX} (h : zV n X M) : X 0 11 = M 0 34 := h.2.2.2.2.2.2.2.2.1
theorem zV.no {n : Nat} {X M : TX} (h : zV n X M) : X 0 12 = M 1 0 := h.2.2.2.2.2.2.2.2.2.1
theorem zV.il {n : Nat} {X M : TX} (h : zV n X M) : X 0 13 = M 1 1 := h.2.2.2.2.2.2.2.2.2.2
theorem zV.mk {n : Nat} {X M : TX} (e : zE n M X) (d : zD n (M 19) X) (y : zYr 400 (M 19)) (tp : zTp X M) (fa : X 1 7 = M 0 8) (bk : zBk X M) (wk : zWk n X M) (im : zIm n X M) (rs : X 0 11 = M 0 34) (no : X 0 12 = M 1 0) (il : X 0 13 = M 1 1) : zV n X M := ⟨e, d, y, tp, fa, bk, wk, im, rs, no, il⟩
def zQX (X Y : TX) : Prop := (∀ k, k ≠ 21 → k ≠ 22 → k ≠ 27 → k ≠ 33 → k ≠ 34 → k ≠ 35 → k ≠ 36 → Y k = X k) ∧ Y 27 1 = X 27 1
def zQM (M N : TX) : Prop := (∀ k, k ≠ 0 → k ≠ 13 → k ≠ 14 → k ≠ 20 → k ≠ 22 → k ≠ 23 → k ≠ 24 → N k = M k) ∧ ∀ j, j ≠ 0 → j ≠ 48 → N 0 j = M 0 j
theorem zQX.refl (X : TX) : zQX X X := ⟨fun _ _ _ _ _ _ _ _ => rfl, rfl⟩
theorem zQM.refl (M : TX) : zQM M M := ⟨fun _ _ _ _ _ _ _ _ => rfl, fun _ _ _ => rfl⟩
theorem zQX.trans {X Y Z : TX} (h : zQX X Y) (g : zQX Y Z) : zQX X Z := ⟨fun k a b c d e f i => (g.1 k a b c d e f i).trans (h.1 k a b c d e f i), g.2.trans h.2⟩
theorem zQM.trans {X Y Z : TX} (h : zQM X Y) (g : zQM Y Z) : zQM X Z := ⟨fun k a b c d e f i => (g.1 k a b c d e f i).trans (h.1 k a b c d e f i), fun j a b => (g.2 j a b).trans (h.2 j a b)⟩
theorem zQM.s {M N : TX} (h : zQM M N) : zS M N :=
  zS.mk (h.1 7 (by decide) (by decide) (by decide) (by decide) (by decide) (by decide) (by decide)) (h.1 8 (by decide) (by decide) (by decide) (by decide) (by decide) (by decide) (by decide)) (h.1 11 (by decide) (by decide) (by decide) (by decide) (by decide) (by decide) (by decide)) (h.1 12 (by decide) (by decide) (by decide) (by decide) (by decide) (by decide) (by decide)) (h.2 19 (by decide) (by decide)) (h.2 20 (by decide) (by decide)) (h.2 21 (by decide) (by decide)) (h.2 28 (by decide) (by decide))
theorem zFM.q {M N : TX} (h : zFM M N) : zQM M N := ⟨fun k _ b c d _ _ _ => h k b c d, fun j _ _ => by rw [h 0 (by decide) (by decide) (by decide)]⟩
theorem zQM_0 (M : TX) (v : Int32) : zQM M (u2 M 0 0 v) := ⟨fun k a _ _ _ _ _ _ => z_u2k _ _ _ _ a, fun j a _ => z_u2j _ _ _ _ a⟩
theorem zE.q {n : Nat} {K M X Y : TX} (h : zE n K X) (hX : zQX X Y) : zE n K Y :=
  h.frame' (hX.1 3 (by decide) (by decide) (by decide) (by decide) (by decide) (by decide) (by decide)) fun k hk => by unfold zEk at hk; exact hX.1 k (by omega) (by omega) (by omega) (by omega) (by omega) (by omega) (by omega)
theorem zE_K {n : Nat} {K M X : TX} (h : zE n K X) (g : zS K M) : zE n M X := by
  refine zE.mk h.n10 h.xn (g.a19.trans h.kn) (by rw [g.m7]; exact h.r) (by rw [g.m7]; exact h.rd) (by rw [g.a21]; exact h.pu) ?_ ?_
  · have := h.law; unfold zL at *; rw [g.a28, g.m11, g.m12]; exact this
  · have := h.td; unfold zTd at *; rw [g.a20, g.m8]; exact this
theorem zD.q {n : Nat} {s : Nat → Int32} {X Y : TX} (h : zD n s X) (hX : zQX X Y) : zD n s Y :=
  h.frame (hX.1 3 (by decide) (by decide) (by decide) (by decide) (by decide) (by decide) (by decide)) (hX.1 4 (by decide) (by decide) (by decide) (by decide) (by decide) (by decide) (by decide)) (hX.1 5 (by decide) (by decide) (by decide) (by decide) (by decide) (by decide) (by decide)) (hX.1 9 (by decide) (by decide) (by decide) (by decide) (by decide) (by decide) (by decide)) (hX.1 10 (by decide) (by decide) (by decide) (by decide) (by decide) (by decide) (by decide))
theorem zRp_congr {n : Nat} {X Y M N : TX} {k a l b : Nat} (h : zRp n X k a M l b) (hX : Y k = X k) (hM : N l = M l) : zRp n Y k a N l b := by
  unfold zRp at *; rw [hX, hM]; exact h
theorem zIm1_congr {n : Nat} {X Y M N : TX} {i : Nat} (h : zIm1 n X M i) (h39 : Y 39 = X 39) (h40 : Y 40 = X 40) (hM : N 26 = M 26) : zIm1 n Y N i := by
  unfold zIm1 zRp at *; rw [h39, h40, hM]; exact h
theorem zIm_congr {n : Nat} {X Y M N : TX} (h : zIm n X M) (h37 : Y 37 4 = X 37 4) (h39 : Y 39 = X 39) (h40 : Y 40 = X 40) (h50 : N 0 50 = M 0 50) (hM : N 26 = M 26) : zIm n Y N := by
  obtain ⟨m, h1, h2, h3, h4⟩ := h
  exact ⟨m, h1, h37.trans h2, h50.trans h3, fun i hi => zIm1_congr (h4 i hi) h39 h40 hM⟩
theorem zWk_congr {n : Nat} {X Y M N : TX} (h : zWk n X M) (h37 : Y 37 3 = X 37 3) (h38 : Y 38 = X 38) (h33 : N 0 33 = M 0 33) (hM : N 21 = M 21) : zWk n Y N := by
  obtain ⟨m, h1, h2, h3, h4⟩ := h
  exact ⟨m, h1, h37.trans h2, h33.trans h3, fun i hi => zRp_congr (h4 i hi) h38 hM⟩
theorem zV.q {n : Nat} {X Y M N : TX} (h : zV n X M) (hX : zQX X Y) (hM : zQM M N) : zV n Y N := by
  have xk : ∀ k, k ≠ 21 ∧ k ≠ 22 ∧ k ≠ 27 ∧ k ≠ 33 ∧ k ≠ 34 ∧ k ≠ 35 ∧ k ≠ 36 → Y k = X k := fun k ⟨a, b, c, d, e, f, g⟩ => hX.1 k a b c d e f g
  have mk : ∀ k, k ≠ 0 ∧ k ≠ 13 ∧ k ≠ 14 ∧ k ≠ 20 ∧ k ≠ 22 ∧ k ≠ 23 ∧ k ≠ 24 → N k = M k := fun k ⟨a, b, c, d, e, f, g⟩ => hM.1 k a b c d e f g
  have m0 : ∀ j, j ≠ 0 ∧ j ≠ 48 → N 0 j = M 0 j := fun j ⟨a, b⟩ => hM.2 j a b
  refine zV.mk (zE_K (h.e.q (M := M) hX) hM.s) ?_ ?_ ?_ ?_ ?_ ?_ ?_ ?_ ?_ ?_
  · rw [mk 19 (by decide)]; exact h.d.q hX
  · rw [mk 19 (by decide)]; exact h.y
  · have := h.tp; unfold zTp at *; rw [xk 1 (by decide), xk 2 (by decide), m0 2 (by decide), mk 2 (by decide)]; exact this
  · rw [xk 1 (by decide), m0 8 (by decide)]; exact h.fa
  · have := h.bk; unfold zBk at *; rw [hX.2, xk 28 (by decide), m0 40 (by decide), mk 18 (by decide)]; exact this
  · exact zWk_congr h.wk (by rw [xk 37 (by decide)]) (xk 38 (by decide)) (m0 33 (by decide)) (mk 21 (by decide))
  · exact zIm_congr h.im (by rw [xk 37 (by decide)]) (xk 39 (by decide)) (xk 40 (by decide)) (m0 50 (by decide)) (mk 26 (by decide))
  · rw [xk 0 (by decide), m0 34 (by decide)]; exact h.rs
  · rw [xk 0 (by decide), mk 1 (by decide)]; exact h.no
  · rw [xk 0 (by decide), mk 1 (by decide)]; exact h.il
/-- a refusal: no such element (j = 0), a wrong argument (j = 1) -/
theorem zV.refuse {n : Nat} {X M : TX} (h : zV n X M) {j : Nat} (hj : j < 2) (c : Int32) : zV n (u2 X 0 (12 + j) (X 0 (12 + j) + nI 1)) (u2 (u2 M 0 0 c) 1 j (M 1 j + nI 1)) := by
  have xk : ∀ k, k ≠ 0 → u2 X 0 (12 + j) (X 0 (12 + j) + nI 1) k = X k := fun k hk => z_u2k _ _ _ _ hk
  have mk : ∀ k, k ≠ 0 → k ≠ 1 → u2 (u2 M 0 0 c) 1 j (M 1 j + nI 1) k = M k := fun k h0 h1 => by rw [z_u2k _ _ _ _ h1, z_u2k _ _ _ _ h0]
  have m0 : ∀ i, i ≠ 0 → u2 (u2 M 0 0 c) 1 j (M 1 j + nI 1) 0 i = M 0 i := fun i hi => by rw [z_u2k _ _ _ _ (by decide), z_u2j _ _ _ _ hi]
  have hS : zS M (u2 (u2 M 0 0 c) 1 j (M 1 j + nI 1)) := zS.mk (mk 7 (by decide) (by decide)) (mk 8 (by decide) (by decide)) (mk 11 (by decide) (by decide)) (mk 12 (by decide) (by decide)) (m0 19 (by decide)) (m0 20 (by decide)) (m0 21 (by decide)) (m0 28 (by decide))
  refine zV.mk (zE_K (h.e.frame' (xk 3 (by decide)) fun k hk => xk k (by unfold zEk at hk; omega)) hS) ?_ ?_ ?_ ?_ ?_ ?_ ?_ ?_ ?_ ?_
  · rw [mk 19 (by decide) (by decide)]; exact h.d.frame (xk 3 (by decide)) (xk 4 (by decide)) (xk 5 (by decide)) (xk 9 (by decide)) (xk 10 (by decide))
  · rw [mk 19 (by decide) (by decide)]; exact h.y
  · have := h.tp; unfold zTp at *; rw [xk 1 (by decide), xk 2 (by decide), m0 2 (by decide), mk 2 (by decide) (by decide)]; exact this
  · rw [xk 1 (by decide), m0 8 (by decide)]; exact h.fa
  · have := h.bk; unfold zBk at *; rw [xk 27 (by decide), xk 28 (by decide), m0 40 (by decide), mk 18 (by decide) (by decide)]; exact this
  · exact zWk_congr h.wk (by rw [xk 37 (by decide)]) (xk 38 (by decide)) (m0 33 (by decide)) (mk 21 (by decide) (by decide))
  · exact zIm_congr h.im (by rw [xk 37 (by decide)]) (xk 39 (by decide)) (xk 40 (by decide)) (m0 50 (by decide)) (mk 26 (by decide) (by decide))
  · rw [z_u2j _ _ _ _ (by omega), m0 34 (by decide)]; exact h.rs
  · have hj' : j = 0 ∨ j = 1 := by omega
    rcases hj' with rfl | rfl
    · rw [z_u2s, z_u2s, h.no]
    · rw [z_u2j _ _ _ _ (by decide), z_u2j _ _ _ _ (by decide), z_u2k _ _ _ _ (by decide)]; exact h.no
  · have hj' : j = 0 ∨ j = 1 := by omega
    rcases hj' with rfl | rfl
    · rw [z_u2j _ _ _ _ (by decide), z_u2j _ _ _ _ (by decide), z_u2k _ _ _ _ (by decide)]; exact h.il
    · rw [z_u2s, z_u2s, h.il]
/-- a call's two answers: the same, or a refusal of one kind -/
def zCs (c0 c1 : Option Int32) (q : Option (TX × (Int32 ⊕ Nat))) (r : Option (TX × Int32)) : Prop :=
  (∃ n X M v, q = some (X, .inl v) ∧ r = some (M, v) ∧ M 0 0 = nI 0 ∧ zV n X M) ∨
  (∃ n X M v e z, q = some (X, .inr e) ∧ r = some (M, v) ∧ (if e = 0 then c0 else c1) = some z ∧ z ≠ nI 0 ∧ M 0 0 = z ∧ zV n X M)
/-- a call that refuses nothing -/
def zOq (q : Option (TX × Int32)) (r : Option (TX × Int32)) : Prop := ∃ n X M v, q = some (X, v) ∧ r = some (M, v) ∧ zV n X M
theorem zCs_ok {c0 c1 : Option Int32} {q : Option (TX × (Int32 ⊕ Nat))} {r : Option (TX × Int32)} {n : Nat} {X Y M N : TX} {v : Int32} (h : zV n X M) (hq : q = some (Y, .inl v)) (hr : r = some (N, v)) (h0 : N 0 0 = nI 0) (hX : zQX X Y) (hM : zQM M N) : zCs c0 c1 q r :=
  .inl ⟨n, Y, N, v, hq, hr, h0, h.q hX hM⟩
theorem zCs_no {c1 : Option Int32} {q : Option (TX × (Int32 ⊕ Nat))} {r : Option (TX × Int32)} {n : Nat} {X M : TX} {v : Int32} (h : zV n X M) (hq : q = some (u2 X 0 12 (X 0 12 + nI 1), .inr 0)) (hr : r = some (u2 (u2 M 0 0 (nI 1)) 1 0 (M 1 0 + nI 1), v)) : zCs (some (nI 1)) c1 q r :=
  .inr ⟨n, _, _, v, 0, nI 1, hq, hr, rfl, by decide, by rw [z_u2k _ _ _ _ (by decide), z_u2s], h.refuse (j := 0) (by omega) (nI 1)⟩
theorem zCs_il {c0 : Option Int32} {c : Nat} (hc : c = 1 ∨ c = 2) {q : Option (TX × (Int32 ⊕ Nat))} {r : Option (TX × Int32)} {n : Nat} {X M : TX} {v : Int32} (h : zV n X M) (hq : q = some (u2 X 0 13 (X 0 13 + nI 1), .inr 1)) (hr : r = some (u2 (u2 M 0 0 (nI c)) 1 1 (M 1 1 + nI 1), v)) : zCs c0 (some (nI c)) q r :=
  .inr ⟨n, _, _, v, 1, nI c, hq, hr, rfl, by rcases hc with rfl | rfl <;> decide, by rw [z_u2k _ _ _ _ (by decide), z_u2s], h.refuse (j := 1) (by omega) (nI c)⟩
theorem zV.take {n : Nat} {X M M1 : TX} (h : zV n X M) (hQ : zQM M M1) : ∃ N, f_X9_take M1 = some N ∧ zQM M N ∧ N 0 = M1 0 ∧ zS M N ∧ zD n (N 20) X ∧ zYr 400 (N 20) ∧ (∀ j, j < 34 → N 20 j = M 19 j) := by
  obtain ⟨N, e1, e2, e3⟩ := z9_copies (a := 19) (b := 20) (by decide) (M := M1) (m := 34) (by decide) (by decide) (by omega)
  have h19 : M1 19 = M 19 := hQ.1 19 (by decide) (by decide) (by decide) (by decide) (by decide) (by decide) (by decide)
  have hrow : ∀ j, j < 34 → N 20 j = M 19 j := fun j hj => by rw [e3, h19]; simp [hj]
  have hq : zQM M N := hQ.trans ⟨fun k _ _ _ d _ _ _ => e2 k d, fun j _ _ => by rw [e2 0 (by decide)]⟩
  refine ⟨N, ?_, hq, e2 0 (by decide), hq.s, h.d.congr h.e.n10 hrow, ?_, hrow⟩
  · unfold f_X9_take
    have e1' : f_X9_copies 19 20 M1 (34 : Int32) = some N := e1
    rw [e1']; rfl
  · obtain ⟨y, hy, e⟩ := h.y
    exact ⟨y, hy, by rw [hrow 32 (by decide), e]⟩
theorem z_rng (m : Nat) (hm : m < 1000) (x : Int32) : x < nI 0 ∨ (¬ x < nI 0 ∧ nI m < x) ∨ ∃ w, w ≤ m ∧ x = nI w := by
  by_cases h : x < nI 0
  · exact .inl h
  · by_cases g : nI m < x
    · exact .inr (.inl ⟨h, g⟩)
    · right; right
      rw [Int32.lt_iff_toInt_lt, z_nI_toInt (by omega)] at h g
      refine ⟨x.toInt.toNat, by omega, ?_⟩
      apply Int32.toInt_inj.1
      rw [z_nI_toInt (by omega)]; omega
/-- an index: too small, too large, or one of them -/
theorem z_idx (m : Nat) (hm : m < 1000) (x : Int32) : (x < nI 0) ∨ (¬ x < nI 0 ∧ nI m ≤ x ∧ nI m - nI 1 < x) ∨ ∃ w, w < m ∧ x = nI w ∧ ¬ nI m - nI 1 < x := by
  have e : (nI m - nI 1).toInt = m - 1 := by rw [zI_nat, zI_nat, zI_sub, zI_toInt (by omega) (by omega)]; omega
  by_cases h : x < nI 0
  · exact .inl h
  · by_cases g : nI m ≤ x
    · refine .inr (.inl ⟨h, g, ?_⟩)
      rw [Int32.le_iff_toInt_le, z_nI_toInt (by omega)] at g
      rw [Int32.lt_iff_toInt_lt, e]; omega
    · right; right
      have h' := h
      rw [Int32.lt_iff_toInt_lt, z_nI_toInt (by omega)] at h'
      rw [Int32.le_iff_toInt_le, z_nI_toInt (by omega)] at g
      refine ⟨x.toInt.toNat, by omega, ?_, ?_⟩
      · apply Int32.toInt_inj.1
        rw [z_nI_toInt (by omega)]; omega
      · rw [Int32.lt_iff_toInt_lt, e]; omega
theorem z9_within (x : Int32) {a b : Int32} : f_X9_within x a b = some (if x < a then nI 0 else if b < x then nI 0 else nI 1) := by
  unfold f_X9_within
  by_cases h : x < a
  · rw [if_pos h, if_pos h]; rfl
  · rw [if_neg h, if_neg h]
    by_cases g : b < x
    · rw [if_pos g, if_pos g]; rfl
    · rw [if_neg g, if_neg g]; rfl
theorem z9_lets1 {M : TX} (h : M 0 0 = nI 0) (c : Int32) (j : Int32) : f_X9_lets M (nI 1) c j = some (M, nI 1) := by
  have t10 : ¬ ((1 : Nat) = 0) := by decide
  simp (discharger := omega) only [f_X9_lets, h, t10, z_lit, z_nI_le, z_nI_lt, z_nI_inj, z_inb, z_nI_tn, z_nI_add, z_nI_mul, z_bitN, z_zb, z_0add, z_add0, z_0or, z_or0, Option.bind_some, decide_eq_true_eq, Nat.zero_add, Nat.add_zero, ↓reduceIte]
theorem z9_lets0 {M : TX} (h : M 0 0 = nI 0) {c j : Nat} (hc : c = 1 ∨ c = 2) (hj : j < 2) : f_X9_lets M (nI 0) (nI c) (nI j) = some (u2 (u2 M 0 0 (nI c)) 1 j (M 1 j + nI 1), nI 0) := by
  have h01 : ¬ ((0 : Nat) = 1) := by decide
  have h10 : ¬ ((1 : Nat) = 0) := by decide
  have hcn : ¬ c = 0 := by omega
  simp (discharger := omega) only [f_X9_lets, h, hcn, hj, z_u2k _ _ _ _ h01, z_u2k _ _ _ _ h10, z_u2s, z_lit, z_nI_le, z_nI_lt, z_nI_inj, z_inb, z_nI_tn, z_nI_add, z_nI_mul, z_bitN, z_zb, z_0add, z_add0, z_0or, z_or0, Option.bind_some, decide_eq_true_eq, Nat.zero_add, Nat.add_zero, ↓reduceIte]
theorem z9_there {M : TX} (h : M 0 0 = nI 0) {m : Nat} (x : Int32) : f_X9_isThere M x (nI m) = if x < nI 0 ∨ nI m - nI 1 < x then some (u2 (u2 M 0 0 (nI 1)) 1 0 (M 1 0 + nI 1), nI 0) else some (M, nI 1) := by
  have b11 : (nI 1 &&& nI 1) = nI 1 := by decide
  have b00 : (nI 0 &&& nI 1) = nI 0 := by decide
  have l0 := z9_lets0 h (c := 1) (j := 0) (by omega) (by omega)
  have l1 := z9_lets1 h (nI 1) (nI 0)
  by_cases c1 : x < nI 0
  · rw [if_pos (.inl c1)]
    simp (discharger := omega) only [f_X9_isThere, z9_within, c1, l0, b00, z_lit, z_nI_le, z_nI_lt, z_nI_inj, z_inb, z_nI_tn, z_nI_add, z_nI_mul, z_bitN, z_zb, z_0add, z_add0, z_0or, z_or0, Option.bind_some, decide_eq_true_eq, Nat.zero_add, Nat.add_zero, ↓reduceIte]
  · by_cases c2 : nI m - nI 1 < x
    · rw [if_pos (.inr c2)]
      simp (discharger := omega) only [f_X9_isThere, z9_within, c1, c2, l0, b00, z_lit, z_nI_le, z_nI_lt, z_nI_inj, z_inb, z_nI_tn, z_nI_add, z_nI_mul, z_bitN, z_zb, z_0add, z_add0, z_0or, z_or0, Option.bind_some, decide_eq_true_eq, Nat.zero_add, Nat.add_zero, ↓reduceIte]
    · rw [if_neg (by simp [c1, c2])]
      simp (discharger := omega) only [f_X9_isThere, z9_within, c1, c2, l1, b11, z_lit, z_nI_le, z_nI_lt, z_nI_inj, z_inb, z_nI_tn, z_nI_add, z_nI_mul, z_bitN, z_zb, z_0add, z_add0, z_0or, z_or0, Option.bind_some, decide_eq_true_eq, Nat.zero_add, Nat.add_zero, ↓reduceIte]
