set_option linter.unusedVariables false
/-- the county being read, on both sides -/
def zKD (n t : Nat) (X M : TX) : Prop :=
  (n ≤ 10) ∧
  (t ≤ 6) ∧
  (X 11 5 = nI n) ∧
  (M 0 16 = nI n) ∧
  (X 11 6 = nI t) ∧
  (M 0 17 = nI t) ∧
  (∃ u, u < 100 ∧ X 11 7 = nI u ∧ M 0 18 = nI u) ∧
  (∀ p, p < n → ∃ w, w < 4 ∧ X 12 p = nI w ∧ M 3 (3 * p) = nI w) ∧
  (∀ p, p < n → ∃ a b, a < 100 ∧ b < 100 ∧ X 13 p = nI a ∧ X 13 (10 + p) = nI b ∧ M 3 (3 * p + 1) = nI a ∧ M 3 (3 * p + 2) = nI b) ∧
  (∀ p, n ≤ p → p < 10 → X 12 p = nI 0 ∧ X 13 p = nI 0 ∧ X 13 (10 + p) = nI 0) ∧
  (∀ p, p < 10 → X 14 p = M 4 p) ∧
  (zRd n (M 4)) ∧
  (∀ p, n ≤ p → p < 10 → M 4 p = nI 0) ∧
  (∀ i, i < t → ∃ a b, a < 2 ∧ b ≤ 20 ∧ X 15 i = nI a ∧ M 5 (2 * i) = nI a ∧ X 16 i = nI b ∧ M 5 (2 * i + 1) = nI b) ∧
  (X 11 8 = nI 0 ∧ X 11 9 = -nI 1 ∧ X 11 10 = nI 0 ∧ X 11 11 = nI 0) ∧
  (X 1 7 = -nI 1)
theorem zKD.n10 {n t : Nat} {X M : TX} (h : zKD n t X M) : n ≤ 10 := h.1
theorem zKD.t6 {n t : Nat} {X M : TX} (h : zKD n t X M) : t ≤ 6 := h.2.1
theorem zKD.xn {n t : Nat} {X M : TX} (h : zKD n t X M) : X 11 5 = nI n := h.2.2.1
theorem zKD.mn {n t : Nat} {X M : TX} (h : zKD n t X M) : M 0 16 = nI n := h.2.2.2.1
theorem zKD.xt {n t : Nat} {X M : TX} (h : zKD n t X M) : X 11 6 = nI t := h.2.2.2.2.1
theorem zKD.mt {n t : Nat} {X M : TX} (h : zKD n t X M) : M 0 17 = nI t := h.2.2.2.2.2.1
theorem zKD.pu {n t : Nat} {X M : TX} (h : zKD n t X M) : ∃ u, u < 100 ∧ X 11 7 = nI u ∧ M 0 18 = nI u := h.2.2.2.2.2.2.1
theorem zKD.w {n t : Nat} {X M : TX} (h : zKD n t X M) : ∀ p, p < n → ∃ w, w < 4 ∧ X 12 p = nI w ∧ M 3 (3 * p) = nI w := h.2.2.2.2.2.2.2.1
theorem zKD.v {n t : Nat} {X M : TX} (h : zKD n t X M) : ∀ p, p < n → ∃ a b, a < 100 ∧ b < 100 ∧ X 13 p = nI a ∧ X 13 (10 + p) = nI b ∧ M 3 (3 * p + 1) = nI a ∧ M 3 (3 * p + 2) = nI b := h.2.2.2.2.2.2.2.2.1
theorem zKD.z {n t : Nat} {X M : TX} (h : zKD n t X M) : ∀ p, n ≤ p → p < 10 → X 12 p = nI 0 ∧ X 13 p = nI 0 ∧ X 13 (10 + p) = nI 0 := h.2.2.2.2.2.2.2.2.2.1
theorem zKD.r {n t : Nat} {X M : TX} (h : zKD n t X M) : ∀ p, p < 10 → X 14 p = M 4 p := h.2.2.2.2.2.2.2.2.2.2.1
theorem zKD.rd {n t : Nat} {X M : TX} (h : zKD n t X M) : zRd n (M 4) := h.2.2.2.2.2.2.2.2.2.2.2.1
theorem zKD.rz {n t : Nat} {X M : TX} (h : zKD n t X M) : ∀ p, n ≤ p → p < 10 → M 4 p = nI 0 := h.2.2.2.2.2.2.2.2.2.2.2.2.1
theorem zKD.td {n t : Nat} {X M : TX} (h : zKD n t X M) : ∀ i, i < t → ∃ a b, a < 2 ∧ b ≤ 20 ∧ X 15 i = nI a ∧ M 5 (2 * i) = nI a ∧ X 16 i = nI b ∧ M 5 (2 * i + 1) = nI b := h.2.2.2.2.2.2.2.2.2.2.2.2.2.1
theorem zKD.dz {n t : Nat} {X M : TX} (h : zKD n t X M) : X 11 8 = nI 0 ∧ X 11 9 = -nI 1 ∧ X 11 10 = nI 0 ∧ X 11 11 = nI 0 := h.2.2.2.2.2.2.2.2.2.2.2.2.2.2.1
theorem zKD.f7 {n t : Nat} {X M : TX} (h : zKD n t X M) : X 1 7 = -nI 1 := h.2.2.2.2.2.2.2.2.2.2.2.2.2.2.2
theorem zKD.mk {n t : Nat} {X M : TX} (n10 : n ≤ 10) (t6 : t ≤ 6) (xn : X 11 5 = nI n) (mn : M 0 16 = nI n) (xt : X 11 6 = nI t) (mt : M 0 17 = nI t) (pu : ∃ u, u < 100 ∧ X 11 7 = nI u ∧ M 0 18 = nI u) (w : ∀ p, p < n → ∃ w, w < 4 ∧ X 12 p = nI w ∧ M 3 (3 * p) = nI w) (v : ∀ p, p < n → ∃ a b, a < 100 ∧ b < 100 ∧ X 13 p = nI a ∧ X 13 (10 + p) = nI b ∧ M 3 (3 * p + 1) = nI a ∧ M 3 (3 * p + 2) = nI b) (z : ∀ p, n ≤ p → p < 10 → X 12 p = nI 0 ∧ X 13 p = nI 0 ∧ X 13 (10 + p) = nI 0) (r : ∀ p, p < 10 → X 14 p = M 4 p) (rd : zRd n (M 4)) (rz : ∀ p, n ≤ p → p < 10 → M 4 p = nI 0) (td : ∀ i, i < t → ∃ a b, a < 2 ∧ b ≤ 20 ∧ X 15 i = nI a ∧ M 5 (2 * i) = nI a ∧ X 16 i = nI b ∧ M 5 (2 * i + 1) = nI b) (dz : X 11 8 = nI 0 ∧ X 11 9 = -nI 1 ∧ X 11 10 = nI 0 ∧ X 11 11 = nI 0) (f7 : X 1 7 = -nI 1) : zKD n t X M := ⟨n10, t6, xn, mn, xt, mt, pu, w, v, z, r, rd, rz, td, dz, f7⟩
/-- what reading a county leaves alone -/
def zKX (X Y : TX) : Prop := (∀ k, k ≠ 1 → k < 11 ∨ 16 < k → Y k = X k) ∧ Y 1 1 = X 1 1
def zKM (M N : TX) : Prop := (∀ k, k ≠ 0 → k ≠ 3 → k ≠ 4 → k ≠ 5 → N k = M k) ∧ ∀ j, j ≠ 4 → j ≠ 5 → j ≠ 6 → j ≠ 16 → j ≠ 17 → j ≠ 18 → N 0 j = M 0 j
theorem zKX.refl (X : TX) : zKX X X := ⟨fun _ _ _ => rfl, rfl⟩
theorem zKX.trans {X Y Z : TX} (h : zKX X Y) (g : zKX Y Z) : zKX X Z := ⟨fun k a b => (g.1 k a b).trans (h.1 k a b), g.2.trans h.2⟩
theorem zKM.refl (M : TX) : zKM M M := ⟨fun _ _ _ _ _ => rfl, fun _ _ _ _ _ _ _ => rfl⟩
theorem zKM.trans {M N P : TX} (h : zKM M N) (g : zKM N P) : zKM M P := ⟨fun k a b c d => (g.1 k a b c d).trans (h.1 k a b c d), fun j a b c d e f => (g.2 j a b c d e f).trans (h.2 j a b c d e f)⟩
theorem zTX.cx {X Y : TX} (h : zTX X Y) : zKX X Y := ⟨fun k a _ => h.1 k a, h.2 1 (by decide) (by decide) (by decide)⟩
theorem zTM.cm {M N : TX} (h : zTM M N) : zKM M N := ⟨fun k a _ _ _ => h.1 k a, fun j a _ _ _ _ _ => h.2 j a⟩
theorem zMF.cm {s : Nat} {T : Nat → Nat} {M N : TX} {kd pl : Nat} (h : zMF s T M N kd pl) : zKM M N := ⟨fun k a _ _ _ => h.1 k a, fun j a b c _ _ _ => h.2.1 j a b c⟩
theorem zTF.cx {X Y : TX} {kd pl : Nat} (h : zTF X Y kd pl) : zKX X Y := ⟨fun k a _ => h.1 k a, h.2.1⟩
theorem zKD.fr {n t : Nat} {X Y M N : TX} (h : zKD n t X M) (hX : zTX X Y) (hM : zTM M N) : zKD n t Y N := by
  have k : ∀ k, k ≠ 1 → Y k = X k := hX.1
  have m : ∀ k, k ≠ 0 → N k = M k := hM.1
  have m0 : ∀ j, j ≠ 4 → N 0 j = M 0 j := hM.2
  refine zKD.mk h.n10 h.t6 ?_ ?_ ?_ ?_ ?_ ?_ ?_ ?_ ?_ ?_ ?_ ?_ ?_ ?_
  · rw [k 11 (by decide)]; exact h.xn
  · rw [m0 16 (by decide)]; exact h.mn
  · rw [k 11 (by decide)]; exact h.xt
  · rw [m0 17 (by decide)]; exact h.mt
  · rw [k 11 (by decide), m0 18 (by decide)]; exact h.pu
  · rw [k 12 (by decide), m 3 (by decide)]; exact h.w
  · rw [k 13 (by decide), m 3 (by decide)]; exact h.v
  · rw [k 12 (by decide), k 13 (by decide)]; exact h.z
  · rw [k 14 (by decide), m 4 (by decide)]; exact h.r
  · rw [m 4 (by decide)]; exact h.rd
  · rw [m 4 (by decide)]; exact h.rz
  · rw [k 15 (by decide), k 16 (by decide), m 5 (by decide)]; exact h.td
  · rw [k 11 (by decide)]; exact h.dz
  · rw [hX.2 7 (by decide) (by decide) (by decide)]; exact h.f7
/-- one clause read on both sides -/
def zRw (s : Nat) (T : Nat → Nat) (X M : TX) (x : Option (TX × Int32)) (m : Option TX) : Prop :=
  (∃ e n t Y N, x = some (Y, nI 1) ∧ m = some N ∧ zJx s T e Y ∧ zJm s T e N ∧ N 0 5 = -nI 1 ∧ zKD n t Y N ∧ zKX X Y ∧ zKM M N) ∨
  (∃ Y N kd pl a, x = some (Y, nI 0) ∧ m = some N ∧ kd < 4 ∧ pl ≤ s ∧ Y 1 6 = nI kd ∧ Y 1 7 = nI pl ∧ N 0 5 = nI pl ∧ N 0 6 = nI kd ∧ zJm s T a N ∧ zKX X Y ∧ zKM M N)
theorem zRw_pre {s : Nat} {T : Nat → Nat} {X M X' M' : TX} {x : Option (TX × Int32)} {m : Option TX} (hX : zKX X X') (hM : zKM M M') (h : zRw s T X' M' x m) : zRw s T X M x m := by
  rcases h with ⟨e, n, t, Y, N, h1, h2, h3, h4, h5, h6, h7, h8⟩ | ⟨Y, N, kd, pl, a, h1, h2, h3, h4, h5, h6, h7, h8, h9, h10, h11⟩
  · exact .inl ⟨e, n, t, Y, N, h1, h2, h3, h4, h5, h6, hX.trans h7, hM.trans h8⟩
  · exact .inr ⟨Y, N, kd, pl, a, h1, h2, h3, h4, h5, h6, h7, h8, h9, hX.trans h10, hM.trans h11⟩
theorem zBe_u {b : Nat} : nI (b + 1) - nI 1 = nI b := by rw [z_subN (by omega)]; rfl
theorem z_purseRow {s : Nat} {T : Nat → Nat} {p n t : Nat} {X M : TX} (hX : zJx s T p X) (hM : zJm s T p M) (hf : M 0 5 = -nI 1) (hD : zKD n t X M) :
    zRw s T X M (f_X3_readPurse X) ((f_X9_readNumber M (nI 0) (nI 99)).bind fun q7 => some (u2 q7.1 0 18 q7.2)) := by
  have hs := hX.s6
  have e99 : nI 99 = zBe 100 := by unfold zBe; rw [zBe_u (b := 99)]
  have eX : f_X3_readPurse X = (f_X7_number X (zBe 100)).bind fun q1 => if q1.2 = nI 0 then (some (q1.1, nI 0)) else (some ((u2 q1.1 11 7 (q1.1 1 5)), nI 1)) := by
    rw [← e99]; rfl
  rw [eX, e99]
  have n1 : ¬ nI 1 = nI 0 := by decide
  rcases z_num hX hM hf (b := 100) (by decide) with ⟨e, v, Y, N, k1, k2, k3, k4, k5, k6, k7, k8, k9, k10⟩ | ⟨Y, N, kd, k1, k2, k3, k4, k5⟩
  · have hD' := hD.fr k9 k10
    rw [k1, k2, Option.bind_some, Option.bind_some]
    refine .inl ⟨e, n, t, u2 Y 11 7 (nI v), u2 N 0 18 (nI v), ?_, rfl, ?_, ?_, ?_, ?_, ?_, ?_⟩
    · show (if nI 1 = nI 0 then _ else some (u2 Y 11 7 (Y 1 5), nI 1)) = _
      rw [if_neg n1, k5]
    · exact k7.fr (z_u2k _ _ _ _ (by decide)) (by rw [z_u2k _ _ _ _ (by decide)]) (by rw [z_u2k _ _ _ _ (by decide)]; exact k7.xp) k7.ps
    · exact k8.fr (z_u2k _ _ _ _ (by decide)) (z_u2j _ _ _ _ (by decide)) (by rw [z_u2j _ _ _ _ (by decide)]; exact k8.mp) k8.ps
    · rw [z_u2j _ _ _ _ (by decide), k10.2 5 (by decide)]; exact hf
    · refine zKD.mk hD'.n10 hD'.t6 ?_ ?_ ?_ ?_ ?_ ?_ ?_ ?_ ?_ ?_ ?_ ?_ ?_ ?_
      · rw [z_u2j _ _ _ _ (by decide)]; exact hD'.xn
      · rw [z_u2j _ _ _ _ (by decide)]; exact hD'.mn
      · rw [z_u2j _ _ _ _ (by decide)]; exact hD'.xt
      · rw [z_u2j _ _ _ _ (by decide)]; exact hD'.mt
      · exact ⟨v, k3, z_u2s _ _ _ _, z_u2s _ _ _ _⟩
      · rw [z_u2k _ _ _ _ (show (12 : Nat) ≠ 11 by decide), z_u2k _ _ _ _ (show (3 : Nat) ≠ 0 by decide)]; exact hD'.w
      · rw [z_u2k _ _ _ _ (show (13 : Nat) ≠ 11 by decide), z_u2k _ _ _ _ (show (3 : Nat) ≠ 0 by decide)]; exact hD'.v
      · rw [z_u2k _ _ _ _ (show (12 : Nat) ≠ 11 by decide), z_u2k _ _ _ _ (show (13 : Nat) ≠ 11 by decide)]; exact hD'.z
      · rw [z_u2k _ _ _ _ (show (14 : Nat) ≠ 11 by decide), z_u2k _ _ _ _ (show (4 : Nat) ≠ 0 by decide)]; exact hD'.r
      · rw [z_u2k _ _ _ _ (show (4 : Nat) ≠ 0 by decide)]; exact hD'.rd
      · rw [z_u2k _ _ _ _ (show (4 : Nat) ≠ 0 by decide)]; exact hD'.rz
      · rw [z_u2k _ _ _ _ (show (15 : Nat) ≠ 11 by decide), z_u2k _ _ _ _ (show (16 : Nat) ≠ 11 by decide), z_u2k _ _ _ _ (show (5 : Nat) ≠ 0 by decide)]; exact hD'.td
      · rw [z_u2j _ _ _ _ (show (8 : Nat) ≠ 7 by decide), z_u2j _ _ _ _ (show (9 : Nat) ≠ 7 by decide), z_u2j _ _ _ _ (show (10 : Nat) ≠ 7 by decide), z_u2j _ _ _ _ (show (11 : Nat) ≠ 7 by decide)]; exact hD'.dz
      · rw [z_u2k _ _ _ _ (by decide)]; exact hD'.f7
    · exact k9.cx.trans ⟨fun k a b => z_u2k _ _ _ _ (by omega), by rw [z_u2k _ _ _ _ (by decide)]⟩
    · exact k10.cm.trans ⟨fun k a _ _ _ => z_u2k _ _ _ _ a, fun j _ _ _ _ _ f => z_u2j _ _ _ _ f⟩
  · obtain ⟨m1, m2, m3, m4, m5, a, m6⟩ := k5
    rw [k1, k2, Option.bind_some, Option.bind_some]
    have hcm : zKM M N := ⟨fun k a _ _ _ => m1 k a, fun j a b c _ _ _ => m2 j a b c⟩
    refine .inr ⟨Y, u2 N 0 18 (nI 0), kd, zA T s p, a, ?_, rfl, k3, m5, k4.2.2.1, k4.2.2.2, ?_, ?_, ?_, k4.cx, ?_⟩
    · show (if nI 0 = nI 0 then some (Y, nI 0) else _) = _
      rw [if_pos rfl]
    · rw [z_u2j _ _ _ _ (by decide)]; exact m3
    · rw [z_u2j _ _ _ _ (by decide)]; exact m4
    · exact m6.fr (z_u2k _ _ _ _ (by decide)) (z_u2j _ _ _ _ (by decide)) (by rw [z_u2j _ _ _ _ (by decide)]; exact m6.mp) m6.ps
    · exact hcm.trans ⟨fun k a _ _ _ => z_u2k _ _ _ _ a, fun j _ _ _ _ _ f => z_u2j _ _ _ _ f⟩
