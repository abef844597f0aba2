set_option linter.unusedVariables false
/-- a plan from a to b in the cells of both sides: at most g steps, nested d deep -/
def zPl (n : Nat) (c m : Nat → Int32) : Nat → Nat → Nat → Nat → Prop
  | 0, _, a, b => a = b
  | g + 1, d, a, b => a = b ∨ (zSt n c m a ∧ a + 4 ≤ b ∧ zPl n c m g d (a + 4) b) ∨
    (∃ e t, 0 < d ∧ t ≤ 40 ∧ c a = nI 5 ∧ m a = nI 4 ∧ c (a + 1) = nI t ∧ m (a + 1) = nI t ∧ c (a + 2) = nI e ∧ m (a + 2) = nI e ∧ a + 4 ≤ e ∧ e ≤ b ∧ zPl n c m g (d - 1) (a + 4) e ∧ zPl n c m g d e b)
def zGX (X Y : TX) : Prop := (∀ k, k ≠ 3 → k ≠ 4 → k ≠ 5 → k ≠ 9 → k ≠ 10 → k ≠ 21 → k ≠ 22 → k ≠ 33 → k ≠ 31 → Y k = X k) ∧ (∀ j, j ≠ 8 → j ≠ 9 → j ≠ 10 → j ≠ 11 → Y 3 j = X 3 j) ∧ ∀ j, j ≠ 3 → j ≠ 4 → j ≠ 5 → Y 31 j = X 31 j
def zGM (M N : TX) : Prop := (∀ k, k ≠ 13 → k ≠ 14 → k ≠ 20 → k ≠ 0 → N k = M k) ∧ ∀ j, j ≠ 35 → j ≠ 36 → j ≠ 37 → N 0 j = M 0 j
theorem zGX.refl (X : TX) : zGX X X := ⟨fun _ _ _ _ _ _ _ _ _ _ => rfl, fun _ _ _ _ _ => rfl, fun _ _ _ _ => rfl⟩
theorem zGX.trans {X Y Z : TX} (h : zGX X Y) (g : zGX Y Z) : zGX X Z :=
  ⟨fun k a b c d e f i j l => (g.1 k a b c d e f i j l).trans (h.1 k a b c d e f i j l), fun j a b c d => (g.2.1 j a b c d).trans (h.2.1 j a b c d), fun j a b c => (g.2.2 j a b c).trans (h.2.2 j a b c)⟩
theorem zGM.refl (M : TX) : zGM M M := ⟨fun _ _ _ _ _ => rfl, fun _ _ _ _ => rfl⟩
theorem zGM.trans {M N P : TX} (h : zGM M N) (g : zGM N P) : zGM M P := ⟨fun k a b c d => (g.1 k a b c d).trans (h.1 k a b c d), fun j a b c => (g.2 j a b c).trans (h.2 j a b c)⟩
theorem zFX.g {X Y : TX} (h : zFX X Y) : zGX X Y := ⟨fun k a b c d e f i j _ => h.1 k a b c d e f i j, h.2, fun j _ _ _ => by rw [h.1 31 (by decide) (by decide) (by decide) (by decide) (by decide) (by decide) (by decide) (by decide)]⟩
theorem zFM.g {M N : TX} (h : zFM M N) : zGM M N := ⟨fun k a b c _ => h k a b c, fun j _ _ _ => by rw [h 0 (by decide) (by decide) (by decide)]⟩
theorem zGX_u (X : TX) {j : Nat} (h : j = 3 ∨ j = 4 ∨ j = 5) (v : Int32) : zGX X (u2 X 31 j v) :=
  ⟨fun k _ _ _ _ _ _ _ _ l => z_u2k _ _ _ _ l, fun _ _ _ _ _ => by rw [z_u2k _ _ _ _ (by decide)], fun q a b c => z_u2j _ _ _ _ (by omega)⟩
theorem zGM_u (M : TX) {j : Nat} (h : j = 35 ∨ j = 36 ∨ j = 37) (v : Int32) : zGM M (u2 M 0 j v) :=
  ⟨fun k _ _ _ d => z_u2k _ _ _ _ d, fun q a b c => z_u2j _ _ _ _ (by omega)⟩
theorem zE.gx {n : Nat} {K X Y : TX} (h : zE n K X) (g : zGX X Y) : zE n K Y :=
  h.frame (g.2.1 5 (by decide) (by decide) (by decide) (by decide)) (g.2.1 6 (by decide) (by decide) (by decide) (by decide)) (g.2.1 7 (by decide) (by decide) (by decide) (by decide))
    fun k hk => by unfold zEk at hk; exact g.1 k (by omega) (by omega) (by omega) (by omega) (by omega) (by omega) (by omega) (by omega) (by omega)
theorem zS.gm {K M N : TX} (h : zS K M) (g : zGM M N) : zS K N :=
  h.trans (zS.mk (g.1 7 (by decide) (by decide) (by decide) (by decide)) (g.1 8 (by decide) (by decide) (by decide) (by decide)) (g.1 11 (by decide) (by decide) (by decide) (by decide)) (g.1 12 (by decide) (by decide) (by decide) (by decide)) (g.2 19 (by decide) (by decide) (by decide)) (g.2 20 (by decide) (by decide) (by decide)) (g.2 21 (by decide) (by decide) (by decide)) (g.2 28 (by decide) (by decide) (by decide)))
/-- the work under way on both sides, z steps begun -/
def zRr (n : Nat) (K : TX) (c m : Nat → Int32) (z : Nat) (X M : TX) : Prop :=
  (zE n K X) ∧
  (zS K M) ∧
  (zD n (M 20) X) ∧
  (zYr 400 (M 20)) ∧
  (X 32 = c) ∧
  (M 16 = m) ∧
  (z ≤ 200) ∧
  (X 31 3 = nI z) ∧
  (M 0 35 = nI z) ∧
  (X 31 4 = M 0 36) ∧
  (X 31 5 = M 0 37)
theorem zRr.e {n : Nat} {K : TX} {c m : Nat → Int32} {z : Nat} {X M : TX} (h : zRr n K c m z X M) : zE n K X := h.1
theorem zRr.s {n : Nat} {K : TX} {c m : Nat → Int32} {z : Nat} {X M : TX} (h : zRr n K c m z X M) : zS K M := h.2.1
theorem zRr.d {n : Nat} {K : TX} {c m : Nat → Int32} {z : Nat} {X M : TX} (h : zRr n K c m z X M) : zD n (M 20) X := h.2.2.1
theorem zRr.y {n : Nat} {K : TX} {c m : Nat → Int32} {z : Nat} {X M : TX} (h : zRr n K c m z X M) : zYr 400 (M 20) := h.2.2.2.1
theorem zRr.cc {n : Nat} {K : TX} {c m : Nat → Int32} {z : Nat} {X M : TX} (h : zRr n K c m z X M) : X 32 = c := h.2.2.2.2.1
theorem zRr.mm {n : Nat} {K : TX} {c m : Nat → Int32} {z : Nat} {X M : TX} (h : zRr n K c m z X M) : M 16 = m := h.2.2.2.2.2.1
theorem zRr.z2 {n : Nat} {K : TX} {c m : Nat → Int32} {z : Nat} {X M : TX} (h : zRr n K c m z X M) : z ≤ 200 := h.2.2.2.2.2.2.1
theorem zRr.zx {n : Nat} {K : TX} {c m : Nat → Int32} {z : Nat} {X M : TX} (h : zRr n K c m z X M) : X 31 3 = nI z := h.2.2.2.2.2.2.2.1
theorem zRr.zm {n : Nat} {K : TX} {c m : Nat → Int32} {z : Nat} {X M : TX} (h : zRr n K c m z X M) : M 0 35 = nI z := h.2.2.2.2.2.2.2.2.1
theorem zRr.dn {n : Nat} {K : TX} {c m : Nat → Int32} {z : Nat} {X M : TX} (h : zRr n K c m z X M) : X 31 4 = M 0 36 := h.2.2.2.2.2.2.2.2.2.1
theorem zRr.rf {n : Nat} {K : TX} {c m : Nat → Int32} {z : Nat} {X M : TX} (h : zRr n K c m z X M) : X 31 5 = M 0 37 := h.2.2.2.2.2.2.2.2.2.2
theorem zRr.mk {n : Nat} {K : TX} {c m : Nat → Int32} {z : Nat} {X M : TX} (e : zE n K X) (s : zS K M) (d : zD n (M 20) X) (y : zYr 400 (M 20)) (cc : X 32 = c) (mm : M 16 = m) (z2 : z ≤ 200) (zx : X 31 3 = nI z) (zm : M 0 35 = nI z) (dn : X 31 4 = M 0 36) (rf : X 31 5 = M 0 37) : zRr n K c m z X M := ⟨e, s, d, y, cc, mm, z2, zx, zm, dn, rf⟩
theorem zRr.bump {n : Nat} {K : TX} {c m : Nat → Int32} {z : Nat} {X M : TX} (h : zRr n K c m z X M) (hz : z < 200) : zRr n K c m (z + 1) (u2 X 31 3 (X 31 3 + nI 1)) (u2 M 0 35 (M 0 35 + nI 1)) := by
  have gx := zGX_u X (j := 3) (by omega) (X 31 3 + nI 1)
  have gm := zGM_u M (j := 35) (by omega) (M 0 35 + nI 1)
  refine zRr.mk (h.e.gx gx) (h.s.gm gm) ?_ ?_ ?_ ?_ (by omega) ?_ ?_ ?_ ?_
  · rw [z_u2k _ _ _ _ (show (20 : Nat) ≠ 0 by decide)]
    exact h.d.frame (z_u2k _ _ _ _ (by decide)) (z_u2k _ _ _ _ (by decide)) (z_u2k _ _ _ _ (by decide)) (z_u2k _ _ _ _ (by decide)) (z_u2k _ _ _ _ (by decide))
  · rw [z_u2k _ _ _ _ (by decide)]; exact h.y
  · rw [z_u2k _ _ _ _ (by decide)]; exact h.cc
  · rw [z_u2k _ _ _ _ (by decide)]; exact h.mm
  · rw [z_u2s, h.zx, z_nI_add]
  · rw [z_u2s, h.zm, z_nI_add]
  · rw [z_u2j _ _ _ _ (by decide), z_u2j _ _ _ _ (by decide)]; exact h.dn
  · rw [z_u2j _ _ _ _ (by decide), z_u2j _ _ _ _ (by decide)]; exact h.rf
/-- how a step is counted -/
def zCX (X : TX) (b : Bool) : TX := u2 (u2 X 31 4 (X 31 4 + zbI b)) 31 5 (X 31 5 + zbI (!b))
def zCM (M : TX) (b : Bool) : TX := if b = true then u2 M 0 36 (M 0 36 + nI 1) else u2 M 0 37 (M 0 37 + nI 1)
theorem zRr.count {n : Nat} {K : TX} {c m : Nat → Int32} {z : Nat} {X M X' M' : TX} (h : zRr n K c m z X M) (b : Bool) (fx : zFX X X') (fm : zFM M M') (hD : zD n (M' 20) X') (hy : zYr 400 (M' 20)) :
    zRr n K c m z (zCX X' b) (zCM M' b) ∧ zGX X (zCX X' b) ∧ zGM M (zCM M' b) := by
  have gx : zGX X (zCX X' b) := fx.g.trans ((zGX_u X' (j := 4) (by omega) _).trans (zGX_u _ (j := 5) (by omega) _))
  have gm : zGM M (zCM M' b) := by
    refine fm.g.trans ?_
    unfold zCM
    cases b
    · exact zGM_u _ (by omega) _
    · exact zGM_u _ (by omega) _
  have x31 : X' 31 = X 31 := fx.1 31 (by decide) (by decide) (by decide) (by decide) (by decide) (by decide) (by decide) (by decide)
  have m0 : M' 0 = M 0 := fm 0 (by decide) (by decide) (by decide)
  have m20 : zCM M' b 20 = M' 20 := by
    unfold zCM; cases b
    · exact z_u2k M' 0 37 (M' 0 37 + nI 1) (show (20 : Nat) ≠ 0 by decide)
    · exact z_u2k M' 0 36 (M' 0 36 + nI 1) (show (20 : Nat) ≠ 0 by decide)
  refine ⟨zRr.mk (h.e.gx gx) (h.s.gm gm) ?_ ?_ ?_ ?_ h.z2 ?_ ?_ ?_ ?_, gx, gm⟩
  · rw [m20]
    unfold zCX
    exact hD.frame (by rw [z_u2k _ _ _ _ (by decide), z_u2k _ _ _ _ (by decide)]) (by rw [z_u2k _ _ _ _ (by decide), z_u2k _ _ _ _ (by decide)]) (by rw [z_u2k _ _ _ _ (by decide), z_u2k _ _ _ _ (by decide)]) (by rw [z_u2k _ _ _ _ (by decide), z_u2k _ _ _ _ (by decide)]) (by rw [z_u2k _ _ _ _ (by decide), z_u2k _ _ _ _ (by decide)])
  · rw [m20]; exact hy
  · rw [gx.1 32 (by decide) (by decide) (by decide) (by decide) (by decide) (by decide) (by decide) (by decide) (by decide)]; exact h.cc
  · rw [gm.1 16 (by decide) (by decide) (by decide) (by decide)]; exact h.mm
  · unfold zCX; rw [z_u2j _ _ _ _ (by decide), z_u2j _ _ _ _ (by decide), x31]; exact h.zx
  · unfold zCM; cases b
    · rw [if_neg (by decide), z_u2j _ _ _ _ (by decide), m0]; exact h.zm
    · rw [if_pos rfl, z_u2j _ _ _ _ (by decide), m0]; exact h.zm
  · unfold zCX zCM; rw [z_u2j _ _ _ _ (by decide), z_u2s, x31]
    cases b
    · rw [if_neg (by decide), z_u2j _ _ _ _ (by decide), m0, h.dn]; exact z_add0 _
    · rw [if_pos rfl, z_u2s, m0, h.dn]; rfl
  · unfold zCX zCM; rw [z_u2s, x31]
    cases b
    · rw [if_neg (by decide), z_u2s, m0, h.rf]; rfl
    · rw [if_pos rfl, z_u2j _ _ _ _ (by decide), m0, h.rf]; exact z_add0 _
