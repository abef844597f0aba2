set_option linter.unusedVariables false
theorem zSt_congr {n : Nat} {c m c' m' : Nat → Int32} {a : Nat} (h : zSt n c m a) (e : ∀ j, a ≤ j → j < a + 4 → c' j = c j ∧ m' j = m j) : zSt n c' m' a := by
  unfold zSt at *
  rw [(e a (by omega) (by omega)).1, (e a (by omega) (by omega)).2, (e (a + 1) (by omega) (by omega)).1, (e (a + 1) (by omega) (by omega)).2, (e (a + 2) (by omega) (by omega)).1, (e (a + 2) (by omega) (by omega)).2, (e (a + 3) (by omega) (by omega)).1, (e (a + 3) (by omega) (by omega)).2]
  exact h
theorem zPl_le {n : Nat} {c m : Nat → Int32} : ∀ g d a b, zPl n c m g d a b → a ≤ b
  | 0, d, a, b, h => by unfold zPl at h; omega
  | g + 1, d, a, b, h => by
    unfold zPl at h
    rcases h with h | ⟨_, h, _⟩ | ⟨e, t, _, _, _, _, _, _, _, _, h1, h2, _⟩
    · omega
    · omega
    · omega
theorem zPl_congr {n : Nat} {c m c' m' : Nat → Int32} : ∀ g d a b, zPl n c m g d a b → (∀ j, a ≤ j → j < b → c' j = c j ∧ m' j = m j) → zPl n c' m' g d a b
  | 0, d, a, b, h, e => h
  | g + 1, d, a, b, h, e => by
    unfold zPl at *
    rcases h with h | ⟨h1, h2, h3⟩ | ⟨e', t, h1, h2, h3, h4, h5, h6, h7, h8, h9, h10, h11, h12⟩
    · exact .inl h
    · exact .inr (.inl ⟨zSt_congr h1 fun j k hj => e j k (by omega), h2, zPl_congr g d _ _ h3 fun j k hj => e j (by omega) hj⟩)
    · refine .inr (.inr ⟨e', t, h1, h2, ?_, ?_, ?_, ?_, ?_, ?_, h9, h10, zPl_congr g _ _ _ h11 fun j k hj => e j (by omega) (by omega), zPl_congr g _ _ _ h12 fun j k hj => e j (by omega) hj⟩)
      · rw [(e a (by omega) (by omega)).1]; exact h3
      · rw [(e a (by omega) (by omega)).2]; exact h4
      · rw [(e (a + 1) (by omega) (by omega)).1]; exact h5
      · rw [(e (a + 1) (by omega) (by omega)).2]; exact h6
      · rw [(e (a + 2) (by omega) (by omega)).1]; exact h7
      · rw [(e (a + 2) (by omega) (by omega)).2]; exact h8
theorem zPl_up {n : Nat} {c m : Nat → Int32} : ∀ g d a b, zPl n c m g d a b → zPl n c m (g + 1) d a b
  | 0, d, a, b, h => by unfold zPl at *; exact .inl h
  | g + 1, d, a, b, h => by
    unfold zPl at h
    rw [zPl]
    rcases h with h | ⟨h1, h2, h3⟩ | ⟨e', t, h1, h2, h3, h4, h5, h6, h7, h8, h9, h10, h11, h12⟩
    · exact .inl h
    · exact .inr (.inl ⟨h1, h2, zPl_up g d _ _ h3⟩)
    · exact .inr (.inr ⟨e', t, h1, h2, h3, h4, h5, h6, h7, h8, h9, h10, zPl_up g _ _ _ h11, zPl_up g _ _ _ h12⟩)
theorem zPl_mono {n : Nat} {c m : Nat → Int32} {g d a b : Nat} (h : zPl n c m g d a b) : ∀ k, zPl n c m (g + k) d a b
  | 0 => h
  | k + 1 => zPl_up _ _ _ _ (zPl_mono h k)
theorem zPl_to {n : Nat} {c m : Nat → Int32} {g g' d a b : Nat} (h : zPl n c m g d a b) (hg : g ≤ g') : zPl n c m g' d a b := by
  obtain ⟨k, rfl⟩ : ∃ k, g' = g + k := ⟨g' - g, by omega⟩
  exact zPl_mono h k
/-- one step or one loop of a plan -/
def zEl (n D G : Nat) (c m : Nat → Int32) (a b : Nat) : Prop := (zSt n c m a ∧ b = a + 4) ∨
  (∃ t, 0 < D ∧ t ≤ 40 ∧ c a = nI 5 ∧ m a = nI 4 ∧ c (a + 1) = nI t ∧ m (a + 1) = nI t ∧ c (a + 2) = nI b ∧ m (a + 2) = nI b ∧ a + 4 ≤ b ∧ zPl n c m G (D - 1) (a + 4) b)
theorem zEl_congr {n D G : Nat} {c m c' m' : Nat → Int32} {a b : Nat} (h : zEl n D G c m a b) (e : ∀ j, j < b → c' j = c j ∧ m' j = m j) : zEl n D G c' m' a b := by
  rcases h with ⟨h1, h2⟩ | ⟨t, h1, h2, h3, h4, h5, h6, h7, h8, h9, h10⟩
  · exact .inl ⟨zSt_congr h1 fun j _ hj => e j (by omega), h2⟩
  · refine .inr ⟨t, h1, h2, ?_, ?_, ?_, ?_, ?_, ?_, h9, zPl_congr _ _ _ _ h10 fun j _ hj => e j hj⟩
    · rw [(e a (by omega)).1]; exact h3
    · rw [(e a (by omega)).2]; exact h4
    · rw [(e (a + 1) (by omega)).1]; exact h5
    · rw [(e (a + 1) (by omega)).2]; exact h6
    · rw [(e (a + 2) (by omega)).1]; exact h7
    · rw [(e (a + 2) (by omega)).2]; exact h8
theorem zEl_cons {n D G : Nat} {c m : Nat → Int32} {a b b' : Nat} (h : zEl n D G c m a b) (g : zPl n c m G D b b') : zPl n c m (G + 1) D a b' := by
  have l := zPl_le _ _ _ _ g
  rw [zPl]
  rcases h with ⟨h1, rfl⟩ | ⟨t, h1, h2, h3, h4, h5, h6, h7, h8, h9, h10⟩
  · exact .inr (.inl ⟨h1, l, g⟩)
  · exact .inr (.inr ⟨b, t, h1, h2, h3, h4, h5, h6, h7, h8, h9, l, h10, g⟩)
def zVX (X Y : TX) : Prop := (∀ k, k ≠ 1 → k ≠ 31 → k ≠ 32 → Y k = X k) ∧ Y 1 1 = X 1 1 ∧ ∀ j, j ≠ 1 → Y 31 j = X 31 j
def zVM (M N : TX) : Prop := (∀ k, k ≠ 0 → k ≠ 15 → N k = M k) ∧ ∀ j, j ≠ 4 → j ≠ 5 → j ≠ 6 → j ≠ 7 → j ≠ 32 → N 0 j = M 0 j
theorem zVX.refl (X : TX) : zVX X X := ⟨fun _ _ _ _ => rfl, rfl, fun _ _ => rfl⟩
theorem zVM.refl (X : TX) : zVM X X := ⟨fun _ _ _ => rfl, fun _ _ _ _ _ _ => rfl⟩
theorem zVX.trans {X Y Z : TX} (h : zVX X Y) (g : zVX Y Z) : zVX X Z := ⟨fun k a b c => (g.1 k a b c).trans (h.1 k a b c), g.2.1.trans h.2.1, fun j a => (g.2.2 j a).trans (h.2.2 j a)⟩
theorem zVM.trans {X Y Z : TX} (h : zVM X Y) (g : zVM Y Z) : zVM X Z := ⟨fun k a b => (g.1 k a b).trans (h.1 k a b), fun j a b c d e => (g.2 j a b c d e).trans (h.2 j a b c d e)⟩
theorem zTX.vx {X Y : TX} (h : zTX X Y) : zVX X Y := ⟨fun k a _ _ => h.1 k a, h.2 1 (by decide) (by decide) (by decide), fun j _ => by rw [h.1 31 (by decide)]⟩
theorem zTM.vm {X Y : TX} (h : zTM X Y) : zVM X Y := ⟨fun k a _ => h.1 k a, fun j a _ _ _ _ => h.2 j a⟩
theorem zTF.vx {X Y : TX} {kd pl : Nat} (h : zTF X Y kd pl) : zVX X Y := ⟨fun k a _ _ => h.1 k a, h.2.1, fun j _ => by rw [h.1 31 (by decide)]⟩
theorem zMF.vm {s : Nat} {T : Nat → Nat} {X Y : TX} {kd pl : Nat} (h : zMF s T X Y kd pl) : zVM X Y := ⟨fun k a _ => h.1 k a, fun j a b c _ _ => h.2.1 j a b c⟩
theorem zVX_32 (X : TX) (i : Nat) (v : Int32) : zVX X (u2 X 32 i v) := ⟨fun k _ _ a => z_u2k _ _ _ _ a, by rw [z_u2k _ _ _ _ (by decide)], fun j _ => by rw [z_u2k _ _ _ _ (by decide)]⟩
theorem zVX_31 (X : TX) (v : Int32) : zVX X (u2 X 31 1 v) := ⟨fun k _ a _ => z_u2k _ _ _ _ a, by rw [z_u2k _ _ _ _ (by decide)], fun j a => z_u2j _ _ _ _ a⟩
theorem zVM_7 (M : TX) (v : Int32) : zVM M (u2 M 0 7 v) := ⟨fun k a _ => z_u2k _ _ _ _ a, fun j _ _ _ a _ => z_u2j _ _ _ _ a⟩
theorem zVM_15 (M : TX) (i : Nat) (v : Int32) : zVM M (u2 M 15 i v) := ⟨fun k _ a => z_u2k _ _ _ _ a, fun j _ _ _ _ _ => by rw [z_u2k _ _ _ _ (by decide)]⟩
/-- refused on both sides -/
def zVR (s : Nat) (X M Y N : TX) (kd pl : Nat) : Prop := kd < 4 ∧ pl ≤ s ∧ Y 1 6 = nI kd ∧ Y 1 7 = nI pl ∧ N 0 5 = nI pl ∧ N 0 6 = nI kd ∧ zVX X Y ∧ zVM M N
theorem zVR.pre {s : Nat} {X M X' M' Y N : TX} {kd pl : Nat} (h : zVR s X' M' Y N kd pl) (hX : zVX X X') (hM : zVM M M') : zVR s X M Y N kd pl :=
  ⟨h.1, h.2.1, h.2.2.1, h.2.2.2.1, h.2.2.2.2.1, h.2.2.2.2.2.1, hX.trans h.2.2.2.2.2.2.1, hM.trans h.2.2.2.2.2.2.2⟩
theorem zVR.post7 {s : Nat} {X M Y N : TX} {kd pl : Nat} (h : zVR s X M Y N kd pl) (v : Int32) : zVR s X M Y (u2 N 0 7 v) kd pl :=
  ⟨h.1, h.2.1, h.2.2.1, h.2.2.2.1, by rw [z_u2j _ _ _ _ (by decide)]; exact h.2.2.2.2.1, by rw [z_u2j _ _ _ _ (by decide)]; exact h.2.2.2.2.2.1, h.2.2.2.2.2.2.1, h.2.2.2.2.2.2.2.trans (zVM_7 _ _)⟩
theorem zVR_tf {s : Nat} {T : Nat → Nat} {X M Y N : TX} {kd pl : Nat} (hk : kd < 4) (h : zTF X Y kd pl) (g : zMF s T M N kd pl) : zVR s X M Y N kd pl :=
  ⟨hk, g.2.2.2.2.1, h.2.2.1, h.2.2.2, g.2.2.1, g.2.2.2.1, h.vx, g.vm⟩
/-- reading a work, at place p, a cells filled, d deep -/
def zWi (s : Nat) (T : Nat → Nat) (p a d n : Nat) (X M : TX) : Prop :=
  (zJx s T p X) ∧
  (zJm s T p M) ∧
  (M 0 5 = -nI 1) ∧
  (X 1 7 = -nI 1) ∧
  (X 31 1 = nI a) ∧
  (M 0 32 = nI a) ∧
  (5 * a ≤ 4 * p) ∧
  (M 0 7 = nI d) ∧
  (s ≤ 150) ∧
  (X 31 2 = nI n) ∧
  (M 0 19 = nI n) ∧
  (n ≤ 10)
theorem zWi.jx {s : Nat} {T : Nat → Nat} {p a d n : Nat} {X M : TX} (h : zWi s T p a d n X M) : zJx s T p X := h.1
theorem zWi.jm {s : Nat} {T : Nat → Nat} {p a d n : Nat} {X M : TX} (h : zWi s T p a d n X M) : zJm s T p M := h.2.1
theorem zWi.f5 {s : Nat} {T : Nat → Nat} {p a d n : Nat} {X M : TX} (h : zWi s T p a d n X M) : M 0 5 = -nI 1 := h.2.2.1
theorem zWi.f7 {s : Nat} {T : Nat → Nat} {p a d n : Nat} {X M : TX} (h : zWi s T p a d n X M) : X 1 7 = -nI 1 := h.2.2.2.1
theorem zWi.xa {s : Nat} {T : Nat → Nat} {p a d n : Nat} {X M : TX} (h : zWi s T p a d n X M) : X 31 1 = nI a := h.2.2.2.2.1
theorem zWi.ma {s : Nat} {T : Nat → Nat} {p a d n : Nat} {X M : TX} (h : zWi s T p a d n X M) : M 0 32 = nI a := h.2.2.2.2.2.1
theorem zWi.mp {s : Nat} {T : Nat → Nat} {p a d n : Nat} {X M : TX} (h : zWi s T p a d n X M) : 5 * a ≤ 4 * p := h.2.2.2.2.2.2.1
theorem zWi.dp {s : Nat} {T : Nat → Nat} {p a d n : Nat} {X M : TX} (h : zWi s T p a d n X M) : M 0 7 = nI d := h.2.2.2.2.2.2.2.1
theorem zWi.s1 {s : Nat} {T : Nat → Nat} {p a d n : Nat} {X M : TX} (h : zWi s T p a d n X M) : s ≤ 150 := h.2.2.2.2.2.2.2.2.1
theorem zWi.xn {s : Nat} {T : Nat → Nat} {p a d n : Nat} {X M : TX} (h : zWi s T p a d n X M) : X 31 2 = nI n := h.2.2.2.2.2.2.2.2.2.1
theorem zWi.mn {s : Nat} {T : Nat → Nat} {p a d n : Nat} {X M : TX} (h : zWi s T p a d n X M) : M 0 19 = nI n := h.2.2.2.2.2.2.2.2.2.2.1
theorem zWi.n10 {s : Nat} {T : Nat → Nat} {p a d n : Nat} {X M : TX} (h : zWi s T p a d n X M) : n ≤ 10 := h.2.2.2.2.2.2.2.2.2.2.2
theorem zWi.mk {s : Nat} {T : Nat → Nat} {p a d n : Nat} {X M : TX} (jx : zJx s T p X) (jm : zJm s T p M) (f5 : M 0 5 = -nI 1) (f7 : X 1 7 = -nI 1) (xa : X 31 1 = nI a) (ma : M 0 32 = nI a) (mp : 5 * a ≤ 4 * p) (dp : M 0 7 = nI d) (s1 : s ≤ 150) (xn : X 31 2 = nI n) (mn : M 0 19 = nI n) (n10 : n ≤ 10) : zWi s T p a d n X M := ⟨jx, jm, f5, f7, xa, ma, mp, dp, s1, xn, mn, n10⟩
theorem zWi.mv {s : Nat} {T : Nat → Nat} {p e a d n : Nat} {X M Y N : TX} (h : zWi s T p a d n X M) (jx : zJx s T e Y) (jm : zJm s T e N) (fx : zTX X Y) (fm : zTM M N) (hp : p ≤ e) : zWi s T e a d n Y N := by
  refine zWi.mk jx jm ?_ ?_ ?_ ?_ ?_ ?_ h.s1 ?_ ?_ h.n10
  · rw [fm.2 5 (by decide)]; exact h.f5
  · rw [fx.2 7 (by decide) (by decide) (by decide)]; exact h.f7
  · rw [fx.1 31 (by decide)]; exact h.xa
  · rw [fm.2 32 (by decide)]; exact h.ma
  · have := h.mp; omega
  · rw [fm.2 7 (by decide)]; exact h.dp
  · rw [fx.1 31 (by decide)]; exact h.xn
  · rw [fm.2 19 (by decide)]; exact h.mn
/-- the outcome of reading a step -/
def zSR (s : Nat) (T : Nat → Nat) (p a d n G : Nat) (X M : TX) (x : Option (TX × Int32)) (r : Option TX) : Prop :=
  (∃ e b Y N, x = some (Y, nI 1) ∧ r = some N ∧ p + 5 ≤ e ∧ a ≤ b ∧ zWi s T e b d n Y N ∧ zVX X Y ∧ zVM M N ∧ (∀ j, j < a → Y 32 j = X 32 j ∧ N 15 j = M 15 j) ∧ zEl n (6 - d) G (Y 32) (N 15) a b) ∨
  (∃ Y N kd pl, x = some (Y, nI 0) ∧ r = some N ∧ zVR s X M Y N kd pl)
theorem z9_tells {M : TX} {a : Nat} (hf : M 0 5 = -nI 1) (ha : M 0 32 = nI a) (h : a ≤ 190) (x1 x2 x3 x4 : Int32) :
    f_X9_tellsStep M x1 x2 x3 x4 = some (u2 (u2 (u2 (u2 (u2 M 15 a x1) 15 (a + 1) x2) 15 (a + 2) x3) 15 (a + 3) x4) 0 32 (nI (a + 4))) := by
  have n1 : ¬ nI 1 = nI 0 := by decide
  have i0 : inb (nI a) 200 = true := by rw [z_inb (by omega)]; simp; omega
  have i1 : inb (nI (a + 1)) 200 = true := by rw [z_inb (by omega)]; simp; omega
  have i2 : inb (nI (a + 2)) 200 = true := by rw [z_inb (by omega)]; simp; omega
  have i3 : inb (nI (a + 3)) 200 = true := by rw [z_inb (by omega)]; simp; omega
  show ((f_X9_fine M).bind fun q1 => if q1 = nI 0 then (some M) else (if inb (M 0 32) 200 = true then (if inb ((M 0 32) + nI 1) 200 = true then (if inb ((M 0 32) + nI 2) 200 = true then (if inb ((M 0 32) + nI 3) 200 = true then (some (u2 (u2 (u2 (u2 (u2 M 15 (Int32.toNatClampNeg (M 0 32)) x1) 15 (Int32.toNatClampNeg ((M 0 32) + nI 1)) x2) 15 (Int32.toNatClampNeg ((M 0 32) + nI 2)) x3) 15 (Int32.toNatClampNeg ((M 0 32) + nI 3)) x4) 0 32 ((M 0 32) + nI 4))) else none) else none) else none) else none)) = _
  rw [z9_fine1 hf, Option.bind_some, if_neg n1, ha, z_nI_add, z_nI_add, z_nI_add, z_nI_add, if_pos i0, if_pos i1, if_pos i2, if_pos i3, z_nI_tn (by omega), z_nI_tn (by omega), z_nI_tn (by omega), z_nI_tn (by omega)]
theorem z9_tellsS {M : TX} {a : Nat} (h : M 0 5 = nI a) (ha : a ≤ 600) (x1 x2 x3 x4 : Int32) : f_X9_tellsStep M x1 x2 x3 x4 = some M := by
  show ((f_X9_fine M).bind fun q1 => if q1 = nI 0 then (some M) else _) = _
  rw [z9_fine0 h ha, Option.bind_some, if_pos rfl]
/-- a number, put in a cell -/
theorem z6_num {s : Nat} {T : Nat → Nat} {p b i : Nat} {X M : TX} (hX : zJx s T p X) (hM : zJm s T p M) (hf : M 0 5 = -nI 1) (hb : b ≤ 1000) (hi : i < 150) :
    (∃ e v Y N, f_X6_readNumber X (zBe b) (nI i) = some (u2 Y 32 i (nI v), nI 1) ∧ f_X9_readNumber M (nI 0) (zBe b) = some (N, nI v) ∧ v < b ∧ p < e ∧ zJx s T e (u2 Y 32 i (nI v)) ∧ zJm s T e N ∧ zTX X Y ∧ zTM M N) ∨
    (∃ Y N kd pl, f_X6_readNumber X (zBe b) (nI i) = some (Y, nI 0) ∧ f_X9_readNumber M (nI 0) (zBe b) = some (N, nI 0) ∧ kd < 4 ∧ zTF X Y kd pl ∧ zMF s T M N kd pl) := by
  obtain ⟨a1, a2, a3⟩ := zA_spec (T := T) hX.ps
  have eX : f_X6_readNumber X (zBe b) (nI i) = zAnd (f_X7_number X (zBe b)) fun A => (f_X8_put 32 A (nI i) (A 1 5)).bind fun q3 => some (q3, nI 1) := rfl
  rw [eX]
  rcases z_num hX hM hf hb with ⟨e, v, Y, N, k1, k2, k3, k4, k5, k6, k7, k8, k9, k10⟩ | ⟨Y, N, kd, k1, k2, k3, k4, k5⟩
  · have pt : f_X8_put 32 Y (nI i) (nI v) = some (u2 Y 32 i (nI v)) := z_put (by show i < 150; omega) (by decide)
    refine .inl ⟨e, v, Y, N, ?_, k2, k3, by omega, k7.fr (z_u2k _ _ _ _ (by decide)) (by rw [z_u2k _ _ _ _ (by decide)]) (by rw [z_u2k _ _ _ _ (by decide)]; exact k7.xp) k7.ps, k8, k9, k10⟩
    rw [zAnd_1 k1, k5, pt, Option.bind_some]
  · exact .inr ⟨Y, N, kd, _, zAnd_0 k1, k2, k3, k4, k5⟩
theorem zAnd_assoc (x : Option (TX × Int32)) (k l : TX → Option (TX × Int32)) : zAnd (zAnd x k) l = zAnd x fun A => zAnd (k A) l := by
  have z0 : ∀ A : TX, zAnd (some (A, nI 0)) l = some (A, nI 0) := fun A => zAnd_0 rfl
  unfold zAnd at *
  rcases x with _ | ⟨A, v⟩
  · rfl
  · rw [Option.bind_some, Option.bind_some]
    by_cases c : v = nI 0
    · rw [if_pos c, if_pos c]; exact z0 A
    · rw [if_neg c, if_neg c]
