set_option linter.unusedVariables false
/-- the law being read: m parts, the stack H high -/
def zLd (m H : Nat) (X M : TX) : Prop := X 23 3 = nI m ∧ M 0 27 = nI m ∧ ∃ h : Nat → Nat, h 0 = 0 ∧ h m = H ∧ ∀ i, i < m → zCode (X 24 i) (M 9 i) (M 10 i) (h i) (h (i + 1))
def zWX (X Y : TX) : Prop := (∀ k, k ≠ 1 → k ≠ 23 → k ≠ 24 → Y k = X k) ∧ Y 1 1 = X 1 1
def zWM (M N : TX) : Prop := (∀ k, k ≠ 0 → k ≠ 9 → k ≠ 10 → N k = M k) ∧ ∀ j, j ≠ 4 → j ≠ 5 → j ≠ 6 → j ≠ 7 → j ≠ 27 → N 0 j = M 0 j
theorem zWX.refl (X : TX) : zWX X X := ⟨fun _ _ _ _ => rfl, rfl⟩
theorem zWM.refl (X : TX) : zWM X X := ⟨fun _ _ _ _ => rfl, fun _ _ _ _ _ _ => rfl⟩
theorem zWX.trans {X Y Z : TX} (h : zWX X Y) (g : zWX Y Z) : zWX X Z := ⟨fun k a b c => (g.1 k a b c).trans (h.1 k a b c), g.2.trans h.2⟩
theorem zWM.trans {X Y Z : TX} (h : zWM X Y) (g : zWM Y Z) : zWM X Z := ⟨fun k a b c => (g.1 k a b c).trans (h.1 k a b c), fun j a b c d e => (g.2 j a b c d e).trans (h.2 j a b c d e)⟩
theorem zTX.wx {X Y : TX} (h : zTX X Y) : zWX X Y := ⟨fun k a _ _ => h.1 k a, h.2 1 (by decide) (by decide) (by decide)⟩
theorem zTM.wm {X Y : TX} (h : zTM X Y) : zWM X Y := ⟨fun k a _ _ => h.1 k a, fun j a _ _ _ _ => h.2 j a⟩
theorem zTF.wx {X Y : TX} {kd pl : Nat} (h : zTF X Y kd pl) : zWX X Y := ⟨fun k a _ _ => h.1 k a, h.2.1⟩
theorem zMF.wm {s : Nat} {T : Nat → Nat} {X Y : TX} {kd pl : Nat} (h : zMF s T X Y kd pl) : zWM X Y := ⟨fun k a _ _ => h.1 k a, fun j a b c _ _ => h.2.1 j a b c⟩
/-- reading a law, at place p, d deep -/
def zLi (s : Nat) (T : Nat → Nat) (p m H d : Nat) (X M : TX) : Prop :=
  (zJx s T p X) ∧
  (zJm s T p M) ∧
  (M 0 5 = -nI 1) ∧
  (X 1 7 = -nI 1) ∧
  (zLd m H X M) ∧
  (m ≤ p) ∧
  (M 0 7 = nI d) ∧
  (s ≤ 150)
theorem zLi.jx {s : Nat} {T : Nat → Nat} {p m H d : Nat} {X M : TX} (h : zLi s T p m H d X M) : zJx s T p X := h.1
theorem zLi.jm {s : Nat} {T : Nat → Nat} {p m H d : Nat} {X M : TX} (h : zLi s T p m H d X M) : zJm s T p M := h.2.1
theorem zLi.f5 {s : Nat} {T : Nat → Nat} {p m H d : Nat} {X M : TX} (h : zLi s T p m H d X M) : M 0 5 = -nI 1 := h.2.2.1
theorem zLi.f7 {s : Nat} {T : Nat → Nat} {p m H d : Nat} {X M : TX} (h : zLi s T p m H d X M) : X 1 7 = -nI 1 := h.2.2.2.1
theorem zLi.ld {s : Nat} {T : Nat → Nat} {p m H d : Nat} {X M : TX} (h : zLi s T p m H d X M) : zLd m H X M := h.2.2.2.2.1
theorem zLi.mp {s : Nat} {T : Nat → Nat} {p m H d : Nat} {X M : TX} (h : zLi s T p m H d X M) : m ≤ p := h.2.2.2.2.2.1
theorem zLi.dp {s : Nat} {T : Nat → Nat} {p m H d : Nat} {X M : TX} (h : zLi s T p m H d X M) : M 0 7 = nI d := h.2.2.2.2.2.2.1
theorem zLi.s1 {s : Nat} {T : Nat → Nat} {p m H d : Nat} {X M : TX} (h : zLi s T p m H d X M) : s ≤ 150 := h.2.2.2.2.2.2.2
theorem zLi.mk {s : Nat} {T : Nat → Nat} {p m H d : Nat} {X M : TX} (jx : zJx s T p X) (jm : zJm s T p M) (f5 : M 0 5 = -nI 1) (f7 : X 1 7 = -nI 1) (ld : zLd m H X M) (mp : m ≤ p) (dp : M 0 7 = nI d) (s1 : s ≤ 150) : zLi s T p m H d X M := ⟨jx, jm, f5, f7, ld, mp, dp, s1⟩
theorem zLi.mv {s : Nat} {T : Nat → Nat} {p e m H d : Nat} {X M Y N : TX} (h : zLi s T p m H d X M) (jx : zJx s T e Y) (jm : zJm s T e N) (fx : zTX X Y) (fm : zTM M N) (hp : p ≤ e) : zLi s T e m H d Y N := by
  refine zLi.mk jx jm ?_ ?_ ?_ ?_ ?_ h.s1
  · rw [fm.2 5 (by decide)]; exact h.f5
  · rw [fx.2 7 (by decide) (by decide) (by decide)]; exact h.f7
  · have := h.ld; unfold zLd at *; rw [fx.1 23 (by decide), fx.1 24 (by decide), fm.1 9 (by decide), fm.1 10 (by decide), fm.2 27 (by decide)]; exact this
  · have := h.mp; omega
  · rw [fm.2 7 (by decide)]; exact h.dp
/-- refused on both sides -/
def zLb (s : Nat) (X M Y N : TX) (kd pl : Nat) : Prop := kd < 4 ∧ pl ≤ s ∧ Y 1 6 = nI kd ∧ Y 1 7 = nI pl ∧ N 0 5 = nI pl ∧ N 0 6 = nI kd ∧ zWX X Y ∧ zWM M N
theorem zLb.pre {s : Nat} {X M X' M' Y N : TX} {kd pl : Nat} (h : zLb s X' M' Y N kd pl) (hX : zWX X X') (hM : zWM M M') : zLb s X M Y N kd pl :=
  ⟨h.1, h.2.1, h.2.2.1, h.2.2.2.1, h.2.2.2.2.1, h.2.2.2.2.2.1, hX.trans h.2.2.2.2.2.2.1, hM.trans h.2.2.2.2.2.2.2⟩
theorem zLb.post7 {s : Nat} {X M Y N : TX} {kd pl : Nat} (h : zLb s X M Y N kd pl) (v : Int32) : zLb s X M Y (u2 N 0 7 v) kd pl :=
  ⟨h.1, h.2.1, h.2.2.1, h.2.2.2.1, by rw [z_u2j _ _ _ _ (by decide)]; exact h.2.2.2.2.1, by rw [z_u2j _ _ _ _ (by decide)]; exact h.2.2.2.2.2.1, h.2.2.2.2.2.2.1, h.2.2.2.2.2.2.2.trans ⟨fun k a _ _ => z_u2k _ _ _ _ a, fun j _ _ _ a _ => z_u2j _ _ _ _ a⟩⟩
theorem zLb_tf {s : Nat} {T : Nat → Nat} {X M Y N : TX} {kd pl : Nat} (hk : kd < 4) (h : zTF X Y kd pl) (g : zMF s T M N kd pl) : zLb s X M Y N kd pl :=
  ⟨hk, g.2.2.2.2.1, h.2.2.1, h.2.2.2, g.2.2.1, g.2.2.2.1, h.wx, g.wm⟩
/-- the outcome of reading a piece of a law: b more bytes at least, c more than parts -/
def zLo (b c s : Nat) (T : Nat → Nat) (p m H d : Nat) (X M : TX) (x : Option (TX × Int32)) (r : Option TX) : Prop :=
  (∃ e m' Y N, x = some (Y, nI 1) ∧ r = some N ∧ p + b ≤ e ∧ m' + p + c ≤ m + e ∧ zLi s T e m' H d Y N ∧ zWX X Y ∧ zWM M N) ∨
  (∃ Y N kd pl, x = some (Y, nI 0) ∧ r = some N ∧ zLb s X M Y N kd pl)
theorem zLi.sgn {s : Nat} {T : Nat → Nat} {p m H d : Nat} {X M : TX} (h : zLi s T p m H d X M) (v : Nat) (hv : v < 256) (hv1 : 33 ≤ v) :
    zLo 1 1 s T p m H d X M (f_X7_sign X (nI v)) (f_X9_sign M (nI v)) := by
  obtain ⟨a1, a2, a3⟩ := zA_spec (T := T) h.jx.ps
  rcases z_sgn h.jx h.jm h.f5 hv hv1 with ⟨Y, N, k1, k2, k3, k4, k5, k6⟩ | ⟨Y, N, kd, k1, k2, k3, k4, k5⟩
  · exact .inl ⟨_, m, Y, N, k1, k2, by omega, by omega, h.mv k3 k4 k5 k6 (by omega), k5.wx, k6.wm⟩
  · exact .inr ⟨Y, N, kd, _, k1, k2, zLb_tf k3 k4 k5⟩
/-- a part is put to the law on both sides -/
theorem zLi.em {s : Nat} {T : Nat → Nat} {p m H H' d : Nat} {X M : TX} (h : zLi s T p m H d X M) {a b f : Int32} (hm : m < p) (hc : zCode a b f H H') :
    ∃ Y N, f_X4_add X a = some (Y, nI 1) ∧ f_X9_emit M b f = some N ∧ zLi s T p (m + 1) H' d Y N ∧ zWX X Y ∧ zWM M N := by
  have hs := h.s1
  have hp := h.jx.ps
  obtain ⟨l1, l2, h0, l3, l4, l5⟩ := h.ld
  have pt : f_X8_put 24 X (nI m) a = some (u2 X 24 m a) := z_put (by show m < 150; omega) (by decide)
  have ib : inb (nI m) 150 = true := by rw [z_inb (by omega)]; simp; omega
  have n1 : ¬ nI 1 = nI 0 := by decide
  obtain ⟨Y, hY⟩ : ∃ Y, Y = u2 (u2 X 24 m a) 23 3 (nI (m + 1)) := ⟨_, rfl⟩
  obtain ⟨N, hN⟩ : ∃ N, N = u2 (u2 (u2 M 9 m b) 10 m f) 0 27 (nI (m + 1)) := ⟨_, rfl⟩
  have yk : ∀ k, k ≠ 23 → k ≠ 24 → Y k = X k := fun k a b => by rw [hY, z_u2k _ _ _ _ a, z_u2k _ _ _ _ b]
  have nk : ∀ k, k ≠ 0 → k ≠ 9 → k ≠ 10 → N k = M k := fun k a b c => by rw [hN, z_u2k _ _ _ _ a, z_u2k _ _ _ _ c, z_u2k _ _ _ _ b]
  have nj : ∀ j, j ≠ 27 → N 0 j = M 0 j := fun j a => by rw [hN, z_u2j _ _ _ _ a, z_u2k _ _ _ _ (by decide), z_u2k _ _ _ _ (by decide)]
  refine ⟨Y, N, ?_, ?_, zLi.mk (h.jx.fr (yk 2 (by decide) (by decide)) (by rw [yk 1 (by decide) (by decide)]) (by rw [yk 1 (by decide) (by decide)]; exact h.jx.xp) hp) (h.jm.fr (nk 2 (by decide) (by decide) (by decide)) (nj 3 (by decide)) (by rw [nj 4 (by decide)]; exact h.jm.mp) hp) (by rw [nj 5 (by decide)]; exact h.f5) (by rw [yk 1 (by decide) (by decide)]; exact h.f7) ⟨?_, ?_, fun i => if i ≤ m then h0 i else H', ?_, ?_, fun i hi => ?_⟩ (by omega) (by rw [nj 7 (by decide)]; exact h.dp) hs, ⟨fun k _ b c => yk k b c, by rw [yk 1 (by decide) (by decide)]⟩, ⟨nk, fun j _ _ _ _ e => nj j e⟩⟩
  · show ((f_X8_put 24 X (X 23 3) a).bind fun q1 => some ((u2 q1 23 3 ((q1 23 3) + nI 1)), nI 1)) = _
    rw [l1, pt, Option.bind_some]
    show some (u2 (u2 X 24 m a) 23 3 (X 23 3 + nI 1), nI 1) = _
    rw [l1, z_nI_add, ← hY]
  · show ((f_X9_fine M).bind fun q1 => if q1 = nI 0 then (some M) else (if inb (M 0 27) 150 = true then (if inb (M 0 27) 150 = true then (some (u2 (u2 (u2 M 9 (Int32.toNatClampNeg (M 0 27)) b) 10 (Int32.toNatClampNeg (M 0 27)) f) 0 27 ((M 0 27) + nI 1))) else none) else none)) = _
    rw [z9_fine1 h.f5, Option.bind_some, if_neg n1, l2, if_pos ib, if_pos ib, z_nI_tn (by omega), z_nI_add, ← hN]
  · rw [hY, z_u2s]
  · rw [hN, z_u2s]
  · show (if 0 ≤ m then h0 0 else H') = 0
    rw [if_pos (by omega)]; exact l3
  · show (if m + 1 ≤ m then h0 (m + 1) else H') = H'
    rw [if_neg (by omega)]
  · show zCode (Y 24 i) (N 9 i) (N 10 i) (if i ≤ m then h0 i else H') (if i + 1 ≤ m then h0 (i + 1) else H')
    have y24 : Y 24 i = if i = m then a else X 24 i := by
      rw [hY, z_u2k _ _ _ _ (by decide), z_u2, if_pos rfl]
    have n9 : N 9 i = if i = m then b else M 9 i := by
      rw [hN, z_u2k _ _ _ _ (by decide), z_u2k _ _ _ _ (by decide), z_u2, if_pos rfl]
    have n10 : N 10 i = if i = m then f else M 10 i := by
      rw [hN, z_u2k _ _ _ _ (by decide), z_u2, if_pos rfl, z_u2k _ _ _ _ (by decide)]
    rw [y24, n9, n10, if_pos (show i ≤ m by omega)]
    by_cases c : i = m
    · rw [if_pos c, if_pos c, if_pos c, if_neg (by omega), c, l4]; exact hc
    · rw [if_neg c, if_neg c, if_neg c, if_pos (by omega)]; exact l5 i (by omega)
theorem z9_emS {M : TX} {a : Nat} (h : M 0 5 = nI a) (ha : a ≤ 600) (x1 x2 : Int32) : f_X9_emit M x1 x2 = some M := by
  unfold f_X9_emit
  rw [z9_fine0 h ha, Option.bind_some, if_pos (by decide)]
/-- a character ahead -/
theorem z_ch {s : Nat} {T : Nat → Nat} {q v : Nat} (ht : ∀ j, j < s → T j < 256) (hv : v < 256) (hv1 : 1 ≤ v) : (zC T s q = nI v ↔ q < s ∧ T q = v) ∧ (zH T s q = nI v ↔ q < s ∧ T q = v) := by
  unfold zC zH
  by_cases c : q < s
  · have tq := ht q c
    rw [if_pos c, if_pos c, z_nI_inj (by omega) (by omega)]
    exact ⟨⟨fun e => ⟨c, e⟩, fun e => e.2⟩, ⟨fun e => ⟨c, e⟩, fun e => e.2⟩⟩
  · rw [if_neg c, if_neg c]
    refine ⟨⟨fun e => absurd e.symm (z_ne1 (by omega)), fun e => absurd e.1 c⟩, ⟨fun e => ?_, fun e => absurd e.1 c⟩⟩
    rw [z_nI_inj (by omega) (by omega)] at e; omega
/-- a sign that stands there -/
theorem z7_sgnOk {s : Nat} {T : Nat → Nat} {p q : Nat} {X : TX} (h : zJx s T p X) (hq : zA T s p = q) (hs : q < s) : f_X7_sign (u2 X 1 3 (nI q)) (nI (T q)) = some (u2 X 1 3 (nI (q + 1)), nI 1) := by
  obtain ⟨a1, a2, a3⟩ := zA_spec (T := T) h.ps
  rw [hq] at a1 a2 a3
  have h1 := h.to a2
  have c1 : zC T s q = nI (T q) := by unfold zC; rw [if_pos hs]
  unfold f_X7_sign
  rw [z7_ahead h1, a3, Option.bind_some, z_u2u]
  show (if zC T s q = nI (T q) then (some ((u2 (u2 X 1 3 (nI q)) 1 3 (((u2 X 1 3 (nI q)) 1 3) + nI 1)), nI 1)) else _) = _
  rw [if_pos c1, z_u2s, z_nI_add, z_u2u]
