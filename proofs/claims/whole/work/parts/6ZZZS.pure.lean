set_option linter.unusedVariables false
/-- the sign behind a step that both sides have put down -/
theorem z_stepEnd {s : Nat} {T : Nat → Nat} {p e a d n G : Nat} {X M A N : TX} {x1 x2 x3 x4 : Int32} (h : zWi s T p a d n X M) (hp : p + 4 ≤ e) (jx : zJx s T e A) (jm : zJm s T e N)
    (fx : zVX X A) (fm : zTM M N) (f7 : A 1 7 = -nI 1) (xa : A 31 1 = nI (a + 4)) (hx : ∀ j, j < a → A 32 j = X 32 j)
    (hst : zSt n (A 32) (upd (upd (upd (upd (N 15) a x1) (a + 1) x2) (a + 2) x3) (a + 3) x4) a) :
    zSR s T p a d n G X M (f_X7_sign A (nI 59)) ((f_X9_tellsStep N x1 x2 x3 x4).bind fun q13 => (f_X9_sign q13 (nI 59)).bind fun q14 => some q14) := by
  have hs := h.s1
  have mp := h.mp
  have pe := jx.ps
  have n5 : N 0 5 = -nI 1 := by rw [fm.2 5 (by decide)]; exact h.f5
  have n32 : N 0 32 = nI a := by rw [fm.2 32 (by decide)]; exact h.ma
  obtain ⟨P, hP⟩ : ∃ P, P = u2 (u2 (u2 (u2 (u2 N 15 a x1) 15 (a + 1) x2) 15 (a + 2) x3) 15 (a + 3) x4) 0 32 (nI (a + 4)) := ⟨_, rfl⟩
  have pk : ∀ k, k ≠ 0 → k ≠ 15 → P k = N k := fun k b c => by rw [hP, z_u2k _ _ _ _ b, z_u2k _ _ _ _ c, z_u2k _ _ _ _ c, z_u2k _ _ _ _ c, z_u2k _ _ _ _ c]
  have pj : ∀ j, j ≠ 32 → P 0 j = N 0 j := fun j b => by rw [hP, z_u2j _ _ _ _ b, z_u2k _ _ _ _ (by decide), z_u2k _ _ _ _ (by decide), z_u2k _ _ _ _ (by decide), z_u2k _ _ _ _ (by decide)]
  have p15 : P 15 = upd (upd (upd (upd (N 15) a x1) (a + 1) x2) (a + 2) x3) (a + 3) x4 := by rw [hP, z_u2k _ _ _ _ (by decide), z_u2r, z_u2r, z_u2r, z_u2r]
  have fp : zVM N P := ⟨fun k b c => pk k b c, fun j _ _ _ _ b => pj j b⟩
  have jp : zJm s T e P := jm.fr (pk 2 (by decide) (by decide)) (pj 3 (by decide)) (by rw [pj 4 (by decide)]; exact jm.mp) jm.ps
  have p5 : P 0 5 = -nI 1 := by rw [pj 5 (by decide)]; exact n5
  have hM : ∀ j, j < a → P 15 j = M 15 j := fun j hj => by rw [p15, z_updJ _ _ (by omega), z_updJ _ _ (by omega), z_updJ _ _ (by omega), z_updJ _ _ (by omega), fm.1 15 (by decide)]
  rw [z9_tells n5 n32 (by omega), ← hP, Option.bind_some, z_some]
  obtain ⟨a1, a2, a3⟩ := zA_spec (T := T) pe
  rcases z_sgn jx jp p5 (v := 59) (by omega) (by omega) with ⟨V, Q, l1, l2, l3, l4, l5, l6⟩ | ⟨V, Q, kd, l1, l2, l3, l4, l5⟩
  · refine .inl ⟨_, a + 4, V, Q, l1, l2, by omega, by omega, zWi.mk l3 l4 ?_ ?_ ?_ ?_ (by omega) ?_ hs ?_ ?_ h.n10, fx.trans l5.vx, (fm.vm.trans fp).trans l6.vm, fun j hj => ⟨?_, ?_⟩, .inl ⟨?_, rfl⟩⟩
    · rw [l6.2 5 (by decide)]; exact p5
    · rw [l5.2 7 (by decide) (by decide) (by decide)]; exact f7
    · rw [l5.1 31 (by decide)]; exact xa
    · rw [l6.2 32 (by decide), hP, z_u2s]
    · rw [l6.2 7 (by decide), pj 7 (by decide), fm.2 7 (by decide)]; exact h.dp
    · rw [l5.1 31 (by decide), fx.2.2 2 (by decide)]; exact h.xn
    · rw [l6.2 19 (by decide), pj 19 (by decide), fm.2 19 (by decide)]; exact h.mn
    · rw [l5.1 32 (by decide)]; exact hx j hj
    · rw [l6.1 15 (by decide)]; exact hM j hj
    · rw [l5.1 32 (by decide), l6.1 15 (by decide), p15]; exact hst
  · exact .inr ⟨V, Q, kd, _, l1, l2, (zVR_tf l3 l4 l5).pre fx (fm.vm.trans fp)⟩
/-- the step that a word begins, 5: none -/
def zSk (w : Nat) : Nat := if w = zOf 16 then 0 else if w = zOf 2 then 1 else if w = zOf 7 then 2 else if w = zOf 1 then 3 else if w = zOf 0 then 4 else 5
theorem z9_stepOf {w : Nat} (hw : w < 1073741825) : f_X9_stepOf (nI w) = some (if zSk w = 5 then -nI 1 else nI (zSk w)) := by
  have o := fun (i : Nat) (hi : i < 18) (c : w = zOf i) => (zOf_eq hw hi).2 c
  have o' := fun (i : Nat) (hi : i < 18) (c : ¬ w = zOf i) => fun x => c ((zOf_eq hw hi).1 x)
  unfold f_X9_stepOf zSk
  rw [z9_of (i := 16) (by decide), z9_of (i := 2) (by decide), z9_of (i := 7) (by decide), z9_of (i := 1) (by decide), z9_of (i := 0) (by decide), Option.bind_some]
  by_cases c16 : w = zOf 16
  · rw [if_pos (o 16 (by decide) c16), if_pos c16]; rfl
  · rw [if_neg (o' 16 (by decide) c16), if_neg c16, Option.bind_some]
    by_cases c2 : w = zOf 2
    · rw [if_pos (o 2 (by decide) c2), if_pos c2]; rfl
    · rw [if_neg (o' 2 (by decide) c2), if_neg c2, Option.bind_some]
      by_cases c7 : w = zOf 7
      · rw [if_pos (o 7 (by decide) c7), if_pos c7]; rfl
      · rw [if_neg (o' 7 (by decide) c7), if_neg c7, Option.bind_some]
        by_cases c1 : w = zOf 1
        · rw [if_pos (o 1 (by decide) c1), if_pos c1]; rfl
        · rw [if_neg (o' 1 (by decide) c1), if_neg c1, Option.bind_some]
          by_cases c0 : w = zOf 0
          · rw [if_pos (o 0 (by decide) c0), if_pos c0]; rfl
          · rw [if_neg (o' 0 (by decide) c0), if_neg c0]; rfl
def zB92 (M : TX) (x1 x2 t0 : Int32) : Option TX := if x1 = nI 3 then ((f_X9_readNumber M (nI 0) (nI 99)).bind fun q12 => (f_X9_tellsStep q12.1 x1 x2 t0 q12.2).bind fun q13 => (f_X9_sign q13 (nI 59)).bind fun q14 => some q14) else ((f_X9_tellsStep M x1 x2 t0 (nI 0)).bind fun q10 => (f_X9_sign q10 (nI 59)).bind fun q11 => some q11)
theorem zB92_S {M : TX} {a : Nat} (h : M 0 5 = nI a) (ha : a ≤ 600) (x1 x2 t0 : Int32) : zB92 M x1 x2 t0 = some M := by
  unfold zB92
  rw [z9_numS h ha, Option.bind_some]
  show (if x1 = nI 3 then ((f_X9_tellsStep M x1 x2 t0 (nI 0)).bind fun q13 => (f_X9_sign q13 (nI 59)).bind fun q14 => some q14) else _) = _
  rw [z9_tellsS h ha, Option.bind_some, z9_sgnS h ha, Option.bind_some]
  by_cases c : x1 = nI 3
  · rw [if_pos c]
  · rw [if_neg c]
/-- a move: its parish, its ward -/
theorem z_moveStep {s : Nat} {T : Nat → Nat} {p e a d n G : Nat} {X M A N : TX} (h : zWi s T p a d n X M) (hp : p + 4 ≤ e) (jx : zJx s T e A) (jm : zJm s T e N)
    (fx : zVX X A) (fm : zTM M N) (f7 : A 1 7 = -nI 1) (xa : A 31 1 = nI (a + 4)) (hx : ∀ j, j < a → A 32 j = X 32 j) (h3 : A 32 a = nI 3) :
    zSR s T p a d n G X M (zAnd (zAnd (f_X6_readNumber A (zBe n) (nI (a + 1))) fun B => zAnd (f_X6_readNumber B (zBe 4) (nI (a + 2))) fun C => some (C, nI 1)) fun D => f_X7_sign D (nI 59))
      ((f_X9_readNumber N (nI 0) (zBe n)).bind fun q17 => (f_X9_readNumber q17.1 (nI 0) (zBe 4)).bind fun q21 => zB92 q21.1 (nI 2) q17.2 q21.2) := by
  have hs := h.s1
  have n10 := h.n10
  have mp := h.mp
  have pe := jx.ps
  have f5 : N 0 5 = -nI 1 := by rw [fm.2 5 (by decide)]; exact h.f5
  rcases z6_num (i := a + 1) (b := n) jx jm f5 (by omega) (by omega) with ⟨e1, v, Y, P, k1, k2, k3, k4, k5, k6, k7, k8⟩ | ⟨Y, P, kd, pl, k1, k2, k3, k4, k5⟩
  · have f5' : P 0 5 = -nI 1 := by rw [k8.2 5 (by decide)]; exact f5
    have b1 := k5.ps
    rw [k2, Option.bind_some, zAnd_assoc, zAnd_1 k1, zAnd_assoc]
    show zSR s T p a d n G X M _ ((f_X9_readNumber P (nI 0) (zBe 4)).bind fun q21 => zB92 q21.1 (nI 2) (nI v) q21.2)
    rcases z6_num (i := a + 2) (b := 4) k5 k6 f5' (by omega) (by omega) with ⟨e2, w, Y2, P2, l1, l2, l3, l4, l5, l6, l7, l8⟩ | ⟨Y2, P2, kd, pl, l1, l2, l3, l4, l5⟩
    · rw [l2, Option.bind_some, zAnd_1 l1]
      have n23 : ¬ nI 2 = nI 3 := by decide
      have e32 : u2 Y2 32 (a + 2) (nI w) 32 = upd (upd (A 32) (a + 1) (nI v)) (a + 2) (nI w) := by rw [z_u2r, l7.1 32 (by decide), z_u2r, k7.1 32 (by decide)]
      show zSR s T p a d n G X M (zAnd (some (u2 Y2 32 (a + 2) (nI w), nI 1)) fun D => f_X7_sign D (nI 59)) (if nI 2 = nI 3 then _ else ((f_X9_tellsStep P2 (nI 2) (nI v) (nI w) (nI 0)).bind fun q10 => (f_X9_sign q10 (nI 59)).bind fun q11 => some q11))
      rw [zAnd_1 rfl, if_neg n23]
      refine z_stepEnd h (by omega) l5 l6 (fx.trans (((k7.vx.trans (zVX_32 _ _ _)).trans l7.vx).trans (zVX_32 _ _ _))) ((fm.trans k8).trans l8) ?_ ?_ (fun j hj => ?_) ?_
      · rw [z_u2k _ _ _ _ (by decide), l7.2 7 (by decide) (by decide) (by decide), z_u2k _ _ _ _ (by decide), k7.2 7 (by decide) (by decide) (by decide)]; exact f7
      · rw [z_u2k _ _ _ _ (by decide), l7.1 31 (by decide), z_u2k _ _ _ _ (by decide), k7.1 31 (by decide)]; exact xa
      · rw [e32, z_updJ _ _ (by omega), z_updJ _ _ (by omega)]; exact hx j hj
      · refine .inr (.inr (.inl ⟨v, w, k3, l3, ?_, ?_, ?_, ?_, ?_, ?_⟩))
        · rw [e32, z_updJ _ _ (by omega), z_updJ _ _ (by omega)]; exact h3
        · rw [z_updJ _ _ (by omega), z_updJ _ _ (by omega), z_updJ _ _ (by omega), z_updS]
        · rw [e32, z_updJ _ _ (by omega), z_updS]
        · rw [z_updJ _ _ (by omega), z_updJ _ _ (by omega), z_updS]
        · rw [e32, z_updS]
        · rw [z_updJ _ _ (by omega), z_updS]
    · have hpl := l5.2.2.2.2.1
      rw [l2, Option.bind_some, zAnd_0 l1]
      show zSR s T p a d n G X M (zAnd (some (Y2, nI 0)) fun D => f_X7_sign D (nI 59)) (zB92 P2 (nI 2) (nI v) (nI 0))
      rw [zAnd_0 rfl, zB92_S l5.2.2.1 (by omega)]
      exact .inr ⟨Y2, P2, kd, pl, rfl, rfl, (zVR_tf l3 l4 l5).pre (fx.trans (k7.vx.trans (zVX_32 _ _ _))) (fm.trans k8).vm⟩
  · have hpl := k5.2.2.2.2.1
    rw [k2, Option.bind_some, zAnd_assoc, zAnd_0 k1]
    show zSR s T p a d n G X M _ ((f_X9_readNumber P (nI 0) (zBe 4)).bind fun q21 => zB92 q21.1 (nI 2) (nI 0) q21.2)
    rw [z9_numS k5.2.2.1 (by omega), Option.bind_some]
    show zSR s T p a d n G X M _ (zB92 P (nI 2) (nI 0) (nI 0))
    rw [zB92_S k5.2.2.1 (by omega)]
    exact .inr ⟨Y, P, kd, pl, rfl, rfl, (zVR_tf k3 k4 k5).pre fx fm.vm⟩
/-- a count: its parish, its votes -/
theorem z_countStep {s : Nat} {T : Nat → Nat} {p e a d n G : Nat} {X M A N : TX} (h : zWi s T p a d n X M) (hp : p + 4 ≤ e) (jx : zJx s T e A) (jm : zJm s T e N)
    (fx : zVX X A) (fm : zTM M N) (f7 : A 1 7 = -nI 1) (xa : A 31 1 = nI (a + 4)) (hx : ∀ j, j < a → A 32 j = X 32 j) (h4 : A 32 a = nI 4) :
    zSR s T p a d n G X M (zAnd (zAnd (f_X6_readNumber A (zBe n) (nI (a + 1))) fun B => zAnd (f_X6_readNumber B (zBe 100) (nI (a + 2))) fun C => zAnd (f_X6_readNumber C (zBe 100) (nI (a + 3))) fun D => some (D, nI 1)) fun D => f_X7_sign D (nI 59))
      ((f_X9_readNumber N (nI 0) (zBe n)).bind fun q17 => (f_X9_readNumber q17.1 (nI 0) (zBe 100)).bind fun q21 => zB92 q21.1 (nI 3) q17.2 q21.2) := by
  have hs := h.s1
  have n10 := h.n10
  have mp := h.mp
  have pe := jx.ps
  have f5 : N 0 5 = -nI 1 := by rw [fm.2 5 (by decide)]; exact h.f5
  have e99 : nI 99 = zBe 100 := by unfold zBe; rw [zBe_u (b := 99)]
  rcases z6_num (i := a + 1) (b := n) jx jm f5 (by omega) (by omega) with ⟨e1, v, Y, P, k1, k2, k3, k4, k5, k6, k7, k8⟩ | ⟨Y, P, kd, pl, k1, k2, k3, k4, k5⟩
  · have f5' : P 0 5 = -nI 1 := by rw [k8.2 5 (by decide)]; exact f5
    have b1 := k5.ps
    rw [k2, Option.bind_some, zAnd_assoc, zAnd_1 k1, zAnd_assoc]
    show zSR s T p a d n G X M _ ((f_X9_readNumber P (nI 0) (zBe 100)).bind fun q21 => zB92 q21.1 (nI 3) (nI v) q21.2)
    rcases z6_num (i := a + 2) (b := 100) k5 k6 f5' (by omega) (by omega) with ⟨e2, w, Y2, P2, l1, l2, l3, l4, l5, l6, l7, l8⟩ | ⟨Y2, P2, kd, pl, l1, l2, l3, l4, l5⟩
    · have f5'' : P2 0 5 = -nI 1 := by rw [l8.2 5 (by decide)]; exact f5'
      have b2 := l5.ps
      rw [l2, Option.bind_some, zAnd_1 l1, zAnd_assoc]
      show zSR s T p a d n G X M _ (if nI 3 = nI 3 then ((f_X9_readNumber P2 (nI 0) (nI 99)).bind fun q12 => (f_X9_tellsStep q12.1 (nI 3) (nI v) (nI w) q12.2).bind fun q13 => (f_X9_sign q13 (nI 59)).bind fun q14 => some q14) else _)
      rw [if_pos rfl, e99]
      rcases z6_num (i := a + 3) (b := 100) l5 l6 f5'' (by omega) (by omega) with ⟨e3, u, Y3, P3, m1, m2, m3, m4, m5, m6, m7, m8⟩ | ⟨Y3, P3, kd, pl, m1, m2, m3, m4, m5⟩
      · have e32 : u2 Y3 32 (a + 3) (nI u) 32 = upd (upd (upd (A 32) (a + 1) (nI v)) (a + 2) (nI w)) (a + 3) (nI u) := by rw [z_u2r, m7.1 32 (by decide), z_u2r, l7.1 32 (by decide), z_u2r, k7.1 32 (by decide)]
        rw [m2, Option.bind_some, zAnd_1 m1]
        show zSR s T p a d n G X M (zAnd (some (u2 Y3 32 (a + 3) (nI u), nI 1)) fun D => f_X7_sign D (nI 59)) ((f_X9_tellsStep P3 (nI 3) (nI v) (nI w) (nI u)).bind fun q13 => (f_X9_sign q13 (nI 59)).bind fun q14 => some q14)
        rw [zAnd_1 rfl]
        refine z_stepEnd h (by omega) m5 m6 (fx.trans (((((k7.vx.trans (zVX_32 _ _ _)).trans l7.vx).trans (zVX_32 _ _ _)).trans m7.vx).trans (zVX_32 _ _ _))) (((fm.trans k8).trans l8).trans m8) ?_ ?_ (fun j hj => ?_) ?_
        · rw [z_u2k _ _ _ _ (by decide), m7.2 7 (by decide) (by decide) (by decide), z_u2k _ _ _ _ (by decide), l7.2 7 (by decide) (by decide) (by decide), z_u2k _ _ _ _ (by decide), k7.2 7 (by decide) (by decide) (by decide)]; exact f7
        · rw [z_u2k _ _ _ _ (by decide), m7.1 31 (by decide), z_u2k _ _ _ _ (by decide), l7.1 31 (by decide), z_u2k _ _ _ _ (by decide), k7.1 31 (by decide)]; exact xa
        · rw [e32, z_updJ _ _ (by omega), z_updJ _ _ (by omega), z_updJ _ _ (by omega)]; exact hx j hj
        · refine .inr (.inr (.inr ⟨v, w, u, k3, by omega, by omega, ?_, ?_, ?_, ?_, ?_, ?_, ?_, ?_⟩))
          · rw [e32, z_updJ _ _ (by omega), z_updJ _ _ (by omega), z_updJ _ _ (by omega)]; exact h4
          · rw [z_updJ _ _ (by omega), z_updJ _ _ (by omega), z_updJ _ _ (by omega), z_updS]
          · rw [e32, z_updJ _ _ (by omega), z_updJ _ _ (by omega), z_updS]
          · rw [z_updJ _ _ (by omega), z_updJ _ _ (by omega), z_updS]
          · rw [e32, z_updJ _ _ (by omega), z_updS]
          · rw [z_updJ _ _ (by omega), z_updS]
          · rw [e32, z_updS]
          · rw [z_updS]
      · have hpl := m5.2.2.2.2.1
        rw [m2, Option.bind_some, zAnd_0 m1]
        show zSR s T p a d n G X M (zAnd (some (Y3, nI 0)) fun D => f_X7_sign D (nI 59)) ((f_X9_tellsStep P3 (nI 3) (nI v) (nI w) (nI 0)).bind fun q13 => (f_X9_sign q13 (nI 59)).bind fun q14 => some q14)
        rw [zAnd_0 rfl, z9_tellsS m5.2.2.1 (by omega), Option.bind_some, z9_sgnS m5.2.2.1 (by omega), Option.bind_some]
        exact .inr ⟨Y3, P3, kd, pl, rfl, rfl, (zVR_tf m3 m4 m5).pre (fx.trans (((k7.vx.trans (zVX_32 _ _ _)).trans l7.vx).trans (zVX_32 _ _ _))) ((fm.trans k8).trans l8).vm⟩
    · have hpl := l5.2.2.2.2.1
      rw [l2, Option.bind_some, zAnd_0 l1]
      show zSR s T p a d n G X M (zAnd (some (Y2, nI 0)) fun D => f_X7_sign D (nI 59)) (zB92 P2 (nI 3) (nI v) (nI 0))
      rw [zAnd_0 rfl, zB92_S l5.2.2.1 (by omega)]
      exact .inr ⟨Y2, P2, kd, pl, rfl, rfl, (zVR_tf l3 l4 l5).pre (fx.trans (k7.vx.trans (zVX_32 _ _ _))) (fm.trans k8).vm⟩
  · have hpl := k5.2.2.2.2.1
    rw [k2, Option.bind_some, zAnd_assoc, zAnd_0 k1]
    show zSR s T p a d n G X M _ ((f_X9_readNumber P (nI 0) (zBe 100)).bind fun q21 => zB92 q21.1 (nI 3) (nI 0) q21.2)
    rw [z9_numS k5.2.2.1 (by omega), Option.bind_some]
    show zSR s T p a d n G X M _ (zB92 P (nI 3) (nI 0) (nI 0))
    rw [zB92_S k5.2.2.1 (by omega)]
    exact .inr ⟨Y, P, kd, pl, rfl, rfl, (zVR_tf k3 k4 k5).pre fx fm.vm⟩
