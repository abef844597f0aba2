set_option linter.unusedVariables false
/-- a run of operands with signs between: the loops of both sides -/
theorem z_opL {s : Nat} {T : Nat → Nat} {dep : Nat} {x2 : Int32} {ops : Nat → Nat} (hops : ∀ v, ops v ≠ 0 → 2 ≤ ops v ∧ ops v ≤ 8)
    {LX : Nat → TX → Int32 → Int32 → Option (TX × Int32)} {LM : Nat → TX → Option TX} {U : TX → Int32 → Option (TX × Int32)} {U' : TX → Option TX}
    (eX : ∀ g p i X, zJx s T p X → i < 150 → LX (g + 1) X x2 (nI i) = if zA T s p < s ∧ ops (T (zA T s p)) ≠ 0 then ((U (u2 X 1 3 (nI (zA T s p + 1))) x2).bind fun q8 => if q8.2 = nI 0 then some (q8.1, nI 0) else ((f_X4_add q8.1 (zOp (ops (T (zA T s p))))).bind fun q => LX g q.1 x2 (nI (i + 1)))) else some (u2 X 1 3 (nI (zA T s p)), nI 1))
    (eM : ∀ g p M, zJm s T p M → M 0 5 = -nI 1 → LM (g + 1) M = if zA T s p < s ∧ ops (T (zA T s p)) ≠ 0 then ((U' (u2 M 0 4 (nI (zA T s p + 1)))).bind fun q => (f_X9_emit q (nI (ops (T (zA T s p)))) (nI 0)).bind fun q' => LM g q') else some (u2 M 0 4 (nI (zA T s p))))
    (eS : ∀ g M a, M 0 5 = nI a → a ≤ 600 → LM (g + 1) M = some M)
    (hU : ∀ p m H X M, zLi s T p m H dep X M → zLo 1 0 s T p m (H + 1) dep X M (U X x2) (U' M)) :
    ∀ (d p m i H fX fM : Nat) (X M : TX), s - p ≤ d → d < fX → d < fM → i < p → zLi s T p m (H + 1) dep X M → zLo 0 0 s T p m (H + 1) dep X M (LX fX X x2 (nI i)) (LM fM M) := by
  intro d
  induction d with
  | zero =>
    intro p m i H fX fM X M hd hfX hfM hi h
    have hp := h.jx.ps
    have hs := h.s1
    obtain ⟨g, rfl⟩ : ∃ g, fX = g + 1 := ⟨fX - 1, by omega⟩
    obtain ⟨g', rfl⟩ : ∃ g, fM = g + 1 := ⟨fM - 1, by omega⟩
    obtain ⟨a1, a2, a3⟩ := zA_spec (T := T) hp
    have c : ¬ (zA T s p < s ∧ ops (T (zA T s p)) ≠ 0) := fun c => by omega
    rw [eX g p i X h.jx (by omega), eM g' p M h.jm h.f5, if_neg c, if_neg c]
    exact .inl ⟨_, m, _, _, rfl, rfl, a1, by omega, h.mv (h.jx.to a2) (h.jm.to a2) (zTX_u (.inl rfl) _) (zTM_u _ _) a1, (zTX_u (.inl rfl) _).wx, (zTM_u _ _).wm⟩
  | succ d ih =>
    intro p m i H fX fM X M hd hfX hfM hi h
    have hp := h.jx.ps
    have hs := h.s1
    have mp := h.mp
    obtain ⟨g, rfl⟩ : ∃ g, fX = g + 1 := ⟨fX - 1, by omega⟩
    obtain ⟨g', rfl⟩ : ∃ g, fM = g + 1 := ⟨fM - 1, by omega⟩
    obtain ⟨a1, a2, a3⟩ := zA_spec (T := T) hp
    rw [eX g p i X h.jx (by omega), eM g' p M h.jm h.f5]
    generalize zA T s p = q at *
    by_cases c : q < s ∧ ops (T q) ≠ 0
    · rw [if_pos c, if_pos c]
      have fx : zTX X (u2 X 1 3 (nI (q + 1))) := zTX_u (.inl rfl) _
      have fm : zTM M (u2 M 0 4 (nI (q + 1))) := zTM_u _ _
      have h1 := h.mv (h.jx.to (q := q + 1) (by omega)) (h.jm.to (q := q + 1) (by omega)) fx fm (by omega)
      have hb := hops _ c.2
      rcases hU (q + 1) m (H + 1) _ _ h1 with ⟨e, m', Y, N, k1, k2, k3, k4, k5, k6, k7⟩ | ⟨Y, N, kd, pl, k1, k2, k3⟩
      · obtain ⟨V, Q, l1, l2, l3, l4, l5⟩ := k5.em (H' := H + 1) (a := zOp (ops (T q))) (b := nI (ops (T q))) (f := nI 0) (by omega) (.inr (.inr ⟨_, hb.1, hb.2, rfl, rfl, by omega, rfl⟩))
        have n1 : ¬ nI 1 = nI 0 := by decide
        have cut : ∀ (r r' : Option (TX × Int32)), (if (Y, nI 1).2 = nI 0 then r else r') = r' := fun r r' => if_neg n1
        rw [k1, Option.bind_some, cut, l1, Option.bind_some, k2, Option.bind_some, l2, Option.bind_some]
        have he := l3.jx.ps
        rcases ih e (m' + 1) (i + 1) H g g' V Q (by omega) (by omega) (by omega) (by omega) l3 with ⟨e2, m2, Z, P, o1, o2, o3, o4, o5, o6, o7⟩ | ⟨Z, P, kd, pl, o1, o2, o3⟩
        · exact .inl ⟨e2, m2, Z, P, o1, o2, by omega, by omega, o5, ((fx.wx.trans k6).trans l4).trans o6, ((fm.wm.trans k7).trans l5).trans o7⟩
        · exact .inr ⟨Z, P, kd, pl, o1, o2, o3.pre ((fx.wx.trans k6).trans l4) ((fm.wm.trans k7).trans l5)⟩
      · have cut : ∀ (r r' : Option (TX × Int32)), (if (Y, nI 0).2 = nI 0 then r else r') = r := fun r r' => if_pos rfl
        have h600 : pl ≤ 600 := by have := k3.2.1; omega
        have n5 := k3.2.2.2.2.1
        obtain ⟨g2, rfl⟩ : ∃ g2, g' = g2 + 1 := ⟨g' - 1, by omega⟩
        rw [k1, Option.bind_some, cut, k2, Option.bind_some, z9_emS n5 h600, Option.bind_some, eS g2 N pl n5 h600]
        exact .inr ⟨Y, N, kd, pl, rfl, rfl, k3.pre fx.wx fm.wm⟩
    · rw [if_neg c, if_neg c]
      exact .inl ⟨_, m, _, _, rfl, rfl, a1, by omega, h.mv (h.jx.to a2) (h.jm.to a2) (zTX_u (.inl rfl) _) (zTM_u _ _) a1, (zTX_u (.inl rfl) _).wx, (zTM_u _ _).wm⟩
theorem z_opT {s : Nat} {T : Nat → Nat} {dep : Nat} {x2 : Int32} {ops : Nat → Nat} (hops : ∀ v, ops v ≠ 0 → 2 ≤ ops v ∧ ops v ≤ 8)
    {LX : Nat → TX → Int32 → Int32 → Option (TX × Int32)} {LM : Nat → TX → Option TX} {U : TX → Int32 → Option (TX × Int32)} {U' : TX → Option TX}
    (eX : ∀ g p i X, zJx s T p X → i < 150 → LX (g + 1) X x2 (nI i) = if zA T s p < s ∧ ops (T (zA T s p)) ≠ 0 then ((U (u2 X 1 3 (nI (zA T s p + 1))) x2).bind fun q8 => if q8.2 = nI 0 then some (q8.1, nI 0) else ((f_X4_add q8.1 (zOp (ops (T (zA T s p))))).bind fun q => LX g q.1 x2 (nI (i + 1)))) else some (u2 X 1 3 (nI (zA T s p)), nI 1))
    (eM : ∀ g p M, zJm s T p M → M 0 5 = -nI 1 → LM (g + 1) M = if zA T s p < s ∧ ops (T (zA T s p)) ≠ 0 then ((U' (u2 M 0 4 (nI (zA T s p + 1)))).bind fun q => (f_X9_emit q (nI (ops (T (zA T s p)))) (nI 0)).bind fun q' => LM g q') else some (u2 M 0 4 (nI (zA T s p))))
    (eS : ∀ g M a, M 0 5 = nI a → a ≤ 600 → LM (g + 1) M = some M)
    (hU : ∀ p m H X M, zLi s T p m H dep X M → zLo 1 0 s T p m (H + 1) dep X M (U X x2) (U' M)) {p m H : Nat} {X M : TX} (h : zLi s T p m H dep X M) :
    zLo 1 0 s T p m (H + 1) dep X M ((U X x2).bind fun q1 => if q1.2 = nI 0 then some (q1.1, nI 0) else LX FU q1.1 x2 (nI 0)) ((U' M).bind fun q1 => LM FU q1) := by
  have hs := h.s1
  rcases hU p m H X M h with ⟨e, m', Y, N, k1, k2, k3, k4, k5, k6, k7⟩ | ⟨Y, N, kd, pl, k1, k2, k3⟩
  · have n1 : ¬ nI 1 = nI 0 := by decide
    have cut : ∀ (r r' : Option (TX × Int32)), (if (Y, nI 1).2 = nI 0 then r else r') = r' := fun r r' => if_neg n1
    rw [k1, Option.bind_some, cut, k2, Option.bind_some]
    rcases z_opL hops eX eM eS hU s e m' 0 H FU FU Y N (by omega) (by unfold FU; omega) (by unfold FU; omega) (by omega) k5 with ⟨e2, m2, Z, P, o1, o2, o3, o4, o5, o6, o7⟩ | ⟨Z, P, kd, pl, o1, o2, o3⟩
    · exact .inl ⟨e2, m2, Z, P, o1, o2, by omega, by omega, o5, k6.trans o6, k7.trans o7⟩
    · exact .inr ⟨Z, P, kd, pl, o1, o2, o3.pre k6 k7⟩
  · have cut : ∀ (r r' : Option (TX × Int32)), (if (Y, nI 0).2 = nI 0 then r else r') = r := fun r r' => if_pos rfl
    have h600 : pl ≤ 600 := by have := k3.2.1; omega
    rw [k1, Option.bind_some, cut, k2, Option.bind_some]
    exact .inr ⟨Y, N, kd, pl, rfl, eS 1023 N pl k3.2.2.2.2.1 h600, k3⟩
