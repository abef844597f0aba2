set_option linter.unusedVariables false
theorem zWrp_and {x : Option (TX × Int32)} {k : TX → Option (TX × Int32)} (h : (∃ Y, x = some (Y, nI 1)) ∨ (∃ Y, x = some (Y, nI 0))) : zAnd (zWrp x) k = zAnd x k := by
  rcases h with ⟨Y, h⟩ | ⟨Y, h⟩
  · rw [zAnd_1 (zWrp_1 h), zAnd_1 h]
  · rw [zAnd_0 (zWrp_0 h), zAnd_0 h]
/-- a loop of a work, on both sides -/
theorem z_again {s : Nat} {T : Nat → Nat} {dep n : Nat} {rec : TX → Int32 → Option (TX × Int32)} {rec' : TX → Option TX} (hdep : dep ≤ 6)
    (hN : dep < 6 → ∀ p a X M x2, zWi s T p a (dep + 1) n X M → zAR s T p a (dep + 1) n X M (rec X (nI (dep + 1))) (L_X9_readAgain_32 rec' FU M x2) (zFA x2))
    {q a : Nat} {X M Y : TX} (h : zWi s T q a dep n X M) (jy : zJx s T (q + 5) Y) (y4 : Y 1 4 = nI q) (fy : zTX X Y) :
    zSR s T q a dep n (s - q - 1) X M (zAnd (zWrp (f_X6_readAgain rec Y (nI dep))) fun A => f_X7_sign A (nI 59)) ((f_X9_readAgain rec' M).bind fun q22 => (f_X9_sign q22 (nI 59)).bind fun q23 => some q23) := by
  have hs := h.s1
  have mp := h.mp
  have hq5 := jy.ps
  have n1 : ¬ nI 1 = nI 0 := by decide
  have ya : Y 31 1 = nI a := by rw [fy.1 31 (by decide)]; exact h.xa
  have e40 : nI 40 = zBe 41 := by unfold zBe; rw [zBe_u (b := 40)]
  have eX : f_X6_readAgain rec Y (nI dep) = if nI dep < nI 6 then ((f_X8_put 32 (u2 Y 31 1 ((Y 31 1) + nI 4)) (Y 31 1) (nI 5)).bind fun q2 => zAnd (f_X6_readNumber q2 (nI 40) ((Y 31 1) + nI 1)) fun A => zAnd (f_X7_sign A (nI 91)) fun B => zAnd (rec B (nI dep + nI 1)) fun C => (f_X8_put 32 C ((Y 31 1) + nI 2) (C 31 1)).bind fun q9 => zWrp (f_X7_sign q9 (nI 93))) else zWrp (f_X7_fail Y (nI 3) (Y 1 4)) := rfl
  have eM : f_X9_readAgain rec' M = (f_X9_opensOne M (nI 5)).bind fun q1 => (f_X9_readNumber q1 (nI 0) (nI 40)).bind fun q2 => (f_X9_sign q2.1 (nI 91)).bind fun q3 => (f_X9_tellsStep q3 (nI 4) q2.2 (nI 0) (nI 0)).bind fun q4 => L_X9_readAgain_32 rec' FU q4 (q3 0 32) := rfl
  have stick : ∀ (N : TX) pl, N 0 5 = nI pl → pl ≤ 600 → ∀ x2, L_X9_readAgain_32 rec' FU N x2 = some (u2 N 0 7 (N 0 7 - nI 1)) := fun N pl hN hp x2 => by
    show ((f_X9_fine N).bind fun q5 => if q5 = nI 0 then zFA x2 N else _) = _
    rw [z9_fine0 hN hp, Option.bind_some, if_pos rfl, zFA_S hN hp]
  rw [eX, eM, z_nI_add]
  simp only [z_some]
  by_cases c : dep < 6
  · obtain ⟨A0, hA0⟩ : ∃ Z, Z = u2 (u2 Y 31 1 (nI (a + 4))) 32 a (nI 5) := ⟨_, rfl⟩
    obtain ⟨N0, hN0⟩ : ∃ Z, Z = u2 (u2 M 0 4 (nI (q + 5))) 0 7 (nI (dep + 1)) := ⟨_, rfl⟩
    have put : ∀ (Z : TX) j v, j < 150 → f_X8_put 32 Z (nI j) v = some (u2 Z 32 j v) := fun Z j v hj => z_put (by show j < 150; omega) (by decide)
    have ak : ∀ k, k ≠ 31 → k ≠ 32 → A0 k = Y k := fun k a b => by rw [hA0, z_u2k _ _ _ _ b, z_u2k _ _ _ _ a]
    have jA : zJx s T (q + 5) A0 := jy.fr (ak 2 (by decide) (by decide)) (by rw [ak 1 (by decide) (by decide)]) (by rw [ak 1 (by decide) (by decide)]; exact jy.xp) hq5
    have fA : zVX X A0 := by rw [hA0]; exact (fy.vx.trans (zVX_31 _ _)).trans (zVX_32 _ _ _)
    have nk : ∀ k, k ≠ 0 → N0 k = M k := fun k a => by rw [hN0, z_u2k _ _ _ _ a, z_u2k _ _ _ _ a]
    have nj : ∀ j, j ≠ 4 → j ≠ 7 → N0 0 j = M 0 j := fun j a b => by rw [hN0, z_u2j _ _ _ _ b, z_u2j _ _ _ _ a]
    have jN : zJm s T (q + 5) N0 := h.jm.fr (nk 2 (by decide)) (nj 3 (by decide) (by decide)) (by rw [hN0, z_u2j _ _ _ _ (by decide), z_u2s]) hq5
    have fN : zVM M N0 := ⟨fun k a _ => nk k a, fun j a _ _ b _ => nj j a b⟩
    have f5 : N0 0 5 = -nI 1 := by rw [nj 5 (by decide) (by decide)]; exact h.f5
    rw [if_pos (by rw [z_nI_lt (by omega) (by omega)]; exact c), ya, z_nI_add, z_nI_add, z_nI_add, put _ _ _ (by omega), Option.bind_some, ← hA0, z9_opens h.f5 h.jm.mp h.dp c, Option.bind_some, ← hN0, e40]
    rcases z6_num (i := a + 1) (b := 41) jA jN f5 (by omega) (by omega) with ⟨e1, v, Y1, N1, k1, k2, k3, k4, k5, k6, k7, k8⟩ | ⟨Y1, N1, kd, pl, k1, k2, k3, k4, k5⟩
    · rw [zAnd_1 k1, k2, Option.bind_some]
      obtain ⟨A1, hA1⟩ : ∃ Z, Z = u2 Y1 32 (a + 1) (nI v) := ⟨_, rfl⟩
      rw [← hA1] at k5
      rw [← hA1]
      have f5' : N1 0 5 = -nI 1 := by rw [k8.2 5 (by decide)]; exact f5
      have fA1 : zVX X A1 := by rw [hA1]; exact (fA.trans k7.vx).trans (zVX_32 _ _ _)
      obtain ⟨b1, b2, b3⟩ := zA_spec (T := T) k5.ps
      show zSR s T q a dep n (s - q - 1) X M _ (((f_X9_sign N1 (nI 91)).bind fun q3 => (f_X9_tellsStep q3 (nI 4) (nI v) (nI 0) (nI 0)).bind fun q4 => L_X9_readAgain_32 rec' FU q4 (q3 0 32)).bind fun q22 => f_X9_sign q22 (nI 59))
      rcases z_sgn k5 k6 f5' (v := 91) (by omega) (by omega) with ⟨A2, N2, l1, l2, l3, l4, l5, l6⟩ | ⟨A2, N2, kd, l1, l2, l3, l4, l5⟩
      · have f5'' : N2 0 5 = -nI 1 := by rw [l6.2 5 (by decide)]; exact f5'
        have n32 : N2 0 32 = nI a := by rw [l6.2 32 (by decide), k8.2 32 (by decide), nj 32 (by decide) (by decide)]; exact h.ma
        obtain ⟨N3, hN3⟩ : ∃ Z, Z = u2 (u2 (u2 (u2 (u2 N2 15 a (nI 4)) 15 (a + 1) (nI v)) 15 (a + 2) (nI 0)) 15 (a + 3) (nI 0)) 0 32 (nI (a + 4)) := ⟨_, rfl⟩
        have p3k : ∀ k, k ≠ 0 → k ≠ 15 → N3 k = N2 k := fun k b c => by rw [hN3, z_u2k _ _ _ _ b, z_u2k _ _ _ _ c, z_u2k _ _ _ _ c, z_u2k _ _ _ _ c, z_u2k _ _ _ _ c]
        have p3j : ∀ j, j ≠ 32 → N3 0 j = N2 0 j := fun j b => by rw [hN3, z_u2j _ _ _ _ b, z_u2k _ _ _ _ (by decide), z_u2k _ _ _ _ (by decide), z_u2k _ _ _ _ (by decide), z_u2k _ _ _ _ (by decide)]
        have p315 : N3 15 = upd (upd (upd (upd (N2 15) a (nI 4)) (a + 1) (nI v)) (a + 2) (nI 0)) (a + 3) (nI 0) := by rw [hN3, z_u2k _ _ _ _ (by decide), z_u2r, z_u2r, z_u2r, z_u2r]
        have f23 : zVM N2 N3 := ⟨fun k b c => p3k k b c, fun j _ _ _ _ b => p3j j b⟩
        have N15 : N2 15 = M 15 := by rw [l6.1 15 (by decide), k8.1 15 (by decide), nk 15 (by decide)]
        have A32 : A2 32 = upd (upd (Y 32) a (nI 5)) (a + 1) (nI v) := by rw [l5.1 32 (by decide), hA1, z_u2r, k7.1 32 (by decide), hA0, z_u2r, z_u2k _ _ _ _ (by decide)]
        have A31 : A2 31 = A0 31 := by rw [l5.1 31 (by decide), hA1, z_u2k _ _ _ _ (by decide), k7.1 31 (by decide)]
        have fX2 : zVX X A2 := fA1.trans l5.vx
        have fM2 : zVM M N3 := ((fN.trans k8.vm).trans l6.vm).trans f23
        have w3 : zWi s T (zA T s e1 + 1) (a + 4) (dep + 1) n A2 N3 := by
          refine zWi.mk l3 (l4.fr (p3k 2 (by decide) (by decide)) (p3j 3 (by decide)) (by rw [p3j 4 (by decide)]; exact l4.mp) l4.ps) ?_ ?_ ?_ ?_ (by omega) ?_ hs ?_ ?_ h.n10
          · rw [p3j 5 (by decide)]; exact f5''
          · rw [l5.2 7 (by decide) (by decide) (by decide), hA1, z_u2k _ _ _ _ (by decide), k7.2 7 (by decide) (by decide) (by decide), ak 1 (by decide) (by decide), fy.2 7 (by decide) (by decide) (by decide)]; exact h.f7
          · rw [A31, hA0, z_u2k _ _ _ _ (by decide), z_u2s]
          · rw [hN3, z_u2s]
          · rw [p3j 7 (by decide), l6.2 7 (by decide), k8.2 7 (by decide), hN0, z_u2s]
          · rw [A31, hA0, z_u2k _ _ _ _ (by decide), z_u2j _ _ _ _ (by decide), fy.1 31 (by decide)]; exact h.xn
          · rw [p3j 19 (by decide), l6.2 19 (by decide), k8.2 19 (by decide), nj 19 (by decide) (by decide)]; exact h.mn
        rw [zAnd_1 l1, l2, Option.bind_some, z9_tells f5'' n32 (by omega), ← hN3, Option.bind_some, n32]
        rcases hN c _ _ A2 N3 (nI a) w3 with ⟨e3, b, Y3, N4, o1, o2, o3, o4, o5, o6, o7, o8, o9⟩ | ⟨Y3, N4, kd, pl, o1, o2, o3⟩
        · rw [zAnd_1 o1, o2, o5.xa]
          obtain ⟨A4, hA4⟩ : ∃ Z, Z = u2 Y3 32 (a + 2) (nI b) := ⟨_, rfl⟩
          have e3s := o5.jx.ps
          have bp := o5.mp
          have j4 : zJx s T e3 A4 := o5.jx.fr (by rw [hA4, z_u2k _ _ _ _ (by decide)]) (by rw [hA4, z_u2k _ _ _ _ (by decide)]) (by rw [hA4, z_u2k _ _ _ _ (by decide)]; exact o5.jx.xp) e3s
          have f34 : zVX Y3 A4 := by rw [hA4]; exact zVX_32 _ _ _
          have ib : inb (nI (a + 2)) 200 = true := by rw [z_inb (by omega)]; simp; omega
          rw [put _ _ _ (by omega), Option.bind_some, ← hA4]
          obtain ⟨d1, d2, d3⟩ := zA_spec (T := T) e3s
          rcases z_sgn j4 o5.jm o5.f5 (v := 93) (by omega) (by omega) with ⟨V, Q, m1, m2, m3, m4, m5, m6⟩ | ⟨V, Q, kd, m1, m2, m3, m4, m5⟩
          · have Q7 : Q 0 7 - nI 1 = nI dep := by rw [m6.2 7 (by decide), o5.dp, z_subN (by omega)]; rfl
            have Q5 : Q 0 5 = -nI 1 := by rw [m6.2 5 (by decide)]; exact o5.f5
            have Q32 : Q 0 32 = nI b := by rw [m6.2 32 (by decide)]; exact o5.ma
            obtain ⟨N6, hN6⟩ : ∃ Z, Z = u2 (u2 Q 0 7 (nI dep)) 15 (a + 2) (nI b) := ⟨_, rfl⟩
            have eF : zFA (nI a) N4 = some N6 := by
              unfold zFA
              rw [m2, Option.bind_some, Q7, z9_fine1 (by rw [z_u2j _ _ _ _ (by decide)]; exact Q5), Option.bind_some, if_neg n1, z_nI_add, if_pos ib, z_nI_tn (by omega), z_u2j _ _ _ _ (by decide), Q32, ← hN6]
            have q6k : ∀ k, k ≠ 0 → k ≠ 15 → N6 k = Q k := fun k b c => by rw [hN6, z_u2k _ _ _ _ c, z_u2k _ _ _ _ b]
            have q6j : ∀ j, j ≠ 7 → N6 0 j = Q 0 j := fun j b => by rw [hN6, z_u2k _ _ _ _ (by decide), z_u2j _ _ _ _ b]
            have j6 : zJm s T (zA T s e3 + 1) N6 := m4.fr (q6k 2 (by decide) (by decide)) (q6j 3 (by decide)) (by rw [q6j 4 (by decide)]; exact m4.mp) m4.ps
            have f56 : N6 0 5 = -nI 1 := by rw [q6j 5 (by decide)]; exact Q5
            have fQ6 : zVM Q N6 := by rw [hN6]; exact (zVM_7 _ _).trans (zVM_15 _ _ _)
            rw [eF, Option.bind_some, zAnd_1 (zWrp_1 (zWrp_1 m1))]
            obtain ⟨g1, g2, g3⟩ := zA_spec (T := T) m3.ps
            rcases z_sgn m3 j6 f56 (v := 59) (by omega) (by omega) with ⟨V2, Q2, r1, r2, r3, r4, r5, r6⟩ | ⟨V2, Q2, kd, r1, r2, r3, r4, r5⟩
            · have c32 : V2 32 = upd (Y3 32) (a + 2) (nI b) := by rw [r5.1 32 (by decide), m5.1 32 (by decide), hA4, z_u2r]
              have c15 : Q2 15 = upd (N4 15) (a + 2) (nI b) := by rw [r6.1 15 (by decide), hN6, z_u2r, z_u2k _ _ _ _ (by decide), m6.1 15 (by decide)]
              have y31 : V2 31 = Y3 31 := by rw [r5.1 31 (by decide), m5.1 31 (by decide), hA4, z_u2k _ _ _ _ (by decide)]
              have l32 : ∀ j, j < a + 4 → j ≠ a + 2 → V2 32 j = A2 32 j := fun j hj hj2 => by rw [c32, z_updJ _ _ hj2]; exact (o8 j hj).1
              have l15 : ∀ j, j < a + 4 → j ≠ a + 2 → Q2 15 j = N3 15 j := fun j hj hj2 => by rw [c15, z_updJ _ _ hj2]; exact (o8 j hj).2
              refine .inl ⟨_, b, V2, Q2, r1, r2, by omega, by omega, zWi.mk r3 r4 ?_ ?_ ?_ ?_ (by omega) ?_ hs ?_ ?_ h.n10, ((((fX2.trans o6).trans f34).trans m5.vx).trans r5.vx), ((((fM2.trans o7).trans m6.vm).trans fQ6).trans r6.vm), fun j hj => ⟨?_, ?_⟩, .inr ⟨v, by omega, by omega, ?_, ?_, ?_, ?_, ?_, ?_, by omega, ?_⟩⟩
              · rw [r6.2 5 (by decide)]; exact f56
              · rw [r5.2 7 (by decide) (by decide) (by decide), m5.2 7 (by decide) (by decide) (by decide), hA4, z_u2k _ _ _ _ (by decide)]; exact o5.f7
              · rw [y31]; exact o5.xa
              · rw [r6.2 32 (by decide), q6j 32 (by decide)]; exact Q32
              · rw [r6.2 7 (by decide), hN6, z_u2k _ _ _ _ (by decide), z_u2s]
              · rw [y31]; exact o5.xn
              · rw [r6.2 19 (by decide), q6j 19 (by decide), m6.2 19 (by decide)]; exact o5.mn
              · rw [l32 j (by omega) (by omega), A32, z_updJ _ _ (by omega), z_updJ _ _ (by omega), fy.1 32 (by decide)]
              · rw [l15 j (by omega) (by omega), p315, z_updJ _ _ (by omega), z_updJ _ _ (by omega), z_updJ _ _ (by omega), z_updJ _ _ (by omega), N15]
              · rw [l32 a (by omega) (by omega), A32, z_updJ _ _ (by omega), z_updS]
              · rw [l15 a (by omega) (by omega), p315, z_updJ _ _ (by omega), z_updJ _ _ (by omega), z_updJ _ _ (by omega), z_updS]
              · rw [l32 (a + 1) (by omega) (by omega), A32, z_updS]
              · rw [l15 (a + 1) (by omega) (by omega), p315, z_updJ _ _ (by omega), z_updJ _ _ (by omega), z_updS]
              · rw [c32, z_updS]
              · rw [c15, z_updS]
              · rw [c32, c15]
                refine zPl_congr _ _ _ _ (zPl_to o9 (by omega)) fun j hj _ => ⟨z_updJ _ _ (by omega), z_updJ _ _ (by omega)⟩
            · exact .inr ⟨V2, Q2, kd, _, r1, r2, (zVR_tf r3 r4 r5).pre (((fX2.trans o6).trans f34).trans m5.vx) (((fM2.trans o7).trans m6.vm).trans fQ6)⟩
          · have hpl := m5.2.2.2.2.1
            have eF : zFA (nI a) N4 = some (u2 Q 0 7 ((Q 0 7) - nI 1)) := by
              unfold zFA
              rw [m2, Option.bind_some, z9_fine0 (a := zA T s e3) (by rw [z_u2j _ _ _ _ (by decide)]; exact m5.2.2.1) (by omega), Option.bind_some, if_pos rfl]
            rw [eF, Option.bind_some, zAnd_0 (zWrp_0 (zWrp_0 m1)), z9_sgnS (a := zA T s e3) (by rw [z_u2j _ _ _ _ (by decide)]; exact m5.2.2.1) (by omega)]
            exact .inr ⟨V, _, kd, _, rfl, rfl, ((zVR_tf m3 m4 m5).post7 _).pre ((fX2.trans o6).trans f34) (fM2.trans o7)⟩
        · have hpl := o3.2.1
          have n5 := o3.2.2.2.2.1
          rw [zAnd_0 o1, zAnd_0 (zWrp_0 rfl), o2, zFA_S n5 (by omega), Option.bind_some, z9_sgnS (a := pl) (by rw [z_u2j _ _ _ _ (by decide)]; exact n5) (by omega)]
          exact .inr ⟨Y3, _, kd, pl, rfl, rfl, (o3.post7 _).pre fX2 fM2⟩
      · have hpl := l5.2.2.2.2.1
        rw [zAnd_0 l1, zAnd_0 (zWrp_0 rfl), l2, Option.bind_some, z9_tellsS l5.2.2.1 (by omega), Option.bind_some, stick N2 _ l5.2.2.1 (by omega), Option.bind_some, z9_sgnS (a := zA T s e1) (by rw [z_u2j _ _ _ _ (by decide)]; exact l5.2.2.1) (by omega)]
        exact .inr ⟨A2, _, kd, _, rfl, rfl, ((zVR_tf l3 l4 l5).post7 _).pre fA1 (fN.trans k8.vm)⟩
    · have hpl := k5.2.2.2.2.1
      have n5 := k5.2.2.1
      rw [zAnd_0 k1, zAnd_0 (zWrp_0 rfl), k2, Option.bind_some]
      show zSR s T q a dep n (s - q - 1) X M _ (((f_X9_sign N1 (nI 91)).bind fun q3 => (f_X9_tellsStep q3 (nI 4) (nI 0) (nI 0) (nI 0)).bind fun q4 => L_X9_readAgain_32 rec' FU q4 (q3 0 32)).bind fun q22 => f_X9_sign q22 (nI 59))
      rw [z9_sgnS n5 (by omega), Option.bind_some, z9_tellsS n5 (by omega), Option.bind_some, stick N1 _ n5 (by omega), Option.bind_some, z9_sgnS (a := pl) (by rw [z_u2j _ _ _ _ (by decide)]; exact n5) (by omega)]
      exact .inr ⟨Y1, _, kd, pl, rfl, rfl, ((zVR_tf k3 k4 k5).post7 _).pre fA fN⟩
  · have d6 : dep = 6 := by omega
    subst d6
    obtain ⟨N, m1, m2⟩ := z9_opens6 (T := T) h.jm h.f5 h.dp (nI 5)
    obtain ⟨Z, z1, z2⟩ := z7_fail (X := Y) (kd := 3) (pl := q)
    have hq6 : q ≤ 600 := by omega
    have f5 : u2 N 0 7 (nI 7) 0 5 = nI q := by rw [z_u2j _ _ _ _ (by decide)]; exact m2.2.2.1
    rw [if_neg (by decide), y4, zAnd_0 (zWrp_0 (zWrp_0 z1)), m1, Option.bind_some, z9_numS f5 hq6, Option.bind_some]
    show zSR s T q a 6 n (s - q - 1) X M _ (((f_X9_sign (u2 N 0 7 (nI 7)) (nI 91)).bind fun q3 => (f_X9_tellsStep q3 (nI 4) (nI 0) (nI 0) (nI 0)).bind fun q4 => L_X9_readAgain_32 rec' FU q4 (q3 0 32)).bind fun q22 => f_X9_sign q22 (nI 59))
    rw [z9_sgnS f5 hq6, Option.bind_some, z9_tellsS f5 hq6, Option.bind_some, stick _ _ f5 hq6, Option.bind_some, z9_sgnS (a := q) (by rw [z_u2j _ _ _ _ (by decide)]; exact f5) hq6]
    exact .inr ⟨Z, _, 3, q, rfl, rfl, (((zVR_tf (by omega) z2 m2).post7 _).post7 _).pre fy.vx (zVM.refl _)⟩
