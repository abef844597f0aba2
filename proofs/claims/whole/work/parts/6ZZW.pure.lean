set_option linter.unusedVariables false
theorem z_ctyS {s : Nat} {T : Nat → Nat} {i g g' p n t : Nat} {X M : TX} (hi : i ≤ 60) (hX : zJx s T p X) (hM : zJm s T p M) (hf : M 0 5 = -nI 1) (hD : zKD n t X M) (hg : i < 60 → 1 ≤ g')
    (ih : i < 60 → ∀ (p n t : Nat) (X M : TX), zJx s T p X → zJm s T p M → M 0 5 = -nI 1 → zKD n t X M → zLp s X M (L_X3_read_6 g X (nI (i + 1))) (L_X9_county_44 g' M (nI (i + 1)))) :
    zLp s X M (L_X3_read_6 (g + 1) X (nI i)) (L_X9_county_44 (g' + 1) M (nI i)) := by
  obtain ⟨a1, a2, a3⟩ := zA_spec (T := T) hX.ps
  obtain ⟨b1, b2, b3⟩ := zLE_spec (T := T) a2
  have hs := hX.s6
  have n1 : ¬ nI 1 = nI 0 := by decide
  have hX1 := hX.to a2
  have hM1 := hM.to a2
  have fx : zTX X (u2 X 1 3 (nI (zA T s p))) := zTX_u (.inl rfl) _
  have fm : zTM M (u2 M 0 4 (nI (zA T s p))) := zTM_u _ _
  have hf1 : u2 M 0 4 (nI (zA T s p)) 0 5 = -nI 1 := (fm.2 5 (by decide)).trans hf
  rw [z3_readStep hX hi, z9_step hM hf hD.mn hD.mt hD.n10 hD.t6 hi]
  by_cases c : s ≤ zA T s p
  · rw [if_pos c, if_pos c]
    exact .inl ⟨n, t, _, _, rfl, rfl, hf1, hD.fr fx fm, fx.cx, fm.cm⟩
  · rw [if_neg c, if_neg c]
    obtain ⟨Y, y1, y2, y3, y4⟩ := z7_word hX1
    rw [a3] at y2 y3
    have fy := fx.trans y4
    have hDY := hD.fr fy fm
    have hw : zWn T (zA T s p) (zLE T s (zA T s p) - zA T s p) < 1073741825 := zWn_lt fun j hj => b3 _ (by omega) (by omega)
    rw [z3_clause y1 y2 y3 b1 b3 (by omega) hDY.xn hDY.xt hD.n10 hD.t6]
    have bad : ∀ (kd : Nat), kd < 4 → ∀ (G : TX × Int32 → Option (TX × Int32)), zLp s X M ((zWrp (f_X7_fail Y (nI kd) (nI (zA T s p)))).bind fun q7 => if q7.2 = nI 0 then some (q7.1, nI 0) else G q7) ((f_X9_wrong (u2 M 0 4 (nI (zA T s p))) (nI kd) (nI (zA T s p))).bind fun q => B_X9_county_105 (L_X9_county_44 g') q (nI i) (nI (zWn T (zA T s p) (zLE T s (zA T s p) - zA T s p)))) := fun kd hk G => by
      obtain ⟨Z, z1, z2⟩ := z7_fail (X := Y) (kd := kd) (pl := zA T s p)
      obtain ⟨N, m1, m2⟩ := z9_wrong (kd := kd) (pl := zA T s p) hM1 hf1 a2
      rw [zWrp_0 z1, m1, Option.bind_some, Option.bind_some, zB105_S m2.2.2.1 (by omega)]
      exact .inr ⟨Z, N, kd, zA T s p, if_pos rfl, rfl, hk, a2, z2.2.2.1, z2.2.2.2, m2.2.2.1, m2.2.2.2.1, fy.cx.trans z2.cx, fm.cm.trans m2.cm⟩
    generalize zWn T (zA T s p) (zLE T s (zA T s p) - zA T s p) = w at *
    by_cases c0 : zKd w = 0
    · rw [if_pos c0, if_pos c0]
      exact bad 1 (by decide) _
    · rw [if_neg c0, if_neg c0]
      by_cases i6 : i = 60
      · rw [if_pos (by omega), if_pos (.inl i6)]
        exact bad 3 (by decide) _
      · rw [if_neg (by omega)]
        by_cases cf : (zKd w = 1 ∧ n = 10) ∨ (zKd w = 3 ∧ t = 6)
        · rw [if_pos cf, if_pos (.inr cf)]
          exact bad 3 (by decide) _
        · rw [if_neg cf, if_neg (by omega), zB105_1 hM1 hf1, z_nI_add]
          have hM2 := hM1.to b2
          have fm2 : zTM M (u2 (u2 M 0 4 (nI (zA T s p))) 0 4 (nI (zLE T s (zA T s p)))) := fm.trans (zTM_u _ _)
          have hf2 := (fm2.2 5 (by decide)).trans hf
          obtain ⟨h, rfl⟩ : ∃ h, g' = h + 1 := ⟨g' - 1, by have := hg (by omega); omega⟩
          rcases z_rowOf y2 hM2 hf2 (hD.fr fy fm2) hw c0 cf with ⟨e, n', t', Z, N, h1, h2, h3, h4, h5, h6, h7, h8⟩ | ⟨Z, N, kd, pl, a, h1, h2, h3, h4, h5, h6, h7, h8, h9, h10, h11⟩
          · rw [h1, h2, Option.bind_some, Option.bind_some]
            have cs : ∀ (r : Option (TX × Int32)) (G : TX × Int32 → Option (TX × Int32)), (if (Z, nI 1).2 = nI 0 then r else ((f_X7_sign (Z, nI 1).1 (nI 59)).bind G)) = (f_X7_sign Z (nI 59)).bind G := fun r G => if_neg n1
            rw [cs]
            rcases z_sgn h3 h4 h5 (v := 59) (by decide) (by decide) with ⟨V, Q, l1, l2, l3, l4, l5, l6⟩ | ⟨V, Q, kd, l1, l2, l3, l4, l5⟩
            · rw [l1, l2, Option.bind_some, Option.bind_some]
              have cs2 : ∀ (r G : Option (TX × Int32)), (if (V, nI 1).2 = nI 0 then r else G) = G := fun r G => if_neg n1
              rw [cs2]
              rcases ih (by omega) _ n' t' V Q l3 l4 ((l6.2 5 (by decide)).trans h5) (h6.fr l5 l6) with ⟨n'', t'', A, B, o1, o2, o3, o4, o5, o6⟩ | ⟨A, B, kd, pl, o1, o2, o3, o4, o5, o6, o7, o8, o9, o10⟩
              · exact .inl ⟨n'', t'', A, B, o1, o2, o3, o4, ((fy.cx.trans h7).trans l5.cx).trans o5, ((fm2.cm.trans h8).trans l6.cm).trans o6⟩
              · exact .inr ⟨A, B, kd, pl, o1, o2, o3, o4, o5, o6, o7, o8, ((fy.cx.trans h7).trans l5.cx).trans o9, ((fm2.cm.trans h8).trans l6.cm).trans o10⟩
            · have hpl := l5.2.2.2.2.1
              rw [l1, l2, Option.bind_some, Option.bind_some, zCty_S l5.2.2.1 (by omega)]
              exact .inr ⟨V, Q, kd, _, if_pos rfl, rfl, l3, hpl, l4.2.2.1, l4.2.2.2, l5.2.2.1, l5.2.2.2.1, (fy.cx.trans h7).trans l4.cx, (fm2.cm.trans h8).trans l5.cm⟩
          · rw [h1, h2, Option.bind_some, Option.bind_some, z9_sgnS h7 (by omega), Option.bind_some, zCty_S h7 (by omega)]
            exact .inr ⟨Z, N, kd, pl, if_pos rfl, rfl, h3, h4, h5, h6, h7, h8, fy.cx.trans h10, fm2.cm.trans h11⟩
theorem z_ctyL {s : Nat} {T : Nat → Nat} : ∀ (k i fX fM p n t : Nat) (X M : TX), i + k = 60 → k < fX → k < fM → zJx s T p X → zJm s T p M → M 0 5 = -nI 1 → zKD n t X M →
    zLp s X M (L_X3_read_6 fX X (nI i)) (L_X9_county_44 fM M (nI i)) := by
  intro k
  induction k with
  | zero =>
    intro i fX fM p n t X M hk hfX hfM hX hM hf hD
    obtain ⟨g, rfl⟩ : ∃ g, fX = g + 1 := ⟨fX - 1, by omega⟩
    obtain ⟨g', rfl⟩ : ∃ g, fM = g + 1 := ⟨fM - 1, by omega⟩
    exact z_ctyS (by omega) hX hM hf hD (fun h => absurd h (by omega)) fun h => absurd h (by omega)
  | succ k ih =>
    intro i fX fM p n t X M hk hfX hfM hX hM hf hD
    obtain ⟨g, rfl⟩ : ∃ g, fX = g + 1 := ⟨fX - 1, by omega⟩
    obtain ⟨g', rfl⟩ : ∃ g, fM = g + 1 := ⟨fM - 1, by omega⟩
    exact z_ctyS (by omega) hX hM hf hD (fun _ => by omega) fun _ p n t X M h1 h2 h3 h4 => ih (i + 1) g g' p n t X M (by omega) (by omega) (by omega) h1 h2 h3 h4
