set_option linter.unusedVariables false
theorem z_parRow {s : Nat} {T : Nat → Nat} {p n t : Nat} {X M : TX} (hX : zJx s T p X) (hM : zJm s T p M) (hf : M 0 5 = -nI 1) (hD : zKD n t X M) (hn : n < 10) :
    zRw s T X M (f_X3_readParish X) (zParM M) := by
  have hs := hX.s6
  have e3 : nI 3 = zBe 4 := by unfold zBe; rw [zBe_u (b := 3)]
  have e99 : nI 99 = zBe 100 := by unfold zBe; rw [zBe_u (b := 99)]
  have n1 : ¬ nI 1 = nI 0 := by decide
  have eX : f_X3_readParish X = (f_X7_number X (nI 3)).bind fun q1 => if q1.2 = nI 0 then (some (q1.1, nI 0)) else ((f_X8_put 12 q1.1 (q1.1 11 5) (q1.1 1 5)).bind fun q3 => L_X3_readParish_27 FU q3 (nI 0)) := rfl
  have p12 : ∀ (W : TX) v, f_X8_put 12 W (nI n) v = some (u2 W 12 n v) := fun W v => z_put (by show n < 10; omega) (by decide)
  have p13 : ∀ (W : TX) j v, j < 20 → f_X8_put 13 W (nI j) v = some (u2 W 13 j v) := fun W j v hj => z_put (by show j < 20; omega) (by decide)
  rw [eX]
  have N1 := z_num hX hM hf (b := 4) (by decide)
  rw [← e3] at N1
  rcases N1 with ⟨e, v, Y, N, k1, k2, k3, k4, k5, k6, k7, k8, k9, k10⟩ | ⟨Y, N, kd, k1, k2, k3, k4, k5⟩
  · have hD1 := hD.fr k9 k10
    obtain ⟨Y1, hY1⟩ : ∃ Z, Z = u2 Y 12 n (nI v) := ⟨_, rfl⟩
    obtain ⟨N1, hN1⟩ : ∃ Z, Z = u2 N 3 (3 * n) (nI v) := ⟨_, rfl⟩
    have ux1 : zUX Y Y1 := by rw [hY1]; exact zUX_k _ (by omega) _ _
    have um1 : zUM N N1 := by rw [hN1]; exact zUM_k _ (by omega) _ _
    have jx1 := ux1.jx k7
    have jm1 := um1.jm k8
    have hf1 : N1 0 5 = -nI 1 := (um1.2 5 (by decide) (by decide) (by decide)).trans ((k10.2 5 (by decide)).trans hf)
    have m16 : N1 0 16 = nI n := by rw [hN1, z_u2k _ _ _ _ (by decide)]; exact hD1.mn
    have x11 : Y1 11 5 = nI n := by rw [hY1, z_u2k _ _ _ _ (by decide)]; exact hD1.xn
    rw [zParM_eq k2 hD.mn hn, ← hN1, k1, Option.bind_some]
    have cX : ∀ r : Option (TX × Int32), (if (Y, nI 1).2 = nI 0 then r else ((f_X8_put 12 Y (Y 11 5) (Y 1 5)).bind fun q3 => L_X3_readParish_27 FU q3 (nI 0))) = (f_X7_number Y1 (nI 99)).bind fun q5 => if q5.2 = nI 0 then (some (q5.1, nI 0)) else ((f_X8_put 13 q5.1 ((nI 0 * nI 10) + (q5.1 11 5)) (q5.1 1 5)).bind fun q7 => L_X3_readParish_27 1023 q7 (nI 1)) := fun r => by
      rw [if_neg n1, hD1.xn, k5, p12, Option.bind_some, ← hY1]
      exact zParX 1023 0 (by omega) Y1
    show zRw s T X M (if (Y, nI 1).2 = nI 0 then _ else _) _
    rw [cX]
    have N2 := z_num jx1 jm1 hf1 (b := 100) (by decide)
    rw [← e99] at N2
    rcases N2 with ⟨e', a, Z, P, g1, g2, g3, g4, g5, g6, g7, g8, g9, g10⟩ | ⟨Z, P, kd, g1, g2, g3, g4, g5⟩
    · have z11 : Z 11 5 = nI n := by rw [g9.1 11 (by decide)]; exact x11
      obtain ⟨Z1, hZ1⟩ : ∃ W, W = u2 Z 13 n (nI a) := ⟨_, rfl⟩
      obtain ⟨P1, hP1⟩ : ∃ W, W = u2 P 3 (3 * n + 1) (nI a) := ⟨_, rfl⟩
      have ux2 : zUX Z Z1 := by rw [hZ1]; exact zUX_k _ (by omega) _ _
      have um2 : zUM P P1 := by rw [hP1]; exact zUM_k _ (by omega) _ _
      have jx2 := ux2.jx g7
      have jm2 := um2.jm g8
      have hf2 : P1 0 5 = -nI 1 := (um2.2 5 (by decide) (by decide) (by decide)).trans ((g10.2 5 (by decide)).trans hf1)
      have q16 : P1 0 16 = nI n := by rw [hP1, z_u2k _ _ _ _ (by decide), g10.2 16 (by decide)]; exact m16
      have y11 : Z1 11 5 = nI n := by rw [hZ1, z_u2k _ _ _ _ (by decide)]; exact z11
      rw [zParM2_eq g2 m16 hn, ← hP1, g1, Option.bind_some]
      have cX2 : ∀ r : Option (TX × Int32), (if (Z, nI 1).2 = nI 0 then r else ((f_X8_put 13 Z ((nI 0 * nI 10) + (Z 11 5)) (Z 1 5)).bind fun q7 => L_X3_readParish_27 1023 q7 (nI 1))) = (f_X7_number Z1 (nI 99)).bind fun q5 => if q5.2 = nI 0 then (some (q5.1, nI 0)) else ((f_X8_put 13 q5.1 ((nI 1 * nI 10) + (q5.1 11 5)) (q5.1 1 5)).bind fun q7 => L_X3_readParish_27 1022 q7 (nI 2)) := fun r => by
        rw [if_neg n1, z11, g5, z_nI_mul, z_nI_add, show 0 * 10 + n = n by omega, p13 _ _ _ (by omega), Option.bind_some, ← hZ1]
        exact zParX 1022 1 (by omega) Z1
      show zRw s T X M (if (Z, nI 1).2 = nI 0 then _ else _) _
      rw [cX2]
      have N3 := z_num jx2 jm2 hf2 (b := 100) (by decide)
      rw [← e99] at N3
      rcases N3 with ⟨e'', b, V, Q, l1, l2, l3, l4, l5, l6, l7, l8, l9, l10⟩ | ⟨V, Q, kd, l1, l2, l3, l4, l5⟩
      · have v11 : V 11 5 = nI n := by rw [l9.1 11 (by decide)]; exact y11
        have r16 : Q 0 16 = nI n := (l10.2 16 (by decide)).trans q16
        obtain ⟨V1, hV1⟩ : ∃ W, W = u2 (u2 V 13 (10 + n) (nI b)) 11 5 (nI (n + 1)) := ⟨_, rfl⟩
        obtain ⟨Q1, hQ1⟩ : ∃ W, W = u2 (u2 Q 3 (3 * n + 2) (nI b)) 0 16 (nI (n + 1)) := ⟨_, rfl⟩
        have ux3 : zUX V V1 := by rw [hV1]; exact (zUX_k _ (by omega) _ _).trans (zUX_k _ (by omega) _ _)
        have um3 : zUM Q Q1 := by rw [hQ1]; exact (zUM_k _ (by omega) _ _).trans (zUM_0 _ (by omega) _)
        have vk : ∀ k, k ≠ 1 → k ≠ 11 → k ≠ 12 → k ≠ 13 → V1 k = Y k := fun k a b c d => by rw [hV1, z_u2k _ _ _ _ b, z_u2k _ _ _ _ d, l9.1 k a, hZ1, z_u2k _ _ _ _ d, g9.1 k a, hY1, z_u2k _ _ _ _ c]
        have qk : ∀ k, k ≠ 0 → k ≠ 3 → Q1 k = N k := fun k a b => by rw [hQ1, z_u2k _ _ _ _ a, z_u2k _ _ _ _ b, l10.1 k a, hP1, z_u2k _ _ _ _ b, g10.1 k a, hN1, z_u2k _ _ _ _ b]
        have v11' : ∀ j, j ≠ 5 → V1 11 j = Y 11 j := fun j a => by rw [hV1, z_u2j _ _ _ _ a, z_u2k _ _ _ _ (by decide), l9.1 11 (by decide), hZ1, z_u2k _ _ _ _ (by decide), g9.1 11 (by decide), hY1, z_u2k _ _ _ _ (by decide)]
        have q0' : ∀ j, j ≠ 4 → j ≠ 16 → Q1 0 j = N 0 j := fun j a b => by rw [hQ1, z_u2j _ _ _ _ b, z_u2k _ _ _ _ (by decide), l10.2 j a, hP1, z_u2k _ _ _ _ (by decide), g10.2 j a, hN1, z_u2k _ _ _ _ (by decide)]
        have v12 : V1 12 = u2 Y 12 n (nI v) 12 := by rw [hV1, z_u2k _ _ _ _ (by decide), z_u2k _ _ _ _ (by decide), l9.1 12 (by decide), hZ1, z_u2k _ _ _ _ (by decide), g9.1 12 (by decide), hY1]
        have v13 : ∀ j, V1 13 j = if j = 10 + n then nI b else if j = n then nI a else Y 13 j := fun j => by
          rw [hV1, z_u2k _ _ _ _ (by decide)]
          by_cases c : j = 10 + n
          · rw [if_pos c, c, z_u2s]
          · rw [if_neg c, z_u2j _ _ _ _ c, l9.1 13 (by decide), hZ1]
            by_cases d : j = n
            · rw [if_pos d, d, z_u2s]
            · rw [if_neg d, z_u2j _ _ _ _ d, g9.1 13 (by decide), hY1, z_u2k _ _ _ _ (by decide)]
        have q3 : ∀ j, Q1 3 j = if j = 3 * n + 2 then nI b else if j = 3 * n + 1 then nI a else if j = 3 * n then nI v else N 3 j := fun j => by
          rw [hQ1, z_u2k _ _ _ _ (by decide)]
          by_cases c : j = 3 * n + 2
          · rw [if_pos c, c, z_u2s]
          · rw [if_neg c, z_u2j _ _ _ _ c, l10.1 3 (by decide), hP1]
            by_cases d : j = 3 * n + 1
            · rw [if_pos d, d, z_u2s]
            · rw [if_neg d, z_u2j _ _ _ _ d, g10.1 3 (by decide), hN1]
              by_cases f : j = 3 * n
              · rw [if_pos f, f, z_u2s]
              · rw [if_neg f, z_u2j _ _ _ _ f]
        refine .inl ⟨e'', n + 1, t, V1, Q1, ?_, by rw [hQ1]; exact zParM3_eq l2 q16 r16 hn, ux3.jx l7, um3.jm l8, ?_, ?_, ((((k9.cx.trans ux1.kx).trans g9.cx).trans ux2.kx).trans l9.cx).trans ux3.kx, ((((k10.cm.trans um1.km).trans g10.cm).trans um2.km).trans l10.cm).trans um3.km⟩
        · rw [l1, Option.bind_some]
          show (if nI 1 = nI 0 then _ else ((f_X8_put 13 V ((nI 1 * nI 10) + (V 11 5)) (V 1 5)).bind fun q7 => L_X3_readParish_27 1022 q7 (nI 2))) = _
          rw [if_neg n1, v11, l5, z_nI_mul, z_nI_add, show 1 * 10 + n = 10 + n by omega, p13 _ _ _ (by omega), Option.bind_some]
          have := zParX2 1021 (u2 V 13 (10 + n) (nI b))
          rw [z_u2k _ _ _ _ (show (11 : Nat) ≠ 13 by decide), v11, z_nI_add, ← hV1] at this
          exact this
        · rw [um3.2 5 (by decide) (by decide) (by decide), l10.2 5 (by decide)]; exact hf2
        · refine zKD.mk (by omega) hD.t6 ?_ ?_ ?_ ?_ ?_ ?_ ?_ ?_ ?_ ?_ ?_ ?_ ?_ ?_
          · rw [hV1, z_u2s]
          · rw [hQ1, z_u2s]
          · rw [v11' 6 (by decide)]; exact hD1.xt
          · rw [q0' 17 (by decide) (by decide)]; exact hD1.mt
          · rw [v11' 7 (by decide), q0' 18 (by decide) (by decide)]; exact hD1.pu
          · intro i hi
            by_cases c : i = n
            · refine ⟨v, k3, ?_, ?_⟩
              · rw [v12, c, z_u2s]
              · rw [q3, if_neg (by omega), if_neg (by omega), if_pos (by omega)]
            · obtain ⟨w, w1, w2, w3⟩ := hD1.w i (by omega)
              refine ⟨w, w1, ?_, ?_⟩
              · rw [v12, z_u2j _ _ _ _ c]; exact w2
              · rw [q3, if_neg (by omega), if_neg (by omega), if_neg (by omega)]; exact w3
          · intro i hi
            by_cases c : i = n
            · refine ⟨a, b, g3, l3, ?_, ?_, ?_, ?_⟩
              · rw [v13, if_neg (by omega), if_pos c]
              · rw [v13, if_pos (by omega)]
              · rw [q3, if_neg (by omega), if_pos (by omega)]
              · rw [q3, if_pos (by omega)]
            · obtain ⟨x, y, w1, w2, w3, w4, w5, w6⟩ := hD1.v i (by omega)
              refine ⟨x, y, w1, w2, ?_, ?_, ?_, ?_⟩
              · rw [v13, if_neg (by omega), if_neg c]; exact w3
              · rw [v13, if_neg (by omega), if_neg (by omega)]; exact w4
              · rw [q3, if_neg (by omega), if_neg (by omega), if_neg (by omega)]; exact w5
              · rw [q3, if_neg (by omega), if_neg (by omega), if_neg (by omega)]; exact w6
          · intro i hi hi2
            obtain ⟨w1, w2, w3⟩ := hD1.z i (by omega) hi2
            refine ⟨?_, ?_, ?_⟩
            · rw [v12, z_u2j _ _ _ _ (by omega)]; exact w1
            · rw [v13, if_neg (by omega), if_neg (by omega)]; exact w2
            · rw [v13, if_neg (by omega), if_neg (by omega)]; exact w3
          · rw [vk 14 (by decide) (by decide) (by decide) (by decide), qk 4 (by decide) (by decide)]; exact hD1.r
          · rw [qk 4 (by decide) (by decide)]; exact zRd_grow hD1.rd (hD1.rz n (Nat.le_refl _) hn)
          · rw [qk 4 (by decide) (by decide)]; exact fun i hi hi2 => hD1.rz i (by omega) hi2
          · rw [vk 15 (by decide) (by decide) (by decide) (by decide), vk 16 (by decide) (by decide) (by decide) (by decide), qk 5 (by decide) (by decide)]; exact hD1.td
          · rw [v11' 8 (by decide), v11' 9 (by decide), v11' 10 (by decide), v11' 11 (by decide)]; exact hD1.dz
          · rw [hV1, z_u2k _ _ _ _ (by decide), z_u2k _ _ _ _ (by decide), l9.2 7 (by decide) (by decide) (by decide), hZ1, z_u2k _ _ _ _ (by decide), g9.2 7 (by decide) (by decide) (by decide), hY1, z_u2k _ _ _ _ (by decide)]; exact hD1.f7
      · have r16 : Q 0 16 = nI n := (l5.2.1 16 (by decide) (by decide) (by decide)).trans q16
        refine zRw_bad (X' := Z1) (M' := P1) (Y := V) (N := Q) ?_ (zParM3_eq l2 q16 r16 hn) l3 (((k9.cx.trans ux1.kx).trans g9.cx).trans ux2.kx) l4 (((k10.cm.trans um1.km).trans g10.cm).trans um2.km) l5 ((zUM_k _ (by omega) _ _).trans (zUM_0 _ (by omega) _))
        rw [l1, Option.bind_some]; exact if_pos rfl
    · have hpl := g5.2.2.2.2.1
      have um2 : zUM P (u2 P 3 (3 * n + 1) (nI 0)) := zUM_k _ (by omega) _ _
      have q16 : P 0 16 = nI n := (g5.2.1 16 (by decide) (by decide) (by decide)).trans m16
      obtain ⟨R, r1, r2⟩ := zParM3_S (B := u2 P 3 (3 * n + 1) (nI 0)) (a := zA T s e) (n := n) ((um2.2 5 (by decide) (by decide) (by decide)).trans g5.2.2.1) (by omega) (by rw [z_u2k _ _ _ _ (by decide)]; exact q16) hn
      refine zRw_bad (X' := Y1) (M' := N1) (Y := Z) (N := P) (N' := R) ?_ ((zParM2_eq g2 m16 hn).trans r1) g3 (k9.cx.trans ux1.kx) g4 (k10.cm.trans um1.km) g5 (um2.trans r2)
      rw [g1, Option.bind_some]; exact if_pos rfl
  · have hpl := k5.2.2.2.2.1
    have um1 : zUM N (u2 N 3 (3 * n) (nI 0)) := zUM_k _ (by omega) _ _
    have q16 : N 0 16 = nI n := (k5.2.1 16 (by decide) (by decide) (by decide)).trans hD.mn
    obtain ⟨R, r1, r2⟩ := zParM2_S (A := u2 N 3 (3 * n) (nI 0)) (a := zA T s p) (n := n) ((um1.2 5 (by decide) (by decide) (by decide)).trans k5.2.2.1) (by omega) (by rw [z_u2k _ _ _ _ (by decide)]; exact q16) hn
    refine zRw_bad (X' := X) (M' := M) (Y := Y) (N := N) (N' := R) ?_ ((zParM_eq k2 hD.mn hn).trans r1) k3 (zKX.refl X) k4 (zKM.refl M) k5 (um1.trans r2)
    rw [k1, Option.bind_some]; exact if_pos rfl
