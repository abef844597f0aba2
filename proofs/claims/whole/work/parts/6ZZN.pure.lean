set_option linter.unusedVariables false
/-- a step of the drafts alone -/
def zUM (M N : TX) : Prop := (∀ k, k ≠ 0 → k ≠ 3 → k ≠ 4 → k ≠ 5 → N k = M k) ∧ ∀ j, j ≠ 16 → j ≠ 17 → j ≠ 18 → N 0 j = M 0 j
def zUX (X Y : TX) : Prop := ∀ k, k < 11 ∨ 16 < k → Y k = X k
theorem zUM.trans {M N P : TX} (h : zUM M N) (g : zUM N P) : zUM M P := ⟨fun k a b c d => (g.1 k a b c d).trans (h.1 k a b c d), fun j a b c => (g.2 j a b c).trans (h.2 j a b c)⟩
theorem zUX.trans {X Y Z : TX} (h : zUX X Y) (g : zUX Y Z) : zUX X Z := fun k a => (g k a).trans (h k a)
theorem zUM_k {k : Nat} (M : TX) (h : k = 3 ∨ k = 4 ∨ k = 5) (i : Nat) (v : Int32) : zUM M (u2 M k i v) :=
  ⟨fun l a b c d => z_u2k _ _ _ _ (by omega), fun j _ _ _ => by rw [z_u2k _ _ _ _ (by omega)]⟩
theorem zUM_0 {i : Nat} (M : TX) (h : i = 16 ∨ i = 17 ∨ i = 18) (v : Int32) : zUM M (u2 M 0 i v) :=
  ⟨fun l a b c d => z_u2k _ _ _ _ a, fun j _ _ _ => z_u2j _ _ _ _ (by omega)⟩
theorem zUX_k {k : Nat} (X : TX) (h : 11 ≤ k ∧ k ≤ 16) (i : Nat) (v : Int32) : zUX X (u2 X k i v) := fun l a => z_u2k _ _ _ _ (by omega)
theorem zUM.km {M N : TX} (h : zUM M N) : zKM M N := ⟨h.1, fun j _ _ _ a b c => h.2 j a b c⟩
theorem zUX.kx {X Y : TX} (h : zUX X Y) : zKX X Y := ⟨fun k _ a => h k a, by rw [h 1 (by omega)]⟩
theorem zUM.jm {s : Nat} {T : Nat → Nat} {a : Nat} {M N : TX} (h : zUM M N) (g : zJm s T a M) : zJm s T a N :=
  g.fr (h.1 2 (by decide) (by decide) (by decide) (by decide)) (h.2 3 (by decide) (by decide) (by decide)) ((h.2 4 (by decide) (by decide) (by decide)).trans g.mp) g.ps
theorem zUX.jx {s : Nat} {T : Nat → Nat} {a : Nat} {X Y : TX} (h : zUX X Y) (g : zJx s T a X) : zJx s T a Y :=
  g.fr (h 2 (by omega)) (by rw [h 1 (by omega)]) (by rw [h 1 (by omega)]; exact g.xp) g.ps
theorem zRw_bad {s : Nat} {T : Nat → Nat} {X X' M M' Y N N' : TX} {x : Option (TX × Int32)} {m : Option TX} {kd pl : Nat} (hx : x = some (Y, nI 0)) (hm : m = some N') (hk : kd < 4) (hX : zKX X X') (hY : zTF X' Y kd pl) (hM : zKM M M') (hN : zMF s T M' N kd pl) (hU : zUM N N') : zRw s T X M x m := by
  obtain ⟨m1, m2, m3, m4, m5, a, m6⟩ := hN
  have hcm : zKM M' N := ⟨fun k a _ _ _ => m1 k a, fun j a b c _ _ _ => m2 j a b c⟩
  exact .inr ⟨Y, N', kd, pl, a, hx, hm, hk, m5, hY.2.2.1, hY.2.2.2, (hU.2 5 (by decide) (by decide) (by decide)).trans m3, (hU.2 6 (by decide) (by decide) (by decide)).trans m4, hU.jm m6, hX.trans hY.cx, (hM.trans hcm).trans hU.km⟩
def zTideM3 (i : Int32) (C : TX) (v : Int32) : TX := u2 (u2 C 5 i.toNatClampNeg v) 0 17 ((u2 C 5 i.toNatClampNeg v) 0 17 + nI 1)
def zTideM2 (B : TX) : Option TX := (f_X9_readNumber B (nI 0) (nI 20)).bind fun q10 => if inb ((nI 2 * (B 0 17)) + nI 1) 12 = true then (some (zTideM3 (nI 2 * (B 0 17) + nI 1) q10.1 q10.2)) else none
def zTideM (M : TX) : Option TX := (f_X9_readNumber M (nI 0) (nI 1)).bind fun q8 => if inb (nI 2 * (M 0 17)) 12 = true then zTideM2 (u2 q8.1 5 (Int32.toNatClampNeg (nI 2 * (M 0 17))) q8.2) else none
theorem zTideM2_eq {B C : TX} {t : Nat} {v : Int32} (h : f_X9_readNumber B (nI 0) (nI 20) = some (C, v)) (hB : B 0 17 = nI t) (hC : C 0 17 = nI t) (ht : t < 6) :
    zTideM2 B = some (u2 (u2 C 5 (2 * t + 1) v) 0 17 (nI (t + 1))) := by
  have b1 : inb (nI (2 * t + 1)) 12 = true := by rw [z_inb (by omega)]; simp; omega
  unfold zTideM2
  rw [h, Option.bind_some, hB, z_nI_mul, z_nI_add, if_pos b1]
  unfold zTideM3
  rw [z_nI_tn (by omega)]
  show some (u2 (u2 C 5 (2 * t + 1) v) 0 17 (u2 C 5 (2 * t + 1) v 0 17 + nI 1)) = _
  rw [z_u2k _ _ _ _ (show (0 : Nat) ≠ 5 by decide), hC, z_nI_add]
theorem zTideM_eq {M A : TX} {t : Nat} {v : Int32} (h : f_X9_readNumber M (nI 0) (nI 1) = some (A, v)) (hM : M 0 17 = nI t) (ht : t < 6) :
    zTideM M = zTideM2 (u2 A 5 (2 * t) v) := by
  have b1 : inb (nI (2 * t)) 12 = true := by rw [z_inb (by omega)]; simp; omega
  unfold zTideM
  rw [h, Option.bind_some, hM, z_nI_mul, if_pos b1, z_nI_tn (by omega)]
theorem z_tideRow {s : Nat} {T : Nat → Nat} {p n t : Nat} {X M : TX} (hX : zJx s T p X) (hM : zJm s T p M) (hf : M 0 5 = -nI 1) (hD : zKD n t X M) (ht : t < 6) :
    zRw s T X M (f_X3_readTide X) (zTideM M) := by
  have hs := hX.s6
  have e1 : nI 1 = zBe 2 := by unfold zBe; rw [zBe_u (b := 1)]
  have e20 : nI 20 = zBe 21 := by unfold zBe; rw [zBe_u (b := 20)]
  have n1 : ¬ nI 1 = nI 0 := by decide
  have eX : f_X3_readTide X = (f_X7_number X (nI 1)).bind fun q1 => if q1.2 = nI 0 then (some (q1.1, nI 0)) else ((f_X8_put 15 q1.1 (q1.1 11 6) (q1.1 1 5)).bind fun q3 => (f_X7_number q3 (nI 20)).bind fun q4 => if q4.2 = nI 0 then (some (q4.1, nI 0)) else ((f_X8_put 16 q4.1 (q4.1 11 6) (q4.1 1 5)).bind fun q6 => some ((u2 q6 11 6 ((q6 11 6) + nI 1)), nI 1))) := rfl
  rw [eX]
  have N1 := z_num hX hM hf (b := 2) (by decide)
  rw [← e1] at N1
  rcases N1 with ⟨e, v, Y, N, k1, k2, k3, k4, k5, k6, k7, k8, k9, k10⟩ | ⟨Y, N, kd, k1, k2, k3, k4, k5⟩
  · have hD1 := hD.fr k9 k10
    have p15 : f_X8_put 15 Y (nI t) (nI v) = some (u2 Y 15 t (nI v)) := z_put (by show t < 6; omega) (by decide)
    obtain ⟨Y1, hY1⟩ : ∃ Z, Z = u2 Y 15 t (nI v) := ⟨_, rfl⟩
    obtain ⟨N1, hN1⟩ : ∃ Z, Z = u2 N 5 (2 * t) (nI v) := ⟨_, rfl⟩
    have ux1 : zUX Y Y1 := by rw [hY1]; exact zUX_k _ (by omega) _ _
    have um1 : zUM N N1 := by rw [hN1]; exact zUM_k _ (by omega) _ _
    have jx1 := ux1.jx k7
    have jm1 := um1.jm k8
    have hf1 : N1 0 5 = -nI 1 := (um1.2 5 (by decide) (by decide) (by decide)).trans ((k10.2 5 (by decide)).trans hf)
    have s1 : zTideM M = zTideM2 N1 := by rw [hN1]; exact zTideM_eq k2 hD.mt ht
    have m17 : N1 0 17 = nI t := by rw [hN1, z_u2k _ _ _ _ (by decide)]; exact hD1.mt
    rw [s1, k1, Option.bind_some]
    have cX : ∀ r : Option (TX × Int32), (if (Y, nI 1).2 = nI 0 then r else ((f_X8_put 15 Y (Y 11 6) (Y 1 5)).bind fun q3 => (f_X7_number q3 (nI 20)).bind fun q4 => if q4.2 = nI 0 then (some (q4.1, nI 0)) else ((f_X8_put 16 q4.1 (q4.1 11 6) (q4.1 1 5)).bind fun q6 => some ((u2 q6 11 6 ((q6 11 6) + nI 1)), nI 1)))) = (f_X7_number Y1 (nI 20)).bind fun q4 => if q4.2 = nI 0 then (some (q4.1, nI 0)) else ((f_X8_put 16 q4.1 (q4.1 11 6) (q4.1 1 5)).bind fun q6 => some ((u2 q6 11 6 ((q6 11 6) + nI 1)), nI 1)) := fun r => by
      rw [if_neg n1, hD1.xt, k5, p15, Option.bind_some, ← hY1]
    show zRw s T X M (if (Y, nI 1).2 = nI 0 then _ else _) _
    rw [cX]
    have N2 := z_num jx1 jm1 hf1 (b := 21) (by decide)
    rw [← e20] at N2
    rcases N2 with ⟨e', w, Z, P, g1, g2, g3, g4, g5, g6, g7, g8, g9, g10⟩ | ⟨Z, P, kd, g1, g2, g3, g4, g5⟩
    · have z11 : Z 11 6 = nI t := by rw [g9.1 11 (by decide), hY1, z_u2k _ _ _ _ (by decide)]; exact hD1.xt
      have p17 : P 0 17 = nI t := (g10.2 17 (by decide)).trans m17
      have p16 : f_X8_put 16 Z (nI t) (nI w) = some (u2 Z 16 t (nI w)) := z_put (by show t < 6; omega) (by decide)
      rw [g1, Option.bind_some, zTideM2_eq g2 m17 p17 ht]
      obtain ⟨Z1, hZ1⟩ : ∃ W, W = u2 (u2 Z 16 t (nI w)) 11 6 (nI (t + 1)) := ⟨_, rfl⟩
      obtain ⟨P1, hP1⟩ : ∃ W, W = u2 (u2 P 5 (2 * t + 1) (nI w)) 0 17 (nI (t + 1)) := ⟨_, rfl⟩
      have ux2 : zUX Z Z1 := by rw [hZ1]; exact (zUX_k _ (by omega) _ _).trans (zUX_k _ (by omega) _ _)
      have um2 : zUM P P1 := by rw [hP1]; exact (zUM_k _ (by omega) _ _).trans (zUM_0 _ (by omega) _)
      have zk : ∀ k, k ≠ 1 → k ≠ 11 → k ≠ 15 → k ≠ 16 → Z1 k = Y k := fun k a b c d => by rw [hZ1, z_u2k _ _ _ _ b, z_u2k _ _ _ _ d, g9.1 k a, hY1, z_u2k _ _ _ _ c]
      have pk : ∀ k, k ≠ 0 → k ≠ 5 → P1 k = N k := fun k a b => by rw [hP1, z_u2k _ _ _ _ a, z_u2k _ _ _ _ b, g10.1 k a, hN1, z_u2k _ _ _ _ b]
      have z11' : ∀ j, j ≠ 6 → Z1 11 j = Y 11 j := fun j a => by rw [hZ1, z_u2j _ _ _ _ a, z_u2k _ _ _ _ (by decide), g9.1 11 (by decide), hY1, z_u2k _ _ _ _ (by decide)]
      have p0' : ∀ j, j ≠ 4 → j ≠ 17 → P1 0 j = N 0 j := fun j a b => by rw [hP1, z_u2j _ _ _ _ b, z_u2k _ _ _ _ (by decide), g10.2 j a, hN1, z_u2k _ _ _ _ (by decide)]
      refine .inl ⟨e', n, t + 1, Z1, P1, ?_, by rw [← hP1], ux2.jx g7, um2.jm g8, ?_, ?_, ((k9.cx.trans ux1.kx).trans g9.cx).trans ux2.kx, ((k10.cm.trans um1.km).trans g10.cm).trans um2.km⟩
      · show (if nI 1 = nI 0 then _ else ((f_X8_put 16 Z (Z 11 6) (Z 1 5)).bind fun q6 => some ((u2 q6 11 6 ((q6 11 6) + nI 1)), nI 1))) = _
        rw [if_neg n1, z11, g5, p16, Option.bind_some, z_u2k _ _ _ _ (show (11 : Nat) ≠ 16 by decide), z11, z_nI_add, ← hZ1]
      · rw [um2.2 5 (by decide) (by decide) (by decide), g10.2 5 (by decide)]; exact hf1
      · refine zKD.mk hD.n10 (by omega) ?_ ?_ ?_ ?_ ?_ ?_ ?_ ?_ ?_ ?_ ?_ ?_ ?_ ?_
        · rw [z11' 5 (by decide)]; exact hD1.xn
        · rw [p0' 16 (by decide) (by decide)]; exact hD1.mn
        · rw [hZ1, z_u2s]
        · rw [hP1, z_u2s]
        · rw [z11' 7 (by decide), p0' 18 (by decide) (by decide)]; exact hD1.pu
        · rw [zk 12 (by decide) (by decide) (by decide) (by decide), pk 3 (by decide) (by decide)]; exact hD1.w
        · rw [zk 13 (by decide) (by decide) (by decide) (by decide), pk 3 (by decide) (by decide)]; exact hD1.v
        · rw [zk 12 (by decide) (by decide) (by decide) (by decide), zk 13 (by decide) (by decide) (by decide) (by decide)]; exact hD1.z
        · rw [zk 14 (by decide) (by decide) (by decide) (by decide), pk 4 (by decide) (by decide)]; exact hD1.r
        · rw [pk 4 (by decide) (by decide)]; exact hD1.rd
        · rw [pk 4 (by decide) (by decide)]; exact hD1.rz
        · have z15 : Z1 15 = Y1 15 := by rw [hZ1, z_u2k _ _ _ _ (by decide), z_u2k _ _ _ _ (by decide), g9.1 15 (by decide)]
          have z16 : Z1 16 = u2 Z 16 t (nI w) 16 := by rw [hZ1, z_u2k _ _ _ _ (by decide)]
          have p5 : P1 5 = u2 P 5 (2 * t + 1) (nI w) 5 := by rw [hP1, z_u2k _ _ _ _ (by decide)]
          have zz16 : Z 16 = Y 16 := by rw [g9.1 16 (by decide), hY1, z_u2k _ _ _ _ (by decide)]
          intro i hi
          rw [z15, z16, p5]
          by_cases c : i = t
          · subst c
            refine ⟨v, w, k3, by omega, ?_, ?_, ?_, ?_⟩
            · rw [hY1, z_u2s]
            · rw [z_u2j _ _ _ _ (by omega), g10.1 5 (by decide), hN1, z_u2s]
            · rw [z_u2s]
            · rw [z_u2s]
          · obtain ⟨a, b, b1, b2, b3, b4, b5, b6⟩ := hD1.td i (by omega)
            refine ⟨a, b, b1, b2, ?_, ?_, ?_, ?_⟩
            · rw [hY1, z_u2j _ _ _ _ c]; exact b3
            · rw [z_u2j _ _ _ _ (by omega), g10.1 5 (by decide), hN1, z_u2j _ _ _ _ (by omega)]; exact b4
            · rw [z_u2j _ _ _ _ c, zz16]; exact b5
            · rw [z_u2j _ _ _ _ (by omega), g10.1 5 (by decide), hN1, z_u2j _ _ _ _ (by omega)]; exact b6
        · rw [z11' 8 (by decide), z11' 9 (by decide), z11' 10 (by decide), z11' 11 (by decide)]; exact hD1.dz
        · rw [hZ1, z_u2k _ _ _ _ (by decide), z_u2k _ _ _ _ (by decide), g9.2 7 (by decide) (by decide) (by decide), hY1, z_u2k _ _ _ _ (by decide)]; exact hD1.f7
    · have p17 : P 0 17 = nI t := (g5.2.1 17 (by decide) (by decide) (by decide)).trans m17
      refine zRw_bad (X' := Y1) (M' := N1) (Y := Z) (N := P) ?_ (zTideM2_eq g2 m17 p17 ht) g3 (k9.cx.trans ux1.kx) g4 (k10.cm.trans um1.km) g5 ((zUM_k _ (by omega) _ _).trans (zUM_0 _ (by omega) _))
      rw [g1, Option.bind_some]; exact if_pos rfl
  · have hpl : zA T s p ≤ s := k5.2.2.2.2.1
    obtain ⟨N1, hN1⟩ : ∃ Z, Z = u2 N 5 (2 * t) (nI 0) := ⟨_, rfl⟩
    have um1 : zUM N N1 := by rw [hN1]; exact zUM_k _ (by omega) _ _
    have n17 : N 0 17 = nI t := (k5.2.1 17 (by decide) (by decide) (by decide)).trans hD.mt
    have m17 : N1 0 17 = nI t := by rw [hN1, z_u2k _ _ _ _ (by decide)]; exact n17
    have f5 : N1 0 5 = nI (zA T s p) := (um1.2 5 (by decide) (by decide) (by decide)).trans k5.2.2.1
    have s1 : zTideM M = zTideM2 N1 := by rw [hN1]; exact zTideM_eq k2 hD.mt ht
    rw [s1]
    refine zRw_bad (X' := X) (M' := M) (Y := Y) (N := N) ?_ (zTideM2_eq (z9_numS f5 (by omega) _ _) m17 m17 ht) k3 (zKX.refl X) k4 (zKM.refl M) k5 (um1.trans ((zUM_k _ (by omega) _ _).trans (zUM_0 _ (by omega) _)))
    rw [k1, Option.bind_some]; exact if_pos rfl
