set_option linter.unusedVariables false
theorem zRd_add {n a b : Nat} {r r' : Nat → Int32} (h : zRd n r) (h10 : n ≤ 10) (ha : a < n) (hb : b < n) (hab : a ≠ b) (h1 : r' a = r a ||| zb b) (h2 : r' b = r b ||| zb a) (h3 : ∀ p, p ≠ a → p ≠ b → r' p = r p) : zRd n r' := by
  have key : ∀ p q, bt (r' p) q = true ↔ bt (r p) q = true ∨ (p = a ∧ q = b) ∨ (p = b ∧ q = a) := fun p q => by
    by_cases pa : p = a
    · subst pa
      rw [h1, bt_or, bt_zb (by omega), Bool.or_eq_true, decide_eq_true_eq]
      constructor
      · rintro (x | x)
        · exact .inl x
        · exact .inr (.inl ⟨rfl, x.symm⟩)
      · rintro (x | ⟨_, x⟩ | ⟨x, _⟩)
        · exact .inl x
        · exact .inr x.symm
        · exact absurd x hab
    · by_cases pb : p = b
      · subst pb
        rw [h2, bt_or, bt_zb (by omega), Bool.or_eq_true, decide_eq_true_eq]
        constructor
        · rintro (x | x)
          · exact .inl x
          · exact .inr (.inr ⟨rfl, x.symm⟩)
        · rintro (x | ⟨x, _⟩ | ⟨_, x⟩)
          · exact .inl x
          · exact absurd x pa
          · exact .inr x.symm
      · rw [h3 p pa pb]
        constructor
        · intro x; exact .inl x
        · rintro (x | ⟨x, _⟩ | ⟨x, _⟩)
          · exact x
          · exact absurd x pa
          · exact absurd x pb
  refine ⟨fun p hp q hq => ?_, fun p q hp hq => ?_, fun p hp => ?_⟩
  · rcases (key p q).1 hq with x | ⟨_, x⟩ | ⟨_, x⟩
    · exact h.1 p hp q x
    · rw [x]; exact hb
    · rw [x]; exact ha
  · rw [Bool.eq_iff_iff, key, key, h.2.1 p q hp hq]
    constructor
    · rintro (x | ⟨x, y⟩ | ⟨x, y⟩)
      · exact .inl x
      · exact .inr (.inr ⟨y, x⟩)
      · exact .inr (.inl ⟨y, x⟩)
    · rintro (x | ⟨x, y⟩ | ⟨x, y⟩)
      · exact .inl x
      · exact .inr (.inr ⟨y, x⟩)
      · exact .inr (.inl ⟨y, x⟩)
  · cases hh : bt (r' p) p with
    | false => rfl
    | true =>
      rcases (key p p).1 hh with x | ⟨x, y⟩ | ⟨x, y⟩
      · rw [h.2.2 p hp] at x; exact absurd x (by decide)
      · exact absurd (x.symm.trans y) hab
      · exact absurd (y.symm.trans x) hab
theorem z9_numK {s : Nat} {T : Nat → Nat} {p : Nat} {M : TX} (hM : zJm s T p M) (hf : M 0 5 = -nI 1) (x1 x2 : Int32) : f_X9_readNumber (u2 M 0 4 (nI (zA T s p))) x1 x2 = f_X9_readNumber M x1 x2 := by
  obtain ⟨a1, a2, a3⟩ := zA_spec (T := T) hM.ps
  have n1 : ¬ nI 1 = (0 : Int32) := by decide
  have f1 : u2 M 0 4 (nI (zA T s p)) 0 5 = -nI 1 := by rw [z_u2j _ _ _ _ (by decide)]; exact hf
  unfold f_X9_readNumber
  rw [z9_fine1 hf, z9_fine1 f1, Option.bind_some, Option.bind_some, if_neg n1, if_neg n1, z9_here hM, z9_here (hM.to a2), a3, z_u2u]
theorem zMF.toAt {s : Nat} {T : Nat → Nat} {M N : TX} {kd pl q : Nat} (h : zMF s T M N kd pl) (hq : q ≤ s) : zMF s T M (u2 N 0 4 (nI q)) kd pl := by
  obtain ⟨m1, m2, m3, m4, m5, a, m6⟩ := h
  exact ⟨fun k a => (z_u2k _ _ _ _ a).trans (m1 k a), fun j a b c => (z_u2j _ _ _ _ a).trans (m2 j a b c), (z_u2j _ _ _ _ (by decide)).trans m3, (z_u2j _ _ _ _ (by decide)).trans m4, m5, q, m6.to hq⟩
theorem z_roadRow {s : Nat} {T : Nat → Nat} {p n t : Nat} {X M : TX} (hX : zJx s T p X) (hM : zJm s T p M) (hf : M 0 5 = -nI 1) (hD : zKD n t X M) :
    zRw s T X M (f_X3_readRoad X) (f_X9_readRoad M) := by
  have hs := hX.s6
  have h10 := hD.n10
  have n1 : ¬ nI 1 = (0 : Int32) := by decide
  have z0 : nI 0 = (0 : Int32) := rfl
  have eX : f_X3_readRoad X = (f_X7_number X (zBe n)).bind fun q1 => if q1.2 = nI 0 then (some (q1.1, nI 0)) else ((f_X7_number q1.1 ((q1.1 11 5) - nI 1)).bind fun q3 => if q3.2 = nI 0 then (some (q3.1, nI 0)) else (if (q3.1 1 5) = (q1.1 1 5) then ((f_X7_fail q3.1 (nI 2) (q3.1 1 4)).bind fun q10 => if q10.2 &&& nI 1 = q10.2 then (some (q10.1, q10.2)) else none) else ((f_X8_at 14 q3.1 (q1.1 1 5)).bind fun q6 => (f_X8_put 14 q3.1 (q1.1 1 5) (q6 ||| (nI 1 <<< ((q3.1 1 5) &&& nI 31)))).bind fun q7 => (f_X8_at 14 q7 (q3.1 1 5)).bind fun q8 => (f_X8_put 14 q7 (q3.1 1 5) (q8 ||| (nI 1 <<< ((q1.1 1 5) &&& nI 31)))).bind fun q9 => some (q9, nI 1)))) := by
    have : X 11 5 - nI 1 = zBe n := by rw [hD.xn]; rfl
    rw [← this]; rfl
  have eM : f_X9_readRoad M = (f_X9_readNumber M (nI 0) (zBe n)).bind fun q1 => (f_X9_here q1.1).bind fun q2 => (f_X9_readNumber q2.1 (nI 0) ((q2.1 0 16) - nI 1)).bind fun q3 => (f_X9_fine q3.1).bind fun q4 => if q4 = nI 0 then (B_X9_readRoad_52 q3.1 q1.2 q3.2) else (if q1.2 = q3.2 then ((f_X9_wrong q3.1 (nI 2) (q2.1 0 4)).bind fun q13 => B_X9_readRoad_52 q13 q1.2 q3.2) else (B_X9_readRoad_52 q3.1 q1.2 q3.2)) := by
    have : M 0 16 - nI 1 = zBe n := by rw [hD.mn]; rfl
    rw [← this]; rfl
  have sticky : ∀ (P : TX) (a : Nat) (x y : Int32), P 0 5 = nI a → a ≤ 600 → B_X9_readRoad_52 P x y = some P := fun P a x y h1 h2 => by
    unfold B_X9_readRoad_52
    rw [z9_fine0 h1 h2, Option.bind_some, if_pos z0]
  rw [eX, eM]
  rcases z_num hX hM hf (b := n) (by omega) with ⟨e, v, Y, N, k1, k2, k3, k4, k5, k6, k7, k8, k9, k10⟩ | ⟨Y, N, kd, k1, k2, k3, k4, k5⟩
  · have hD1 := hD.fr k9 k10
    have hfN : N 0 5 = -nI 1 := (k10.2 5 (by decide)).trans hf
    obtain ⟨b1, b2, b3⟩ := zA_spec (T := T) k8.ps
    rw [k1, k2, Option.bind_some, Option.bind_some]
    have cX : ∀ (r : Option (TX × Int32)) (G : TX × Int32 → Option (TX × Int32)), (if (Y, nI 1).2 = nI 0 then r else ((f_X7_number Y ((Y 11 5) - nI 1)).bind G)) = (f_X7_number Y (zBe n)).bind G := fun r G => by
      rw [if_neg (by exact n1), hD1.xn]; rfl
    have cM : ∀ G : TX × Int32 → TX × Int32 → Option TX, ((f_X9_here (N, nI v).1).bind fun q2 => (f_X9_readNumber q2.1 (nI 0) ((q2.1 0 16) - nI 1)).bind (G q2)) = (f_X9_readNumber N (nI 0) (zBe n)).bind (G (u2 N 0 4 (nI (zA T s e)), zH T s (zA T s e))) := fun G => by
      rw [z9_here k8, Option.bind_some]
      show (f_X9_readNumber (u2 N 0 4 (nI (zA T s e))) (nI 0) (u2 N 0 4 (nI (zA T s e)) 0 16 - nI 1)).bind _ = _
      rw [z_u2j _ _ _ _ (by decide), hD1.mn, z9_numK k8 hfN]; rfl
    show zRw s T X M (if (Y, nI 1).2 = nI 0 then _ else ((f_X7_number Y ((Y 11 5) - nI 1)).bind _)) _
    rw [cX, cM]
    rcases z_num k7 k8 hfN (b := n) (by omega) with ⟨e', w, Z, P, g1, g2, g3, g4, g5, g6, g7, g8, g9, g10⟩ | ⟨Z, P, kd, g1, g2, g3, g4, g5⟩
    · have hD2 := hD1.fr g9 g10
      have hfP : P 0 5 = -nI 1 := (g10.2 5 (by decide)).trans hfN
      rw [g1, g2, Option.bind_some, Option.bind_some]
      by_cases c : v = w
      · subst c
        obtain ⟨Z', y1, y2⟩ := z7_fail (X := Z) (kd := 2) (pl := zA T s e)
        obtain ⟨P', m1, m2⟩ := z9_wrong (kd := 2) (pl := zA T s e) g8 hfP b2
        refine zRw_bad (X' := Z) (M' := P) (Y := Z') (N := P') (N' := P') (kd := 2) (pl := zA T s e) ?_ ?_ (by decide) (k9.cx.trans g9.cx) y2 (k10.cm.trans g10.cm) m2 ⟨fun _ _ _ _ _ => rfl, fun _ _ _ _ => rfl⟩
        · show (if nI 1 = nI 0 then _ else (if Z 1 5 = Y 1 5 then ((f_X7_fail Z (nI 2) (Z 1 4)).bind fun q10 => if q10.2 &&& nI 1 = q10.2 then (some (q10.1, q10.2)) else none) else _)) = _
          rw [if_neg (by exact n1), g5, k5, if_pos rfl, g6, y1, Option.bind_some]
          have zz : nI 0 &&& nI 1 = nI 0 := by decide
          exact if_pos zz
        · show ((f_X9_fine P).bind fun q4 => if q4 = nI 0 then _ else (if nI v = nI v then ((f_X9_wrong P (nI 2) (u2 N 0 4 (nI (zA T s e)) 0 4)).bind fun q13 => B_X9_readRoad_52 q13 (nI v) (nI v)) else _)) = _
          rw [z9_fine1 hfP, Option.bind_some, if_neg (by exact n1), if_pos rfl, z_u2s, m1, Option.bind_some, sticky P' _ _ _ m2.2.2.1 (by omega)]
      · have vw : ¬ nI w = nI v := fun x => c ((z_nI_inj (by omega) (by omega)).1 x).symm
        have vw' : ¬ nI v = nI w := fun x => vw x.symm
        obtain ⟨Z1, hZ1⟩ : ∃ W, W = u2 Z 14 v (Z 14 v ||| zb w) := ⟨_, rfl⟩
        obtain ⟨Z2, hZ2⟩ : ∃ W, W = u2 Z1 14 w (Z 14 w ||| zb v) := ⟨_, rfl⟩
        obtain ⟨P1, hP1⟩ : ∃ W, W = u2 P 4 v (P 4 v ||| zb w) := ⟨_, rfl⟩
        obtain ⟨P2, hP2⟩ : ∃ W, W = u2 P1 4 w (P 4 w ||| zb v) := ⟨_, rfl⟩
        have ux : zUX Z Z2 := by rw [hZ2, hZ1]; exact (zUX_k _ (by omega) _ _).trans (zUX_k _ (by omega) _ _)
        have um : zUM P P2 := by rw [hP2, hP1]; exact (zUM_k _ (by omega) _ _).trans (zUM_k _ (by omega) _ _)
        have at14 : ∀ (W : TX) j, j < 10 → f_X8_at 14 W (nI j) = some (W 14 j) := fun W j hj => z_at (k := 14) (by show j < 10; omega) (by decide)
        have pt14 : ∀ (W : TX) j x, j < 10 → f_X8_put 14 W (nI j) x = some (u2 W 14 j x) := fun W j x hj => z_put (by show j < 10; omega) (by decide)
        have z1w : Z1 14 w = Z 14 w := by rw [hZ1, z_u2j _ _ _ _ (fun x => c x.symm)]
        have p1w : P1 4 w = P 4 w := by rw [hP1, z_u2j _ _ _ _ (fun x => c x.symm)]
        have zo : ∀ k, k ≠ 14 → Z2 k = Z k := fun k a => by rw [hZ2, z_u2k _ _ _ _ a, hZ1, z_u2k _ _ _ _ a]
        have po : ∀ k, k ≠ 4 → P2 k = P k := fun k a => by rw [hP2, z_u2k _ _ _ _ a, hP1, z_u2k _ _ _ _ a]
        have pv : P2 4 v = P 4 v ||| zb w := by rw [hP2, z_u2j _ _ _ _ c, hP1, z_u2s]
        have pw : P2 4 w = P 4 w ||| zb v := by rw [hP2, z_u2s]
        have pq : ∀ j, j ≠ v → j ≠ w → P2 4 j = P 4 j := fun j a b => by rw [hP2, z_u2j _ _ _ _ b, hP1, z_u2j _ _ _ _ a]
        have zv : Z2 14 v = Z 14 v ||| zb w := by rw [hZ2, z_u2j _ _ _ _ c, hZ1, z_u2s]
        have zw : Z2 14 w = Z 14 w ||| zb v := by rw [hZ2, z_u2s]
        have zq : ∀ j, j ≠ v → j ≠ w → Z2 14 j = Z 14 j := fun j a b => by rw [hZ2, z_u2j _ _ _ _ b, hZ1, z_u2j _ _ _ _ a]
        refine .inl ⟨e', n, t, Z2, P2, ?_, ?_, ux.jx g7, um.jm g8, ?_, ?_, (k9.cx.trans g9.cx).trans ux.kx, (k10.cm.trans g10.cm).trans um.km⟩
        · show (if nI 1 = nI 0 then _ else (if Z 1 5 = Y 1 5 then _ else ((f_X8_at 14 Z (Y 1 5)).bind fun q6 => (f_X8_put 14 Z (Y 1 5) (q6 ||| (nI 1 <<< ((Z 1 5) &&& nI 31)))).bind fun q7 => (f_X8_at 14 q7 (Z 1 5)).bind fun q8 => (f_X8_put 14 q7 (Z 1 5) (q8 ||| (nI 1 <<< ((Y 1 5) &&& nI 31)))).bind fun q9 => some (q9, nI 1)))) = _
          rw [if_neg (by exact n1), g5, k5, if_neg vw, at14 Z v (by omega), Option.bind_some, z_zb, z_zb, pt14 Z v _ (by omega), Option.bind_some, ← hZ1, at14 Z1 w (by omega), Option.bind_some, z1w, pt14 Z1 w _ (by omega), Option.bind_some, ← hZ2]
        · have iv : inb (nI v) 10 = true := by rw [z_inb (by omega)]; simp; omega
          have iw : inb (nI w) 10 = true := by rw [z_inb (by omega)]; simp; omega
          show ((f_X9_fine P).bind fun q4 => if q4 = nI 0 then _ else (if nI v = nI w then _ else (B_X9_readRoad_52 P (nI v) (nI w)))) = _
          rw [z9_fine1 hfP, Option.bind_some, if_neg (by exact n1), if_neg vw']
          unfold B_X9_readRoad_52
          rw [z9_fine1 hfP, Option.bind_some, if_neg n1, if_pos iv, if_pos iv, if_pos iw, if_pos iw, z_nI_tn (by omega), z_nI_tn (by omega)]
          show some (u2 (u2 P 4 v (P 4 v ||| zb w)) 4 w ((u2 P 4 v (P 4 v ||| zb w)) 4 w ||| zb v)) = _
          rw [← hP1, p1w, ← hP2]
        · rw [po 0 (by decide)]; exact hfP
        · refine zKD.mk hD2.n10 hD2.t6 ?_ ?_ ?_ ?_ ?_ ?_ ?_ ?_ ?_ ?_ ?_ ?_ ?_ ?_
          · rw [zo 11 (by decide)]; exact hD2.xn
          · rw [po 0 (by decide)]; exact hD2.mn
          · rw [zo 11 (by decide)]; exact hD2.xt
          · rw [po 0 (by decide)]; exact hD2.mt
          · rw [zo 11 (by decide), po 0 (by decide)]; exact hD2.pu
          · rw [zo 12 (by decide), po 3 (by decide)]; exact hD2.w
          · rw [zo 13 (by decide), po 3 (by decide)]; exact hD2.v
          · rw [zo 12 (by decide), zo 13 (by decide)]; exact hD2.z
          · intro j hj
            by_cases jv : j = v
            · subst jv; rw [zv, pv, hD2.r j hj]
            · by_cases jw : j = w
              · subst jw; rw [zw, pw, hD2.r j hj]
              · rw [zq j jv jw, pq j jv jw, hD2.r j hj]
          · exact zRd_add hD2.rd h10 k3 g3 c pv pw pq
          · intro j hj hj2
            rw [pq j (by omega) (by omega)]; exact hD2.rz j hj hj2
          · rw [zo 15 (by decide), zo 16 (by decide), po 5 (by decide)]; exact hD2.td
          · rw [zo 11 (by decide)]; exact hD2.dz
          · rw [zo 1 (by decide)]; exact hD2.f7
    · rw [g1, g2, Option.bind_some, Option.bind_some]
      have hpl := g5.2.2.2.2.1
      refine zRw_bad (X' := Y) (M' := N) (Y := Z) (N := P) (N' := P) ?_ ?_ g3 k9.cx g4 k10.cm g5 ⟨fun _ _ _ _ _ => rfl, fun _ _ _ _ => rfl⟩
      · exact if_pos rfl
      · show ((f_X9_fine P).bind fun q4 => if q4 = nI 0 then (B_X9_readRoad_52 P (nI v) (nI 0)) else _) = _
        rw [z9_fine0 g5.2.2.1 (by omega), Option.bind_some, if_pos rfl, sticky P _ _ _ g5.2.2.1 (by omega)]
  · have hpl := k5.2.2.2.2.1
    obtain ⟨a, m6⟩ := k5.2.2.2.2.2
    obtain ⟨b1, b2, b3⟩ := zA_spec (T := T) m6.ps
    have k5' := k5.toAt b2
    rw [k1, k2, Option.bind_some, Option.bind_some]
    refine zRw_bad (X' := X) (M' := M) (Y := Y) (N := u2 N 0 4 (nI (zA T s a))) (N' := u2 N 0 4 (nI (zA T s a))) ?_ ?_ k3 (zKX.refl X) k4 (zKM.refl M) k5' ⟨fun _ _ _ _ _ => rfl, fun _ _ _ _ => rfl⟩
    · exact if_pos rfl
    · show ((f_X9_here N).bind fun q2 => _) = _
      rw [z9_here m6, Option.bind_some]
      show ((f_X9_readNumber (u2 N 0 4 (nI (zA T s a))) (nI 0) _).bind fun q3 => _) = _
      rw [z9_numS k5'.2.2.1 (by omega), Option.bind_some]
      show ((f_X9_fine (u2 N 0 4 (nI (zA T s a)))).bind fun q4 => if q4 = nI 0 then (B_X9_readRoad_52 (u2 N 0 4 (nI (zA T s a))) (nI 0) (nI 0)) else _) = _
      rw [z9_fine0 k5'.2.2.1 (by omega), Option.bind_some, if_pos rfl, sticky _ _ _ _ k5'.2.2.1 (by omega)]
