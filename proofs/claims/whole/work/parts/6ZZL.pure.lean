set_option linter.unusedVariables false
theorem z_num {s : Nat} {T : Nat → Nat} {p b : Nat} {X M : TX} (hX : zJx s T p X) (hM : zJm s T p M) (hf : M 0 5 = -nI 1) (hb : b ≤ 1000) :
    zNo1 s T (zA T s p) b X M (f_X7_number X (zBe b)) (f_X9_readNumber M (nI 0) (zBe b)) := by
  obtain ⟨a1, a2, a3⟩ := zA_spec (T := T) hX.ps
  have h1 := hX.s6
  generalize hq : zA T s p = q at *
  obtain ⟨X1, hX1⟩ : ∃ Z, Z = u2 (u2 (u2 X 1 3 (nI q)) 1 4 (nI q)) 1 5 (nI 0) := ⟨_, rfl⟩
  obtain ⟨M1, hM1⟩ : ∃ Z, Z = u2 M 0 4 (nI q) := ⟨_, rfl⟩
  have fx : zTX X X1 := by rw [hX1]; exact ((zTX_u (.inl rfl) _).trans (zTX_u (.inr (.inl rfl)) _)).trans (zTX_u (.inr (.inr rfl)) _)
  have fm : zTM M M1 := by rw [hM1]; exact zTM_u _ _
  have x3 : X1 1 3 = nI q := by rw [hX1, z_u2j _ _ _ _ (by decide), z_u2j _ _ _ _ (by decide), z_u2s]
  have x4 : X1 1 4 = nI q := by rw [hX1, z_u2j _ _ _ _ (by decide), z_u2s]
  have x5 : X1 1 5 = nI 0 := by rw [hX1, z_u2s]
  have hX' : zJx s T q X1 := hX.fr (fx.1 2 (by decide)) (fx.2 2 (by decide) (by decide) (by decide)) x3 a2
  have hM' : zJm s T q M1 := by rw [hM1]; exact hM.to a2
  have hf' : M1 0 5 = -nI 1 := (fm.2 5 (by decide)).trans hf
  have m4 : M1 0 4 = nI q := hM'.mp
  have eX : f_X7_number X (zBe b) = L_X7_number_18 FU X1 (zBe b) := by
    unfold f_X7_number
    rw [z7_ahead hX, hq, Option.bind_some]
    show L_X7_number_18 FU (u2 (u2 (u2 X 1 3 (nI q)) 1 4 (u2 X 1 3 (nI q) 1 3)) 1 5 (0 : Int32)) (zBe b) = _
    rw [z_u2s, hX1]; rfl
  have eM : f_X9_readNumber M (nI 0) (zBe b) = (f_X9_isDigit (zH T s q)).bind fun q4 => if q4 = nI 0 then ((f_X9_wrong M1 (nI 1) (nI q)).bind fun q20 => some (q20, nI 0)) else (L_X9_readNumber_41 FU M1 (nI 0) (zBe b) (nI q) (nI 0)) := by
    unfold f_X9_readNumber
    have n1 : ¬ nI 1 = (0 : Int32) := by decide
    rw [z9_fine1 hf, Option.bind_some, if_neg n1, z9_here hM, hq, ← hM1, Option.bind_some]
    show ((f_X9_isDigit (zH T s q)).bind fun q4 => if q4 = nI 0 then ((f_X9_wrong M1 (nI 1) (M1 0 4)).bind fun q20 => some (q20, nI 0)) else (L_X9_readNumber_41 FU M1 (nI 0) (zBe b) (M1 0 4) (nI 0))) = _
    rw [m4]
  rw [eX, eM]
  have wrap : ∀ {x m}, zNo1 s T q b X1 M1 x m → zNo1 s T q b X M x m := fun {x m} i1 => by
    rcases i1 with ⟨e, v, Y, N, k1, k2, k3, k4, k5, k6, k7, k8, k9, k10⟩ | ⟨Y, N, kd, k1, k2, k3, k4, k5⟩
    · exact .inl ⟨e, v, Y, N, k1, k2, k3, k4, k5, k6, k7, k8, fx.trans k9, fm.trans k10⟩
    · exact .inr ⟨Y, N, kd, k1, k2, k3, fx.tf k4, fm.mf k5⟩
  apply wrap
  by_cases sp : q < s ∧ 48 ≤ T q ∧ T q ≤ 57
  · have tq := hX.t q sp.1
    have e0 : f_X9_isDigit (zH T s q) = some (nI 1) := by
      unfold zH
      rw [if_pos sp.1, z9_digit, z7_digit tq, decide_eq_true sp.2]; rfl
    have n1 : ¬ nI 1 = nI 0 := by decide
    rw [e0, Option.bind_some, if_neg n1]
    exact z_numL hb (s - q) q FU FU 0 0 X1 M1 rfl (by unfold FU; omega) (by unfold FU; omega) hX' hM' (Nat.le_refl _) (fun _ => sp) x4 x5 (.inl ⟨rfl, by omega⟩) hf'
  · have e0 : f_X9_isDigit (zH T s q) = some (nI 0) := by
      unfold zH
      by_cases c : q < s
      · have tq := hX.t q c
        have n : ¬ (48 ≤ T q ∧ T q ≤ 57) := fun x => sp ⟨c, x⟩
        rw [if_pos c, z9_digit, z7_digit tq, decide_eq_false n]; rfl
      · rw [if_neg c]; decide
    have eB' : ∀ g, L_X7_number_18 (g + 1) X1 (zBe b) = B_X7_number_91 X1 (zBe b) := fun g => by
      have xs := hX'.xs
      by_cases c : s ≤ q
      · simp (discharger := omega) only [L_X7_number_18, xs, x3, c, z_lit, z_nI_le, z_nI_lt, z_nI_inj, z_inb, z_nI_tn, z_nI_add, z_nI_mul, z_bitN, z_zb, z_0add, z_add0, z_0or, z_or0, Option.bind_some, decide_eq_true_eq, Nat.zero_add, Nat.add_zero, ↓reduceIte]
      · have ax := hX'.at (j := q) (by omega)
        have dg := z7_digit (hX'.t q (by omega))
        have n : ¬ (48 ≤ T q ∧ T q ≤ 57) := fun x => sp ⟨by omega, x⟩
        have e1 : zbI (decide (48 ≤ T q ∧ T q ≤ 57)) = nI 0 := by rw [decide_eq_false n]; rfl
        rw [e1] at dg
        simp (discharger := omega) only [L_X7_number_18, xs, x3, c, ax, dg, z_lit, z_nI_le, z_nI_lt, z_nI_inj, z_inb, z_nI_tn, z_nI_add, z_nI_mul, z_bitN, z_zb, z_0add, z_add0, z_0or, z_or0, Option.bind_some, decide_eq_true_eq, Nat.zero_add, Nat.add_zero, ↓reduceIte]
    have eB : L_X7_number_18 FU X1 (zBe b) = B_X7_number_91 X1 (zBe b) := eB' 1023
    obtain ⟨Y, y1, y2⟩ := z7_fail (X := X1) (kd := 1) (pl := q)
    obtain ⟨N, n1, n2⟩ := z9_wrong (kd := 1) (pl := q) hM' hf' a2
    rw [e0, Option.bind_some, if_pos rfl, n1, Option.bind_some, eB]
    refine .inr ⟨Y, N, 1, ?_, rfl, by decide, y2, n2⟩
    show (if (X1 1 3) = (X1 1 4) then ((f_X7_fail X1 (nI 1) (X1 1 4)).bind fun q7 => if q7.2 &&& nI 1 = q7.2 then (some (q7.1, q7.2)) else none) else _) = _
    have z : nI 0 &&& nI 1 = nI 0 := by decide
    rw [x3, x4, if_pos rfl, y1, Option.bind_some]
    show (if nI 0 &&& nI 1 = nI 0 then (some (Y, nI 0)) else none) = _
    rw [if_pos z]
/-- a sign, read on both sides -/
def zSg1 (s : Nat) (T : Nat → Nat) (q : Nat) (X M : TX) (x : Option (TX × Int32)) (m : Option TX) : Prop :=
  (∃ Y N, x = some (Y, nI 1) ∧ m = some N ∧ zJx s T (q + 1) Y ∧ zJm s T (q + 1) N ∧ zTX X Y ∧ zTM M N) ∨
  (∃ Y N kd, x = some (Y, nI 0) ∧ m = some N ∧ kd < 4 ∧ zTF X Y kd q ∧ zMF s T M N kd q)
theorem z_sgn {s : Nat} {T : Nat → Nat} {p v : Nat} {X M : TX} (hX : zJx s T p X) (hM : zJm s T p M) (hf : M 0 5 = -nI 1) (hv : v < 256) (hv1 : 33 ≤ v) :
    zSg1 s T (zA T s p) X M (f_X7_sign X (nI v)) (f_X9_sign M (nI v)) := by
  obtain ⟨a1, a2, a3⟩ := zA_spec (T := T) hX.ps
  have h1 := hX.s6
  generalize hq : zA T s p = q at *
  obtain ⟨X1, hX1⟩ : ∃ Z, Z = u2 X 1 3 (nI q) := ⟨_, rfl⟩
  obtain ⟨M1, hM1⟩ : ∃ Z, Z = u2 M 0 4 (nI q) := ⟨_, rfl⟩
  have hX' : zJx s T q X1 := by rw [hX1]; exact hX.to a2
  have hM' : zJm s T q M1 := by rw [hM1]; exact hM.to a2
  have fx : zTX X X1 := by rw [hX1]; exact zTX_u (.inl rfl) _
  have fm : zTM M M1 := by rw [hM1]; exact zTM_u _ _
  have hf' : M1 0 5 = -nI 1 := (fm.2 5 (by decide)).trans hf
  have n1 : ¬ nI 1 = (0 : Int32) := by decide
  have z : nI 0 &&& nI 1 = nI 0 := by decide
  have eX : f_X7_sign X (nI v) = if zC T s q = nI v then (some ((u2 X1 1 3 (nI (q + 1))), nI 1)) else ((f_X7_fail X1 (nI 1) (nI q)).bind fun q3 => if q3.2 &&& nI 1 = q3.2 then (some (q3.1, q3.2)) else none) := by
    unfold f_X7_sign
    rw [z7_ahead hX, hq, ← hX1, Option.bind_some]
    show (if zC T s q = nI v then (some ((u2 X1 1 3 ((X1 1 3) + nI 1)), nI 1)) else ((f_X7_fail X1 (nI 1) (X1 1 3)).bind fun q3 => if q3.2 &&& nI 1 = q3.2 then (some (q3.1, q3.2)) else none)) = _
    rw [hX'.xp, z_nI_add]
  have eM : f_X9_sign M (nI v) = if zH T s q = nI v then ((f_X9_fine M1).bind fun q7 => if q7 = nI 0 then (some M1) else (some (u2 M1 0 4 (nI (q + 1))))) else ((f_X9_wrong M1 (nI 1) (nI q)).bind fun q9 => (f_X9_fine q9).bind fun q10 => if q10 = nI 0 then (some q9) else (some (u2 q9 0 4 ((q9 0 4) + nI 1)))) := by
    unfold f_X9_sign
    rw [z9_fine1 hf, Option.bind_some, if_neg n1, z9_here hM, hq, ← hM1, Option.bind_some]
    show (if zH T s q = nI v then ((f_X9_fine M1).bind fun q7 => if q7 = nI 0 then (some M1) else (some (u2 M1 0 4 ((M1 0 4) + nI 1)))) else ((f_X9_wrong M1 (nI 1) (M1 0 4)).bind fun q9 => (f_X9_fine q9).bind fun q10 => if q10 = nI 0 then (some q9) else (some (u2 q9 0 4 ((q9 0 4) + nI 1))))) = _
    rw [hM'.mp, z_nI_add]
  rw [eX, eM]
  by_cases sp : q < s ∧ T q = v
  · have c1 : zC T s q = nI v := by unfold zC; rw [if_pos sp.1, sp.2]
    have c2 : zH T s q = nI v := by unfold zH; rw [if_pos sp.1, sp.2]
    have n1' : ¬ nI 1 = nI 0 := by decide
    rw [if_pos c1, if_pos c2, z9_fine1 hf', Option.bind_some, if_neg n1']
    exact .inl ⟨_, _, rfl, rfl, hX'.to sp.1, hM'.to sp.1, fx.trans (zTX_u (.inl rfl) _), fm.trans (zTM_u _ _)⟩
  · have c1 : ¬ zC T s q = nI v := by
      unfold zC
      by_cases c : q < s
      · have tq := hX.t q c
        rw [if_pos c, z_nI_inj (by omega) (by omega)]
        exact fun x => sp ⟨c, x⟩
      · rw [if_neg c]; exact fun x => z_ne1 (by omega) x.symm
    have c2 : ¬ zH T s q = nI v := by
      unfold zH
      by_cases c : q < s
      · have tq := hX.t q c
        rw [if_pos c, z_nI_inj (by omega) (by omega)]
        exact fun x => sp ⟨c, x⟩
      · rw [if_neg c, z_nI_inj (by omega) (by omega)]; omega
    obtain ⟨Y, y1, y2⟩ := z7_fail (X := X1) (kd := 1) (pl := q)
    obtain ⟨N, m1, m2⟩ := z9_wrong (kd := 1) (pl := q) hM' hf' a2
    rw [if_neg c1, if_neg c2, y1, m1, Option.bind_some, Option.bind_some, z9_fine0 m2.2.2.1 (by omega), Option.bind_some, if_pos rfl]
    refine .inr ⟨Y, N, 1, ?_, rfl, by decide, fx.tf y2, fm.mf m2⟩
    show (if nI 0 &&& nI 1 = nI 0 then (some (Y, nI 0)) else none) = _
    rw [if_pos z]
/-- after a refusal -/
theorem z9_numS {M : TX} {a : Nat} (h : M 0 5 = nI a) (ha : a ≤ 600) (x1 x2 : Int32) : f_X9_readNumber M x1 x2 = some (M, nI 0) := by
  unfold f_X9_readNumber
  rw [z9_fine0 h ha, Option.bind_some, if_pos (by rfl)]; rfl
theorem z9_sgnS {M : TX} {a : Nat} (h : M 0 5 = nI a) (ha : a ≤ 600) (x1 : Int32) : f_X9_sign M x1 = some M := by
  unfold f_X9_sign
  have e : (nI 0 : Int32) = (0 : Int32) := rfl
  rw [z9_fine0 h ha, Option.bind_some, if_pos e, Option.bind_some, if_pos e]
