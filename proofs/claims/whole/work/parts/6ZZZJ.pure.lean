set_option linter.unusedVariables false
/-- and then -/
def zAnd (x : Option (TX × Int32)) (k : TX → Option (TX × Int32)) : Option (TX × Int32) := x.bind fun q => if q.2 = nI 0 then some (q.1, nI 0) else k q.1
theorem zAnd_1 {x : Option (TX × Int32)} {k : TX → Option (TX × Int32)} {Y : TX} (h : x = some (Y, nI 1)) : zAnd x k = k Y := by
  have n1 : ¬ nI 1 = nI 0 := by decide
  unfold zAnd
  rw [h, Option.bind_some]; exact if_neg n1
theorem zAnd_0 {x : Option (TX × Int32)} {k : TX → Option (TX × Int32)} {Y : TX} (h : x = some (Y, nI 0)) : zAnd x k = some (Y, nI 0) := by
  unfold zAnd
  rw [h, Option.bind_some]; exact if_pos rfl
theorem zLo.seq {b c b2 c2 s : Nat} {T : Nat → Nat} {p m H1 H2 d d2 : Nat} {X M : TX} {x : Option (TX × Int32)} {r : Option TX} {k : TX → Option (TX × Int32)} {kr : TX → Option TX}
    (h : zLo b c s T p m H1 d X M x r) (hs : s ≤ 600) (ok : ∀ e m' Y N, p + b ≤ e → m' + p + c ≤ m + e → zLi s T e m' H1 d Y N → zLo b2 c2 s T e m' H2 d2 Y N (k Y) (kr N))
    (bad : ∀ N a, N 0 5 = nI a → a ≤ 600 → ∃ v, kr N = some (u2 N 0 7 v)) : zLo (b + b2) (c + c2) s T p m H2 d2 X M (zAnd x k) (r.bind kr) := by
  rcases h with ⟨e, m', Y, N, k1, k2, k3, k4, k5, k6, k7⟩ | ⟨Y, N, kd, pl, k1, k2, k3⟩
  · rw [zAnd_1 k1, k2, Option.bind_some]
    rcases ok e m' Y N k3 k4 k5 with ⟨e2, m2, Z, P, o1, o2, o3, o4, o5, o6, o7⟩ | ⟨Z, P, kd, pl, o1, o2, o3⟩
    · exact .inl ⟨e2, m2, Z, P, o1, o2, by omega, by omega, o5, k6.trans o6, k7.trans o7⟩
    · exact .inr ⟨Z, P, kd, pl, o1, o2, o3.pre k6 k7⟩
  · rw [zAnd_0 k1, k2, Option.bind_some]
    obtain ⟨v, hv⟩ := bad N pl k3.2.2.2.2.1 (by have := k3.2.1; omega)
    exact .inr ⟨Y, _, kd, pl, rfl, hv, k3.post7 v⟩
theorem zLo.weak {b c b' c' s : Nat} {T : Nat → Nat} {p m H d : Nat} {X M : TX} {x : Option (TX × Int32)} {r : Option TX} (h : zLo b c s T p m H d X M x r) (hb : b' ≤ b) (hc : c' ≤ c) : zLo b' c' s T p m H d X M x r := by
  rcases h with ⟨e, m', Y, N, k1, k2, k3, k4, k5⟩ | h
  · exact .inl ⟨e, m', Y, N, k1, k2, by omega, by omega, k5⟩
  · exact .inr h
theorem zLi.d7 {s : Nat} {T : Nat → Nat} {p m H d : Nat} {X M : TX} (h : zLi s T p m H d X M) (d' : Nat) : zLi s T p m H d' X (u2 M 0 7 (nI d')) := by
  refine zLi.mk h.jx (h.jm.fr (z_u2k _ _ _ _ (by decide)) (z_u2j _ _ _ _ (by decide)) (by rw [z_u2j _ _ _ _ (by decide)]; exact h.jm.mp) h.jm.ps) ?_ h.f7 ?_ h.mp (z_u2s _ _ _ _) h.s1
  · rw [z_u2j _ _ _ _ (by decide)]; exact h.f5
  · have := h.ld; unfold zLd at *; rw [z_u2j _ _ _ _ (by decide), z_u2k _ _ _ _ (by decide), z_u2k _ _ _ _ (by decide)]; exact this
theorem zWM_7 (M : TX) (v : Int32) : zWM M (u2 M 0 7 v) := ⟨fun k a _ _ => z_u2k _ _ _ _ a, fun j _ _ _ a _ => z_u2j _ _ _ _ a⟩
/-- both operands of a named choice -/
theorem z_two {s : Nat} {T : Nat → Nat} {dep : Nat} {rec : TX → Int32 → Option (TX × Int32)} {rec' : TX → Option TX}
    (hrec : ∀ p m H X M, zLi s T p m H (dep + 1) X M → zLo 1 0 s T p m (H + 1) (dep + 1) X M (rec X (nI (dep + 1))) (rec' M))
    (hst : ∀ M a, M 0 5 = nI a → a ≤ 600 → rec' M = some M) {p m H o : Nat} (ho : 2 ≤ o ∧ o ≤ 8) {X M : TX} (h : zLi s T p m H (dep + 1) X M) :
    zLo 0 0 s T p m (H + 1) dep X M
      (zAnd (f_X7_sign X (nI 91)) fun A => zAnd (rec A (nI (dep + 1))) fun B => zAnd (f_X7_sign B (nI 44)) fun C => zAnd (rec C (nI (dep + 1))) fun D => zAnd (f_X7_sign D (nI 93)) fun E => zAnd (f_X4_add E (zOp o)) fun F => some (F, nI 1))
      ((f_X9_sign M (nI 91)).bind fun q2 => (rec' q2).bind fun q3 => (f_X9_sign q3 (nI 44)).bind fun q4 => (rec' q4).bind fun q5 => (f_X9_sign q5 (nI 93)).bind fun q6 => (f_X9_emit (u2 q6 0 7 ((q6 0 7) - nI 1)) (nI o) (nI 0)).bind fun q7 => some q7) := by
  have hs := h.s1
  have mp := h.mp
  have s5 : ∀ (N : TX) a, N 0 5 = nI a → a ≤ 600 → ((f_X9_emit (u2 N 0 7 ((N 0 7) - nI 1)) (nI o) (nI 0)).bind fun q7 => some q7) = some (u2 N 0 7 ((N 0 7) - nI 1)) := fun N a hN ha => by
    rw [z9_emS (a := a) (by rw [z_u2j _ _ _ _ (by decide)]; exact hN) ha, Option.bind_some]
  have s4 : ∀ (N : TX) a, N 0 5 = nI a → a ≤ 600 → ((f_X9_sign N (nI 93)).bind fun q6 => (f_X9_emit (u2 q6 0 7 ((q6 0 7) - nI 1)) (nI o) (nI 0)).bind fun q7 => some q7) = some (u2 N 0 7 ((N 0 7) - nI 1)) := fun N a hN ha => by
    rw [z9_sgnS hN ha, Option.bind_some]; exact s5 N a hN ha
  have s3 : ∀ (N : TX) a, N 0 5 = nI a → a ≤ 600 → ((rec' N).bind fun q5 => (f_X9_sign q5 (nI 93)).bind fun q6 => (f_X9_emit (u2 q6 0 7 ((q6 0 7) - nI 1)) (nI o) (nI 0)).bind fun q7 => some q7) = some (u2 N 0 7 ((N 0 7) - nI 1)) := fun N a hN ha => by
    rw [hst N a hN ha, Option.bind_some]; exact s4 N a hN ha
  have s2 : ∀ (N : TX) a, N 0 5 = nI a → a ≤ 600 → ((f_X9_sign N (nI 44)).bind fun q4 => (rec' q4).bind fun q5 => (f_X9_sign q5 (nI 93)).bind fun q6 => (f_X9_emit (u2 q6 0 7 ((q6 0 7) - nI 1)) (nI o) (nI 0)).bind fun q7 => some q7) = some (u2 N 0 7 ((N 0 7) - nI 1)) := fun N a hN ha => by
    rw [z9_sgnS hN ha, Option.bind_some]; exact s3 N a hN ha
  have s1 : ∀ (N : TX) a, N 0 5 = nI a → a ≤ 600 → ((rec' N).bind fun q3 => (f_X9_sign q3 (nI 44)).bind fun q4 => (rec' q4).bind fun q5 => (f_X9_sign q5 (nI 93)).bind fun q6 => (f_X9_emit (u2 q6 0 7 ((q6 0 7) - nI 1)) (nI o) (nI 0)).bind fun q7 => some q7) = some (u2 N 0 7 ((N 0 7) - nI 1)) := fun N a hN ha => by
    rw [hst N a hN ha, Option.bind_some]; exact s2 N a hN ha
  refine (zLo.seq (b2 := 0) (c2 := 0) (h.sgn 91 (by omega) (by omega)) (by omega) (fun e1 m1 Y1 N1 g1 g2 h1 => ?_) fun N a hN ha => ⟨_, s1 N a hN ha⟩).weak (by omega) (by omega)
  refine (zLo.seq (b2 := 0) (c2 := 0) (hrec e1 m1 H Y1 N1 h1) (by omega) (fun e2 m2 Y2 N2 g3 g4 h2 => ?_) fun N a hN ha => ⟨_, s2 N a hN ha⟩).weak (by omega) (by omega)
  refine (zLo.seq (b2 := 0) (c2 := 0) (h2.sgn 44 (by omega) (by omega)) (by omega) (fun e3 m3 Y3 N3 g5 g6 h3 => ?_) fun N a hN ha => ⟨_, s3 N a hN ha⟩).weak (by omega) (by omega)
  refine (zLo.seq (b2 := 0) (c2 := 0) (hrec e3 m3 (H + 1) Y3 N3 h3) (by omega) (fun e4 m4 Y4 N4 g7 g8 h4 => ?_) fun N a hN ha => ⟨_, s4 N a hN ha⟩).weak (by omega) (by omega)
  rcases h4.sgn 93 (by omega) (by omega) with ⟨e5, m5, Y5, N5, k1, k2, k3, k4, h5, k6, k7⟩ | ⟨Y5, N5, kd, pl, k1, k2, k3⟩
  · have e7 : N5 0 7 - nI 1 = nI dep := by rw [h5.dp, z_subN (by omega)]; rfl
    obtain ⟨V, Q, l1, l2, l3, l4, l5⟩ := (h5.d7 dep).em (H' := H + 1) (a := zOp o) (b := nI o) (f := nI 0) (by omega) (.inr (.inr ⟨o, ho.1, ho.2, rfl, rfl, by omega, rfl⟩))
    rw [zAnd_1 k1, zAnd_1 l1, k2, Option.bind_some, e7, l2, Option.bind_some]
    exact .inl ⟨e5, m5 + 1, V, Q, rfl, rfl, by omega, by omega, l3, k6.trans l4, (k7.trans (zWM_7 _ _)).trans l5⟩
  · rw [zAnd_0 k1, k2, Option.bind_some, s5 N5 pl k3.2.2.2.2.1 (by have := k3.2.1; omega)]
    exact .inr ⟨Y5, _, kd, pl, rfl, rfl, k3.post7 _⟩
/-- one deeper -/
theorem z9_opens {M : TX} {q dep : Nat} (hf : M 0 5 = -nI 1) (h4 : M 0 4 = nI q) (h7 : M 0 7 = nI dep) (hd : dep < 6) (l : Nat) : f_X9_opensOne M (nI l) = some (u2 (u2 M 0 4 (nI (q + l))) 0 7 (nI (dep + 1))) := by
  have n1 : ¬ nI 1 = nI 0 := by decide
  have n6 : ¬ nI dep = nI 6 := by rw [z_nI_inj (by omega) (by omega)]; omega
  have eB : B_X9_opensOne_25 M (nI l) = some (u2 (u2 M 0 4 (nI (q + l))) 0 7 (nI (dep + 1))) := by
    show ((f_X9_fine M).bind fun q3 => if q3 = nI 0 then (some (u2 M 0 7 ((M 0 7) + nI 1))) else (some (u2 (u2 M 0 4 ((M 0 4) + nI l)) 0 7 ((M 0 7) + nI 1)))) = _
    rw [z9_fine1 hf, Option.bind_some, if_neg n1, h4, h7, z_nI_add, z_nI_add]
  show ((f_X9_fine M).bind fun q1 => if q1 = nI 0 then (B_X9_opensOne_25 M (nI l)) else (if (M 0 7) = nI 6 then ((f_X9_wrong M (nI 3) (M 0 4)).bind fun q6 => B_X9_opensOne_25 q6 (nI l)) else (B_X9_opensOne_25 M (nI l)))) = _
  rw [z9_fine1 hf, Option.bind_some, if_neg n1, h7, if_neg n6, eB]
/-- too deep -/
theorem z9_opens6 {s : Nat} {T : Nat → Nat} {M : TX} {q : Nat} (hM : zJm s T q M) (hf : M 0 5 = -nI 1) (h7 : M 0 7 = nI 6) (l : Int32) : ∃ N, f_X9_opensOne M l = some (u2 N 0 7 (nI 7)) ∧ zMF s T M N 3 q := by
  have n1 : ¬ nI 1 = nI 0 := by decide
  have hs := hM.s6
  have hp := hM.ps
  obtain ⟨N, m1, m2⟩ := z9_wrong (kd := 3) (pl := q) hM hf hM.ps
  have e7 : N 0 7 = nI 6 := (m2.2.1 7 (by decide) (by decide) (by decide)).trans h7
  refine ⟨N, ?_, m2⟩
  show ((f_X9_fine M).bind fun q1 => if q1 = nI 0 then (B_X9_opensOne_25 M l) else (if (M 0 7) = nI 6 then ((f_X9_wrong M (nI 3) (M 0 4)).bind fun q6 => B_X9_opensOne_25 q6 l) else (B_X9_opensOne_25 M l))) = _
  rw [z9_fine1 hf, Option.bind_some, if_neg n1, h7, if_pos rfl, hM.mp, m1, Option.bind_some]
  show ((f_X9_fine N).bind fun q3 => if q3 = nI 0 then (some (u2 N 0 7 ((N 0 7) + nI 1))) else _) = _
  rw [z9_fine0 m2.2.2.1 (by omega), Option.bind_some, if_pos rfl, e7, z_nI_add]
theorem zWn_len {T : Nat → Nat} {q k i : Nat} (hi : i < 18) (hw : ∀ j, j < k → 97 ≤ T (q + j) ∧ T (q + j) ≤ 122) (h : zWn T q k = zOf i) : k = SL.getD i 0 := by
  have o := zOf_all ⟨i, hi⟩
  unfold zWn at h
  by_cases c : k ≤ 6
  · rw [if_pos c] at h
    refine (zWc_inj k (SL.getD i 0) (fun j hj => ?_) (fun j hj => ?_) h).1
    · have := hw j hj; omega
    · have := zSb_2 hi hj; omega
  · rw [if_neg c] at h
    have := o.2.1
    exact absurd h (by show ¬ 0 = zOf i; have : 1 ≤ zOf i := this; omega)
theorem zFk_0 : zFk 0 = 8 := by
  have o := fun (i : Nat) (hi : i < 18) => show ¬ 0 = zOf i by have : 1 ≤ zOf i := (zOf_all ⟨i, hi⟩).2.1; omega
  unfold zFk
  rw [if_neg (o 9 (by decide)), if_neg (o 3 (by decide)), if_neg (o 14 (by decide)), if_neg (o 13 (by decide)), if_neg (o 5 (by decide)), if_neg (o 11 (by decide)), if_neg (o 17 (by decide)), if_neg (o 8 (by decide))]
