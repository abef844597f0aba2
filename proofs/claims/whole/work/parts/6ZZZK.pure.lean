set_option linter.unusedVariables false
theorem zLo.pre {b c b' s : Nat} {T : Nat → Nat} {p e m H d : Nat} {X M X' M' : TX} {x : Option (TX × Int32)} {r : Option TX} (h : zLo b c s T e m H d X' M' x r) (hX : zWX X X') (hM : zWM M M') (hp : p + b' ≤ e + b) (hpe : p ≤ e) : zLo b' 0 s T p m H d X M x r := by
  rcases h with ⟨e2, m', Y, N, k1, k2, k3, k4, k5, k6, k7⟩ | ⟨Y, N, kd, pl, k1, k2, k3⟩
  · exact .inl ⟨e2, m', Y, N, k1, k2, by omega, by omega, k5, hX.trans k6, hM.trans k7⟩
  · exact .inr ⟨Y, N, kd, pl, k1, k2, k3.pre hX hM⟩
/-- a word of a law, on both sides -/
def zWord (rec : TX → Int32 → Option (TX × Int32)) (X : TX) (x2 : Int32) : Option (TX × Int32) := (f_X7_word X).bind fun q5 => (f_X4_factNamed q5).bind fun q6 => if q6 = -nI 1 then ((f_X7_is 4 q5).bind fun q8 => if q8 = nI 0 then ((f_X7_is 6 q5).bind fun q10 => if q10 = nI 0 then zWrp (f_X7_fail q5 (nI 1) (q5 1 4)) else (B_X4_readUnit_165 rec q5 x2 (zOp 7))) else (B_X4_readUnit_165 rec q5 x2 (zOp 6))) else zWrp (f_X4_add q5 (-nI 1 - q6))
def zUnW (rec : TX → Option TX) (M : TX) : Option TX := (f_X9_word M).bind fun q8 => (f_X9_of 4).bind fun q9 => if q8.2 = q9 then ((f_X9_readTwo rec q8.1 (nI 5) (nI 6)).bind fun q26 => some q26) else ((f_X9_word q8.1).bind fun q11 => (f_X9_of 6).bind fun q12 => if q11.2 = q12 then ((f_X9_readTwo rec q11.1 (nI 4) (nI 7)).bind fun q25 => some q25) else ((f_X9_factHere q11.1).bind fun q14 => if q14.2 = -nI 1 then ((f_X9_wrong q14.1 (nI 1) (q14.1 0 4)).bind fun q20 => (f_X9_fine q20).bind fun q21 => if q21 = nI 0 then (some q20) else ((f_X9_pass q20).bind fun q23 => (f_X9_emit q23 (nI 1) q14.2).bind fun q24 => some q24)) else ((f_X9_fine q14.1).bind fun q16 => if q16 = nI 0 then (some q14.1) else ((f_X9_pass q14.1).bind fun q18 => (f_X9_emit q18 (nI 1) q14.2).bind fun q19 => some q19))))
theorem z_some {α : Type} (x : Option α) : (x.bind fun q => some q) = x := by cases x <;> rfl
theorem z_choice {s : Nat} {T : Nat → Nat} {dep : Nat} {rec : TX → Int32 → Option (TX × Int32)} {rec' : TX → Option TX} (hdep : dep ≤ 6)
    (hrec : dep < 6 → ∀ p m H X M, zLi s T p m H (dep + 1) X M → zLo 1 0 s T p m (H + 1) (dep + 1) X M (rec X (nI (dep + 1))) (rec' M))
    (hst : ∀ M a, M 0 5 = nI a → a ≤ 600 → rec' M = some M) {q e l m H o : Nat} (ho : 2 ≤ o ∧ o ≤ 8) (hl : 1 ≤ l) (he : e = q + l) {X Y M : TX} (h : zLi s T q m H dep X M) (jy : zJx s T e Y) (y4 : Y 1 4 = nI q) (fy : zTX X Y) :
    zLo 1 0 s T q m (H + 1) dep X M (B_X4_readUnit_165 rec Y (nI dep) (zOp o)) ((f_X9_readTwo rec' M (nI l) (nI o)).bind fun q26 => some q26) := by
  have hs := h.s1
  have hes := jy.ps
  rw [z_some]
  have eX : B_X4_readUnit_165 rec Y (nI dep) (zOp o) = if nI dep < nI 6 then (zAnd (f_X7_sign Y (nI 91)) fun A => zAnd (rec A (nI dep + nI 1)) fun B => zAnd (f_X7_sign B (nI 44)) fun C => zAnd (rec C (nI dep + nI 1)) fun D => zAnd (f_X7_sign D (nI 93)) fun E => zAnd (f_X4_add E (zOp o)) fun F => some (F, nI 1)) else zWrp (f_X7_fail Y (nI 3) (Y 1 4)) := rfl
  have eM : f_X9_readTwo rec' M (nI l) (nI o) = (f_X9_opensOne M (nI l)).bind fun q1 => (f_X9_sign q1 (nI 91)).bind fun q2 => (rec' q2).bind fun q3 => (f_X9_sign q3 (nI 44)).bind fun q4 => (rec' q4).bind fun q5 => (f_X9_sign q5 (nI 93)).bind fun q6 => (f_X9_emit (u2 q6 0 7 ((q6 0 7) - nI 1)) (nI o) (nI 0)).bind fun q7 => some q7 := rfl
  rw [eX, eM, z_nI_add]
  by_cases c : dep < 6
  · rw [if_pos (by rw [z_nI_lt (by omega) (by omega)]; exact c), z9_opens h.f5 h.jm.mp h.dp c, Option.bind_some, ← he]
    have h2 : zLi s T e m H (dep + 1) Y (u2 (u2 M 0 4 (nI e)) 0 7 (nI (dep + 1))) := (h.mv jy (h.jm.to hes) fy (zTM_u _ _) (by omega)).d7 (dep + 1)
    exact (z_two (hrec c) hst ho h2).pre fy.wx ((zTM_u _ _).wm.trans (zWM_7 _ _)) (by omega) (by omega)
  · have d6 : dep = 6 := by omega
    subst d6
    obtain ⟨N, m1, m2⟩ := z9_opens6 (T := T) h.jm h.f5 h.dp (nI l)
    obtain ⟨Z, z1, z2⟩ := z7_fail (X := Y) (kd := 3) (pl := q)
    have f5 : u2 N 0 7 (nI 7) 0 5 = nI q := by rw [z_u2j _ _ _ _ (by decide)]; exact m2.2.2.1
    have hq6 : q ≤ 600 := by omega
    rw [if_neg (by decide), y4, zWrp_0 z1, m1, Option.bind_some, z9_sgnS f5 hq6, Option.bind_some, hst _ q f5 hq6, Option.bind_some, z9_sgnS f5 hq6, Option.bind_some, hst _ q f5 hq6, Option.bind_some, z9_sgnS f5 hq6, Option.bind_some, z_u2s, z_u2u, z9_emS (a := q) (by rw [z_u2j _ _ _ _ (by decide)]; exact m2.2.2.1) hq6, Option.bind_some]
    exact .inr ⟨Z, _, 3, q, rfl, rfl, (zLb_tf (by omega) (fy.tf z2) m2).post7 _⟩
theorem z_word {s : Nat} {T : Nat → Nat} {dep : Nat} {rec : TX → Int32 → Option (TX × Int32)} {rec' : TX → Option TX} (hdep : dep ≤ 6)
    (hrec : dep < 6 → ∀ p m H X M, zLi s T p m H (dep + 1) X M → zLo 1 0 s T p m (H + 1) (dep + 1) X M (rec X (nI (dep + 1))) (rec' M))
    (hst : ∀ M a, M 0 5 = nI a → a ≤ 600 → rec' M = some M) {q m H : Nat} {X M : TX} (h : zLi s T q m H dep X M) (a3 : zA T s q = q) :
    zLo 1 0 s T q m (H + 1) dep X M (zWord rec X (nI dep)) (zUnW rec' M) := by
  have hs := h.s1
  have mp := h.mp
  have n0 : ¬ nI 1 = nI 0 := by decide
  obtain ⟨Y, y1, y2, y3, y4⟩ := z7_word h.jx
  have w1 := z9_word h.jm
  rw [a3] at y2 y3 w1
  have uid : u2 M 0 4 (nI q) = M := z_u2id _ _ _ h.jm.mp
  rw [uid] at w1
  obtain ⟨b1, b2, b3⟩ := zLE_spec (T := T) h.jx.ps
  have ps := z9_pass h.jm
  generalize zLE T s q = e at *
  have fc := z4_fact y2 y3 b1 b3
  have i4 := z7_is y2 y3 b1 b3 (i := 4) (by decide)
  have i6 := z7_is y2 y3 b1 b3 (i := 6) (by decide)
  have hw : zWn T q (e - q) < 1073741825 := zWn_lt fun j hj => b3 _ (by omega) (by omega)
  have len : ∀ i, i < 18 → zWn T q (e - q) = zOf i → e = q + SL.getD i 0 := fun i hi hh => by
    have := zWn_len hi (fun j hj => b3 (q + j) (by omega) (by omega)) hh; omega
  have w0 : e = q → zWn T q (e - q) = 0 := fun hh => by rw [hh, Nat.sub_self]; rfl
  generalize zWn T q (e - q) = w at *
  have fh := z9_fact hw w1
  have o4 : f_X9_of 4 = some (nI (zOf 4)) := z9_of (by decide)
  have o6 : f_X9_of 6 = some (nI (zOf 6)) := z9_of (by decide)
  unfold zWord zUnW
  rw [y1, Option.bind_some, fc, Option.bind_some, w1, Option.bind_some, o4, Option.bind_some]
  show zLo 1 0 s T q m (H + 1) dep X M (if zFn w = -nI 1 then ((f_X7_is 4 Y).bind fun q8 => if q8 = nI 0 then ((f_X7_is 6 Y).bind fun q10 => if q10 = nI 0 then zWrp (f_X7_fail Y (nI 1) (Y 1 4)) else (B_X4_readUnit_165 rec Y (nI dep) (zOp 7))) else (B_X4_readUnit_165 rec Y (nI dep) (zOp 6))) else zWrp (f_X4_add Y (-nI 1 - zFn w))) (if nI w = nI (zOf 4) then ((f_X9_readTwo rec' M (nI 5) (nI 6)).bind fun q26 => some q26) else ((f_X9_word M).bind fun q11 => (f_X9_of 6).bind fun q12 => if q11.2 = q12 then ((f_X9_readTwo rec' q11.1 (nI 4) (nI 7)).bind fun q25 => some q25) else ((f_X9_factHere q11.1).bind fun q14 => if q14.2 = -nI 1 then ((f_X9_wrong q14.1 (nI 1) (q14.1 0 4)).bind fun q20 => (f_X9_fine q20).bind fun q21 => if q21 = nI 0 then (some q20) else ((f_X9_pass q20).bind fun q23 => (f_X9_emit q23 (nI 1) q14.2).bind fun q24 => some q24)) else ((f_X9_fine q14.1).bind fun q16 => if q16 = nI 0 then (some q14.1) else ((f_X9_pass q14.1).bind fun q18 => (f_X9_emit q18 (nI 1) q14.2).bind fun q19 => some q19)))))
  by_cases c4 : w = zOf 4
  · have f : zFn w = -nI 1 := by
      have : zFk (zOf 4) = 8 := by decide
      unfold zFn; rw [c4, this]; rfl
    rw [if_pos f, i4, Option.bind_some, zbI_t c4, if_neg n0, if_pos ((zOf_eq hw (by decide)).2 c4)]
    exact z_choice (l := 5) (o := 6) hdep hrec hst (by omega) (by omega) (len 4 (by decide) c4) h y2 y3 y4
  · rw [if_neg (fun x => c4 ((zOf_eq hw (by decide)).1 x)), w1, Option.bind_some, o6, Option.bind_some]
    show zLo 1 0 s T q m (H + 1) dep X M _ (if nI w = nI (zOf 6) then ((f_X9_readTwo rec' M (nI 4) (nI 7)).bind fun q25 => some q25) else ((f_X9_factHere M).bind fun q14 => if q14.2 = -nI 1 then ((f_X9_wrong q14.1 (nI 1) (q14.1 0 4)).bind fun q20 => (f_X9_fine q20).bind fun q21 => if q21 = nI 0 then (some q20) else ((f_X9_pass q20).bind fun q23 => (f_X9_emit q23 (nI 1) q14.2).bind fun q24 => some q24)) else ((f_X9_fine q14.1).bind fun q16 => if q16 = nI 0 then (some q14.1) else ((f_X9_pass q14.1).bind fun q18 => (f_X9_emit q18 (nI 1) q14.2).bind fun q19 => some q19))))
    by_cases c6 : w = zOf 6
    · have f : zFn w = -nI 1 := by
        have : zFk (zOf 6) = 8 := by decide
        unfold zFn; rw [c6, this]; rfl
      rw [if_pos f, i4, Option.bind_some, zbI_f c4, if_pos rfl, i6, Option.bind_some, zbI_t c6, if_neg n0, if_pos ((zOf_eq hw (by decide)).2 c6)]
      exact z_choice (l := 4) (o := 7) hdep hrec hst (by omega) (by omega) (len 6 (by decide) c6) h y2 y3 y4
    · rw [if_neg (fun x => c6 ((zOf_eq hw (by decide)).1 x)), fh, Option.bind_some]
      show zLo 1 0 s T q m (H + 1) dep X M _ (if zFn w = -nI 1 then ((f_X9_wrong M (nI 1) (M 0 4)).bind fun q20 => (f_X9_fine q20).bind fun q21 => if q21 = nI 0 then (some q20) else ((f_X9_pass q20).bind fun q23 => (f_X9_emit q23 (nI 1) (zFn w)).bind fun q24 => some q24)) else ((f_X9_fine M).bind fun q16 => if q16 = nI 0 then (some M) else ((f_X9_pass M).bind fun q18 => (f_X9_emit q18 (nI 1) (zFn w)).bind fun q19 => some q19)))
      by_cases c8 : zFk w = 8
      · have f : zFn w = -nI 1 := by unfold zFn; rw [if_pos c8]
        obtain ⟨Z, z1, z2⟩ := z7_fail (X := Y) (kd := 1) (pl := q)
        obtain ⟨N, m1, m2⟩ := z9_wrong (kd := 1) (pl := q) h.jm h.f5 h.jm.ps
        have hq := h.jm.ps
        rw [if_pos f, if_pos f, i4, Option.bind_some, zbI_f c4, if_pos rfl, i6, Option.bind_some, zbI_f c6, if_pos rfl, y3, zWrp_0 z1, h.jm.mp, m1, Option.bind_some, z9_fine0 m2.2.2.1 (by omega), Option.bind_some, if_pos rfl]
        exact .inr ⟨Z, N, 1, q, rfl, rfl, zLb_tf (by omega) (y4.tf z2) m2⟩
      · have kl := zFk_le w
        have k7 : zFk w < 8 := by omega
        have f : zFn w = nI (zFk w) := by unfold zFn; rw [if_neg c8]
        have fne : ¬ nI (zFk w) = -nI 1 := z_ne1 (by omega)
        have qe : q < e := by
          rcases Nat.lt_or_ge q e with g | g
          · exact g
          · exact absurd (by rw [w0 (by omega)]; exact zFk_0) c8
        have h2 := h.mv y2 (h.jm.to (q := e) b2) y4 (zTM_u _ _) b1
        obtain ⟨V, Q, l1, l2, l3, l4, l5⟩ := h2.em (H' := H + 1) (a := -nI 1 - nI (zFk w)) (b := nI 1) (f := nI (zFk w)) (by omega) (.inr (.inl ⟨_, k7, rfl, rfl, rfl, rfl⟩))
        rw [f, if_neg fne, if_neg fne, zWrp_1 l1, z9_fine1 h.f5, Option.bind_some, if_neg n0, ps, Option.bind_some, l2, Option.bind_some]
        exact .inl ⟨e, m + 1, V, Q, rfl, rfl, by omega, by omega, l3, y4.wx.trans l4, (zTM_u _ _).wm.trans l5⟩
