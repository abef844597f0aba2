set_option linter.unusedVariables false
/-- a unit of a law, on both sides -/
theorem z_unit {s : Nat} {T : Nat → Nat} {dep : Nat} {rec : TX → Int32 → Option (TX × Int32)} {rec' : TX → Option TX} (hdep : dep ≤ 6)
    (hrec : dep < 6 → ∀ p m H X M, zLi s T p m H (dep + 1) X M → zLo 1 0 s T p m (H + 1) (dep + 1) X M (rec X (nI (dep + 1))) (rec' M))
    (hst : ∀ M a, M 0 5 = nI a → a ≤ 600 → rec' M = some M) {p m H : Nat} {X M : TX} (h : zLi s T p m H dep X M) :
    zLo 1 0 s T p m (H + 1) dep X M (f_X4_readUnit rec X (nI dep)) (f_X9_readUnit rec' M) := by
  have hs := h.s1
  have mp := h.mp
  have n0 : ¬ nI 1 = nI 0 := by decide
  have ht := h.jx.t
  obtain ⟨a1, a2, a3⟩ := zA_spec (T := T) h.jx.ps
  obtain ⟨q, hq⟩ : ∃ q, zA T s p = q := ⟨_, rfl⟩
  rw [hq] at a1 a2 a3
  obtain ⟨X1, hX1⟩ : ∃ Z, Z = u2 X 1 3 (nI q) := ⟨_, rfl⟩
  obtain ⟨M1, hM1⟩ : ∃ Z, Z = u2 M 0 4 (nI q) := ⟨_, rfl⟩
  have fx : zTX X X1 := by rw [hX1]; exact zTX_u (.inl rfl) _
  have fm : zTM M M1 := by rw [hM1]; exact zTM_u _ _
  have h1 : zLi s T q m H dep X1 M1 := h.mv (by rw [hX1]; exact h.jx.to a2) (by rw [hM1]; exact h.jm.to a2) fx fm a1
  have hh : f_X9_here M1 = some (M1, zH T s q) := by rw [hM1]; exact zH_here h.jm hq
  have eX : f_X4_readUnit rec X (nI dep) = (f_X7_isDigit (zC T s q)).bind fun q2 => if q2 = nI 0 then (if zC T s q = nI 40 then (if nI dep < nI 6 then (zAnd (f_X7_sign X1 (nI 40)) fun A => zAnd (rec A (nI dep + nI 1)) fun B => zAnd (f_X7_sign B (nI 41)) fun C => some (C, nI 1)) else zWrp (f_X7_fail X1 (nI 3) (X1 1 3))) else zWord rec X1 (nI dep)) else (zAnd (f_X7_number X1 (nI 999)) fun A => zAnd (f_X4_add A (A 1 5)) fun B => some (B, nI 1)) := by
    unfold f_X4_readUnit
    rw [z7_ahead h.jx, hq, ← hX1, Option.bind_some]
    rfl
  have eM : f_X9_readUnit rec' M = if zH T s q = nI 40 then ((f_X9_opensOne M1 (nI 1)).bind fun q29 => (rec' q29).bind fun q30 => (f_X9_sign q30 (nI 41)).bind fun q31 => some (u2 q31 0 7 ((q31 0 7) - nI 1))) else ((f_X9_isDigit (zH T s q)).bind fun q6 => if q6 = nI 0 then zUnW rec' M1 else ((f_X9_readNumber M1 (nI 0) (nI 999)).bind fun q27 => (f_X9_emit q27.1 (nI 0) q27.2).bind fun q28 => some q28)) := by
    unfold f_X9_readUnit
    have n0' : ¬ nI 1 = (0 : Int32) := n0
    rw [z9_fine1 h.f5, Option.bind_some, if_neg n0', z9_here h.jm, hq, ← hM1, Option.bind_some]
    show (if zH T s q = nI 40 then _ else ((f_X9_here M1).bind fun q5 => _)) = _
    rw [hh, Option.bind_some]
    rfl
  rw [eX, eM]
  have k40 := z_ch (q := q) (v := 40) ht (by omega) (by omega)
  by_cases dg : q < s ∧ 48 ≤ T q ∧ T q ≤ 57
  · have tq := ht q dg.1
    have c1 : zC T s q = nI (T q) := by unfold zC; rw [if_pos dg.1]
    have c2 : zH T s q = nI (T q) := by unfold zH; rw [if_pos dg.1]
    have e1 : f_X7_isDigit (nI (T q)) = some (nI 1) := by rw [z7_digit tq, decide_eq_true dg.2]; rfl
    have n40 : ¬ nI (T q) = nI 40 := by rw [z_nI_inj (by omega) (by omega)]; omega
    have e999 : nI 999 = zBe 1000 := by unfold zBe; rw [zBe_u (b := 999)]
    rw [c1, c2, e1, Option.bind_some, if_neg n0, if_neg n40, z9_digit, e1, Option.bind_some, if_neg n0, e999]
    have zn := z_num h1.jx h1.jm h1.f5 (b := 1000) (by omega)
    rw [a3] at zn
    rcases zn with ⟨e, v, Y, N, k1, k2, k3, k4, k5, k6, k7, k8, k9, k10⟩ | ⟨Y, N, kd, k1, k2, k3, k4, k5⟩
    · have h2 := h1.mv k7 k8 k9 k10 (by omega)
      obtain ⟨V, Q, l1, l2, l3, l4, l5⟩ := h2.em (H' := H + 1) (a := nI v) (b := nI 0) (f := nI v) (by omega) (.inl ⟨v, k3, rfl, rfl, rfl, rfl⟩)
      rw [zAnd_1 k1, k5, zAnd_1 l1, k2, Option.bind_some, l2, Option.bind_some]
      exact .inl ⟨e, m + 1, V, Q, rfl, rfl, by omega, by omega, l3, (fx.wx.trans k9.wx).trans l4, (fm.wm.trans k10.wm).trans l5⟩
    · rw [zAnd_0 k1, k2, Option.bind_some, z9_emS k5.2.2.1 (by omega), Option.bind_some]
      exact .inr ⟨Y, N, kd, q, rfl, rfl, (zLb_tf k3 k4 k5).pre fx.wx fm.wm⟩
  · have e1 : f_X7_isDigit (zC T s q) = some (nI 0) := by
      unfold zC
      by_cases c : q < s
      · rw [if_pos c, z7_digit (ht q c), decide_eq_false (fun x => dg ⟨c, x⟩)]; rfl
      · rw [if_neg c]; decide
    have e2 : f_X9_isDigit (zH T s q) = some (nI 0) := by
      unfold zH
      by_cases c : q < s
      · rw [if_pos c, z9_digit, z7_digit (ht q c), decide_eq_false (fun x => dg ⟨c, x⟩)]; rfl
      · rw [if_neg c]; decide
    rw [e1, Option.bind_some, if_pos rfl]
    by_cases c : q < s ∧ T q = 40
    · rw [if_pos (k40.1.2 c), if_pos (k40.2.2 c), z_nI_add]
      have sg := z7_sgnOk h.jx hq c.1
      rw [c.2, ← hX1] at sg
      by_cases d : dep < 6
      · rw [if_pos (by rw [z_nI_lt (by omega) (by omega)]; exact d), zAnd_1 sg, z9_opens h1.f5 h1.jm.mp h1.dp d, Option.bind_some]
        have h2 : zLi s T (q + 1) m H (dep + 1) (u2 X 1 3 (nI (q + 1))) (u2 (u2 M1 0 4 (nI (q + 1))) 0 7 (nI (dep + 1))) := by
          refine zLi.d7 (h.mv (h.jx.to (by omega)) (h1.jm.to (by omega)) (zTX_u (.inl rfl) _) (fm.trans (zTM_u _ _)) (by omega)) (dep + 1)
        have st1 : ∀ (N : TX) a, N 0 5 = nI a → a ≤ 600 → ((f_X9_sign N (nI 41)).bind fun q31 => some (u2 q31 0 7 ((q31 0 7) - nI 1))) = some (u2 N 0 7 ((N 0 7) - nI 1)) := fun N a hN ha => by
          rw [z9_sgnS hN ha, Option.bind_some]
        have g := zLo.seq (b2 := 0) (c2 := 0) (H2 := H + 1) (d2 := dep) (k := fun B => zAnd (f_X7_sign B (nI 41)) fun C => some (C, nI 1)) (kr := fun q30 => (f_X9_sign q30 (nI 41)).bind fun q31 => some (u2 q31 0 7 ((q31 0 7) - nI 1))) (hrec d (q + 1) m H _ _ h2) (by omega) (fun e m1 Y N g1 g2 h3 => ?_) fun N a hN ha => ⟨_, st1 N a hN ha⟩
        · exact g.pre (zTX_u (.inl rfl) _).wx ((fm.wm.trans (zTM_u _ _).wm).trans (zWM_7 _ _)) (by omega) (by omega)
        · rcases h3.sgn 41 (by omega) (by omega) with ⟨e5, m5, Y5, N5, k1, k2, k3, k4, h5, k6, k7⟩ | ⟨Y5, N5, kd, pl, k1, k2, k3⟩
          · have e7 : N5 0 7 - nI 1 = nI dep := by rw [h5.dp, z_subN (by omega)]; rfl
            show zLo 0 0 s T e m1 (H + 1) dep Y N (zAnd (f_X7_sign Y (nI 41)) fun C => some (C, nI 1)) ((f_X9_sign N (nI 41)).bind fun q31 => some (u2 q31 0 7 ((q31 0 7) - nI 1)))
            rw [zAnd_1 k1, k2, Option.bind_some, e7]
            exact .inl ⟨e5, m5, Y5, _, rfl, rfl, by omega, by omega, h5.d7 dep, k6, k7.trans (zWM_7 _ _)⟩
          · show zLo 0 0 s T e m1 (H + 1) dep Y N (zAnd (f_X7_sign Y (nI 41)) fun C => some (C, nI 1)) ((f_X9_sign N (nI 41)).bind fun q31 => some (u2 q31 0 7 ((q31 0 7) - nI 1)))
            rw [zAnd_0 k1, k2, Option.bind_some]
            exact .inr ⟨Y5, _, kd, pl, rfl, rfl, k3.post7 _⟩
      · have d6 : dep = 6 := by omega
        subst d6
        obtain ⟨N, m1, m2⟩ := z9_opens6 (T := T) h1.jm h1.f5 h1.dp (nI 1)
        obtain ⟨Z, z1, z2⟩ := z7_fail (X := X1) (kd := 3) (pl := q)
        have f5 : u2 N 0 7 (nI 7) 0 5 = nI q := by rw [z_u2j _ _ _ _ (by decide)]; exact m2.2.2.1
        have hq6 : q ≤ 600 := by omega
        rw [if_neg (by decide), h1.jx.xp, zWrp_0 z1, m1, Option.bind_some, hst _ q f5 hq6, Option.bind_some, z9_sgnS f5 hq6, Option.bind_some, z_u2s, z_u2u]
        exact .inr ⟨Z, _, 3, q, rfl, rfl, ((zLb_tf (by omega) z2 m2).post7 _).pre fx.wx fm.wm⟩
    · rw [if_neg (fun x => c (k40.1.1 x)), if_neg (fun x => c (k40.2.1 x)), e2, Option.bind_some, if_pos rfl]
      exact (z_word hdep hrec hst h1 a3).pre fx.wx fm.wm (by omega) a1
/-- a sum of a law, on both sides: at every depth -/
theorem z_sum {s : Nat} {T : Nat → Nat} : ∀ (r dep : Nat), dep + r = 6 → ∀ p m H X M, zLi s T p m H dep X M → zLo 1 0 s T p m (H + 1) dep X M (f_X4_readSum (r + 2) X (nI dep)) (f_X9_readSum (r + 2) M) := by
  intro r
  induction r with
  | zero =>
    intro dep hd p m H X M h
    exact z_opT (x2 := nI dep) zOpS_ok (zSX_eq (f_X4_readSum 1) (nI dep)) (zSM_eq (f_X9_readSum 1)) (zSM_S (f_X9_readSum 1))
      (fun p m H X M h => z_opT (x2 := nI dep) zOpP_ok (zPX_eq (f_X4_readSum 1) (nI dep)) (zPM_eq (f_X9_readSum 1)) (zPM_S (f_X9_readSum 1))
        (fun p m H X M h => z_unit (by omega) (fun x => absurd x (by omega)) (fun M a h1 h2 => z9_sumS 0 h1 h2) h) h) h
  | succ r ih =>
    intro dep hd p m H X M h
    exact z_opT (x2 := nI dep) zOpS_ok (zSX_eq (f_X4_readSum (r + 2)) (nI dep)) (zSM_eq (f_X9_readSum (r + 2))) (zSM_S (f_X9_readSum (r + 2)))
      (fun p m H X M h => z_opT (x2 := nI dep) zOpP_ok (zPX_eq (f_X4_readSum (r + 2)) (nI dep)) (zPM_eq (f_X9_readSum (r + 2))) (zPM_S (f_X9_readSum (r + 2)))
        (fun p m H X M h => z_unit (by omega) (fun _ => ih (dep + 1) (by omega)) (fun M a h1 h2 => z9_sumS (r + 1) h1 h2) h) h) h
