set_option linter.unusedVariables false
theorem zQX_c {X Y : TX} (h : ∀ k, k ≠ 21 → k ≠ 22 → k ≠ 33 → Y k = X k) : zQX X Y := ⟨fun k a b _ c _ _ _ => h k a b c, by rw [h 27 (by decide) (by decide) (by decide)]⟩
theorem z_q10 {a b : Nat} (ha : a < 100) (hb : b < 10) : nI (10 * a + b) / (10 : Int32) = nI a ∧ nI a * (10 : Int32) = nI (a * 10) ∧ nI (10 * a + b) - nI (a * 10) = nI b := by
  have e1 : (10 * a + b) / 10 = a := by omega
  have e2 : 10 * a + b - a * 10 = b := by omega
  have h1 : nI (10 * a + b) / nI 10 = nI ((10 * a + b) / 10) := z_quo (by omega) (by omega) (by omega)
  have h2 : nI (10 * a + b) - nI (a * 10) = nI (10 * a + b - a * 10) := z_subN (by omega)
  rw [e1] at h1
  rw [e2] at h2
  exact ⟨h1, z_nI_mul a 10, h2⟩
theorem z_best {n : Nat} {X M : TX} (h : zV n X M) (x w : Int32) : zCs (some (nI 1)) (some (nI 2)) (f_X8_best X x w) (f_X9_best M x w) := by
  have h10 := h.e.n10
  have g := h.q (zQX.refl X) (zQM_0 M (nI 0))
  have g0 : u2 M 0 0 (nI 0) 0 0 = nI 0 := z_u2s _ _ _ _
  have l1 : f_X9_lets (u2 M 0 0 (nI 0)) (nI 1) (2 : Int32) (1 : Int32) = some (u2 M 0 0 (nI 0), nI 1) := z9_lets1 g0 (nI 2) (nI 1)
  have l0 : f_X9_lets (u2 M 0 0 (nI 0)) (nI 0) (2 : Int32) (1 : Int32) = some (u2 (u2 (u2 M 0 0 (nI 0)) 0 0 (nI 2)) 1 1 (u2 M 0 0 (nI 0) 1 1 + nI 1), nI 0) := z9_lets0 g0 (c := 2) (j := 1) (by omega) (by omega)
  have nd : f_X8_need X (1 : Int32) = some (X, .inl ()) := z8_need1 X
  have n0 : f_X8_need X (0 : Int32) = some (u2 X 0 13 (X 0 13 + nI 1), .inr 1) := z8_need0 X
  have b19 : B_X8_best_19 X x w = some (u2 X 0 13 (X 0 13 + nI 1), .inr 1) := by unfold B_X8_best_19; rw [n0]; rfl
  rcases z_nsS (X := X) g0 x with ⟨e1, e2⟩ | ⟨a, ha, rfl, e1, e2⟩
  · have e2' : f_X9_isThere (u2 M 0 0 (0 : Int32)) x (2 : Int32) = _ := e2
    refine zCs_no g (v := nI 0) ?_ ?_
    · unfold f_X8_best; rw [e1, Option.bind_some, zxb_r]
    · unfold f_X9_best; rw [e2', Option.bind_some, if_pos z_n00]; rfl
  · have e2' : f_X9_isThere (u2 M 0 0 (0 : Int32)) (nI a) (2 : Int32) = _ := e2
    rcases z_rng 2 (by omega) w with c | ⟨c1, c2⟩ | ⟨v, hv, rfl⟩
    · have c' : w < (0 : Int32) := c
      refine zCs_il (c := 2) (by omega) g (v := nI 0) ?_ ?_
      · unfold f_X8_best; rw [e1, Option.bind_some, zxb_l, if_pos c']; exact b19
      · unfold f_X9_best; rw [e2', Option.bind_some, if_neg z_n10, z9_lo c', Option.bind_some, l0, Option.bind_some, if_pos z_n00]; rfl
    · have c' : ¬ w < (0 : Int32) := c1
      have c2' : (2 : Int32) < w := c2
      refine zCs_il (c := 2) (by omega) g (v := nI 0) ?_ ?_
      · unfold f_X8_best; rw [e1, Option.bind_some, zxb_l, if_neg c', if_pos c2']; exact b19
      · unfold f_X9_best; rw [e2', Option.bind_some, if_neg z_n10, z9_hi c' c2', Option.bind_some, l0, Option.bind_some, if_pos z_n00]; rfl
    · have c' : ¬ nI v < (0 : Int32) := z_nI_nn (by omega)
      have c2' : ¬ (2 : Int32) < nI v := fun hh => by
        have := (z_nI_lt (i := 2) (j := v) (by omega) (by omega)).1 hh
        omega
      obtain ⟨N, t1, t2, t3, tS, tD, tY, t4⟩ := h.take (zQM_0 M (nI 0))
      have hn : N 0 19 = nI n := tS.a19.trans h.e.kn
      obtain ⟨X', k1, k2, k3⟩ := z2_choose h.e tD (nI a)
      obtain ⟨N', m1, m2, m3⟩ := z9_bestOf h.e tD tS rfl ha
      have n0' : N' 0 0 = nI 0 := by rw [m3 0 (by decide) (by decide) (by decide), t3]; exact g0
      have hX : f_X8_best X (nI a) (nI v) = (if (if (zBest M n (N 20) (nI a)).1 = none then nI 0 else nI 1) = 0 then some (X', .inl (-1 : Int32)) else (if nI v = (0 : Int32) then (some (X', .inl (X' 33 2))) else (if nI v = (1 : Int32) then (some (X', .inl (X' 33 3))) else ((some (X', .inl (X' 33 4))))))) := by
        unfold f_X8_best; rw [e1, Option.bind_some, zxb_l, if_neg c', if_neg c2', nd, Option.bind_some, zxb_l]
        show (f_X2_choose X (nI a)).bind _ = _
        rw [k1, Option.bind_some]
      have hM : f_X9_best M (nI a) (nI v) = (if zBn (zBest M n (N 20) (nI a)) = (-1 : Int32) then (some (N', (-1 : Int32))) else (if inb ((0 : Int32) + (zBn (zBest M n (N 20) (nI a)) / (10 : Int32))) 34 = true then (if nI v = 0 then (some ((u2 N' 20 (Int32.toNatClampNeg ((0 : Int32) + (zBn (zBest M n (N 20) (nI a)) / (10 : Int32)))) (zBn (zBest M n (N 20) (nI a)) - zBn (zBest M n (N 20) (nI a)) / (10 : Int32) * (10 : Int32))), (zBn (zBest M n (N 20) (nI a)) / (10 : Int32)))) else (if nI v = (1 : Int32) then (some ((u2 N' 20 (Int32.toNatClampNeg ((0 : Int32) + (zBn (zBest M n (N 20) (nI a)) / (10 : Int32)))) (zBn (zBest M n (N 20) (nI a)) - zBn (zBest M n (N 20) (nI a)) / (10 : Int32) * (10 : Int32))), (zBn (zBest M n (N 20) (nI a)) - zBn (zBest M n (N 20) (nI a)) / (10 : Int32) * (10 : Int32)))) else ((f_X9_marginOf (u2 N' 20 (Int32.toNatClampNeg ((0 : Int32) + (zBn (zBest M n (N 20) (nI a)) / (10 : Int32)))) (zBn (zBest M n (N 20) (nI a)) - zBn (zBest M n (N 20) (nI a)) / (10 : Int32) * (10 : Int32))) (nI a)).bind fun q12 => some ((u2 N' 20 (Int32.toNatClampNeg ((0 : Int32) + (zBn (zBest M n (N 20) (nI a)) / (10 : Int32)))) (zBn (zBest M n (N 20) (nI a)) - zBn (zBest M n (N 20) (nI a)) / (10 : Int32) * (10 : Int32))), q12)))) else none)) := by
        unfold f_X9_best
        rw [e2', Option.bind_some, if_neg z_n10, z9_in c' c2', Option.bind_some, l1, Option.bind_some, if_neg z_n10, t1, Option.bind_some, m1, Option.bind_some]
      cases hb : (zBest M n (N 20) (nI a)).1 with
      | none =>
        have hbn : zBn (zBest M n (N 20) (nI a)) = (-1 : Int32) := by unfold zBn; rw [hb]
        refine zCs_ok h ?_ ?_ n0' (zQX_c k2) (t2.trans (zFM.q m3)) (v := (-1 : Int32))
        · rw [hX, if_pos hb, if_pos z_n00]
        · rw [hM, if_pos hbn]
      | some q =>
        have hq := zBest_p (4 * n) (Nat.le_refl _) q hb
        have hbn : zBn (zBest M n (N 20) (nI a)) = nI (10 * q.1 + q.2) := by unfold zBn; rw [hb]
        have hne : ¬ nI (10 * q.1 + q.2) = (-1 : Int32) := fun e => by
          have := congrArg Int32.toInt e
          rw [z_nI_toInt (by omega)] at this
          have h2 : (-1 : Int32).toInt = -1 := by decide
          omega
        have hk : X' 33 2 = nI q.1 ∧ X' 33 3 = nI q.2 := by
          have := k3.2; rw [hb] at this; exact this
        have hk4 : X' 33 4 = zMg n (upd (N 20) q.1 (nI q.2)) (nI a) := by
          have h1 := k3.1
          have h2 := hq.2.2.2.2
          unfold zBest at h1
          rw [h1, h2]
        have e0 : (0 : Int32) + nI q.1 = nI q.1 := z_0add _
        obtain ⟨e10, e1', er⟩ := z_q10 (show q.1 < 100 by omega) (show q.2 < 10 by omega)
        have i34 : inb (nI q.1) 34 = true := by rw [z_inb (by omega)]; simp; omega
        have tn : Int32.toNatClampNeg (nI q.1) = q.1 := z_nI_tn (by omega)
        have hbne : ¬ (zBest M n (N 20) (nI a)).1 = none := by rw [hb]; exact fun h => nomatch h
        have hmg : f_X9_marginOf (u2 N' 20 q.1 (nI q.2)) (nI a) = some (zMg n (upd (N 20) q.1 (nI q.2)) (nI a)) := by
          rw [z9_mg (n := n) (by rw [z_u2k _ _ _ _ (by decide), m3 0 (by decide) (by decide) (by decide)]; exact hn) h10 ha, z_M20 N' (N 20) m2]
        have hQN : zQM M (u2 N' 20 q.1 (nI q.2)) := (t2.trans (zFM.q m3)).trans ⟨fun k _ _ _ c _ _ _ => z_u2k _ _ _ _ c, fun j _ _ => by rw [z_u2k _ _ _ _ (by decide)]⟩
        have n0'' : u2 N' 20 q.1 (nI q.2) 0 0 = nI 0 := by rw [z_u2k _ _ _ _ (by decide)]; exact n0'
        have hv3 : v = 0 ∨ v = 1 ∨ v = 2 := by omega
        rcases hv3 with rfl | rfl | rfl
        · refine zCs_ok h ?_ ?_ n0'' (zQX_c k2) hQN (v := nI q.1)
          · rw [hX, if_neg hbne, if_neg z_n10, if_pos (by decide), hk.1]
          · rw [hM, hbn, if_neg hne, e10, e0, e1', er, tn, if_pos i34, if_pos (by decide)]
        · refine zCs_ok h ?_ ?_ n0'' (zQX_c k2) hQN (v := nI q.2)
          · rw [hX, if_neg hbne, if_neg z_n10, if_neg (by decide), if_pos (by decide), hk.2]
          · rw [hM, hbn, if_neg hne, e10, e0, e1', er, tn, if_pos i34, if_neg (by decide), if_pos (by decide)]
        · refine zCs_ok h ?_ ?_ n0'' (zQX_c k2) hQN (v := zMg n (upd (N 20) q.1 (nI q.2)) (nI a))
          · rw [hX, if_neg hbne, if_neg z_n10, if_neg (by decide), if_neg (by decide), hk4]
          · rw [hM, hbn, if_neg hne, e10, e0, e1', er, tn, if_pos i34, if_neg (by decide), if_neg (by decide), hmg]; rfl
