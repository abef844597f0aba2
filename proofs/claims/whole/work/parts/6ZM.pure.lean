set_option linter.unusedVariables false
theorem zD_back {n : Nat} {X Y M N : TX} (h : zV n X M) (t4 : ∀ j, j < 34 → N 20 j = M 19 j) (hD : zD n (N 20) Y) : zD n (M 19) Y :=
  hD.congr h.e.n10 fun j hj => (t4 j hj).symm
theorem zQM_20 {M N : TX} (h : ∀ j, j ≠ 20 → N j = M j) : zQM M N := ⟨fun k _ _ _ c _ _ _ => h k c, fun j _ _ => by rw [h 0 (by decide)]⟩
theorem z_redrawn {n : Nat} {X M : TX} (h : zV n X M) (x w : Int32) : zCs (some (nI 1)) (some (nI 2)) (f_X8_redrawn X x w) (f_X9_redrawn M x w) := by
  have h10 := h.e.n10
  have g := h.q (zQX.refl X) (zQM_0 M (nI 0))
  have g0 : u2 M 0 0 (nI 0) 0 0 = nI 0 := z_u2s _ _ _ _
  have l1 : f_X9_lets (u2 M 0 0 (nI 0)) (nI 1) (2 : Int32) (1 : Int32) = some (u2 M 0 0 (nI 0), nI 1) := z9_lets1 g0 (nI 2) (nI 1)
  have l0 : f_X9_lets (u2 M 0 0 (nI 0)) (nI 0) (2 : Int32) (1 : Int32) = some (u2 (u2 (u2 M 0 0 (nI 0)) 0 0 (nI 2)) 1 1 (u2 M 0 0 (nI 0) 1 1 + nI 1), nI 0) := z9_lets0 g0 (c := 2) (j := 1) (by omega) (by omega)
  have nd : f_X8_need X (1 : Int32) = some (X, .inl ()) := z8_need1 X
  have n0 : f_X8_need X (0 : Int32) = some (u2 X 0 13 (X 0 13 + nI 1), .inr 1) := z8_need0 X
  rcases z_nsS (X := X) g0 x with ⟨e1, e2⟩ | ⟨a, ha, rfl, e1, e2⟩
  · have e2' : f_X9_isThere (u2 M 0 0 (0 : Int32)) x (2 : Int32) = _ := e2
    refine zCs_no g (v := nI 0) ?_ ?_
    · unfold f_X8_redrawn; rw [e1, Option.bind_some, zxb_r]
    · unfold f_X9_redrawn; rw [e2', Option.bind_some, if_pos z_n00]; rfl
  · have e2' : f_X9_isThere (u2 M 0 0 (0 : Int32)) (nI a) (2 : Int32) = _ := e2
    rcases z_rng 3 (by omega) w with c | ⟨c1, c2⟩ | ⟨v, hv, rfl⟩
    · have c' : w < (0 : Int32) := c
      refine zCs_il (c := 2) (by omega) g (v := nI 0) ?_ ?_
      · unfold f_X8_redrawn; rw [e1, Option.bind_some, zxb_l, if_pos c']
        show (f_X8_need X (0 : Int32)).bind _ = _
        rw [n0]; rfl
      · unfold f_X9_redrawn; rw [e2', Option.bind_some, if_neg z_n10, z9_lo c', Option.bind_some, l0, Option.bind_some, if_pos z_n00]; rfl
    · have c' : ¬ w < (0 : Int32) := c1
      have c2' : (3 : Int32) < w := c2
      refine zCs_il (c := 2) (by omega) g (v := nI 0) ?_ ?_
      · unfold f_X8_redrawn; rw [e1, Option.bind_some, zxb_l, if_neg c', if_pos c2']
        show (f_X8_need X (0 : Int32)).bind _ = _
        rw [n0]; rfl
      · unfold f_X9_redrawn; rw [e2', Option.bind_some, if_neg z_n10, z9_hi c' c2', Option.bind_some, l0, Option.bind_some, if_pos z_n00]; rfl
    · have c' : ¬ nI v < (0 : Int32) := z_nI_nn (by omega)
      have c2' : ¬ (3 : Int32) < nI v := fun hh => by
        have := (z_nI_lt (i := 3) (j := v) (by omega) (by omega)).1 hh
        omega
      obtain ⟨N, t1, t2, t3, tS, tD, tY, t4⟩ := h.take (zQM_0 M (nI 0))
      obtain ⟨Y, k1, k2, k3⟩ := z2_great (t := 0) (by omega) v 5 a (N 20) X (by omega) hv ha h.e tD
      obtain ⟨P, m1, m2, m3⟩ := z9_most h10 h.e.kn ha v 5 (N 20) N (by omega) hv tS rfl
      have k1' : f_X2_greatest 5 X (nI a) (nI v) (0 : Int32) = _ := k1
      have p0 : P 0 0 = nI 0 := by rw [m3 0 (by decide), t3]; exact g0
      refine zCs_oy h ?_ ?_ p0 k2.y (zD_back h t4 k3) (t2.trans (zQM_20 m3)) (v := zMb M n a v (N 20))
      · unfold f_X8_redrawn; rw [e1, Option.bind_some, zxb_l, if_neg c', if_neg c2', nd, Option.bind_some, zxb_l]
        show (f_X2_greatest 5 X (nI a) (nI v) (0 : Int32)).bind _ = _
        rw [k1', Option.bind_some, zG_Mb]
      · unfold f_X9_redrawn
        rw [e2', Option.bind_some, if_neg z_n10, z9_in c' c2', Option.bind_some, l1, Option.bind_some, if_neg z_n10, t1, Option.bind_some, m1]; rfl
theorem z_turned {n : Nat} {X M : TX} (h : zV n X M) (w : Int32) : zCs none (some (nI 1)) (f_X8_turned X w) (f_X9_turned M w) := by
  have h10 := h.e.n10
  have g := h.q (zQX.refl X) (zQM_0 M (nI 0))
  have g0 : u2 M 0 0 (nI 0) 0 0 = nI 0 := z_u2s _ _ _ _
  have l1 : f_X9_lets (u2 M 0 0 (0 : Int32)) (nI 1) (1 : Int32) (1 : Int32) = some (u2 M 0 0 (nI 0), nI 1) := z9_lets1 g0 (nI 1) (nI 1)
  have l0 : f_X9_lets (u2 M 0 0 (0 : Int32)) (nI 0) (1 : Int32) (1 : Int32) = some (u2 (u2 (u2 M 0 0 (nI 0)) 0 0 (nI 1)) 1 1 (u2 M 0 0 (nI 0) 1 1 + nI 1), nI 0) := z9_lets0 g0 (c := 1) (j := 1) (by omega) (by omega)
  have nd : f_X8_need X (1 : Int32) = some (X, .inl ()) := z8_need1 X
  have n0 : f_X8_need X (0 : Int32) = some (u2 X 0 13 (X 0 13 + nI 1), .inr 1) := z8_need0 X
  rcases z_rng 3 (by omega) w with c | ⟨c1, c2⟩ | ⟨v, hv, rfl⟩
  · have c' : w < (0 : Int32) := c
    refine zCs_il (c := 1) (by omega) g (v := nI 0) ?_ ?_
    · unfold f_X8_turned; rw [if_pos c', n0]; rfl
    · unfold f_X9_turned; rw [z9_lo c', Option.bind_some, l0, Option.bind_some, if_pos z_n00]; rfl
  · have c' : ¬ w < (0 : Int32) := c1
    have c2' : (3 : Int32) < w := c2
    refine zCs_il (c := 1) (by omega) g (v := nI 0) ?_ ?_
    · unfold f_X8_turned; rw [if_neg c', if_pos c2', n0]; rfl
    · unfold f_X9_turned; rw [z9_hi c' c2', Option.bind_some, l0, Option.bind_some, if_pos z_n00]; rfl
  · have c' : ¬ nI v < (0 : Int32) := z_nI_nn (by omega)
    have c2' : ¬ (3 : Int32) < nI v := fun hh => by
      have := (z_nI_lt (i := 3) (j := v) (by omega) (by omega)).1 hh
      omega
    obtain ⟨N, t1, t2, t3, tS, tD, tY, t4⟩ := h.take (zQM_0 M (nI 0))
    obtain ⟨Y, k1, k2, k3⟩ := z2_great (t := 1) (by omega) v 5 0 (N 20) X (by omega) hv (by omega) h.e tD
    obtain ⟨P, m1, m2, m3⟩ := z9_turns h10 h.e.kn v 5 0 (N 20) N (by omega) hv (by omega) tS rfl
    have k1' : f_X2_greatest 5 X (0 : Int32) (nI v) (1 : Int32) = _ := k1
    have m1' : f_X9_turnsBy 5 N (0 : Int32) (nI v) = _ := m1
    have p0 : P 0 0 = nI 0 := by rw [m3 0 (by decide), t3]; exact g0
    refine zCs_oy h ?_ ?_ p0 k2.y (zD_back h t4 k3) (t2.trans (zQM_20 m3)) (v := zTb M n v 0 (N 20))
    · unfold f_X8_turned; rw [if_neg c', if_neg c2', nd, Option.bind_some, zxb_l]
      show (f_X2_greatest 5 X (0 : Int32) (nI v) (1 : Int32)).bind _ = _
      rw [k1', Option.bind_some, zG_Tb M n v 0 _ (by omega), if_pos rfl]
    · unfold f_X9_turned
      rw [z9_in c' c2', Option.bind_some, l1, Option.bind_some, if_neg z_n10, t1, Option.bind_some, m1']; rfl
