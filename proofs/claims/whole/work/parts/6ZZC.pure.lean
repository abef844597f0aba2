set_option linter.unusedVariables false
theorem z_isT (x0 x1 : Int32) : (f_X8_isTime x0 x1 = some (nI 0) ∧ f_X9_isTime x0 x1 = some (nI 0)) ∨ (∃ q y, q ≤ 16 ∧ y ≤ 48 ∧ x0 = nI q ∧ x1 = nI y ∧ f_X8_isTime x0 x1 = some (nI 1) ∧ f_X9_isTime x0 x1 = some (nI 1)) := by
  have e : f_X8_isTime x0 x1 = f_X9_isTime x0 x1 := rfl
  rw [e]
  unfold f_X9_isTime
  by_cases a : x0 < (0 : Int32)
  · left; rw [if_pos a]; exact ⟨rfl, rfl⟩
  by_cases b : (16 : Int32) < x0
  · left; rw [if_neg a, if_pos b]; exact ⟨rfl, rfl⟩
  by_cases c : x1 < (1 : Int32)
  · left; rw [if_neg a, if_neg b, if_pos c]; exact ⟨rfl, rfl⟩
  by_cases d : (48 : Int32) < x1
  · left; rw [if_neg a, if_neg b, if_neg c, if_pos d]; exact ⟨rfl, rfl⟩
  right
  rcases z_rng 16 (by omega) x0 with h | ⟨_, h⟩ | ⟨q, hq, e0⟩
  · exact absurd h a
  · exact absurd h b
  rcases z_rng 48 (by omega) x1 with h | ⟨_, h⟩ | ⟨y, hy, e1⟩
  · exfalso
    apply c
    have z0 : (nI 0).toInt = 0 := by decide
    have z1 : (1 : Int32).toInt = 1 := by decide
    rw [Int32.lt_iff_toInt_lt, z0] at h
    rw [Int32.lt_iff_toInt_lt, z1]; omega
  · exact absurd h d
  · refine ⟨q, y, hq, hy, e0, e1, ?_, ?_⟩ <;> (rw [if_neg a, if_neg b, if_neg c, if_neg d]; rfl)
theorem z_time {n : Nat} {X M : TX} (h : zV n X M) (sd x2 x3 w : Int32) : zCs none (some (nI 1)) (f_X8_time X sd x2 x3 w) (f_X9_time M sd x2 x3 w) := by
  have h10 := h.e.n10
  have g := h.q (zQX.refl X) (zQM_0 M (nI 0))
  have g0 : u2 M 0 0 (nI 0) 0 0 = nI 0 := z_u2s _ _ _ _
  have l1 : f_X9_lets (u2 M 0 0 (0 : Int32)) (1 : Int32) (1 : Int32) (1 : Int32) = some (u2 M 0 0 (nI 0), nI 1) := z9_lets1 g0 (nI 1) (nI 1)
  have l0 : f_X9_lets (u2 M 0 0 (0 : Int32)) (0 : Int32) (1 : Int32) (1 : Int32) = some (u2 (u2 (u2 M 0 0 (nI 0)) 0 0 (nI 1)) 1 1 (u2 M 0 0 (nI 0) 1 1 + nI 1), nI 0) := z9_lets0 g0 (c := 1) (j := 1) (by omega) (by omega)
  have nd : f_X8_need X (1 : Int32) = some (X, .inl ()) := z8_need1 X
  have n0 : f_X8_need X (0 : Int32) = some (u2 X 0 13 (X 0 13 + nI 1), .inr 1) := z8_need0 X
  have b26 : B_X8_time_26 X sd x2 x3 w (0 : Int32) = some (u2 X 0 13 (X 0 13 + nI 1), .inr 1) := by unfold B_X8_time_26; rw [n0]; rfl
  have r29 : B_X9_time_29 (u2 M 0 0 (0 : Int32)) sd x2 x3 w (0 : Int32) = some (u2 (u2 (u2 M 0 0 (nI 0)) 0 0 (nI 1)) 1 1 (u2 M 0 0 (nI 0) 1 1 + nI 1), nI 0) := by
    unfold B_X9_time_29; rw [l0, Option.bind_some, if_pos z_n00]; rfl
  rcases z_isT x2 x3 with ⟨i1, i2⟩ | ⟨q, y, hq, hy, rfl, rfl, i1, i2⟩
  · refine zCs_il (c := 1) (by omega) g (v := nI 0) ?_ ?_
    · unfold f_X8_time; rw [i1, Option.bind_some, z8_need0, Option.bind_some, zxb_r]
    · unfold f_X9_time; rw [i2, Option.bind_some, if_pos z_n00]; exact r29
  · rcases z_rng 3 (by omega) w with c | ⟨c1, c2⟩ | ⟨v, hv, rfl⟩
    · have c' : w < (0 : Int32) := c
      refine zCs_il (c := 1) (by omega) g (v := nI 0) ?_ ?_
      · unfold f_X8_time; rw [i1, Option.bind_some, z8_need1, Option.bind_some, zxb_l, if_pos c']; exact b26
      · unfold f_X9_time; rw [i2, Option.bind_some, if_neg z_n10, z9_lo c', Option.bind_some, if_pos z_n00]; exact r29
    · have c' : ¬ w < (0 : Int32) := c1
      have c2' : (3 : Int32) < w := c2
      refine zCs_il (c := 1) (by omega) g (v := nI 0) ?_ ?_
      · unfold f_X8_time; rw [i1, Option.bind_some, z8_need1, Option.bind_some, zxb_l, if_neg c', if_pos c2']; exact b26
      · unfold f_X9_time; rw [i2, Option.bind_some, if_neg z_n10, z9_hi c' c2', Option.bind_some, if_pos z_n00]; exact r29
    · have c' : ¬ nI v < (0 : Int32) := z_nI_nn (by omega)
      have c2' : ¬ (3 : Int32) < nI v := fun hh => by
        have := (z_nI_lt (i := 3) (j := v) (by omega) (by omega)).1 hh
        omega
      obtain ⟨Y, N, r, y1, y2, y3, y5, y9, y10, y11, t1, t2, t3, t4⟩ := z_live h h.e h.d (zQM_0 M (nI 0)) hq hy sd
      have hnN : N 0 19 = nI n := (t2.2 19 (by decide) (by decide)).trans h.e.kn
      have h19 : N 19 = M 19 := t2.1 19 (by decide) (by decide) (by decide) (by decide) (by decide) (by decide) (by decide)
      have h7 : N 7 = M 7 := t2.1 7 (by decide) (by decide) (by decide) (by decide) (by decide) (by decide) (by decide)
      have n00 : N 0 0 = nI 0 := t3.trans g0
      have mg : f_X9_marginOf N (0 : Int32) = some (zMg n (N 20) (nI 0)) := z9_mg hnN h10 (side := 0) (by omega)
      rw [t4] at mg
      have ln := z9_linesNow hnN h10
      rw [h7, t4] at ln
      have hx : f_X8_time X sd (nI q) (nI y) (nI v) = if nI v = (0 : Int32) then (some (Y, .inl (Y 34 5))) else (if nI v = (1 : Int32) then (some (Y, .inl (Y 34 9))) else (if nI v = (2 : Int32) then (some (Y, .inl (Y 34 10))) else ((some (Y, .inl (Y 34 11)))))) := by
        unfold f_X8_time; rw [i1, Option.bind_some, z8_need1, Option.bind_some, zxb_l, if_neg c', if_neg c2']
        unfold B_X8_time_26
        show (f_X8_need X (1 : Int32)).bind _ = _
        rw [nd, Option.bind_some, zxb_l]
        show (f_X5_live X sd (nI q) (nI y)).bind _ = _
        rw [y1, Option.bind_some]
      have hm : f_X9_time M sd (nI q) (nI y) (nI v) = if nI v = 0 then (if inb (30 : Int32) 34 = true then (some (N, (N 20 (Int32.toNatClampNeg (30 : Int32))))) else none) else (if nI v = (1 : Int32) then ((f_X9_marginOf N (0 : Int32)).bind fun q12 => some (N, q12)) else (if nI v = (2 : Int32) then (if inb (33 : Int32) 34 = true then (if inb (33 : Int32) 34 = true then (some (N, ((N 20 (Int32.toNatClampNeg (33 : Int32))) - (N 19 (Int32.toNatClampNeg (33 : Int32)))))) else none) else none) else ((f_X9_linesNow N).bind fun q9 => some (N, q9)))) := by
        unfold f_X9_time; rw [i2, Option.bind_some, if_neg z_n10, z9_in c' c2', Option.bind_some, if_neg z_n10]
        unfold B_X9_time_29
        rw [l1, Option.bind_some, if_neg z_n10]
        show (f_X9_timeGoes (u2 M 0 0 (nI 0)) sd (nI q) (nI y)).bind _ = _
        rw [t1, Option.bind_some]
      have hv4 : v = 0 ∨ v = 1 ∨ v = 2 ∨ v = 3 := by omega
      rcases hv4 with rfl | rfl | rfl | rfl
      · refine zCs_oy h ?_ ?_ n00 y2 y3 t2 (v := r 30)
        · rw [hx, if_pos (by decide), y5]
        · rw [hm, if_pos (by decide), if_pos (by decide), t4]; rfl
      · refine zCs_oy h ?_ ?_ n00 y2 y3 t2 (v := zMg n r (nI 0))
        · rw [hx, if_neg (by decide), if_pos (by decide), y9]
        · rw [hm, if_neg (by decide), if_pos (by decide), mg]; rfl
      · refine zCs_oy h ?_ ?_ n00 y2 y3 t2 (v := r 33 - M 19 33)
        · rw [hx, if_neg (by decide), if_neg (by decide), if_pos (by decide), y10]
        · rw [hm, if_neg (by decide), if_neg (by decide), if_pos (by decide), if_pos (by decide), if_pos (by decide), t4, h19]; rfl
      · refine zCs_oy h ?_ ?_ n00 y2 y3 t2 (v := nI (zLines (M 7) r n))
        · rw [hx, if_neg (by decide), if_neg (by decide), if_neg (by decide), y11]
        · rw [hm, if_neg (by decide), if_neg (by decide), if_neg (by decide), ln]; rfl
theorem zsp73_eq (f : Nat) (X : TX) (x1 x2 x3 x4 x5 x6 x7 x8 x9 x10 : Int32) : L_X8_span_73 (f + 1) X x1 x2 x3 x4 x5 x6 x7 x8 x9 x10 = if x2 ≤ x10 then (if x5 = (0 : Int32) then (some (X, .inl x7)) else (if x5 = (1 : Int32) then (some (X, .inl x8)) else ((some (X, .inl x9))))) else ((f_X5_live X (x1 + x10) x3 x4).bind fun q8 => if (q8 34 5) = x6 then ((L_X8_span_73 f) q8 x1 x2 x3 x4 x5 x6 (if (q8 34 9) < x7 then (q8 34 9) else x7) (if x8 < (q8 34 9) then (q8 34 9) else x8) (x9 + (1 : Int32)) (x10 + (1 : Int32))) else ((L_X8_span_73 f) q8 x1 x2 x3 x4 x5 x6 (if (q8 34 9) < x7 then (q8 34 9) else x7) (if x8 < (q8 34 9) then (q8 34 9) else x8) (x9 + (0 : Int32)) (x10 + (1 : Int32)))) := rfl
theorem zsp72_eq (f : Nat) (M : TX) (x1 x2 x3 x4 x5 x6 x7 x8 x9 x10 : Int32) : L_X9_span_72 (f + 1) M x1 x2 x3 x4 x5 x6 x7 x8 x9 x10 = if x2 ≤ x10 then (if x5 = 0 then (some (M, x7)) else (if x5 = (1 : Int32) then (some (M, x8)) else (some (M, x9)))) else ((f_X9_timeGoes M (x1 + x10) x3 x4).bind fun q8 => (f_X9_marginOf q8 (0 : Int32)).bind fun q9 => if x10 = 0 then (B_X9_span_115 (L_X9_span_72 f) q8 x1 x2 x3 x4 x5 x6 x8 x9 x10 q9 q9) else (if x7 ≤ q9 then (B_X9_span_115 (L_X9_span_72 f) q8 x1 x2 x3 x4 x5 x6 x8 x9 x10 q9 x7) else (B_X9_span_115 (L_X9_span_72 f) q8 x1 x2 x3 x4 x5 x6 x8 x9 x10 q9 q9))) := rfl
theorem z_spanL {n q y : Nat} {X0 M : TX} (h : zV n X0 M) (hq : q ≤ 16) (hy : y ≤ 48) {mn : Nat} (hmn : mn ≤ 10) (sd x5 x6 : Int32) : ∀ (k i f f' : Nat) (X M1 : TX) (a b a' b' c : Int32), i + k = mn → k < f → k < f' → zE n M X → zD n (M 19) X → zQM M M1 → M1 0 0 = nI 0 → ((i = 0 ∧ a = nI 4 ∧ b = -nI 4) ∨ (0 < i ∧ a = a' ∧ b = b')) → (k = 0 → 0 < i) →
    ∃ Y N v, L_X8_span_73 f X sd (nI mn) (nI q) (nI y) x5 x6 a b c (nI i) = some (Y, .inl v) ∧ L_X9_span_72 f' M1 sd (nI mn) (nI q) (nI y) x5 x6 a' b' c (nI i) = some (N, v) ∧ zQY X Y ∧ zD n (M 19) Y ∧ zQM M N ∧ N 0 0 = nI 0
  | 0, i, f + 1, f' + 1, X, M1, a, b, a', b', c, hi, _, _, hE, hD, hQ, h0, hab, hi0 => by
    have e : nI mn ≤ nI i := (z_nI_le (by omega) (by omega)).2 (by omega)
    have hp := hi0 rfl
    rcases hab with ⟨h1, _⟩ | ⟨_, rfl, rfl⟩
    · omega
    · rw [zsp73_eq, zsp72_eq, if_pos e, if_pos e]
      by_cases c0 : x5 = (0 : Int32)
      · exact ⟨X, M1, a, by rw [if_pos c0], by rw [if_pos c0], zQY.refl X, hD, hQ, h0⟩
      · by_cases c1 : x5 = (1 : Int32)
        · exact ⟨X, M1, b, by rw [if_neg c0, if_pos c1], by rw [if_neg c0, if_pos c1], zQY.refl X, hD, hQ, h0⟩
        · exact ⟨X, M1, c, by rw [if_neg c0, if_neg c1], by rw [if_neg c0, if_neg c1], zQY.refl X, hD, hQ, h0⟩
  | k + 1, i, f + 1, f' + 1, X, M1, a, b, a', b', c, hi, hf, hf', hE, hD, hQ, h0, hab, hi0 => by
    have h10 := hE.n10
    have e : ¬ nI mn ≤ nI i := fun hh => by
      have := (z_nI_le (i := mn) (j := i) (by omega) (by omega)).1 hh
      omega
    obtain ⟨Y, N, r, y1, y2, y3, y5, y9, y10, y11, t1, t2, t3, t4⟩ := z_live h hE hD hQ hq hy (sd + nI i)
    have hnN : N 0 19 = nI n := (t2.2 19 (by decide) (by decide)).trans h.e.kn
    have mg : f_X9_marginOf N (0 : Int32) = some (zMg n (N 20) (nI 0)) := z9_mg hnN h10 (side := 0) (by omega)
    rw [t4] at mg
    have n00 : N 0 0 = nI 0 := t3.trans h0
    obtain ⟨m, hm⟩ : ∃ m, m = zMg n r (nI 0) := ⟨_, rfl⟩
    obtain ⟨z, z1, z2, ez⟩ := zMg_sm n r (nI 0)
    rw [← hm] at mg y9 ez
    have hst : nI i + (1 : Int32) = nI (i + 1) := z_nI_succ i
    have z4 : (nI 4).toInt = 4 := by decide
    have zm4 : (-nI 4 : Int32).toInt = -4 := by decide
    have mi : m.toInt = z := by rw [ez, zI_toInt (by omega) (by omega)]
    -- what is kept of the two
    have hcls : ∀ cc : Int32, ∃ Y' N' v, L_X8_span_73 f Y sd (nI mn) (nI q) (nI y) x5 x6 (if m < a then m else a) (if b < m then m else b) cc (nI (i + 1)) = some (Y', .inl v) ∧ L_X9_span_72 f' N sd (nI mn) (nI q) (nI y) x5 x6 (if i = 0 then m else if a' ≤ m then a' else m) (if i = 0 then m else if m ≤ b' then b' else m) cc (nI (i + 1)) = some (N', v) ∧ zQY Y Y' ∧ zD n (M 19) Y' ∧ zQM M N' ∧ N' 0 0 = nI 0 := fun cc => by
      refine z_spanL h hq hy hmn sd x5 x6 k (i + 1) f f' Y N _ _ _ _ cc (by omega) (by omega) (by omega) (hE.y y2) y3 t2 n00 (.inr ⟨by omega, ?_, ?_⟩) (fun _ => by omega)
      · rcases hab with ⟨h1, h2, h3⟩ | ⟨h1, h2, h3⟩
        · rw [if_pos h1, h2]
          by_cases c4 : m < nI 4
          · rw [if_pos c4]
          · rw [if_neg c4]
            rw [Int32.lt_iff_toInt_lt, z4, mi] at c4
            apply Int32.toInt_inj.1
            rw [z4, mi]; omega
        · rw [if_neg (show ¬ i = 0 by omega), h2]
          by_cases c4 : m < a'
          · rw [if_pos c4, if_neg (Int32.not_le.2 c4)]
          · rw [if_neg c4, if_pos (Int32.not_lt.1 c4)]
      · rcases hab with ⟨h1, h2, h3⟩ | ⟨h1, h2, h3⟩
        · rw [if_pos h1, h3]
          by_cases c4 : -nI 4 < m
          · rw [if_pos c4]
          · rw [if_neg c4]
            rw [Int32.lt_iff_toInt_lt, zm4, mi] at c4
            apply Int32.toInt_inj.1
            rw [zm4, mi]; omega
        · rw [if_neg (show ¬ i = 0 by omega), h3]
          by_cases c4 : b' < m
          · rw [if_pos c4, if_neg (Int32.not_le.2 c4)]
          · rw [if_neg c4, if_pos (Int32.not_lt.1 c4)]
    have i0 : (nI i = (0 : Int32)) ↔ i = 0 := z_nI_inj (j := 0) (by omega) (by omega)
    have b30 : inb (30 : Int32) 34 = true := by decide
    have t30 : N 20 (Int32.toNatClampNeg (30 : Int32)) = r 30 := by rw [t4]; rfl
    -- the reference's block, for what is counted
    have blk : ∀ cc, (if r 30 = x6 then c + (1 : Int32) else c + (0 : Int32)) = cc → (if nI i = 0 then (B_X9_span_115 (L_X9_span_72 f') N sd (nI mn) (nI q) (nI y) x5 x6 b' c (nI i) m m) else (if a' ≤ m then (B_X9_span_115 (L_X9_span_72 f') N sd (nI mn) (nI q) (nI y) x5 x6 b' c (nI i) m a') else (B_X9_span_115 (L_X9_span_72 f') N sd (nI mn) (nI q) (nI y) x5 x6 b' c (nI i) m m))) = L_X9_span_72 f' N sd (nI mn) (nI q) (nI y) x5 x6 (if i = 0 then m else if a' ≤ m then a' else m) (if i = 0 then m else if m ≤ b' then b' else m) cc (nI (i + 1)) := fun cc hcc => by
      have b129 : ∀ t, B_X9_span_129 (L_X9_span_72 f') N sd (nI mn) (nI q) (nI y) x5 x6 t c (nI i) m = L_X9_span_72 f' N sd (nI mn) (nI q) (nI y) x5 x6 t m cc (nI (i + 1)) := fun t => by
        unfold B_X9_span_129
        rw [if_pos b30, t30, hst, ← hcc]
        split <;> rfl
      have b115 : ∀ t, B_X9_span_115 (L_X9_span_72 f') N sd (nI mn) (nI q) (nI y) x5 x6 b' c (nI i) m t = L_X9_span_72 f' N sd (nI mn) (nI q) (nI y) x5 x6 t (if i = 0 then m else if m ≤ b' then b' else m) cc (nI (i + 1)) := fun t => by
        unfold B_X9_span_115
        by_cases ci : i = 0
        · rw [if_pos (i0.2 ci), if_pos ci, b129]
        · rw [if_neg (fun hh => ci (i0.1 hh)), if_neg ci]
          by_cases cb : m ≤ b'
          · rw [if_pos cb, if_pos cb, if_pos b30, t30, hst, ← hcc]
            split <;> rfl
          · rw [if_neg cb, if_neg cb, b129]
      by_cases ci : i = 0
      · rw [if_pos (i0.2 ci), b115, if_pos ci, if_pos ci]
      · rw [if_neg (fun hh => ci (i0.1 hh)), if_neg ci, if_neg ci]
        by_cases ca : a' ≤ m
        · rw [if_pos ca, if_pos ca, b115, if_neg ci]
        · rw [if_neg ca, if_neg ca, b115, if_neg ci]
    rw [zsp73_eq, zsp72_eq, if_neg e, if_neg e, y1, Option.bind_some, t1, Option.bind_some, mg, Option.bind_some, y5, y9, hst]
    by_cases cr : r 30 = x6
    · obtain ⟨Y', N', v, k1, k2, k3, k4, k5, k6⟩ := hcls (c + (1 : Int32))
      refine ⟨Y', N', v, ?_, ?_, y2.trans k3, k4, k5, k6⟩
      · rw [if_pos cr]; exact k1
      · rw [blk (c + (1 : Int32)) (by rw [if_pos cr])]; exact k2
    · obtain ⟨Y', N', v, k1, k2, k3, k4, k5, k6⟩ := hcls (c + (0 : Int32))
      refine ⟨Y', N', v, ?_, ?_, y2.trans k3, k4, k5, k6⟩
      · rw [if_neg cr]; exact k1
      · rw [blk (c + (0 : Int32)) (by rw [if_neg cr])]; exact k2
theorem z8_sp26_0 (X : TX) (x1 x2 x3 x4 x5 x6 : Int32) : B_X8_span_26 X x1 x2 x3 x4 x5 x6 (0 : Int32) = some (u2 X 0 13 (X 0 13 + nI 1), .inr 1) := by
  have e : f_X8_need X (0 : Int32) = some (u2 X 0 13 (X 0 13 + nI 1), .inr 1) := z8_need0 X
  unfold B_X8_span_26
  rw [e]; rfl
theorem z_span {n : Nat} {X M : TX} (h : zV n X M) (x1 x2 x3 x4 x5 x6 : Int32) : zCs none (some (nI 1)) (f_X8_span X x1 x2 x3 x4 x5 x6) (f_X9_span M x1 x2 x3 x4 x5 x6) := by
  have h10 := h.e.n10
  have g := h.q (zQX.refl X) (zQM_0 M (nI 0))
  have g0 : u2 M 0 0 (nI 0) 0 0 = nI 0 := z_u2s _ _ _ _
  have l1 : f_X9_lets (u2 M 0 0 (0 : Int32)) (1 : Int32) (1 : Int32) (1 : Int32) = some (u2 M 0 0 (nI 0), nI 1) := z9_lets1 g0 (nI 1) (nI 1)
  have l0 : f_X9_lets (u2 M 0 0 (0 : Int32)) (0 : Int32) (1 : Int32) (1 : Int32) = some (u2 (u2 (u2 M 0 0 (nI 0)) 0 0 (nI 1)) 1 1 (u2 M 0 0 (nI 0) 1 1 + nI 1), nI 0) := z9_lets0 g0 (c := 1) (j := 1) (by omega) (by omega)
  have nd : f_X8_need X (1 : Int32) = some (X, .inl ()) := z8_need1 X
  have n0 : f_X8_need X (0 : Int32) = some (u2 X 0 13 (X 0 13 + nI 1), .inr 1) := z8_need0 X
  by_cases a2 : x2 < (1 : Int32)
  · refine zCs_il (c := 1) (by omega) g (v := nI 0) ?_ ?_
    · unfold f_X8_span; rw [if_pos a2, z8_sp26_0]
    · unfold f_X9_span; rw [z9_lo a2, Option.bind_some, if_pos z_n00, l0, Option.bind_some, if_pos z_n00]; rfl
  by_cases b2 : (10 : Int32) < x2
  · refine zCs_il (c := 1) (by omega) g (v := nI 0) ?_ ?_
    · unfold f_X8_span; rw [if_neg a2, if_pos b2, z8_sp26_0]
    · unfold f_X9_span; rw [z9_hi a2 b2, Option.bind_some, if_pos z_n00, l0, Option.bind_some, if_pos z_n00]; rfl
  rcases z_isT x3 x4 with ⟨i1, i2⟩ | ⟨q, y, hq, hy, rfl, rfl, i1, i2⟩
  · refine zCs_il (c := 1) (by omega) g (v := nI 0) ?_ ?_
    · unfold f_X8_span; rw [if_neg a2, if_neg b2, i1, Option.bind_some, if_pos z_n00, z8_sp26_0]
    · unfold f_X9_span; rw [z9_in a2 b2, Option.bind_some, if_neg z_n10, i2, Option.bind_some, if_pos z_n00, l0, Option.bind_some, if_pos z_n00]; rfl
  have hx : f_X8_span X x1 x2 (nI q) (nI y) x5 x6 = (if x5 < 0 then some (u2 X 0 13 (X 0 13 + nI 1), .inr 1) else if (2 : Int32) < x5 then some (u2 X 0 13 (X 0 13 + nI 1), .inr 1) else if x6 < 0 then some (u2 X 0 13 (X 0 13 + nI 1), .inr 1) else if (2 : Int32) ≤ x6 then some (u2 X 0 13 (X 0 13 + nI 1), .inr 1) else L_X8_span_73 FU X x1 x2 (nI q) (nI y) x5 x6 (4 : Int32) (-4 : Int32) (0 : Int32) (0 : Int32)) := by
    unfold f_X8_span; rw [if_neg a2, if_neg b2, i1, Option.bind_some, if_neg z_n10]
    unfold B_X8_span_26
    rw [nd, Option.bind_some, zxb_l]
    by_cases c1 : x5 < 0
    · rw [if_pos c1, if_pos c1]
      show (f_X8_need X (0 : Int32)).bind _ = _
      rw [n0]; rfl
    · rw [if_neg c1, if_neg c1]
      by_cases c2 : (2 : Int32) < x5
      · rw [if_pos c2, if_pos c2]
        show (f_X8_need X (0 : Int32)).bind _ = _
        rw [n0]; rfl
      · rw [if_neg c2, if_neg c2]
        by_cases c3 : x6 < 0
        · rw [if_pos c3, if_pos c3]
          show (f_X8_need X (0 : Int32)).bind _ = _
          rw [n0]; rfl
        · rw [if_neg c3, if_neg c3]
          by_cases c4 : (2 : Int32) ≤ x6
          · rw [if_pos c4, if_pos c4]
            show (f_X8_need X (0 : Int32)).bind _ = _
            rw [n0]; rfl
          · rw [if_neg c4, if_neg c4]
            show (f_X8_need X (1 : Int32)).bind _ = _
            rw [nd]; rfl
  by_cases a5 : x5 < (0 : Int32)
  · refine zCs_il (c := 1) (by omega) g (v := nI 0) ?_ ?_
    · rw [hx, if_pos a5]
    · unfold f_X9_span; rw [z9_in a2 b2, Option.bind_some, if_neg z_n10, i2, Option.bind_some, if_neg z_n10, z9_lo a5, Option.bind_some, if_pos z_n00, l0, Option.bind_some, if_pos z_n00]; rfl
  by_cases b5 : (2 : Int32) < x5
  · refine zCs_il (c := 1) (by omega) g (v := nI 0) ?_ ?_
    · rw [hx, if_neg a5, if_pos b5]
    · unfold f_X9_span; rw [z9_in a2 b2, Option.bind_some, if_neg z_n10, i2, Option.bind_some, if_neg z_n10, z9_hi a5 b5, Option.bind_some, if_pos z_n00, l0, Option.bind_some, if_pos z_n00]; rfl
  by_cases a6 : x6 < (0 : Int32)
  · refine zCs_il (c := 1) (by omega) g (v := nI 0) ?_ ?_
    · rw [hx, if_neg a5, if_neg b5, if_pos a6]
    · unfold f_X9_span; rw [z9_in a2 b2, Option.bind_some, if_neg z_n10, i2, Option.bind_some, if_neg z_n10, z9_in a5 b5, Option.bind_some, if_neg z_n10, z9_lo a6, Option.bind_some, if_pos z_n00, l0, Option.bind_some, if_pos z_n00]; rfl
  by_cases b6 : (1 : Int32) < x6
  · have b6' : (2 : Int32) ≤ x6 := by
      have e1 : (1 : Int32).toInt = 1 := by decide
      have e2 : (2 : Int32).toInt = 2 := by decide
      rw [Int32.lt_iff_toInt_lt, e1] at b6; rw [Int32.le_iff_toInt_le, e2]; omega
    refine zCs_il (c := 1) (by omega) g (v := nI 0) ?_ ?_
    · rw [hx, if_neg a5, if_neg b5, if_neg a6, if_pos b6']
    · unfold f_X9_span; rw [z9_in a2 b2, Option.bind_some, if_neg z_n10, i2, Option.bind_some, if_neg z_n10, z9_in a5 b5, Option.bind_some, if_neg z_n10, z9_hi a6 b6, Option.bind_some, if_pos z_n00, l0, Option.bind_some, if_pos z_n00]; rfl
  have b6' : ¬ (2 : Int32) ≤ x6 := by
    have e1 : (1 : Int32).toInt = 1 := by decide
    have e2 : (2 : Int32).toInt = 2 := by decide
    rw [Int32.lt_iff_toInt_lt, e1] at b6; rw [Int32.le_iff_toInt_le, e2]; omega
  obtain ⟨m, hm, hm1, rfl⟩ : ∃ m, m ≤ 10 ∧ 0 < m ∧ x2 = nI m := by
    have e1 : (1 : Int32).toInt = 1 := by decide
    rcases z_rng 10 (by omega) x2 with c | ⟨_, c⟩ | ⟨m, hm, em⟩
    · exfalso
      have z0 : (nI 0).toInt = 0 := by decide
      rw [Int32.lt_iff_toInt_lt, z0] at c
      rw [Int32.lt_iff_toInt_lt, e1] at a2; omega
    · exact absurd c b2
    · refine ⟨m, hm, ?_, em⟩
      rw [em, Int32.lt_iff_toInt_lt, e1, z_nI_toInt (by omega)] at a2
      omega
  obtain ⟨Y, N, v, k1, k2, k3, k4, k5, k6⟩ := z_spanL h hq hy hm x1 x5 x6 m 0 FU FU X (u2 M 0 0 (nI 0)) (nI 4) (-nI 4) (nI 0) (nI 0) (nI 0) (by omega) (by unfold FU; omega) (by unfold FU; omega) h.e h.d (zQM_0 M (nI 0)) g0 (.inl ⟨rfl, rfl, rfl⟩) (fun e => absurd e (by omega))
  refine zCs_oy h ?_ ?_ k6 k3 k4 k5 (v := v)
  · rw [hx, if_neg a5, if_neg b5, if_neg a6, if_neg b6']; exact k1
  · unfold f_X9_span; rw [z9_in a2 b2, Option.bind_some, if_neg z_n10, i2, Option.bind_some, if_neg z_n10, z9_in a5 b5, Option.bind_some, if_neg z_n10, z9_in a6 b6, Option.bind_some, if_neg z_n10, l1, Option.bind_some, if_neg z_n10]
    exact k2
