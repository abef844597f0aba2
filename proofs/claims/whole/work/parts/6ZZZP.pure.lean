set_option linter.unusedVariables false
theorem z9_more {s : Nat} {T : Nat → Nat} {p q : Nat} {M : TX} (h : zJm s T p M) (hq : zA T s p = q) : f_X9_isMore M = if s ≤ q then some (u2 M 0 4 (nI q), nI 0) else some (u2 M 0 4 (nI q), nI 1) := by
  obtain ⟨a1, a2, a3⟩ := zA_spec (T := T) h.ps
  rw [hq] at a1 a2 a3
  have h1 := h.to a2
  have hs := h.s6
  unfold f_X9_isMore
  rw [z9_here h, hq, Option.bind_some]
  show (if (u2 M 0 4 (nI q)) 0 3 ≤ (u2 M 0 4 (nI q)) 0 4 then some (u2 M 0 4 (nI q), nI 0) else some (u2 M 0 4 (nI q), nI 1)) = _
  rw [h1.ms, h1.mp]
  by_cases c : s ≤ q
  · rw [if_pos (by rw [z_nI_le (by omega) (by omega)]; exact c), if_pos c]
  · rw [if_neg (by rw [z_nI_le (by omega) (by omega)]; exact c), if_neg c]
theorem z1_hasB {X : TX} {d : Nat} (hd : d < 32) : f_X1_hasLine X (nI d) = some (zbI (bt (X 29 1) d)) := by
  unfold f_X1_hasLine
  rw [z_has _ hd, Option.bind_some]
  cases bt (X 29 1) d <;> rfl
/-- a good line goes into the book -/
theorem zBd.put {k v w : Nat} {X M : TX} (h : zBd k X M) (hv : v < 4) (hw : w ≤ 2) (hb : bt (X 29 1) v = false) {Y N : TX} (y29 : Y 29 1 = X 29 1 ||| zb v) (y30 : Y 30 = upd (X 30) v (if w = 2 then -nI 1 else nI w)) (n17 : N 17 = upd (M 17) v (nI w)) : zBd (k + 1) Y N := by
  refine ⟨fun d hd => ?_, fun q hq => ?_, ?_⟩
  · rw [y29, y30, n17, bt_or, bt_zb (by omega)]
    by_cases c : d = v
    · subst c
      rw [z_updS, z_updS]
      exact .inl ⟨by simp, w, hw, rfl, rfl⟩
    · rw [z_updJ _ _ c, z_updJ _ _ c, decide_eq_false (show ¬ v = d from fun x => c x.symm), Bool.or_false]
      exact h.1 d hd
  · rw [y29, bt_or, bt_zb (by omega)] at hq
    rcases Bool.or_eq_true _ _ ▸ hq with c | c
    · exact h.2.1 q c
    · have := of_decide_eq_true c; omega
  · rw [y29, zCnt_or (by omega) hb, if_pos (by omega), h.2.2]
theorem z_bookL {s : Nat} {T : Nat → Nat} : ∀ (j k p fX fM : Nat) (X M : TX), 4 ≤ k + j → j < fX → j < fM → zBi s T p k X M → zBo s X M (L_X1_read_7 fX X (nI k)) (L_X9_book_66 fM M (nI k)) := by
  intro j
  induction j with
  | zero => ?_
  | succ j ih => ?_
  all_goals
    intro k p fX fM X M hj hfX hfM h
    obtain ⟨g, rfl⟩ : ∃ g, fX = g + 1 := ⟨fX - 1, by omega⟩
    obtain ⟨g', rfl⟩ : ∃ g, fM = g + 1 := ⟨fM - 1, by omega⟩
    have k4 := h.bd.k4
    have hs := h.jx.s6
    have n1 : ¬ nI 1 = nI 0 := by decide
    obtain ⟨a1, a2, a3⟩ := zA_spec (T := T) h.jx.ps
    obtain ⟨q, hq⟩ : ∃ q, zA T s p = q := ⟨_, rfl⟩
    rw [hq] at a1 a2 a3
    obtain ⟨X1, hX1⟩ : ∃ Z, Z = u2 X 1 3 (nI q) := ⟨_, rfl⟩
    obtain ⟨M1, hM1⟩ : ∃ Z, Z = u2 M 0 4 (nI q) := ⟨_, rfl⟩
    have fx : zTX X X1 := by rw [hX1]; exact zTX_u (.inl rfl) _
    have fm : zTM M M1 := by rw [hM1]; exact zTM_u _ _
    have h1 : zBi s T q k X1 M1 := h.mv (by rw [hX1]; exact h.jx.to a2) (by rw [hM1]; exact h.jm.to a2) fx fm
    have e3 : nI 3 = zBe 4 := by unfold zBe; rw [zBe_u (b := 3)]
    have e2 : nI 2 = zBe 3 := by unfold zBe; rw [zBe_u (b := 2)]
    have eX : L_X1_read_7 (g + 1) X (nI k) = if nI 4 < nI k then some (X, nI 1) else ((f_X7_ahead X).bind fun q2 => if q2.2 = -nI 1 then (some (q2.1, nI 1)) else (zAnd (f_X1_readLine q2.1) fun A => zAnd (f_X7_sign A (nI 59)) fun B => L_X1_read_7 g B (nI k + nI 1))) := rfl
    have eM : L_X9_book_66 (g' + 1) M (nI k) = (f_X9_fine M).bind fun q6 => if q6 = nI 0 then zBfin M (nI k) else ((f_X9_isMore M).bind fun q11 => if q11.2 = nI 0 then zBfin q11.1 (nI k) else ((f_X9_readNumber q11.1 (nI 0) (nI 3)).bind fun q16 => (f_X9_fine q16.1).bind fun q17 => if q17 = nI 0 then (B_X9_book_117 (L_X9_book_66 g') q16.1 (nI k) q16.2) else (if inb q16.2 4 = true then (if (q16.1 17 (Int32.toNatClampNeg q16.2)) = -nI 1 then (B_X9_book_117 (L_X9_book_66 g') q16.1 (nI k) q16.2) else ((f_X9_wrong q16.1 (nI 2) (q11.1 0 4)).bind fun q29 => B_X9_book_117 (L_X9_book_66 g') q29 (nI k) q16.2)) else none))) := rfl
    have nk : ¬ nI 4 < nI k := by rw [z_nI_lt (by omega) (by omega)]; omega
    rw [eX, eM, if_neg nk, z7_ahead h.jx, hq, Option.bind_some, ← hX1, z9_fine1 h.f5, Option.bind_some, if_neg n1, z9_more h.jm hq, ← hM1]
    show zBo s X M (if zC T s q = -nI 1 then some (X1, nI 1) else (zAnd (f_X1_readLine X1) fun A => zAnd (f_X7_sign A (nI 59)) fun B => L_X1_read_7 g B (nI k + nI 1))) _
    by_cases c : s ≤ q
    · rw [if_pos (by unfold zC; rw [if_neg (by omega)]), if_pos c, Option.bind_some, if_pos rfl]
      exact .inl ⟨k, X1, M1, rfl, rfl, h1.f5, h1.f7, h1.bd, fx.bx, fm.bm⟩
    · have tq := h.jx.t q (by omega)
      rw [if_neg (by unfold zC; rw [if_pos (by omega)]; exact z_ne1 (by omega)), if_neg c, Option.bind_some]
      refine zBo.pre ?_ fx.bx fm.bm
      show zBo s X1 M1 _ (if nI 1 = nI 0 then zBfin M1 (nI k) else ((f_X9_readNumber M1 (nI 0) (nI 3)).bind fun q16 => (f_X9_fine q16.1).bind fun q17 => if q17 = nI 0 then (B_X9_book_117 (L_X9_book_66 g') q16.1 (nI k) q16.2) else (if inb q16.2 4 = true then (if (q16.1 17 (Int32.toNatClampNeg q16.2)) = -nI 1 then (B_X9_book_117 (L_X9_book_66 g') q16.1 (nI k) q16.2) else ((f_X9_wrong q16.1 (nI 2) (M1 0 4)).bind fun q29 => B_X9_book_117 (L_X9_book_66 g') q29 (nI k) q16.2)) else none)))
      rw [if_neg n1, h1.jm.mp]
      have eL : ∀ Z, f_X1_readLine Z = zAnd (f_X7_number Z (nI 3)) fun A => (f_X1_hasLine A (A 1 5)).bind fun q3 => if q3 = nI 0 then (zAnd (f_X7_number A (nI 2)) fun B => if B 1 5 = nI 2 then ((f_X8_put 30 B (A 1 5) (-nI 1)).bind fun q9 => some (u2 q9 29 1 ((q9 29 1) ||| (nI 1 <<< ((A 1 5) &&& nI 31))), nI 1)) else ((f_X8_put 30 B (A 1 5) (B 1 5)).bind fun q8 => some (u2 q8 29 1 ((q8 29 1) ||| (nI 1 <<< ((A 1 5) &&& nI 31))), nI 1))) else zWrp (f_X7_fail A (nI 2) (A 1 4)) := fun _ => rfl
      have zn := z_num h1.jx h1.jm h1.f5 (b := 4) (by omega)
      rw [a3] at zn
      rw [eL, e3]
      rcases zn with ⟨e, v, Y, N, k1, k2, k3, g1, k5, k6, k7, k8, k9, k10⟩ | ⟨Y, N, kd, k1, k2, k3, g1, k5⟩
      · have h2 := h1.mv k7 k8 k9 k10
        have iv : inb (nI v) 4 = true := by rw [z_inb (by omega)]; simp; omega
        rw [zAnd_1 k1, k5, z1_hasB (by omega), Option.bind_some, k2, Option.bind_some]
        show zBo s X1 M1 _ ((f_X9_fine N).bind fun q17 => if q17 = nI 0 then (B_X9_book_117 (L_X9_book_66 g') N (nI k) (nI v)) else (if inb (nI v) 4 = true then (if (N 17 (Int32.toNatClampNeg (nI v))) = -nI 1 then (B_X9_book_117 (L_X9_book_66 g') N (nI k) (nI v)) else ((f_X9_wrong N (nI 2) (nI q)).bind fun q29 => B_X9_book_117 (L_X9_book_66 g') q29 (nI k) (nI v))) else none))
        rw [z9_fine1 h2.f5, Option.bind_some, if_neg n1, if_pos iv, z_nI_tn (by omega)]
        rcases h2.bd.1 v k3 with ⟨b1, w, b2, b3, b4⟩ | ⟨b1, b2⟩
        · obtain ⟨Z, z1, z2⟩ := z7_fail (X := Y) (kd := 2) (pl := q)
          obtain ⟨P, p1, p2⟩ := z9_wrong (kd := 2) (pl := q) h2.jm h2.f5 a2
          rw [b1, show zbI true = nI 1 from rfl, if_neg n1, k6, zAnd_0 (zWrp_0 z1), b3, if_neg (z_ne1 (by omega)), p1, Option.bind_some, zB117_S p2.2.2.1 (by omega)]
          exact (zBo_bad rfl rfl (by omega) z2 p2).pre k9.bx k10.bm
        · rw [b1, show zbI false = nI 0 from rfl, if_pos rfl, b2, if_pos rfl, e2]
          have zn2 := z_num h2.jx h2.jm h2.f5 (b := 3) (by omega)
          have eB : B_X9_book_117 (L_X9_book_66 g') N (nI k) (nI v) = (f_X9_readNumber N (nI 0) (zBe 3)).bind fun q19 => (f_X9_sign q19.1 (nI 59)).bind fun q20 => (f_X9_fine q20).bind fun q21 => if q21 = nI 0 then zBfin q20 (nI k) else (if inb (nI v) 4 = true then (L_X9_book_66 g' (u2 q20 17 (Int32.toNatClampNeg (nI v)) q19.2) (nI k + nI 1)) else none) := by rw [← e2]; rfl
          rw [eB]
          rcases zn2 with ⟨e', w, Y2, N2, m1, m2, m3, m4, m5, m6, m7, m8, m9, m10⟩ | ⟨Y2, N2, kd, m1, m2, m3, m4, m5⟩
          · have h3 := h2.mv m7 m8 m9 m10
            obtain ⟨Y3, hY3⟩ : ∃ Z, Z = u2 (u2 Y2 30 v (if w = 2 then -nI 1 else nI w)) 29 1 (Y2 29 1 ||| zb v) := ⟨_, rfl⟩
            have y3k : ∀ k, k ≠ 29 → k ≠ 30 → Y3 k = Y2 k := fun k a b => by rw [hY3, z_u2k _ _ _ _ a, z_u2k _ _ _ _ b]
            have j3 : zJx s T e' Y3 := m7.fr (y3k 2 (by decide) (by decide)) (by rw [y3k 1 (by decide) (by decide)]) (by rw [y3k 1 (by decide) (by decide)]; exact m7.xp) m7.ps
            have b3 : zBX Y2 Y3 := ⟨fun k _ a b => y3k k a b, by rw [y3k 1 (by decide) (by decide)]⟩
            have put : ∀ x, f_X8_put 30 Y2 (nI v) x = some (u2 Y2 30 v x) := fun x => z_put (by show v < 4; omega) (by decide)
            have lin : (zAnd (f_X7_number Y (zBe 3)) fun B => if B 1 5 = zBe 3 then ((f_X8_put 30 B (nI v) (-nI 1)).bind fun q9 => some (u2 q9 29 1 ((q9 29 1) ||| (nI 1 <<< ((nI v) &&& nI 31))), nI 1)) else ((f_X8_put 30 B (nI v) (B 1 5)).bind fun q8 => some (u2 q8 29 1 ((q8 29 1) ||| (nI 1 <<< ((nI v) &&& nI 31))), nI 1))) = some (Y3, nI 1) := by
              rw [zAnd_1 m1, m5, put, put, Option.bind_some, Option.bind_some, z_zb, z_u2k _ _ _ _ (by decide), z_u2k _ _ _ _ (by decide), ← e2, hY3]
              by_cases c2 : w = 2
              · rw [if_pos (by rw [c2]), if_pos c2]
              · rw [if_neg (by rw [z_nI_inj (by omega) (by omega)]; exact c2), if_neg c2]
            rw [zAnd_1 lin, m2, Option.bind_some]
            show zBo s X1 M1 _ ((f_X9_sign N2 (nI 59)).bind fun q20 => (f_X9_fine q20).bind fun q21 => if q21 = nI 0 then zBfin q20 (nI k) else (if inb (nI v) 4 = true then (L_X9_book_66 g' (u2 q20 17 (Int32.toNatClampNeg (nI v)) (nI w)) (nI k + nI 1)) else none))
            rcases z_sgn j3 h3.jm h3.f5 (v := 59) (by omega) (by omega) with ⟨V, Q, l1, l2, l3, l4, l5, l6⟩ | ⟨V, Q, kd, l1, l2, l3, l4, l5⟩
            · have q5 : Q 0 5 = -nI 1 := by rw [l6.2 5 (by decide)]; exact h3.f5
              have hb : zBd (k + 1) V (u2 Q 17 v (nI w)) := by
                refine h3.bd.put (w := w) k3 (by omega) (by rw [m9.1 29 (by decide)]; exact b1) ?_ ?_ ?_
                · rw [l5.1 29 (by decide), hY3, z_u2s]
                · rw [l5.1 30 (by decide), hY3, z_u2k _ _ _ _ (by decide), z_u2r]
                · rw [z_u2r, l6.1 17 (by decide)]
              have h5 : zBi s T (zA T s e' + 1) (k + 1) V (u2 Q 17 v (nI w)) := zBi.mk l3 (l4.fr (z_u2k _ _ _ _ (by decide)) (by rw [z_u2k _ _ _ _ (by decide)]) (by rw [z_u2k _ _ _ _ (by decide)]; exact l4.mp) l4.ps) (by rw [z_u2k _ _ _ _ (by decide)]; exact q5) (by rw [l5.2 7 (by decide) (by decide) (by decide), y3k 1 (by decide) (by decide)]; exact h3.f7) hb
              have k5' := hb.k4
              rw [zAnd_1 l1, l2, Option.bind_some, z9_fine1 q5, Option.bind_some, if_neg n1, if_pos iv, z_nI_tn (by omega), z_nI_add]
              first
              | (exfalso; omega)
              | exact (ih (k + 1) _ g g' V (u2 Q 17 v (nI w)) (by omega) (by omega) (by omega) h5).pre (((k9.bx.trans m9.bx).trans b3).trans l5.bx) (((k10.bm.trans m10.bm).trans l6.bm).trans ⟨fun k _ b => z_u2k _ _ _ _ b, fun j _ _ _ => by rw [z_u2k _ _ _ _ (by decide)]⟩)
            · have hpl := l5.2.2.2.2.1
              rw [zAnd_0 l1, l2, Option.bind_some, z9_fine0 l5.2.2.1 (by omega), Option.bind_some, if_pos rfl]
              exact (zBo_bad rfl rfl l3 l4 l5).pre ((k9.bx.trans m9.bx).trans b3) (k10.bm.trans m10.bm)
          · have hpl := m5.2.2.2.2.1
            rw [zAnd_0 (zAnd_0 m1), m2, Option.bind_some]
            show zBo s X1 M1 _ ((f_X9_sign N2 (nI 59)).bind fun q20 => (f_X9_fine q20).bind fun q21 => if q21 = nI 0 then zBfin q20 (nI k) else _)
            rw [z9_sgnS m5.2.2.1 (by omega), Option.bind_some, z9_fine0 m5.2.2.1 (by omega), Option.bind_some, if_pos rfl]
            exact (zBo_bad rfl rfl m3 m4 m5).pre k9.bx k10.bm
      · have hpl := k5.2.2.2.2.1
        rw [zAnd_0 (zAnd_0 k1), k2, Option.bind_some]
        show zBo s X1 M1 _ ((f_X9_fine N).bind fun q17 => if q17 = nI 0 then (B_X9_book_117 (L_X9_book_66 g') N (nI k) (nI 0)) else _)
        rw [z9_fine0 k5.2.2.1 (by omega), Option.bind_some, if_pos rfl, zB117_S k5.2.2.1 (by omega)]
        exact zBo_bad rfl rfl k3 g1 k5
