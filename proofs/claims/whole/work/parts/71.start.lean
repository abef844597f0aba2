set_option maxRecDepth 20000 in
theorem cM_ga {G : GP} {n1 n2 : Nat} {ad ad2 : Nat → Nat} (h : ∀ i, i < 68 → ad i = ad2 i) (row : Nat → Int32) (rowL : Nat → Int64) : ∀ k, k < 27 → cM (GA G n1 ad) k row rowL = cM (GA G n2 ad2) k row rowL
  | 0, _ => by
    show (.inr (9, [.int (row 0), .ref (ad (41 + 1)), .int (row 2), .int (row 3), .int (row 4), .int (row 5), .int (row 6), .int (row 7), .int (row 8), .ref (ad (41 + 2)), .ref (ad (41 + 3)), .ref (ad (41 + 4)), .ref (ad (41 + 5)), .ref (ad (41 + 6)), .ref (ad (41 + 7)), .ref (ad (41 + 8)), .int (row 16), .int (row 17), .int (row 18), .int (row 19), .int (row 20), .int (row 21), .ref (ad (41 + 9)), .ref (ad (41 + 10)), .ref (ad (41 + 11)), .ref (ad (41 + 12)), .ref (ad (41 + 13)), .int (row 27), .int (row 28), .ref (ad (41 + 14)), .ref (ad (41 + 15)), .ref (ad (41 + 16)), .int (row 32), .int (row 33), .int (row 34), .int (row 35), .int (row 36), .int (row 37), .ref (ad (41 + 17)), .ref (ad (41 + 18)), .int (row 40), .ref (ad (41 + 19)), .ref (ad (41 + 20)), .ref (ad (41 + 21)), .ref (ad (41 + 22)), .ref (ad (41 + 23)), .ref (ad (41 + 24)), .ref (ad (41 + 25)), .int (row 48), .ref (ad (41 + 26)), .int (row 50)]) : va_E) = .inr (9, [.int (row 0), .ref (ad2 (41 + 1)), .int (row 2), .int (row 3), .int (row 4), .int (row 5), .int (row 6), .int (row 7), .int (row 8), .ref (ad2 (41 + 2)), .ref (ad2 (41 + 3)), .ref (ad2 (41 + 4)), .ref (ad2 (41 + 5)), .ref (ad2 (41 + 6)), .ref (ad2 (41 + 7)), .ref (ad2 (41 + 8)), .int (row 16), .int (row 17), .int (row 18), .int (row 19), .int (row 20), .int (row 21), .ref (ad2 (41 + 9)), .ref (ad2 (41 + 10)), .ref (ad2 (41 + 11)), .ref (ad2 (41 + 12)), .ref (ad2 (41 + 13)), .int (row 27), .int (row 28), .ref (ad2 (41 + 14)), .ref (ad2 (41 + 15)), .ref (ad2 (41 + 16)), .int (row 32), .int (row 33), .int (row 34), .int (row 35), .int (row 36), .int (row 37), .ref (ad2 (41 + 17)), .ref (ad2 (41 + 18)), .int (row 40), .ref (ad2 (41 + 19)), .ref (ad2 (41 + 20)), .ref (ad2 (41 + 21)), .ref (ad2 (41 + 22)), .ref (ad2 (41 + 23)), .ref (ad2 (41 + 24)), .ref (ad2 (41 + 25)), .int (row 48), .ref (ad2 (41 + 26)), .int (row 50)])
    rw [h (41 + 1) (by decide), h (41 + 2) (by decide), h (41 + 3) (by decide), h (41 + 4) (by decide), h (41 + 5) (by decide), h (41 + 6) (by decide), h (41 + 7) (by decide), h (41 + 8) (by decide), h (41 + 9) (by decide), h (41 + 10) (by decide), h (41 + 11) (by decide), h (41 + 12) (by decide), h (41 + 13) (by decide), h (41 + 14) (by decide), h (41 + 15) (by decide), h (41 + 16) (by decide), h (41 + 17) (by decide), h (41 + 18) (by decide), h (41 + 19) (by decide), h (41 + 20) (by decide), h (41 + 21) (by decide), h (41 + 22) (by decide), h (41 + 23) (by decide), h (41 + 24) (by decide), h (41 + 25) (by decide), h (41 + 26) (by decide)]
  | 1, _ => rfl
  | 2, _ => rfl
  | 3, _ => rfl
  | 4, _ => rfl
  | 5, _ => rfl
  | 6, _ => rfl
  | 7, _ => rfl
  | 8, _ => rfl
  | 9, _ => rfl
  | 10, _ => rfl
  | 11, _ => rfl
  | 12, _ => rfl
  | 13, _ => rfl
  | 14, _ => rfl
  | 15, _ => rfl
  | 16, _ => rfl
  | 17, _ => rfl
  | 18, _ => rfl
  | 19, _ => rfl
  | 20, _ => rfl
  | 21, _ => rfl
  | 22, _ => rfl
  | 23, _ => rfl
  | 24, _ => rfl
  | 25, _ => rfl
  | 26, _ => rfl
  | k + 27, hk => absurd hk (by omega)
theorem cW_ga {G : GP} {n1 n2 : Nat} {ad ad2 : Nat → Nat} (h : ∀ i, i < 68 → ad i = ad2 i) (X M : TX) (L : TL) {k : Nat} (hk : k < 68) : cW (GA G n1 ad) X M L k = cW (GA G n2 ad2) X M L k := by
  unfold cW
  by_cases c : k < 41
  · rw [if_pos c, if_pos c]
    exact cX_cong (G := GA G n1 ad) (G2 := GA G n2 ad2) rfl (fun i hi => h i (by omega)) _ k c
  · rw [if_neg c, if_neg c]
    exact cM_ga h _ _ _ (by omega)
theorem st_join {G : GP} {ad : Nat → Nat} {X M : TX} {r : Nat} : wl 68 ad (cW (GA G 68 ad) X M zL0) ++ [(r, .inl (gJ G, 1, .inr (.inl fun _ => 0)))] = wl 69 (fun i => if i < 68 then ad i else r) (cW (GA G 69 (fun i => if i < 68 then ad i else r)) X M zL0) := by
  show _ = wl (68 + 1) (fun i => if i < 68 then ad i else r) (cW (GA G 69 (fun i => if i < 68 then ad i else r)) X M zL0)
  rw [wl_app]
  refine congr (congrArg _ (wl_cong fun k hk => ⟨(if_pos hk).symm, ?_⟩)) ?_
  · exact cW_ga (fun i hi => (if_pos hi).symm) X M zL0 hk
  · rfl
set_option maxRecDepth 100000 in
set_option maxHeartbeats 4000000 in
theorem whole_start {p : Program} {e : Env} {s : State} {m : MethodId} {below : List Frame} {meth : Method} {c : Code} (l : Launch) (hflags : l.flags = flags0) {b L : Nat} {xs : Nat → Int32} (hL : L ≤ 4608) (C0 : lw_At p s m meth c b L xs) : W p l e room_1 s m #[Value.ref b] below meth c s.heap [] 0 0 (lw_Z below #[Value.ref b] s) (entryFrame m ([Value.ref b] : List Value).toArray 8) := by
  obtain ⟨hx, hb, hr, hml, hown, hts, hX, hbl, hlocks, hgv⟩ := id C0
  obtain ⟨G, hE, hB⟩ := st_env hts hgv
  obtain ⟨m1, m2, hc1, hc2, hz⟩ := z_init
  have hst : l.stackTraces = false := by
    show (!l.flags.contains noTraceFlag) = false
    rw [hflags]; decide +kernel
  have C : Ck G p s m #[Value.ref b] c cL_law_ 8 RL := ⟨⟨hx, hb, hml, hown, fun w hw => hts w (TB_tbl hw)⟩, hE⟩
  have hw : Rh G s [] s.heap [] := ⟨fun k q h => by simp at h, ⟨fun i j p q h => by simp at h, fun k q h => by simp at h⟩, va_S.rf⟩
  have hl := lv_entry ([.ref b]) (n := 8) (Nat.le_of_ble_eq_true rfl)
  rw [lg_entry_eq]
  generalize (lg_sl ([.ref b]) ++ List.replicate (8 - (lg_sl ([.ref b])).length) Slot.unset).toArray = ls at hl ⊢
  have hl : lv_has ls 8 [(0, .ref b)] := hl
  refine k_newX8 C hw (tb1 22 rfl rfl) (Nat.le_of_ble_eq_true rfl) (Nat.le_of_ble_eq_true rfl) dL_law__0 (fun q0 H hw => ?_)
  refine lv_dup C.1.1 C.1.2.1 dL_law__3 rfl ?_
  refine k_init C hw clL_106 (As := []) (rest := [.ref q0]) (c_X8_init (w0 := [])) hl.1 rfl ⟨Nat.le_of_ble_eq_true rfl, Nat.le_of_ble_eq_true rfl⟩ ⟨Nat.le_of_ble_eq_true rfl, Nat.le_of_ble_eq_true rfl⟩ rfl (Nat.le_of_ble_eq_true rfl) dL_law__4 (fun u H locs hw => ?_)
  obtain ⟨q1, q2, q3, q4, q5, q6, q7, q8, q9, q10, q11, q12, q13, q14, q15, q16, q17, q18, q19, q20, q21, q22, q23, q24, q25, q26, q27, q28, q29, q30, q31, q32, q33, q34, q35, q36, q37, q38, q39, q40⟩ := u
  obtain ⟨q, hq0, hw⟩ : ∃ q : Nat → Nat, q 0 = q0 ∧ Rh G s (wl 41 q (fun k => cX (GA G 41 q) k (zX0 k))) H locs := ⟨fun i => [q0, q1, q2, q3, q4, q5, q6, q7, q8, q9, q10, q11, q12, q13, q14, q15, q16, q17, q18, q19, q20, q21, q22, q23, q24, q25, q26, q27, q28, q29, q30, q31, q32, q33, q34, q35, q36, q37, q38, q39, q40].getD i 0, rfl, hw⟩
  refine lv_astore_n (lv' := [(1, .ref q0), (0, .ref b)]) C.1.1 C.1.2.1 dL_law__7 rfl hl (by decide) rfl (fun ls hl => ?_)
  refine k_newX9 C hw (tb6 70 rfl rfl) (Nat.le_of_ble_eq_true rfl) (Nat.le_of_ble_eq_true rfl) dL_law__8 (fun h0 H hw => ?_)
  refine lv_dup C.1.1 C.1.2.1 dL_law__11 rfl ?_
  refine k_init C hw clL_109 (As := []) (rest := [.ref h0]) (c_X9_init hc1 hc2) hl.1 rfl ⟨Nat.le_of_ble_eq_true rfl, Nat.le_of_ble_eq_true rfl⟩ ⟨Nat.le_of_ble_eq_true rfl, Nat.le_of_ble_eq_true rfl⟩ rfl (Nat.le_of_ble_eq_true rfl) dL_law__12 (fun u H locs hw => ?_)
  obtain ⟨r1, r2, r3, r4, r5, r6, r7, r8, r9, r10, r11, r12, r13, r14, r15, r16, r17, r18, r19, r20, r21, r22, r23, r24, r25, r26⟩ := u
  obtain ⟨ad, had0, had41, hw⟩ : ∃ ad : Nat → Nat, ad 0 = q0 ∧ ad 41 = h0 ∧ Rh G s (wl 68 ad (cW (GA G 68 ad) zX0 m2 zL0)) H locs := ⟨zad q [h0, r1, r2, r3, r4, r5, r6, r7, r8, r9, r10, r11, r12, r13, r14, r15, r16, r17, r18, r19, r20, r21, r22, r23, r24, r25, r26], (zad_lt (by decide)).trans hq0, rfl, hw⟩
  refine lv_astore_n (lv' := [(2, .ref h0), (1, .ref q0), (0, .ref b)]) C.1.1 C.1.2.1 dL_law__15 rfl hl (by decide) rfl (fun ls hl => ?_)
  refine lv_iconst (v := (1 : Int32)) C.1.1 C.1.2.1 dL_law__16 (by decide) ?_
  refine k_newJ C hw (N' := 1) (by decide) (by decide) (by decide) (Nat.le_of_ble_eq_true rfl) (Nat.le_of_ble_eq_true rfl) dL_law__17 (fun r H hw => ?_)
  obtain ⟨ad2, e0, e41, e68, hw⟩ : ∃ ad2 : Nat → Nat, ad2 0 = q0 ∧ ad2 (41 + 0) = h0 ∧ ad2 (41 + 27) = r ∧ Rh G s (wl 69 ad2 (cW (GA G 69 ad2) zX0 m2 zL0)) H locs := ⟨fun i => if i < 68 then ad i else r, (if_pos (by decide)).trans had0, (if_pos (by decide)).trans had41, if_neg (by decide), by rw [← st_join]; exact hw⟩
  refine lv_astore_n (lv' := [(3, .ref r), (2, .ref h0), (1, .ref q0), (0, .ref b)]) C.1.1 C.1.2.1 dL_law__19 rfl hl (by decide) rfl (fun ls hl => ?_)
  refine lv_iconst (v := (0 : Int32)) C.1.1 C.1.2.1 dL_law__20 (by decide) ?_
  refine lv_istore (lv' := [(4, .int (0 : Int32)), (3, .ref r), (2, .ref h0), (1, .ref q0), (0, .ref b)]) C.1.1 C.1.2.1 dL_law__21 hl (by decide) rfl (fun ls hl => ?_)
  have hE2 : EnvS (GA G 69 ad2) s := envS_of C.2 hw.2.1 (by decide)
  have C2 : Cx (GA G 69 ad2) p s m #[Value.ref b] c cL_law_ 8 RL := ⟨C.1, hE2⟩
  have hw2 : Wh (GA G 69 ad2) s zX0 m2 zL0 H locs := ⟨hw.1, hw.2.2⟩
  have hl2 : lv_has ls 8 [(0, .ref b), (1, .ref (ad2 0)), (2, .ref (ad2 (41 + 0))), (3, .ref (ad2 (41 + 27))), (4, .int (0 : Int32))] := by
    rw [e0, e41, e68]
    exact lv_sub hl [4, 3, 2, 1, 0] rfl
  exact wL_law_23 C2 hr hlocks hst (show 41 + 27 < 69 by decide) hX hbl (show ¬ gB G ≤ b by rw [hB]; omega) hB FU zX0 m2 zL0 0 _ _ _ _ _ (by unfold FU; omega) (by unfold FU; omega) hw2 hl2 (z_lawAll hL hz)
