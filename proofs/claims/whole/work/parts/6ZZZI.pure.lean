set_option linter.unusedVariables false
theorem zSX_eq {s : Nat} {T : Nat → Nat} (rec : TX → Int32 → Option (TX × Int32)) (x2 : Int32) (g p i : Nat) (X : TX) (h : zJx s T p X) (hi : i < 150) :
    L_X4_readSum_13 rec (g + 1) X x2 (nI i) = if zA T s p < s ∧ zOpS (T (zA T s p)) ≠ 0 then ((f_X4_readProduct rec (u2 X 1 3 (nI (zA T s p + 1))) x2).bind fun q8 => if q8.2 = nI 0 then some (q8.1, nI 0) else ((f_X4_add q8.1 (zOp (zOpS (T (zA T s p))))).bind fun q => L_X4_readSum_13 rec g q.1 x2 (nI (i + 1)))) else some (u2 X 1 3 (nI (zA T s p)), nI 1) := by
  have n15 : ¬ nI 150 ≤ nI i := by rw [z_nI_le (by omega) (by omega)]; omega
  have n1 : ¬ nI 1 = nI 0 := by decide
  have e : L_X4_readSum_13 rec (g + 1) X x2 (nI i) = if nI 150 ≤ nI i then (some (X, nI 1)) else ((f_X7_ahead X).bind fun q4 => if q4.2 = nI 43 then (B_X4_readSum_42 rec (L_X4_readSum_13 rec g) q4.1 x2 (nI i) q4.2) else (if q4.2 = nI 45 then (B_X4_readSum_42 rec (L_X4_readSum_13 rec g) q4.1 x2 (nI i) q4.2) else (some (q4.1, nI 1)))) := rfl
  obtain ⟨q, hq⟩ : ∃ q, zA T s p = q := ⟨_, rfl⟩
  rw [e, if_neg n15, z7_ahead h, Option.bind_some, hq]
  show (if zC T s q = nI 43 then (B_X4_readSum_42 rec (L_X4_readSum_13 rec g) (u2 X 1 3 (nI q)) x2 (nI i) (zC T s q)) else (if zC T s q = nI 45 then (B_X4_readSum_42 rec (L_X4_readSum_13 rec g) (u2 X 1 3 (nI q)) x2 (nI i) (zC T s q)) else (some ((u2 X 1 3 (nI q)), nI 1)))) = _
  have k43 := (z_ch (q := q) (v := 43) h.t (by omega) (by omega)).1
  have k45 := (z_ch (q := q) (v := 45) h.t (by omega) (by omega)).1
  by_cases c : q < s ∧ zOpS (T q) ≠ 0
  · have sg := z7_sgnOk h hq c.1
    have B : ∀ v o, T q = v → zOpS v = o → (v = 43 ∨ v = 45) → B_X4_readSum_42 rec (L_X4_readSum_13 rec g) (u2 X 1 3 (nI q)) x2 (nI i) (zC T s q) = ((f_X4_readProduct rec (u2 X 1 3 (nI (q + 1))) x2).bind fun q8 => if q8.2 = nI 0 then some (q8.1, nI 0) else ((f_X4_add q8.1 (zOp o)).bind fun q => L_X4_readSum_13 rec g q.1 x2 (nI (i + 1)))) := by
      intro v o hv ho h3
      have cv : zC T s q = nI v := by unfold zC; rw [if_pos c.1, hv]
      rw [hv] at sg
      unfold B_X4_readSum_42
      rw [cv, sg, Option.bind_some]
      show (if nI 1 = nI 0 then _ else _) = _
      rw [if_neg n1]
      subst ho
      rw [show nI i + (1 : Int32) = nI (i + 1) from z_nI_succ i]
      rcases h3 with rfl | rfl
      · rfl
      · rfl
    rw [if_pos c]
    by_cases c1 : T q = 43
    · rw [if_pos (k43.2 ⟨c.1, c1⟩)]
      exact B _ _ rfl rfl (by omega)
    · rw [if_neg (fun x => c1 (k43.1 x).2)]
      have c3 : T q = 45 := by
        have := c.2; unfold zOpS at this
        rw [if_neg c1] at this
        by_cases d : T q = 45
        · exact d
        · rw [if_neg d] at this; exact absurd rfl this
      rw [if_pos (k45.2 ⟨c.1, c3⟩)]
      exact B _ _ rfl rfl (by omega)
  · rw [if_neg c, if_neg (fun x => c ⟨(k43.1 x).1, by rw [(k43.1 x).2]; decide⟩), if_neg (fun x => c ⟨(k45.1 x).1, by rw [(k45.1 x).2]; decide⟩)]
theorem zSM_eq {s : Nat} {T : Nat → Nat} (rec : TX → Option TX) (g p : Nat) (M : TX) (h : zJm s T p M) (hf : M 0 5 = -nI 1) :
    L_X9_readSum_4 rec (g + 1) M = if zA T s p < s ∧ zOpS (T (zA T s p)) ≠ 0 then ((f_X9_readProduct rec (u2 M 0 4 (nI (zA T s p + 1)))).bind fun q => (f_X9_emit q (nI (zOpS (T (zA T s p)))) (nI 0)).bind fun q' => L_X9_readSum_4 rec g q') else some (u2 M 0 4 (nI (zA T s p))) := by
  have n1 : ¬ nI 1 = nI 0 := by decide
  have e : L_X9_readSum_4 rec (g + 1) M = (f_X9_fine M).bind fun q2 => if q2 = nI 0 then (some M) else ((f_X9_here M).bind fun q4 => if q4.2 = nI 43 then (B_X9_readSum_29 rec (L_X9_readSum_4 rec g) q4.1) else ((f_X9_here q4.1).bind fun q12 => if q12.2 = nI 45 then (B_X9_readSum_29 rec (L_X9_readSum_4 rec g) q12.1) else (some q12.1))) := rfl
  obtain ⟨q, hq⟩ : ∃ q, zA T s p = q := ⟨_, rfl⟩
  have hh := zH_here h hq
  have eB : B_X9_readSum_29 rec (L_X9_readSum_4 rec g) (u2 M 0 4 (nI q)) = if zH T s q = nI 43 then ((f_X9_readProduct rec (u2 M 0 4 (nI (q + 1)))).bind fun q14 => (f_X9_emit q14 (nI 2) (nI 0)).bind fun q15 => L_X9_readSum_4 rec g q15) else ((f_X9_readProduct rec (u2 M 0 4 (nI (q + 1)))).bind fun q10 => (f_X9_emit q10 (nI 3) (nI 0)).bind fun q11 => L_X9_readSum_4 rec g q11) := by
    have ad : u2 (u2 M 0 4 (nI q)) 0 4 ((u2 M 0 4 (nI q)) 0 4 + nI 1) = u2 M 0 4 (nI (q + 1)) := by rw [z_u2s, z_nI_add, z_u2u]
    unfold B_X9_readSum_29
    rw [hh, Option.bind_some]
    show (if zH T s q = nI 43 then ((f_X9_readProduct rec (u2 (u2 M 0 4 (nI q)) 0 4 ((u2 M 0 4 (nI q)) 0 4 + nI 1))).bind fun q14 => (f_X9_emit q14 (nI 2) (nI 0)).bind fun q15 => L_X9_readSum_4 rec g q15) else ((f_X9_readProduct rec (u2 (u2 M 0 4 (nI q)) 0 4 ((u2 M 0 4 (nI q)) 0 4 + nI 1))).bind fun q10 => (f_X9_emit q10 (nI 3) (nI 0)).bind fun q11 => L_X9_readSum_4 rec g q11)) = _
    rw [ad]
  rw [e, z9_fine1 hf, Option.bind_some, if_neg n1, z9_here h, Option.bind_some, hq]
  show (if zH T s q = nI 43 then (B_X9_readSum_29 rec (L_X9_readSum_4 rec g) (u2 M 0 4 (nI q))) else ((f_X9_here (u2 M 0 4 (nI q))).bind fun q18 => if q18.2 = nI 45 then (B_X9_readSum_29 rec (L_X9_readSum_4 rec g) q18.1) else (some q18.1))) = _
  rw [hh, Option.bind_some]
  show (if zH T s q = nI 43 then (B_X9_readSum_29 rec (L_X9_readSum_4 rec g) (u2 M 0 4 (nI q))) else (if zH T s q = nI 45 then (B_X9_readSum_29 rec (L_X9_readSum_4 rec g) (u2 M 0 4 (nI q))) else (some (u2 M 0 4 (nI q))))) = _
  rw [eB]
  have k43 := (z_ch (q := q) (v := 43) h.t (by omega) (by omega)).2
  have k45 := (z_ch (q := q) (v := 45) h.t (by omega) (by omega)).2
  by_cases c1 : q < s ∧ T q = 43
  · rw [if_pos (k43.2 c1), if_pos (k43.2 c1), if_pos ⟨c1.1, by rw [c1.2]; decide⟩, c1.2]; rfl
  · rw [if_neg (fun x => c1 (k43.1 x)), if_neg (fun x => c1 (k43.1 x))]
    by_cases c3 : q < s ∧ T q = 45
    · rw [if_pos (k45.2 c3), if_pos ⟨c3.1, by rw [c3.2]; decide⟩, c3.2]; rfl
    · rw [if_neg (fun x => c3 (k45.1 x)), if_neg]
      rintro ⟨d1, d2⟩
      unfold zOpS at d2
      rw [if_neg (fun x => c1 ⟨d1, x⟩), if_neg (fun x => c3 ⟨d1, x⟩)] at d2
      exact d2 rfl
theorem zSM_S (rec : TX → Option TX) (g : Nat) (M : TX) (a : Nat) (h : M 0 5 = nI a) (ha : a ≤ 600) : L_X9_readSum_4 rec (g + 1) M = some M := by
  show ((f_X9_fine M).bind fun q2 => if q2 = nI 0 then (some M) else _) = _
  rw [z9_fine0 h ha, Option.bind_some, if_pos rfl]
/-- after a refusal -/
theorem z9_unitS (rec : TX → Option TX) {M : TX} {a : Nat} (h : M 0 5 = nI a) (ha : a ≤ 600) : f_X9_readUnit rec M = some M := by
  show ((f_X9_fine M).bind fun q2 => if q2 = nI 0 then (some M) else _) = _
  rw [z9_fine0 h ha, Option.bind_some, if_pos rfl]
theorem z9_sumS (D : Nat) {M : TX} {a : Nat} (h : M 0 5 = nI a) (ha : a ≤ 600) : f_X9_readSum (D + 1) M = some M := by
  show ((f_X9_readProduct (f_X9_readSum D) M).bind fun q1 => L_X9_readSum_4 (f_X9_readSum D) FU q1) = _
  have e : f_X9_readProduct (f_X9_readSum D) M = some M := by
    show ((f_X9_readUnit (f_X9_readSum D) M).bind fun q1 => L_X9_readProduct_4 (f_X9_readSum D) FU q1) = _
    rw [z9_unitS _ h ha, Option.bind_some]; exact zPM_S _ 1023 M a h ha
  rw [e, Option.bind_some]; exact zSM_S _ 1023 M a h ha
/-- the fact that a word names, 8: none -/
def zFk (w : Nat) : Nat := if w = zOf 9 then 0 else if w = zOf 3 then 1 else if w = zOf 14 then 2 else if w = zOf 13 then 3 else if w = zOf 5 then 4 else if w = zOf 11 then 5 else if w = zOf 17 then 6 else if w = zOf 8 then 7 else 8
theorem zFk_le (w : Nat) : zFk w ≤ 8 := by
  unfold zFk
  repeat (first | omega | split)
def zFn (w : Nat) : Int32 := if zFk w = 8 then -nI 1 else nI (zFk w)
theorem z4_fact {s : Nat} {T : Nat → Nat} {q e : Nat} {X : TX} (h : zJx s T e X) (hq : X 1 4 = nI q) (hqe : q ≤ e) (hw : ∀ j, q ≤ j → j < e → 97 ≤ T j ∧ T j ≤ 122) :
    f_X4_factNamed X = some (zFn (zWn T q (e - q))) := by
  have n1 : ¬ nI 1 = (0 : Int32) := by decide
  have z0 : nI 0 = (0 : Int32) := rfl
  have i9 := z7_is h hq hqe hw (i := 9) (by decide)
  have i3 := z7_is h hq hqe hw (i := 3) (by decide)
  have i14 := z7_is h hq hqe hw (i := 14) (by decide)
  have i13 := z7_is h hq hqe hw (i := 13) (by decide)
  have i5 := z7_is h hq hqe hw (i := 5) (by decide)
  have i11 := z7_is h hq hqe hw (i := 11) (by decide)
  have i17 := z7_is h hq hqe hw (i := 17) (by decide)
  have i8 := z7_is h hq hqe hw (i := 8) (by decide)
  generalize zWn T q (e - q) = w at *
  unfold f_X4_factNamed zFn zFk
  rw [i9, i3, i14, i13, i5, i11, i17, i8, Option.bind_some]
  by_cases c9 : w = zOf 9
  · rw [zbI_t c9, if_neg n1, if_pos c9]; rfl
  · rw [zbI_f c9, if_pos z0, if_neg c9, Option.bind_some]
    by_cases c3 : w = zOf 3
    · rw [zbI_t c3, if_neg n1, if_pos c3]; rfl
    · rw [zbI_f c3, if_pos z0, if_neg c3, Option.bind_some]
      by_cases c14 : w = zOf 14
      · rw [zbI_t c14, if_neg n1, if_pos c14]; rfl
      · rw [zbI_f c14, if_pos z0, if_neg c14, Option.bind_some]
        by_cases c13 : w = zOf 13
        · rw [zbI_t c13, if_neg n1, if_pos c13]; rfl
        · rw [zbI_f c13, if_pos z0, if_neg c13, Option.bind_some]
          by_cases c5 : w = zOf 5
          · rw [zbI_t c5, if_neg n1, if_pos c5]; rfl
          · rw [zbI_f c5, if_pos z0, if_neg c5, Option.bind_some]
            by_cases c11 : w = zOf 11
            · rw [zbI_t c11, if_neg n1, if_pos c11]; rfl
            · rw [zbI_f c11, if_pos z0, if_neg c11, Option.bind_some]
              by_cases c17 : w = zOf 17
              · rw [zbI_t c17, if_neg n1, if_pos c17]; rfl
              · rw [zbI_f c17, if_pos z0, if_neg c17, Option.bind_some]
                by_cases c8 : w = zOf 8
                · rw [zbI_t c8, if_neg n1, if_pos c8]; rfl
                · rw [zbI_f c8, if_pos z0, if_neg c8]; rfl
theorem z9_fact {w : Nat} {M A : TX} (hw : w < 1073741825) (hM : f_X9_word M = some (A, nI w)) : f_X9_factHere M = some (A, zFn w) := by
  have o := fun (i : Nat) (hi : i < 18) (c : w = zOf i) => (zOf_eq hw hi).2 c
  have o' := fun (i : Nat) (hi : i < 18) (c : ¬ w = zOf i) => fun x => c ((zOf_eq hw hi).1 x)
  unfold f_X9_factHere zFn zFk
  rw [hM, Option.bind_some, z9_of (i := 9) (by decide), z9_of (i := 3) (by decide), z9_of (i := 14) (by decide), z9_of (i := 13) (by decide), z9_of (i := 5) (by decide), z9_of (i := 11) (by decide), z9_of (i := 17) (by decide), z9_of (i := 8) (by decide), Option.bind_some]
  by_cases c9 : w = zOf 9
  · rw [if_pos (o 9 (by decide) c9), if_pos c9]; rfl
  · rw [if_neg (o' 9 (by decide) c9), if_neg c9, Option.bind_some]
    by_cases c3 : w = zOf 3
    · rw [if_pos (o 3 (by decide) c3), if_pos c3]; rfl
    · rw [if_neg (o' 3 (by decide) c3), if_neg c3, Option.bind_some]
      by_cases c14 : w = zOf 14
      · rw [if_pos (o 14 (by decide) c14), if_pos c14]; rfl
      · rw [if_neg (o' 14 (by decide) c14), if_neg c14, Option.bind_some]
        by_cases c13 : w = zOf 13
        · rw [if_pos (o 13 (by decide) c13), if_pos c13]; rfl
        · rw [if_neg (o' 13 (by decide) c13), if_neg c13, Option.bind_some]
          by_cases c5 : w = zOf 5
          · rw [if_pos (o 5 (by decide) c5), if_pos c5]; rfl
          · rw [if_neg (o' 5 (by decide) c5), if_neg c5, Option.bind_some]
            by_cases c11 : w = zOf 11
            · rw [if_pos (o 11 (by decide) c11), if_pos c11]; rfl
            · rw [if_neg (o' 11 (by decide) c11), if_neg c11, Option.bind_some]
              by_cases c17 : w = zOf 17
              · rw [if_pos (o 17 (by decide) c17), if_pos c17]; rfl
              · rw [if_neg (o' 17 (by decide) c17), if_neg c17, Option.bind_some]
                by_cases c8 : w = zOf 8
                · rw [if_pos (o 8 (by decide) c8), if_pos c8]; rfl
                · rw [if_neg (o' 8 (by decide) c8), if_neg c8]; rfl
