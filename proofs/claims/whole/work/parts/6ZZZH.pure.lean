set_option linter.unusedVariables false
/-- the signs of products and of sums -/
def zOpP (v : Nat) : Nat := if v = 42 then 4 else if v = 47 then 5 else if v = 37 then 8 else 0
def zOpS (v : Nat) : Nat := if v = 43 then 2 else if v = 45 then 3 else 0
theorem zOpP_ok (v : Nat) (h : zOpP v ≠ 0) : 2 ≤ zOpP v ∧ zOpP v ≤ 8 := by
  unfold zOpP at *
  split
  · omega
  · split
    · omega
    · split
      · omega
      · simp_all
theorem zOpS_ok (v : Nat) (h : zOpS v ≠ 0) : 2 ≤ zOpS v ∧ zOpS v ≤ 8 := by
  unfold zOpS at *
  split
  · omega
  · split
    · omega
    · simp_all
theorem zH_here {s : Nat} {T : Nat → Nat} {p q : Nat} {M : TX} (h : zJm s T p M) (hq : zA T s p = q) : f_X9_here (u2 M 0 4 (nI q)) = some (u2 M 0 4 (nI q), zH T s q) := by
  obtain ⟨a1, a2, a3⟩ := zA_spec (T := T) h.ps
  rw [hq] at a1 a2 a3
  rw [z9_here (h.to a2), a3, z_u2u]
theorem zPX_eq {s : Nat} {T : Nat → Nat} (rec : TX → Int32 → Option (TX × Int32)) (x2 : Int32) (g p i : Nat) (X : TX) (h : zJx s T p X) (hi : i < 150) :
    L_X4_readProduct_13 rec (g + 1) X x2 (nI i) = if zA T s p < s ∧ zOpP (T (zA T s p)) ≠ 0 then ((f_X4_readUnit rec (u2 X 1 3 (nI (zA T s p + 1))) x2).bind fun q8 => if q8.2 = nI 0 then some (q8.1, nI 0) else ((f_X4_add q8.1 (zOp (zOpP (T (zA T s p))))).bind fun q => L_X4_readProduct_13 rec g q.1 x2 (nI (i + 1)))) else some (u2 X 1 3 (nI (zA T s p)), nI 1) := by
  have n15 : ¬ nI 150 ≤ nI i := by rw [z_nI_le (by omega) (by omega)]; omega
  have n1 : ¬ nI 1 = nI 0 := by decide
  have e : L_X4_readProduct_13 rec (g + 1) X x2 (nI i) = if nI 150 ≤ nI i then (some (X, nI 1)) else ((f_X7_ahead X).bind fun q4 => if q4.2 = nI 42 then (B_X4_readProduct_49 rec (L_X4_readProduct_13 rec g) q4.1 x2 (nI i) q4.2) else (if q4.2 = nI 47 then (B_X4_readProduct_49 rec (L_X4_readProduct_13 rec g) q4.1 x2 (nI i) q4.2) else (if q4.2 = nI 37 then (B_X4_readProduct_49 rec (L_X4_readProduct_13 rec g) q4.1 x2 (nI i) q4.2) else (some (q4.1, nI 1))))) := rfl
  obtain ⟨q, hq⟩ : ∃ q, zA T s p = q := ⟨_, rfl⟩
  rw [e, if_neg n15, z7_ahead h, Option.bind_some, hq]
  show (if zC T s q = nI 42 then (B_X4_readProduct_49 rec (L_X4_readProduct_13 rec g) (u2 X 1 3 (nI q)) x2 (nI i) (zC T s q)) else (if zC T s q = nI 47 then (B_X4_readProduct_49 rec (L_X4_readProduct_13 rec g) (u2 X 1 3 (nI q)) x2 (nI i) (zC T s q)) else (if zC T s q = nI 37 then (B_X4_readProduct_49 rec (L_X4_readProduct_13 rec g) (u2 X 1 3 (nI q)) x2 (nI i) (zC T s q)) else (some ((u2 X 1 3 (nI q)), nI 1))))) = _
  have k42 := (z_ch (q := q) (v := 42) h.t (by omega) (by omega)).1
  have k47 := (z_ch (q := q) (v := 47) h.t (by omega) (by omega)).1
  have k37 := (z_ch (q := q) (v := 37) h.t (by omega) (by omega)).1
  by_cases c : q < s ∧ zOpP (T q) ≠ 0
  · have sg := z7_sgnOk h hq c.1
    have B : ∀ v o, T q = v → zOpP v = o → (v = 42 ∨ v = 47 ∨ v = 37) → B_X4_readProduct_49 rec (L_X4_readProduct_13 rec g) (u2 X 1 3 (nI q)) x2 (nI i) (zC T s q) = ((f_X4_readUnit rec (u2 X 1 3 (nI (q + 1))) x2).bind fun q8 => if q8.2 = nI 0 then some (q8.1, nI 0) else ((f_X4_add q8.1 (zOp o)).bind fun q => L_X4_readProduct_13 rec g q.1 x2 (nI (i + 1)))) := by
      intro v o hv ho h3
      have cv : zC T s q = nI v := by unfold zC; rw [if_pos c.1, hv]
      rw [hv] at sg
      unfold B_X4_readProduct_49
      rw [cv, sg, Option.bind_some]
      show (if nI 1 = nI 0 then _ else _) = _
      rw [if_neg n1]
      subst ho
      rw [show nI i + (1 : Int32) = nI (i + 1) from z_nI_succ i]
      rcases h3 with rfl | rfl | rfl
      · rfl
      · rfl
      · rfl
    rw [if_pos c]
    by_cases c1 : T q = 42
    · rw [if_pos (k42.2 ⟨c.1, c1⟩)]
      exact B _ _ rfl rfl (by omega)
    · rw [if_neg (fun x => c1 (k42.1 x).2)]
      by_cases c2 : T q = 47
      · rw [if_pos (k47.2 ⟨c.1, c2⟩)]
        exact B _ _ rfl rfl (by omega)
      · rw [if_neg (fun x => c2 (k47.1 x).2)]
        have c3 : T q = 37 := by
          have := c.2; unfold zOpP at this
          rw [if_neg c1, if_neg c2] at this
          by_cases d : T q = 37
          · exact d
          · rw [if_neg d] at this; exact absurd rfl this
        rw [if_pos (k37.2 ⟨c.1, c3⟩)]
        exact B _ _ rfl rfl (by omega)
  · rw [if_neg c, if_neg (fun x => c ⟨(k42.1 x).1, by rw [(k42.1 x).2]; decide⟩), if_neg (fun x => c ⟨(k47.1 x).1, by rw [(k47.1 x).2]; decide⟩), if_neg (fun x => c ⟨(k37.1 x).1, by rw [(k37.1 x).2]; decide⟩)]
theorem zPM_eq {s : Nat} {T : Nat → Nat} (rec : TX → Option TX) (g p : Nat) (M : TX) (h : zJm s T p M) (hf : M 0 5 = -nI 1) :
    L_X9_readProduct_4 rec (g + 1) M = if zA T s p < s ∧ zOpP (T (zA T s p)) ≠ 0 then ((f_X9_readUnit rec (u2 M 0 4 (nI (zA T s p + 1)))).bind fun q => (f_X9_emit q (nI (zOpP (T (zA T s p)))) (nI 0)).bind fun q' => L_X9_readProduct_4 rec g q') else some (u2 M 0 4 (nI (zA T s p))) := by
  have n1 : ¬ nI 1 = nI 0 := by decide
  have e : L_X9_readProduct_4 rec (g + 1) M = (f_X9_fine M).bind fun q2 => if q2 = nI 0 then (some M) else ((f_X9_here M).bind fun q4 => if q4.2 = nI 42 then (B_X9_readProduct_38 rec (L_X9_readProduct_4 rec g) q4.1) else ((f_X9_here q4.1).bind fun q16 => if q16.2 = nI 47 then (B_X9_readProduct_38 rec (L_X9_readProduct_4 rec g) q16.1) else ((f_X9_here q16.1).bind fun q18 => if q18.2 = nI 37 then (B_X9_readProduct_38 rec (L_X9_readProduct_4 rec g) q18.1) else (some q18.1)))) := rfl
  obtain ⟨q, hq⟩ : ∃ q, zA T s p = q := ⟨_, rfl⟩
  have hh := zH_here h hq
  have eB : B_X9_readProduct_38 rec (L_X9_readProduct_4 rec g) (u2 M 0 4 (nI q)) = if zH T s q = nI 42 then ((f_X9_readUnit rec (u2 M 0 4 (nI (q + 1)))).bind fun q14 => (f_X9_emit q14 (nI 4) (nI 0)).bind fun q15 => L_X9_readProduct_4 rec g q15) else if zH T s q = nI 47 then ((f_X9_readUnit rec (u2 M 0 4 (nI (q + 1)))).bind fun q12 => (f_X9_emit q12 (nI 5) (nI 0)).bind fun q13 => L_X9_readProduct_4 rec g q13) else ((f_X9_readUnit rec (u2 M 0 4 (nI (q + 1)))).bind fun q10 => (f_X9_emit q10 (nI 8) (nI 0)).bind fun q11 => L_X9_readProduct_4 rec g q11) := by
    have ad : u2 (u2 M 0 4 (nI q)) 0 4 ((u2 M 0 4 (nI q)) 0 4 + nI 1) = u2 M 0 4 (nI (q + 1)) := by rw [z_u2s, z_nI_add, z_u2u]
    unfold B_X9_readProduct_38
    rw [hh, Option.bind_some]
    show (if zH T s q = nI 42 then ((f_X9_readUnit rec (u2 (u2 M 0 4 (nI q)) 0 4 ((u2 M 0 4 (nI q)) 0 4 + nI 1))).bind fun q14 => (f_X9_emit q14 (nI 4) (nI 0)).bind fun q15 => L_X9_readProduct_4 rec g q15) else ((f_X9_here (u2 M 0 4 (nI q))).bind fun q8 => if q8.2 = nI 47 then ((f_X9_readUnit rec (u2 q8.1 0 4 ((q8.1 0 4) + nI 1))).bind fun q12 => (f_X9_emit q12 (nI 5) (nI 0)).bind fun q13 => L_X9_readProduct_4 rec g q13) else ((f_X9_readUnit rec (u2 q8.1 0 4 ((q8.1 0 4) + nI 1))).bind fun q10 => (f_X9_emit q10 (nI 8) (nI 0)).bind fun q11 => L_X9_readProduct_4 rec g q11))) = _
    rw [hh, Option.bind_some, ad]
  rw [e, z9_fine1 hf, Option.bind_some, if_neg n1, z9_here h, Option.bind_some, hq]
  show (if zH T s q = nI 42 then (B_X9_readProduct_38 rec (L_X9_readProduct_4 rec g) (u2 M 0 4 (nI q))) else ((f_X9_here (u2 M 0 4 (nI q))).bind fun q16 => if q16.2 = nI 47 then (B_X9_readProduct_38 rec (L_X9_readProduct_4 rec g) q16.1) else ((f_X9_here q16.1).bind fun q18 => if q18.2 = nI 37 then (B_X9_readProduct_38 rec (L_X9_readProduct_4 rec g) q18.1) else (some q18.1)))) = _
  rw [hh, Option.bind_some]
  show (if zH T s q = nI 42 then (B_X9_readProduct_38 rec (L_X9_readProduct_4 rec g) (u2 M 0 4 (nI q))) else (if zH T s q = nI 47 then (B_X9_readProduct_38 rec (L_X9_readProduct_4 rec g) (u2 M 0 4 (nI q))) else ((f_X9_here (u2 M 0 4 (nI q))).bind fun q18 => if q18.2 = nI 37 then (B_X9_readProduct_38 rec (L_X9_readProduct_4 rec g) q18.1) else (some q18.1)))) = _
  rw [hh, Option.bind_some]
  show (if zH T s q = nI 42 then (B_X9_readProduct_38 rec (L_X9_readProduct_4 rec g) (u2 M 0 4 (nI q))) else (if zH T s q = nI 47 then (B_X9_readProduct_38 rec (L_X9_readProduct_4 rec g) (u2 M 0 4 (nI q))) else (if zH T s q = nI 37 then (B_X9_readProduct_38 rec (L_X9_readProduct_4 rec g) (u2 M 0 4 (nI q))) else (some (u2 M 0 4 (nI q)))))) = _
  rw [eB]
  have k42 := (z_ch (q := q) (v := 42) h.t (by omega) (by omega)).2
  have k47 := (z_ch (q := q) (v := 47) h.t (by omega) (by omega)).2
  have k37 := (z_ch (q := q) (v := 37) h.t (by omega) (by omega)).2
  by_cases c1 : q < s ∧ T q = 42
  · rw [if_pos (k42.2 c1), if_pos (k42.2 c1), if_pos ⟨c1.1, by rw [c1.2]; decide⟩, c1.2]; rfl
  · rw [if_neg (fun x => c1 (k42.1 x)), if_neg (fun x => c1 (k42.1 x))]
    by_cases c2 : q < s ∧ T q = 47
    · rw [if_pos (k47.2 c2), if_pos (k47.2 c2), if_pos ⟨c2.1, by rw [c2.2]; decide⟩, c2.2]; rfl
    · rw [if_neg (fun x => c2 (k47.1 x)), if_neg (fun x => c2 (k47.1 x))]
      by_cases c3 : q < s ∧ T q = 37
      · rw [if_pos (k37.2 c3), if_pos ⟨c3.1, by rw [c3.2]; decide⟩, c3.2]; rfl
      · rw [if_neg (fun x => c3 (k37.1 x)), if_neg]
        rintro ⟨d1, d2⟩
        unfold zOpP at d2
        rw [if_neg (fun x => c1 ⟨d1, x⟩), if_neg (fun x => c2 ⟨d1, x⟩), if_neg (fun x => c3 ⟨d1, x⟩)] at d2
        exact d2 rfl
theorem zPM_S (rec : TX → Option TX) (g : Nat) (M : TX) (a : Nat) (h : M 0 5 = nI a) (ha : a ≤ 600) : L_X9_readProduct_4 rec (g + 1) M = some M := by
  show ((f_X9_fine M).bind fun q2 => if q2 = nI 0 then (some M) else _) = _
  rw [z9_fine0 h ha, Option.bind_some, if_pos rfl]
