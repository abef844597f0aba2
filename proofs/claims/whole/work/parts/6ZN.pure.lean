set_option linter.unusedVariables false
/-- a parish's lead for a side, had a share come over to it -/
def zHg (a : Nat) (b : Int32) (s : Nat → Int32) (p : Nat) : Int32 := s (10 + 10 * a + p) - s (10 + 10 * (1 - a) + p) + nI 2 * (s (10 + 10 * (1 - a) + p) * b / nI 100)
theorem z_had {n : Nat} (h10 : n ≤ 10) {a : Nat} (ha : a < 2) (b : Int32) (s : Nat → Int32) (d : Int32) : ∀ m, m ≤ n → zVot m s (zHg a b s) d = if a = 0 then zLead m (zCo n a b s) (fun p => zCo n a b s (10 + p)) (fun p => zCo n a b s (20 + p)) d else -(zLead m (zCo n a b s) (fun p => zCo n a b s (10 + p)) (fun p => zCo n a b s (20 + p)) d)
  | 0, _ => by
    have e : zVot 0 s (zHg a b s) d = nI 0 := rfl
    have e2 : zLead 0 (zCo n a b s) (fun p => zCo n a b s (10 + p)) (fun p => zCo n a b s (20 + p)) d = nI 0 := by unfold zLead zVot zSum zF; decide
    rw [e, e2]
    split <;> decide
  | m + 1, hm => by
    have ih := z_had h10 ha b s d m (by omega)
    have hw : zCo n a b s m = s m := zCo_out ha b (by omega) n h10 s
    have hat := zCo_at ha b (p := m) n (by omega) h10 s
    rw [zVot_succ, zLead_succ, ih, hw]
    have h : a = 0 ∨ a = 1 := by omega
    rcases h with rfl | rfl
    · simp only [Nat.mul_zero, Nat.add_zero, Nat.sub_zero, Nat.mul_one, Nat.reduceAdd] at hat
      rw [hat.1, hat.2, if_pos rfl, if_pos rfl]
      by_cases c : s m = d
      · rw [if_pos c, if_pos c]
        unfold zHg
        simp only [Nat.mul_zero, Nat.add_zero, Nat.sub_zero, Nat.mul_one, Nat.reduceAdd]
        generalize s (20 + m) * b / nI 100 = q
        have e2 : nI 2 * q = q + q := by rw [show nI 2 = (2 : Int32) from rfl]; grind
        rw [e2]; grind
      · rw [if_neg c, if_neg c]
    · simp only [Nat.mul_zero, Nat.add_zero, Nat.sub_self, Nat.mul_one, Nat.reduceAdd] at hat
      have h01 : ¬ ((1 : Nat) = 0) := by decide
      rw [hat.1, hat.2, if_neg h01, if_neg h01]
      by_cases c : s m = d
      · rw [if_pos c, if_pos c]
        unfold zHg
        simp only [Nat.mul_zero, Nat.add_zero, Nat.sub_self, Nat.mul_one, Nat.reduceAdd]
        generalize s (10 + m) * b / nI 100 = q
        have e2 : nI 2 * q = q + q := by rw [show nI 2 = (2 : Int32) from rfl]; grind
        rw [e2]; grind
      · rw [if_neg c, if_neg c, z_add0, z_add0]
theorem zSg_neg {z : Int} (h1 : -100000 ≤ z) (h2 : z ≤ 100000) : zSg (-(zI z)) 0 = -(zSg (zI z) 0) := by
  have e : (0 : Int32) = zI 0 := rfl
  rw [zI_neg, e, zSg_int (by omega) (by omega) (by omega) (by omega), zSg_int (by omega) (by omega) (by omega) (by omega)]
  by_cases g1 : 0 ≤ z
  · by_cases g2 : z = 0
    · subst g2; decide
    · rw [if_neg (by omega), if_pos g1, if_neg g2]
  · rw [if_pos (by omega), if_neg (by omega), if_neg g1]; decide
theorem z3_mHad {n : Nat} {K X : TX} {s : Nat → Int32} (hE : zE n K X) (hD : zD n s X) {a b : Nat} (ha : a < 2) (hb : b ≤ 100) : f_X3_marginHad X (nI a) (nI b) = some (zMg n (zCo n a (nI b) s) (nI a)) := by
  have h10 := hE.n10
  have hs1 := z_one_sub ha
  have inner : ∀ (k : TX → Int32 → Int32 → Int32 → Int32 → Option Int32) (m : Int32) (d : Nat), d < 4 → L_X3_marginHad_17 k FU X (nI a) (nI b) m (nI d) (nI 0) (nI 0) = k X (nI a) (nI b) (m + zSg (zVot n s (zHg a (nI b) s) (nI d)) (nI 0)) (nI (d + 1)) := fun k m d hd => by
    refine z_loop (fun f i x => L_X3_marginHad_17 k f X (nI a) (nI b) m (nI d) x i) (fun p x => x + if s p = nI d then zHg a (nI b) s p else nI 0) (fun x => k X (nI a) (nI b) (m + zSg x (nI 0)) (nI (d + 1))) n ?_ ?_ n 0 FU (nI 0) (by omega) (by unfold FU; omega)
    · intro f i x h
      subst h
      simp (discharger := omega) only [L_X3_marginHad_17, hE.xn, z_cmp, z_lit, z_nI_le, z_nI_lt, z_nI_inj, z_inb, z_nI_tn, z_nI_add, z_nI_mul, z_bitN, z_zb, z_0add, z_add0, z_0or, z_or0, Option.bind_some, decide_eq_true_eq, Nat.zero_add, Nat.add_zero, Nat.le_refl, ↓reduceIte]
    · intro f i x h
      have h1 : ¬ n ≤ i := by omega
      have w0 := z3_wOf hD (show i < 10 by omega)
      have v0 := z3_vOf hD ha (show i < 10 by omega)
      have v1 := z3_vOf hD (show 1 - a < 2 by omega) (show i < 10 by omega)
      by_cases c : s i = nI d
      · have hg : s (10 + 10 * a + i) - s (10 + 10 * (1 - a) + i) + nI 2 * (s (10 + 10 * (1 - a) + i) * nI b / nI 100) = zHg a (nI b) s i := rfl
        simp (discharger := omega) only [L_X3_marginHad_17, hE.xn, h1, w0, v0, v1, hs1, c, hg, z_lit, z_nI_le, z_nI_lt, z_nI_inj, z_inb, z_nI_tn, z_nI_add, z_nI_mul, z_bitN, z_zb, z_0add, z_add0, z_0or, z_or0, Option.bind_some, decide_eq_true_eq, Nat.zero_add, Nat.add_zero, ↓reduceIte]
      · simp (discharger := omega) only [L_X3_marginHad_17, hE.xn, h1, w0, c, z_lit, z_nI_le, z_nI_lt, z_nI_inj, z_inb, z_nI_tn, z_nI_add, z_nI_mul, z_bitN, z_zb, z_0add, z_add0, z_0or, z_or0, Option.bind_some, decide_eq_true_eq, Nat.zero_add, Nat.add_zero, ↓reduceIte]
  have outer : f_X3_marginHad X (nI a) (nI b) = some (zF (fun d x => x + zSg (zVot n s (zHg a (nI b) s) (nI d)) (nI 0)) 4 0 (nI 0)) := by
    refine z_loop (fun f i x => L_X3_marginHad_5 f X (nI a) (nI b) x i) _ some 4 ?_ ?_ 4 0 FU (nI 0) (by omega) (by unfold FU; omega)
    · intro f i x h
      subst h
      simp (discharger := omega) only [L_X3_marginHad_5, z_lit, z_nI_le, z_nI_lt, z_nI_inj, z_inb, z_nI_tn, z_nI_add, z_nI_mul, z_bitN, z_zb, z_0add, z_add0, z_0or, z_or0, Option.bind_some, decide_eq_true_eq, Nat.zero_add, Nat.add_zero, Nat.le_refl, ↓reduceIte]
    · intro f i x h
      have h1 : ¬ 4 ≤ i := by omega
      simp (discharger := omega) only [L_X3_marginHad_5, h1, inner _ _ i h, z_lit, z_nI_le, z_nI_lt, z_nI_inj, z_inb, z_nI_tn, z_nI_add, z_nI_mul, z_bitN, z_zb, z_0add, z_add0, z_0or, z_or0, Option.bind_some, decide_eq_true_eq, Nat.zero_add, Nat.add_zero, ↓reduceIte]
  rw [outer]
  congr 1
  have hv := zCo_vb ha hb h10 hD.vb
  have hz : ∀ d, ∃ z : Int, -100000 ≤ z ∧ z ≤ 100000 ∧ zLc n (zCo n a (nI b) s) d = zI z := fun d => by
    obtain ⟨z, z1, z2, z3⟩ := z_leadB (Nat.le_refl n) hv (nI d)
    exact ⟨z, by omega, by omega, z3⟩
  have h : a = 0 ∨ a = 1 := by omega
  unfold zMg zMar
  rcases h with rfl | rfl
  · show _ = (if nI 0 = 0 then _ else _)
    rw [if_pos (by decide)]
    exact zF_congr _ _ 4 0 (nI 0) fun j x _ hj => by
      rw [z_had h10 (by omega) (nI b) s (nI j) n (Nat.le_refl _), if_pos rfl]; rfl
  · show _ = (if nI 1 = 0 then _ else _)
    rw [if_neg (by decide)]
    have : ∀ k, zF (fun d x => x + zSg (zVot n s (zHg 1 (nI b) s) (nI d)) (nI 0)) k 0 (nI 0) = -(zF (fun d x => x + zSg (zLc n (zCo n 1 (nI b) s) d) 0) k 0 (nI 0)) := fun k => by
      induction k with
      | zero => show nI 0 = -(nI 0); decide
      | succ k ih =>
        rw [zF_snoc, zF_snoc, ih]
        obtain ⟨z, z1, z2, z3⟩ := hz (0 + k)
        have e : zSg (zVot n s (zHg 1 (nI b) s) (nI (0 + k))) (nI 0) = -(zSg (zLc n (zCo n 1 (nI b) s) (0 + k)) 0) := by
          rw [z_had h10 (by omega) (nI b) s (nI (0 + k)) n (Nat.le_refl _), if_neg (by decide)]
          have e2 : zLead n (zCo n 1 (nI b) s) (fun p => zCo n 1 (nI b) s (10 + p)) (fun p => zCo n 1 (nI b) s (20 + p)) (nI (0 + k)) = zI z := z3
          rw [e2, z3]
          exact zSg_neg z1 z2
        rw [e]
        generalize zSg (zLc n (zCo n 1 (nI b) s) (0 + k)) 0 = y
        generalize zF (fun d x => x + zSg (zLc n (zCo n 1 (nI b) s) d) 0) k 0 (nI 0) = x
        grind
    exact this 4
/-- the least share from i on that brings the side a margin -/
def zSw (n a : Nat) (s : Nat → Int32) : Nat → Nat → Int32
  | 0, _ => -nI 1
  | k + 1, i => if zMg n (zCo n a (nI i) s) (nI a) ≤ nI 0 then zSw n a s k (i + 1) else nI i
theorem z_swing {n : Nat} {X M : TX} (h : zV n X M) (x : Int32) : zCs (some (nI 1)) none (f_X8_swing X x) (f_X9_swing M x) := by
  have h10 := h.e.n10
  have g := h.q (zQX.refl X) (zQM_0 M (nI 0))
  have g0 : u2 M 0 0 (nI 0) 0 0 = nI 0 := z_u2s _ _ _ _
  rcases z_nsS (X := X) g0 x with ⟨e1, e2⟩ | ⟨a, ha, rfl, e1, e2⟩
  · have e2' : f_X9_isThere (u2 M 0 0 (0 : Int32)) x (2 : Int32) = _ := e2
    refine zCs_no g (v := nI 0) ?_ ?_
    · unfold f_X8_swing; rw [e1, Option.bind_some, zxb_r]
    · unfold f_X9_swing; rw [e2', Option.bind_some, if_pos z_n00]; rfl
  · have e2' : f_X9_isThere (u2 M 0 0 (0 : Int32)) (nI a) (2 : Int32) = _ := e2
    obtain ⟨N0, t1, t2, t3, tS, tD, tY, t4⟩ := h.take (zQM_0 M (nI 0))
    obtain ⟨s, hs⟩ : ∃ s, s = N0 20 := ⟨_, rfl⟩
    rw [← hs] at tD
    have cl : ∀ k i f, i + k = 101 → k < f → L_X8_swing_7 f X (nI a) (nI i) = some (X, .inl (zSw n a s k i)) := fun k => by
      induction k with
      | zero =>
        intro i f hi hf
        obtain ⟨f, rfl⟩ : ∃ f0, f = f0 + 1 := ⟨f - 1, by omega⟩
        have c : 100 < i := by omega
        simp (discharger := omega) only [L_X8_swing_7, c, z_lit, z_nI_le, z_nI_lt, z_nI_inj, z_inb, z_nI_tn, z_nI_add, z_nI_mul, z_bitN, z_zb, z_0add, z_add0, z_0or, z_or0, Option.bind_some, decide_eq_true_eq, Nat.zero_add, Nat.add_zero, ↓reduceIte, zSw]
      | succ k ih =>
        intro i f hi hf
        obtain ⟨f, rfl⟩ : ∃ f0, f = f0 + 1 := ⟨f - 1, by omega⟩
        have c : ¬ 100 < i := by omega
        have hm := z3_mHad h.e tD ha (show i ≤ 100 by omega)
        have hn := ih (i + 1) f (by omega) (by omega)
        by_cases c2 : zMg n (zCo n a (nI i) s) (nI a) ≤ nI 0
        · simp (discharger := omega) only [L_X8_swing_7, c, hm, c2, hn, z_lit, z_nI_le, z_nI_lt, z_nI_inj, z_inb, z_nI_tn, z_nI_add, z_nI_mul, z_bitN, z_zb, z_0add, z_add0, z_0or, z_or0, Option.bind_some, decide_eq_true_eq, Nat.zero_add, Nat.add_zero, ↓reduceIte, zSw]
        · simp (discharger := omega) only [L_X8_swing_7, c, hm, c2, z_lit, z_nI_le, z_nI_lt, z_nI_inj, z_inb, z_nI_tn, z_nI_add, z_nI_mul, z_bitN, z_zb, z_0add, z_add0, z_0or, z_or0, Option.bind_some, decide_eq_true_eq, Nat.zero_add, Nat.add_zero, ↓reduceIte, zSw]
    have rf : ∀ k i f Y, i + k = 101 → k < f → zQM M Y → Y 0 0 = nI 0 → (∀ j, 34 ≤ j → Y 20 j = s j) → ∃ N, L_X9_swing_18 f Y (nI a) (nI i) = some (N, zSw n a s k i) ∧ zQM M N ∧ N 0 0 = nI 0 := fun k => by
      induction k with
      | zero =>
        intro i f Y hi hf hQ h0 hb
        obtain ⟨f, rfl⟩ : ∃ f0, f = f0 + 1 := ⟨f - 1, by omega⟩
        have c : 100 < i := by omega
        refine ⟨Y, ?_, hQ, h0⟩
        simp (discharger := omega) only [L_X9_swing_18, c, z_lit, z_nI_le, z_nI_lt, z_nI_inj, z_inb, z_nI_tn, z_nI_add, z_nI_mul, z_bitN, z_zb, z_0add, z_add0, z_0or, z_or0, Option.bind_some, decide_eq_true_eq, Nat.zero_add, Nat.add_zero, ↓reduceIte, zSw]
      | succ k ih =>
        intro i f Y hi hf hQ h0 hb
        obtain ⟨f, rfl⟩ : ∃ f0, f = f0 + 1 := ⟨f - 1, by omega⟩
        have c : ¬ 100 < i := by omega
        obtain ⟨P, p1, p2, p3, pS, pD, pY, p4⟩ := h.take hQ
        have hP : P 20 = s := by
          obtain ⟨P', q1, q2, q3⟩ := z9_copies (a := 19) (b := 20) (by decide) (M := Y) (m := 34) (by decide) (by decide) (by omega)
          have p1' : f_X9_take Y = some P' := by
            unfold f_X9_take
            have q1' : f_X9_copies 19 20 Y (34 : Int32) = some P' := q1
            rw [q1']; rfl
          rw [p1] at p1'; cases p1'
          funext j
          by_cases hj : j < 34
          · rw [p4 j hj, hs, t4 j hj]
          · rw [q3]; simp only [hj, if_false]; exact hb j (by omega)
        have hnP : P 0 19 = nI n := pS.a19.trans h.e.kn
        obtain ⟨Q, r1, r2, r3⟩ := z9_comesOver hnP h10 ha (nI i)
        have hnQ : Q 0 19 = nI n := by rw [r3 0 (by decide)]; exact hnP
        have hm := z9_mg hnQ h10 ha
        rw [r2, hP] at hm
        have hQQ : zQM M Q := p2.trans (zQM_20 r3)
        have hQ0 : Q 0 0 = nI 0 := by rw [r3 0 (by decide), p3]; exact h0
        by_cases c2 : zMg n (zCo n a (nI i) s) (nI a) ≤ nI 0
        · obtain ⟨N, n1, n2, n3⟩ := ih (i + 1) f Q (by omega) (by omega) hQQ hQ0 (fun j hj => by rw [r2, hP]; exact zCo_out ha (nI i) (by omega) n h10 s)
          refine ⟨N, ?_, n2, n3⟩
          simp (discharger := omega) only [L_X9_swing_18, c, p1, r1, hm, c2, n1, z_lit, z_nI_le, z_nI_lt, z_nI_inj, z_inb, z_nI_tn, z_nI_add, z_nI_mul, z_bitN, z_zb, z_0add, z_add0, z_0or, z_or0, Option.bind_some, decide_eq_true_eq, Nat.zero_add, Nat.add_zero, ↓reduceIte, zSw]
        · refine ⟨Q, ?_, hQQ, hQ0⟩
          simp (discharger := omega) only [L_X9_swing_18, c, p1, r1, hm, c2, z_lit, z_nI_le, z_nI_lt, z_nI_inj, z_inb, z_nI_tn, z_nI_add, z_nI_mul, z_bitN, z_zb, z_0add, z_add0, z_0or, z_or0, Option.bind_some, decide_eq_true_eq, Nat.zero_add, Nat.add_zero, ↓reduceIte, zSw]
    obtain ⟨N, n1, n2, n3⟩ := rf 101 0 FU (u2 M 0 0 (nI 0)) (by omega) (by unfold FU; omega) (zQM_0 M (nI 0)) g0 (fun j hj => by
      have : N0 20 j = u2 M 0 0 (nI 0) 20 j := by
        obtain ⟨P', q1, q2, q3⟩ := z9_copies (a := 19) (b := 20) (by decide) (M := u2 M 0 0 (nI 0)) (m := 34) (by decide) (by decide) (by omega)
        have p1' : f_X9_take (u2 M 0 0 (nI 0)) = some P' := by
          unfold f_X9_take
          have q1' : f_X9_copies 19 20 (u2 M 0 0 (nI 0)) (34 : Int32) = some P' := q1
          rw [q1']; rfl
        rw [t1] at p1'; cases p1'
        rw [q3]; have : ¬ j < 34 := by omega
        simp only [this, if_false]
      rw [hs, this])
    refine zCs_ok h ?_ ?_ n3 (zQX.refl X) n2 (v := zSw n a s 101 0)
    · unfold f_X8_swing; rw [e1, Option.bind_some, zxb_l]; exact cl 101 0 FU (by omega) (by unfold FU; omega)
    · unfold f_X9_swing; rw [e2', Option.bind_some, if_neg z_n10]; exact n1
