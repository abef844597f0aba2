set_option linter.unusedVariables false
theorem zVot_nat {n : Nat} {w v : Nat → Int32} {B : Nat} (hv : ∀ p, p < n → ∃ x, x ≤ B ∧ v p = nI x) (d : Int32) : ∃ x, x ≤ n * B ∧ zVot n w v d = nI x := by
  induction n with
  | zero => exact ⟨0, by omega, rfl⟩
  | succ n ih =>
    obtain ⟨x, h1, h2⟩ := ih fun p hp => hv p (by omega)
    obtain ⟨y, g1, g2⟩ := hv n (by omega)
    rw [zVot_succ, h2]
    by_cases c : w n = d
    · exact ⟨x + y, by rw [Nat.succ_mul]; omega, by rw [if_pos c, g2, z_nI_add]⟩
    · exact ⟨x, by rw [Nat.succ_mul]; omega, by rw [if_neg c, z_add0]⟩
theorem zAll_nat {n : Nat} {v : Nat → Int32} {B : Nat} (hv : ∀ p, p < n → ∃ x, x ≤ B ∧ v p = nI x) : ∃ x, x ≤ n * B ∧ zSum n v = nI x := by
  induction n with
  | zero => exact ⟨0, by omega, rfl⟩
  | succ n ih =>
    obtain ⟨x, h1, h2⟩ := ih fun p hp => hv p (by omega)
    obtain ⟨y, g1, g2⟩ := hv n (by omega)
    rw [zSum_succ, h2]
    exact ⟨x + y, by rw [Nat.succ_mul]; omega, by rw [g2, z_nI_add]⟩
theorem zAll_zero {n : Nat} (h10 : n ≤ 10) {v : Nat → Int32} (hv : ∀ r, r < n → ∃ x, x ≤ 198 ∧ v r = nI x) (hz : zSum n v = nI 0) : ∀ r, r < n → v r = nI 0 := by
  have this : ∀ m, m ≤ n → ∃ y, y ≤ m * 198 ∧ zSum m v = nI y ∧ (y = 0 → ∀ r, r < m → v r = nI 0) := fun m => by
    induction m with
    | zero => intro _; exact ⟨0, by omega, rfl, fun _ r hr => absurd hr (by omega)⟩
    | succ m ih =>
      intro hm
      obtain ⟨y, y1, y2, y3⟩ := ih (by omega)
      obtain ⟨z, z1, z2⟩ := hv m (by omega)
      refine ⟨y + z, by rw [Nat.succ_mul]; omega, by rw [zSum_succ, y2, z2, z_nI_add], fun h r hr => ?_⟩
      have hz0 : z = 0 := by omega
      by_cases hrm : r = m
      · rw [hrm, z2, hz0]
      · exact y3 (by omega) r (by omega)
  obtain ⟨y, y1, y2, y3⟩ := this n (Nat.le_refl _)
  have hy : y = 0 := (z_nI_inj (i := y) (j := 0) (by omega) (by omega)).1 (y2.symm.trans hz)
  exact y3 hy
theorem zVb_v {n : Nat} {s : Nat → Int32} (hv : zVb n s) {a : Nat} (ha : a < 2) : ∀ p, p < n → ∃ x, x ≤ 198 ∧ s (10 + 10 * a + p) = nI x := fun p hp => by
  obtain ⟨x, y, e1, e2, e3⟩ := hv p hp
  have h : a = 0 ∨ a = 1 := by omega
  rcases h with rfl | rfl
  · exact ⟨x, by omega, e1⟩
  · exact ⟨y, by omega, e2⟩
/-- a ward's part of what a side wastes -/
def zWs1 (n a : Nat) (s : Nat → Int32) (d : Nat) : Int32 :=
  if zWin (zLc n s d) = nI a then zVot n s (fun p => s (10 + 10 * a + p)) (nI d) - zVot n s (fun p => s (10 + 10 * (1 - a) + p)) (nI d) - nI 1 else zVot n s (fun p => s (10 + 10 * a + p)) (nI d)
theorem zWin_sign {x : Int32} : (zWin x = nI 0 → 0 < x.toInt) ∧ (zWin x = nI 1 → x.toInt < 0) := by
  have z0 : (0 : Int32).toInt = 0 := by decide
  unfold zWin
  by_cases h0 : x = 0
  · rw [if_pos h0]
    exact ⟨fun e => absurd e (by decide), fun e => absurd e (by decide)⟩
  · rw [if_neg h0]
    by_cases h1 : x ≤ 0
    · rw [if_pos h1]
      refine ⟨fun e => absurd e (by decide), fun _ => ?_⟩
      rw [Int32.le_iff_toInt_le, z0] at h1
      have : x.toInt ≠ 0 := fun e => h0 (Int32.toInt_inj.1 (e.trans z0.symm))
      omega
    · rw [if_neg h1]
      refine ⟨fun _ => ?_, fun e => absurd e (by decide)⟩
      rw [Int32.le_iff_toInt_le, z0] at h1
      omega
theorem zWs1_nat {n a : Nat} (h10 : n ≤ 10) (ha : a < 2) {s : Nat → Int32} (hv : zVb n s) (d : Nat) : (∃ u, u ≤ 1980 ∧ zWs1 n a s d = nI u) ∧ (zWin (zLc n s d) = nI a → zAbs (zLc n s d) - nI 1 = zWs1 n a s d) := by
  obtain ⟨x, x1, x2⟩ := zVot_nat (w := s) (zVb_v hv ha) (nI d)
  obtain ⟨y, y1, y2⟩ := zVot_nat (w := s) (zVb_v hv (show 1 - a < 2 by omega)) (nI d)
  have hB : n * 198 ≤ 10 * 198 := Nat.mul_le_mul_right _ h10
  have hl : a = 0 → zLc n s d = zI x - zI y := fun e => by
    subst e
    rw [← zI_nat, ← zI_nat, ← x2, ← y2]; rfl
  have hl1 : a = 1 → zLc n s d = zI y - zI x := fun e => by
    subst e
    rw [← zI_nat, ← zI_nat, ← x2, ← y2]; rfl
  have z0 : (0 : Int32).toInt = 0 := by decide
  unfold zWs1
  by_cases c : zWin (zLc n s d) = nI a
  · rw [if_pos c, x2, y2]
    have h : a = 0 ∨ a = 1 := by omega
    have key : y < x ∧ zAbs (zLc n s d) = nI x - nI y := by
      rcases h with rfl | rfl
      · have hs := zWin_sign.1 c
        rw [hl rfl, zI_sub, zI_toInt (by omega) (by omega)] at hs
        refine ⟨by omega, ?_⟩
        rw [hl rfl]
        unfold zAbs
        rw [if_pos (by rw [Int32.le_iff_toInt_le, z0, zI_sub, zI_toInt (by omega) (by omega)]; omega), zI_nat, zI_nat]
      · have hs := zWin_sign.2 c
        rw [hl1 rfl, zI_sub, zI_toInt (by omega) (by omega)] at hs
        refine ⟨by omega, ?_⟩
        rw [hl1 rfl]
        unfold zAbs
        rw [if_neg (by rw [Int32.le_iff_toInt_le, z0, zI_sub, zI_toInt (by omega) (by omega)]; omega), zI_nat, zI_nat]
        generalize zI x = p
        generalize zI y = q
        grind
    refine ⟨⟨x - y - 1, by omega, ?_⟩, fun _ => ?_⟩
    · rw [z_subN (by omega), z_subN (by omega)]
    · rw [key.2]
  · rw [if_neg c]
    exact ⟨⟨x, by omega, x2⟩, fun h => absurd h c⟩
theorem z_toL {u : Nat} (h : u < 2147483648) : Int32.toInt64 (nI u) = nL u := by
  apply Int64.toInt_inj.1
  rw [Int32.toInt_toInt64, z_nI_toInt h, nL_toInt (by omega)]
theorem z_waste {n : Nat} {X M : TX} (h : zV n X M) (x w : Int32) : zCs (some (nI 1)) (some (nI 2)) (f_X8_waste X x w) (f_X9_waste M x w) := by
  have h10 := h.e.n10
  have g := h.q (zQX.refl X) (zQM_0 M (nI 0))
  have g0 : u2 M 0 0 (nI 0) 0 0 = nI 0 := z_u2s _ _ _ _
  have l1 : f_X9_lets (u2 M 0 0 (nI 0)) (nI 1) (2 : Int32) (1 : Int32) = some (u2 M 0 0 (nI 0), nI 1) := z9_lets1 g0 (nI 2) (nI 1)
  have l0 : f_X9_lets (u2 M 0 0 (nI 0)) (nI 0) (2 : Int32) (1 : Int32) = some (u2 (u2 (u2 M 0 0 (nI 0)) 0 0 (nI 2)) 1 1 (u2 M 0 0 (nI 0) 1 1 + nI 1), nI 0) := z9_lets0 g0 (c := 2) (j := 1) (by omega) (by omega)
  rcases z_nsS (X := X) g0 x with ⟨e1, e2⟩ | ⟨a, ha, rfl, e1, e2⟩
  · have e2' : f_X9_isThere (u2 M 0 0 (0 : Int32)) x (2 : Int32) = _ := e2
    refine zCs_no g (v := nI 0) ?_ ?_
    · unfold f_X8_waste; rw [e1, Option.bind_some, zxb_r]
    · unfold f_X9_waste; rw [e2', Option.bind_some, if_pos z_n00]; rfl
  · have e2' : f_X9_isThere (u2 M 0 0 (0 : Int32)) (nI a) (2 : Int32) = _ := e2
    rcases z_half2 w with ⟨f1, f2⟩ | ⟨hw, f1, f2⟩
    · refine zCs_il (c := 2) (by omega) g (v := nI 0) ?_ ?_
      · unfold f_X8_waste; rw [e1, Option.bind_some, zxb_l, f1, Option.bind_some]
        show (f_X8_need X (nI 0)).bind _ = _
        rw [z8_need0, Option.bind_some, zxb_r]
      · unfold f_X9_waste; rw [e2', Option.bind_some, if_neg z_n10, f2, Option.bind_some, l0, Option.bind_some, if_pos z_n00]; rfl
    · obtain ⟨N, t1, t2, t3, tS, tD, tY, t4⟩ := h.take (zQM_0 M (nI 0))
      have hn : N 0 19 = nI n := tS.a19.trans h.e.kn
      have n0 : N 0 0 = nI 0 := t3 ▸ g0
      have hvb : zVb n (N 20) := tD.vb
      have hs1 := z_one_sub ha
      obtain ⟨U, hU⟩ : ∃ U : Nat → Int32, U = zWs1 n a (N 20) := ⟨_, rfl⟩
      -- what is wasted, as a number
      have nat : ∀ k, ∃ u, u ≤ k * 1980 ∧ zF (fun d x => x + U d) k 0 (nI 0) = nI u := fun k => by
        induction k with
        | zero => exact ⟨0, by omega, rfl⟩
        | succ k ih =>
          obtain ⟨u, u1, u2⟩ := ih
          obtain ⟨v, v1, v2⟩ := (zWs1_nat h10 ha hvb (0 + k)).1
          exact ⟨u + v, by rw [Nat.succ_mul]; omega, by rw [zF_snoc, u2, hU, v2, z_nI_add]⟩
      obtain ⟨u, u1, hu⟩ := nat 4
      obtain ⟨p, p1, hp⟩ := zAll_nat (zVb_v hvb (show 0 < 2 by omega))
      obtain ⟨q, q1, hq⟩ := zAll_nat (zVb_v hvb (show 1 < 2 by omega))
      have hp' : zAll n (N 20) 0 = nI p := hp
      have hq' : zAll n (N 20) 1 = nI q := hq
      have hB : n * 198 ≤ 10 * 198 := Nat.mul_le_mul_right _ h10
      have cl : f_X3_wasted X (nI a) = some (nI u) := by
        rw [← hu]
        refine z_loop (fun f i x => L_X3_wasted_4 f X (nI a) x i) _ some 4 ?_ ?_ 4 0 FU (nI 0) (by omega) (by unfold FU; omega)
        · intro f i x hi
          subst hi
          simp (discharger := omega) only [L_X3_wasted_4, z_lit, z_nI_le, z_nI_lt, z_nI_inj, z_inb, z_nI_tn, z_nI_add, z_nI_mul, z_bitN, z_zb, z_0add, z_add0, z_0or, z_or0, Option.bind_some, decide_eq_true_eq, Nat.zero_add, Nat.add_zero, Nat.le_refl, ↓reduceIte]
        · intro f i x hi
          have h1 : ¬ (4 : Int32) ≤ nI i := fun e => by
            have := (z_nI_le (i := 4) (j := i) (by omega) (by omega)).1 e
            omega
          have wi := z3_win tD hi
          have li := z3_leadIn tD hi
          have wv := z3_wV h.e tD ha (nI i)
          have hst : nI i + (1 : Int32) = nI (i + 1) := z_nI_succ i
          have e : L_X3_wasted_4 (f + 1) X (nI a) x (nI i) = if (4 : Int32) ≤ nI i then (some x) else ((f_X3_winner X (nI i)).bind fun q2 => if q2 = nI a then ((f_X3_leadIn X (nI i)).bind fun q5 => (L_X3_wasted_4 f) X (nI a) (x + (zAbs q5 - (1 : Int32))) (nI i + (1 : Int32))) else ((f_X3_wardVotes X (nI a) (nI i)).bind fun q4 => (L_X3_wasted_4 f) X (nI a) (x + q4) (nI i + (1 : Int32)))) := rfl
          rw [e, if_neg h1, wi, Option.bind_some, hU]
          by_cases c : zWin (zLc n (N 20) i) = nI a
          · have hh := (zWs1_nat h10 ha hvb i).2 c
            have hh' : zAbs (zLc n (N 20) i) - (1 : Int32) = zWs1 n a (N 20) i := hh
            rw [if_pos c, li, Option.bind_some, hh', hst]
          · rw [if_neg c, wv, Option.bind_some, hst]
            unfold zWs1; rw [if_neg c]
      have rf : ∀ A : Int32, L_X9_waste_67 FU N (nI a) w A (0 : Int32) (0 : Int32) = (f_X9_least (Int32.toInt64 (nI u)) (Int32.toInt64 A) w).bind fun q13 => some (N, (Int64.toInt32 q13)) := fun A => by
        rw [← hu]
        refine z_loop (fun f i x => L_X9_waste_67 f N (nI a) w A x i) _ (fun x => (f_X9_least (Int32.toInt64 x) (Int32.toInt64 A) w).bind fun q13 => some (N, (Int64.toInt32 q13))) 4 ?_ ?_ 4 0 FU (nI 0) (by omega) (by unfold FU; omega)
        · intro f i x hi
          subst hi
          simp (discharger := omega) only [L_X9_waste_67, z_lit, z_nI_le, z_nI_lt, z_nI_inj, z_inb, z_nI_tn, z_nI_add, z_nI_mul, z_bitN, z_zb, z_0add, z_add0, z_0or, z_or0, Option.bind_some, decide_eq_true_eq, Nat.zero_add, Nat.add_zero, Nat.le_refl, ↓reduceIte]
        · intro f i x hi
          have h1 : ¬ 4 ≤ i := by omega
          have v0 := z9_votesInSet hn h10 (nI i) ha
          have v1 := z9_votesInSet hn h10 (nI i) (show 1 - a < 2 by omega)
          rw [hU]
          unfold zWs1
          by_cases c : zWin (zLc n (N 20) i) = nI a
          · simp (discharger := omega) only [L_X9_waste_67, h1, z9_setOf hn h10, v0, v1, z9_win hn h10, c, hs1, z_lit, z_nI_le, z_nI_lt, z_nI_inj, z_inb, z_nI_tn, z_nI_add, z_nI_mul, z_bitN, z_zb, z_0add, z_add0, z_0or, z_or0, Option.bind_some, decide_eq_true_eq, Nat.zero_add, Nat.add_zero, ↓reduceIte]
          · simp (discharger := omega) only [L_X9_waste_67, h1, z9_setOf hn h10, v0, z9_win hn h10, c, z_lit, z_nI_le, z_nI_lt, z_nI_inj, z_inb, z_nI_tn, z_nI_add, z_nI_mul, z_bitN, z_zb, z_0add, z_add0, z_0or, z_or0, Option.bind_some, decide_eq_true_eq, Nat.zero_add, Nat.add_zero, ↓reduceIte]
      have a0' : f_X3_allVotes X (0 : Int32) = some (nI p) := (z3_all h.e tD (a := 0) (by omega)).trans (by rw [hp'])
      have a1' : f_X3_allVotes X (1 : Int32) = some (nI q) := (z3_all h.e tD (a := 1) (by omega)).trans (by rw [hq'])
      obtain ⟨e, b1, b2⟩ := z9_all hn h10 (a := 0) (by omega)
      obtain ⟨e', b1', b3⟩ := z9_all hn h10 (a := 1) (by omega)
      rw [b1] at b1'; cases b1'
      rw [hp'] at b2
      rw [hq'] at b3
      have b2' : f_X9_votesIn N e (0 : Int32) = some (nI p) := b2
      have b3' : f_X9_votesIn N e (1 : Int32) = some (nI q) := b3
      have cls : f_X8_waste X (nI a) w = (f_X8_leastTerm (nL u) (nL (p + q)) w).bind fun q7 => some (X, .inl (Int64.toInt32 q7)) := by
        unfold f_X8_waste
        rw [e1, Option.bind_some, zxb_l, f1, Option.bind_some]
        show (f_X8_need X (nI 1)).bind _ = _
        rw [z8_need1, Option.bind_some, zxb_l]
        show (f_X3_wasted X (nI a)).bind _ = _
        rw [cl, Option.bind_some, a0', Option.bind_some, a1', Option.bind_some, z_nI_add, z_toL (by omega), z_toL (by omega)]
      have refs : f_X9_waste M (nI a) w = if nI p + nI q = 0 then some (N, w) else L_X9_waste_67 FU N (nI a) w (nI p + nI q) (0 : Int32) (0 : Int32) := by
        unfold f_X9_waste
        rw [e2', Option.bind_some, if_neg z_n10, f2, Option.bind_some, l1, Option.bind_some, if_neg z_n10, t1, Option.bind_some, b1, Option.bind_some, b2', Option.bind_some, Option.bind_some, b3', Option.bind_some]
      by_cases c : p + q = 0
      · -- no votes
        have hz : nI p + nI q = 0 := by rw [z_nI_add, c]; rfl
        have hu0 : u = 0 := by
          have hp0 : p = 0 := by omega
          have hq0 : q = 0 := by omega
          -- each parish has no votes
          have s0 : zSum n (fun r => N 20 (10 + 10 * 0 + r)) = nI 0 := by rw [hp, hp0]
          have s1 : zSum n (fun r => N 20 (10 + 10 * 1 + r)) = nI 0 := by rw [hq, hq0]
          have k0 := zAll_zero h10 (zVb_v hvb (show 0 < 2 by omega)) s0
          have k1 := zAll_zero h10 (zVb_v hvb (show 1 < 2 by omega)) s1
          have hvz : ∀ (b : Nat), b < 2 → ∀ d, zVot n (N 20) (fun p => N 20 (10 + 10 * b + p)) (nI d) = nI 0 := fun b hb d => by
            have : ∀ r, r < n → ∃ x, x ≤ 0 ∧ N 20 (10 + 10 * b + r) = nI x := fun r hr => by
              have hb' : b = 0 ∨ b = 1 := by omega
              rcases hb' with rfl | rfl
              · exact ⟨0, Nat.le_refl _, k0 r hr⟩
              · exact ⟨0, Nat.le_refl _, k1 r hr⟩
            obtain ⟨x, x1, x2⟩ := zVot_nat (w := N 20) this (nI d)
            have hx0 : x = 0 := Nat.le_zero.1 (Nat.le_trans x1 (Nat.le_of_eq (Nat.mul_zero n)))
            rw [x2, hx0]
          have hWz : ∀ d, zWs1 n a (N 20) d = nI 0 := fun d => by
            have hl : zLc n (N 20) d = 0 := by
              have e0 := hvz 0 (by omega) d
              have e1 := hvz 1 (by omega) d
              have e0' : zVot n (N 20) (fun p => N 20 (10 + p)) (nI d) = nI 0 := e0
              have e1' : zVot n (N 20) (fun p => N 20 (20 + p)) (nI d) = nI 0 := e1
              unfold zLc zLead
              rw [e0', e1']; decide
            unfold zWs1
            rw [hl]
            have hwin : zWin 0 = -nI 1 := by decide
            rw [hwin]
            have hne : ¬ -nI 1 = nI a := by
              have ha' : a = 0 ∨ a = 1 := by omega
              rcases ha' with rfl | rfl <;> decide
            rw [if_neg hne, hvz a ha d]
          have h4 : zF (fun d x => x + U d) 4 0 (nI 0) = nI 0 := by
            have : ∀ k, zF (fun d x => x + U d) k 0 (nI 0) = nI 0 := fun k => by
              induction k with
              | zero => rfl
              | succ k ih => rw [zF_snoc, ih, hU, hWz]; decide
            exact this 4
          exact (z_nI_inj (by omega) (by omega)).1 (hu.symm.trans h4)
        refine zCs_ok h ?_ ?_ n0 (zQX.refl X) t2 (v := w)
        · rw [cls, hu0]
          unfold f_X8_leastTerm
          rw [if_pos ((nL_cmp (by omega)).2 rfl)]
          rcases hw with rfl | rfl
          · rw [if_pos z_n00]; rfl
          · rw [if_neg z_n10]; rfl
        · rw [refs, if_pos hz]
      · have hnz : ¬ nI p + nI q = 0 := fun e => by
          rw [z_nI_add] at e
          exact c ((z_nI_inj (j := 0) (by omega) (by omega)).1 e)
        obtain ⟨v, v1, v2⟩ := z_least (u := u) (b := p + q) (by omega) (by omega) (Nat.lt_of_le_of_lt (show p + q ≤ 3960 by omega) (by decide)) hw
        refine zCs_ok h ?_ ?_ n0 (zQX.refl X) t2 (v := Int64.toInt32 v)
        · rw [cls, v1]; rfl
        · rw [refs, if_neg hnz, rf, z_nI_add, z_toL (by omega), z_toL (by omega), v2]; rfl
