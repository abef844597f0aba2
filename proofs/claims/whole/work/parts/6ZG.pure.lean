set_option linter.unusedVariables false
/-- all votes of a ward -/
def zVs (n : Nat) (s : Nat → Int32) (d : Nat) : Int32 := zVot n s (fun p => s (10 + p)) (nI d) + zVot n s (fun p => s (20 + p)) (nI d)
theorem z9_votersOf {M : TX} {n : Nat} (hn : M 0 19 = nI n) (h10 : n ≤ 10) (d : Nat) : f_X9_votersOf M (nI d) = some (zVs n (M 20) d) := by
  have u0 : f_X9_votesIn M (zSet n (M 20) (nI d)) (0 : Int32) = _ := z9_votesInSet hn h10 (nI d) (s := 0) (by omega)
  have u1 : f_X9_votesIn M (zSet n (M 20) (nI d)) (1 : Int32) = _ := z9_votesInSet hn h10 (nI d) (s := 1) (by omega)
  unfold f_X9_votersOf
  rw [z9_setOf hn h10, Option.bind_some, u0, Option.bind_some, Option.bind_some, u1, Option.bind_some]
  rfl
/-- of the wards that P lets, the first with the least A, and the most of all -/
def zLeS (P : Nat → Bool) (A : Nat → Int32) (d : Nat) (b : Option Nat) : Option Nat :=
  if P d = true then (match b with | none => some d | some e => if A e ≤ A d then some e else some d) else b
def zLe (P : Nat → Bool) (A : Nat → Int32) (k : Nat) : Option Nat := zF (zLeS P A) k 0 none
theorem zLe_succ (P : Nat → Bool) (A : Nat → Int32) (k : Nat) : zLe P A (k + 1) = zLeS P A k (zLe P A k) := by unfold zLe; rw [zF_snoc, Nat.zero_add]
theorem zLe_p (P : Nat → Bool) (A : Nat → Int32) : ∀ k d, zLe P A k = some d → d < k
  | 0, d, h => by cases h
  | k + 1, d, h => by
    rw [zLe_succ] at h
    have ih := zLe_p P A k
    generalize zLe P A k = o at *
    unfold zLeS at h
    by_cases c : P k = true
    · rw [if_pos c] at h
      cases o with
      | none => cases h; omega
      | some e =>
        have := ih e rfl
        simp only at h
        by_cases c2 : A e ≤ A k
        · rw [if_pos c2] at h; cases h; omega
        · rw [if_neg c2] at h; cases h; omega
    · rw [if_neg c] at h
      have := ih d h
      omega
/-- the most votes of a ward -/
def zMoS (P : Nat → Bool) (A : Nat → Int32) (d : Nat) (m : Int32) : Int32 := if P d = true then (if m < A d then A d else m) else m
def zMost (P : Nat → Bool) (A : Nat → Int32) (k : Nat) : Int32 := zF (zMoS P A) k 0 (nI 0)
theorem zMost_succ (P : Nat → Bool) (A : Nat → Int32) (k : Nat) : zMost P A (k + 1) = zMoS P A k (zMost P A k) := by unfold zMost; rw [zF_snoc, Nat.zero_add]
def zAt (A : Nat → Int32) (o : Option Nat) (v : Int32) : Int32 := match o with | none => v | some e => A e
theorem z_someN {o : Option Nat} {d : Nat} (h : o = some d) (hd : d < 4) : ¬ zNo o = -nI 1 := by
  subst h
  intro e
  have e : nI d = -nI 1 := e
  have := congrArg Int32.toInt e
  rw [z_nI_toInt (by omega)] at this
  have h2 : (-nI 1 : Int32).toInt = -1 := by decide
  omega
theorem z_ltle {a b : Int32} (h : ¬ b ≤ a) : a < b := Int32.not_le.1 h
theorem z_smallest {n : Nat} {X M : TX} (h : zV n X M) (w : Int32) : zCs none (some (nI 1)) (f_X8_smallest X w) (f_X9_smallest M w) := by
  have h10 := h.e.n10
  have g := h.q (zQX.refl X) (zQM_0 M (nI 0))
  have g0 : u2 M 0 0 (nI 0) 0 0 = nI 0 := z_u2s _ _ _ _
  have l1 : f_X9_lets (u2 M 0 0 (0 : Int32)) (nI 1) (1 : Int32) (1 : Int32) = some (u2 M 0 0 (nI 0), nI 1) := z9_lets1 g0 (nI 1) (nI 1)
  have l0 : f_X9_lets (u2 M 0 0 (0 : Int32)) (nI 0) (1 : Int32) (1 : Int32) = some (u2 (u2 (u2 M 0 0 (nI 0)) 0 0 (nI 1)) 1 1 (u2 M 0 0 (nI 0) 1 1 + nI 1), nI 0) := z9_lets0 g0 (c := 1) (j := 1) (by omega) (by omega)
  rcases z_half2 w with ⟨e1, e2⟩ | ⟨hw, e1, e2⟩
  · refine zCs_il (c := 1) (by omega) g (v := nI 0) ?_ ?_
    · unfold f_X8_smallest; rw [e1, Option.bind_some, z8_need0, Option.bind_some, zxb_r]
    · unfold f_X9_smallest; rw [e2, Option.bind_some, l0, Option.bind_some, if_pos z_n00]; rfl
  · obtain ⟨N, t1, t2, t3, tS, tD, tY, t4⟩ := h.take (zQM_0 M (nI 0))
    have hn : N 0 19 = nI n := tS.a19.trans h.e.kn
    obtain ⟨P, hP⟩ : ∃ P : Nat → Bool, P = fun d => decide (zSet n (N 20) (nI d) ≠ nI 0) := ⟨_, rfl⟩
    obtain ⟨A, hA⟩ : ∃ A : Nat → Int32, A = zVs n (N 20) := ⟨_, rfl⟩
    have hPd : ∀ d, P d = true ↔ ¬ zSet n (N 20) (nI d) = nI 0 := fun d => by rw [hP]; simp
    have w0 : ∀ d, f_X3_wardVotes X (nI 0) (nI d) = some (zVot n (N 20) (fun p => N 20 (10 + p)) (nI d)) := fun d => z3_wV h.e tD (a := 0) (by omega) (nI d)
    have w1 : ∀ d, f_X3_wardVotes X (nI 1) (nI d) = some (zVot n (N 20) (fun p => N 20 (20 + p)) (nI d)) := fun d => z3_wV h.e tD (a := 1) (by omega) (nI d)
    have hs : ∀ d, zVot n (N 20) (fun p => N 20 (10 + p)) (nI d) + zVot n (N 20) (fun p => N 20 (20 + p)) (nI d) = A d := fun d => by rw [hA]; rfl
    have vo : ∀ d, f_X9_votersOf N (nI d) = some (A d) := fun d => by rw [hA]; exact z9_votersOf hn h10 d
    have t10 : ¬ ((1 : Nat) = 0) := by decide
    have cl : L_X8_smallest_18 FU X w (-1 : Int32) (0 : Int32) (0 : Int32) (0 : Int32) = if w = nI 0 then some (X, .inl (zNo (zLe P A 4))) else if zNo (zLe P A 4) = -nI 1 then some (X, .inl (zNo (zLe P A 4))) else some (X, .inl (zMost P A 4 - zAt A (zLe P A 4) (nI 0))) := by
      have hl := z_loopE (fun f i (s : Int32 × Int32 × Int32) => L_X8_smallest_18 f X w s.1 s.2.1 s.2.2 i) (fun i s => s.1 = zNo (zLe P A i) ∧ s.2.1 = zAt A (zLe P A i) (nI 0) ∧ s.2.2 = zMost P A i) (fun s => if w = nI 0 then some (X, .inl s.1) else if s.1 = -nI 1 then some (X, .inl s.1) else some (X, .inl (s.2.2 - s.2.1))) 4 ?_ ?_ 4 0 FU (-1, 0, 0) ⟨rfl, rfl, rfl⟩ (by omega) (by unfold FU; omega)
      · obtain ⟨s, k1, k2, k3, k4⟩ := hl
        rw [k2, k3, k4] at k1
        exact k1
      · rintro f ⟨b, v, m⟩ _
        simp (discharger := omega) only [L_X8_smallest_18, z_lit, z_nI_le, z_nI_lt, z_nI_inj, z_inb, z_nI_tn, z_nI_add, z_nI_mul, z_bitN, z_zb, z_0add, z_add0, z_0or, z_or0, Option.bind_some, decide_eq_true_eq, Nat.zero_add, Nat.add_zero, Nat.le_refl, ↓reduceIte]
        rfl
      · rintro f i ⟨b, v, m⟩ hi ⟨k1, k2, k3⟩
        simp only at k1 k2 k3
        have h1 : ¬ 4 ≤ i := by omega
        have hm := z3_mOf tD hi
        have hlt := zLe_p P A i
        rw [zLe_succ, zMost_succ]
        subst k1 k2 k3
        unfold zLeS zMoS
        by_cases c : zSet n (N 20) (nI i) = nI 0
        · have c' : ¬ P i = true := fun h => (hPd i).1 h c
          rw [if_neg c', if_neg c']
          refine ⟨(zNo (zLe P A i), zAt A (zLe P A i) (nI 0), zMost P A i), ?_, rfl, rfl, rfl⟩
          simp (discharger := omega) only [L_X8_smallest_18, h1, hm, c, z_lit, z_nI_le, z_nI_lt, z_nI_inj, z_inb, z_nI_tn, z_nI_add, z_nI_mul, z_bitN, z_zb, z_0add, z_add0, z_0or, z_or0, Option.bind_some, decide_eq_true_eq, Nat.zero_add, Nat.add_zero, ↓reduceIte]
        · have c' : P i = true := (hPd i).2 c
          rw [if_pos c', if_pos c']
          cases ho : zLe P A i with
          | none =>
            refine ⟨(nI i, A i, if zMost P A i < A i then A i else zMost P A i), ?_, rfl, rfl, rfl⟩
            have hz : zNo none = -nI 1 := rfl
            simp (discharger := omega) only [L_X8_smallest_18, h1, hm, c, w0, w1, hs, hz, z_lit, z_nI_le, z_nI_lt, z_nI_inj, z_inb, z_nI_tn, z_nI_add, z_nI_mul, z_bitN, z_zb, z_0add, z_add0, z_0or, z_or0, Option.bind_some, decide_eq_true_eq, Nat.zero_add, Nat.add_zero, ↓reduceIte]
          | some e =>
            have hz := z_someN (rfl : some e = some e) (show e < 4 by have := hlt e ho; omega)
            by_cases c2 : A e ≤ A i
            · refine ⟨(nI e, A e, if zMost P A i < A i then A i else zMost P A i), ?_, ?_, ?_, rfl⟩
              · simp (discharger := omega) only [L_X8_smallest_18, h1, hm, c, w0, w1, hs, hz, zAt, c2, z_lit, z_nI_le, z_nI_lt, z_nI_inj, z_inb, z_nI_tn, z_nI_add, z_nI_mul, z_bitN, z_zb, z_0add, z_add0, z_0or, z_or0, Option.bind_some, decide_eq_true_eq, Nat.zero_add, Nat.add_zero, ↓reduceIte]; rfl
              · simp only [c2, ↓reduceIte]; rfl
              · simp only [c2, ↓reduceIte]; rfl
            · refine ⟨(nI i, A i, if zMost P A i < A i then A i else zMost P A i), ?_, ?_, ?_, rfl⟩
              · simp (discharger := omega) only [L_X8_smallest_18, h1, hm, c, w0, w1, hs, hz, zAt, c2, z_lit, z_nI_le, z_nI_lt, z_nI_inj, z_inb, z_nI_tn, z_nI_add, z_nI_mul, z_bitN, z_zb, z_0add, z_add0, z_0or, z_or0, Option.bind_some, decide_eq_true_eq, Nat.zero_add, Nat.add_zero, ↓reduceIte]
              · simp only [c2, ↓reduceIte]; rfl
              · simp only [c2, ↓reduceIte]; rfl
    have rf : L_X9_smallest_33 FU N w (-1 : Int32) (0 : Int32) (0 : Int32) = if w = nI 0 then some (N, zNo (zLe P A 4)) else if zNo (zLe P A 4) = -nI 1 then some (N, zNo (zLe P A 4)) else some (N, zMost P A 4 - zAt A (zLe P A 4) (nI 0)) := by
      have hl := z_loopE (fun f i (s : Int32 × Int32) => L_X9_smallest_33 f N w s.1 s.2 i) (fun i s => s.1 = zNo (zLe P A i) ∧ s.2 = zMost P A i) (fun s => if w = nI 0 then some (N, s.1) else if s.1 = -nI 1 then some (N, s.1) else (f_X9_votersOf N s.1).bind fun q8 => some (N, (s.2 - q8))) 4 ?_ ?_ 4 0 FU (-1, 0) ⟨rfl, rfl⟩ (by omega) (by unfold FU; omega)
      · obtain ⟨s, k1, k2, k3⟩ := hl
        rw [k2, k3] at k1
        refine k1.trans ?_
        by_cases c : w = nI 0
        · rw [if_pos c, if_pos c]
        · rw [if_neg c, if_neg c]
          cases ho : zLe P A 4 with
          | none => rfl
          | some e =>
            have hz := z_someN (rfl : some e = some e) (zLe_p P A 4 e ho)
            rw [if_neg hz, if_neg hz]
            show (f_X9_votersOf N (nI e)).bind _ = _
            rw [vo]; rfl
      · rintro f ⟨b, m⟩ _
        simp (discharger := omega) only [L_X9_smallest_33, z_lit, z_nI_le, z_nI_lt, z_nI_inj, z_inb, z_nI_tn, z_nI_add, z_nI_mul, z_bitN, z_zb, z_0add, z_add0, z_0or, z_or0, Option.bind_some, decide_eq_true_eq, Nat.zero_add, Nat.add_zero, Nat.le_refl, ↓reduceIte]
        rfl
      · rintro f i ⟨b, m⟩ hi ⟨k1, k3⟩
        simp only at k1 k3
        have h1 : ¬ 4 ≤ i := by omega
        have hlt := zLe_p P A i
        rw [zLe_succ, zMost_succ]
        subst k1 k3
        have hmx : (if zMost P A i < A i then A i else zMost P A i) = if A i ≤ zMost P A i then zMost P A i else A i := by
          by_cases c : A i ≤ zMost P A i
          · rw [if_pos c, if_neg (Int32.not_lt.2 c)]
          · rw [if_neg c, if_pos (z_ltle c)]
        unfold zLeS zMoS
        by_cases c : zSet n (N 20) (nI i) = nI 0
        · have c' : ¬ P i = true := fun h => (hPd i).1 h c
          rw [if_neg c', if_neg c']
          refine ⟨(zNo (zLe P A i), zMost P A i), ?_, rfl, rfl⟩
          simp (discharger := omega) only [L_X9_smallest_33, h1, z9_setOf hn h10, c, z_lit, z_nI_le, z_nI_lt, z_nI_inj, z_inb, z_nI_tn, z_nI_add, z_nI_mul, z_bitN, z_zb, z_0add, z_add0, z_0or, z_or0, Option.bind_some, decide_eq_true_eq, Nat.zero_add, Nat.add_zero, ↓reduceIte]
        · have c' : P i = true := (hPd i).2 c
          rw [if_pos c', if_pos c', hmx]
          cases ho : zLe P A i with
          | none =>
            have hz : zNo none = -nI 1 := rfl
            refine ⟨(nI i, if A i ≤ zMost P A i then zMost P A i else A i), ?_, rfl, rfl⟩
            by_cases c3 : A i ≤ zMost P A i
            · simp (discharger := omega) only [L_X9_smallest_33, h1, z9_setOf hn h10, c, vo, hz, c3, z_lit, z_nI_le, z_nI_lt, z_nI_inj, z_inb, z_nI_tn, z_nI_add, z_nI_mul, z_bitN, z_zb, z_0add, z_add0, z_0or, z_or0, Option.bind_some, decide_eq_true_eq, Nat.zero_add, Nat.add_zero, ↓reduceIte]
            · simp (discharger := omega) only [L_X9_smallest_33, h1, z9_setOf hn h10, c, vo, hz, c3, z_lit, z_nI_le, z_nI_lt, z_nI_inj, z_inb, z_nI_tn, z_nI_add, z_nI_mul, z_bitN, z_zb, z_0add, z_add0, z_0or, z_or0, Option.bind_some, decide_eq_true_eq, Nat.zero_add, Nat.add_zero, ↓reduceIte]
          | some e =>
            have hz := z_someN (rfl : some e = some e) (show e < 4 by have := hlt e ho; omega)
            have he : zNo (some e) = nI e := rfl
            rw [he] at hz
            by_cases c2 : A e ≤ A i
            · refine ⟨(nI e, if A i ≤ zMost P A i then zMost P A i else A i), ?_, ?_, rfl⟩
              · by_cases c3 : A i ≤ zMost P A i
                · simp (discharger := omega) only [L_X9_smallest_33, h1, z9_setOf hn h10, c, vo, he, hz, c2, c3, z_lit, z_nI_le, z_nI_lt, z_nI_inj, z_inb, z_nI_tn, z_nI_add, z_nI_mul, z_bitN, z_zb, z_0add, z_add0, z_0or, z_or0, Option.bind_some, decide_eq_true_eq, Nat.zero_add, Nat.add_zero, ↓reduceIte]
                · simp (discharger := omega) only [L_X9_smallest_33, h1, z9_setOf hn h10, c, vo, he, hz, c2, c3, z_lit, z_nI_le, z_nI_lt, z_nI_inj, z_inb, z_nI_tn, z_nI_add, z_nI_mul, z_bitN, z_zb, z_0add, z_add0, z_0or, z_or0, Option.bind_some, decide_eq_true_eq, Nat.zero_add, Nat.add_zero, ↓reduceIte]
              · simp only [c2, ↓reduceIte]; rfl
            · refine ⟨(nI i, if A i ≤ zMost P A i then zMost P A i else A i), ?_, ?_, rfl⟩
              · by_cases c3 : A i ≤ zMost P A i
                · simp (discharger := omega) only [L_X9_smallest_33, h1, z9_setOf hn h10, c, vo, he, hz, c2, c3, z_lit, z_nI_le, z_nI_lt, z_nI_inj, z_inb, z_nI_tn, z_nI_add, z_nI_mul, z_bitN, z_zb, z_0add, z_add0, z_0or, z_or0, Option.bind_some, decide_eq_true_eq, Nat.zero_add, Nat.add_zero, ↓reduceIte]
                · simp (discharger := omega) only [L_X9_smallest_33, h1, z9_setOf hn h10, c, vo, he, hz, c2, c3, z_lit, z_nI_le, z_nI_lt, z_nI_inj, z_inb, z_nI_tn, z_nI_add, z_nI_mul, z_bitN, z_zb, z_0add, z_add0, z_0or, z_or0, Option.bind_some, decide_eq_true_eq, Nat.zero_add, Nat.add_zero, ↓reduceIte]
              · simp only [c2, ↓reduceIte]; rfl
    refine zCs_ok h ?_ ?_ (t3 ▸ g0 : N 0 0 = nI 0) (zQX.refl X) t2 (v := if w = nI 0 then zNo (zLe P A 4) else if zNo (zLe P A 4) = -nI 1 then zNo (zLe P A 4) else zMost P A 4 - zAt A (zLe P A 4) (nI 0))
    · unfold f_X8_smallest; rw [e1, Option.bind_some, z8_need1, Option.bind_some, zxb_l]
      refine cl.trans ?_
      by_cases c : w = nI 0
      · rw [if_pos c, if_pos c]
      · rw [if_neg c, if_neg c]; split <;> rfl
    · unfold f_X9_smallest; rw [e2, Option.bind_some, l1, Option.bind_some, if_neg z_n10, t1, Option.bind_some]
      refine rf.trans ?_
      by_cases c : w = nI 0
      · rw [if_pos c, if_pos c]
      · rw [if_neg c, if_neg c]; split <;> rfl
