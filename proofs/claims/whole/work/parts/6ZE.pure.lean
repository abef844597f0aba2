set_option linter.unusedVariables false
theorem z_half2 (x : Int32) : (f_X8_isHalf x = some (nI 0) ∧ f_X9_within x (0 : Int32) (1 : Int32) = some (nI 0)) ∨ ((x = nI 0 ∨ x = nI 1) ∧ f_X8_isHalf x = some (nI 1) ∧ f_X9_within x (0 : Int32) (1 : Int32) = some (nI 1)) := by
  rw [z8_half]
  rcases z_hlf x with h | ⟨h, h2⟩
  · right
    refine ⟨h, by rw [if_pos h], ?_⟩
    rcases h with rfl | rfl <;> rfl
  · left
    rw [if_neg h]
    refine ⟨rfl, ?_⟩
    rcases h2 with h2 | ⟨h2, h3⟩
    · exact z9_lo h2
    · exact z9_hi h2 h3
theorem z8_need1' (X : TX) : f_X8_need X (1 : Int32) = some (X, .inl ()) := z8_need1 X
theorem z_tide {n : Nat} {X M : TX} (h : zV n X M) (w : Int32) : zCs none (some (nI 1)) (f_X8_tide X w) (f_X9_tide M w) := by
  have g := h.q (zQX.refl X) (zQM_0 M (nI 0))
  have g0 : u2 M 0 0 (nI 0) 0 0 = nI 0 := z_u2s _ _ _ _
  have l1 : f_X9_lets (u2 M 0 0 (0 : Int32)) (nI 1) (1 : Int32) (1 : Int32) = some (u2 M 0 0 (nI 0), nI 1) := z9_lets1 g0 (nI 1) (nI 1)
  have l0 : f_X9_lets (u2 M 0 0 (0 : Int32)) (nI 0) (1 : Int32) (1 : Int32) = some (u2 (u2 (u2 M 0 0 (nI 0)) 0 0 (nI 1)) 1 1 (u2 M 0 0 (nI 0) 1 1 + nI 1), nI 0) := z9_lets0 g0 (c := 1) (j := 1) (by omega) (by omega)
  rcases z_half2 w with ⟨e1, e2⟩ | ⟨hw, e1, e2⟩
  · refine zCs_il (c := 1) (by omega) g (v := nI 0) ?_ ?_
    · unfold f_X8_tide; rw [e1, Option.bind_some, z8_need0, Option.bind_some, zxb_r]
    · unfold f_X9_tide; rw [e2, Option.bind_some, l0, Option.bind_some, if_pos z_n00]; rfl
  · obtain ⟨t, ht, x6, m6, htd⟩ := h.e.td
    have ms : ∀ j, j ≠ 0 → u2 M 0 0 (nI 0) 0 j = M 0 j := fun j hj => z_u2j _ _ _ _ hj
    have mk : ∀ k, k ≠ 0 → u2 M 0 0 (nI 0) k = M k := fun k hk => z_u2k _ _ _ _ hk
    by_cases ht0 : t = 0
    · subst ht0
      refine zCs_ok h ?_ ?_ g0 (zQX.refl X) (zQM_0 M (nI 0)) (v := -nI 1)
      · unfold f_X8_tide
        rw [e1, Option.bind_some, z8_need1, Option.bind_some, zxb_l]
        show (if X 3 6 = 0 then _ else _) = _
        rw [x6, if_pos (by rfl)]; rfl
      · unfold f_X9_tide
        rw [e2, Option.bind_some, l1, Option.bind_some, if_neg z_n10]
        show (if u2 M 0 0 (nI 0) 0 20 = 0 then _ else _) = _
        rw [ms 20 (by decide), m6, if_pos (by rfl)]; rfl
    · have hne : ¬ M 0 20 = nI 0 := by rw [m6, z_nI_inj (by omega) (by omega)]; exact ht0
      obtain ⟨g1, a, b, ha, hb, hix, f1, f2, f3, f4⟩ := z3_tideOf h.e (s := M 19) (h.y.mono (by omega)) hne
      have hye : X 3 8 = M 19 32 := h.d.year
      have a7 : f_X8_at 7 X (nI (zTix M (M 19))) = some (nI a) := by rw [z_at (show zTix M (M 19) < lenX 7 from hix) (by decide), f1]
      have a8 : f_X8_at 8 X (nI (zTix M (M 19))) = some (nI b) := by rw [z_at (show zTix M (M 19) < lenX 8 from hix) (by decide), f3]
      have hs1 : f_X3_comingSide X = some (nI a) := by unfold f_X3_comingSide; rw [hye, g1, Option.bind_some, a7]; rfl
      have hs2 : f_X3_comingShare X = some (nI b) := by unfold f_X3_comingShare; rw [hye, g1, Option.bind_some, a8]; rfl
      obtain ⟨y, hy, ey⟩ := h.y
      have hixy : zTix M (M 19) = y % t := by unfold zTix; rw [ey, m6, z_nI_tn (by omega), z_nI_tn (by omega)]
      have her : nI y - nI y / nI t * nI t = nI (y % t) := z_rem (by omega) (by omega) (by omega)
      have hn0 : ¬ nI t = (0 : Int32) := fun e => ht0 ((z_nI_inj (j := 0) (by omega) (by omega)).1 e)
      rw [hixy] at f2 f4 hix
      have h32 : (32 : Nat) < 34 := by omega
      have i0 : 2 * (y % t) < 12 := by omega
      have i1 : 2 * (y % t) + 1 < 12 := by omega
      rcases hw with rfl | rfl
      · refine zCs_ok h ?_ ?_ g0 (zQX.refl X) (zQM_0 M (nI 0)) (v := nI a)
        · unfold f_X8_tide
          rw [e1, Option.bind_some, z8_need1, Option.bind_some, zxb_l]
          show (if X 3 6 = 0 then _ else _) = _
          rw [x6, if_neg hn0, if_pos (by rfl), hs1]; rfl
        · simp (discharger := omega) only [f_X9_tide, z9_within, z_lit, l1, ms, mk, m6, ht0, ey, her, h32, i0, f2, Int32.lt_irrefl, z9_lets1 g0, z_nI_lt, z_nI_inj, z_inb, z_nI_tn, z_nI_mul, z_nI_add, Nat.add_zero, decide_eq_true_eq, Option.bind_some, ↓reduceIte, Nat.lt_irrefl, Nat.not_lt_zero, Nat.one_ne_zero]
      · refine zCs_ok h ?_ ?_ g0 (zQX.refl X) (zQM_0 M (nI 0)) (v := nI b)
        · unfold f_X8_tide
          rw [e1, Option.bind_some, z8_need1, Option.bind_some, zxb_l]
          show (if X 3 6 = 0 then _ else _) = _
          rw [x6, if_neg hn0, if_neg (by decide), hs2]; rfl
        · simp (discharger := omega) only [f_X9_tide, z9_within, z_lit, l1, ms, mk, m6, ht0, ey, her, h32, i1, f4, Int32.lt_irrefl, z9_lets1 g0, z_nI_lt, z_nI_inj, z_inb, z_nI_tn, z_nI_mul, z_nI_add, Nat.add_zero, decide_eq_true_eq, Option.bind_some, ↓reduceIte, Nat.lt_irrefl, Nat.not_lt_zero, Nat.one_ne_zero]
def zAbs (x : Int32) : Int32 := if 0 ≤ x then x else 0 - x
theorem z9_leadOf {M : TX} {n : Nat} (hn : M 0 19 = nI n) (h10 : n ≤ 10) (d : Nat) : f_X9_leadOf M (nI d) = some (zAbs (zLc n (M 20) d)) := by
  have u0 : f_X9_votesIn M (zSet n (M 20) (nI d)) (0 : Int32) = _ := z9_votesInSet hn h10 (nI d) (s := 0) (by omega)
  have u1 : f_X9_votesIn M (zSet n (M 20) (nI d)) (1 : Int32) = _ := z9_votesInSet hn h10 (nI d) (s := 1) (by omega)
  unfold f_X9_leadOf
  rw [z9_setOf hn h10, Option.bind_some, u0, Option.bind_some, Option.bind_some, u1, Option.bind_some]
  unfold zAbs zLc zLead
  by_cases c : 0 ≤ zVot n (M 20) (fun p => M 20 (10 + 10 * 0 + p)) (nI d) - zVot n (M 20) (fun p => M 20 (10 + 10 * 1 + p)) (nI d)
  · have c' : 0 ≤ zVot n (M 20) (fun p => M 20 (10 + p)) (nI d) - zVot n (M 20) (fun p => M 20 (20 + p)) (nI d) := c
    rw [if_pos c, if_pos c']
  · have c' : ¬ 0 ≤ zVot n (M 20) (fun p => M 20 (10 + p)) (nI d) - zVot n (M 20) (fun p => M 20 (20 + p)) (nI d) := c
    rw [if_neg c, if_neg c']
    have e : ∀ x : Int32, -x = 0 - x := fun x => by grind
    rw [e]
theorem z3_leadIn {n : Nat} {s : Nat → Int32} {X : TX} (hD : zD n s X) {d : Nat} (hd : d < 4) : f_X3_leadIn X (nI d) = some (zLc n s d) := by
  unfold f_X3_leadIn
  rw [z_at (show d < lenX 10 from hd) (by decide), Option.bind_some, hD.lead d hd]
theorem z_flip {n : Nat} {X M : TX} (h : zV n X M) (x : Int32) : zCs (some (nI 1)) none (f_X8_flip X x) (f_X9_flip M x) := by
  have h10 := h.e.n10
  have g := h.q (zQX.refl X) (zQM_0 M (nI 0))
  have g0 : u2 M 0 0 (nI 0) 0 0 = nI 0 := z_u2s _ _ _ _
  rcases z_nwS (X := X) g0 x with ⟨e1, e2⟩ | ⟨p, hp, rfl, e1, e2⟩
  · have e2' : f_X9_isThere (u2 M 0 0 (0 : Int32)) x (4 : Int32) = _ := e2
    refine zCs_no g (v := nI 0) ?_ ?_
    · unfold f_X8_flip; rw [e1, Option.bind_some, zxb_r]
    · unfold f_X9_flip; rw [e2', Option.bind_some, if_pos z_n00]; rfl
  · have e2' : f_X9_isThere (u2 M 0 0 (0 : Int32)) (nI p) (4 : Int32) = _ := e2
    obtain ⟨N, t1, t2, t3, tS, tD, tY, t4⟩ := h.take (zQM_0 M (nI 0))
    have hn : N 0 19 = nI n := tS.a19.trans h.e.kn
    refine zCs_ok h ?_ ?_ (t3 ▸ g0 : N 0 0 = nI 0) (zQX.refl X) t2 (v := (zAbs (zLc n (N 20) p) + 1) / 2)
    · unfold f_X8_flip; rw [e1, Option.bind_some, zxb_l, z3_leadIn tD hp]; rfl
    · unfold f_X9_flip; rw [e2', Option.bind_some, if_neg z_n10, t1, Option.bind_some, z9_leadOf hn h10]; rfl
/-- a call that only asks and refuses nothing -/
def zCq (n : Nat) (X M : TX) (q : Option Int32) (r : Option (TX × Int32)) : Prop := ∃ N v, q = some v ∧ r = some (N, v) ∧ zV n X N
theorem z3_over {n : Nat} {K X : TX} {s : Nat → Int32} (hE : zE n K X) (hD : zD n s X) {p : Nat} (hp : p < n) : f_X3_roadsOverLine X (nI p) = some (K 7 p &&& (zSet n s (s p) ^^^ -nI 1)) := by
  have h10 := hE.n10
  obtain ⟨c, hc, hwp⟩ := hD.xw p hp
  rw [z3_roadsOverLine (show p < 10 by omega) hc (by rw [hD.w p (by omega), hwp]), hE.r p (by omega), hD.set c hc, hwp]
theorem z_border {n : Nat} {X M : TX} (h : zV n X M) : zCq n X M (f_X8_border X) (f_X9_border M) := by
  have h10 := h.e.n10
  obtain ⟨N, t1, t2, t3, tS, tD, tY, t4⟩ := h.take (zQM_0 M (nI 0))
  have hn : N 0 19 = nI n := tS.a19.trans h.e.kn
  have t1' : f_X9_take (u2 M 0 0 (0 : Int32)) = some N := t1
  refine ⟨N, zF (fun p a => if M 7 p &&& (zSet n (N 20) (N 20 p) ^^^ -nI 1) = nI 0 then a else a ||| zb p) n 0 (nI 0), ?_, ?_, h.q (zQX.refl X) t2⟩
  · refine z_loop (fun f i a => L_X8_border_4 f X a i) _ some n ?_ ?_ n 0 FU (nI 0) (by omega) (by unfold FU; omega)
    · intro f i a hi
      subst hi
      simp (discharger := omega) only [L_X8_border_4, h.e.xn, z_lit, z_nI_le, z_nI_lt, z_nI_inj, z_inb, z_nI_tn, z_nI_add, z_nI_mul, z_bitN, z_zb, z_0add, z_add0, z_0or, z_or0, Option.bind_some, decide_eq_true_eq, Nat.zero_add, Nat.add_zero, Nat.le_refl, ↓reduceIte]
    · intro f i a hi
      have h1 : ¬ n ≤ i := by omega
      have ho := z3_over h.e tD hi
      by_cases c : M 7 i &&& (zSet n (N 20) (N 20 i) ^^^ -nI 1) = nI 0
      · simp (discharger := omega) only [L_X8_border_4, h.e.xn, ho, h1, c, z_lit, z_nI_le, z_nI_lt, z_nI_inj, z_inb, z_nI_tn, z_nI_add, z_nI_mul, z_bitN, z_zb, z_0add, z_add0, z_0or, z_or0, Option.bind_some, decide_eq_true_eq, Nat.zero_add, Nat.add_zero, ↓reduceIte]
      · simp (discharger := omega) only [L_X8_border_4, h.e.xn, ho, h1, c, z_lit, z_nI_le, z_nI_lt, z_nI_inj, z_inb, z_nI_tn, z_nI_add, z_nI_mul, z_bitN, z_zb, z_0add, z_add0, z_0or, z_or0, Option.bind_some, decide_eq_true_eq, Nat.zero_add, Nat.add_zero, ↓reduceIte]
  · unfold f_X9_border
    rw [t1', Option.bind_some]
    refine z_loop (fun f i a => L_X9_border_13 f N a i) _ (fun a => some (N, a)) n ?_ ?_ n 0 FU (nI 0) (by omega) (by unfold FU; omega)
    · intro f i a hi
      subst hi
      simp (discharger := omega) only [L_X9_border_13, hn, z_lit, z_nI_le, z_nI_lt, z_nI_inj, z_inb, z_nI_tn, z_nI_add, z_nI_mul, z_bitN, z_zb, z_0add, z_add0, z_0or, z_or0, Option.bind_some, decide_eq_true_eq, Nat.zero_add, Nat.add_zero, Nat.le_refl, ↓reduceIte]
    · intro f i a hi
      have h1 : ¬ n ≤ i := by omega
      have i1 : i < 10 := by omega
      have i2 : i < 34 := by omega
      by_cases c : M 7 i &&& (zSet n (N 20) (N 20 i) ^^^ -nI 1) = nI 0
      · simp (discharger := omega) only [L_X9_border_13, hn, h1, i1, i2, z9_setOf hn h10, tS.m7, c, z_lit, z_nI_le, z_nI_lt, z_nI_inj, z_inb, z_nI_tn, z_nI_add, z_nI_mul, z_bitN, z_zb, z_0add, z_add0, z_0or, z_or0, Option.bind_some, decide_eq_true_eq, Nat.zero_add, Nat.add_zero, ↓reduceIte]
      · simp (discharger := omega) only [L_X9_border_13, hn, h1, i1, i2, z9_setOf hn h10, tS.m7, c, z_lit, z_nI_le, z_nI_lt, z_nI_inj, z_inb, z_nI_tn, z_nI_add, z_nI_mul, z_bitN, z_zb, z_0add, z_add0, z_0or, z_or0, Option.bind_some, decide_eq_true_eq, Nat.zero_add, Nat.add_zero, ↓reduceIte]
theorem z_lone {n : Nat} {X M : TX} (h : zV n X M) : zCq n X M (f_X8_lone X) (f_X9_lone M) := by
  have h10 := h.e.n10
  obtain ⟨N, t1, t2, t3, tS, tD, tY, t4⟩ := h.take (zQM_0 M (nI 0))
  have hn : N 0 19 = nI n := tS.a19.trans h.e.kn
  have t1' : f_X9_take (u2 M 0 0 (0 : Int32)) = some N := t1
  have hbd : ∀ d q, bt (zSet n (N 20) (nI d)) q = (decide (q < n) && decide (N 20 q = nI d)) := fun d q => bt_zSet (by omega) _ _ _
  obtain ⟨y, y1, y2⟩ : ∃ y, f_X8_lone X = some y ∧ ∀ q, bt y q = (decide (q < n) && decide (zCnt 10 (zSet n (N 20) (N 20 q)) = 1)) := by
    have hl := z_loopE (fun f i a => L_X8_lone_4 f X a i) (fun i y => ∀ q, bt y q = (decide (q < n) && (decide (zCnt 10 (zSet n (N 20) (N 20 q)) = 1) && decide (∃ d, d < i ∧ N 20 q = nI d)))) some 4 ?_ ?_ 4 0 FU (nI 0) (fun q => by
      have : ¬ ∃ d, d < 0 ∧ N 20 q = nI d := fun ⟨d, h, _⟩ => by omega
      simp [bt_nI0]) (by omega) (by unfold FU; omega)
    · obtain ⟨y, e1, e2⟩ := hl
      refine ⟨y, e1, fun q => ?_⟩
      rw [e2 q]
      by_cases hq : q < n
      · obtain ⟨d, hd, e⟩ := tD.xw q hq
        have : ∃ d, d < 4 ∧ N 20 q = nI d := ⟨d, hd, e⟩
        simp [this]
      · simp [hq]
    · intro f y _
      show L_X8_lone_4 (f + 1) X y (nI 4) = some y
      unfold L_X8_lone_4
      rw [if_pos (by decide)]
    · intro f i y hi hy
      have h1 : ¬ (4 : Int32) ≤ nI i := fun hh => by
        have := (z_nI_le (i := 4) (j := i) (by omega) (by omega)).1 hh
        omega
      have hm := z3_mOf tD hi
      have hb : f_J6_bitCount_0f7a4 (zSet n (N 20) (nI i)) = some (nI (zCnt 10 (zSet n (N 20) (nI i)))) := z_bc (zSet_10 h10 _ _)
      have hcle := zCnt_le 10 (zSet n (N 20) (nI i))
      have hone : (nI (zCnt 10 (zSet n (N 20) (nI i))) = (1 : Int32)) ↔ zCnt 10 (zSet n (N 20) (nI i)) = 1 := z_nI_inj (j := 1) (by omega) (by omega)
      have hst : nI i + (1 : Int32) = nI (i + 1) := z_nI_succ i
      have hex : ∀ q, (∃ d, d < i + 1 ∧ N 20 q = nI d) ↔ ((∃ d, d < i ∧ N 20 q = nI d) ∨ N 20 q = nI i) := fun q => by
        constructor
        · rintro ⟨d, hd, e⟩
          by_cases c : d = i
          · subst c; exact .inr e
          · exact .inl ⟨d, by omega, e⟩
        · rintro (⟨d, hd, e⟩ | e)
          · exact ⟨d, by omega, e⟩
          · exact ⟨i, by omega, e⟩
      by_cases c : zCnt 10 (zSet n (N 20) (nI i)) = 1
      · refine ⟨y ||| zSet n (N 20) (nI i), ?_, fun q => ?_⟩
        · show L_X8_lone_4 (f + 1) X y (nI i) = _
          show (if (4 : Int32) ≤ nI i then _ else _) = _
          rw [if_neg h1, hm, Option.bind_some, hb, Option.bind_some, if_pos (hone.2 c), hst]
        · rw [bt_or, hy q, hbd]
          by_cases hq : q < n
          · by_cases e : N 20 q = nI i
            · have e2 : ∃ d, d < i + 1 ∧ N 20 q = nI d := ⟨i, by omega, e⟩
              have e3 : zCnt 10 (zSet n (N 20) (N 20 q)) = 1 := by rw [e]; exact c
              rw [decide_eq_true e2, decide_eq_true e3, decide_eq_true hq, decide_eq_true e]; simp
            · have e4 := hex q
              simp only [e, or_false] at e4
              simp [hq, e, e4]
          · simp [hq]
      · refine ⟨y, ?_, fun q => ?_⟩
        · show L_X8_lone_4 (f + 1) X y (nI i) = _
          show (if (4 : Int32) ≤ nI i then _ else _) = _
          rw [if_neg h1, hm, Option.bind_some, hb, Option.bind_some, if_neg (fun hh => c (hone.1 hh)), hst]
        · rw [hy q]
          by_cases e : N 20 q = nI i
          · have e3 : ¬ zCnt 10 (zSet n (N 20) (N 20 q)) = 1 := by rw [e]; exact c
            simp [e3]
          · have e4 := hex q
            simp only [e, or_false] at e4
            simp [e4]
  refine ⟨N, y, y1, ?_, h.q (zQX.refl X) t2⟩
  unfold f_X9_lone
  rw [t1', Option.bind_some]
  have hl := z_loopE (fun f i a => L_X9_lone_13 f N a i) (fun i z => ∀ q, bt z q = (decide (q < i) && decide (zCnt 10 (zSet n (N 20) (N 20 q)) = 1))) (fun a => some (N, a)) n ?_ ?_ n 0 FU (nI 0) (fun q => by simp [bt_nI0]) (by omega) (by unfold FU; omega)
  · obtain ⟨z, e1, e2⟩ := hl
    have : y = z := bt_ext fun q _ => (y2 q).trans (e2 q).symm
    subst this
    exact e1
  · intro f z _
    simp (discharger := omega) only [L_X9_lone_13, hn, z_lit, z_nI_le, z_nI_lt, z_nI_inj, z_inb, z_nI_tn, z_nI_add, z_nI_mul, z_bitN, z_zb, z_0add, z_add0, z_0or, z_or0, Option.bind_some, decide_eq_true_eq, Nat.zero_add, Nat.add_zero, Nat.le_refl, ↓reduceIte]
  · intro f i z hi hz
    have h1 : ¬ n ≤ i := by omega
    have i2 : i < 34 := by omega
    have hcle := zCnt_le 10 (zSet n (N 20) (N 20 i))
    by_cases c : zCnt 10 (zSet n (N 20) (N 20 i)) = 1
    · refine ⟨z ||| zb i, ?_, fun q => ?_⟩
      · simp (discharger := omega) only [L_X9_lone_13, hn, h1, i2, z9_setOf hn h10, z9_ones, c, z_lit, z_nI_le, z_nI_lt, z_nI_inj, z_inb, z_nI_tn, z_nI_add, z_nI_mul, z_bitN, z_zb, z_0add, z_add0, z_0or, z_or0, Option.bind_some, decide_eq_true_eq, Nat.zero_add, Nat.add_zero, ↓reduceIte]
      · rw [bt_or, bt_zb (by omega), hz q]
        by_cases e : q = i
        · subst e; simp [c]
        · have k1 : q < i + 1 ↔ q < i := by omega
          have k2 : ¬ i = q := fun e' => e e'.symm
          simp [k1, k2]
    · refine ⟨z, ?_, fun q => ?_⟩
      · simp (discharger := omega) only [L_X9_lone_13, hn, h1, i2, z9_setOf hn h10, z9_ones, c, z_lit, z_nI_le, z_nI_lt, z_nI_inj, z_inb, z_nI_tn, z_nI_add, z_nI_mul, z_bitN, z_zb, z_0add, z_add0, z_0or, z_or0, Option.bind_some, decide_eq_true_eq, Nat.zero_add, Nat.add_zero, ↓reduceIte]
      · rw [hz q]
        by_cases e : q = i
        · subst e; simp [c]
        · have k1 : q < i + 1 ↔ q < i := by omega
          simp [k1]
