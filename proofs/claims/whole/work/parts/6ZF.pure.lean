set_option linter.unusedVariables false
theorem z9_cl55 {M : TX} {n : Nat} (hn : M 0 19 = nI n) (h10 : n ≤ 10) (k : TX → Int32 → Int32 → Int32 → Option (TX × Int32)) (S x rd : Int32) :
    L_X9_cluster_55 k FU M S x rd (nI 0) = k M S (zPass (M 7) S n x) (rd + nI 1) := by
  refine z_loop (fun f i a => L_X9_cluster_55 k f M S a rd i) (fun p x => if bt x p then x ||| (M 7 p &&& S) else x) (fun y => k M S y (rd + nI 1)) n ?_ ?_ n 0 FU x (by omega) (by unfold FU; omega)
  · intro f i a h
    subst h
    simp (discharger := omega) only [L_X9_cluster_55, hn, z_lit, z_nI_le, z_nI_lt, z_nI_inj, z_inb, z_nI_tn, z_nI_add, z_nI_mul, z_bitN, z_zb, z_0add, z_add0, z_0or, z_or0, Option.bind_some, decide_eq_true_eq, Nat.zero_add, Nat.add_zero, Nat.le_refl, ↓reduceIte]
  · intro f i a h
    have h1 : ¬ n ≤ i := by omega
    have h2 : i < 10 := by omega
    simp (discharger := omega) only [L_X9_cluster_55, hn, z_lit, z_nI_le, z_nI_lt, z_nI_inj, z_inb, z_nI_tn, z_nI_add, z_nI_mul, z_bitN, z_zb, z_0add, z_add0, z_0or, z_or0, Option.bind_some, decide_eq_true_eq, Nat.zero_add, Nat.add_zero, h1, h2, ↓reduceIte]
    cases bt a i
    · have : ¬ (0 : Nat) = 1 := by omega
      simp (discharger := omega) only [z_lit, z_nI_le, z_nI_lt, z_nI_inj, z_inb, z_nI_tn, z_nI_add, z_nI_mul, z_bitN, z_zb, z_0add, z_add0, z_0or, z_or0, Option.bind_some, decide_eq_true_eq, Nat.zero_add, Nat.add_zero, ↓reduceIte, Bool.false_eq_true, this]
    · simp (discharger := omega) only [z_lit, z_nI_le, z_nI_lt, z_nI_inj, z_inb, z_nI_tn, z_nI_add, z_nI_mul, z_bitN, z_zb, z_0add, z_add0, z_0or, z_or0, Option.bind_some, decide_eq_true_eq, Nat.zero_add, Nat.add_zero, ↓reduceIte]
theorem z9_cl43 {M : TX} {n : Nat} (hn : M 0 19 = nI n) (h10 : n ≤ 10) (S : Int32) : ∀ k f x, k ≤ n → k < f → L_X9_cluster_43 f M S x (nI (n - k)) = some (M, zIt (M 7) S n k x)
  | 0, f + 1, x, _, _ => by
    simp (discharger := omega) only [L_X9_cluster_43, hn, z_lit, z_nI_le, z_nI_lt, z_nI_inj, z_inb, z_nI_tn, z_nI_add, z_nI_mul, z_bitN, z_zb, z_0add, z_add0, z_0or, z_or0, Option.bind_some, decide_eq_true_eq, Nat.zero_add, Nat.add_zero, Nat.sub_zero, Nat.le_refl, ↓reduceIte, zIt]
  | k + 1, f + 1, x, hk, hf => by
    have h1 : ¬ n ≤ n - (k + 1) := by omega
    have h2 : n - (k + 1) + 1 = n - k := by omega
    simp (discharger := omega) only [L_X9_cluster_43, hn, z_lit, z_nI_le, z_nI_lt, z_nI_inj, z_inb, z_nI_tn, z_nI_add, z_nI_mul, z_bitN, z_zb, z_0add, z_add0, z_0or, z_or0, Option.bind_some, decide_eq_true_eq, Nat.zero_add, Nat.add_zero, h1, z9_cl55 hn h10, h2, z9_cl43 hn h10 S k f _ (show k ≤ n by omega) (show k < f by omega), zIt, ↓reduceIte]
theorem z_cluster {n : Nat} {X M : TX} (h : zV n X M) (x : Int32) : zCs (some (nI 1)) none (f_X8_cluster X x) (f_X9_cluster M x) := by
  have h10 := h.e.n10
  have g := h.q (zQX.refl X) (zQM_0 M (nI 0))
  have g0 : u2 M 0 0 (nI 0) 0 0 = nI 0 := z_u2s _ _ _ _
  have gn : u2 M 0 0 (0 : Int32) 0 19 = nI n := by rw [z_u2j _ _ _ _ (by decide)]; exact h.e.kn
  rcases z_npS h x with ⟨e1, e2⟩ | ⟨p, hp, rfl, e1, e2⟩
  · have e2' : f_X9_isThere (u2 M 0 0 (0 : Int32)) x (nI n) = _ := e2
    refine zCs_no g (v := nI 0) ?_ ?_
    · unfold f_X8_cluster; rw [e1, Option.bind_some, zxb_r]
    · unfold f_X9_cluster; rw [gn, e2', Option.bind_some, if_pos z_n00]; rfl
  · have e2' : f_X9_isThere (u2 M 0 0 (0 : Int32)) (nI p) (nI n) = _ := e2
    obtain ⟨N, t1, t2, t3, tS, tD, tY, t4⟩ := h.take (zQM_0 M (nI 0))
    have hn : N 0 19 = nI n := tS.a19.trans h.e.kn
    obtain ⟨c, hc, hwp⟩ := tD.xw p hp
    have hWb : ∀ q, bt (zSet n (N 20) (N 20 p)) q = true → q < n := fun q hq => by
      rw [bt_zSet (by omega)] at hq; simp at hq; omega
    have hxb : ∀ q, bt (zb p) q = true → q < n := fun q hq => by
      rw [bt_zb (by omega)] at hq; simp at hq; omega
    refine zCs_ok h ?_ ?_ (t3 ▸ g0 : N 0 0 = nI 0) (zQX.refl X) t2 (v := zIt (N 7) (zSet n (N 20) (N 20 p)) n n (zb p))
    · unfold f_X8_cluster
      rw [e1, Option.bind_some, zxb_l, z3_wOf tD (by omega), Option.bind_some, hwp, z3_mOf tD hc, Option.bind_some, z3_reached h.e.xn h10, Option.bind_some, ← hwp]
      have := zIt_more (r := X 6) hWb hxb (10 - n)
      rw [show n + (10 - n) = 10 by omega] at this
      have e3 : zIt (X 6) (zSet n (N 20) (N 20 p)) n 10 (zb p) = zIt (N 7) (zSet n (N 20) (N 20 p)) n n (zb p) := by
        rw [this, tS.m7]; exact zIt_congr (fun q hq => h.e.r q (by omega)) _ _
      exact congrArg (fun z => some (X, Sum.inl z)) e3
    · have i34 : inb ((0 : Int32) + nI p) 34 = true := by
        rw [show (0 : Int32) + nI p = nI p from z_0add _, z_inb (by omega)]; simp; omega
      have tn : Int32.toNatClampNeg ((0 : Int32) + nI p) = p := by
        rw [show (0 : Int32) + nI p = nI p from z_0add _, z_nI_tn (by omega)]
      unfold f_X9_cluster
      rw [gn, e2', Option.bind_some, if_neg z_n10, t1, Option.bind_some, if_pos i34, tn, z9_setOf hn h10, Option.bind_some]
      have := z9_cl43 hn h10 (zSet n (N 20) (N 20 p)) n FU (zb p) (Nat.le_refl _) (by unfold FU; omega)
      rw [Nat.sub_self] at this
      exact this
def zNo (o : Option Nat) : Int32 := match o with | none => -1 | some d => nI d
theorem zNo_none {o : Option Nat} (h : ∀ d, o = some d → d < 100) : (zNo o = -nI 1) ↔ o = none := by
  cases o with
  | none => exact ⟨fun _ => rfl, fun _ => rfl⟩
  | some d =>
    have hl := h d rfl
    constructor
    · intro e
      have e : nI d = -nI 1 := e
      have := congrArg Int32.toInt e
      rw [z_nI_toInt (by omega)] at this
      have h2 : (-nI 1 : Int32).toInt = -1 := by decide
      omega
    · intro e; cases e
/-- the parish in which a side leads most -/
def zSoS (L : Nat → Int32) (p : Nat) (b : Option Nat × Int32) : Option Nat × Int32 := if b.2 < L p then (some p, L p) else b
def zSo (L : Nat → Int32) (k : Nat) : Option Nat × Int32 := zF (zSoS L) k 0 (none, nI 0)
theorem zSo_p (L : Nat → Int32) : ∀ k, k ≤ 10 → ((zSo L k).1 = none ∧ (zSo L k).2 = nI 0) ∨ (∃ d, d < k ∧ (zSo L k).1 = some d ∧ nI 0 < (zSo L k).2)
  | 0, _ => .inl ⟨rfl, rfl⟩
  | k + 1, hk => by
    have ih := zSo_p L k (by omega)
    unfold zSo at *
    rw [zF_snoc, Nat.zero_add]
    generalize zF (zSoS L) k 0 (none, nI 0) = b at *
    unfold zSoS
    by_cases c : b.2 < L k
    · rw [if_pos c]
      refine .inr ⟨k, by omega, rfl, ?_⟩
      rcases ih with ⟨_, h2⟩ | ⟨d, _, _, h2⟩
      · rw [h2] at c; exact c
      · rw [Int32.lt_iff_toInt_lt] at *; show (nI 0).toInt < (L k).toInt; omega
    · rw [if_neg c]
      rcases ih with h | ⟨d, h1, h2⟩
      · exact .inl h
      · exact .inr ⟨d, by omega, h2⟩
theorem z_strongest {n : Nat} {X M : TX} (h : zV n X M) (x w : Int32) : zCs (some (nI 1)) (some (nI 2)) (f_X8_strongest X x w) (f_X9_strongest M x w) := by
  have h10 := h.e.n10
  have g := h.q (zQX.refl X) (zQM_0 M (nI 0))
  have g0 : u2 M 0 0 (nI 0) 0 0 = nI 0 := z_u2s _ _ _ _
  have l1 : f_X9_lets (u2 M 0 0 (nI 0)) (nI 1) (2 : Int32) (1 : Int32) = some (u2 M 0 0 (nI 0), nI 1) := z9_lets1 g0 (nI 2) (nI 1)
  have l0 : f_X9_lets (u2 M 0 0 (nI 0)) (nI 0) (2 : Int32) (1 : Int32) = some (u2 (u2 (u2 M 0 0 (nI 0)) 0 0 (nI 2)) 1 1 (u2 M 0 0 (nI 0) 1 1 + nI 1), nI 0) := z9_lets0 g0 (c := 2) (j := 1) (by omega) (by omega)
  rcases z_nsS (X := X) g0 x with ⟨e1, e2⟩ | ⟨a, ha, rfl, e1, e2⟩
  · have e2' : f_X9_isThere (u2 M 0 0 (0 : Int32)) x (2 : Int32) = _ := e2
    refine zCs_no g (v := nI 0) ?_ ?_
    · unfold f_X8_strongest; rw [e1, Option.bind_some, zxb_r]
    · unfold f_X9_strongest; rw [e2', Option.bind_some, if_pos z_n00]; rfl
  · have e2' : f_X9_isThere (u2 M 0 0 (0 : Int32)) (nI a) (2 : Int32) = _ := e2
    rcases z_half2 w with ⟨f1, f2⟩ | ⟨hw, f1, f2⟩
    · refine zCs_il (c := 2) (by omega) g (v := nI 0) ?_ ?_
      · unfold f_X8_strongest; rw [e1, Option.bind_some, zxb_l, f1, Option.bind_some]
        show (f_X8_need X (nI 0)).bind _ = _
        rw [z8_need0, Option.bind_some, zxb_r]
      · unfold f_X9_strongest; rw [e2', Option.bind_some, if_neg z_n10, f2, Option.bind_some, l0, Option.bind_some, if_pos z_n00]; rfl
    · obtain ⟨N, t1, t2, t3, tS, tD, tY, t4⟩ := h.take (zQM_0 M (nI 0))
      have hn : N 0 19 = nI n := tS.a19.trans h.e.kn
      obtain ⟨L, hL⟩ : ∃ L : Nat → Int32, L = fun p => N 20 (10 + 10 * a + p) - N 20 (10 + 10 * (1 - a) + p) := ⟨_, rfl⟩
      have hLp : ∀ p, N 20 (10 + 10 * a + p) - N 20 (10 + 10 * (1 - a) + p) = L p := fun p => by rw [hL]
      have hs1 := z_one_sub ha
      -- the class
      have key : ∃ m, L_X8_strongest_21 FU X (nI a) w (-1 : Int32) (-1 : Int32) (0 : Int32) = (if w = 0 then some (X, .inl (zNo (zSo L n).1)) else some (X, .inl m)) ∧ m = (if (zSo L n).1 = none then -nI 1 else (zSo L n).2) := by
        have hl := z_loopE (fun f i (s : Int32 × Int32) => L_X8_strongest_21 f X (nI a) w s.1 s.2 i) (fun i s => s.1 = zNo (zSo L i).1 ∧ s.2 = if (zSo L i).1 = none then -nI 1 else (zSo L i).2) (fun s => if w = 0 then some (X, .inl s.1) else some (X, .inl s.2)) n ?_ ?_ n 0 FU (-1, -1) ⟨rfl, rfl⟩ (by omega) (by unfold FU; omega)
        · obtain ⟨s, k1, k2, k3⟩ := hl
          exact ⟨s.2, by rw [← k2]; exact k1, k3⟩
        · rintro f ⟨b, m⟩ _
          simp (discharger := omega) only [L_X8_strongest_21, h.e.xn, z_lit, z_nI_le, z_nI_lt, z_nI_inj, z_inb, z_nI_tn, z_nI_add, z_nI_mul, z_bitN, z_zb, z_0add, z_add0, z_0or, z_or0, Option.bind_some, decide_eq_true_eq, Nat.zero_add, Nat.add_zero, Nat.le_refl, ↓reduceIte]
        · rintro f i ⟨b, m⟩ hi ⟨k1, k2⟩
          simp only at k1 k2
          have h1 : ¬ n ≤ i := by omega
          have v0 := z3_vOf tD ha (show i < 10 by omega)
          have v1 := z3_vOf tD (show 1 - a < 2 by omega) (show i < 10 by omega)
          have hst : zSo L (i + 1) = zSoS L i (zSo L i) := by unfold zSo; rw [zF_snoc, Nat.zero_add]
          have hp := zSo_p L i (by omega)
          rw [hst]
          generalize zSo L i = o at *
          unfold zSoS
          have z0 : (nI 0).toInt = 0 := by decide
          have zm : (-nI 1 : Int32).toInt = -1 := by decide
          by_cases c : o.2 < L i
          · rw [if_pos c]
            refine ⟨(nI i, L i), ?_, rfl, rfl⟩
            have c1 : ¬ L i ≤ nI 0 := by
              rw [Int32.le_iff_toInt_le, z0]; rw [Int32.lt_iff_toInt_lt] at c
              rcases hp with ⟨_, p2⟩ | ⟨d, _, _, p2⟩
              · rw [p2, z0] at c; omega
              · rw [Int32.lt_iff_toInt_lt, z0] at p2; omega
            have c2 : ¬ L i ≤ m := by
              rw [Int32.le_iff_toInt_le]; rw [Int32.lt_iff_toInt_lt] at c
              rcases hp with ⟨p1, p2⟩ | ⟨d, _, p1, p2⟩
              · rw [k2, if_pos p1, zm]; rw [p2, z0] at c; omega
              · rw [k2, if_neg (by rw [p1]; exact fun h => nomatch h)]; omega
            simp (discharger := omega) only [L_X8_strongest_21, h.e.xn, h1, v0, v1, hs1, hLp, c1, c2, z_lit, z_nI_le, z_nI_lt, z_nI_inj, z_inb, z_nI_tn, z_nI_add, z_nI_mul, z_bitN, z_zb, z_0add, z_add0, z_0or, z_or0, Option.bind_some, decide_eq_true_eq, Nat.zero_add, Nat.add_zero, ↓reduceIte]
          · rw [if_neg c]
            refine ⟨(b, m), ?_, k1, k2⟩
            by_cases c1 : L i ≤ nI 0
            · simp (discharger := omega) only [L_X8_strongest_21, h.e.xn, h1, v0, v1, hs1, hLp, c1, z_lit, z_nI_le, z_nI_lt, z_nI_inj, z_inb, z_nI_tn, z_nI_add, z_nI_mul, z_bitN, z_zb, z_0add, z_add0, z_0or, z_or0, Option.bind_some, decide_eq_true_eq, Nat.zero_add, Nat.add_zero, ↓reduceIte]
            · have c2 : L i ≤ m := by
                rw [Int32.le_iff_toInt_le] at *; rw [Int32.lt_iff_toInt_lt] at c
                rw [z0] at c1
                rcases hp with ⟨p1, p2⟩ | ⟨d, _, p1, p2⟩
                · rw [p2, z0] at c; omega
                · rw [k2, if_neg (by rw [p1]; exact fun h => nomatch h)]; omega
              simp (discharger := omega) only [L_X8_strongest_21, h.e.xn, h1, v0, v1, hs1, hLp, c1, c2, z_lit, z_nI_le, z_nI_lt, z_nI_inj, z_inb, z_nI_tn, z_nI_add, z_nI_mul, z_bitN, z_zb, z_0add, z_add0, z_0or, z_or0, Option.bind_some, decide_eq_true_eq, Nat.zero_add, Nat.add_zero, ↓reduceIte]
      obtain ⟨m, k1, k2⟩ := key
      -- the reference
      have ref : L_X9_strongest_43 FU N (nI a) w (-1 : Int32) (0 : Int32) (0 : Int32) = if w = 0 then some (N, zNo (zSo L n).1) else (if zNo (zSo L n).1 = -nI 1 then some (N, zNo (zSo L n).1) else some (N, (zSo L n).2)) := by
        refine (z_loop (fun f i (s : Option Nat × Int32) => L_X9_strongest_43 f N (nI a) w (zNo s.1) s.2 i) (zSoS L) (fun s => if w = 0 then some (N, zNo s.1) else (if zNo s.1 = -nI 1 then some (N, zNo s.1) else some (N, s.2))) n ?_ ?_ n 0 FU (none, nI 0) (by omega) (by unfold FU; omega))
        · rintro f i ⟨b, m⟩ hi
          subst hi
          simp (discharger := omega) only [L_X9_strongest_43, hn, z_lit, z_nI_le, z_nI_lt, z_nI_inj, z_inb, z_nI_tn, z_nI_add, z_nI_mul, z_bitN, z_zb, z_0add, z_add0, z_0or, z_or0, Option.bind_some, decide_eq_true_eq, Nat.zero_add, Nat.add_zero, Nat.le_refl, ↓reduceIte]
          rfl
        · rintro f i ⟨b, m⟩ hi
          have h1 : ¬ n ≤ i := by omega
          have v0 : f_X9_votesOf N (nI i) (nI a) = _ := z9_votesOf ha (show i < 10 by omega)
          have v1 : f_X9_votesOf N (nI i) (nI (1 - a)) = _ := z9_votesOf (show 1 - a < 2 by omega) (show i < 10 by omega)
          unfold zSoS
          by_cases c : m < L i
          · simp (discharger := omega) only [L_X9_strongest_43, hn, h1, v0, v1, hs1, hLp, c, z_lit, z_nI_le, z_nI_lt, z_nI_inj, z_inb, z_nI_tn, z_nI_add, z_nI_mul, z_bitN, z_zb, z_0add, z_add0, z_0or, z_or0, Option.bind_some, decide_eq_true_eq, Nat.zero_add, Nat.add_zero, ↓reduceIte, zNo]
          · simp (discharger := omega) only [L_X9_strongest_43, hn, h1, v0, v1, hs1, hLp, c, z_lit, z_nI_le, z_nI_lt, z_nI_inj, z_inb, z_nI_tn, z_nI_add, z_nI_mul, z_bitN, z_zb, z_0add, z_add0, z_0or, z_or0, Option.bind_some, decide_eq_true_eq, Nat.zero_add, Nat.add_zero, ↓reduceIte]
      have hno : zNo (zSo L n).1 = -nI 1 ↔ (zSo L n).1 = none := zNo_none fun d hd => by
        rcases zSo_p L n h10 with ⟨p1, _⟩ | ⟨e, p0, p1, _⟩
        · rw [p1] at hd; cases hd
        · rw [p1] at hd; cases hd; omega
      refine zCs_ok h ?_ ?_ (t3 ▸ g0 : N 0 0 = nI 0) (zQX.refl X) t2 (v := if w = 0 then zNo (zSo L n).1 else m)
      · unfold f_X8_strongest; rw [e1, Option.bind_some, zxb_l, f1, Option.bind_some]
        show (f_X8_need X (nI 1)).bind _ = _
        rw [z8_need1, Option.bind_some, zxb_l]
        show L_X8_strongest_21 FU X (nI a) w (-1 : Int32) (-1 : Int32) (0 : Int32) = _
        rw [k1]
        by_cases c : w = 0
        · rw [if_pos c, if_pos c]
        · rw [if_neg c, if_neg c]
      · unfold f_X9_strongest; rw [e2', Option.bind_some, if_neg z_n10, f2, Option.bind_some, l1, Option.bind_some, if_neg z_n10, t1, Option.bind_some, ref]
        by_cases c : w = 0
        · rw [if_pos c, if_pos c]
        · rw [if_neg c, if_neg c, k2]
          by_cases c2 : (zSo L n).1 = none
          · rw [if_pos (hno.2 c2), if_pos c2, hno.2 c2]
          · rw [if_neg (fun h => c2 (hno.1 h)), if_neg c2]
