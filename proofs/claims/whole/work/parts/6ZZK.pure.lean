set_option linter.unusedVariables false
def zTM (M N : TX) : Prop := (∀ k, k ≠ 0 → N k = M k) ∧ ∀ j, j ≠ 4 → N 0 j = M 0 j
theorem zTM.refl (X : TX) : zTM X X := ⟨fun _ _ => rfl, fun _ _ => rfl⟩
theorem zTM.trans {X Y Z : TX} (h : zTM X Y) (g : zTM Y Z) : zTM X Z := ⟨fun k a => (g.1 k a).trans (h.1 k a), fun j a => (g.2 j a).trans (h.2 j a)⟩
theorem zTM_u (X : TX) (v : Int32) : zTM X (u2 X 0 4 v) :=
  ⟨fun k hk => z_u2k _ _ _ _ hk, fun i a => z_u2j _ _ _ _ a⟩
/-- the class has refused: kind and place -/
def zTF (X Y : TX) (kd pl : Nat) : Prop := (∀ k, k ≠ 1 → Y k = X k) ∧ Y 1 1 = X 1 1 ∧ Y 1 6 = nI kd ∧ Y 1 7 = nI pl
/-- the reference has refused -/
def zMF (s : Nat) (T : Nat → Nat) (M N : TX) (kd pl : Nat) : Prop := (∀ k, k ≠ 0 → N k = M k) ∧ (∀ j, j ≠ 4 → j ≠ 5 → j ≠ 6 → N 0 j = M 0 j) ∧ N 0 5 = nI pl ∧ N 0 6 = nI kd ∧ pl ≤ s ∧ ∃ a, zJm s T a N
theorem zTX.tf {X Y Z : TX} {kd pl : Nat} (h : zTX X Y) (g : zTF Y Z kd pl) : zTF X Z kd pl :=
  ⟨fun k a => (g.1 k a).trans (h.1 k a), g.2.1.trans (h.2 1 (by decide) (by decide) (by decide)), g.2.2⟩
theorem zTM.mf {s : Nat} {T : Nat → Nat} {M N P : TX} {kd pl : Nat} (h : zTM M N) (g : zMF s T N P kd pl) : zMF s T M P kd pl :=
  ⟨fun k a => (g.1 k a).trans (h.1 k a), fun j a b c => (g.2.1 j a b c).trans (h.2 j a), g.2.2⟩
theorem z7_fail {X : TX} {kd pl : Nat} : ∃ Y, f_X7_fail X (nI kd) (nI pl) = some (Y, nI 0) ∧ zTF X Y kd pl :=
  ⟨_, rfl, fun k a => by rw [z_u2k _ _ _ _ a, z_u2k _ _ _ _ a], by rw [z_u2j _ _ _ _ (by decide), z_u2j _ _ _ _ (by decide)], by rw [z_u2j _ _ _ _ (by decide), z_u2s], z_u2s _ _ _ _⟩
theorem z9_wrong {s : Nat} {T : Nat → Nat} {p : Nat} {M : TX} {kd pl : Nat} (h : zJm s T p M) (hf : M 0 5 = -nI 1) (hp : pl ≤ s) : ∃ N, f_X9_wrong M (nI kd) (nI pl) = some N ∧ zMF s T M N kd pl := by
  refine ⟨u2 (u2 M 0 5 (nI pl)) 0 6 (nI kd), ?_, fun k a => by rw [z_u2k _ _ _ _ a, z_u2k _ _ _ _ a], fun j _ a b => by rw [z_u2j _ _ _ _ b, z_u2j _ _ _ _ a], by rw [z_u2j _ _ _ _ (by decide), z_u2s], z_u2s _ _ _ _, hp, p, ?_⟩
  · have hf' : M 0 5 = (-1 : Int32) := hf
    unfold f_X9_wrong
    rw [if_pos hf']
  · exact h.fr (by rw [z_u2k _ _ _ _ (by decide), z_u2k _ _ _ _ (by decide)]) (by rw [z_u2j _ _ _ _ (by decide), z_u2j _ _ _ _ (by decide)]) (by rw [z_u2j _ _ _ _ (by decide), z_u2j _ _ _ _ (by decide)]; exact h.mp) h.ps
theorem z_ne1 {a : Nat} (h : a < 2147483648) : ¬ nI a = -nI 1 := fun e => by
  have h1 : nI a < 0 := by rw [e]; decide
  exact z_nI_nn h h1
theorem z9_fine1 {M : TX} (h : M 0 5 = -nI 1) : f_X9_fine M = some (nI 1) := by
  have h' : M 0 5 = (-1 : Int32) := h
  unfold f_X9_fine
  rw [if_pos h']; rfl
theorem z9_fine0 {M : TX} {a : Nat} (h : M 0 5 = nI a) (ha : a ≤ 600) : f_X9_fine M = some (nI 0) := by
  unfold f_X9_fine
  have h' : ¬ M 0 5 = (-1 : Int32) := by rw [h]; exact z_ne1 (by omega)
  rw [if_neg h']; rfl
/-- a number's bound, one more than it -/
def zBe (b : Nat) : Int32 := nI b - nI 1
theorem zBe_le {v b : Nat} (hv : v < 1000000) (hb : b ≤ 1000) : nI v ≤ zBe b ↔ v < b := by
  unfold zBe
  cases b with
  | zero =>
    have e : nI 0 - nI 1 = -nI 1 := by decide
    rw [e]
    constructor
    · intro h
      have h1 : (nI v).toInt ≤ (-nI 1 : Int32).toInt := Int32.le_iff_toInt_le.1 h
      rw [z_nI_toInt (by omega), show (-nI 1 : Int32).toInt = -1 from by decide] at h1
      omega
    · intro h; omega
  | succ b =>
    rw [z_subN (by omega), z_nI_le (by omega) (by omega)]; omega
def zNR (c r : Nat) : Prop := (c = r ∧ r ≤ 1000) ∨ (c = 1000 ∧ 1000 ≤ r ∧ r ≤ 99999)
/-- a number, read on both sides -/
def zNo1 (s : Nat) (T : Nat → Nat) (q b : Nat) (X M : TX) (x : Option (TX × Int32)) (m : Option (TX × Int32)) : Prop :=
  (∃ e v Y N, x = some (Y, nI 1) ∧ m = some (N, nI v) ∧ v < b ∧ q < e ∧ Y 1 5 = nI v ∧ Y 1 4 = nI q ∧ zJx s T e Y ∧ zJm s T e N ∧ zTX X Y ∧ zTM M N) ∨
  (∃ Y N kd, x = some (Y, nI 0) ∧ m = some (N, nI 0) ∧ kd < 4 ∧ zTF X Y kd q ∧ zMF s T M N kd q)
theorem zDi_iff (T : Nat → Nat) (j : Nat) : zDi T j = true ↔ 48 ≤ T j ∧ T j ≤ 57 := by unfold zDi; rw [decide_eq_true_eq]
/-- the end of the digits -/
def zNoR (M : TX) (b q r : Nat) : Option (TX × Int32) := if nI r < nI 0 then ((f_X9_wrong M (nI 2) (nI q)).bind fun q8 => some (q8, nI 0)) else (if nI r ≤ zBe b then (some (M, nI r)) else ((f_X9_wrong M (nI 2) (nI q)).bind fun q10 => some (q10, nI 0)))
theorem z_numE {s : Nat} {T : Nat → Nat} {p q b c r : Nat} {X M : TX} (hX : zJx s T p X) (hM : zJm s T p M) (hq : q < p) (hb : b ≤ 1000) (h4 : X 1 4 = nI q) (h5 : X 1 5 = nI c) (hn : zNR c r) (hf : M 0 5 = -nI 1) :
    zNo1 s T q b X M (B_X7_number_91 X (zBe b)) (zNoR M b q r) := by
  have h1 := hX.s6
  have h2 := hX.ps
  have hc : c < 1000000 ∧ r < 1000000 := by unfold zNR at hn; omega
  have e1 : B_X7_number_91 X (zBe b) = if c < b then some (X, nI 1) else ((f_X7_fail X (nI 2) (nI q)).bind fun q5 => if q5.2 = nI 0 then (some (q5.1, nI 0)) else (some (q5.1, nI 1))) := by
    show (if (X 1 3) = (X 1 4) then _ else (if (X 1 5) ≤ zBe b then (some (X, nI 1)) else ((f_X7_fail X (nI 2) (X 1 4)).bind fun q5 => if q5.2 = nI 0 then (some (q5.1, nI 0)) else (some (q5.1, nI 1))))) = _
    rw [hX.xp, h4, if_neg (by rw [z_nI_inj (by omega) (by omega)]; omega), h5]
    by_cases g : c < b
    · rw [if_pos ((zBe_le hc.1 hb).2 g), if_pos g]
    · rw [if_neg (fun x => g ((zBe_le hc.1 hb).1 x)), if_neg g]
  have e2 : zNoR M b q r = if r < b then some (M, nI r) else ((f_X9_wrong M (nI 2) (nI q)).bind fun q10 => some (q10, nI 0)) := by
    unfold zNoR
    have r0 : ¬ nI r < nI 0 := z_nI_nn (i := r) (by omega)
    rw [if_neg r0]
    by_cases g : r < b
    · rw [if_pos ((zBe_le hc.2 hb).2 g), if_pos g]
    · rw [if_neg (fun x => g ((zBe_le hc.2 hb).1 x)), if_neg g]
  rw [e1, e2]
  by_cases g : c < b
  · have cr : c = r := by unfold zNR at hn; omega
    subst cr
    rw [if_pos g, if_pos g]
    exact .inl ⟨p, c, X, M, rfl, rfl, g, hq, h5, h4, hX, hM, zTX.refl X, zTM.refl M⟩
  · have g' : ¬ r < b := by unfold zNR at hn; omega
    rw [if_neg g, if_neg g']
    obtain ⟨Y, y1, y2⟩ := z7_fail (X := X) (kd := 2) (pl := q)
    obtain ⟨N, n1, n2⟩ := z9_wrong (kd := 2) (pl := q) hM hf (by omega)
    rw [y1, n1, Option.bind_some, Option.bind_some]
    exact .inr ⟨Y, N, 2, rfl, rfl, by decide, y2, n2⟩
theorem z_numL {s : Nat} {T : Nat → Nat} {q b : Nat} (hb : b ≤ 1000) : ∀ (d p fX fM c r : Nat) (X M : TX), s - p = d → d < fX → d < fM → zJx s T p X → zJm s T p M → q ≤ p → (q = p → p < s ∧ 48 ≤ T p ∧ T p ≤ 57) → X 1 4 = nI q → X 1 5 = nI c → zNR c r → M 0 5 = -nI 1 →
    zNo1 s T q b X M (L_X7_number_18 fX X (zBe b)) (L_X9_readNumber_41 fM M (nI 0) (zBe b) (nI q) (nI r)) := by
  intro d
  induction d with
  | zero =>
    intro p fX fM c r X M hd hfX hfM hX hM hq hqp h4 h5 hn hf
    obtain ⟨g, rfl⟩ : ∃ g, fX = g + 1 := ⟨fX - 1, by omega⟩
    obtain ⟨g', rfl⟩ : ∃ g, fM = g + 1 := ⟨fM - 1, by omega⟩
    have h1 := hX.s6
    have h2 := hX.ps
    have cc : s ≤ p := by omega
    have xs := hX.xs
    have xp := hX.xp
    have ms := hM.ms
    have mp := hM.mp
    have e1 : L_X7_number_18 (g + 1) X (zBe b) = B_X7_number_91 X (zBe b) := by
      simp (discharger := omega) only [L_X7_number_18, xs, xp, cc, z_lit, z_nI_le, z_nI_lt, z_nI_inj, z_inb, z_nI_tn, z_nI_add, z_nI_mul, z_bitN, z_zb, z_0add, z_add0, z_0or, z_or0, Option.bind_some, decide_eq_true_eq, Nat.zero_add, Nat.add_zero, ↓reduceIte]
    have e2 : L_X9_readNumber_41 (g' + 1) M (nI 0) (zBe b) (nI q) (nI r) = zNoR M b q r := by
      show (if M 0 3 ≤ M 0 4 then zNoR M b q r else _) = _
      rw [ms, mp, if_pos ((z_nI_le (by omega) (by omega)).2 cc)]
    rw [e1, e2]
    exact z_numE hX hM (by omega) hb h4 h5 hn hf
  | succ d ih =>
    intro p fX fM c r X M hd hfX hfM hX hM hq hqp h4 h5 hn hf
    obtain ⟨g, rfl⟩ : ∃ g, fX = g + 1 := ⟨fX - 1, by omega⟩
    obtain ⟨g', rfl⟩ : ∃ g, fM = g + 1 := ⟨fM - 1, by omega⟩
    have h1 := hX.s6
    have cc : ¬ s ≤ p := by omega
    have b6 : p < 600 := by omega
    have xs := hX.xs
    have xp := hX.xp
    have ms := hM.ms
    have mp := hM.mp
    have ax := hX.at (j := p) (by omega)
    have am := hM.mt p (by omega)
    have tp := hX.t p (by omega)
    have dg := z7_digit tp
    by_cases sp : 48 ≤ T p ∧ T p ≤ 57
    · have e0 : zbI (decide (48 ≤ T p ∧ T p ≤ 57)) = nI 1 := by rw [decide_eq_true sp]; rfl
      rw [e0] at dg
      have n1 : ¬ (1 : Nat) = 0 := by decide
      have hcr : c ≤ 1000 ∧ r ≤ 99999 := by unfold zNR at hn; omega
      obtain ⟨c', hc'⟩ : ∃ c', c' = if 1000 < c * 10 + T p - 48 then 1000 else c * 10 + T p - 48 := ⟨_, rfl⟩
      obtain ⟨r', hr'⟩ : ∃ r', r' = if r ≤ 9999 then 10 * r + T p - 48 else 10000 := ⟨_, rfl⟩
      have hn' : zNR c' r' := by
        unfold zNR at *
        by_cases g1 : 1000 < c * 10 + T p - 48
        · rw [if_pos g1] at hc'
          by_cases g2 : r ≤ 9999
          · rw [if_pos g2] at hr'; omega
          · rw [if_neg g2] at hr'; omega
        · rw [if_neg g1] at hc'
          by_cases g2 : r ≤ 9999
          · rw [if_pos g2] at hr'; omega
          · rw [if_neg g2] at hr'; omega
      have e1 : L_X7_number_18 (g + 1) X (zBe b) = L_X7_number_18 g (u2 (u2 X 1 5 (nI c')) 1 3 (nI (p + 1))) (zBe b) := by
        have s1 : nI (c * 10 + T p) - nI 48 = nI (c * 10 + T p - 48) := z_subN (by omega)
        have s3 : ∀ v, u2 X 1 5 v 1 3 = nI p := fun v => by rw [z_u2j _ _ _ _ (by decide)]; exact xp
        by_cases g1 : 1000 < c * 10 + T p - 48
        · rw [if_pos g1] at hc'
          subst hc'
          simp (discharger := omega) only [L_X7_number_18, xs, xp, cc, ax, dg, n1, h5, s1, g1, s3, z_lit, z_nI_le, z_nI_lt, z_nI_inj, z_inb, z_nI_tn, z_nI_add, z_nI_mul, z_bitN, z_zb, z_0add, z_add0, z_0or, z_or0, Option.bind_some, decide_eq_true_eq, Nat.zero_add, Nat.add_zero, ↓reduceIte]
        · rw [if_neg g1] at hc'
          subst hc'
          simp (discharger := omega) only [L_X7_number_18, xs, xp, cc, ax, dg, n1, h5, s1, g1, s3, z_lit, z_nI_le, z_nI_lt, z_nI_inj, z_inb, z_nI_tn, z_nI_add, z_nI_mul, z_bitN, z_zb, z_0add, z_add0, z_0or, z_or0, Option.bind_some, decide_eq_true_eq, Nat.zero_add, Nat.add_zero, ↓reduceIte]
      have e2 : L_X9_readNumber_41 (g' + 1) M (nI 0) (zBe b) (nI q) (nI r) = L_X9_readNumber_41 g' (u2 M 0 4 (nI (p + 1))) (nI 0) (zBe b) (nI q) (nI r') := by
        have s1 : nI (10 * r + T p) - nI 48 = nI (10 * r + T p - 48) := z_subN (by omega)
        by_cases g1 : r ≤ 9999
        · rw [if_pos g1] at hr'
          subst hr'
          simp (discharger := omega) only [L_X9_readNumber_41, ms, mp, cc, b6, am, z9_digit, dg, n1, s1, g1, z_lit, z_nI_le, z_nI_lt, z_nI_inj, z_inb, z_nI_tn, z_nI_add, z_nI_mul, z_bitN, z_zb, z_0add, z_add0, z_0or, z_or0, Option.bind_some, decide_eq_true_eq, Nat.zero_add, Nat.add_zero, ↓reduceIte]
        · rw [if_neg g1] at hr'
          subst hr'
          simp (discharger := omega) only [L_X9_readNumber_41, ms, mp, cc, b6, am, z9_digit, dg, n1, g1, z_lit, z_nI_le, z_nI_lt, z_nI_inj, z_inb, z_nI_tn, z_nI_add, z_nI_mul, z_bitN, z_zb, z_0add, z_add0, z_0or, z_or0, Option.bind_some, decide_eq_true_eq, Nat.zero_add, Nat.add_zero, ↓reduceIte]
      have fx : zTX X (u2 (u2 X 1 5 (nI c')) 1 3 (nI (p + 1))) := (zTX_u (.inr (.inr rfl)) _).trans (zTX_u (.inl rfl) _)
      have fm : zTM M (u2 M 0 4 (nI (p + 1))) := zTM_u _ _
      have hX' : zJx s T (p + 1) (u2 (u2 X 1 5 (nI c')) 1 3 (nI (p + 1))) := hX.fr (fx.1 2 (by decide)) (fx.2 2 (by decide) (by decide) (by decide)) (z_u2s _ _ _ _) (by omega)
      have i1 := ih (p + 1) g g' c' r' _ _ (by omega) (by omega) (by omega) hX' (hM.to (by omega)) (by omega) (fun x => by omega) (by rw [z_u2j _ _ _ _ (by decide), z_u2j _ _ _ _ (by decide)]; exact h4) (by rw [z_u2j _ _ _ _ (by decide), z_u2s]) hn' (by rw [z_u2j _ _ _ _ (by decide)]; exact hf)
      rw [e1, e2]
      rcases i1 with ⟨e, v, Y, N, k1, k2, k3, k4, k5, k6, k7, k8, k9, k10⟩ | ⟨Y, N, kd, k1, k2, k3, k4, k5⟩
      · exact .inl ⟨e, v, Y, N, k1, k2, k3, k4, k5, k6, k7, k8, fx.trans k9, fm.trans k10⟩
      · exact .inr ⟨Y, N, kd, k1, k2, k3, fx.tf k4, fm.mf k5⟩
    · have e0 : zbI (decide (48 ≤ T p ∧ T p ≤ 57)) = nI 0 := by rw [decide_eq_false sp]; rfl
      rw [e0] at dg
      have hq' : q < p := by
        by_cases g : q = p
        · exact absurd (hqp g).2 sp
        · omega
      have e1 : L_X7_number_18 (g + 1) X (zBe b) = B_X7_number_91 X (zBe b) := by
        simp (discharger := omega) only [L_X7_number_18, xs, xp, cc, ax, dg, z_lit, z_nI_le, z_nI_lt, z_nI_inj, z_inb, z_nI_tn, z_nI_add, z_nI_mul, z_bitN, z_zb, z_0add, z_add0, z_0or, z_or0, Option.bind_some, decide_eq_true_eq, Nat.zero_add, Nat.add_zero, ↓reduceIte]
      have e2 : L_X9_readNumber_41 (g' + 1) M (nI 0) (zBe b) (nI q) (nI r) = zNoR M b q r := by
        unfold zNoR
        simp (discharger := omega) only [L_X9_readNumber_41, ms, mp, cc, b6, am, z9_digit, dg, z_lit, z_nI_le, z_nI_lt, z_nI_inj, z_inb, z_nI_tn, z_nI_add, z_nI_mul, z_bitN, z_zb, z_0add, z_add0, z_0or, z_or0, Option.bind_some, decide_eq_true_eq, Nat.zero_add, Nat.add_zero, ↓reduceIte]
      rw [e1, e2]
      exact z_numE hX hM hq' hb h4 h5 hn hf
