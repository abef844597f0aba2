set_option linter.unusedVariables false
/-- reading on from p while P holds, before s -/
def zScH (P : Nat → Bool) (s : Nat) : Nat → Nat → Nat
  | 0, p => p
  | k + 1, p => if p < s ∧ P p = true then zScH P s k (p + 1) else p
def zSc (P : Nat → Bool) (s p : Nat) : Nat := zScH P s (s - p) p
theorem zSc_step {P : Nat → Bool} {s p : Nat} (h : p < s) (hp : P p = true) : zSc P s p = zSc P s (p + 1) := by
  unfold zSc
  obtain ⟨d, hd⟩ : ∃ d, s - p = d + 1 := ⟨s - p - 1, by omega⟩
  rw [hd, show s - (p + 1) = d by omega]
  show (if p < s ∧ P p = true then zScH P s d (p + 1) else p) = _
  rw [if_pos ⟨h, hp⟩]
theorem zSc_stop {P : Nat → Bool} {s p : Nat} (h : ¬ (p < s ∧ P p = true)) : zSc P s p = p := by
  unfold zSc
  cases hd : s - p with
  | zero => rfl
  | succ d =>
    show (if p < s ∧ P p = true then zScH P s d (p + 1) else p) = _
    rw [if_neg h]
theorem zSc_spec (P : Nat → Bool) (s : Nat) : ∀ (d p : Nat), s - p = d → p ≤ s → p ≤ zSc P s p ∧ zSc P s p ≤ s ∧ ¬ (zSc P s p < s ∧ P (zSc P s p) = true) ∧ ∀ j, p ≤ j → j < zSc P s p → P j = true := by
  intro d
  induction d with
  | zero =>
    intro p hd hp
    have e : zSc P s p = p := zSc_stop (by omega)
    rw [e]; exact ⟨Nat.le_refl _, hp, by omega, fun j a b => by omega⟩
  | succ d ih =>
    intro p hd hp
    by_cases c : P p = true
    · rw [zSc_step (by omega) c]
      obtain ⟨a1, a2, a3, a4⟩ := ih (p + 1) (by omega) (by omega)
      refine ⟨by omega, a2, a3, fun j a b => ?_⟩
      by_cases cj : j = p
      · rw [cj]; exact c
      · exact a4 j (by omega) b
    · have e : zSc P s p = p := zSc_stop fun h => c h.2
      rw [e]; exact ⟨Nat.le_refl _, hp, fun h => c h.2, fun j a b => by omega⟩
theorem zSc_same (P : Nat → Bool) {s p : Nat} (h : p ≤ s) : zSc P s (zSc P s p) = zSc P s p := zSc_stop (zSc_spec P s _ p rfl h).2.2.1
def zSp (T : Nat → Nat) (j : Nat) : Bool := decide (T j = 32)
def zLt (T : Nat → Nat) (j : Nat) : Bool := decide (97 ≤ T j ∧ T j ≤ 122)
def zDi (T : Nat → Nat) (j : Nat) : Bool := decide (48 ≤ T j ∧ T j ≤ 57)
def zA (T : Nat → Nat) (s p : Nat) : Nat := zSc (zSp T) s p
def zLE (T : Nat → Nat) (s p : Nat) : Nat := zSc (zLt T) s p
def zDE (T : Nat → Nat) (s p : Nat) : Nat := zSc (zDi T) s p
def zC (T : Nat → Nat) (s q : Nat) : Int32 := if q < s then nI (T q) else -nI 1
def zH (T : Nat → Nat) (s q : Nat) : Int32 := if q < s then nI (T q) else nI 0
theorem z_u2u (X : TX) (k i : Nat) (v w : Int32) : u2 (u2 X k i v) k i w = u2 X k i w := by
  funext a b
  by_cases h : a = k
  · by_cases g : b = i
    · simp only [z_u2, h, g, ↓reduceIte]
    · simp only [z_u2, h, g, ↓reduceIte]
  · simp only [z_u2, h, ↓reduceIte]
theorem z_u2id (X : TX) (k i : Nat) {v : Int32} (h : X k i = v) : u2 X k i v = X := by
  subst h; funext a b; rw [z_u2]; by_cases h : a = k
  · rw [if_pos h]; by_cases g : b = i
    · rw [if_pos g, h, g]
    · rw [if_neg g]
  · rw [if_neg h]
/-- the class's text -/
def zJx (s : Nat) (T : Nat → Nat) (p : Nat) (X : TX) : Prop :=
  (s ≤ 600) ∧
  (p ≤ s) ∧
  (∀ j, j < s → T j < 256) ∧
  (X 1 2 = nI s) ∧
  (X 1 3 = nI p) ∧
  (∀ j, j < s → X 2 j = nI (T j))
theorem zJx.s6 {s : Nat} {T : Nat → Nat} {p : Nat} {X : TX} (h : zJx s T p X) : s ≤ 600 := h.1
theorem zJx.ps {s : Nat} {T : Nat → Nat} {p : Nat} {X : TX} (h : zJx s T p X) : p ≤ s := h.2.1
theorem zJx.t {s : Nat} {T : Nat → Nat} {p : Nat} {X : TX} (h : zJx s T p X) : ∀ j, j < s → T j < 256 := h.2.2.1
theorem zJx.xs {s : Nat} {T : Nat → Nat} {p : Nat} {X : TX} (h : zJx s T p X) : X 1 2 = nI s := h.2.2.2.1
theorem zJx.xp {s : Nat} {T : Nat → Nat} {p : Nat} {X : TX} (h : zJx s T p X) : X 1 3 = nI p := h.2.2.2.2.1
theorem zJx.xt {s : Nat} {T : Nat → Nat} {p : Nat} {X : TX} (h : zJx s T p X) : ∀ j, j < s → X 2 j = nI (T j) := h.2.2.2.2.2
theorem zJx.mk {s : Nat} {T : Nat → Nat} {p : Nat} {X : TX} (s6 : s ≤ 600) (ps : p ≤ s) (t : ∀ j, j < s → T j < 256) (xs : X 1 2 = nI s) (xp : X 1 3 = nI p) (xt : ∀ j, j < s → X 2 j = nI (T j)) : zJx s T p X := ⟨s6, ps, t, xs, xp, xt⟩
/-- the reference's text -/
def zJm (s : Nat) (T : Nat → Nat) (p : Nat) (M : TX) : Prop :=
  (s ≤ 600) ∧
  (p ≤ s) ∧
  (∀ j, j < s → T j < 256) ∧
  (M 0 3 = nI s) ∧
  (M 0 4 = nI p) ∧
  (∀ j, j < s → M 2 j = nI (T j))
theorem zJm.s6 {s : Nat} {T : Nat → Nat} {p : Nat} {M : TX} (h : zJm s T p M) : s ≤ 600 := h.1
theorem zJm.ps {s : Nat} {T : Nat → Nat} {p : Nat} {M : TX} (h : zJm s T p M) : p ≤ s := h.2.1
theorem zJm.t {s : Nat} {T : Nat → Nat} {p : Nat} {M : TX} (h : zJm s T p M) : ∀ j, j < s → T j < 256 := h.2.2.1
theorem zJm.ms {s : Nat} {T : Nat → Nat} {p : Nat} {M : TX} (h : zJm s T p M) : M 0 3 = nI s := h.2.2.2.1
theorem zJm.mp {s : Nat} {T : Nat → Nat} {p : Nat} {M : TX} (h : zJm s T p M) : M 0 4 = nI p := h.2.2.2.2.1
theorem zJm.mt {s : Nat} {T : Nat → Nat} {p : Nat} {M : TX} (h : zJm s T p M) : ∀ j, j < s → M 2 j = nI (T j) := h.2.2.2.2.2
theorem zJm.mk {s : Nat} {T : Nat → Nat} {p : Nat} {M : TX} (s6 : s ≤ 600) (ps : p ≤ s) (t : ∀ j, j < s → T j < 256) (ms : M 0 3 = nI s) (mp : M 0 4 = nI p) (mt : ∀ j, j < s → M 2 j = nI (T j)) : zJm s T p M := ⟨s6, ps, t, ms, mp, mt⟩
theorem zJx.fr {s : Nat} {T : Nat → Nat} {p q : Nat} {X Y : TX} (h : zJx s T p X) (h2 : Y 2 = X 2) (hs : Y 1 2 = X 1 2) (hp : Y 1 3 = nI q) (hq : q ≤ s) : zJx s T q Y :=
  zJx.mk h.s6 hq h.t (hs.trans h.xs) hp (by rw [h2]; exact h.xt)
theorem zJm.fr {s : Nat} {T : Nat → Nat} {p q : Nat} {M N : TX} (h : zJm s T p M) (h2 : N 2 = M 2) (hs : N 0 3 = M 0 3) (hp : N 0 4 = nI q) (hq : q ≤ s) : zJm s T q N :=
  zJm.mk h.s6 hq h.t (hs.trans h.ms) hp (by rw [h2]; exact h.mt)
theorem zJx.to {s : Nat} {T : Nat → Nat} {p q : Nat} {X : TX} (h : zJx s T p X) (hq : q ≤ s) : zJx s T q (u2 X 1 3 (nI q)) :=
  h.fr (z_u2k _ _ _ _ (by decide)) (z_u2j _ _ _ _ (by decide)) (z_u2s _ _ _ _) hq
theorem zJm.to {s : Nat} {T : Nat → Nat} {p q : Nat} {M : TX} (h : zJm s T p M) (hq : q ≤ s) : zJm s T q (u2 M 0 4 (nI q)) :=
  h.fr (z_u2k _ _ _ _ (by decide)) (z_u2j _ _ _ _ (by decide)) (z_u2s _ _ _ _) hq
theorem zJx.at {s : Nat} {T : Nat → Nat} {p j : Nat} {X : TX} (h : zJx s T p X) (hj : j < s) : f_X8_at 2 X (nI j) = some (nI (T j)) := by
  have := h.s6
  rw [z_at (k := 2) (by show j < 600; omega) (by decide), h.xt j hj]
theorem z7_aheadL {s : Nat} {T : Nat → Nat} : ∀ (d p f : Nat) (X : TX), s - p = d → d < f → zJx s T p X → L_X7_ahead_0 f X = some (u2 X 1 3 (nI (zA T s p)), zC T s (zA T s p)) := by
  intro d
  induction d with
  | zero =>
    intro p f X hd hf h
    obtain ⟨g, rfl⟩ : ∃ g, f = g + 1 := ⟨f - 1, by omega⟩
    have h1 := h.s6
    have h2 := h.ps
    have e : p = s := by omega
    have ea : zA T s p = p := zSc_stop (by omega)
    have c : s ≤ p := by omega
    have xs := h.xs
    have xp := h.xp
    have ec : zC T s p = -nI 1 := by unfold zC; rw [if_neg (by omega)]
    rw [ea, ec, z_u2id _ _ _ xp]
    simp (discharger := omega) only [L_X7_ahead_0, xs, xp, c, z_lit, z_nI_le, z_nI_lt, z_nI_inj, z_inb, z_nI_tn, z_nI_add, z_nI_mul, z_bitN, z_zb, z_0add, z_add0, z_0or, z_or0, Option.bind_some, decide_eq_true_eq, Nat.zero_add, Nat.add_zero, ↓reduceIte]
  | succ d ih =>
    intro p f X hd hf h
    obtain ⟨g, rfl⟩ : ∃ g, f = g + 1 := ⟨f - 1, by omega⟩
    have h1 := h.s6
    have c : ¬ s ≤ p := by omega
    have xs := h.xs
    have xp := h.xp
    have a1 := h.at (j := p) (by omega)
    have tp := h.t p (by omega)
    by_cases sp : T p = 32
    · have ea : zA T s p = zA T s (p + 1) := zSc_step (by omega) (by unfold zSp; exact decide_eq_true sp)
      have i1 := ih (p + 1) g (u2 X 1 3 (nI (p + 1))) (by omega) (by omega) (h.to (by omega))
      rw [z_u2u] at i1
      rw [ea, ← i1]
      simp (discharger := omega) only [L_X7_ahead_0, xs, xp, c, a1, sp, z_lit, z_nI_le, z_nI_lt, z_nI_inj, z_inb, z_nI_tn, z_nI_add, z_nI_mul, z_bitN, z_zb, z_0add, z_add0, z_0or, z_or0, Option.bind_some, decide_eq_true_eq, Nat.zero_add, Nat.add_zero, ↓reduceIte]
    · have ea : zA T s p = p := zSc_stop fun h => sp (of_decide_eq_true h.2)
      have ec : zC T s p = nI (T p) := by unfold zC; rw [if_pos (by omega)]
      rw [ea, ec, z_u2id _ _ _ xp]
      simp (discharger := omega) only [L_X7_ahead_0, xs, xp, c, a1, sp, z_lit, z_nI_le, z_nI_lt, z_nI_inj, z_inb, z_nI_tn, z_nI_add, z_nI_mul, z_bitN, z_zb, z_0add, z_add0, z_0or, z_or0, Option.bind_some, decide_eq_true_eq, Nat.zero_add, Nat.add_zero, ↓reduceIte]
theorem z9_hereL {s : Nat} {T : Nat → Nat} : ∀ (d p f : Nat) (M : TX), s - p = d → d < f → zJm s T p M → L_X9_here_0 f M = some (u2 M 0 4 (nI (zA T s p)), zH T s (zA T s p)) := by
  intro d
  induction d with
  | zero =>
    intro p f M hd hf h
    obtain ⟨g, rfl⟩ : ∃ g, f = g + 1 := ⟨f - 1, by omega⟩
    have h1 := h.s6
    have h2 := h.ps
    have e : p = s := by omega
    have ea : zA T s p = p := zSc_stop (by omega)
    have c : s ≤ p := by omega
    have ms := h.ms
    have mp := h.mp
    have ec : zH T s p = nI 0 := by unfold zH; rw [if_neg (by omega)]
    rw [ea, ec, z_u2id _ _ _ mp]
    simp (discharger := omega) only [L_X9_here_0, ms, mp, c, z_lit, z_nI_le, z_nI_lt, z_nI_inj, z_inb, z_nI_tn, z_nI_add, z_nI_mul, z_bitN, z_zb, z_0add, z_add0, z_0or, z_or0, Option.bind_some, decide_eq_true_eq, Nat.zero_add, Nat.add_zero, ↓reduceIte]
  | succ d ih =>
    intro p f M hd hf h
    obtain ⟨g, rfl⟩ : ∃ g, f = g + 1 := ⟨f - 1, by omega⟩
    have h1 := h.s6
    have c : ¬ s ≤ p := by omega
    have b : p < 600 := by omega
    have ms := h.ms
    have mp := h.mp
    have a1 := h.mt p (by omega)
    have tp := h.t p (by omega)
    by_cases sp : T p = 32
    · have ea : zA T s p = zA T s (p + 1) := zSc_step (by omega) (by unfold zSp; exact decide_eq_true sp)
      have i1 := ih (p + 1) g (u2 M 0 4 (nI (p + 1))) (by omega) (by omega) (h.to (by omega))
      rw [z_u2u] at i1
      rw [ea, ← i1]
      simp (discharger := omega) only [L_X9_here_0, ms, mp, c, a1, b, sp, z_lit, z_nI_le, z_nI_lt, z_nI_inj, z_inb, z_nI_tn, z_nI_add, z_nI_mul, z_bitN, z_zb, z_0add, z_add0, z_0or, z_or0, Option.bind_some, decide_eq_true_eq, Nat.zero_add, Nat.add_zero, ↓reduceIte]
    · have ea : zA T s p = p := zSc_stop fun h => sp (of_decide_eq_true h.2)
      have ec : zH T s p = nI (T p) := by unfold zH; rw [if_pos (by omega)]
      rw [ea, ec, z_u2id _ _ _ mp]
      simp (discharger := omega) only [L_X9_here_0, ms, mp, c, a1, b, sp, z_lit, z_nI_le, z_nI_lt, z_nI_inj, z_inb, z_nI_tn, z_nI_add, z_nI_mul, z_bitN, z_zb, z_0add, z_add0, z_0or, z_or0, Option.bind_some, decide_eq_true_eq, Nat.zero_add, Nat.add_zero, ↓reduceIte]
theorem zA_spec {T : Nat → Nat} {s p : Nat} (h : p ≤ s) : p ≤ zA T s p ∧ zA T s p ≤ s ∧ zA T s (zA T s p) = zA T s p :=
  ⟨(zSc_spec _ _ _ _ rfl h).1, (zSc_spec _ _ _ _ rfl h).2.1, zSc_same _ h⟩
theorem z7_ahead {s : Nat} {T : Nat → Nat} {p : Nat} {X : TX} (h : zJx s T p X) : f_X7_ahead X = some (u2 X 1 3 (nI (zA T s p)), zC T s (zA T s p)) :=
  z7_aheadL (s - p) p FU X rfl (by have := h.s6; unfold FU; omega) h
theorem z9_here {s : Nat} {T : Nat → Nat} {p : Nat} {M : TX} (h : zJm s T p M) : f_X9_here M = some (u2 M 0 4 (nI (zA T s p)), zH T s (zA T s p)) :=
  z9_hereL (s - p) p FU M rfl (by have := h.s6; unfold FU; omega) h
theorem z7_letter {v : Nat} (h : v < 256) : f_X7_isLetter (nI v) = some (zbI (decide (97 ≤ v ∧ v ≤ 122))) := by
  by_cases a : v < 97
  · have : ¬ (97 ≤ v ∧ v ≤ 122) := by omega
    simp (discharger := omega) only [f_X7_isLetter, a, this, decide_false, zbI, z_lit, z_nI_le, z_nI_lt, z_nI_inj, z_inb, z_nI_tn, z_nI_add, z_nI_mul, z_bitN, z_zb, z_0add, z_add0, z_0or, z_or0, Option.bind_some, decide_eq_true_eq, Nat.zero_add, Nat.add_zero, ↓reduceIte]; rfl
  · by_cases b : 122 < v
    · have : ¬ (97 ≤ v ∧ v ≤ 122) := by omega
      simp (discharger := omega) only [f_X7_isLetter, a, b, this, decide_false, zbI, z_lit, z_nI_le, z_nI_lt, z_nI_inj, z_inb, z_nI_tn, z_nI_add, z_nI_mul, z_bitN, z_zb, z_0add, z_add0, z_0or, z_or0, Option.bind_some, decide_eq_true_eq, Nat.zero_add, Nat.add_zero, ↓reduceIte]; rfl
    · have : 97 ≤ v ∧ v ≤ 122 := by omega
      rw [decide_eq_true this]
      simp (discharger := omega) only [f_X7_isLetter, a, b, zbI, z_lit, z_nI_le, z_nI_lt, z_nI_inj, z_inb, z_nI_tn, z_nI_add, z_nI_mul, z_bitN, z_zb, z_0add, z_add0, z_0or, z_or0, Option.bind_some, decide_eq_true_eq, Nat.zero_add, Nat.add_zero, ↓reduceIte]
theorem z9_small (v : Int32) : f_X9_isSmall v = f_X7_isLetter v := rfl
theorem z9_digit (v : Int32) : f_X9_isDigit v = f_X7_isDigit v := rfl
theorem z7_digit {v : Nat} (h : v < 256) : f_X7_isDigit (nI v) = some (zbI (decide (48 ≤ v ∧ v ≤ 57))) := by
  by_cases a : v < 48
  · have : ¬ (48 ≤ v ∧ v ≤ 57) := by omega
    simp (discharger := omega) only [f_X7_isDigit, a, this, decide_false, zbI, z_lit, z_nI_le, z_nI_lt, z_nI_inj, z_inb, z_nI_tn, z_nI_add, z_nI_mul, z_bitN, z_zb, z_0add, z_add0, z_0or, z_or0, Option.bind_some, decide_eq_true_eq, Nat.zero_add, Nat.add_zero, ↓reduceIte]; rfl
  · by_cases b : 57 < v
    · have : ¬ (48 ≤ v ∧ v ≤ 57) := by omega
      simp (discharger := omega) only [f_X7_isDigit, a, b, this, decide_false, zbI, z_lit, z_nI_le, z_nI_lt, z_nI_inj, z_inb, z_nI_tn, z_nI_add, z_nI_mul, z_bitN, z_zb, z_0add, z_add0, z_0or, z_or0, Option.bind_some, decide_eq_true_eq, Nat.zero_add, Nat.add_zero, ↓reduceIte]; rfl
    · have : 48 ≤ v ∧ v ≤ 57 := by omega
      rw [decide_eq_true this]
      simp (discharger := omega) only [f_X7_isDigit, a, b, zbI, z_lit, z_nI_le, z_nI_lt, z_nI_inj, z_inb, z_nI_tn, z_nI_add, z_nI_mul, z_bitN, z_zb, z_0add, z_add0, z_0or, z_or0, Option.bind_some, decide_eq_true_eq, Nat.zero_add, Nat.add_zero, ↓reduceIte]
