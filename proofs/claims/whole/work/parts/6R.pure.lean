set_option linter.unusedVariables false
def zVb (n : Nat) (s : Nat → Int32) : Prop := ∀ p, p < n → ∃ a b, s (10 + p) = nI a ∧ s (20 + p) = nI b ∧ a + b ≤ 198
/-- a share of the votes comes over to a side, in a parish -/
def zCoS (a : Nat) (b : Int32) (p : Nat) (s : Nat → Int32) : Nat → Int32 :=
  upd (upd s (10 + 10 * a + p) (s (10 + 10 * a + p) + s (10 + 10 * (1 - a) + p) * b / nI 100)) (10 + 10 * (1 - a) + p) (s (10 + 10 * (1 - a) + p) - s (10 + 10 * (1 - a) + p) * b / nI 100)
def zCo (n a : Nat) (b : Int32) (s : Nat → Int32) : Nat → Int32 := zF (zCoS a b) n 0 s
theorem zCoS_j {a : Nat} (b : Int32) {p j : Nat} (h1 : j ≠ 10 + 10 * a + p) (h2 : j ≠ 10 + 10 * (1 - a) + p) (s : Nat → Int32) : zCoS a b p s j = s j := by
  unfold zCoS; rw [z_updJ _ _ h2, z_updJ _ _ h1]
theorem zCoS_1 {a : Nat} (ha : a < 2) (b : Int32) (p : Nat) (s : Nat → Int32) : zCoS a b p s (10 + 10 * a + p) = s (10 + 10 * a + p) + s (10 + 10 * (1 - a) + p) * b / nI 100 := by
  unfold zCoS; rw [z_updJ _ _ (by omega), z_updS]
theorem zCoS_2 (a : Nat) (b : Int32) (p : Nat) (s : Nat → Int32) : zCoS a b p s (10 + 10 * (1 - a) + p) = s (10 + 10 * (1 - a) + p) - s (10 + 10 * (1 - a) + p) * b / nI 100 := by
  unfold zCoS; rw [z_updS]
theorem zCo_snoc (n a : Nat) (b : Int32) (s : Nat → Int32) : zCo (n + 1) a b s = zCoS a b n (zCo n a b s) := by
  unfold zCo; rw [zF_snoc, Nat.zero_add]
theorem zCo_out {a : Nat} (ha : a < 2) (b : Int32) {j : Nat} (hj : j < 10 ∨ 30 ≤ j) : ∀ n, n ≤ 10 → ∀ s, zCo n a b s j = s j
  | 0, _, s => rfl
  | n + 1, h, s => by
    rw [zCo_snoc, zCoS_j b (by omega) (by omega), zCo_out ha b hj n (by omega) s]
theorem zCo_late {a : Nat} (ha : a < 2) (b : Int32) {p : Nat} : ∀ n, n ≤ p → p < 10 → ∀ s, zCo n a b s (10 + p) = s (10 + p) ∧ zCo n a b s (20 + p) = s (20 + p)
  | 0, _, _, s => ⟨rfl, rfl⟩
  | n + 1, h, hp, s => by
    have := zCo_late ha b n (by omega) hp s
    rw [zCo_snoc, zCoS_j b (by omega) (by omega), zCoS_j b (by omega) (by omega)]
    exact this
theorem zCo_at {a : Nat} (ha : a < 2) (b : Int32) {p : Nat} : ∀ n, p < n → n ≤ 10 → ∀ s, zCo n a b s (10 + 10 * a + p) = s (10 + 10 * a + p) + s (10 + 10 * (1 - a) + p) * b / nI 100 ∧ zCo n a b s (10 + 10 * (1 - a) + p) = s (10 + 10 * (1 - a) + p) - s (10 + 10 * (1 - a) + p) * b / nI 100
  | n + 1, h, hn, s => by
    have ha' : a = 0 ∨ a = 1 := by omega
    by_cases e : p = n
    · subst e
      have := zCo_late ha b p (Nat.le_refl _) (by omega) s
      rw [zCo_snoc, zCoS_1 ha, zCoS_2]
      rcases ha' with rfl | rfl
      · simp only [Nat.mul_zero, Nat.add_zero, Nat.sub_zero, Nat.mul_one, Nat.reduceAdd] at this ⊢
        rw [this.1, this.2]; exact ⟨rfl, rfl⟩
      · simp only [Nat.mul_zero, Nat.add_zero, Nat.sub_self, Nat.mul_one, Nat.reduceAdd] at this ⊢
        rw [this.1, this.2]; exact ⟨rfl, rfl⟩
    · rw [zCo_snoc, zCoS_j b (by omega) (by omega), zCoS_j b (by omega) (by omega)]
      exact zCo_at ha b n (by omega) (by omega) s
theorem z_subN {a b : Nat} (h : b ≤ a) : nI a - nI b = nI (a - b) := by
  rw [zI_nat, zI_nat, zI_sub, zI_nat]; congr 1; omega
theorem zCo_vb {n a b : Nat} (ha : a < 2) (hb : b ≤ 100) (h10 : n ≤ 10) {s : Nat → Int32} (h : zVb n s) : zVb n (zCo n a (nI b) s) := fun p hp => by
  obtain ⟨x, y, e1, e2, e3⟩ := h p hp
  have := zCo_at ha (nI b) n hp h10 s
  have ha' : a = 0 ∨ a = 1 := by omega
  have hq : ∀ v, v ≤ 198 → nI v * nI b / nI 100 = nI (v * b / 100) ∧ v * b / 100 ≤ v := fun v hv => by
    have hvb : v * b ≤ v * 100 := Nat.mul_le_mul_left v hb
    refine ⟨by rw [z_nI_mul, z_quo (by omega) (by omega) (by omega)], ?_⟩
    omega
  rcases ha' with rfl | rfl
  · simp only [Nat.mul_zero, Nat.add_zero, Nat.sub_zero, Nat.mul_one, Nat.reduceAdd] at this
    obtain ⟨q1, q2⟩ := hq y (by omega)
    refine ⟨x + y * b / 100, y - y * b / 100, ?_, ?_, by omega⟩
    · rw [this.1, e1, e2, q1, z_nI_add]
    · rw [this.2, e2, q1, z_subN q2]
  · simp only [Nat.mul_zero, Nat.add_zero, Nat.sub_self, Nat.mul_one, Nat.reduceAdd] at this
    obtain ⟨q1, q2⟩ := hq x (by omega)
    refine ⟨x - x * b / 100, y + x * b / 100, ?_, ?_, by omega⟩
    · rw [this.2, e1, q1, z_subN q2]
    · rw [this.1, e1, e2, q1, z_nI_add]
theorem z_one_sub {a : Nat} (ha : a < 2) : nI 1 - nI a = nI (1 - a) := z_subN (by omega)
theorem z9_comesOver {n : Nat} {M : TX} (hn : M 0 19 = nI n) (h10 : n ≤ 10) {a : Nat} (ha : a < 2) (b : Int32) : ∃ M', f_X9_comesOver M (nI a) b = some M' ∧ M' 20 = zCo n a b (M 20) ∧ ∀ k, k ≠ 20 → M' k = M k := by
  refine z_loopE (fun f i Y => L_X9_comesOver_2 f Y (nI a) b i) (fun p Y => Y 20 = zCo p a b (M 20) ∧ ∀ k, k ≠ 20 → Y k = M k) some n ?_ ?_ n 0 FU M ⟨rfl, fun _ _ => rfl⟩ (by omega) (by unfold FU; omega)
  · intro f Y ⟨_, hY⟩
    simp (discharger := omega) only [L_X9_comesOver_2, hY 0 (by decide), hn, z_lit, z_nI_le, z_nI_lt, z_nI_inj, z_inb, z_nI_tn, z_nI_add, z_nI_mul, z_bitN, z_zb, z_0add, z_add0, z_0or, z_or0, Option.bind_some, decide_eq_true_eq, Nat.zero_add, Nat.add_zero, Nat.le_refl, ↓reduceIte]
  · intro f p Y hp ⟨h2, hY⟩
    have h1 : ¬ n ≤ p := by omega
    have hv : f_X9_votesOf Y (nI p) (nI (1 - a)) = some (Y 20 (10 + 10 * (1 - a) + p)) := z9_votesOf (by omega) (by omega)
    have h3 : 10 + 10 * a + p < 34 := by omega
    have h4 : 10 + 10 * (1 - a) + p < 34 := by omega
    have h5 : ¬ (10 + 10 * (1 - a) + p = 10 + 10 * a + p) := by omega
    refine ⟨u2 (u2 Y 20 (10 + 10 * a + p) (Y 20 (10 + 10 * a + p) + Y 20 (10 + 10 * (1 - a) + p) * b / nI 100)) 20 (10 + 10 * (1 - a) + p) (Y 20 (10 + 10 * (1 - a) + p) - Y 20 (10 + 10 * (1 - a) + p) * b / nI 100), ?_, ?_, ?_⟩
    · simp (discharger := omega) only [L_X9_comesOver_2, hY 0 (by decide), hn, h1, z_one_sub ha, hv, h3, h4, z_lit, z_nI_le, z_nI_lt, z_nI_inj, z_inb, z_nI_tn, z_nI_add, z_nI_mul, z_bitN, z_zb, z_0add, z_add0, z_0or, z_or0, Option.bind_some, decide_eq_true_eq, Nat.zero_add, Nat.add_zero, ↓reduceIte]
      rw [z_u2j _ _ _ _ h5]
    · rw [z_u2r, z_u2r, h2]
      unfold zCo
      rw [zF_snoc, Nat.zero_add]; rfl
    · intro k hk
      rw [z_u2k _ _ _ _ hk, z_u2k _ _ _ _ hk, hY k hk]
/-- which tide comes, and the row behind it -/
def zTix (K : TX) (s : Nat → Int32) : Nat := (s 32).toNatClampNeg % (K 0 20).toNatClampNeg
def zTi (K : TX) (n : Nat) (s : Nat → Int32) : Nat → Int32 :=
  if K 0 20 = nI 0 then s else zCo n (K 8 (2 * zTix K s)).toNatClampNeg (K 8 (2 * zTix K s + 1)) s
def zAll (n : Nat) (s : Nat → Int32) (a : Nat) : Int32 := zSum n fun p => s (10 + 10 * a + p)
def zAh (n : Nat) (s : Nat → Int32) : Int32 := if zMg n s (nI 0) = nI 0 then zAll n s 0 - zAll n s 1 else zMg n s (nI 0)
def zRu (n : Nat) (s : Nat → Int32) : Int32 := if zAh n s = nI 0 then s 30 else if zAh n s ≤ nI 0 then nI 1 else nI 0
/-- the row behind a vote -/
def zVo (K : TX) (n : Nat) (s : Nat → Int32) : Nat → Int32 :=
  upd (upd (upd (zTi K n s) 30 (zRu n (zTi K n s))) 31 (if zRu n (zTi K n s) = -nI 1 then nI 0 else if zRu n (zTi K n s) = s 30 then s 31 + nI 1 else nI 1)) 32 (s 32 + nI 1)
def zYr (b : Nat) (s : Nat → Int32) : Prop := ∃ y, y ≤ b ∧ s 32 = nI y
theorem zTi_out {n : Nat} {K X : TX} (hE : zE n K X) {s : Nat → Int32} {j : Nat} (hj : j < 10 ∨ 30 ≤ j) (hy : zYr 1000 s) : zTi K n s j = s j := by
  unfold zTi
  by_cases h : K 0 20 = nI 0
  · rw [if_pos h]
  · rw [if_neg h]
    obtain ⟨t, ht, e1, e2, e3⟩ := hE.td
    obtain ⟨y, hy, ey⟩ := hy
    have ht0 : t ≠ 0 := fun e => h (by rw [e2, e])
    have hi : zTix K s < t := by unfold zTix; rw [ey, e2, z_nI_tn (by omega), z_nI_tn (by omega)]; exact Nat.mod_lt _ (by omega)
    obtain ⟨a, b, ha, hb, f1, f2, f3, f4⟩ := e3 _ hi
    rw [f2, f4, z_nI_tn (by omega)]
    exact zCo_out ha _ hj n hE.n10 s
theorem z9_everybody {M : TX} {n : Nat} (hn : M 0 19 = nI n) (h10 : n ≤ 10) : ∃ e, f_X9_everybody M = some e ∧ ∀ p, p < n → bt e p = true := by
  refine ⟨_, rfl, fun p hp => ?_⟩
  rw [hn]
  have : ∀ n : Fin 11, ∀ p : Fin 10, p.val < n.val → bt (((1 : Int32) <<< ((nI n) &&& 31)) - (1 : Int32)) p = true := by decide +kernel
  exact this ⟨n, by omega⟩ ⟨p, by omega⟩ hp
theorem z9_all {M : TX} {n : Nat} (hn : M 0 19 = nI n) (h10 : n ≤ 10) {a : Nat} (ha : a < 2) : ∃ e, f_X9_everybody M = some e ∧ f_X9_votesIn M e (nI a) = some (zAll n (M 20) a) := by
  obtain ⟨e, h1, h2⟩ := z9_everybody hn h10
  refine ⟨e, h1, ?_⟩
  rw [z9_votesIn hn h10 e ha]
  exact congrArg some (zSum_congr fun p hp => by rw [h2 p hp]; rfl)
theorem z3_all {n : Nat} {K X : TX} {s : Nat → Int32} (hE : zE n K X) (hD : zD n s X) {a : Nat} (ha : a < 2) : f_X3_allVotes X (nI a) = some (zAll n s a) := by
  have h10 := hE.n10
  rw [z3_allVotes hE.xn h10 ha]
  exact congrArg some (zSum_congr fun p hp => by rw [hD.v _ (by omega)]; congr 1; omega)
theorem z_trich (x : Int32) : (if x ≤ 0 then (if 0 ≤ x then (2 : Nat) else 1) else 0) = if x = nI 0 then 2 else if x ≤ nI 0 then 1 else 0 := by
  have e : nI 0 = 0 := rfl
  rw [e]
  by_cases h0 : x = 0
  · subst h0; decide
  · by_cases h1 : x ≤ 0
    · have h2 : ¬ 0 ≤ x := fun h => h0 (Int32.le_antisymm h1 h)
      simp [h0, h1, h2]
    · simp [h0, h1]
theorem z9_votes116 (M : TX) (was ru : Int32) : B_X9_votes_116 M was ru (nI 30) = some (u2 (u2 (u2 M 20 30 ru) 20 31 (if ru = -nI 1 then nI 0 else if ru = was then M 20 31 + nI 1 else nI 1)) 20 32 (M 20 32 + nI 1)) := by
  have h0 : (30 : Nat) < 34 := by omega
  have h1 : (31 : Nat) < 34 := by omega
  have h2 : (32 : Nat) < 34 := by omega
  have h3 : ¬ ((31 : Nat) = 30) := by omega
  have h4 : ¬ ((32 : Nat) = 30) := by omega
  have h5 : ¬ ((32 : Nat) = 31) := by omega
  by_cases c1 : ru = -nI 1
  · simp (discharger := omega) only [B_X9_votes_116, c1, z_lit, z_nI_le, z_nI_lt, z_nI_inj, z_inb, z_nI_tn, z_nI_add, z_nI_mul, z_bitN, z_zb, z_0add, z_add0, z_0or, z_or0, Option.bind_some, decide_eq_true_eq, Nat.zero_add, Nat.add_zero, h0, h1, h2, z_u2s, z_u2j _ _ _ _ h3, z_u2j _ _ _ _ h4, z_u2j _ _ _ _ h5, ↓reduceIte]
  · by_cases c2 : ru = was
    · subst c2
      simp (discharger := omega) only [B_X9_votes_116, c1, z_lit, z_nI_le, z_nI_lt, z_nI_inj, z_inb, z_nI_tn, z_nI_add, z_nI_mul, z_bitN, z_zb, z_0add, z_add0, z_0or, z_or0, Option.bind_some, decide_eq_true_eq, Nat.zero_add, Nat.add_zero, h0, h1, h2, z_u2s, z_u2j _ _ _ _ h3, z_u2j _ _ _ _ h4, z_u2j _ _ _ _ h5, ↓reduceIte]
    · simp (discharger := omega) only [B_X9_votes_116, c1, c2, z_lit, z_nI_le, z_nI_lt, z_nI_inj, z_inb, z_nI_tn, z_nI_add, z_nI_mul, z_bitN, z_zb, z_0add, z_add0, z_0or, z_or0, Option.bind_some, decide_eq_true_eq, Nat.zero_add, Nat.add_zero, h0, h1, h2, z_u2s, z_u2j _ _ _ _ h3, z_u2j _ _ _ _ h4, z_u2j _ _ _ _ h5, ↓reduceIte]
theorem z9_votes55 {M : TX} {n : Nat} (hn : M 0 19 = nI n) (h10 : n ≤ 10) : ∃ M', B_X9_votes_55 M = some M' ∧ (∀ k, k ≠ 20 → M' k = M k) ∧ M' 20 = upd (upd (upd (M 20) 30 (zRu n (M 20))) 31 (if zRu n (M 20) = -nI 1 then nI 0 else if zRu n (M 20) = M 20 30 then M 20 31 + nI 1 else nI 1)) 32 (M 20 32 + nI 1) := by
  obtain ⟨e, h1, h2⟩ := z9_all hn h10 (a := 0) (by omega)
  obtain ⟨e', h1', h3⟩ := z9_all hn h10 (a := 1) (by omega)
  rw [h1] at h1'; cases h1'
  have hmg : f_X9_marginOf M (nI 0) = some (zMg n (M 20) (nI 0)) := z9_mg hn h10 (by omega)
  have h0 : (30 : Nat) < 34 := by omega
  refine ⟨u2 (u2 (u2 M 20 30 (zRu n (M 20))) 20 31 (if zRu n (M 20) = -nI 1 then nI 0 else if zRu n (M 20) = M 20 30 then M 20 31 + nI 1 else nI 1)) 20 32 (M 20 32 + nI 1), ?_, ?_, ?_⟩
  · unfold zRu zAh
    have hle : ∀ x : Int32, (x = nI 0 → x ≤ nI 0 ∧ nI 0 ≤ x) ∧ (x ≠ nI 0 → x ≤ nI 0 → ¬ nI 0 ≤ x) := fun x => ⟨fun h => by subst h; exact ⟨Int32.le_refl _, Int32.le_refl _⟩, fun h g k => h (Int32.le_antisymm g k)⟩
    by_cases c1 : zMg n (M 20) (nI 0) = nI 0
    · by_cases c2 : zAll n (M 20) 0 - zAll n (M 20) 1 = nI 0
      · have g1 := ((hle _).1 c2).1
        have g2 := ((hle _).1 c2).2
        simp (discharger := omega) only [B_X9_votes_55, c1, h1, h2, h3, c2, g1, g2, hmg, h0, z_lit, z_nI_le, z_nI_lt, z_nI_inj, z_inb, z_nI_tn, z_nI_add, z_nI_mul, z_bitN, z_zb, z_0add, z_add0, z_0or, z_or0, Option.bind_some, decide_eq_true_eq, Nat.zero_add, Nat.add_zero, Int32.le_refl, ↓reduceIte, z9_votes116]
      · by_cases g1 : zAll n (M 20) 0 - zAll n (M 20) 1 ≤ nI 0
        · have g2 := (hle _).2 c2 g1
          simp (discharger := omega) only [B_X9_votes_55, c1, h1, h2, h3, c2, g1, g2, hmg, h0, z_lit, z_nI_le, z_nI_lt, z_nI_inj, z_inb, z_nI_tn, z_nI_add, z_nI_mul, z_bitN, z_zb, z_0add, z_add0, z_0or, z_or0, Option.bind_some, decide_eq_true_eq, Nat.zero_add, Nat.add_zero, ↓reduceIte, z9_votes116]
        · simp (discharger := omega) only [B_X9_votes_55, c1, h1, h2, h3, c2, g1, hmg, h0, z_lit, z_nI_le, z_nI_lt, z_nI_inj, z_inb, z_nI_tn, z_nI_add, z_nI_mul, z_bitN, z_zb, z_0add, z_add0, z_0or, z_or0, Option.bind_some, decide_eq_true_eq, Nat.zero_add, Nat.add_zero, ↓reduceIte, z9_votes116]
    · by_cases g1 : zMg n (M 20) (nI 0) ≤ nI 0
      · have g2 := (hle _).2 c1 g1
        simp (discharger := omega) only [B_X9_votes_55, c1, g1, g2, hmg, h0, z_lit, z_nI_le, z_nI_lt, z_nI_inj, z_inb, z_nI_tn, z_nI_add, z_nI_mul, z_bitN, z_zb, z_0add, z_add0, z_0or, z_or0, Option.bind_some, decide_eq_true_eq, Nat.zero_add, Nat.add_zero, ↓reduceIte, z9_votes116]
      · simp (discharger := omega) only [B_X9_votes_55, c1, g1, hmg, h0, z_lit, z_nI_le, z_nI_lt, z_nI_inj, z_inb, z_nI_tn, z_nI_add, z_nI_mul, z_bitN, z_zb, z_0add, z_add0, z_0or, z_or0, Option.bind_some, decide_eq_true_eq, Nat.zero_add, Nat.add_zero, ↓reduceIte, z9_votes116]
  · intro k hk
    rw [z_u2k _ _ _ _ hk, z_u2k _ _ _ _ hk, z_u2k _ _ _ _ hk]
  · rw [z_u2r, z_u2r, z_u2r]
theorem z9_votes {n : Nat} {K X M : TX} {s : Nat → Int32} (hE : zE n K X) (hS : zS K M) (hs : M 20 = s) (hy : zYr 1000 s) : ∃ M', f_X9_votes M = some M' ∧ (∀ k, k ≠ 20 → M' k = M k) ∧ M' 20 = zVo K n s := by
  have h10 := hE.n10
  have hn : M 0 19 = nI n := hS.a19.trans hE.kn
  obtain ⟨t, ht, e1, e2, e3⟩ := hE.td
  have hy1 := hy
  obtain ⟨y, hy, ey⟩ := hy
  have hM20 : M 0 20 = nI t := hS.a20.trans e2
  have h0 : (32 : Nat) < 34 := by omega
  have key : ∀ N : TX, (∀ k, k ≠ 20 → N k = M k) → N 20 = zTi K n s → ∃ M', B_X9_votes_55 N = some M' ∧ (∀ k, k ≠ 20 → M' k = M k) ∧ M' 20 = zVo K n s := fun N hN hN20 => by
    obtain ⟨M', g1, g2, g3⟩ := z9_votes55 (M := N) (n := n) (by rw [hN 0 (by decide)]; exact hn) h10
    refine ⟨M', g1, fun k hk => (g2 k hk).trans (hN k hk), ?_⟩
    rw [g3, hN20]
    unfold zVo
    rw [zTi_out hE (j := 30) (by omega) hy1, zTi_out hE (j := 31) (by omega) hy1, zTi_out hE (j := 32) (by omega) hy1]
  unfold f_X9_votes
  rw [hM20]
  by_cases c : t = 0
  · subst c
    rw [if_pos (show nI 0 ≤ 0 from by decide)]
    exact key M (fun _ _ => rfl) (by unfold zTi; rw [if_pos e2]; exact hs)
  · have c1 : ¬ t ≤ 0 := by omega
    have hne : ¬ K 0 20 = nI 0 := by rw [e2, z_nI_inj (by omega) (by omega)]; exact c
    have hi : y % t < t := Nat.mod_lt _ (by omega)
    have hix : zTix K s = y % t := by unfold zTix; rw [ey, e2, z_nI_tn (by omega), z_nI_tn (by omega)]
    obtain ⟨a, b, ha, hb, f1, f2, f3, f4⟩ := e3 _ hi
    have hM32 : M 20 32 = nI y := by rw [hs, ey]
    have her : nI y - nI y / nI t * nI t = nI (y % t) := z_rem (by omega) (by omega) (by omega)
    have h12 : 2 * (y % t) < 12 := by omega
    have h12' : 2 * (y % t) + 1 < 12 := by omega
    have hm8 : M 8 (2 * (y % t)) = nI a := by rw [hS.m8]; exact f2
    have hm8' : M 8 (2 * (y % t) + 1) = nI b := by rw [hS.m8]; exact f4
    obtain ⟨N, g1, g2, g3⟩ := z9_comesOver hn h10 ha (nI b)
    obtain ⟨M', k1, k2⟩ := key N g3 (by unfold zTi; rw [if_neg hne, hix, f2, f4, z_nI_tn (by omega), g2, hs])
    refine ⟨M', ?_, k2⟩
    simp (discharger := omega) only [z_lit, z_nI_le, z_nI_lt, z_nI_inj, z_inb, z_nI_tn, z_nI_add, z_nI_mul, z_bitN, z_zb, z_0add, z_add0, z_0or, z_or0, Option.bind_some, decide_eq_true_eq, Nat.zero_add, Nat.add_zero, c, c1, hM32, her, h0, h12, h12', hm8, hm8', g1, k1, ↓reduceIte]
