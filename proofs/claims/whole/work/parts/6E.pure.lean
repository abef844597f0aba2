set_option linter.unusedVariables false
theorem zVot_succ (n : Nat) (w v : Nat → Int32) (d : Int32) : zVot (n + 1) w v d = zVot n w v d + if w n = d then v n else nI 0 := zSum_succ n _
theorem zLead_succ (n : Nat) (w v0 v1 : Nat → Int32) (d : Int32) : zLead (n + 1) w v0 v1 d = zLead n w v0 v1 d + if w n = d then v0 n - v1 n else nI 0 := by
  unfold zLead
  rw [zVot_succ, zVot_succ]
  by_cases h : w n = d
  · simp only [h, if_true]; grind
  · simp only [h, if_false, z_add0]
theorem zLead_congr {n : Nat} {w w' v0 v0' v1 v1' : Nat → Int32} {d : Int32} (e : ∀ p, p < n → w p = w' p) (e0 : ∀ p, p < n → v0 p = v0' p) (e1 : ∀ p, p < n → v1 p = v1' p) : zLead n w v0 v1 d = zLead n w' v0' v1' d := by
  unfold zLead zVot
  rw [zSum_congr (g := fun p => if w p = d then v0 p else nI 0) (h := fun p => if w' p = d then v0' p else nI 0) fun p hp => by rw [e p hp, e0 p hp], zSum_congr (g := fun p => if w p = d then v1 p else nI 0) (h := fun p => if w' p = d then v1' p else nI 0) fun p hp => by rw [e p hp, e1 p hp]]
/-- the wards of the first n parishes are wards -/
def zWs (n : Nat) (w : Nat → Int32) : Prop := ∀ p, p < n → ∃ d, d < 4 ∧ w p = nI d
/-- the tallies of a county -/
def zTal (n : Nat) (w v0 v1 m l : Nat → Int32) : Prop := ∀ d, d < 4 → m d = zSet n w (nI d) ∧ l d = zLead n w v0 v1 (nI d)
theorem z3_tally33 {X : TX} {n : Nat} (hn : X 3 5 = nI n) (h10 : n ≤ 10) (hw : zWs n (X 4)) (h0 : ∀ d, d < 4 → X 9 d = nI 0 ∧ X 10 d = nI 0) :
    ∃ Y, L_X3_tally_33 FU X (nI 0) = some Y ∧ (∀ k, k ≠ 9 → k ≠ 10 → Y k = X k) ∧ zTal n (X 4) (X 5) (fun p => X 5 (10 + p)) (Y 9) (Y 10) := by
  refine z_loopE (fun f i a => L_X3_tally_33 f a i) (fun i Y => (∀ k, k ≠ 9 → k ≠ 10 → Y k = X k) ∧ zTal i (X 4) (X 5) (fun p => X 5 (10 + p)) (Y 9) (Y 10)) some n ?_ ?_ n 0 FU X ⟨fun _ _ _ => rfl, fun d hd => ⟨(h0 d hd).1, (h0 d hd).2.trans (show nI 0 = nI 0 - nI 0 by decide)⟩⟩ (by omega) (by unfold FU; omega)
  · intro f Y ⟨hY, hT⟩
    simp (discharger := omega) only [L_X3_tally_33, hY 3 (by decide) (by decide), hn, z_lit, z_nI_le, z_nI_lt, z_nI_inj, z_inb, z_nI_tn, z_nI_add, z_nI_mul, z_bitN, z_zb, z_0add, z_add0, z_0or, z_or0, Option.bind_some, decide_eq_true_eq, Nat.zero_add, Nat.add_zero, Nat.le_refl, if_true]
  · intro f i Y hi ⟨hY, hT⟩
    obtain ⟨d, hd, hwd⟩ := hw i hi
    have h1 : ¬ n ≤ i := by omega
    have a4 : f_X8_at 4 Y (nI i) = some (nI d) := by rw [z_at (show i < lenX 4 by show i < 10; omega) (by decide), hY 4 (by decide) (by decide), hwd]
    have a9 : f_X8_at 9 Y (nI d) = some (Y 9 d) := z_at hd (by decide)
    have p9 : ∀ v, f_X8_put 9 Y (nI d) v = some (u2 Y 9 d v) := fun v => z_put hd (by decide)
    have a10 : ∀ v, f_X8_at 10 (u2 Y 9 d v) (nI d) = some (Y 10 d) := fun v => by rw [z_at (show d < lenX 10 from hd) (by decide), z_u2k _ _ _ _ (by decide)]
    have a5 : ∀ v, f_X8_at 5 (u2 Y 9 d v) (nI i) = some (X 5 i) := fun v => by rw [z_at (show i < lenX 5 by show i < 20; omega) (by decide), z_u2k _ _ _ _ (by decide), hY 5 (by decide) (by decide)]
    have a5' : ∀ v, f_X8_at 5 (u2 Y 9 d v) (nI (10 + i)) = some (X 5 (10 + i)) := fun v => by rw [z_at (show 10 + i < lenX 5 by show 10 + i < 20; omega) (by decide), z_u2k _ _ _ _ (by decide), hY 5 (by decide) (by decide)]
    have p10 : ∀ v v', f_X8_put 10 (u2 Y 9 d v) (nI d) v' = some (u2 (u2 Y 9 d v) 10 d v') := fun v v' => z_put (show d < lenX 10 from hd) (by decide)
    refine ⟨_, by simp (discharger := omega) only [L_X3_tally_33, hY 3 (by decide) (by decide), hn, z_lit, z_nI_le, z_nI_lt, z_nI_inj, z_inb, z_nI_tn, z_nI_add, z_nI_mul, z_bitN, z_zb, z_0add, z_add0, z_0or, z_or0, Option.bind_some, decide_eq_true_eq, Nat.zero_add, Nat.add_zero, h1, if_false, a4, a9, p9, a10, a5, a5', p10]; rfl, ?_, ?_⟩
    · intro k h9 h10
      rw [z_u2k _ _ _ _ h10, z_u2k _ _ _ _ h9, hY k h9 h10]
    · intro d' hd'
      have hT' := hT d' hd'
      rw [z_u2k _ _ _ _ (show (9 : Nat) ≠ 10 by decide), zSet_succ, zLead_succ, hwd]
      by_cases hdd : d' = d
      · subst hdd
        rw [z_u2s, z_u2s, hT'.1, hT'.2]
        refine ⟨by simp, ?_⟩
        simp only [if_true]; grind
      · have hne : ¬ (nI d = nI d') := fun h => hdd ((z_nI_inj (by omega) (by omega)).1 h).symm
        rw [z_u2j _ _ _ _ hdd, z_u2j _ _ _ _ hdd, z_u2k _ _ _ _ (show (10 : Nat) ≠ 9 by decide), hT'.1, hT'.2]
        simp only [hne, if_false, z_or0, z_add0, and_self]
theorem z3_tally {X : TX} {n : Nat} (hn : X 3 5 = nI n) (h10 : n ≤ 10) (hw : zWs n (X 4)) :
    ∃ Y, f_X3_tally X = some Y ∧ (∀ k, k ≠ 9 → k ≠ 10 → Y k = X k) ∧ zTal n (X 4) (X 5) (fun p => X 5 (10 + p)) (Y 9) (Y 10) := by
  have h := z_loopE (fun f i a => L_X3_tally_2 f a i) (fun i Y => (∀ k, k ≠ 9 → k ≠ 10 → Y k = X k) ∧ ∀ d, d < i → Y 9 d = nI 0 ∧ Y 10 d = nI 0) (fun Y => L_X3_tally_33 FU Y (nI 0)) 4 ?_ ?_ 4 0 FU X ⟨fun _ _ _ => rfl, fun d hd => absurd hd (by omega)⟩ (by omega) (by unfold FU; omega)
  · obtain ⟨Y, e1, hY, h0⟩ := h
    have h4 := hY 4 (by decide) (by decide)
    have h5 := hY 5 (by decide) (by decide)
    obtain ⟨Z, e2, hZ, hT⟩ := z3_tally33 (X := Y) (by rw [hY 3 (by decide) (by decide)]; exact hn) h10 (by rw [h4]; exact hw) h0
    rw [h4, h5] at hT
    exact ⟨Z, e1.trans e2, fun k a b => (hZ k a b).trans (hY k a b), hT⟩
  · intro f Y ⟨hY, hT⟩
    simp (discharger := omega) only [L_X3_tally_2, z_lit, z_nI_le, z_nI_lt, z_nI_inj, z_inb, z_nI_tn, z_nI_add, z_nI_mul, z_bitN, z_zb, z_0add, z_add0, z_0or, z_or0, Option.bind_some, decide_eq_true_eq, Nat.zero_add, Nat.add_zero, Nat.le_refl, if_true]
  · intro f i Y hi ⟨hY, hT⟩
    have h1 : ¬ 4 ≤ i := by omega
    have p9 : ∀ v, f_X8_put 9 Y (nI i) v = some (u2 Y 9 i v) := fun v => z_put hi (by decide)
    have p10 : ∀ v v', f_X8_put 10 (u2 Y 9 i v) (nI i) v' = some (u2 (u2 Y 9 i v) 10 i v') := fun v v' => z_put (show i < lenX 10 from hi) (by decide)
    refine ⟨_, by simp (discharger := omega) only [L_X3_tally_2, z_lit, z_nI_le, z_nI_lt, z_nI_inj, z_inb, z_nI_tn, z_nI_add, z_nI_mul, z_bitN, z_zb, z_0add, z_add0, z_0or, z_or0, Option.bind_some, decide_eq_true_eq, Nat.zero_add, Nat.add_zero, h1, if_false, p9, p10]; rfl, ?_, ?_⟩
    · intro k h9 h10
      rw [z_u2k _ _ _ _ h10, z_u2k _ _ _ _ h9, hY k h9 h10]
    · intro d hd
      by_cases hdd : d = i
      · subst hdd; rw [z_u2k _ _ _ _ (show (9 : Nat) ≠ 10 by decide), z_u2s, z_u2s]; exact ⟨rfl, rfl⟩
      · rw [z_u2k _ _ _ _ (show (9 : Nat) ≠ 10 by decide), z_u2j _ _ _ _ hdd, z_u2j _ _ _ _ hdd, z_u2k _ _ _ _ (show (10 : Nat) ≠ 9 by decide)]
        exact hT d (by omega)
