set_option linter.unusedVariables false
theorem z9_lines14 {M : TX} {n a : Nat} (h10 : n ≤ 10) (ha : a < n) (k : TX → Int32 → Int32 → Option Int32) (x : Nat) :
    L_X9_linesNow_14 k FU M (nI x) (nI a) (nI 0) = k M (nI (x + nS a fun b => (zEg (M 7) (M 20) a b).toNat)) (nI (a + 1)) := by
  have h := z_loop (fun f i y => L_X9_linesNow_14 k f M y (nI a) i) (fun b y => y + nI (zEg (M 7) (M 20) a b).toNat) (fun y => k M y (nI (a + 1))) a ?_ ?_ a 0 FU (nI x) (by omega) (by unfold FU; omega)
  · refine h.trans ?_
    have e : ∀ m, zF (fun b y => y + nI (zEg (M 7) (M 20) a b).toNat) m 0 (nI x) = nI (x + nS m fun b => (zEg (M 7) (M 20) a b).toNat) := fun m => by
      induction m with
      | zero => rfl
      | succ m ih => rw [zF_snoc, ih, z_nI_add, nS, Nat.zero_add, Nat.add_assoc]
    rw [e]
  · intro f i y hi
    subst hi
    simp (discharger := omega) only [L_X9_linesNow_14, z_lit, z_nI_le, z_nI_lt, z_nI_inj, z_inb, z_nI_tn, z_nI_add, z_nI_mul, z_bitN, z_zb, z_0add, z_add0, z_0or, z_or0, Option.bind_some, decide_eq_true_eq, Nat.zero_add, Nat.add_zero, Nat.le_refl, if_true]
  · intro f i y hi
    have h1 : ¬ a ≤ i := by omega
    have h2 : a < 10 := by omega
    have h3 : a < 34 := by omega
    have h4 : i < 34 := by omega
    simp (discharger := omega) only [L_X9_linesNow_14, z_lit, z_nI_le, z_nI_lt, z_nI_inj, z_inb, z_nI_tn, z_nI_add, z_nI_mul, z_bitN, z_zb, z_0add, z_add0, z_0or, z_or0, Option.bind_some, decide_eq_true_eq, Nat.zero_add, Nat.add_zero, h1, h2, h3, h4, if_false, if_true]
    unfold zEg
    by_cases c1 : bt (M 7 a) i = true
    · by_cases c2 : M 20 a = M 20 i
      · simp [c1, c2, z_add0]
      · simp [c1, c2]
    · have c1' : bt (M 7 a) i = false := by simpa using c1
      have : ¬ (nI 0 = nI 1) := by decide
      simp [c1', this, z_add0]
theorem z9_linesNow {M : TX} {n : Nat} (hn : M 0 19 = nI n) (h10 : n ≤ 10) : f_X9_linesNow M = some (nI (zLines (M 7) (M 20) n)) := by
  have : ∀ k f, k ≤ n → k < f → L_X9_linesNow_4 f M (nI (nS (n - k) fun a => nS a fun b => (zEg (M 7) (M 20) a b).toNat)) (nI (n - k)) = some (nI (zLines (M 7) (M 20) n)) := fun k => by
    induction k with
    | zero =>
      intro f _ hf
      obtain ⟨f, rfl⟩ : ∃ f', f = f' + 1 := ⟨f - 1, by omega⟩
      simp (discharger := omega) only [L_X9_linesNow_4, hn, z_lit, z_nI_le, z_nI_lt, z_nI_inj, z_inb, z_nI_tn, z_nI_add, z_nI_mul, z_bitN, z_zb, z_0add, z_add0, z_0or, z_or0, Option.bind_some, decide_eq_true_eq, Nat.zero_add, Nat.add_zero, Nat.sub_zero, Nat.le_refl, if_true, zLines]
    | succ k ih =>
      intro f hk hf
      obtain ⟨f, rfl⟩ : ∃ f', f = f' + 1 := ⟨f - 1, by omega⟩
      have h1 : ¬ n ≤ n - (k + 1) := by omega
      have h2 : n - (k + 1) + 1 = n - k := by omega
      have h3 := ih f (by omega) (by omega)
      rw [← h2] at h3
      rw [nS] at h3
      simp (discharger := omega) only [L_X9_linesNow_4, hn, z_lit, z_nI_le, z_nI_lt, z_nI_inj, z_inb, z_nI_tn, z_nI_add, z_nI_mul, z_bitN, z_zb, z_0add, z_add0, z_0or, z_or0, Option.bind_some, decide_eq_true_eq, Nat.zero_add, Nat.add_zero, h1, if_false, z9_lines14 (M := M) h10 (show n - (k + 1) < n by omega)]
      exact h3
  have h := this n FU (Nat.le_refl _) (by unfold FU; omega)
  rw [Nat.sub_self] at h
  exact h
