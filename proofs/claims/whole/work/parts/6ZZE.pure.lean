set_option linter.unusedVariables false
theorem z_undo {n : Nat} {X M : TX} (h : zV n X M) : zOq (f_X8_undo X) (f_X9_undo M) := by
  have h10 := h.e.n10
  obtain ⟨w, hw, wx, wm, wr⟩ := h.wk
  have g := h.q (zQX.refl X) (zQM_0 M (nI 0))
  have m33 : u2 M 0 0 (0 : Int32) 0 33 = nI w := by rw [z_u2j _ _ _ _ (by decide)]; exact wm
  by_cases c : w = 0
  · subst c
    refine ⟨n, X, u2 M 0 0 (nI 0), -1, ?_, ?_, g⟩
    · unfold f_X8_undo; rw [wx, if_neg (by decide)]
    · unfold f_X9_undo; rw [m33, if_pos (by rfl)]; rfl
  · obtain ⟨v, rfl⟩ : ∃ v, w = v + 1 := ⟨w - 1, by omega⟩
    have hr := wr v (by omega)
    have ev : nI (v + 1) - (1 : Int32) = nI v := by
      have : nI (v + 1) - nI 1 = nI (v + 1 - 1) := z_subN (by omega)
      exact this
    have c1 : (0 : Int32) < nI (v + 1) := (z_nI_lt (i := 0) (j := v + 1) (by omega) (by omega)).2 (by omega)
    have c2 : ¬ nI (v + 1) = (0 : Int32) := fun e => by
      have := (z_nI_inj (i := v + 1) (j := 0) (by omega) (by omega)).1 e
      omega
    obtain ⟨W, hW⟩ : ∃ W, W = u2 X 37 3 (nI v) := ⟨_, rfl⟩
    have Wk : ∀ k, k ≠ 37 → W k = X k := fun k hk => by rw [hW, z_u2k _ _ _ _ hk]
    have hr2 : zRx (fun j => W 38 (34 * v + j)) (fun j => M 21 (34 * v + j)) := by rw [Wk 38 (by decide)]; exact hr.1
    obtain ⟨Y, y1, y2, y3⟩ := z3_load (n := n) (k := 38) (st := 34 * v) h10 (s := fun j => M 21 (34 * v + j)) (X := W) (by rw [Wk 3 (by decide)]; exact h.e.xn) hr.2 (by decide) (by show 34 * v + 34 ≤ 544; omega) (by decide) hr2
    have yk : ∀ k, k ≠ 3 ∧ k ≠ 4 ∧ k ≠ 5 ∧ k ≠ 9 ∧ k ≠ 10 ∧ k ≠ 21 ∧ k ≠ 22 ∧ k ≠ 33 ∧ k ≠ 37 → Y k = X k := fun k ⟨a, b, c, d, e, f, g, i, j⟩ => (y2.1 k a b c d e f g i).trans (Wk k j)
    have y37 : Y 37 = W 37 := y2.1 37 (by decide) (by decide) (by decide) (by decide) (by decide) (by decide) (by decide) (by decide)
    -- the reference
    obtain ⟨M1, hM1⟩ : ∃ Z, Z = u2 (u2 M 0 0 (nI 0)) 0 33 (nI v) := ⟨_, rfl⟩
    have M1k : ∀ k, k ≠ 0 → M1 k = M k := fun k hk => by rw [hM1, z_u2k _ _ _ _ hk, z_u2k _ _ _ _ hk]
    have M10 : ∀ j, j ≠ 0 → j ≠ 33 → M1 0 j = M 0 j := fun j a b => by rw [hM1, z_u2j _ _ _ _ b, z_u2j _ _ _ _ a]
    have M133 : M1 0 33 = nI v := by rw [hM1, z_u2s]
    have l := z_loopE (fun f i N => L_X9_undo_26 f N i) (fun i N => (∀ k, k ≠ 19 → N k = M1 k) ∧ (∀ j, j < i → N 19 j = M 21 (34 * v + j))) (fun N => some ((u2 N 0 34 (0 : Int32)), ((u2 N 0 34 (0 : Int32)) 0 33))) 34 ?_ ?_ 34 0 FU M1 ⟨fun _ _ => rfl, fun j hj => absurd hj (by omega)⟩ (by omega) (by unfold FU; omega)
    · obtain ⟨N, n1, n2, n3⟩ := l
      have N33 : u2 N 0 34 (0 : Int32) 0 33 = nI v := by rw [z_u2j _ _ _ _ (by decide), n2 0 (by decide)]; exact M133
      have Rk : ∀ k, k ≠ 0 → k ≠ 19 → u2 N 0 34 (0 : Int32) k = M k := fun k a b => by rw [z_u2k _ _ _ _ a, n2 k b, M1k k a]
      have R0 : ∀ j, j ≠ 0 → j ≠ 33 → j ≠ 34 → u2 N 0 34 (0 : Int32) 0 j = M 0 j := fun j a b c => by rw [z_u2j _ _ _ _ c, n2 0 (by decide), M10 j a b]
      have R19 : ∀ j, j < 34 → u2 N 0 34 (0 : Int32) 19 j = M 21 (34 * v + j) := fun j hj => by rw [z_u2k _ _ _ _ (by decide)]; exact n3 j hj
      refine ⟨n, u2 Y 0 11 (0 : Int32), u2 N 0 34 (0 : Int32), nI v, ?_, ?_, ?_⟩
      · have y1' : f_X3_load 38 W (nI v * (34 : Int32)) = some Y := by
          have : nI v * nI 34 = nI (34 * v) := by rw [z_nI_mul, Nat.mul_comm]
          have e : nI v * (34 : Int32) = nI (34 * v) := this
          rw [e]; exact y1
        have w3 : W 37 3 = nI v := by rw [hW, z_u2s]
        unfold f_X8_undo f_X0_takeBackWork
        rw [wx, if_pos c1, ev, ← hW, w3, y1', Option.bind_some, Option.bind_some]
        show some (u2 Y 0 11 (0 : Int32), u2 Y 0 11 (0 : Int32) 37 3) = _
        rw [z_u2k _ _ _ _ (by decide), y37, w3]
      · unfold f_X9_undo
        rw [m33, if_neg c2, ev]
        have n1' : L_X9_undo_26 FU (u2 (u2 M 0 0 (nI 0)) 0 33 (nI v)) (0 : Int32) = some ((u2 N 0 34 (0 : Int32)), ((u2 N 0 34 (0 : Int32)) 0 33)) := by rw [← hM1]; exact n1
        show L_X9_undo_26 FU (u2 (u2 M 0 0 (nI 0)) 0 33 (nI v)) (0 : Int32) = _
        rw [n1', N33]
      · have hS : zS M (u2 N 0 34 (0 : Int32)) := zS.mk (Rk 7 (by decide) (by decide)) (Rk 8 (by decide) (by decide)) (Rk 11 (by decide) (by decide)) (Rk 12 (by decide) (by decide)) (R0 19 (by decide) (by decide) (by decide)) (R0 20 (by decide) (by decide) (by decide)) (R0 21 (by decide) (by decide) (by decide)) (R0 28 (by decide) (by decide) (by decide))
        have uk : ∀ k, k ≠ 0 → u2 Y 0 11 (0 : Int32) k = Y k := fun k hk => z_u2k _ _ _ _ hk
        have hEW : zE n M W := h.e.frame' (Wk 3 (by decide)) fun k hk => Wk k (by unfold zEk at hk; omega)
        refine zV.mk (zE_K ((hEW.fx y2).frame' (uk 3 (by decide)) fun k hk => uk k (by unfold zEk at hk; omega)) hS) ?_ ?_ ?_ ?_ ?_ ?_ ?_ ?_ ?_ ?_
        · exact (y3.congr h10 fun j hj => R19 j hj).frame (uk 3 (by decide)) (uk 4 (by decide)) (uk 5 (by decide)) (uk 9 (by decide)) (uk 10 (by decide))
        · unfold zYr; rw [R19 32 (by decide)]; exact hr.2.yr
        · have := h.tp; unfold zTp at *; rw [uk 1 (by decide), uk 2 (by decide), yk 1 (by decide), yk 2 (by decide), R0 2 (by decide) (by decide) (by decide), Rk 2 (by decide) (by decide)]; exact this
        · rw [uk 1 (by decide), yk 1 (by decide), R0 8 (by decide) (by decide) (by decide)]; exact h.fa
        · have := h.bk; unfold zBk at *; rw [uk 27 (by decide), uk 28 (by decide), yk 27 (by decide), yk 28 (by decide), R0 40 (by decide) (by decide) (by decide), Rk 18 (by decide) (by decide)]; exact this
        · refine ⟨v, by omega, ?_, N33, fun i hi => ?_⟩
          · rw [uk 37 (by decide), y37, hW, z_u2s]
          · exact zRp_congr (wr i (by omega)) ((uk 38 (by decide)).trans (yk 38 (by decide))) (Rk 21 (by decide) (by decide))
        · refine zIm_congr h.im ?_ ((uk 39 (by decide)).trans (yk 39 (by decide))) ((uk 40 (by decide)).trans (yk 40 (by decide))) (R0 50 (by decide) (by decide) (by decide)) (Rk 26 (by decide) (by decide))
          rw [uk 37 (by decide), y37, hW, z_u2j _ _ _ _ (by decide)]
        · rw [z_u2s, z_u2s]
        · rw [z_u2j _ _ _ _ (by decide), yk 0 (by decide), Rk 1 (by decide) (by decide)]; exact h.no
        · rw [z_u2j _ _ _ _ (by decide), yk 0 (by decide), Rk 1 (by decide) (by decide)]; exact h.il
    · rintro f N ⟨n2, n3⟩
      simp (discharger := omega) only [L_X9_undo_26, z_lit, z_nI_le, z_nI_lt, z_nI_inj, z_inb, z_nI_tn, z_nI_add, z_nI_mul, z_bitN, z_zb, z_0add, z_add0, z_0or, z_or0, Option.bind_some, decide_eq_true_eq, Nat.zero_add, Nat.add_zero, Nat.le_refl, ↓reduceIte]
    · rintro f i N hi ⟨n2, n3⟩
      have c34 : ¬ 34 ≤ i := by omega
      have i1 : 34 * v + i < 544 := by omega
      have e33 : N 0 33 = nI v := by rw [n2 0 (by decide)]; exact M133
      have e21 : N 21 (34 * v + i) = M 21 (34 * v + i) := by rw [n2 21 (by decide), M1k 21 (by decide)]
      refine ⟨u2 N 19 i (M 21 (34 * v + i)), ?_, fun k hk => (z_u2k _ _ _ _ hk).trans (n2 k hk), fun j hj => ?_⟩
      · simp (discharger := omega) only [L_X9_undo_26, c34, i1, hi, e33, e21, z_lit, z_nI_le, z_nI_lt, z_nI_inj, z_inb, z_nI_tn, z_nI_add, z_nI_mul, z_bitN, z_zb, z_0add, z_add0, z_0or, z_or0, Option.bind_some, decide_eq_true_eq, Nat.zero_add, Nat.add_zero, ↓reduceIte]
      · by_cases cj : j = i
        · subst cj; rw [z_u2s]
        · rw [z_u2j _ _ _ _ cj]; exact n3 j (by omega)
theorem z9_keep1 {k2 : Nat} (hk : k2 ≠ 26) {M : TX} {q sz : Nat} (hs : sz ≤ lenM k2) (hl : lenM k2 < 100000) (hq : q + sz ≤ 1737) (hsz : sz < 1000) :
    ∃ N, f_X9_keepsRow k2 M (nI q) (nI sz) (1 : Int32) = some (N, nI (q + sz)) ∧ (∀ k, k ≠ 26 → N k = M k) ∧ (∀ j, j < sz → N 26 (q + j) = M k2 j) ∧ (∀ j, j < q ∨ q + sz ≤ j → N 26 j = M 26 j) := by
  have l := z_loopE (fun f i N => L_X9_keepsRow_3 k2 f N (nI q) (nI sz) (nI 1) i) (fun i N => (∀ k, k ≠ 26 → N k = M k) ∧ (∀ j, j < i → N 26 (q + j) = M k2 j) ∧ (∀ j, j < q ∨ q + i ≤ j → N 26 j = M 26 j)) (fun N => some (N, nI (q + sz))) sz ?_ ?_ sz 0 FU M ⟨fun _ _ => rfl, fun j hj => absurd hj (by omega), fun _ _ => rfl⟩ (by omega) (by unfold FU; omega)
  · exact l
  · intro f N _
    simp (discharger := omega) only [L_X9_keepsRow_3, z_lit, z_nI_le, z_nI_lt, z_nI_inj, z_inb, z_nI_tn, z_nI_add, z_nI_mul, z_bitN, z_zb, z_0add, z_add0, z_0or, z_or0, Option.bind_some, decide_eq_true_eq, Nat.zero_add, Nat.add_zero, Nat.le_refl, ↓reduceIte]
  · intro f i N hi ⟨n1, n2, n3⟩
    have c : ¬ sz ≤ i := by omega
    have t10 : ¬ ((1 : Nat) = 0) := by decide
    have b1 : i < lenM k2 := by omega
    have b2 : q + i < 1737 := by omega
    have e : N k2 i = M k2 i := by rw [n1 k2 hk]
    refine ⟨u2 N 26 (q + i) (M k2 i), ?_, fun k a => (z_u2k _ _ _ _ a).trans (n1 k a), fun j hj => ?_, fun j hj => by rw [z_u2j _ _ _ _ (by omega)]; exact n3 j (by omega)⟩
    · simp (discharger := omega) only [L_X9_keepsRow_3, c, t10, b1, b2, e, z_lit, z_nI_le, z_nI_lt, z_nI_inj, z_inb, z_nI_tn, z_nI_add, z_nI_mul, z_bitN, z_zb, z_0add, z_add0, z_0or, z_or0, Option.bind_some, decide_eq_true_eq, Nat.zero_add, Nat.add_zero, ↓reduceIte]
    · by_cases cj : j = i
      · subst cj; rw [z_u2s]
      · rw [z_u2j _ _ _ _ (by omega)]; exact n2 j (by omega)
theorem z9_keep0 {k2 : Nat} (hk : k2 ≠ 26) {M : TX} {q sz : Nat} (hs : sz ≤ lenM k2) (hl : lenM k2 < 100000) (hq : q + sz ≤ 1737) (hsz : sz < 1000) :
    ∃ N, f_X9_keepsRow k2 M (nI q) (nI sz) (0 : Int32) = some (N, nI (q + sz)) ∧ (∀ k, k ≠ k2 → N k = M k) ∧ (∀ j, j < sz → N k2 j = M 26 (q + j)) := by
  have l := z_loopE (fun f i N => L_X9_keepsRow_3 k2 f N (nI q) (nI sz) (nI 0) i) (fun i N => (∀ k, k ≠ k2 → N k = M k) ∧ (∀ j, j < i → N k2 j = M 26 (q + j))) (fun N => some (N, nI (q + sz))) sz ?_ ?_ sz 0 FU M ⟨fun _ _ => rfl, fun j hj => absurd hj (by omega)⟩ (by omega) (by unfold FU; omega)
  · exact l
  · intro f N _
    simp (discharger := omega) only [L_X9_keepsRow_3, z_lit, z_nI_le, z_nI_lt, z_nI_inj, z_inb, z_nI_tn, z_nI_add, z_nI_mul, z_bitN, z_zb, z_0add, z_add0, z_0or, z_or0, Option.bind_some, decide_eq_true_eq, Nat.zero_add, Nat.add_zero, Nat.le_refl, ↓reduceIte]
  · intro f i N hi ⟨n1, n2⟩
    have c : ¬ sz ≤ i := by omega
    have b1 : i < lenM k2 := by omega
    have b2 : q + i < 1737 := by omega
    have e : N 26 (q + i) = M 26 (q + i) := by rw [n1 26 (fun e => hk e.symm)]
    refine ⟨u2 N k2 i (M 26 (q + i)), ?_, fun k a => (z_u2k _ _ _ _ a).trans (n1 k a), fun j hj => ?_⟩
    · simp (discharger := omega) only [L_X9_keepsRow_3, c, b1, b2, e, z_lit, z_nI_le, z_nI_lt, z_nI_inj, z_inb, z_nI_tn, z_nI_add, z_nI_mul, z_bitN, z_zb, z_0add, z_add0, z_0or, z_or0, Option.bind_some, decide_eq_true_eq, Nat.zero_add, Nat.add_zero, ↓reduceIte]
    · by_cases cj : j = i
      · subst cj; rw [z_u2s]
      · rw [z_u2j _ _ _ _ cj]; exact n2 j (by omega)
