set_option linter.unusedVariables false
def zSeat (l : Nat → Int32) (s : Int32) : Int32 := zF (fun d a => a + if zWin (l d) = s then nI 1 else nI 0) 4 0 (nI 0)
theorem z9_seatsOf {M : TX} {n : Nat} (hn : M 0 19 = nI n) (h10 : n ≤ 10) (s : Int32) : f_X9_seatsOf M s = some (zSeat (fun d => zLead n (M 20) (fun p => M 20 (10 + p)) (fun p => M 20 (20 + p)) (nI d)) s) := by
  refine z_loop (fun f i a => L_X9_seatsOf_4 f M s a i) (fun d a => a + if zWin (zLead n (M 20) (fun p => M 20 (10 + p)) (fun p => M 20 (20 + p)) (nI d)) = s then nI 1 else nI 0) some 4 ?_ ?_ 4 0 FU (nI 0) (by omega) (by unfold FU; omega)
  · intro f i a h
    subst h
    simp (discharger := omega) only [L_X9_seatsOf_4, z_lit, z_nI_le, z_nI_lt, z_nI_inj, z_inb, z_nI_tn, z_nI_add, z_nI_mul, z_bitN, z_zb, z_0add, z_add0, z_0or, z_or0, Option.bind_some, decide_eq_true_eq, Nat.zero_add, Nat.add_zero, Nat.le_refl, if_true]
  · intro f i a h
    have h1 : ¬ 4 ≤ i := by omega
    simp (discharger := omega) only [L_X9_seatsOf_4, z_lit, z_nI_le, z_nI_lt, z_nI_inj, z_inb, z_nI_tn, z_nI_add, z_nI_mul, z_bitN, z_zb, z_0add, z_add0, z_0or, z_or0, Option.bind_some, decide_eq_true_eq, Nat.zero_add, Nat.add_zero, h1, if_false, z9_winnerOf hn h10]
    by_cases c : zWin (zLead n (M 20) (fun p => M 20 (10 + p)) (fun p => M 20 (20 + p)) (nI i)) = s
    · simp only [c, if_true]
    · simp only [c, if_false, z_add0]
theorem z_seat1 (x : Int32) : (if zWin x = nI 0 then nI 1 else nI 0) - (if zWin x = nI 1 then nI 1 else nI 0) = zSg x 0 := by
  unfold zWin zSg
  by_cases h0 : x = 0
  · subst h0; decide
  · by_cases h1 : x ≤ 0
    · have h2 : ¬ 0 ≤ x := fun h => h0 (Int32.le_antisymm h1 h)
      simp only [h0, h1, h2, if_true, if_false]; decide
    · have h2 : 0 ≤ x := by
        rcases Int32.le_total 0 x with h | h
        · exact h
        · exact absurd h h1
      simp only [h0, h1, h2, if_true, if_false]; decide
theorem z_addc (a b c d e f : Int32) (h : a - b = c) (h' : d - e = f) : (a + d) - (b + e) = c + f := by grind
theorem z_seats (l : Nat → Int32) : ∀ k, zF (fun d a => a + if zWin (l d) = nI 0 then nI 1 else nI 0) k 0 (nI 0) - zF (fun d a => a + if zWin (l d) = nI 1 then nI 1 else nI 0) k 0 (nI 0) = zF (fun d a => a + zSg (l d) 0) k 0 (nI 0)
  | 0 => show nI 0 - nI 0 = nI 0 by decide
  | k + 1 => by
    rw [zF_snoc, zF_snoc, zF_snoc]
    exact z_addc _ _ _ _ _ _ (z_seats l k) (z_seat1 _)
theorem z_swap (a b : Int32) : b - a = -(a - b) := by grind
theorem zMar_seat (l : Nat → Int32) {s : Nat} (hs : s < 2) : zSeat l (nI s) - zSeat l (nI 1 - nI s) = zMar l (nI s) := by
  have h : s = 0 ∨ s = 1 := by omega
  unfold zMar zSeat
  rcases h with rfl | rfl
  · rw [show nI 1 - nI 0 = nI 1 from by decide]
    simp only [show nI 0 = 0 from rfl, if_true]
    exact z_seats l 4
  · rw [show nI 1 - nI 1 = nI 0 from by decide, z_swap, z_seats l 4]
    have : ¬ (nI 1 = 0) := by decide
    simp only [this, if_false]
theorem z9_marginOf {M : TX} {n : Nat} (hn : M 0 19 = nI n) (h10 : n ≤ 10) {s : Nat} (hs : s < 2) : f_X9_marginOf M (nI s) = some (zMar (fun d => zLead n (M 20) (fun p => M 20 (10 + p)) (fun p => M 20 (20 + p)) (nI d)) (nI s)) := by
  unfold f_X9_marginOf
  simp (discharger := omega) only [z_lit, z_nI_le, z_nI_lt, z_nI_inj, z_inb, z_nI_tn, z_nI_add, z_nI_mul, z_bitN, z_zb, z_0add, z_add0, z_0or, z_or0, Option.bind_some, decide_eq_true_eq, Nat.zero_add, Nat.add_zero, z9_seatsOf hn h10, zMar_seat _ hs]
theorem zMar_congr {l l' : Nat → Int32} (h : ∀ d, d < 4 → l d = l' d) (s : Int32) : zMar l s = zMar l' s := by
  unfold zMar
  rw [zF_congr (fun d x => x + zSg (l d) 0) (fun d x => x + zSg (l' d) 0) 4 0 (nI 0) fun j a _ hj => by rw [h j (by omega)]]
