set_option linter.unusedVariables false
theorem zLead_upd (w v0 v1 : Nat → Int32) (p : Nat) (x d : Int32) : ∀ n, zLead n (upd w p x) v0 v1 d = if p < n then zLead n w v0 v1 d - (if w p = d then v0 p - v1 p else nI 0) + (if x = d then v0 p - v1 p else nI 0) else zLead n w v0 v1 d
  | 0 => by simp [zLead, zVot, zSum, zF]
  | n + 1 => by
    rw [zLead_succ, zLead_succ, zLead_upd w v0 v1 p x d n]
    by_cases h : p = n
    · subst h
      rw [z_updS, if_neg (show ¬ p < p by omega), if_pos (show p < p + 1 by omega)]
      grind
    · rw [z_updJ _ _ (show n ≠ p from fun e => h e.symm)]
      by_cases h1 : p < n
      · rw [if_pos h1, if_pos (show p < n + 1 by omega)]; grind
      · rw [if_neg h1, if_neg (show ¬ p < n + 1 by omega)]
theorem zSet_ext {n : Nat} (h : n ≤ 32) {w : Nat → Int32} {d m : Int32} (e : ∀ q, bt m q = (decide (q < n) && decide (w q = d))) : m = zSet n w d :=
  bt_ext fun q _ => by rw [e, bt_zSet h]
theorem zTal_place {n : Nat} (h10 : n ≤ 10) {w v0 v1 m l : Nat → Int32} (hT : zTal n w v0 v1 m l) {p c d : Nat} (hp : p < n) (hc : c < 4) (hd : d < 4) (hwp : w p = nI c) :
    zTal n (upd w p (nI d)) v0 v1 (upd (upd m c (m c &&& (zb p ^^^ -nI 1))) d (upd m c (m c &&& (zb p ^^^ -nI 1)) d ||| zb p)) (upd (upd l c (l c - (v0 p - v1 p))) d (upd l c (l c - (v0 p - v1 p)) d + (v0 p - v1 p))) := by
  intro j hj
  have hcd : ∀ a b, a < 4 → b < 4 → (nI a = nI b ↔ a = b) := fun a b ha hb => z_nI_inj (by omega) (by omega)
  constructor
  · refine zSet_ext (by omega) fun q => ?_
    have hm : ∀ d, d < 4 → bt (m d) q = (decide (q < n) && decide (w q = nI d)) := fun d hd => by rw [(hT d hd).1, bt_zSet (by omega)]
    have h1 : ∀ a, a < 4 → bt (upd m c (m c &&& (zb p ^^^ -nI 1)) a) q = (decide (q < n) && decide (w q = nI a) && !(decide (a = c) && decide (p = q))) := fun a ha => by
      by_cases hac : a = c
      · subst hac
        rw [z_updS, bt_and, bt_notN, bt_zb (by omega), hm a ha]
        by_cases h2 : q < n
        · have : q < 32 := by omega
          simp [this, h2]
        · simp [h2]
      · rw [z_updJ _ _ hac, hm a ha]; simp [hac]
    by_cases hjd : j = d
    · subst hjd
      rw [z_updS, bt_or, bt_zb (by omega), h1 j hj]
      by_cases hpq : p = q
      · subst hpq; rw [z_updS]; simp [hp]
      · rw [z_updJ _ _ (show q ≠ p from fun e => hpq e.symm)]; simp [hpq]
    · rw [z_updJ _ _ hjd, h1 j hj]
      by_cases hpq : p = q
      · subst hpq
        rw [z_updS, hwp]
        have e1 := hcd c j hc hj
        have e2 := hcd d j hd hj
        by_cases h3 : c = j
        · subst h3; simp [e2]; exact fun _ e => hjd e.symm
        · simp only [e1, e2]
          have h4 : ¬ d = j := fun e => hjd e.symm
          simp [h3, h4]
      · rw [z_updJ _ _ (show q ≠ p from fun e => hpq e.symm)]; simp [hpq]
  · rw [zLead_upd, if_pos hp, hwp, ← (hT j hj).2]
    have e1 := hcd c j hc hj
    have e2 := hcd d j hd hj
    by_cases hjd : j = d
    · subst hjd
      rw [z_updS]
      by_cases h3 : j = c
      · subst h3; rw [z_updS]; simp only [if_true]
      · rw [z_updJ _ _ h3]
        have h4 : ¬ c = j := fun e => h3 e.symm
        simp only [e1, h4, if_true, if_false, z_sub0]
    · rw [z_updJ _ _ hjd]
      have h5 : ¬ d = j := fun e => hjd e.symm
      by_cases h3 : j = c
      · subst h3; rw [z_updS]; simp only [e2, h5, if_true, if_false, z_add0]
      · rw [z_updJ _ _ h3]
        have h4 : ¬ c = j := fun e => h3 e.symm
        simp only [e1, e2, h4, h5, if_false, z_add0, z_sub0]
theorem z3_place {X : TX} {n : Nat} (h10 : n ≤ 10) {p c d : Nat} (hp : p < n) (hc : c < 4) (hd : d < 4) (hwp : X 4 p = nI c) (hT : zTal n (X 4) (X 5) (fun p => X 5 (10 + p)) (X 9) (X 10)) :
    ∃ Y, f_X3_place X (nI p) (nI d) = some Y ∧ (∀ k, k ≠ 4 → k ≠ 9 → k ≠ 10 → Y k = X k) ∧ Y 4 = upd (X 4) p (nI d) ∧ zTal n (Y 4) (X 5) (fun p => X 5 (10 + p)) (Y 9) (Y 10) := by
  have a4 : f_X8_at 4 X (nI p) = some (nI c) := by rw [z_at (show p < lenX 4 by show p < 10; omega) (by decide), hwp]
  have a5 : f_X8_at 5 X (nI p) = some (X 5 p) := z_at (show p < 20 by omega) (by decide)
  have a5' : f_X8_at 5 X (nI (10 + p)) = some (X 5 (10 + p)) := z_at (show 10 + p < 20 by omega) (by decide)
  have a9 : ∀ (Y : TX) a, a < 4 → f_X8_at 9 Y (nI a) = some (Y 9 a) := fun Y a ha => z_at (show a < lenX 9 from ha) (by decide)
  have a10 : ∀ (Y : TX) a, a < 4 → f_X8_at 10 Y (nI a) = some (Y 10 a) := fun Y a ha => z_at (show a < lenX 10 from ha) (by decide)
  have p9 : ∀ (Y : TX) a v, a < 4 → f_X8_put 9 Y (nI a) v = some (u2 Y 9 a v) := fun Y a v ha => z_put (show a < lenX 9 from ha) (by decide)
  have p10 : ∀ (Y : TX) a v, a < 4 → f_X8_put 10 Y (nI a) v = some (u2 Y 10 a v) := fun Y a v ha => z_put (show a < lenX 10 from ha) (by decide)
  have p4 : ∀ (Y : TX) v, f_X8_put 4 Y (nI p) v = some (u2 Y 4 p v) := fun Y v => z_put (show p < 10 by omega) (by decide)
  refine ⟨_, by simp (discharger := omega) only [f_X3_place, z_lit, z_nI_le, z_nI_lt, z_nI_inj, z_inb, z_nI_tn, z_nI_add, z_nI_mul, z_bitN, z_zb, z_0add, z_add0, z_0or, z_or0, Option.bind_some, decide_eq_true_eq, Nat.zero_add, Nat.add_zero, a4, a5, a5', a9, a10, p9, p10, p4]; rfl, ?_, ?_, ?_⟩
  · intro k h4 h9 h10
    simp only [u2, h4, h9, h10, if_false]
  · simp [u2]
  · have := zTal_place h10 hT hp hc hd hwp
    simpa [u2, upd] using this
