set_option linter.unusedVariables false
theorem z_at' {k i : Nat} {X : TX} {x : Int32} (hx : x = nI i) (h : i < lenX k) (hk : lenX k < 2147483648) : f_X8_at k X x = some (X k i) := hx ▸ z_at h hk
theorem z3_votesOf {X : TX} {s p : Nat} (hs : s < 2) (hp : p < 10) : f_X3_votesOf X (nI s) (nI p) = some (X 5 (10 * s + p)) := by
  have h1 : 10 * s + p < lenX 5 := by show _ < 20; omega
  unfold f_X3_votesOf
  simp (discharger := omega) only [z_lit, z_nI_le, z_nI_lt, z_nI_inj, z_inb, z_nI_tn, z_nI_add, z_nI_mul, z_bitN, z_zb, z_0add, z_add0, z_0or, z_or0, Option.bind_some, decide_eq_true_eq, Nat.zero_add, Nat.add_zero]
  rw [Nat.mul_comm s 10, z_at h1 (by decide), Option.bind_some]
theorem z3_wardOf {X : TX} {p : Nat} (hp : p < 10) : f_X3_wardOf X (nI p) = some (X 4 p) := by
  unfold f_X3_wardOf
  rw [z_at (show p < lenX 4 from hp) (by decide), Option.bind_some]
theorem z3_membersOf {X : TX} {d : Nat} (hd : d < 4) : f_X3_membersOf X (nI d) = some (X 9 d) := by
  unfold f_X3_membersOf
  rw [z_at (show d < lenX 9 from hd) (by decide), Option.bind_some]
theorem z3_winner {X : TX} {d : Nat} (hd : d < 4) : f_X3_winner X (nI d) = some (zWin (X 10 d)) := by
  unfold f_X3_winner zWin
  rw [z_at (show d < lenX 10 from hd) (by decide), Option.bind_some]
  by_cases h1 : X 10 d = 0 <;> by_cases h2 : X 10 d ≤ 0 <;> simp [h1, h2]
theorem z3_allVotes {X : TX} {n : Nat} (hn : X 3 5 = nI n) (h10 : n ≤ 10) {s : Nat} (hs : s < 2) : f_X3_allVotes X (nI s) = some (zSum n fun p => X 5 (10 * s + p)) := by
  refine z_loop (fun f i a => L_X3_allVotes_4 f X (nI s) a i) (fun p x => x + X 5 (10 * s + p)) some n ?_ ?_ n 0 FU (nI 0) (by omega) (by unfold FU; omega)
  · intro f i a h
    subst h
    simp (discharger := omega) only [L_X3_allVotes_4, hn, z_lit, z_nI_le, z_nI_lt, z_nI_inj, z_inb, z_nI_tn, z_nI_add, z_nI_mul, z_bitN, z_zb, z_0add, z_add0, z_0or, z_or0, Option.bind_some, decide_eq_true_eq, Nat.zero_add, Nat.add_zero, Nat.le_refl, if_true]
  · intro f i a h
    have h1 : ¬ n ≤ i := by omega
    simp (discharger := omega) only [L_X3_allVotes_4, hn, z_lit, z_nI_le, z_nI_lt, z_nI_inj, z_inb, z_nI_tn, z_nI_add, z_nI_mul, z_bitN, z_zb, z_0add, z_add0, z_0or, z_or0, Option.bind_some, decide_eq_true_eq, Nat.zero_add, Nat.add_zero, h1, if_false, z3_votesOf hs (show i < 10 by omega)]
theorem z3_wardVotes {X : TX} {n : Nat} (hn : X 3 5 = nI n) (h10 : n ≤ 10) {s : Nat} (hs : s < 2) (d : Int32) : f_X3_wardVotes X (nI s) d = some (zVot n (X 4) (fun p => X 5 (10 * s + p)) d) := by
  refine z_loop (fun f i a => L_X3_wardVotes_5 f X (nI s) d a i) (fun p x => x + if X 4 p = d then X 5 (10 * s + p) else nI 0) some n ?_ ?_ n 0 FU (nI 0) (by omega) (by unfold FU; omega)
  · intro f i a h
    subst h
    simp (discharger := omega) only [L_X3_wardVotes_5, hn, z_lit, z_nI_le, z_nI_lt, z_nI_inj, z_inb, z_nI_tn, z_nI_add, z_nI_mul, z_bitN, z_zb, z_0add, z_add0, z_0or, z_or0, Option.bind_some, decide_eq_true_eq, Nat.zero_add, Nat.add_zero, Nat.le_refl, if_true]
  · intro f i a h
    have h1 : ¬ n ≤ i := by omega
    simp (discharger := omega) only [L_X3_wardVotes_5, hn, z_lit, z_nI_le, z_nI_lt, z_nI_inj, z_inb, z_nI_tn, z_nI_add, z_nI_mul, z_bitN, z_zb, z_0add, z_add0, z_0or, z_or0, Option.bind_some, decide_eq_true_eq, Nat.zero_add, Nat.add_zero, h1, if_false, z3_votesOf hs (show i < 10 by omega), z3_wardOf (show i < 10 by omega)]
    by_cases hc : X 4 i = d <;> simp only [hc, if_true, if_false, z_add0]
/-- a sign -/
def zSg (x y : Int32) : Int32 := if y ≤ x then (if x = y then 0 else 1) else -1
theorem z_cmp (x y : Int32) : f_J6_compare_7cf53 x y = some (zSg x y) := by
  unfold f_J6_compare_7cf53 zSg
  by_cases h1 : y ≤ x <;> by_cases h2 : x = y <;> simp [h1, h2]
def zMar (l : Nat → Int32) (side : Int32) : Int32 :=
  let m := zF (fun d x => x + zSg (l d) 0) 4 0 (nI 0)
  if side = 0 then m else -m
theorem z3_margin {X : TX} (s : Int32) : f_X3_margin X s = some (zMar (X 10) s) := by
  have h := z_loop (fun f i a => L_X3_margin_4 f X s a i) (fun d x => x + zSg (X 10 d) 0) (fun a => some (if s = 0 then a else -a)) 4 ?_ ?_ 4 0 FU (nI 0) (by omega) (by unfold FU; omega)
  · exact h
  · intro f i a h
    subst h
    simp (discharger := omega) only [L_X3_margin_4, z_lit, z_nI_le, z_nI_lt, z_nI_inj, z_inb, z_nI_tn, z_nI_add, z_nI_mul, z_bitN, z_zb, z_0add, z_add0, z_0or, z_or0, Option.bind_some, decide_eq_true_eq, Nat.zero_add, Nat.add_zero, Nat.le_refl, if_true]
    by_cases h : s = nI 0 <;> simp only [h, if_true, if_false]
  · intro f i a h
    have h1 : ¬ 4 ≤ i := by omega
    have e0 := z_at (X := X) (show i < lenX 10 from h) (by decide)
    simp (discharger := omega) only [L_X3_margin_4, z_lit, z_nI_le, z_nI_lt, z_nI_inj, z_inb, z_nI_tn, z_nI_add, z_nI_mul, z_bitN, z_zb, z_0add, z_add0, z_0or, z_or0, Option.bind_some, decide_eq_true_eq, Nat.zero_add, Nat.add_zero, h1, if_false, e0, z_cmp]
