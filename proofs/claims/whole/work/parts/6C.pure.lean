set_option linter.unusedVariables false
def zSum (n : Nat) (g : Nat → Int32) : Int32 := zF (fun p x => x + g p) n 0 (nI 0)
def zSet (n : Nat) (w : Nat → Int32) (d : Int32) : Int32 := zF (fun p x => x ||| (if w p = d then zb p else nI 0)) n 0 (nI 0)
theorem zSum_congr {n : Nat} {g h : Nat → Int32} (e : ∀ p, p < n → g p = h p) : zSum n g = zSum n h :=
  zF_congr _ _ n 0 (nI 0) fun j a _ h2 => by rw [e j (by omega)]
theorem zSum_succ (n : Nat) (g : Nat → Int32) : zSum (n + 1) g = zSum n g + g n := by
  unfold zSum; rw [zF_snoc, Nat.zero_add]
theorem zSet_congr {n : Nat} {w w' : Nat → Int32} {d : Int32} (e : ∀ p, p < n → w p = w' p) : zSet n w d = zSet n w' d :=
  zF_congr _ _ n 0 (nI 0) fun j a _ h2 => by rw [e j (by omega)]
theorem zSet_succ (n : Nat) (w : Nat → Int32) (d : Int32) : zSet (n + 1) w d = zSet n w d ||| (if w n = d then zb n else nI 0) := by
  unfold zSet; rw [zF_snoc, Nat.zero_add]
theorem bt_zSet : ∀ {n : Nat} (h : n ≤ 32) (w : Nat → Int32) (d : Int32) (q : Nat), bt (zSet n w d) q = (decide (q < n) && decide (w q = d))
  | 0, h, w, d, q => by simp [zSet, zF, bt_nI0]
  | n + 1, h, w, d, q => by
    rw [zSet_succ, bt_or, bt_zSet (by omega) w d q]
    by_cases hq : q = n
    · subst hq
      by_cases hw : w q = d
      · simp [hw, bt_zb (show q < 32 by omega)]
      · simp [hw, bt_nI0]
    · have h1 : (q < n + 1) ↔ q < n := by omega
      by_cases hw : w n = d
      · simp only [hw, if_true, bt_zb (show n < 32 by omega), h1]
        have : ¬ n = q := by omega
        simp [this]
      · simp [hw, bt_nI0, h1]
theorem z9_setOf {M : TX} {n : Nat} (hn : M 0 19 = nI n) (h10 : n ≤ 10) (d : Int32) : f_X9_setOf M d = some (zSet n (M 20) d) := by
  refine z_loop (fun f i a => L_X9_setOf_4 f M d a i) (fun p x => x ||| (if M 20 p = d then zb p else nI 0)) some n ?_ ?_ n 0 FU (nI 0) (by omega) (by unfold FU; omega)
  · intro f i a h
    subst h
    simp (discharger := omega) only [L_X9_setOf_4, hn, z_lit, z_nI_le, z_nI_lt, z_nI_inj, z_inb, z_nI_tn, z_nI_add, z_nI_mul, z_bitN, z_zb, z_0add, z_add0, z_0or, z_or0, Option.bind_some, decide_eq_true_eq, Nat.zero_add, Nat.add_zero]
    simp
  · intro f i a h
    have h1 : ¬ n ≤ i := by omega
    have h2 : i < 34 := by omega
    simp (discharger := omega) only [L_X9_setOf_4, hn, z_lit, z_nI_le, z_nI_lt, z_nI_inj, z_inb, z_nI_tn, z_nI_add, z_nI_mul, z_bitN, z_zb, z_0add, z_add0, z_0or, z_or0, Option.bind_some, decide_eq_true_eq, Nat.zero_add, Nat.add_zero]
    simp only [h1, h2, if_true, if_false]
    by_cases hc : M 20 i = d
    · simp only [hc, if_true]
    · simp only [hc, if_false, z_or0]
theorem z9_votesOf {M : TX} {s p : Nat} (hs : s < 2) (hp : p < 10) : f_X9_votesOf M (nI p) (nI s) = some (M 20 (10 + 10 * s + p)) := by
  have h1 : 10 + 10 * s + p < 34 := by omega
  unfold f_X9_votesOf
  simp (discharger := omega) only [z_lit, z_nI_le, z_nI_lt, z_nI_inj, z_inb, z_nI_tn, z_nI_add, z_nI_mul, z_bitN, z_zb, z_0add, z_add0, z_0or, z_or0, Option.bind_some, decide_eq_true_eq, Nat.zero_add, Nat.add_zero, z_nI_mul, h1, if_true]
theorem z9_votesIn {M : TX} {n : Nat} (hn : M 0 19 = nI n) (h10 : n ≤ 10) (set : Int32) {s : Nat} (hs : s < 2) : f_X9_votesIn M set (nI s) = some (zSum n (fun p => (if bt set p then M 20 (10 + 10 * s + p) else nI 0))) := by
  refine z_loop (fun f i a => L_X9_votesIn_5 f M set (nI s) a i) (fun p x => x + (if bt set p then M 20 (10 + 10 * s + p) else nI 0)) some n ?_ ?_ n 0 FU (nI 0) (by omega) (by unfold FU; omega)
  · intro f i a h
    subst h
    simp (discharger := omega) only [L_X9_votesIn_5, hn, z_lit, z_nI_le, z_nI_lt, z_nI_inj, z_inb, z_nI_tn, z_nI_add, z_nI_mul, z_bitN, z_zb, z_0add, z_add0, z_0or, z_or0, Option.bind_some, decide_eq_true_eq, Nat.zero_add, Nat.add_zero]
    simp
  · intro f i a h
    have h1 : ¬ n ≤ i := by omega
    simp (discharger := omega) only [L_X9_votesIn_5, hn, z_lit, z_nI_le, z_nI_lt, z_nI_inj, z_inb, z_nI_tn, z_nI_add, z_nI_mul, z_bitN, z_zb, z_0add, z_add0, z_0or, z_or0, Option.bind_some, decide_eq_true_eq, Nat.zero_add, Nat.add_zero, h1, if_false, z9_votesOf hs (show i < 10 by omega)]
    cases bt set i <;> simp only [if_true, if_false, z_0mul, z_1mul, z_add0, Bool.false_eq_true]
def zVot (n : Nat) (w v : Nat → Int32) (d : Int32) : Int32 := zSum n fun p => if w p = d then v p else nI 0
theorem z9_votesInSet {M : TX} {n : Nat} (hn : M 0 19 = nI n) (h10 : n ≤ 10) (d : Int32) {s : Nat} (hs : s < 2) : f_X9_votesIn M (zSet n (M 20) d) (nI s) = some (zVot n (M 20) (fun p => M 20 (10 + 10 * s + p)) d) := by
  rw [z9_votesIn hn h10 _ hs]
  congr 1
  refine zSum_congr fun p hp => ?_
  rw [bt_zSet (by omega)]
  by_cases h : M 20 p = d <;> simp [h, hp]
def zWin (x : Int32) : Int32 := if x = 0 then -1 else if x ≤ 0 then 1 else 0
theorem zWin' (x : Int32) : (if x ≤ 0 then (if 0 ≤ x then (-1 : Int32) else 1) else 0) = zWin x := by
  unfold zWin
  by_cases h0 : x = 0
  · subst h0; simp
  · by_cases h1 : x ≤ 0
    · have h2 : ¬ 0 ≤ x := fun h => h0 (Int32.le_antisymm h1 h)
      simp [h0, h1, h2]
    · simp [h0, h1]
/-- the lead of side 0 in a ward -/
def zLead (n : Nat) (w v0 v1 : Nat → Int32) (d : Int32) : Int32 := zVot n w v0 d - zVot n w v1 d
theorem z9_winnerOf {M : TX} {n : Nat} (hn : M 0 19 = nI n) (h10 : n ≤ 10) (d : Int32) : f_X9_winnerOf M d = some (zWin (zLead n (M 20) (fun p => M 20 (10 + p)) (fun p => M 20 (20 + p)) d)) := by
  have e0 := z9_votesInSet hn h10 d (s := 0) (by omega)
  have e1 := z9_votesInSet hn h10 d (s := 1) (by omega)
  unfold f_X9_winnerOf
  rw [z9_setOf hn h10, Option.bind_some]
  have e0' : f_X9_votesIn M (zSet n (M 20) d) 0 = some (zVot n (M 20) (fun p => M 20 (10 + p)) d) := e0
  have e1' : f_X9_votesIn M (zSet n (M 20) d) 1 = some (zVot n (M 20) (fun p => M 20 (20 + p)) d) := e1
  rw [e0', Option.bind_some, e1', Option.bind_some, ← zWin']
  unfold zLead
  generalize zVot n (M 20) (fun p => M 20 (10 + p)) d - zVot n (M 20) (fun p => M 20 (20 + p)) d = x
  by_cases h1 : x ≤ 0 <;> by_cases h2 : 0 ≤ x <;> simp [h1, h2]
