set_option linter.unusedVariables false
def zI (z : Int) : Int32 := Int32.ofInt z
theorem zI_toInt {z : Int} (h1 : -2147483648 ≤ z) (h2 : z < 2147483648) : (zI z).toInt = z := Int32.toInt_ofInt_of_le h1 h2
theorem zI_add (a b : Int) : zI a + zI b = zI (a + b) := (Int32.ofInt_add a b).symm
theorem zI_neg (a : Int) : -zI a = zI (-a) := (Int32.ofInt_neg a).symm
theorem zI_sub (a b : Int) : zI a - zI b = zI (a - b) := (Int32.ofInt_sub a b).symm
theorem zI_nat (n : Nat) : nI n = zI n := (Int32.ofInt_eq_ofNat (n := n)).symm
theorem zI_mul (a b : Int) : zI a * zI b = zI (a * b) := (Int32.ofInt_mul a b).symm
theorem zSg_int {a b : Int} (h1 : -2147483648 ≤ a) (h2 : a < 2147483648) (h3 : -2147483648 ≤ b) (h4 : b < 2147483648) : zSg (zI a) (zI b) = if b ≤ a then (if a = b then 0 else 1) else -1 := by
  unfold zSg
  have e1 : (zI b ≤ zI a) ↔ b ≤ a := by rw [Int32.le_iff_toInt_le, zI_toInt h1 h2, zI_toInt h3 h4]
  have e2 : (zI a = zI b) ↔ a = b := by rw [← Int32.toInt_inj, zI_toInt h1 h2, zI_toInt h3 h4]
  simp only [e1, e2]
/-- a parish's lead is small -/
theorem z_lead1 {n : Nat} {s : Nat → Int32} (hv : ∀ p, p < n → ∃ a b, s (10 + p) = nI a ∧ s (20 + p) = nI b ∧ a + b ≤ 198) {p : Nat} (hp : p < n) : ∃ z : Int, -198 ≤ z ∧ z ≤ 198 ∧ s (10 + p) - s (20 + p) = zI z := by
  obtain ⟨a, b, e1, e2, h⟩ := hv p hp
  exact ⟨a - b, by omega, by omega, by rw [e1, e2, zI_nat, zI_nat, zI_sub]⟩
theorem z_leadB {n : Nat} {s : Nat → Int32} : ∀ {m : Nat}, m ≤ n → (∀ p, p < n → ∃ a b, s (10 + p) = nI a ∧ s (20 + p) = nI b ∧ a + b ≤ 198) → ∀ d, ∃ z : Int, -198 * m ≤ z ∧ z ≤ 198 * m ∧ zLead m s (fun p => s (10 + p)) (fun p => s (20 + p)) d = zI z
  | 0, _, _, d => ⟨0, by omega, by omega, by unfold zLead zVot zSum zF; decide⟩
  | m + 1, hm, hv, d => by
    obtain ⟨z, h1, h2, h3⟩ := z_leadB (m := m) (by omega) hv d
    obtain ⟨y, g1, g2, g3⟩ := z_lead1 hv (show m < n by omega)
    rw [zLead_succ, h3]
    by_cases h : s m = d
    · refine ⟨z + y, by omega, by omega, ?_⟩
      rw [if_pos h, g3, zI_add]
    · refine ⟨z, by omega, by omega, ?_⟩
      rw [if_neg h, z_add0]
theorem zLc_upd {n : Nat} {s : Nat → Int32} (h10 : n ≤ 10) {p : Nat} (hp : p < n) (x : Int32) (d : Nat) : zLc n (upd s p x) d = zLc n s d - (if s p = nI d then s (10 + p) - s (20 + p) else nI 0) + (if x = nI d then s (10 + p) - s (20 + p) else nI 0) := by
  unfold zLc
  have e : zLead n (upd s p x) (fun q => upd s p x (10 + q)) (fun q => upd s p x (20 + q)) (nI d) = zLead n (upd s p x) (fun q => s (10 + q)) (fun q => s (20 + q)) (nI d) :=
    zLead_congr (fun _ _ => rfl) (fun q _ => z_updJ _ _ (by omega)) (fun q _ => z_updJ _ _ (by omega))
  rw [e, zLead_upd, if_pos hp]
theorem z_sum4 {g h : Nat → Int32} {c d : Nat} (hc : c < 4) (hd : d < 4) (hcd : c ≠ d) (e : ∀ j, j < 4 → j ≠ c → j ≠ d → g j = h j) : zF (fun j x => x + g j) 4 0 (nI 0) = zF (fun j x => x + h j) 4 0 (nI 0) + (((g c - h c) + g d) - h d) := by
  have hc' : c = 0 ∨ c = 1 ∨ c = 2 ∨ c = 3 := by omega
  have hd' : d = 0 ∨ d = 1 ∨ d = 2 ∨ d = 3 := by omega
  have e0 := e 0 (by omega)
  have e1 := e 1 (by omega)
  have e2 := e 2 (by omega)
  have e3 := e 3 (by omega)
  simp only [zF]
  rcases hc' with rfl | rfl | rfl | rfl <;> rcases hd' with rfl | rfl | rfl | rfl <;> simp at hcd e0 e1 e2 e3 <;> simp only [Nat.reduceAdd, Nat.zero_add] <;> first | grind
theorem z_sgm {a b : Int} (h1 : -100000 ≤ a) (h2 : a ≤ 100000) (h3 : -100000 ≤ b) (h4 : b ≤ 100000) : zSg (zI a) (zI b) = zSg (zI (a - b)) 0 := by
  have e : (0 : Int32) = zI 0 := rfl
  rw [e, zSg_int (by omega) (by omega) (by omega) (by omega), zSg_int (by omega) (by omega) (by omega) (by omega)]
  by_cases g1 : b ≤ a
  · rw [if_pos g1, if_pos (show (0 : Int) ≤ a - b by omega)]
    by_cases g2 : a = b
    · rw [if_pos g2, if_pos (by omega)]
    · rw [if_neg g2, if_neg (by omega)]
  · rw [if_neg g1, if_neg (by omega)]
theorem z3_margPl {n : Nat} {K X : TX} {s : Nat → Int32} (hE : zE n K X) (hD : zD n s X) {p c d : Nat} (hp : p < n) (hc : c < 4) (hd : d < 4) (hwp : s p = nI c) (hcd : c ≠ d) (side : Int32) :
    f_X3_marginIfPlaced X side (nI p) (nI d) = some (zMg n (upd s p (nI d)) side) := by
  have h10 := hE.n10
  have a4 : f_X8_at 4 X (nI p) = some (nI c) := by rw [z_at (show p < lenX 4 by show p < 10; omega) (by decide), hD.w p (by omega), hwp]
  have a5 : f_X8_at 5 X (nI p) = some (s (10 + p)) := by rw [z_at (show p < lenX 5 by show p < 20; omega) (by decide), hD.v p (by omega)]
  have a5' : f_X8_at 5 X (nI (10 + p)) = some (s (20 + p)) := by
    rw [z_at (show 10 + p < lenX 5 by show 10 + p < 20; omega) (by decide), hD.v _ (by omega)]; congr 2; omega
  have a10 : ∀ e, e < 4 → f_X8_at 10 X (nI e) = some (zLc n s e) := fun e he => by rw [z_at (show e < lenX 10 from he) (by decide), hD.lead e he]
  obtain ⟨zc, b1, b2, ec⟩ := z_leadB (Nat.le_refl n) hD.vb (nI c)
  obtain ⟨zd, b3, b4, ed⟩ := z_leadB (Nat.le_refl n) hD.vb (nI d)
  obtain ⟨zl, b5, b6, el⟩ := z_lead1 hD.vb hp
  have ec' : zLc n s c = zI zc := ec
  have ed' : zLc n s d = zI zd := ed
  have key : zMg n (upd s p (nI d)) side = (if side = 0 then zMg n s side + (((zSg (zLc n s c) (s (10 + p) - s (20 + p)) - zSg (zLc n s c) 0) + zSg (zLc n s d) (-(s (10 + p) - s (20 + p)))) - zSg (zLc n s d) 0) else zMg n s side + -(((zSg (zLc n s c) (s (10 + p) - s (20 + p)) - zSg (zLc n s c) 0) + zSg (zLc n s d) (-(s (10 + p) - s (20 + p)))) - zSg (zLc n s d) 0)) := by
    have hs := z_sum4 (g := fun j => zSg (zLc n (upd s p (nI d)) j) 0) (h := fun j => zSg (zLc n s j) 0) hc hd hcd (fun j hj h1 h2 => by
      have n1 : ¬ (nI c = nI j) := fun e => h1 ((z_nI_inj (by omega) (by omega)).1 e).symm
      have n2 : ¬ (nI d = nI j) := fun e => h2 ((z_nI_inj (by omega) (by omega)).1 e).symm
      show zSg (zLc n (upd s p (nI d)) j) 0 = zSg (zLc n s j) 0
      rw [zLc_upd h10 hp, hwp, if_neg n1, if_neg n2, z_sub0, z_add0])
    have n1 : ¬ (nI d = nI c) := fun e => hcd ((z_nI_inj (by omega) (by omega)).1 e).symm
    have n2 : ¬ (nI c = nI d) := fun e => n1 e.symm
    have hgc : zSg (zLc n (upd s p (nI d)) c) 0 = zSg (zLc n s c) (s (10 + p) - s (20 + p)) := by
      rw [zLc_upd h10 hp, hwp, if_pos rfl, if_neg n1, z_add0, el, ec', zI_sub, z_sgm (by omega) (by omega) (by omega) (by omega)]
    have hgd : zSg (zLc n (upd s p (nI d)) d) 0 = zSg (zLc n s d) (-(s (10 + p) - s (20 + p))) := by
      rw [zLc_upd h10 hp, hwp, if_neg n2, if_pos rfl, z_sub0, el, ed', zI_add, zI_neg, z_sgm (by omega) (by omega) (by omega) (by omega)]
      congr 2; omega
    have hs' : zF (fun j x => x + zSg (zLc n (upd s p (nI d)) j) 0) 4 0 (nI 0) = zF (fun j x => x + zSg (zLc n s j) 0) 4 0 (nI 0) + (((zSg (zLc n (upd s p (nI d)) c) 0 - zSg (zLc n s c) 0) + zSg (zLc n (upd s p (nI d)) d) 0) - zSg (zLc n s d) 0) := hs
    rw [hgc, hgd] at hs'
    unfold zMg zMar
    rw [hs']
    by_cases h : side = 0
    · simp only [h, if_true]
    · simp only [h, if_false]; grind
  unfold f_X3_marginIfPlaced
  rw [a5, Option.bind_some]
  have a5l : f_X8_at 5 X ((10 : Int32) + nI p) = some (s (20 + p)) := by
    rw [show (10 : Int32) = nI 10 from rfl, z_nI_add]; exact a5'
  rw [a5l, Option.bind_some, a4, Option.bind_some, a10 c hc, Option.bind_some, a10 d hd, Option.bind_some, z_cmp, Option.bind_some, z_cmp, Option.bind_some, z_cmp, Option.bind_some, z_cmp, Option.bind_some, hD.margin, Option.bind_some, key]
  by_cases h : side = 0
  · rw [if_pos h, if_pos h]
  · rw [if_neg h, if_neg h]
theorem zTal_congr {n : Nat} {w w' v0 v0' v1 v1' m l : Nat → Int32} (h : zTal n w v0 v1 m l) (e : ∀ p, p < n → w p = w' p) (e0 : ∀ p, p < n → v0 p = v0' p) (e1 : ∀ p, p < n → v1 p = v1' p) : zTal n w' v0' v1' m l := fun d hd =>
  ⟨(h d hd).1.trans (zSet_congr e), (h d hd).2.trans (zLead_congr e e0 e1)⟩
theorem z3_pl {n : Nat} {K X : TX} {s : Nat → Int32} (hE : zE n K X) (hD : zD n s X) {p d : Nat} (hp : p < n) (hd : d < 4) :
    ∃ Y, f_X3_place X (nI p) (nI d) = some Y ∧ (∀ k, k ≠ 4 → k ≠ 9 → k ≠ 10 → Y k = X k) ∧ zD n (upd s p (nI d)) Y := by
  have h10 := hE.n10
  obtain ⟨c, hc, hwp⟩ := hD.xw p hp
  obtain ⟨Y, e1, e2, e3, e4⟩ := z3_place h10 hp hc hd (by rw [hD.w p (by omega), hwp]) (hD.xtal h10)
  refine ⟨Y, e1, e2, zD.mk ?_ ?_ ?_ ?_ ?_ ?_ ?_ ?_ ?_ ?_⟩
  · intro q hq
    by_cases h : q = p
    · subst h; exact ⟨d, hd, z_updS _ _ _⟩
    · rw [z_updJ _ _ h]; exact hD.xw q hq
  · intro q hq
    rw [e3]
    by_cases h : q = p
    · subst h; rw [z_updS, z_updS]
    · rw [z_updJ _ _ h, z_updJ _ _ h, hD.w q hq]
  · intro q hq
    rw [e2 5 (by decide) (by decide) (by decide), z_updJ _ _ (by omega), hD.v q hq]
  · intro q hq
    rw [z_updJ _ _ (by omega), z_updJ _ _ (by omega)]; exact hD.vb q hq
  · refine zTal_congr e4 (fun q hq => ?_) (fun q hq => ?_) (fun q hq => ?_)
    · rw [e3]
      by_cases h : q = p
      · subst h; rw [z_updS, z_updS]
      · rw [z_updJ _ _ h, z_updJ _ _ h, hD.w q (by omega)]
    · rw [z_updJ _ _ (by omega), hD.v q (by omega)]
    · rw [z_updJ _ _ (by omega), hD.v _ (by omega)]; congr 1; omega
  all_goals rw [z_updJ _ _ (by omega)]
  · rw [e2 3 (by decide) (by decide) (by decide)]; exact hD.ruler
  · exact hD.rul
  · rw [e2 3 (by decide) (by decide) (by decide)]; exact hD.reign
  · rw [e2 3 (by decide) (by decide) (by decide)]; exact hD.year
  · rw [e2 3 (by decide) (by decide) (by decide)]; exact hD.moved
