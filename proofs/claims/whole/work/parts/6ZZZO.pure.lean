set_option linter.unusedVariables false
theorem zCnt_or {x : Int32} {v : Nat} (hv : v < 32) (hb : bt x v = false) : ∀ n, zCnt n (x ||| zb v) = if v < n then zCnt n x + 1 else zCnt n x
  | 0 => by rw [if_neg (by omega)]; rfl
  | n + 1 => by
    rw [zCnt, zCnt, zCnt_or hv hb n, bt_or, bt_zb hv]
    by_cases c : v = n
    · subst c
      rw [if_neg (by omega), if_pos (by omega), hb, decide_eq_true rfl]; rfl
    · rw [decide_eq_false c, Bool.or_false]
      by_cases d : v < n
      · rw [if_pos d, if_pos (by omega)]; omega
      · rw [if_neg d, if_neg (by omega)]
theorem zCnt_4 {x : Int32} (h : ∀ q, bt x q = true → q < 4) : ∀ n, zCnt (4 + n) x = zCnt 4 x
  | 0 => rfl
  | n + 1 => by
    have : bt x (4 + n) = false := by
      cases hb : bt x (4 + n)
      · rfl
      · have := h _ hb; omega
    rw [← Nat.add_assoc, zCnt, zCnt_4 h n, this]; rfl
/-- the book being read: k lines -/
def zBd (k : Nat) (X M : TX) : Prop := (∀ d, d < 4 → (bt (X 29 1) d = true ∧ ∃ w, w ≤ 2 ∧ M 17 d = nI w ∧ X 30 d = if w = 2 then -nI 1 else nI w) ∨ (bt (X 29 1) d = false ∧ M 17 d = -nI 1)) ∧ (∀ q, bt (X 29 1) q = true → q < 4) ∧ zCnt 10 (X 29 1) = k
theorem zBd.k4 {k : Nat} {X M : TX} (h : zBd k X M) : k ≤ 4 := by
  have e := zCnt_4 h.2.1 6
  have l := zCnt_le 4 (X 29 1)
  have := h.2.2
  rw [show 4 + 6 = 10 by rfl] at e
  omega
def zBX (X Y : TX) : Prop := (∀ k, k ≠ 1 → k ≠ 29 → k ≠ 30 → Y k = X k) ∧ Y 1 1 = X 1 1
def zBM (M N : TX) : Prop := (∀ k, k ≠ 0 → k ≠ 17 → N k = M k) ∧ ∀ j, j ≠ 4 → j ≠ 5 → j ≠ 6 → N 0 j = M 0 j
theorem zBX.refl (X : TX) : zBX X X := ⟨fun _ _ _ _ => rfl, rfl⟩
theorem zBM.refl (X : TX) : zBM X X := ⟨fun _ _ _ => rfl, fun _ _ _ _ => rfl⟩
theorem zBX.trans {X Y Z : TX} (h : zBX X Y) (g : zBX Y Z) : zBX X Z := ⟨fun k a b c => (g.1 k a b c).trans (h.1 k a b c), g.2.trans h.2⟩
theorem zBM.trans {X Y Z : TX} (h : zBM X Y) (g : zBM Y Z) : zBM X Z := ⟨fun k a b => (g.1 k a b).trans (h.1 k a b), fun j a b c => (g.2 j a b c).trans (h.2 j a b c)⟩
theorem zTX.bx {X Y : TX} (h : zTX X Y) : zBX X Y := ⟨fun k a _ _ => h.1 k a, h.2 1 (by decide) (by decide) (by decide)⟩
theorem zTM.bm {X Y : TX} (h : zTM X Y) : zBM X Y := ⟨fun k a _ => h.1 k a, fun j a _ _ => h.2 j a⟩
theorem zTF.bx {X Y : TX} {kd pl : Nat} (h : zTF X Y kd pl) : zBX X Y := ⟨fun k a _ _ => h.1 k a, h.2.1⟩
theorem zMF.bm {s : Nat} {T : Nat → Nat} {X Y : TX} {kd pl : Nat} (h : zMF s T X Y kd pl) : zBM X Y := ⟨fun k a _ => h.1 k a, fun j a b c => h.2.1 j a b c⟩
def zBi (s : Nat) (T : Nat → Nat) (p k : Nat) (X M : TX) : Prop :=
  (zJx s T p X) ∧
  (zJm s T p M) ∧
  (M 0 5 = -nI 1) ∧
  (X 1 7 = -nI 1) ∧
  (zBd k X M)
theorem zBi.jx {s : Nat} {T : Nat → Nat} {p k : Nat} {X M : TX} (h : zBi s T p k X M) : zJx s T p X := h.1
theorem zBi.jm {s : Nat} {T : Nat → Nat} {p k : Nat} {X M : TX} (h : zBi s T p k X M) : zJm s T p M := h.2.1
theorem zBi.f5 {s : Nat} {T : Nat → Nat} {p k : Nat} {X M : TX} (h : zBi s T p k X M) : M 0 5 = -nI 1 := h.2.2.1
theorem zBi.f7 {s : Nat} {T : Nat → Nat} {p k : Nat} {X M : TX} (h : zBi s T p k X M) : X 1 7 = -nI 1 := h.2.2.2.1
theorem zBi.bd {s : Nat} {T : Nat → Nat} {p k : Nat} {X M : TX} (h : zBi s T p k X M) : zBd k X M := h.2.2.2.2
theorem zBi.mk {s : Nat} {T : Nat → Nat} {p k : Nat} {X M : TX} (jx : zJx s T p X) (jm : zJm s T p M) (f5 : M 0 5 = -nI 1) (f7 : X 1 7 = -nI 1) (bd : zBd k X M) : zBi s T p k X M := ⟨jx, jm, f5, f7, bd⟩
theorem zBi.mv {s : Nat} {T : Nat → Nat} {p e k : Nat} {X M Y N : TX} (h : zBi s T p k X M) (jx : zJx s T e Y) (jm : zJm s T e N) (fx : zTX X Y) (fm : zTM M N) : zBi s T e k Y N := by
  refine zBi.mk jx jm ?_ ?_ ?_
  · rw [fm.2 5 (by decide)]; exact h.f5
  · rw [fx.2 7 (by decide) (by decide) (by decide)]; exact h.f7
  · have := h.bd; unfold zBd at *; rw [fx.1 29 (by decide), fx.1 30 (by decide), fm.1 17 (by decide)]; exact this
/-- the reference's end of a book -/
def zBfin (N : TX) (x2 : Int32) : Option (TX × Int32) := (f_X9_result N x2).bind fun q8 => if (q8.1 0 5) = -nI 1 then ((f_X9_copies 17 18 (u2 q8.1 0 40 x2) (nI 4)).bind fun q10 => some (q10, q8.2)) else (some (q8.1, q8.2))
theorem zBfin_bad {M : TX} {pl kd : Nat} (h5 : M 0 5 = nI pl) (h6 : M 0 6 = nI kd) (hp : pl ≤ 600) (x2 : Int32) : zBfin M x2 = some (u2 M 0 8 (nI pl), nI kd - nI 10) := by
  have e5 : u2 M 0 8 (nI pl) 0 5 = nI pl := by rw [z_u2j _ _ _ _ (by decide)]; exact h5
  have e6 : u2 M 0 8 (nI pl) 0 6 = nI kd := by rw [z_u2j _ _ _ _ (by decide)]; exact h6
  have er : f_X9_result M x2 = some (u2 M 0 8 (nI pl), nI kd - nI 10) := by
    unfold f_X9_result
    rw [h5, z9_fine0 e5 hp, Option.bind_some, if_pos (by decide), e6]; rfl
  unfold zBfin
  rw [er, Option.bind_some]
  show (if u2 M 0 8 (nI pl) 0 5 = -nI 1 then _ else some (u2 M 0 8 (nI pl), nI kd - nI 10)) = _
  rw [e5, if_neg (z_ne1 (by omega))]
theorem zBfin_ok {M : TX} (h5 : M 0 5 = -nI 1) (x2 : Int32) : ∃ N, zBfin M x2 = some (N, x2) ∧ (∀ k, k ≠ 0 → k ≠ 18 → N k = M k) ∧ (∀ j, j ≠ 8 → j ≠ 40 → N 0 j = M 0 j) ∧ N 0 8 = -nI 1 ∧ N 0 40 = x2 ∧ (∀ i, i < 4 → N 18 i = M 17 i) := by
  obtain ⟨A, hA⟩ : ∃ A, A = u2 M 0 8 (-nI 1) := ⟨_, rfl⟩
  have e5 : A 0 5 = -nI 1 := by rw [hA, z_u2j _ _ _ _ (by decide)]; exact h5
  have n1 : ¬ nI 1 = (0 : Int32) := by decide
  have er : f_X9_result M x2 = some (A, x2) := by
    unfold f_X9_result
    rw [h5, ← hA, z9_fine1 e5, Option.bind_some, if_neg n1]
  obtain ⟨B, hB⟩ : ∃ B, B = u2 A 0 40 x2 := ⟨_, rfl⟩
  obtain ⟨C, c1, c2, c3⟩ := z9_copies (a := 17) (b := 18) (by decide) (M := B) (m := 4) (by decide) (by decide) (by omega)
  have bk : ∀ k, k ≠ 0 → B k = M k := fun k a => by rw [hB, z_u2k _ _ _ _ a, hA, z_u2k _ _ _ _ a]
  refine ⟨C, ?_, fun k a b => by rw [c2 k b, bk k a], fun j a b => by rw [c2 0 (by decide), hB, z_u2j _ _ _ _ b, hA, z_u2j _ _ _ _ a], ?_, ?_, fun i hi => ?_⟩
  · unfold zBfin
    rw [er, Option.bind_some]
    show (if A 0 5 = -nI 1 then ((f_X9_copies 17 18 (u2 A 0 40 x2) (nI 4)).bind fun q10 => some (q10, x2)) else (some (A, x2))) = _
    rw [if_pos e5, ← hB, c1, Option.bind_some]
  · rw [c2 0 (by decide), hB, z_u2j _ _ _ _ (by decide), hA, z_u2s]
  · rw [c2 0 (by decide), hB, z_u2s]
  · rw [c3]
    show (if i < 4 then B 17 i else _) = _
    rw [if_pos hi, bk 17 (by decide)]
/-- the outcome of reading a book -/
def zBo (s : Nat) (X M : TX) (x r : Option (TX × Int32)) : Prop :=
  (∃ k Y N, x = some (Y, nI 1) ∧ r = zBfin N (nI k) ∧ N 0 5 = -nI 1 ∧ Y 1 7 = -nI 1 ∧ zBd k Y N ∧ zBX X Y ∧ zBM M N) ∨
  (∃ Y N kd pl x2, x = some (Y, nI 0) ∧ r = zBfin N x2 ∧ kd < 4 ∧ pl ≤ s ∧ Y 1 6 = nI kd ∧ Y 1 7 = nI pl ∧ N 0 5 = nI pl ∧ N 0 6 = nI kd ∧ zBX X Y ∧ zBM M N)
theorem zBo.pre {s : Nat} {X M X' M' : TX} {x r : Option (TX × Int32)} (h : zBo s X' M' x r) (hX : zBX X X') (hM : zBM M M') : zBo s X M x r := by
  rcases h with ⟨k, Y, N, h1, h2, h3, h4, h5, h6, h7⟩ | ⟨Y, N, kd, pl, x2, h1, h2, h3, h4, h5, h6, h7, h8, h9, h10⟩
  · exact .inl ⟨k, Y, N, h1, h2, h3, h4, h5, hX.trans h6, hM.trans h7⟩
  · exact .inr ⟨Y, N, kd, pl, x2, h1, h2, h3, h4, h5, h6, h7, h8, hX.trans h9, hM.trans h10⟩
theorem zBo_bad {s : Nat} {T : Nat → Nat} {X M Y N : TX} {x r : Option (TX × Int32)} {kd pl : Nat} {x2 : Int32} (hx : x = some (Y, nI 0)) (hr : r = zBfin N x2) (hk : kd < 4) (h : zTF X Y kd pl) (g : zMF s T M N kd pl) : zBo s X M x r :=
  .inr ⟨Y, N, kd, pl, x2, hx, hr, hk, g.2.2.2.2.1, h.2.2.1, h.2.2.2, g.2.2.1, g.2.2.2.1, h.bx, g.bm⟩
theorem zB117_S {g : TX → Int32 → Option (TX × Int32)} {M : TX} {a : Nat} (h : M 0 5 = nI a) (ha : a ≤ 600) (x2 x4 : Int32) : B_X9_book_117 g M x2 x4 = zBfin M x2 := by
  show ((f_X9_readNumber M (nI 0) (nI 2)).bind fun q19 => (f_X9_sign q19.1 (nI 59)).bind fun q20 => (f_X9_fine q20).bind fun q21 => if q21 = nI 0 then zBfin q20 x2 else _) = _
  rw [z9_numS h ha, Option.bind_some]
  show ((f_X9_sign M (nI 59)).bind fun q20 => (f_X9_fine q20).bind fun q21 => if q21 = nI 0 then zBfin q20 x2 else _) = _
  rw [z9_sgnS h ha, Option.bind_some, z9_fine0 h ha, Option.bind_some, if_pos rfl]
