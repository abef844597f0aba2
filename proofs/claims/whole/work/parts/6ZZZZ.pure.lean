set_option linter.unusedVariables false
/-- the law's comparison of two answers -/
def zT (k : TX → TX → TL → Int32 → Option Int32) (y : Int32) (a : TX × TL × Int32) (b : TX × Int32) : Option Int32 := (f_X9_thrown b.1).bind fun c => if c = a.2.2 then (if a.2.2 = 0 then (if inb (0 : Int32) 1 = true then (if (lg_cmp (a.2.1 27 (Int32.toNatClampNeg (0 : Int32))) (Int32.toInt64 b.2)) = 0 then (k a.1 b.1 a.2.1 y) else (some (0 : Int32))) else none) else (k a.1 b.1 a.2.1 y)) else (some (0 : Int32))
theorem z_lgc (x : Int64) : lg_cmp x x = 0 := by
  unfold lg_cmp
  simp
theorem zT_ok {c0 c1 : Option Int32} {q : Option (TX × (Int32 ⊕ Nat))} {r : Option (TX × Int32)} {L : TL} {k : TX → TX → TL → Int32 → Option Int32} {y : Int32} (h : zCs c0 c1 q r) (hk : ∀ n X M L, zV n X M → k X M L y = some 1) :
    ((q.bind fun q => wrp q L c0 c1).bind fun a => r.bind fun b => zT k y a b) = some 1 := by
  have i0 : inb (0 : Int32) 1 = true := by decide
  rcases h with ⟨n, X, M, v, h1, h2, h3, h4⟩ | ⟨n, X, M, v, e, z, h1, h2, h3, h4, h5, h6⟩
  · rw [h1, h2, Option.bind_some]
    show zT k y (X, u2L L 27 0 v.toInt64, 0) (M, v) = some 1
    show (if M 0 0 = nI 0 then (if (0 : Int32) = 0 then (if inb (0 : Int32) 1 = true then (if (lg_cmp (u2L L 27 0 v.toInt64 27 0) (Int32.toInt64 v)) = 0 then (k X M (u2L L 27 0 v.toInt64) y) else (some (0 : Int32))) else none) else (k X M (u2L L 27 0 v.toInt64) y)) else (some (0 : Int32))) = some 1
    rw [if_pos h3, if_pos rfl, if_pos i0, u2L_s, z_lgc, if_pos rfl]
    exact hk n X M _ h4
  · have e1 : wrp (X, (.inr e : Int32 ⊕ Nat)) L c0 c1 = some (X, L, z) := by
      show ((if e = 0 then c0 else c1).map fun z => (X, L, z)) = _
      rw [h3]; rfl
    rw [h1, h2, Option.bind_some, e1, Option.bind_some, Option.bind_some]
    show (if M 0 0 = z then (if z = nI 0 then (if inb (0 : Int32) 1 = true then (if (lg_cmp (L 27 0) (Int32.toInt64 v)) = 0 then (k X M L y) else (some (0 : Int32))) else none) else (k X M L y)) else (some (0 : Int32))) = some 1
    rw [if_pos h5, if_neg h4]
    exact hk n X M _ h6
theorem zT_q {n : Nat} {X M : TX} {q : Option Int32} {r : Option (TX × Int32)} {L : TL} {k : TX → TX → TL → Int32 → Option Int32} {y : Int32} (h : zCq n X M q r) (hk : ∀ n X M L, zV n X M → k X M L y = some 1) :
    (q.bind fun a => r.bind fun b => if a = b.2 then (k X b.1 L y) else (some (0 : Int32))) = some 1 := by
  obtain ⟨N, v, h1, h2, h3⟩ := h
  rw [h1, h2, Option.bind_some, Option.bind_some]
  show (if v = v then k X N L y else some 0) = some 1
  rw [if_pos rfl]; exact hk n X N _ h3
theorem zT_o {q r : Option (TX × Int32)} {L : TL} {k : TX → TX → TL → Int32 → Option Int32} {y : Int32} (h : zOq q r) (hk : ∀ n X M L, zV n X M → k X M L y = some 1) :
    (q.bind fun a => r.bind fun b => if a.2 = b.2 then (k a.1 b.1 L y) else (some (0 : Int32))) = some 1 := by
  obtain ⟨n, X, M, v, h1, h2, h3⟩ := h
  rw [h1, h2, Option.bind_some, Option.bind_some]
  show (if v = v then k X M L y else some 0) = some 1
  rw [if_pos rfl]; exact hk n X M _ h3
def zTL (k : TX → TX → TL → Int32 → Option Int32) (y : Int32) (a : TX × TL × Int32) (b : TX × TL × Int64) : Option Int32 := (f_X9_thrown b.1).bind fun c => if c = a.2.2 then (if a.2.2 = 0 then (if inb (0 : Int32) 1 = true then (if (lg_cmp (b.2.1 27 (Int32.toNatClampNeg (0 : Int32))) b.2.2) = 0 then (k a.1 b.1 b.2.1 y) else (some (0 : Int32))) else none) else (k a.1 b.1 b.2.1 y)) else (some (0 : Int32))
theorem zT_L {q : Option (TX × (Int64 ⊕ Nat))} {r : TL → Option (TX × TL × Int64)} {L : TL} {k : TX → TX → TL → Int32 → Option Int32} {y : Int32} (h : ∀ L, zCr L q (r L)) (hk : ∀ n X M L, zV n X M → k X M L y = some 1) :
    ((q.bind fun q => wrpL q L none (some (1 : Int32))).bind fun a => (r a.2.1).bind fun b => zTL k y a b) = some 1 := by
  have i0 : inb (0 : Int32) 1 = true := by decide
  rcases h L with ⟨n, X, M, L', v, h1, h2, h3, h4, h5⟩ | ⟨n, X, M, v, h1, h2, h3, h4⟩
  · rcases h (u2L L 27 0 v) with ⟨n', X', M', L'', v', g1, g2, g3, g4, g5⟩ | ⟨n', X', M', v', g1, g2, g3, g4⟩
    · rw [h1] at g1
      injection g1 with g1
      injection g1 with ga gb
      injection gb with gb
      subst ga gb
      rw [h1, Option.bind_some]
      show ((r (u2L L 27 0 v)).bind fun b => zTL k y (X, u2L L 27 0 v, 0) b) = some 1
      rw [g2, Option.bind_some]
      show (if M' 0 0 = nI 0 then (if (0 : Int32) = 0 then (if inb (0 : Int32) 1 = true then (if (lg_cmp (L'' 27 0) v) = 0 then (k X M' L'' y) else (some (0 : Int32))) else none) else (k X M' L'' y)) else (some (0 : Int32))) = some 1
      rw [if_pos g3, if_pos rfl, if_pos i0, g5 27 (by decide), u2L_s, z_lgc, if_pos rfl]
      exact hk n' X M' _ g4
    · rw [h1] at g1
      injection g1 with g1
      injection g1 with ga gb
      injection gb
  · rw [h1, Option.bind_some]
    show ((r L).bind fun b => zTL k y (X, L, 1) b) = some 1
    have n1 : ¬ (1 : Int32) = 0 := by decide
    rw [h2, Option.bind_some]
    show (if M 0 0 = nI 1 then (if (1 : Int32) = 0 then (if inb (0 : Int32) 1 = true then (if (lg_cmp (L 27 0) v) = 0 then (k X M L y) else (some (0 : Int32))) else none) else (k X M L y)) else (some (0 : Int32))) = some 1
    rw [if_pos h3, if_neg n1]
    exact hk n X M _ h4
theorem zl_208 {xs : Nat → Int32} {Lth n : Nat} {k : TX → TX → TL → Int32 → Option Int32} {X M : TX} {L : TL} {x4 : Int32} (h : zV n X M) (hb : ∀ j, 1 ≤ j → j < 9 → inb (x4 + nI j) Lth = true) (hk : ∀ n X M L, zV n X M → k X M L (x4 + nI 9) = some 1) : B_law_208 xs Lth k X M L x4 = some 1 := by
  have b1 : inb (x4 + (1 : Int32)) Lth = true := hb 1 (by omega) (by omega)
  have b2 : inb (x4 + (2 : Int32)) Lth = true := hb 2 (by omega) (by omega)
  have b3 : inb (x4 + (3 : Int32)) Lth = true := hb 3 (by omega) (by omega)
  have b4 : inb (x4 + (4 : Int32)) Lth = true := hb 4 (by omega) (by omega)
  have b5 : inb (x4 + (5 : Int32)) Lth = true := hb 5 (by omega) (by omega)
  unfold B_law_208
  simp only [b1, b2, b3, b4, b5, ↓reduceIte]
  exact zT_o (z_feed h _ _ _ _ _) hk
theorem zl_281 {xs : Nat → Int32} {Lth n : Nat} {k : TX → TX → TL → Int32 → Option Int32} {X M : TX} {L : TL} {x4 : Int32} (h : zV n X M) (hb : ∀ j, 1 ≤ j → j < 9 → inb (x4 + nI j) Lth = true) (hk : ∀ n X M L, zV n X M → k X M L (x4 + nI 9) = some 1) : B_law_281 xs Lth k X M L x4 = some 1 := by
  have b1 : inb (x4 + (1 : Int32)) Lth = true := hb 1 (by omega) (by omega)
  unfold B_law_281
  simp only [b1, ↓reduceIte]
  exact zT_ok (z_county h _) hk
theorem zl_337 {xs : Nat → Int32} {Lth n : Nat} {k : TX → TX → TL → Int32 → Option Int32} {X M : TX} {L : TL} {x4 : Int32} (h : zV n X M) (hb : ∀ j, 1 ≤ j → j < 9 → inb (x4 + nI j) Lth = true) (hk : ∀ n X M L, zV n X M → k X M L (x4 + nI 9) = some 1) : B_law_337 xs Lth k X M L x4 = some 1 := by
  have b1 : inb (x4 + (1 : Int32)) Lth = true := hb 1 (by omega) (by omega)
  unfold B_law_337
  simp only [b1, ↓reduceIte]
  exact zT_ok (z_law h _) hk
theorem zl_393 {xs : Nat → Int32} {Lth n : Nat} {k : TX → TX → TL → Int32 → Option Int32} {X M : TX} {L : TL} {x4 : Int32} (h : zV n X M) (hb : ∀ j, 1 ≤ j → j < 9 → inb (x4 + nI j) Lth = true) (hk : ∀ n X M L, zV n X M → k X M L (x4 + nI 9) = some 1) : B_law_393 xs Lth k X M L x4 = some 1 := by
  have b1 : inb (x4 + (1 : Int32)) Lth = true := hb 1 (by omega) (by omega)
  unfold B_law_393
  simp only [b1, ↓reduceIte]
  exact zT_ok (z_work h _) hk
theorem zl_449 {xs : Nat → Int32} {Lth n : Nat} {k : TX → TX → TL → Int32 → Option Int32} {X M : TX} {L : TL} {x4 : Int32} (h : zV n X M) (hb : ∀ j, 1 ≤ j → j < 9 → inb (x4 + nI j) Lth = true) (hk : ∀ n X M L, zV n X M → k X M L (x4 + nI 9) = some 1) : B_law_449 xs Lth k X M L x4 = some 1 := by
  have b1 : inb (x4 + (1 : Int32)) Lth = true := hb 1 (by omega) (by omega)
  unfold B_law_449
  simp only [b1, ↓reduceIte]
  exact zT_ok (z_book h _) hk
theorem zl_505 {xs : Nat → Int32} {Lth n : Nat} {k : TX → TX → TL → Int32 → Option Int32} {X M : TX} {L : TL} {x4 : Int32} (h : zV n X M) (hb : ∀ j, 1 ≤ j → j < 9 → inb (x4 + nI j) Lth = true) (hk : ∀ n X M L, zV n X M → k X M L (x4 + nI 9) = some 1) : B_law_505 xs Lth k X M L x4 = some 1 := by
  unfold B_law_505
  exact zT_q (z_fault h ) hk
theorem zl_518 {xs : Nat → Int32} {Lth n : Nat} {k : TX → TX → TL → Int32 → Option Int32} {X M : TX} {L : TL} {x4 : Int32} (h : zV n X M) (hb : ∀ j, 1 ≤ j → j < 9 → inb (x4 + nI j) Lth = true) (hk : ∀ n X M L, zV n X M → k X M L (x4 + nI 9) = some 1) : B_law_518 xs Lth k X M L x4 = some 1 := by
  unfold B_law_518
  exact zT_o (z_undo h ) hk
theorem zl_531 {xs : Nat → Int32} {Lth n : Nat} {k : TX → TX → TL → Int32 → Option Int32} {X M : TX} {L : TL} {x4 : Int32} (h : zV n X M) (hb : ∀ j, 1 ≤ j → j < 9 → inb (x4 + nI j) Lth = true) (hk : ∀ n X M L, zV n X M → k X M L (x4 + nI 9) = some 1) : B_law_531 xs Lth k X M L x4 = some 1 := by
  have b1 : inb (x4 + (1 : Int32)) Lth = true := hb 1 (by omega) (by omega)
  unfold B_law_531
  simp only [b1, ↓reduceIte]
  exact zT_ok (z_told h _) hk
theorem zl_587 {xs : Nat → Int32} {Lth n : Nat} {k : TX → TX → TL → Int32 → Option Int32} {X M : TX} {L : TL} {x4 : Int32} (h : zV n X M) (hb : ∀ j, 1 ≤ j → j < 9 → inb (x4 + nI j) Lth = true) (hk : ∀ n X M L, zV n X M → k X M L (x4 + nI 9) = some 1) : B_law_587 xs Lth k X M L x4 = some 1 := by
  have b1 : inb (x4 + (1 : Int32)) Lth = true := hb 1 (by omega) (by omega)
  have b2 : inb (x4 + (2 : Int32)) Lth = true := hb 2 (by omega) (by omega)
  unfold B_law_587
  simp only [b1, b2, ↓reduceIte]
  exact zT_ok (z_parish h _ _) hk
theorem zl_655 {xs : Nat → Int32} {Lth n : Nat} {k : TX → TX → TL → Int32 → Option Int32} {X M : TX} {L : TL} {x4 : Int32} (h : zV n X M) (hb : ∀ j, 1 ≤ j → j < 9 → inb (x4 + nI j) Lth = true) (hk : ∀ n X M L, zV n X M → k X M L (x4 + nI 9) = some 1) : B_law_655 xs Lth k X M L x4 = some 1 := by
  have b1 : inb (x4 + (1 : Int32)) Lth = true := hb 1 (by omega) (by omega)
  have b2 : inb (x4 + (2 : Int32)) Lth = true := hb 2 (by omega) (by omega)
  unfold B_law_655
  simp only [b1, b2, ↓reduceIte]
  exact zT_ok (z_ward h _ _) hk
theorem zl_723 {xs : Nat → Int32} {Lth n : Nat} {k : TX → TX → TL → Int32 → Option Int32} {X M : TX} {L : TL} {x4 : Int32} (h : zV n X M) (hb : ∀ j, 1 ≤ j → j < 9 → inb (x4 + nI j) Lth = true) (hk : ∀ n X M L, zV n X M → k X M L (x4 + nI 9) = some 1) : B_law_723 xs Lth k X M L x4 = some 1 := by
  have b1 : inb (x4 + (1 : Int32)) Lth = true := hb 1 (by omega) (by omega)
  have b2 : inb (x4 + (2 : Int32)) Lth = true := hb 2 (by omega) (by omega)
  unfold B_law_723
  simp only [b1, b2, ↓reduceIte]
  exact zT_ok (z_side h _ _) hk
theorem zl_791 {xs : Nat → Int32} {Lth n : Nat} {k : TX → TX → TL → Int32 → Option Int32} {X M : TX} {L : TL} {x4 : Int32} (h : zV n X M) (hb : ∀ j, 1 ≤ j → j < 9 → inb (x4 + nI j) Lth = true) (hk : ∀ n X M L, zV n X M → k X M L (x4 + nI 9) = some 1) : B_law_791 xs Lth k X M L x4 = some 1 := by
  have b1 : inb (x4 + (1 : Int32)) Lth = true := hb 1 (by omega) (by omega)
  have b2 : inb (x4 + (2 : Int32)) Lth = true := hb 2 (by omega) (by omega)
  unfold B_law_791
  simp only [b1, b2, ↓reduceIte]
  exact zT_ok (z_costQ h _ _) hk
theorem zl_859 {xs : Nat → Int32} {Lth n : Nat} {k : TX → TX → TL → Int32 → Option Int32} {X M : TX} {L : TL} {x4 : Int32} (h : zV n X M) (hb : ∀ j, 1 ≤ j → j < 9 → inb (x4 + nI j) Lth = true) (hk : ∀ n X M L, zV n X M → k X M L (x4 + nI 9) = some 1) : B_law_859 xs Lth k X M L x4 = some 1 := by
  have b1 : inb (x4 + (1 : Int32)) Lth = true := hb 1 (by omega) (by omega)
  have b2 : inb (x4 + (2 : Int32)) Lth = true := hb 2 (by omega) (by omega)
  have b3 : inb (x4 + (3 : Int32)) Lth = true := hb 3 (by omega) (by omega)
  have b4 : inb (x4 + (4 : Int32)) Lth = true := hb 4 (by omega) (by omega)
  have b5 : inb (x4 + (5 : Int32)) Lth = true := hb 5 (by omega) (by omega)
  have b6 : inb (x4 + (6 : Int32)) Lth = true := hb 6 (by omega) (by omega)
  have b7 : inb (x4 + (7 : Int32)) Lth = true := hb 7 (by omega) (by omega)
  have b8 : inb (x4 + (8 : Int32)) Lth = true := hb 8 (by omega) (by omega)
  unfold B_law_859
  simp only [b1, b2, b3, b4, b5, b6, b7, b8, ↓reduceIte]
  exact zT_ok (z_would h _ _ _ _ _ _ _ _) hk
theorem zl_1005 {xs : Nat → Int32} {Lth n : Nat} {k : TX → TX → TL → Int32 → Option Int32} {X M : TX} {L : TL} {x4 : Int32} (h : zV n X M) (hb : ∀ j, 1 ≤ j → j < 9 → inb (x4 + nI j) Lth = true) (hk : ∀ n X M L, zV n X M → k X M L (x4 + nI 9) = some 1) : B_law_1005 xs Lth k X M L x4 = some 1 := by
  have b1 : inb (x4 + (1 : Int32)) Lth = true := hb 1 (by omega) (by omega)
  unfold B_law_1005
  simp only [b1, ↓reduceIte]
  exact zT_ok (z_may h _) hk
theorem zl_1061 {xs : Nat → Int32} {Lth n : Nat} {k : TX → TX → TL → Int32 → Option Int32} {X M : TX} {L : TL} {x4 : Int32} (h : zV n X M) (hb : ∀ j, 1 ≤ j → j < 9 → inb (x4 + nI j) Lth = true) (hk : ∀ n X M L, zV n X M → k X M L (x4 + nI 9) = some 1) : B_law_1061 xs Lth k X M L x4 = some 1 := by
  have b1 : inb (x4 + (1 : Int32)) Lth = true := hb 1 (by omega) (by omega)
  have b2 : inb (x4 + (2 : Int32)) Lth = true := hb 2 (by omega) (by omega)
  unfold B_law_1061
  simp only [b1, b2, ↓reduceIte]
  exact zT_ok (z_best h _ _) hk
theorem zl_1129 {xs : Nat → Int32} {Lth n : Nat} {k : TX → TX → TL → Int32 → Option Int32} {X M : TX} {L : TL} {x4 : Int32} (h : zV n X M) (hb : ∀ j, 1 ≤ j → j < 9 → inb (x4 + nI j) Lth = true) (hk : ∀ n X M L, zV n X M → k X M L (x4 + nI 9) = some 1) : B_law_1129 xs Lth k X M L x4 = some 1 := by
  have b1 : inb (x4 + (1 : Int32)) Lth = true := hb 1 (by omega) (by omega)
  have b2 : inb (x4 + (2 : Int32)) Lth = true := hb 2 (by omega) (by omega)
  unfold B_law_1129
  simp only [b1, b2, ↓reduceIte]
  exact zT_ok (z_redrawn h _ _) hk
theorem zl_1197 {xs : Nat → Int32} {Lth n : Nat} {k : TX → TX → TL → Int32 → Option Int32} {X M : TX} {L : TL} {x4 : Int32} (h : zV n X M) (hb : ∀ j, 1 ≤ j → j < 9 → inb (x4 + nI j) Lth = true) (hk : ∀ n X M L, zV n X M → k X M L (x4 + nI 9) = some 1) : B_law_1197 xs Lth k X M L x4 = some 1 := by
  have b1 : inb (x4 + (1 : Int32)) Lth = true := hb 1 (by omega) (by omega)
  unfold B_law_1197
  simp only [b1, ↓reduceIte]
  exact zT_ok (z_turned h _) hk
theorem zl_1253 {xs : Nat → Int32} {Lth n : Nat} {k : TX → TX → TL → Int32 → Option Int32} {X M : TX} {L : TL} {x4 : Int32} (h : zV n X M) (hb : ∀ j, 1 ≤ j → j < 9 → inb (x4 + nI j) Lth = true) (hk : ∀ n X M L, zV n X M → k X M L (x4 + nI 9) = some 1) : B_law_1253 xs Lth k X M L x4 = some 1 := by
  have b1 : inb (x4 + (1 : Int32)) Lth = true := hb 1 (by omega) (by omega)
  have b2 : inb (x4 + (2 : Int32)) Lth = true := hb 2 (by omega) (by omega)
  unfold B_law_1253
  simp only [b1, b2, ↓reduceIte]
  exact zT_ok (z_reigns h _ _) hk
theorem zl_1321 {xs : Nat → Int32} {Lth n : Nat} {k : TX → TX → TL → Int32 → Option Int32} {X M : TX} {L : TL} {x4 : Int32} (h : zV n X M) (hb : ∀ j, 1 ≤ j → j < 9 → inb (x4 + nI j) Lth = true) (hk : ∀ n X M L, zV n X M → k X M L (x4 + nI 9) = some 1) : B_law_1321 xs Lth k X M L x4 = some 1 := by
  have b1 : inb (x4 + (1 : Int32)) Lth = true := hb 1 (by omega) (by omega)
  unfold B_law_1321
  simp only [b1, ↓reduceIte]
  exact zT_ok (z_round h _) hk
theorem zl_1377 {xs : Nat → Int32} {Lth n : Nat} {k : TX → TX → TL → Int32 → Option Int32} {X M : TX} {L : TL} {x4 : Int32} (h : zV n X M) (hb : ∀ j, 1 ≤ j → j < 9 → inb (x4 + nI j) Lth = true) (hk : ∀ n X M L, zV n X M → k X M L (x4 + nI 9) = some 1) : B_law_1377 xs Lth k X M L x4 = some 1 := by
  have b1 : inb (x4 + (1 : Int32)) Lth = true := hb 1 (by omega) (by omega)
  unfold B_law_1377
  simp only [b1, ↓reduceIte]
  exact zT_ok (z_swing h _) hk
theorem zl_1433 {xs : Nat → Int32} {Lth n : Nat} {k : TX → TX → TL → Int32 → Option Int32} {X M : TX} {L : TL} {x4 : Int32} (h : zV n X M) (hb : ∀ j, 1 ≤ j → j < 9 → inb (x4 + nI j) Lth = true) (hk : ∀ n X M L, zV n X M → k X M L (x4 + nI 9) = some 1) : B_law_1433 xs Lth k X M L x4 = some 1 := by
  have b1 : inb (x4 + (1 : Int32)) Lth = true := hb 1 (by omega) (by omega)
  have b2 : inb (x4 + (2 : Int32)) Lth = true := hb 2 (by omega) (by omega)
  unfold B_law_1433
  simp only [b1, b2, ↓reduceIte]
  exact zT_ok (z_waste h _ _) hk
theorem zl_1501 {xs : Nat → Int32} {Lth n : Nat} {k : TX → TX → TL → Int32 → Option Int32} {X M : TX} {L : TL} {x4 : Int32} (h : zV n X M) (hb : ∀ j, 1 ≤ j → j < 9 → inb (x4 + nI j) Lth = true) (hk : ∀ n X M L, zV n X M → k X M L (x4 + nI 9) = some 1) : B_law_1501 xs Lth k X M L x4 = some 1 := by
  have b1 : inb (x4 + (1 : Int32)) Lth = true := hb 1 (by omega) (by omega)
  unfold B_law_1501
  simp only [b1, ↓reduceIte]
  exact zT_ok (z_fits h _) hk
theorem zl_1557 {xs : Nat → Int32} {Lth n : Nat} {k : TX → TX → TL → Int32 → Option Int32} {X M : TX} {L : TL} {x4 : Int32} (h : zV n X M) (hb : ∀ j, 1 ≤ j → j < 9 → inb (x4 + nI j) Lth = true) (hk : ∀ n X M L, zV n X M → k X M L (x4 + nI 9) = some 1) : B_law_1557 xs Lth k X M L x4 = some 1 := by
  have b1 : inb (x4 + (1 : Int32)) Lth = true := hb 1 (by omega) (by omega)
  unfold B_law_1557
  simp only [b1, ↓reduceIte]
  exact zT_ok (z_look h _) hk
theorem zl_1613 {xs : Nat → Int32} {Lth n : Nat} {k : TX → TX → TL → Int32 → Option Int32} {X M : TX} {L : TL} {x4 : Int32} (h : zV n X M) (hb : ∀ j, 1 ≤ j → j < 9 → inb (x4 + nI j) Lth = true) (hk : ∀ n X M L, zV n X M → k X M L (x4 + nI 9) = some 1) : B_law_1613 xs Lth k X M L x4 = some 1 := by
  have b1 : inb (x4 + (1 : Int32)) Lth = true := hb 1 (by omega) (by omega)
  have b2 : inb (x4 + (2 : Int32)) Lth = true := hb 2 (by omega) (by omega)
  have b3 : inb (x4 + (3 : Int32)) Lth = true := hb 3 (by omega) (by omega)
  have b4 : inb (x4 + (4 : Int32)) Lth = true := hb 4 (by omega) (by omega)
  unfold B_law_1613
  simp only [b1, b2, b3, b4, ↓reduceIte]
  exact zT_L (fun L => z_recount h L _ _ _ _) hk
theorem zl_1704 {xs : Nat → Int32} {Lth n : Nat} {k : TX → TX → TL → Int32 → Option Int32} {X M : TX} {L : TL} {x4 : Int32} (h : zV n X M) (hb : ∀ j, 1 ≤ j → j < 9 → inb (x4 + nI j) Lth = true) (hk : ∀ n X M L, zV n X M → k X M L (x4 + nI 9) = some 1) : B_law_1704 xs Lth k X M L x4 = some 1 := by
  have b1 : inb (x4 + (1 : Int32)) Lth = true := hb 1 (by omega) (by omega)
  unfold B_law_1704
  simp only [b1, ↓reduceIte]
  exact zT_ok (z_smallest h _) hk
theorem zl_1760 {xs : Nat → Int32} {Lth n : Nat} {k : TX → TX → TL → Int32 → Option Int32} {X M : TX} {L : TL} {x4 : Int32} (h : zV n X M) (hb : ∀ j, 1 ≤ j → j < 9 → inb (x4 + nI j) Lth = true) (hk : ∀ n X M L, zV n X M → k X M L (x4 + nI 9) = some 1) : B_law_1760 xs Lth k X M L x4 = some 1 := by
  have b1 : inb (x4 + (1 : Int32)) Lth = true := hb 1 (by omega) (by omega)
  unfold B_law_1760
  simp only [b1, ↓reduceIte]
  exact zT_ok (z_closest h _) hk
theorem zl_1816 {xs : Nat → Int32} {Lth n : Nat} {k : TX → TX → TL → Int32 → Option Int32} {X M : TX} {L : TL} {x4 : Int32} (h : zV n X M) (hb : ∀ j, 1 ≤ j → j < 9 → inb (x4 + nI j) Lth = true) (hk : ∀ n X M L, zV n X M → k X M L (x4 + nI 9) = some 1) : B_law_1816 xs Lth k X M L x4 = some 1 := by
  unfold B_law_1816
  exact zT_q (z_border h ) hk
theorem zl_1829 {xs : Nat → Int32} {Lth n : Nat} {k : TX → TX → TL → Int32 → Option Int32} {X M : TX} {L : TL} {x4 : Int32} (h : zV n X M) (hb : ∀ j, 1 ≤ j → j < 9 → inb (x4 + nI j) Lth = true) (hk : ∀ n X M L, zV n X M → k X M L (x4 + nI 9) = some 1) : B_law_1829 xs Lth k X M L x4 = some 1 := by
  have b1 : inb (x4 + (1 : Int32)) Lth = true := hb 1 (by omega) (by omega)
  unfold B_law_1829
  simp only [b1, ↓reduceIte]
  exact zT_ok (z_tide h _) hk
theorem zl_1885 {xs : Nat → Int32} {Lth n : Nat} {k : TX → TX → TL → Int32 → Option Int32} {X M : TX} {L : TL} {x4 : Int32} (h : zV n X M) (hb : ∀ j, 1 ≤ j → j < 9 → inb (x4 + nI j) Lth = true) (hk : ∀ n X M L, zV n X M → k X M L (x4 + nI 9) = some 1) : B_law_1885 xs Lth k X M L x4 = some 1 := by
  have b1 : inb (x4 + (1 : Int32)) Lth = true := hb 1 (by omega) (by omega)
  unfold B_law_1885
  simp only [b1, ↓reduceIte]
  exact zT_ok (z_flip h _) hk
theorem zl_1941 {xs : Nat → Int32} {Lth n : Nat} {k : TX → TX → TL → Int32 → Option Int32} {X M : TX} {L : TL} {x4 : Int32} (h : zV n X M) (hb : ∀ j, 1 ≤ j → j < 9 → inb (x4 + nI j) Lth = true) (hk : ∀ n X M L, zV n X M → k X M L (x4 + nI 9) = some 1) : B_law_1941 xs Lth k X M L x4 = some 1 := by
  unfold B_law_1941
  exact zT_q (z_lone h ) hk
theorem zl_1954 {xs : Nat → Int32} {Lth n : Nat} {k : TX → TX → TL → Int32 → Option Int32} {X M : TX} {L : TL} {x4 : Int32} (h : zV n X M) (hb : ∀ j, 1 ≤ j → j < 9 → inb (x4 + nI j) Lth = true) (hk : ∀ n X M L, zV n X M → k X M L (x4 + nI 9) = some 1) : B_law_1954 xs Lth k X M L x4 = some 1 := by
  have b1 : inb (x4 + (1 : Int32)) Lth = true := hb 1 (by omega) (by omega)
  unfold B_law_1954
  simp only [b1, ↓reduceIte]
  exact zT_ok (z_cluster h _) hk
theorem zl_2010 {xs : Nat → Int32} {Lth n : Nat} {k : TX → TX → TL → Int32 → Option Int32} {X M : TX} {L : TL} {x4 : Int32} (h : zV n X M) (hb : ∀ j, 1 ≤ j → j < 9 → inb (x4 + nI j) Lth = true) (hk : ∀ n X M L, zV n X M → k X M L (x4 + nI 9) = some 1) : B_law_2010 xs Lth k X M L x4 = some 1 := by
  have b1 : inb (x4 + (1 : Int32)) Lth = true := hb 1 (by omega) (by omega)
  have b2 : inb (x4 + (2 : Int32)) Lth = true := hb 2 (by omega) (by omega)
  unfold B_law_2010
  simp only [b1, b2, ↓reduceIte]
  exact zT_ok (z_strongest h _ _) hk
theorem zl_2078 {xs : Nat → Int32} {Lth n : Nat} {k : TX → TX → TL → Int32 → Option Int32} {X M : TX} {L : TL} {x4 : Int32} (h : zV n X M) (hb : ∀ j, 1 ≤ j → j < 9 → inb (x4 + nI j) Lth = true) (hk : ∀ n X M L, zV n X M → k X M L (x4 + nI 9) = some 1) : B_law_2078 xs Lth k X M L x4 = some 1 := by
  have b1 : inb (x4 + (1 : Int32)) Lth = true := hb 1 (by omega) (by omega)
  have b2 : inb (x4 + (2 : Int32)) Lth = true := hb 2 (by omega) (by omega)
  have b3 : inb (x4 + (3 : Int32)) Lth = true := hb 3 (by omega) (by omega)
  have b4 : inb (x4 + (4 : Int32)) Lth = true := hb 4 (by omega) (by omega)
  unfold B_law_2078
  simp only [b1, b2, b3, b4, ↓reduceIte]
  exact zT_ok (z_time h _ _ _ _) hk
theorem zl_2170 {xs : Nat → Int32} {Lth n : Nat} {k : TX → TX → TL → Int32 → Option Int32} {X M : TX} {L : TL} {x4 : Int32} (h : zV n X M) (hb : ∀ j, 1 ≤ j → j < 9 → inb (x4 + nI j) Lth = true) (hk : ∀ n X M L, zV n X M → k X M L (x4 + nI 9) = some 1) : B_law_2170 xs Lth k X M L x4 = some 1 := by
  have b1 : inb (x4 + (1 : Int32)) Lth = true := hb 1 (by omega) (by omega)
  have b2 : inb (x4 + (2 : Int32)) Lth = true := hb 2 (by omega) (by omega)
  have b3 : inb (x4 + (3 : Int32)) Lth = true := hb 3 (by omega) (by omega)
  have b4 : inb (x4 + (4 : Int32)) Lth = true := hb 4 (by omega) (by omega)
  have b5 : inb (x4 + (5 : Int32)) Lth = true := hb 5 (by omega) (by omega)
  have b6 : inb (x4 + (6 : Int32)) Lth = true := hb 6 (by omega) (by omega)
  unfold B_law_2170
  simp only [b1, b2, b3, b4, b5, b6, ↓reduceIte]
  exact zT_ok (z_span h _ _ _ _ _ _) hk
theorem zl_2288 {xs : Nat → Int32} {Lth n : Nat} {k : TX → TX → TL → Int32 → Option Int32} {X M : TX} {L : TL} {x4 : Int32} (h : zV n X M) (hb : ∀ j, 1 ≤ j → j < 9 → inb (x4 + nI j) Lth = true) (hk : ∀ n X M L, zV n X M → k X M L (x4 + nI 9) = some 1) : B_law_2288 xs Lth k X M L x4 = some 1 := by
  unfold B_law_2288
  exact zT_o (z_image h ) hk
theorem zl_2301 {xs : Nat → Int32} {Lth n : Nat} {k : TX → TX → TL → Int32 → Option Int32} {X M : TX} {L : TL} {x4 : Int32} (h : zV n X M) (hb : ∀ j, 1 ≤ j → j < 9 → inb (x4 + nI j) Lth = true) (hk : ∀ n X M L, zV n X M → k X M L (x4 + nI 9) = some 1) : B_law_2301 xs Lth k X M L x4 = some 1 := by
  unfold B_law_2301
  exact zT_o (z_restore h ) hk
theorem zl_2314 {xs : Nat → Int32} {Lth n : Nat} {k : TX → TX → TL → Int32 → Option Int32} {X M : TX} {L : TL} {x4 : Int32} (h : zV n X M) (hb : ∀ j, 1 ≤ j → j < 9 → inb (x4 + nI j) Lth = true) (hk : ∀ n X M L, zV n X M → k X M L (x4 + nI 9) = some 1) : B_law_2314 xs Lth k X M L x4 = some 1 := by
  have b1 : inb (x4 + (1 : Int32)) Lth = true := hb 1 (by omega) (by omega)
  unfold B_law_2314
  simp only [b1, ↓reduceIte]
  exact zT_q (z_status h _) hk
theorem zl_2339 {xs : Nat → Int32} {Lth n : Nat} {k : TX → TX → TL → Int32 → Option Int32} {X M : TX} {L : TL} {x4 : Int32} (h : zV n X M) (hb : ∀ j, 1 ≤ j → j < 9 → inb (x4 + nI j) Lth = true) (hk : ∀ n X M L, zV n X M → k X M L (x4 + nI 9) = some 1) : B_law_2339 xs Lth k X M L x4 = some 1 := by
  have b1 : inb (x4 + (1 : Int32)) Lth = true := hb 1 (by omega) (by omega)
  unfold B_law_2339
  simp only [b1, ↓reduceIte]
  exact zT_q (z_count h _) hk
