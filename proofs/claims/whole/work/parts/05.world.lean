abbrev TX : Type := Nat → Nat → Int32
abbrev TL : Type := Nat → Nat → Int64
abbrev GP : Type := va_G × (ClassId × ClassId) × (Nat → Nat) × (Nat × Nat) × ((Nat → Nat) × (Nat → Nat))
abbrev gD (G : GP) : va_G := G.1
abbrev gI (G : GP) : ClassId := G.2.1.1
abbrev gJ (G : GP) : ClassId := G.2.1.2
abbrev gA (G : GP) : Nat → Nat := G.2.2.1
abbrev gN (G : GP) : Nat := G.2.2.2.1.1
abbrev gB (G : GP) : Nat := G.2.2.2.1.2
abbrev gK (G : GP) : Nat → Nat := G.2.2.2.2.1
abbrev gV (G : GP) : Nat → Nat := G.2.2.2.2.2
def SN : Nat := 18
def SL : List Nat := [5, 5, 4, 4, 5, 5, 4, 4, 6, 6, 5, 5, 4, 4, 4, 4, 4, 4]
def SB : List (List Int32) := [[97, 103, 97, 105, 110], [99, 111, 117, 110, 116], [100, 114, 97, 119], [108, 101, 97, 100], [108, 101, 97, 115, 116], [108, 105, 110, 101, 115], [109, 111, 115, 116], [109, 111, 118, 101], [112, 97, 114, 105, 115, 104], [112, 101, 111, 112, 108, 101], [112, 117, 114, 115, 101], [114, 101, 105, 103, 110], [114, 111, 97, 100], [114, 111, 111, 109], [115, 105, 122, 101], [116, 105, 100, 101], [118, 111, 116, 101], [121, 101, 97, 114]]
def SR : List (String × Nat × String × Nat) := [("WinnerDraws$County", 117, "parish", 8), ("WinnerDraws$County", 123, "road", 12), ("WinnerDraws$County", 125, "tide", 15), ("WinnerDraws$County", 127, "purse", 10), ("WinnerDraws$Law", 96, "least", 4), ("WinnerDraws$Law", 102, "most", 6), ("WinnerDraws$Law", 107, "people", 9), ("WinnerDraws$Law", 109, "lead", 3), ("WinnerDraws$Law", 111, "size", 14), ("WinnerDraws$Law", 113, "room", 13), ("WinnerDraws$Law", 115, "lines", 5), ("WinnerDraws$Law", 117, "reign", 11), ("WinnerDraws$Law", 119, "year", 17), ("WinnerDraws$Law", 121, "parish", 8), ("WinnerDraws$Plan", 48, "again", 0), ("WinnerDraws$Plan", 57, "vote", 16), ("WinnerDraws$Plan", 63, "draw", 2), ("WinnerDraws$Plan", 65, "move", 7), ("WinnerDraws$Plan", 71, "count", 1), ("WinnerDrawsModel", 185, "parish", 8), ("WinnerDrawsModel", 190, "road", 12), ("WinnerDrawsModel", 191, "tide", 15), ("WinnerDrawsModel", 192, "purse", 10), ("WinnerDrawsModel", 251, "people", 9), ("WinnerDrawsModel", 253, "lead", 3), ("WinnerDrawsModel", 255, "size", 14), ("WinnerDrawsModel", 256, "room", 13), ("WinnerDrawsModel", 258, "lines", 5), ("WinnerDrawsModel", 260, "reign", 11), ("WinnerDrawsModel", 262, "year", 17), ("WinnerDrawsModel", 264, "least", 4), ("WinnerDrawsModel", 269, "most", 6), ("WinnerDrawsModel", 284, "vote", 16), ("WinnerDrawsModel", 286, "draw", 2), ("WinnerDrawsModel", 288, "move", 7), ("WinnerDrawsModel", 290, "count", 1), ("WinnerDrawsModel", 292, "again", 0)]
def cX (G : GP) (k : Nat) (row : Nat → Int32) : va_E := match k with
  | 0 => .inr (8, [.ref (gA G 1), .ref (gA G 3), .ref (gA G 11), .ref (gA G 19), .ref (gA G 23), .ref (gA G 27), .ref (gA G 29), .ref (gA G 31), .ref (gA G 33), .ref (gA G 34), .ref (gA G 37), .int (row 11), .int (row 12), .int (row 13)])
  | 1 => .inr (7, [.ref (gA G 2), .int (row 1), .int (row 2), .int (row 3), .int (row 4), .int (row 5), .int (row 6), .int (row 7)])
  | 2 => .inl (gI G, 600, .inl row)
  | 3 => .inr (3, [.ref (gA G 4), .ref (gA G 5), .ref (gA G 6), .ref (gA G 7), .ref (gA G 8), .int (row 5), .int (row 6), .int (row 7), .int (row 8), .int (row 9), .int (row 10), .int (row 11), .ref (gA G 9), .ref (gA G 10)])
  | 4 => .inl (gI G, 10, .inl row)
  | 5 => .inl (gI G, 20, .inl row)
  | 6 => .inl (gI G, 10, .inl row)
  | 7 => .inl (gI G, 6, .inl row)
  | 8 => .inl (gI G, 6, .inl row)
  | 9 => .inl (gI G, 4, .inl row)
  | 10 => .inl (gI G, 4, .inl row)
  | 11 => .inr (3, [.ref (gA G 12), .ref (gA G 13), .ref (gA G 14), .ref (gA G 15), .ref (gA G 16), .int (row 5), .int (row 6), .int (row 7), .int (row 8), .int (row 9), .int (row 10), .int (row 11), .ref (gA G 17), .ref (gA G 18)])
  | 12 => .inl (gI G, 10, .inl row)
  | 13 => .inl (gI G, 20, .inl row)
  | 14 => .inl (gI G, 10, .inl row)
  | 15 => .inl (gI G, 6, .inl row)
  | 16 => .inl (gI G, 6, .inl row)
  | 17 => .inl (gI G, 4, .inl row)
  | 18 => .inl (gI G, 4, .inl row)
  | 19 => .inr (4, [.ref (gA G 20), .ref (gA G 21), .ref (gA G 22), .int (row 3)])
  | 20 => .inl (gI G, 150, .inl row)
  | 21 => .inl (gI G, 150, .inl row)
  | 22 => .inl (gI G, 8, .inl row)
  | 23 => .inr (4, [.ref (gA G 24), .ref (gA G 25), .ref (gA G 26), .int (row 3)])
  | 24 => .inl (gI G, 150, .inl row)
  | 25 => .inl (gI G, 150, .inl row)
  | 26 => .inl (gI G, 8, .inl row)
  | 27 => .inr (1, [.ref (gA G 28), .int (row 1), .int (row 2)])
  | 28 => .inl (gI G, 4, .inl row)
  | 29 => .inr (1, [.ref (gA G 30), .int (row 1), .int (row 2)])
  | 30 => .inl (gI G, 4, .inl row)
  | 31 => .inr (6, [.ref (gA G 32), .int (row 1), .int (row 2), .int (row 3), .int (row 4), .int (row 5)])
  | 32 => .inl (gI G, 150, .inl row)
  | 33 => .inr (2, [.ref (gA G 3), .ref (gA G 19), .int (row 2), .int (row 3), .int (row 4)])
  | 34 => .inr (5, [.ref (gA G 3), .ref (gA G 33), .ref (gA G 35), .ref (gA G 36), .int (row 4), .int (row 5), .int (row 6), .int (row 7), .int (row 8), .int (row 9), .int (row 10), .int (row 11)])
  | 35 => .inl (gI G, 34, .inl row)
  | 36 => .inl (gI G, 2074, .inl row)
  | 37 => .inr (0, [.ref (gA G 38), .ref (gA G 39), .ref (gA G 40), .int (row 3), .int (row 4)])
  | 38 => .inl (gI G, 544, .inl row)
  | 39 => .inl (gI G, 1734, .inl row)
  | _ => .inl (gI G, 3, .inl row)
def cM (G : GP) (k : Nat) (row : Nat → Int32) (rowL : Nat → Int64) : va_E := match k with
  | 0 => .inr (9, [.int (row 0), .ref (gA G (41 + 1)), .int (row 2), .int (row 3), .int (row 4), .int (row 5), .int (row 6), .int (row 7), .int (row 8), .ref (gA G (41 + 2)), .ref (gA G (41 + 3)), .ref (gA G (41 + 4)), .ref (gA G (41 + 5)), .ref (gA G (41 + 6)), .ref (gA G (41 + 7)), .ref (gA G (41 + 8)), .int (row 16), .int (row 17), .int (row 18), .int (row 19), .int (row 20), .int (row 21), .ref (gA G (41 + 9)), .ref (gA G (41 + 10)), .ref (gA G (41 + 11)), .ref (gA G (41 + 12)), .ref (gA G (41 + 13)), .int (row 27), .int (row 28), .ref (gA G (41 + 14)), .ref (gA G (41 + 15)), .ref (gA G (41 + 16)), .int (row 32), .int (row 33), .int (row 34), .int (row 35), .int (row 36), .int (row 37), .ref (gA G (41 + 17)), .ref (gA G (41 + 18)), .int (row 40), .ref (gA G (41 + 19)), .ref (gA G (41 + 20)), .ref (gA G (41 + 21)), .ref (gA G (41 + 22)), .ref (gA G (41 + 23)), .ref (gA G (41 + 24)), .ref (gA G (41 + 25)), .int (row 48), .ref (gA G (41 + 26)), .int (row 50)])
  | 1 => .inl (gI G, 2, .inl row)
  | 2 => .inl (gI G, 600, .inl row)
  | 3 => .inl (gI G, 30, .inl row)
  | 4 => .inl (gI G, 10, .inl row)
  | 5 => .inl (gI G, 12, .inl row)
  | 6 => .inl (gI G, 30, .inl row)
  | 7 => .inl (gI G, 10, .inl row)
  | 8 => .inl (gI G, 12, .inl row)
  | 9 => .inl (gI G, 150, .inl row)
  | 10 => .inl (gI G, 150, .inl row)
  | 11 => .inl (gI G, 150, .inl row)
  | 12 => .inl (gI G, 150, .inl row)
  | 13 => .inl (gI G, 150, .inl row)
  | 14 => .inl (gI G, 8, .inl row)
  | 15 => .inl (gI G, 200, .inl row)
  | 16 => .inl (gI G, 200, .inl row)
  | 17 => .inl (gI G, 4, .inl row)
  | 18 => .inl (gI G, 4, .inl row)
  | 19 => .inl (gI G, 34, .inl row)
  | 20 => .inl (gI G, 34, .inl row)
  | 21 => .inl (gI G, 544, .inl row)
  | 22 => .inl (gI G, 1952, .inl row)
  | 23 => .inl (gI G, 160, .inl row)
  | 24 => .inl (gI G, 3, .inl row)
  | 25 => .inl (gJ G, 14, .inr (.inl rowL))
  | 26 => .inl (gI G, 1737, .inl row)
  | _ => .inl (gJ G, 1, .inr (.inl rowL))
/-! a world as a list by ids -/
def wl (n : Nat) (ad : Nat → Nat) (f : Nat → va_E) : va_W := (List.range n).map fun k => (ad k, f k)
theorem wl_get {n : Nat} {ad : Nat → Nat} {f : Nat → va_E} {k : Nat} (h : k < n) : (wl n ad f)[k]? = some (ad k, f k) := by
  simp [wl, List.getElem?_range h]
theorem wl_some {n : Nat} {ad : Nat → Nat} {f : Nat → va_E} {k : Nat} {q : Nat × va_E} (h : (wl n ad f)[k]? = some q) : k < n ∧ q = (ad k, f k) := by
  have hk : k < n := by
    have := (List.getElem?_eq_some_iff.mp h).1
    simpa [wl] using this
  rw [wl_get hk] at h
  exact ⟨hk, (Option.some.inj h).symm⟩
theorem wl_set {n : Nat} {ad : Nat → Nat} {f : Nat → va_E} {k : Nat} {e : va_E} : (wl n ad f).set k (ad k, e) = wl n ad (va_up f k e) := by
  apply List.ext_getElem?
  intro i
  by_cases hi : i < n
  · rw [wl_get hi, List.getElem?_set]
    by_cases hk : k = i
    · subst hk
      rw [if_pos rfl, if_pos (by simpa [wl] using hi)]
      simp [va_up]
    · rw [if_neg hk, wl_get hi]
      simp [va_up, Ne.symm hk]
  · have h1 : ∀ g : Nat → va_E, (wl n ad g)[i]? = none := fun g => by
      apply List.getElem?_eq_none
      simpa [wl] using Nat.le_of_not_lt hi
    rw [h1, List.getElem?_set]
    by_cases hk : k = i
    · rw [if_pos hk, if_neg]
      subst hk
      simpa [wl] using hi
    · rw [if_neg hk, h1]
theorem wl_congr {n : Nat} {ad : Nat → Nat} {f g : Nat → va_E} (h : ∀ k, k < n → f k = g k) : wl n ad f = wl n ad g := by
  unfold wl
  apply List.map_congr_left
  intro k hk
  rw [h k (List.mem_range.mp hk)]
theorem wl_D {n : Nat} {ad : Nat → Nat} {f : Nat → va_E} {A : Nat → Prop} (h1 : ∀ i j, i < n → j < n → ad i = ad j → i = j) (h2 : ∀ i, i < n → A (ad i)) : va_D A (wl n ad f) := by
  refine ⟨fun i j p q hp hq e => ?_, fun k q hq => ?_⟩
  · obtain ⟨a1, rfl⟩ := wl_some hp
    obtain ⟨a2, rfl⟩ := wl_some hq
    exact h1 i j a1 a2 e
  · obtain ⟨a1, rfl⟩ := wl_some hq
    exact h2 k a1
def cW (G : GP) (X M : TX) (L : TL) (k : Nat) : va_E := if k < 41 then cX G k (X k) else cM G (k - 41) (M (k - 41)) (L (k - 41))
def u2 (X : TX) (k j : Nat) (v : Int32) : TX := fun a => if a = k then upd (X k) j v else X a
def u2L (X : TL) (k j : Nat) (v : Int64) : TL := fun a => if a = k then vp_updL (X k) j v else X a
theorem u2_at (X : TX) (k j : Nat) (v : Int32) (a b : Nat) : u2 X k j v a b = if a = k ∧ b = j then v else X a b := by
  unfold u2 upd
  by_cases h : a = k
  · subst h
    by_cases h2 : b = j <;> simp [h2]
  · simp [h]
theorem u2L_at (X : TL) (k j : Nat) (v : Int64) (a b : Nat) : u2L X k j v a b = if a = k ∧ b = j then v else X a b := by
  unfold u2L vp_updL
  by_cases h : a = k
  · subst h
    by_cases h2 : b = j <;> simp [h2]
  · simp [h]
theorem u2_self (X : TX) (k j : Nat) (v : Int32) : u2 X k j v k = upd (X k) j v := if_pos rfl
theorem u2_ne (X : TX) {k a : Nat} (j : Nat) (v : Int32) (h : a ≠ k) : u2 X k j v a = X a := if_neg h
theorem u2L_self (X : TL) (k j : Nat) (v : Int64) : u2L X k j v k = vp_updL (X k) j v := if_pos rfl
theorem u2L_ne (X : TL) {k a : Nat} (j : Nat) (v : Int64) (h : a ≠ k) : u2L X k j v a = X a := if_neg h
/-! what is known of a place -/
def IX (k j ci : Nat) : Prop := k < 41 ∧ ∀ (G : GP) (row : Nat → Int32), ∃ fs, cX G k row = .inr (ci, fs) ∧ fs[j]? = some (.int (row j)) ∧ j < fs.length ∧ ∀ v, cX G k (upd row j v) = .inr (ci, fs.set j (.int v))
def FX (k j ci k2 : Nat) : Prop := k < 41 ∧ ∀ (G : GP) (row : Nat → Int32), ∃ fs, cX G k row = .inr (ci, fs) ∧ fs[j]? = some (.ref (gA G k2))
def AX (k n : Nat) : Prop := k < 41 ∧ ∀ (G : GP) (row : Nat → Int32), cX G k row = .inl (gI G, n, .inl row)
def OX (k ci : Nat) : Prop := k < 41 ∧ ∀ (G : GP) (row : Nat → Int32), ∃ fs, cX G k row = .inr (ci, fs)
def IM (k j ci : Nat) : Prop := k < 27 ∧ ∀ (G : GP) (row : Nat → Int32) (rowL : Nat → Int64), ∃ fs, cM G k row rowL = .inr (ci, fs) ∧ fs[j]? = some (.int (row j)) ∧ j < fs.length ∧ ∀ v, cM G k (upd row j v) rowL = .inr (ci, fs.set j (.int v))
def FM (k j ci k2 : Nat) : Prop := k < 27 ∧ ∀ (G : GP) (row : Nat → Int32) (rowL : Nat → Int64), ∃ fs, cM G k row rowL = .inr (ci, fs) ∧ fs[j]? = some (.ref (gA G (41 + k2)))
def AM (k n : Nat) : Prop := k < 27 ∧ ∀ (G : GP) (row : Nat → Int32) (rowL : Nat → Int64), cM G k row rowL = .inl (gI G, n, .inl row)
def OM (k ci : Nat) : Prop := k < 27 ∧ ∀ (G : GP) (row : Nat → Int32) (rowL : Nat → Int64), ∃ fs, cM G k row rowL = .inr (ci, fs)
def LM (k n : Nat) : Prop := k < 28 ∧ ∀ (G : GP) (row : Nat → Int32) (rowL : Nat → Int64), cM G k row rowL = .inl (gJ G, n, .inr (.inl rowL))
theorem cW_X {G : GP} {X M : TX} {L : TL} {k : Nat} (h : k < 41) : cW G X M L k = cX G k (X k) := if_pos h
theorem cW_M {G : GP} {X M : TX} {L : TL} {k : Nat} : cW G X M L (41 + k) = cM G k (M k) (L k) := by
  unfold cW
  rw [if_neg (by omega), Nat.add_sub_cancel_left]
theorem cW_uX {G : GP} {X M : TX} {L : TL} {k j : Nat} {v : Int32} {e : va_E} (hk : k < 41) (h : cX G k (upd (X k) j v) = e) : va_up (cW G X M L) k e = cW G (u2 X k j v) M L := by
  funext i
  unfold va_up
  by_cases hi : i = k
  · subst hi
    rw [if_pos rfl, cW_X hk, u2_self, h]
  · rw [if_neg hi]
    unfold cW
    rw [u2_ne _ _ _ hi]
theorem cW_uM {G : GP} {X M : TX} {L : TL} {k j : Nat} {v : Int32} {e : va_E} (h : cM G k (upd (M k) j v) (L k) = e) : va_up (cW G X M L) (41 + k) e = cW G X (u2 M k j v) L := by
  funext i
  unfold va_up
  by_cases hi : i = 41 + k
  · subst hi
    rw [if_pos rfl, cW_M, u2_self, h]
  · rw [if_neg hi]
    unfold cW
    by_cases h4 : i < 41
    · rw [if_pos h4, if_pos h4]
    · rw [if_neg h4, if_neg h4, u2_ne _ _ _ (by omega)]
theorem cW_uL {G : GP} {X M : TX} {L : TL} {k j : Nat} {v : Int64} {e : va_E} (h : cM G k (M k) (vp_updL (L k) j v) = e) : va_up (cW G X M L) (41 + k) e = cW G X M (u2L L k j v) := by
  funext i
  unfold va_up
  by_cases hi : i = 41 + k
  · subst hi
    rw [if_pos rfl, cW_M, u2L_self, h]
  · rw [if_neg hi]
    unfold cW
    by_cases h4 : i < 41
    · rw [if_pos h4, if_pos h4]
    · rw [if_neg h4, if_neg h4, u2L_ne _ _ _ (by omega)]
/-! what holds of a state, whatever the cells hold -/
abbrev AB (G : GP) : Nat → Prop := fun q => gB G ≤ q
def StrE (G : GP) (U : State) : Prop :=
  (∀ i : Nat, i < SN → va_O "java/lang/String" (gK G i) (AB G) U U.heap ∧ va_OF "java/lang/String" "coder" "B" (.int 0) (gK G i) (AB G) U U.heap ∧ va_OF "java/lang/String" "value" "[B" (.ref (gV G i)) (gK G i) (AB G) U U.heap ∧ va_T .byte (gV G i) (SL.getD i 0) (fun j => .int ((SB.getD i []).getD j 0)) (AB G) U U.heap) ∧
  (∀ q ∈ SR, vk_R q.1 q.2.1 q.2.2.1 (gK G q.2.2.2) U) ∧
  va_Z "java/lang/String" "COMPACT_STRINGS" "Z" (.int 1) (AB G) U U.heap ∧
  va_Zq "jdk/internal/util/Preconditions" "SIOOBE_FORMATTER" "Ljava/util/function/BiFunction;" (AB G) U U.heap ∧
  vx_Zq Bundle.tN "UNASSIGNED_STACK" Bundle.steD (AB G) U U.heap ∧ vx_Zq Bundle.tN "SUPPRESSED_SENTINEL" Bundle.listD (AB G) U U.heap ∧ va_Nc "java/lang/IllegalArgumentException" "java/util/NoSuchElementException" U
theorem StrE.moved {G : GP} {s U : State} (h : StrE G s) (hW : s.WarmedH U.vm) (hq : ∀ a : Nat, a < s.heap.size → ¬ AB G a → U.heap[a]? = s.heap[a]?) : StrE G U := by
  have hv := hW.alike
  obtain ⟨h1, h2, h3, h4, h5, h6, h7⟩ := h
  exact ⟨fun i hi => ⟨((h1 i hi).1.moved hv).kept hq, ((h1 i hi).2.1.moved hv).kept hq, ((h1 i hi).2.2.1.moved hv).kept hq, ((h1 i hi).2.2.2.moved hv).kept hq⟩, fun q hm => (h2 q hm).warm hW, (h3.moved hv).kept hq, (h4.moved hv).kept hq, (h5.moved hv).kept hq, (h6.moved hv).kept hq, va_Nc.moved hv h7⟩
theorem StrE.same {G : GP} {s U : State} (h : StrE G s) (hv : s.vm = U.vm) (hh : U.heap = s.heap) : StrE G U := by
  have ha : s.vm.Alike U.vm := by rw [hv]; exact Vm.Alike.refl U.vm
  have hq : ∀ a : Nat, a < s.heap.size → ¬ AB G a → U.heap[a]? = s.heap[a]? := fun a _ _ => by rw [hh]
  obtain ⟨h1, h2, h3, h4, h5, h6, h7⟩ := h
  exact ⟨fun i hi => ⟨((h1 i hi).1.moved ha).kept hq, ((h1 i hi).2.1.moved ha).kept hq, ((h1 i hi).2.2.1.moved ha).kept hq, ((h1 i hi).2.2.2.moved ha).kept hq⟩, fun q hm => (h2 q hm).same hv.symm, (h3.moved ha).kept hq, (h4.moved ha).kept hq, (h5.moved ha).kept hq, (h6.moved ha).kept hq, va_Nc.moved ha h7⟩
def EnvS (G : GP) (U : State) : Prop :=
  va_K (gD G) vwCl [(gI G, .int), (gJ G, .long)] U ∧ (∀ w ∈ NW, va_Nw w U) ∧ ((∀ i j, i < gN G → j < gN G → gA G i = gA G j → i = j) ∧ ∀ i, i < gN G → gB G ≤ gA G i) ∧ gB G ≤ U.heap.size ∧ 68 ≤ gN G ∧ StrE G U
theorem NW_warm {w : Cond} (hw : w ∈ NW) {s U : State} (hW : s.WarmedH U.vm) (h : va_Nw w s) : va_Nw w U := by
  have hn : nestWord w = true := (List.mem_filter.mp hw).2
  cases w <;> first | exact absurd hn (by decide) | exact va_Nw.warmF hW h | exact va_Nw.warmM hW h | exact va_Nw.warmC hW h | exact va_Nw.warmD hW h | (simp [nestWord] at hn)
theorem NW_tab {w : Cond} (hw : w ∈ NW) : w.onTables = true := by
  have hn : nestWord w = true := (List.mem_filter.mp hw).2
  cases w <;> first | rfl | (simp [nestWord] at hn)
theorem EnvS.moved {G : GP} {s U : State} (h : EnvS G s) (hW : s.WarmedH U.vm) (hz : s.heap.size ≤ U.heap.size) (hq : ∀ a : Nat, a < s.heap.size → ¬ AB G a → U.heap[a]? = s.heap[a]?) : EnvS G U := by
  obtain ⟨h1, h2, h3, h4, h5, h6⟩ := h
  exact ⟨va_K.moved hW.alike h1, fun w hw => NW_warm hw hW (h2 w hw), h3, Nat.le_trans h4 hz, h5, h6.moved hW hq⟩
theorem EnvS.same {G : GP} {s U : State} (h : EnvS G s) (hv : s.vm = U.vm) (hh : U.heap = s.heap) : EnvS G U := by
  obtain ⟨h1, h2, h3, h4, h5, h6⟩ := h
  exact ⟨va_K.moved (by rw [hv]; exact Vm.Alike.refl U.vm) h1, fun w hw => va_Nw.same (NW_tab hw) hv (h2 w hw), h3, by rw [hh]; exact h4, h5, h6.same hv hh⟩
def Wd (G : GP) (X M : TX) (L : TL) (U : State) : Prop := EnvS G U ∧ va_P (gD G) vwCl (wl (gN G) (gA G) (cW G X M L)) U.heap
def Wh (G : GP) (s : State) (X M : TX) (L : TL) (H : Heap) (locs : List Loc) : Prop := va_P (gD G) vwCl (wl (gN G) (gA G) (cW G X M L)) H ∧ va_S (AB G) s.heap H locs
def Cx (G : GP) (p : Program) (s : State) (m : MethodId) (args : Array Value) (c : Code) (cc : ByteArray) (nL : Nat) (own : String) : Prop := CallFix p m c cc nL s args TB own ∧ EnvS G s
theorem Wd.blind {G : GP} {X M : TX} {L : TL} {U : State} (g : JFrame) (mk : MethodId) (a : Array Value) (h : Wd G X M L U) : Wd G X M L (U.calling g mk a) := ⟨h.1.same (U := U.calling g mk a) rfl rfl, h.2⟩
theorem Wd.start {G : GP} {s U : State} {X M : TX} {L : TL} {H : Heap} {locs : List Loc} (hE : EnvS G s) (hw : Wh G s X M L H locs) (hU : U.heap = H) (hW : s.WarmedH U.vm) : Wd G X M L U :=
  ⟨hE.moved hW (by rw [hU]; exact hw.2.1) (fun a h1 h2 => by rw [hU]; exact hw.2.2.1 a h1 h2), by rw [hU]; exact hw.1⟩
theorem EnvS.D {G : GP} {s : State} (h : EnvS G s) (f : Nat → va_E) : va_D (AB G) (wl (gN G) (gA G) f) := wl_D h.2.2.1.1 h.2.2.1.2
theorem oX_0 : OX 0 8 := ⟨by decide, fun G row => ⟨_, rfl⟩⟩
theorem fX_0_0 : FX 0 0 8 1 := ⟨by decide, fun G row => ⟨_, rfl, rfl⟩⟩
theorem fX_0_1 : FX 0 1 8 3 := ⟨by decide, fun G row => ⟨_, rfl, rfl⟩⟩
theorem fX_0_2 : FX 0 2 8 11 := ⟨by decide, fun G row => ⟨_, rfl, rfl⟩⟩
theorem fX_0_3 : FX 0 3 8 19 := ⟨by decide, fun G row => ⟨_, rfl, rfl⟩⟩
theorem fX_0_4 : FX 0 4 8 23 := ⟨by decide, fun G row => ⟨_, rfl, rfl⟩⟩
theorem fX_0_5 : FX 0 5 8 27 := ⟨by decide, fun G row => ⟨_, rfl, rfl⟩⟩
theorem fX_0_6 : FX 0 6 8 29 := ⟨by decide, fun G row => ⟨_, rfl, rfl⟩⟩
theorem fX_0_7 : FX 0 7 8 31 := ⟨by decide, fun G row => ⟨_, rfl, rfl⟩⟩
theorem fX_0_8 : FX 0 8 8 33 := ⟨by decide, fun G row => ⟨_, rfl, rfl⟩⟩
theorem fX_0_9 : FX 0 9 8 34 := ⟨by decide, fun G row => ⟨_, rfl, rfl⟩⟩
theorem fX_0_10 : FX 0 10 8 37 := ⟨by decide, fun G row => ⟨_, rfl, rfl⟩⟩
theorem iX_0_11 : IX 0 11 8 := ⟨by decide, fun G row => ⟨_, rfl, rfl, Nat.le_of_ble_eq_true rfl, fun v => rfl⟩⟩
theorem iX_0_12 : IX 0 12 8 := ⟨by decide, fun G row => ⟨_, rfl, rfl, Nat.le_of_ble_eq_true rfl, fun v => rfl⟩⟩
theorem iX_0_13 : IX 0 13 8 := ⟨by decide, fun G row => ⟨_, rfl, rfl, Nat.le_of_ble_eq_true rfl, fun v => rfl⟩⟩
theorem oX_1 : OX 1 7 := ⟨by decide, fun G row => ⟨_, rfl⟩⟩
theorem fX_1_0 : FX 1 0 7 2 := ⟨by decide, fun G row => ⟨_, rfl, rfl⟩⟩
theorem iX_1_1 : IX 1 1 7 := ⟨by decide, fun G row => ⟨_, rfl, rfl, Nat.le_of_ble_eq_true rfl, fun v => rfl⟩⟩
theorem iX_1_2 : IX 1 2 7 := ⟨by decide, fun G row => ⟨_, rfl, rfl, Nat.le_of_ble_eq_true rfl, fun v => rfl⟩⟩
theorem iX_1_3 : IX 1 3 7 := ⟨by decide, fun G row => ⟨_, rfl, rfl, Nat.le_of_ble_eq_true rfl, fun v => rfl⟩⟩
theorem iX_1_4 : IX 1 4 7 := ⟨by decide, fun G row => ⟨_, rfl, rfl, Nat.le_of_ble_eq_true rfl, fun v => rfl⟩⟩
theorem iX_1_5 : IX 1 5 7 := ⟨by decide, fun G row => ⟨_, rfl, rfl, Nat.le_of_ble_eq_true rfl, fun v => rfl⟩⟩
theorem iX_1_6 : IX 1 6 7 := ⟨by decide, fun G row => ⟨_, rfl, rfl, Nat.le_of_ble_eq_true rfl, fun v => rfl⟩⟩
theorem iX_1_7 : IX 1 7 7 := ⟨by decide, fun G row => ⟨_, rfl, rfl, Nat.le_of_ble_eq_true rfl, fun v => rfl⟩⟩
theorem oX_3 : OX 3 3 := ⟨by decide, fun G row => ⟨_, rfl⟩⟩
theorem fX_3_0 : FX 3 0 3 4 := ⟨by decide, fun G row => ⟨_, rfl, rfl⟩⟩
theorem fX_3_1 : FX 3 1 3 5 := ⟨by decide, fun G row => ⟨_, rfl, rfl⟩⟩
theorem fX_3_2 : FX 3 2 3 6 := ⟨by decide, fun G row => ⟨_, rfl, rfl⟩⟩
theorem fX_3_3 : FX 3 3 3 7 := ⟨by decide, fun G row => ⟨_, rfl, rfl⟩⟩
theorem fX_3_4 : FX 3 4 3 8 := ⟨by decide, fun G row => ⟨_, rfl, rfl⟩⟩
theorem iX_3_5 : IX 3 5 3 := ⟨by decide, fun G row => ⟨_, rfl, rfl, Nat.le_of_ble_eq_true rfl, fun v => rfl⟩⟩
theorem iX_3_6 : IX 3 6 3 := ⟨by decide, fun G row => ⟨_, rfl, rfl, Nat.le_of_ble_eq_true rfl, fun v => rfl⟩⟩
theorem iX_3_7 : IX 3 7 3 := ⟨by decide, fun G row => ⟨_, rfl, rfl, Nat.le_of_ble_eq_true rfl, fun v => rfl⟩⟩
theorem iX_3_8 : IX 3 8 3 := ⟨by decide, fun G row => ⟨_, rfl, rfl, Nat.le_of_ble_eq_true rfl, fun v => rfl⟩⟩
theorem iX_3_9 : IX 3 9 3 := ⟨by decide, fun G row => ⟨_, rfl, rfl, Nat.le_of_ble_eq_true rfl, fun v => rfl⟩⟩
theorem iX_3_10 : IX 3 10 3 := ⟨by decide, fun G row => ⟨_, rfl, rfl, Nat.le_of_ble_eq_true rfl, fun v => rfl⟩⟩
theorem iX_3_11 : IX 3 11 3 := ⟨by decide, fun G row => ⟨_, rfl, rfl, Nat.le_of_ble_eq_true rfl, fun v => rfl⟩⟩
theorem fX_3_12 : FX 3 12 3 9 := ⟨by decide, fun G row => ⟨_, rfl, rfl⟩⟩
theorem fX_3_13 : FX 3 13 3 10 := ⟨by decide, fun G row => ⟨_, rfl, rfl⟩⟩
theorem oX_11 : OX 11 3 := ⟨by decide, fun G row => ⟨_, rfl⟩⟩
theorem fX_11_0 : FX 11 0 3 12 := ⟨by decide, fun G row => ⟨_, rfl, rfl⟩⟩
theorem fX_11_1 : FX 11 1 3 13 := ⟨by decide, fun G row => ⟨_, rfl, rfl⟩⟩
theorem fX_11_2 : FX 11 2 3 14 := ⟨by decide, fun G row => ⟨_, rfl, rfl⟩⟩
theorem fX_11_3 : FX 11 3 3 15 := ⟨by decide, fun G row => ⟨_, rfl, rfl⟩⟩
theorem fX_11_4 : FX 11 4 3 16 := ⟨by decide, fun G row => ⟨_, rfl, rfl⟩⟩
theorem iX_11_5 : IX 11 5 3 := ⟨by decide, fun G row => ⟨_, rfl, rfl, Nat.le_of_ble_eq_true rfl, fun v => rfl⟩⟩
theorem iX_11_6 : IX 11 6 3 := ⟨by decide, fun G row => ⟨_, rfl, rfl, Nat.le_of_ble_eq_true rfl, fun v => rfl⟩⟩
theorem iX_11_7 : IX 11 7 3 := ⟨by decide, fun G row => ⟨_, rfl, rfl, Nat.le_of_ble_eq_true rfl, fun v => rfl⟩⟩
theorem iX_11_8 : IX 11 8 3 := ⟨by decide, fun G row => ⟨_, rfl, rfl, Nat.le_of_ble_eq_true rfl, fun v => rfl⟩⟩
theorem iX_11_9 : IX 11 9 3 := ⟨by decide, fun G row => ⟨_, rfl, rfl, Nat.le_of_ble_eq_true rfl, fun v => rfl⟩⟩
theorem iX_11_10 : IX 11 10 3 := ⟨by decide, fun G row => ⟨_, rfl, rfl, Nat.le_of_ble_eq_true rfl, fun v => rfl⟩⟩
theorem iX_11_11 : IX 11 11 3 := ⟨by decide, fun G row => ⟨_, rfl, rfl, Nat.le_of_ble_eq_true rfl, fun v => rfl⟩⟩
theorem fX_11_12 : FX 11 12 3 17 := ⟨by decide, fun G row => ⟨_, rfl, rfl⟩⟩
theorem fX_11_13 : FX 11 13 3 18 := ⟨by decide, fun G row => ⟨_, rfl, rfl⟩⟩
theorem oX_19 : OX 19 4 := ⟨by decide, fun G row => ⟨_, rfl⟩⟩
theorem fX_19_0 : FX 19 0 4 20 := ⟨by decide, fun G row => ⟨_, rfl, rfl⟩⟩
theorem fX_19_1 : FX 19 1 4 21 := ⟨by decide, fun G row => ⟨_, rfl, rfl⟩⟩
theorem fX_19_2 : FX 19 2 4 22 := ⟨by decide, fun G row => ⟨_, rfl, rfl⟩⟩
theorem iX_19_3 : IX 19 3 4 := ⟨by decide, fun G row => ⟨_, rfl, rfl, Nat.le_of_ble_eq_true rfl, fun v => rfl⟩⟩
theorem oX_23 : OX 23 4 := ⟨by decide, fun G row => ⟨_, rfl⟩⟩
theorem fX_23_0 : FX 23 0 4 24 := ⟨by decide, fun G row => ⟨_, rfl, rfl⟩⟩
theorem fX_23_1 : FX 23 1 4 25 := ⟨by decide, fun G row => ⟨_, rfl, rfl⟩⟩
theorem fX_23_2 : FX 23 2 4 26 := ⟨by decide, fun G row => ⟨_, rfl, rfl⟩⟩
theorem iX_23_3 : IX 23 3 4 := ⟨by decide, fun G row => ⟨_, rfl, rfl, Nat.le_of_ble_eq_true rfl, fun v => rfl⟩⟩
theorem oX_27 : OX 27 1 := ⟨by decide, fun G row => ⟨_, rfl⟩⟩
theorem fX_27_0 : FX 27 0 1 28 := ⟨by decide, fun G row => ⟨_, rfl, rfl⟩⟩
theorem iX_27_1 : IX 27 1 1 := ⟨by decide, fun G row => ⟨_, rfl, rfl, Nat.le_of_ble_eq_true rfl, fun v => rfl⟩⟩
theorem iX_27_2 : IX 27 2 1 := ⟨by decide, fun G row => ⟨_, rfl, rfl, Nat.le_of_ble_eq_true rfl, fun v => rfl⟩⟩
theorem oX_29 : OX 29 1 := ⟨by decide, fun G row => ⟨_, rfl⟩⟩
theorem fX_29_0 : FX 29 0 1 30 := ⟨by decide, fun G row => ⟨_, rfl, rfl⟩⟩
theorem iX_29_1 : IX 29 1 1 := ⟨by decide, fun G row => ⟨_, rfl, rfl, Nat.le_of_ble_eq_true rfl, fun v => rfl⟩⟩
theorem iX_29_2 : IX 29 2 1 := ⟨by decide, fun G row => ⟨_, rfl, rfl, Nat.le_of_ble_eq_true rfl, fun v => rfl⟩⟩
theorem oX_31 : OX 31 6 := ⟨by decide, fun G row => ⟨_, rfl⟩⟩
theorem fX_31_0 : FX 31 0 6 32 := ⟨by decide, fun G row => ⟨_, rfl, rfl⟩⟩
theorem iX_31_1 : IX 31 1 6 := ⟨by decide, fun G row => ⟨_, rfl, rfl, Nat.le_of_ble_eq_true rfl, fun v => rfl⟩⟩
theorem iX_31_2 : IX 31 2 6 := ⟨by decide, fun G row => ⟨_, rfl, rfl, Nat.le_of_ble_eq_true rfl, fun v => rfl⟩⟩
theorem iX_31_3 : IX 31 3 6 := ⟨by decide, fun G row => ⟨_, rfl, rfl, Nat.le_of_ble_eq_true rfl, fun v => rfl⟩⟩
theorem iX_31_4 : IX 31 4 6 := ⟨by decide, fun G row => ⟨_, rfl, rfl, Nat.le_of_ble_eq_true rfl, fun v => rfl⟩⟩
theorem iX_31_5 : IX 31 5 6 := ⟨by decide, fun G row => ⟨_, rfl, rfl, Nat.le_of_ble_eq_true rfl, fun v => rfl⟩⟩
theorem oX_33 : OX 33 2 := ⟨by decide, fun G row => ⟨_, rfl⟩⟩
theorem fX_33_0 : FX 33 0 2 3 := ⟨by decide, fun G row => ⟨_, rfl, rfl⟩⟩
theorem fX_33_1 : FX 33 1 2 19 := ⟨by decide, fun G row => ⟨_, rfl, rfl⟩⟩
theorem iX_33_2 : IX 33 2 2 := ⟨by decide, fun G row => ⟨_, rfl, rfl, Nat.le_of_ble_eq_true rfl, fun v => rfl⟩⟩
theorem iX_33_3 : IX 33 3 2 := ⟨by decide, fun G row => ⟨_, rfl, rfl, Nat.le_of_ble_eq_true rfl, fun v => rfl⟩⟩
theorem iX_33_4 : IX 33 4 2 := ⟨by decide, fun G row => ⟨_, rfl, rfl, Nat.le_of_ble_eq_true rfl, fun v => rfl⟩⟩
theorem oX_34 : OX 34 5 := ⟨by decide, fun G row => ⟨_, rfl⟩⟩
theorem fX_34_0 : FX 34 0 5 3 := ⟨by decide, fun G row => ⟨_, rfl, rfl⟩⟩
theorem fX_34_1 : FX 34 1 5 33 := ⟨by decide, fun G row => ⟨_, rfl, rfl⟩⟩
theorem fX_34_2 : FX 34 2 5 35 := ⟨by decide, fun G row => ⟨_, rfl, rfl⟩⟩
theorem fX_34_3 : FX 34 3 5 36 := ⟨by decide, fun G row => ⟨_, rfl, rfl⟩⟩
theorem iX_34_4 : IX 34 4 5 := ⟨by decide, fun G row => ⟨_, rfl, rfl, Nat.le_of_ble_eq_true rfl, fun v => rfl⟩⟩
theorem iX_34_5 : IX 34 5 5 := ⟨by decide, fun G row => ⟨_, rfl, rfl, Nat.le_of_ble_eq_true rfl, fun v => rfl⟩⟩
theorem iX_34_6 : IX 34 6 5 := ⟨by decide, fun G row => ⟨_, rfl, rfl, Nat.le_of_ble_eq_true rfl, fun v => rfl⟩⟩
theorem iX_34_7 : IX 34 7 5 := ⟨by decide, fun G row => ⟨_, rfl, rfl, Nat.le_of_ble_eq_true rfl, fun v => rfl⟩⟩
theorem iX_34_8 : IX 34 8 5 := ⟨by decide, fun G row => ⟨_, rfl, rfl, Nat.le_of_ble_eq_true rfl, fun v => rfl⟩⟩
theorem iX_34_9 : IX 34 9 5 := ⟨by decide, fun G row => ⟨_, rfl, rfl, Nat.le_of_ble_eq_true rfl, fun v => rfl⟩⟩
theorem iX_34_10 : IX 34 10 5 := ⟨by decide, fun G row => ⟨_, rfl, rfl, Nat.le_of_ble_eq_true rfl, fun v => rfl⟩⟩
theorem iX_34_11 : IX 34 11 5 := ⟨by decide, fun G row => ⟨_, rfl, rfl, Nat.le_of_ble_eq_true rfl, fun v => rfl⟩⟩
theorem oX_37 : OX 37 0 := ⟨by decide, fun G row => ⟨_, rfl⟩⟩
theorem fX_37_0 : FX 37 0 0 38 := ⟨by decide, fun G row => ⟨_, rfl, rfl⟩⟩
theorem fX_37_1 : FX 37 1 0 39 := ⟨by decide, fun G row => ⟨_, rfl, rfl⟩⟩
theorem fX_37_2 : FX 37 2 0 40 := ⟨by decide, fun G row => ⟨_, rfl, rfl⟩⟩
theorem iX_37_3 : IX 37 3 0 := ⟨by decide, fun G row => ⟨_, rfl, rfl, Nat.le_of_ble_eq_true rfl, fun v => rfl⟩⟩
theorem iX_37_4 : IX 37 4 0 := ⟨by decide, fun G row => ⟨_, rfl, rfl, Nat.le_of_ble_eq_true rfl, fun v => rfl⟩⟩
theorem aX_2 : AX 2 600 := ⟨by decide, fun G row => rfl⟩
theorem aX_4 : AX 4 10 := ⟨by decide, fun G row => rfl⟩
theorem aX_5 : AX 5 20 := ⟨by decide, fun G row => rfl⟩
theorem aX_6 : AX 6 10 := ⟨by decide, fun G row => rfl⟩
theorem aX_7 : AX 7 6 := ⟨by decide, fun G row => rfl⟩
theorem aX_8 : AX 8 6 := ⟨by decide, fun G row => rfl⟩
theorem aX_9 : AX 9 4 := ⟨by decide, fun G row => rfl⟩
theorem aX_10 : AX 10 4 := ⟨by decide, fun G row => rfl⟩
theorem aX_12 : AX 12 10 := ⟨by decide, fun G row => rfl⟩
theorem aX_13 : AX 13 20 := ⟨by decide, fun G row => rfl⟩
theorem aX_14 : AX 14 10 := ⟨by decide, fun G row => rfl⟩
theorem aX_15 : AX 15 6 := ⟨by decide, fun G row => rfl⟩
theorem aX_16 : AX 16 6 := ⟨by decide, fun G row => rfl⟩
theorem aX_17 : AX 17 4 := ⟨by decide, fun G row => rfl⟩
theorem aX_18 : AX 18 4 := ⟨by decide, fun G row => rfl⟩
theorem aX_20 : AX 20 150 := ⟨by decide, fun G row => rfl⟩
theorem aX_21 : AX 21 150 := ⟨by decide, fun G row => rfl⟩
theorem aX_22 : AX 22 8 := ⟨by decide, fun G row => rfl⟩
theorem aX_24 : AX 24 150 := ⟨by decide, fun G row => rfl⟩
theorem aX_25 : AX 25 150 := ⟨by decide, fun G row => rfl⟩
theorem aX_26 : AX 26 8 := ⟨by decide, fun G row => rfl⟩
theorem aX_28 : AX 28 4 := ⟨by decide, fun G row => rfl⟩
theorem aX_30 : AX 30 4 := ⟨by decide, fun G row => rfl⟩
theorem aX_32 : AX 32 150 := ⟨by decide, fun G row => rfl⟩
theorem aX_35 : AX 35 34 := ⟨by decide, fun G row => rfl⟩
theorem aX_36 : AX 36 2074 := ⟨by decide, fun G row => rfl⟩
theorem aX_38 : AX 38 544 := ⟨by decide, fun G row => rfl⟩
theorem aX_39 : AX 39 1734 := ⟨by decide, fun G row => rfl⟩
theorem aX_40 : AX 40 3 := ⟨by decide, fun G row => rfl⟩
theorem oM_0 : OM 0 9 := ⟨by decide, fun G row rowL => ⟨_, rfl⟩⟩
theorem iM_0_0 : IM 0 0 9 := ⟨by decide, fun G row rowL => ⟨_, rfl, rfl, Nat.le_of_ble_eq_true rfl, fun v => rfl⟩⟩
theorem fM_0_1 : FM 0 1 9 1 := ⟨by decide, fun G row rowL => ⟨_, rfl, rfl⟩⟩
theorem iM_0_2 : IM 0 2 9 := ⟨by decide, fun G row rowL => ⟨_, rfl, rfl, Nat.le_of_ble_eq_true rfl, fun v => rfl⟩⟩
theorem iM_0_3 : IM 0 3 9 := ⟨by decide, fun G row rowL => ⟨_, rfl, rfl, Nat.le_of_ble_eq_true rfl, fun v => rfl⟩⟩
theorem iM_0_4 : IM 0 4 9 := ⟨by decide, fun G row rowL => ⟨_, rfl, rfl, Nat.le_of_ble_eq_true rfl, fun v => rfl⟩⟩
theorem iM_0_5 : IM 0 5 9 := ⟨by decide, fun G row rowL => ⟨_, rfl, rfl, Nat.le_of_ble_eq_true rfl, fun v => rfl⟩⟩
theorem iM_0_6 : IM 0 6 9 := ⟨by decide, fun G row rowL => ⟨_, rfl, rfl, Nat.le_of_ble_eq_true rfl, fun v => rfl⟩⟩
theorem iM_0_7 : IM 0 7 9 := ⟨by decide, fun G row rowL => ⟨_, rfl, rfl, Nat.le_of_ble_eq_true rfl, fun v => rfl⟩⟩
theorem iM_0_8 : IM 0 8 9 := ⟨by decide, fun G row rowL => ⟨_, rfl, rfl, Nat.le_of_ble_eq_true rfl, fun v => rfl⟩⟩
theorem fM_0_9 : FM 0 9 9 2 := ⟨by decide, fun G row rowL => ⟨_, rfl, rfl⟩⟩
theorem fM_0_10 : FM 0 10 9 3 := ⟨by decide, fun G row rowL => ⟨_, rfl, rfl⟩⟩
theorem fM_0_11 : FM 0 11 9 4 := ⟨by decide, fun G row rowL => ⟨_, rfl, rfl⟩⟩
theorem fM_0_12 : FM 0 12 9 5 := ⟨by decide, fun G row rowL => ⟨_, rfl, rfl⟩⟩
theorem fM_0_13 : FM 0 13 9 6 := ⟨by decide, fun G row rowL => ⟨_, rfl, rfl⟩⟩
theorem fM_0_14 : FM 0 14 9 7 := ⟨by decide, fun G row rowL => ⟨_, rfl, rfl⟩⟩
theorem fM_0_15 : FM 0 15 9 8 := ⟨by decide, fun G row rowL => ⟨_, rfl, rfl⟩⟩
theorem iM_0_16 : IM 0 16 9 := ⟨by decide, fun G row rowL => ⟨_, rfl, rfl, Nat.le_of_ble_eq_true rfl, fun v => rfl⟩⟩
theorem iM_0_17 : IM 0 17 9 := ⟨by decide, fun G row rowL => ⟨_, rfl, rfl, Nat.le_of_ble_eq_true rfl, fun v => rfl⟩⟩
theorem iM_0_18 : IM 0 18 9 := ⟨by decide, fun G row rowL => ⟨_, rfl, rfl, Nat.le_of_ble_eq_true rfl, fun v => rfl⟩⟩
theorem iM_0_19 : IM 0 19 9 := ⟨by decide, fun G row rowL => ⟨_, rfl, rfl, Nat.le_of_ble_eq_true rfl, fun v => rfl⟩⟩
theorem iM_0_20 : IM 0 20 9 := ⟨by decide, fun G row rowL => ⟨_, rfl, rfl, Nat.le_of_ble_eq_true rfl, fun v => rfl⟩⟩
theorem iM_0_21 : IM 0 21 9 := ⟨by decide, fun G row rowL => ⟨_, rfl, rfl, Nat.le_of_ble_eq_true rfl, fun v => rfl⟩⟩
theorem fM_0_22 : FM 0 22 9 9 := ⟨by decide, fun G row rowL => ⟨_, rfl, rfl⟩⟩
theorem fM_0_23 : FM 0 23 9 10 := ⟨by decide, fun G row rowL => ⟨_, rfl, rfl⟩⟩
theorem fM_0_24 : FM 0 24 9 11 := ⟨by decide, fun G row rowL => ⟨_, rfl, rfl⟩⟩
theorem fM_0_25 : FM 0 25 9 12 := ⟨by decide, fun G row rowL => ⟨_, rfl, rfl⟩⟩
theorem fM_0_26 : FM 0 26 9 13 := ⟨by decide, fun G row rowL => ⟨_, rfl, rfl⟩⟩
theorem iM_0_27 : IM 0 27 9 := ⟨by decide, fun G row rowL => ⟨_, rfl, rfl, Nat.le_of_ble_eq_true rfl, fun v => rfl⟩⟩
theorem iM_0_28 : IM 0 28 9 := ⟨by decide, fun G row rowL => ⟨_, rfl, rfl, Nat.le_of_ble_eq_true rfl, fun v => rfl⟩⟩
theorem fM_0_29 : FM 0 29 9 14 := ⟨by decide, fun G row rowL => ⟨_, rfl, rfl⟩⟩
theorem fM_0_30 : FM 0 30 9 15 := ⟨by decide, fun G row rowL => ⟨_, rfl, rfl⟩⟩
theorem fM_0_31 : FM 0 31 9 16 := ⟨by decide, fun G row rowL => ⟨_, rfl, rfl⟩⟩
theorem iM_0_32 : IM 0 32 9 := ⟨by decide, fun G row rowL => ⟨_, rfl, rfl, Nat.le_of_ble_eq_true rfl, fun v => rfl⟩⟩
theorem iM_0_33 : IM 0 33 9 := ⟨by decide, fun G row rowL => ⟨_, rfl, rfl, Nat.le_of_ble_eq_true rfl, fun v => rfl⟩⟩
theorem iM_0_34 : IM 0 34 9 := ⟨by decide, fun G row rowL => ⟨_, rfl, rfl, Nat.le_of_ble_eq_true rfl, fun v => rfl⟩⟩
theorem iM_0_35 : IM 0 35 9 := ⟨by decide, fun G row rowL => ⟨_, rfl, rfl, Nat.le_of_ble_eq_true rfl, fun v => rfl⟩⟩
theorem iM_0_36 : IM 0 36 9 := ⟨by decide, fun G row rowL => ⟨_, rfl, rfl, Nat.le_of_ble_eq_true rfl, fun v => rfl⟩⟩
theorem iM_0_37 : IM 0 37 9 := ⟨by decide, fun G row rowL => ⟨_, rfl, rfl, Nat.le_of_ble_eq_true rfl, fun v => rfl⟩⟩
theorem fM_0_38 : FM 0 38 9 17 := ⟨by decide, fun G row rowL => ⟨_, rfl, rfl⟩⟩
theorem fM_0_39 : FM 0 39 9 18 := ⟨by decide, fun G row rowL => ⟨_, rfl, rfl⟩⟩
theorem iM_0_40 : IM 0 40 9 := ⟨by decide, fun G row rowL => ⟨_, rfl, rfl, Nat.le_of_ble_eq_true rfl, fun v => rfl⟩⟩
theorem fM_0_41 : FM 0 41 9 19 := ⟨by decide, fun G row rowL => ⟨_, rfl, rfl⟩⟩
theorem fM_0_42 : FM 0 42 9 20 := ⟨by decide, fun G row rowL => ⟨_, rfl, rfl⟩⟩
theorem fM_0_43 : FM 0 43 9 21 := ⟨by decide, fun G row rowL => ⟨_, rfl, rfl⟩⟩
theorem fM_0_44 : FM 0 44 9 22 := ⟨by decide, fun G row rowL => ⟨_, rfl, rfl⟩⟩
theorem fM_0_45 : FM 0 45 9 23 := ⟨by decide, fun G row rowL => ⟨_, rfl, rfl⟩⟩
theorem fM_0_46 : FM 0 46 9 24 := ⟨by decide, fun G row rowL => ⟨_, rfl, rfl⟩⟩
theorem fM_0_47 : FM 0 47 9 25 := ⟨by decide, fun G row rowL => ⟨_, rfl, rfl⟩⟩
theorem iM_0_48 : IM 0 48 9 := ⟨by decide, fun G row rowL => ⟨_, rfl, rfl, Nat.le_of_ble_eq_true rfl, fun v => rfl⟩⟩
theorem fM_0_49 : FM 0 49 9 26 := ⟨by decide, fun G row rowL => ⟨_, rfl, rfl⟩⟩
theorem iM_0_50 : IM 0 50 9 := ⟨by decide, fun G row rowL => ⟨_, rfl, rfl, Nat.le_of_ble_eq_true rfl, fun v => rfl⟩⟩
theorem aM_1 : AM 1 2 := ⟨by decide, fun G row rowL => rfl⟩
theorem aM_2 : AM 2 600 := ⟨by decide, fun G row rowL => rfl⟩
theorem aM_3 : AM 3 30 := ⟨by decide, fun G row rowL => rfl⟩
theorem aM_4 : AM 4 10 := ⟨by decide, fun G row rowL => rfl⟩
theorem aM_5 : AM 5 12 := ⟨by decide, fun G row rowL => rfl⟩
theorem aM_6 : AM 6 30 := ⟨by decide, fun G row rowL => rfl⟩
theorem aM_7 : AM 7 10 := ⟨by decide, fun G row rowL => rfl⟩
theorem aM_8 : AM 8 12 := ⟨by decide, fun G row rowL => rfl⟩
theorem aM_9 : AM 9 150 := ⟨by decide, fun G row rowL => rfl⟩
theorem aM_10 : AM 10 150 := ⟨by decide, fun G row rowL => rfl⟩
theorem aM_11 : AM 11 150 := ⟨by decide, fun G row rowL => rfl⟩
theorem aM_12 : AM 12 150 := ⟨by decide, fun G row rowL => rfl⟩
theorem aM_13 : AM 13 150 := ⟨by decide, fun G row rowL => rfl⟩
theorem aM_14 : AM 14 8 := ⟨by decide, fun G row rowL => rfl⟩
theorem aM_15 : AM 15 200 := ⟨by decide, fun G row rowL => rfl⟩
theorem aM_16 : AM 16 200 := ⟨by decide, fun G row rowL => rfl⟩
theorem aM_17 : AM 17 4 := ⟨by decide, fun G row rowL => rfl⟩
theorem aM_18 : AM 18 4 := ⟨by decide, fun G row rowL => rfl⟩
theorem aM_19 : AM 19 34 := ⟨by decide, fun G row rowL => rfl⟩
theorem aM_20 : AM 20 34 := ⟨by decide, fun G row rowL => rfl⟩
theorem aM_21 : AM 21 544 := ⟨by decide, fun G row rowL => rfl⟩
theorem aM_22 : AM 22 1952 := ⟨by decide, fun G row rowL => rfl⟩
theorem aM_23 : AM 23 160 := ⟨by decide, fun G row rowL => rfl⟩
theorem aM_24 : AM 24 3 := ⟨by decide, fun G row rowL => rfl⟩
theorem aM_26 : AM 26 1737 := ⟨by decide, fun G row rowL => rfl⟩
theorem lM_25 : LM 25 14 := ⟨by decide, fun G row rowL => rfl⟩
theorem lM_27 : LM 27 1 := ⟨by decide, fun G row rowL => rfl⟩
def lenX (k : Nat) : Nat := match k with
  | 2 => 600
  | 4 => 10
  | 5 => 20
  | 6 => 10
  | 7 => 6
  | 8 => 6
  | 9 => 4
  | 10 => 4
  | 12 => 10
  | 13 => 20
  | 14 => 10
  | 15 => 6
  | 16 => 6
  | 17 => 4
  | 18 => 4
  | 20 => 150
  | 21 => 150
  | 22 => 8
  | 24 => 150
  | 25 => 150
  | 26 => 8
  | 28 => 4
  | 30 => 4
  | 32 => 150
  | 35 => 34
  | 36 => 2074
  | 38 => 544
  | 39 => 1734
  | 40 => 3
  | _ => 0
def lenM (k : Nat) : Nat := match k with
  | 1 => 2
  | 2 => 600
  | 3 => 30
  | 4 => 10
  | 5 => 12
  | 6 => 30
  | 7 => 10
  | 8 => 12
  | 9 => 150
  | 10 => 150
  | 11 => 150
  | 12 => 150
  | 13 => 150
  | 14 => 8
  | 15 => 200
  | 16 => 200
  | 17 => 4
  | 18 => 4
  | 19 => 34
  | 20 => 34
  | 21 => 544
  | 22 => 1952
  | 23 => 160
  | 24 => 3
  | 26 => 1737
  | _ => 0
