/-! the environment at the law's entry, out of the tables' words and what the Statement gives of the start -/
theorem st_one {args : Array Value} {s : State} {tm : Term} {n : Nat} {bs : List Int32} {A : Nat → Prop} (hn : n < 2 ^ 31) (hex : (Cond.exactly tm "java/lang/String").before args s = true) (hco : (Cond.eq (.field tm "java/lang/String" "coder" "B") (.int 0)).before args s = true)
    (har : (Cond.arrayOf (.field tm "java/lang/String" "value" "[B") .byte).before args s = true) (hle : (Cond.eq (.length (.field tm "java/lang/String" "value" "[B")) (.int (Int32.ofNat n))).before args s = true)
    (hel : ∀ j : Nat, j < n → (Cond.eq (.elem (.field tm "java/lang/String" "value" "[B") (.int (Int32.ofNat j))) (.int (bs.getD j 0))).before args s = true) (hA : ∀ a : Nat, a < s.heap.size → ¬ A a) :
    ∃ a v : Nat, tm.eval args s none [] s = some (.ref a) ∧ (va_O "java/lang/String" a A s s.heap ∧ va_OF "java/lang/String" "coder" "B" (.int 0) a A s s.heap ∧ va_OF "java/lang/String" "value" "[B" (.ref v) a A s s.heap ∧ va_T .byte v n (fun j => .int (bs.getD j 0)) A s s.heap) := by
  have h0 : ∀ i : Nat, i < 1 → i = 0 := fun i hi => by omega
  obtain ⟨k, v, h1, h2⟩ := vk_Sof (N := 1) (tm := fun _ => tm) (len := [n]) (byt := [bs]) (A := A) (fun i hi => by rw [h0 i hi]; exact hn) (fun i hi => hex) (fun i hi => hco) (fun i hi => har) (fun i hi => by rw [h0 i hi]; exact hle) (fun i hi j hj => by rw [h0 i hi] at hj ⊢; exact hel j hj) (fun i j hi hj h => absurd (show i = j by omega) h) hA
  exact ⟨k 0, v 0, h2 0 (by omega), h1.1 0 (by omega)⟩
theorem st_eq {args : Array Value} {s : State} {t u : Term} {a : Nat} (h : (Cond.eq t u).before args s = true) (ht : t.eval args s none [] s = some (.ref a)) : u.eval args s none [] s = some (.ref a) := by
  obtain ⟨y, h1, h2⟩ := Cond.eq_one (args := args) (first := s) (o := none) (s := s) (idx := []) h
  rw [h2, ← h1, ht]
theorem st_arr {args : Array Value} {s : State} {ty : FieldType} (h : (Cond.arrayClass ty).before args s = true) (hr : ∀ cA, s.vm.findClass ("[" ++ ty.toString) = some cA → va_RA s cA ty) : ∃ cA : ClassId, ArrOfT s cA ty ∧ va_RA s cA ty := by
  obtain ⟨cA, kA, comp, h1, h2, h3⟩ := Cond.arrayClass_spec (args := args) (first := s) (o := none) (s := s) (idx := []) h
  exact ⟨cA, fun n z => ⟨fun k h => (by cases h), kA, h2, comp, h3⟩, hr cA h1⟩
set_option maxRecDepth 20000 in
theorem st_s0 {b : Nat} {s : State} {A : Nat → Prop} (hg : ∀ c ∈ flatC (Jvm.Cond.and given_1 narrow_1), c.before #[Value.ref b] s = true) (hA : ∀ a : Nat, a < s.heap.size → ¬ A a) : ∃ a v : Nat, (Term.string "WinnerDraws$Plan" 48).eval #[Value.ref b] s none [] s = some (.ref a) ∧ (va_O "java/lang/String" a A s s.heap ∧ va_OF "java/lang/String" "coder" "B" (.int 0) a A s s.heap ∧ va_OF "java/lang/String" "value" "[B" (.ref v) a A s s.heap ∧ va_T .byte v 5 (fun j => .int (([97, 103, 97, 105, 110] : List Int32).getD j 0)) A s s.heap) := by
  refine st_one (n := 5) (bs := [97, 103, 97, 105, 110]) (Nat.le_of_ble_eq_true rfl) (hg (Cond.exactly (Term.string "WinnerDraws$Plan" 48) "java/lang/String") (by decide +kernel)) (hg (Cond.eq (.field (Term.string "WinnerDraws$Plan" 48) "java/lang/String" "coder" "B") (.int 0)) (by decide +kernel)) (hg (Cond.arrayOf (.field (Term.string "WinnerDraws$Plan" 48) "java/lang/String" "value" "[B") .byte) (by decide +kernel)) (hg (Cond.eq (.length (.field (Term.string "WinnerDraws$Plan" 48) "java/lang/String" "value" "[B")) (.int 5)) (by decide +kernel)) (fun j hj => ?_) hA
  · match j, hj with
    | 0, _ => exact hg (Cond.eq (.elem (.field (Term.string "WinnerDraws$Plan" 48) "java/lang/String" "value" "[B") (.int 0)) (.int 97)) (by decide +kernel)
    | 1, _ => exact hg (Cond.eq (.elem (.field (Term.string "WinnerDraws$Plan" 48) "java/lang/String" "value" "[B") (.int 1)) (.int 103)) (by decide +kernel)
    | 2, _ => exact hg (Cond.eq (.elem (.field (Term.string "WinnerDraws$Plan" 48) "java/lang/String" "value" "[B") (.int 2)) (.int 97)) (by decide +kernel)
    | 3, _ => exact hg (Cond.eq (.elem (.field (Term.string "WinnerDraws$Plan" 48) "java/lang/String" "value" "[B") (.int 3)) (.int 105)) (by decide +kernel)
    | 4, _ => exact hg (Cond.eq (.elem (.field (Term.string "WinnerDraws$Plan" 48) "java/lang/String" "value" "[B") (.int 4)) (.int 110)) (by decide +kernel)
    | j + 5, h => exact absurd h (by omega)
set_option maxRecDepth 20000 in
theorem st_s1 {b : Nat} {s : State} {A : Nat → Prop} (hg : ∀ c ∈ flatC (Jvm.Cond.and given_1 narrow_1), c.before #[Value.ref b] s = true) (hA : ∀ a : Nat, a < s.heap.size → ¬ A a) : ∃ a v : Nat, (Term.string "WinnerDraws$Plan" 71).eval #[Value.ref b] s none [] s = some (.ref a) ∧ (va_O "java/lang/String" a A s s.heap ∧ va_OF "java/lang/String" "coder" "B" (.int 0) a A s s.heap ∧ va_OF "java/lang/String" "value" "[B" (.ref v) a A s s.heap ∧ va_T .byte v 5 (fun j => .int (([99, 111, 117, 110, 116] : List Int32).getD j 0)) A s s.heap) := by
  refine st_one (n := 5) (bs := [99, 111, 117, 110, 116]) (Nat.le_of_ble_eq_true rfl) (hg (Cond.exactly (Term.string "WinnerDraws$Plan" 71) "java/lang/String") (by decide +kernel)) (hg (Cond.eq (.field (Term.string "WinnerDraws$Plan" 71) "java/lang/String" "coder" "B") (.int 0)) (by decide +kernel)) (hg (Cond.arrayOf (.field (Term.string "WinnerDraws$Plan" 71) "java/lang/String" "value" "[B") .byte) (by decide +kernel)) (hg (Cond.eq (.length (.field (Term.string "WinnerDraws$Plan" 71) "java/lang/String" "value" "[B")) (.int 5)) (by decide +kernel)) (fun j hj => ?_) hA
  · match j, hj with
    | 0, _ => exact hg (Cond.eq (.elem (.field (Term.string "WinnerDraws$Plan" 71) "java/lang/String" "value" "[B") (.int 0)) (.int 99)) (by decide +kernel)
    | 1, _ => exact hg (Cond.eq (.elem (.field (Term.string "WinnerDraws$Plan" 71) "java/lang/String" "value" "[B") (.int 1)) (.int 111)) (by decide +kernel)
    | 2, _ => exact hg (Cond.eq (.elem (.field (Term.string "WinnerDraws$Plan" 71) "java/lang/String" "value" "[B") (.int 2)) (.int 117)) (by decide +kernel)
    | 3, _ => exact hg (Cond.eq (.elem (.field (Term.string "WinnerDraws$Plan" 71) "java/lang/String" "value" "[B") (.int 3)) (.int 110)) (by decide +kernel)
    | 4, _ => exact hg (Cond.eq (.elem (.field (Term.string "WinnerDraws$Plan" 71) "java/lang/String" "value" "[B") (.int 4)) (.int 116)) (by decide +kernel)
    | j + 5, h => exact absurd h (by omega)
set_option maxRecDepth 20000 in
theorem st_s2 {b : Nat} {s : State} {A : Nat → Prop} (hg : ∀ c ∈ flatC (Jvm.Cond.and given_1 narrow_1), c.before #[Value.ref b] s = true) (hA : ∀ a : Nat, a < s.heap.size → ¬ A a) : ∃ a v : Nat, (Term.string "WinnerDraws$Plan" 63).eval #[Value.ref b] s none [] s = some (.ref a) ∧ (va_O "java/lang/String" a A s s.heap ∧ va_OF "java/lang/String" "coder" "B" (.int 0) a A s s.heap ∧ va_OF "java/lang/String" "value" "[B" (.ref v) a A s s.heap ∧ va_T .byte v 4 (fun j => .int (([100, 114, 97, 119] : List Int32).getD j 0)) A s s.heap) := by
  refine st_one (n := 4) (bs := [100, 114, 97, 119]) (Nat.le_of_ble_eq_true rfl) (hg (Cond.exactly (Term.string "WinnerDraws$Plan" 63) "java/lang/String") (by decide +kernel)) (hg (Cond.eq (.field (Term.string "WinnerDraws$Plan" 63) "java/lang/String" "coder" "B") (.int 0)) (by decide +kernel)) (hg (Cond.arrayOf (.field (Term.string "WinnerDraws$Plan" 63) "java/lang/String" "value" "[B") .byte) (by decide +kernel)) (hg (Cond.eq (.length (.field (Term.string "WinnerDraws$Plan" 63) "java/lang/String" "value" "[B")) (.int 4)) (by decide +kernel)) (fun j hj => ?_) hA
  · match j, hj with
    | 0, _ => exact hg (Cond.eq (.elem (.field (Term.string "WinnerDraws$Plan" 63) "java/lang/String" "value" "[B") (.int 0)) (.int 100)) (by decide +kernel)
    | 1, _ => exact hg (Cond.eq (.elem (.field (Term.string "WinnerDraws$Plan" 63) "java/lang/String" "value" "[B") (.int 1)) (.int 114)) (by decide +kernel)
    | 2, _ => exact hg (Cond.eq (.elem (.field (Term.string "WinnerDraws$Plan" 63) "java/lang/String" "value" "[B") (.int 2)) (.int 97)) (by decide +kernel)
    | 3, _ => exact hg (Cond.eq (.elem (.field (Term.string "WinnerDraws$Plan" 63) "java/lang/String" "value" "[B") (.int 3)) (.int 119)) (by decide +kernel)
    | j + 4, h => exact absurd h (by omega)
set_option maxRecDepth 20000 in
theorem st_s3 {b : Nat} {s : State} {A : Nat → Prop} (hg : ∀ c ∈ flatC (Jvm.Cond.and given_1 narrow_1), c.before #[Value.ref b] s = true) (hA : ∀ a : Nat, a < s.heap.size → ¬ A a) : ∃ a v : Nat, (Term.string "WinnerDraws$Law" 109).eval #[Value.ref b] s none [] s = some (.ref a) ∧ (va_O "java/lang/String" a A s s.heap ∧ va_OF "java/lang/String" "coder" "B" (.int 0) a A s s.heap ∧ va_OF "java/lang/String" "value" "[B" (.ref v) a A s s.heap ∧ va_T .byte v 4 (fun j => .int (([108, 101, 97, 100] : List Int32).getD j 0)) A s s.heap) := by
  refine st_one (n := 4) (bs := [108, 101, 97, 100]) (Nat.le_of_ble_eq_true rfl) (hg (Cond.exactly (Term.string "WinnerDraws$Law" 109) "java/lang/String") (by decide +kernel)) (hg (Cond.eq (.field (Term.string "WinnerDraws$Law" 109) "java/lang/String" "coder" "B") (.int 0)) (by decide +kernel)) (hg (Cond.arrayOf (.field (Term.string "WinnerDraws$Law" 109) "java/lang/String" "value" "[B") .byte) (by decide +kernel)) (hg (Cond.eq (.length (.field (Term.string "WinnerDraws$Law" 109) "java/lang/String" "value" "[B")) (.int 4)) (by decide +kernel)) (fun j hj => ?_) hA
  · match j, hj with
    | 0, _ => exact hg (Cond.eq (.elem (.field (Term.string "WinnerDraws$Law" 109) "java/lang/String" "value" "[B") (.int 0)) (.int 108)) (by decide +kernel)
    | 1, _ => exact hg (Cond.eq (.elem (.field (Term.string "WinnerDraws$Law" 109) "java/lang/String" "value" "[B") (.int 1)) (.int 101)) (by decide +kernel)
    | 2, _ => exact hg (Cond.eq (.elem (.field (Term.string "WinnerDraws$Law" 109) "java/lang/String" "value" "[B") (.int 2)) (.int 97)) (by decide +kernel)
    | 3, _ => exact hg (Cond.eq (.elem (.field (Term.string "WinnerDraws$Law" 109) "java/lang/String" "value" "[B") (.int 3)) (.int 100)) (by decide +kernel)
    | j + 4, h => exact absurd h (by omega)
set_option maxRecDepth 20000 in
theorem st_s4 {b : Nat} {s : State} {A : Nat → Prop} (hg : ∀ c ∈ flatC (Jvm.Cond.and given_1 narrow_1), c.before #[Value.ref b] s = true) (hA : ∀ a : Nat, a < s.heap.size → ¬ A a) : ∃ a v : Nat, (Term.string "WinnerDraws$Law" 96).eval #[Value.ref b] s none [] s = some (.ref a) ∧ (va_O "java/lang/String" a A s s.heap ∧ va_OF "java/lang/String" "coder" "B" (.int 0) a A s s.heap ∧ va_OF "java/lang/String" "value" "[B" (.ref v) a A s s.heap ∧ va_T .byte v 5 (fun j => .int (([108, 101, 97, 115, 116] : List Int32).getD j 0)) A s s.heap) := by
  refine st_one (n := 5) (bs := [108, 101, 97, 115, 116]) (Nat.le_of_ble_eq_true rfl) (hg (Cond.exactly (Term.string "WinnerDraws$Law" 96) "java/lang/String") (by decide +kernel)) (hg (Cond.eq (.field (Term.string "WinnerDraws$Law" 96) "java/lang/String" "coder" "B") (.int 0)) (by decide +kernel)) (hg (Cond.arrayOf (.field (Term.string "WinnerDraws$Law" 96) "java/lang/String" "value" "[B") .byte) (by decide +kernel)) (hg (Cond.eq (.length (.field (Term.string "WinnerDraws$Law" 96) "java/lang/String" "value" "[B")) (.int 5)) (by decide +kernel)) (fun j hj => ?_) hA
  · match j, hj with
    | 0, _ => exact hg (Cond.eq (.elem (.field (Term.string "WinnerDraws$Law" 96) "java/lang/String" "value" "[B") (.int 0)) (.int 108)) (by decide +kernel)
    | 1, _ => exact hg (Cond.eq (.elem (.field (Term.string "WinnerDraws$Law" 96) "java/lang/String" "value" "[B") (.int 1)) (.int 101)) (by decide +kernel)
    | 2, _ => exact hg (Cond.eq (.elem (.field (Term.string "WinnerDraws$Law" 96) "java/lang/String" "value" "[B") (.int 2)) (.int 97)) (by decide +kernel)
    | 3, _ => exact hg (Cond.eq (.elem (.field (Term.string "WinnerDraws$Law" 96) "java/lang/String" "value" "[B") (.int 3)) (.int 115)) (by decide +kernel)
    | 4, _ => exact hg (Cond.eq (.elem (.field (Term.string "WinnerDraws$Law" 96) "java/lang/String" "value" "[B") (.int 4)) (.int 116)) (by decide +kernel)
    | j + 5, h => exact absurd h (by omega)
set_option maxRecDepth 20000 in
theorem st_s5 {b : Nat} {s : State} {A : Nat → Prop} (hg : ∀ c ∈ flatC (Jvm.Cond.and given_1 narrow_1), c.before #[Value.ref b] s = true) (hA : ∀ a : Nat, a < s.heap.size → ¬ A a) : ∃ a v : Nat, (Term.string "WinnerDraws$Law" 115).eval #[Value.ref b] s none [] s = some (.ref a) ∧ (va_O "java/lang/String" a A s s.heap ∧ va_OF "java/lang/String" "coder" "B" (.int 0) a A s s.heap ∧ va_OF "java/lang/String" "value" "[B" (.ref v) a A s s.heap ∧ va_T .byte v 5 (fun j => .int (([108, 105, 110, 101, 115] : List Int32).getD j 0)) A s s.heap) := by
  refine st_one (n := 5) (bs := [108, 105, 110, 101, 115]) (Nat.le_of_ble_eq_true rfl) (hg (Cond.exactly (Term.string "WinnerDraws$Law" 115) "java/lang/String") (by decide +kernel)) (hg (Cond.eq (.field (Term.string "WinnerDraws$Law" 115) "java/lang/String" "coder" "B") (.int 0)) (by decide +kernel)) (hg (Cond.arrayOf (.field (Term.string "WinnerDraws$Law" 115) "java/lang/String" "value" "[B") .byte) (by decide +kernel)) (hg (Cond.eq (.length (.field (Term.string "WinnerDraws$Law" 115) "java/lang/String" "value" "[B")) (.int 5)) (by decide +kernel)) (fun j hj => ?_) hA
  · match j, hj with
    | 0, _ => exact hg (Cond.eq (.elem (.field (Term.string "WinnerDraws$Law" 115) "java/lang/String" "value" "[B") (.int 0)) (.int 108)) (by decide +kernel)
    | 1, _ => exact hg (Cond.eq (.elem (.field (Term.string "WinnerDraws$Law" 115) "java/lang/String" "value" "[B") (.int 1)) (.int 105)) (by decide +kernel)
    | 2, _ => exact hg (Cond.eq (.elem (.field (Term.string "WinnerDraws$Law" 115) "java/lang/String" "value" "[B") (.int 2)) (.int 110)) (by decide +kernel)
    | 3, _ => exact hg (Cond.eq (.elem (.field (Term.string "WinnerDraws$Law" 115) "java/lang/String" "value" "[B") (.int 3)) (.int 101)) (by decide +kernel)
    | 4, _ => exact hg (Cond.eq (.elem (.field (Term.string "WinnerDraws$Law" 115) "java/lang/String" "value" "[B") (.int 4)) (.int 115)) (by decide +kernel)
    | j + 5, h => exact absurd h (by omega)
set_option maxRecDepth 20000 in
theorem st_s6 {b : Nat} {s : State} {A : Nat → Prop} (hg : ∀ c ∈ flatC (Jvm.Cond.and given_1 narrow_1), c.before #[Value.ref b] s = true) (hA : ∀ a : Nat, a < s.heap.size → ¬ A a) : ∃ a v : Nat, (Term.string "WinnerDraws$Law" 102).eval #[Value.ref b] s none [] s = some (.ref a) ∧ (va_O "java/lang/String" a A s s.heap ∧ va_OF "java/lang/String" "coder" "B" (.int 0) a A s s.heap ∧ va_OF "java/lang/String" "value" "[B" (.ref v) a A s s.heap ∧ va_T .byte v 4 (fun j => .int (([109, 111, 115, 116] : List Int32).getD j 0)) A s s.heap) := by
  refine st_one (n := 4) (bs := [109, 111, 115, 116]) (Nat.le_of_ble_eq_true rfl) (hg (Cond.exactly (Term.string "WinnerDraws$Law" 102) "java/lang/String") (by decide +kernel)) (hg (Cond.eq (.field (Term.string "WinnerDraws$Law" 102) "java/lang/String" "coder" "B") (.int 0)) (by decide +kernel)) (hg (Cond.arrayOf (.field (Term.string "WinnerDraws$Law" 102) "java/lang/String" "value" "[B") .byte) (by decide +kernel)) (hg (Cond.eq (.length (.field (Term.string "WinnerDraws$Law" 102) "java/lang/String" "value" "[B")) (.int 4)) (by decide +kernel)) (fun j hj => ?_) hA
  · match j, hj with
    | 0, _ => exact hg (Cond.eq (.elem (.field (Term.string "WinnerDraws$Law" 102) "java/lang/String" "value" "[B") (.int 0)) (.int 109)) (by decide +kernel)
    | 1, _ => exact hg (Cond.eq (.elem (.field (Term.string "WinnerDraws$Law" 102) "java/lang/String" "value" "[B") (.int 1)) (.int 111)) (by decide +kernel)
    | 2, _ => exact hg (Cond.eq (.elem (.field (Term.string "WinnerDraws$Law" 102) "java/lang/String" "value" "[B") (.int 2)) (.int 115)) (by decide +kernel)
    | 3, _ => exact hg (Cond.eq (.elem (.field (Term.string "WinnerDraws$Law" 102) "java/lang/String" "value" "[B") (.int 3)) (.int 116)) (by decide +kernel)
    | j + 4, h => exact absurd h (by omega)
set_option maxRecDepth 20000 in
theorem st_s7 {b : Nat} {s : State} {A : Nat → Prop} (hg : ∀ c ∈ flatC (Jvm.Cond.and given_1 narrow_1), c.before #[Value.ref b] s = true) (hA : ∀ a : Nat, a < s.heap.size → ¬ A a) : ∃ a v : Nat, (Term.string "WinnerDraws$Plan" 65).eval #[Value.ref b] s none [] s = some (.ref a) ∧ (va_O "java/lang/String" a A s s.heap ∧ va_OF "java/lang/String" "coder" "B" (.int 0) a A s s.heap ∧ va_OF "java/lang/String" "value" "[B" (.ref v) a A s s.heap ∧ va_T .byte v 4 (fun j => .int (([109, 111, 118, 101] : List Int32).getD j 0)) A s s.heap) := by
  refine st_one (n := 4) (bs := [109, 111, 118, 101]) (Nat.le_of_ble_eq_true rfl) (hg (Cond.exactly (Term.string "WinnerDraws$Plan" 65) "java/lang/String") (by decide +kernel)) (hg (Cond.eq (.field (Term.string "WinnerDraws$Plan" 65) "java/lang/String" "coder" "B") (.int 0)) (by decide +kernel)) (hg (Cond.arrayOf (.field (Term.string "WinnerDraws$Plan" 65) "java/lang/String" "value" "[B") .byte) (by decide +kernel)) (hg (Cond.eq (.length (.field (Term.string "WinnerDraws$Plan" 65) "java/lang/String" "value" "[B")) (.int 4)) (by decide +kernel)) (fun j hj => ?_) hA
  · match j, hj with
    | 0, _ => exact hg (Cond.eq (.elem (.field (Term.string "WinnerDraws$Plan" 65) "java/lang/String" "value" "[B") (.int 0)) (.int 109)) (by decide +kernel)
    | 1, _ => exact hg (Cond.eq (.elem (.field (Term.string "WinnerDraws$Plan" 65) "java/lang/String" "value" "[B") (.int 1)) (.int 111)) (by decide +kernel)
    | 2, _ => exact hg (Cond.eq (.elem (.field (Term.string "WinnerDraws$Plan" 65) "java/lang/String" "value" "[B") (.int 2)) (.int 118)) (by decide +kernel)
    | 3, _ => exact hg (Cond.eq (.elem (.field (Term.string "WinnerDraws$Plan" 65) "java/lang/String" "value" "[B") (.int 3)) (.int 101)) (by decide +kernel)
    | j + 4, h => exact absurd h (by omega)
set_option maxRecDepth 20000 in
theorem st_s8 {b : Nat} {s : State} {A : Nat → Prop} (hg : ∀ c ∈ flatC (Jvm.Cond.and given_1 narrow_1), c.before #[Value.ref b] s = true) (hA : ∀ a : Nat, a < s.heap.size → ¬ A a) : ∃ a v : Nat, (Term.string "WinnerDraws$County" 117).eval #[Value.ref b] s none [] s = some (.ref a) ∧ (va_O "java/lang/String" a A s s.heap ∧ va_OF "java/lang/String" "coder" "B" (.int 0) a A s s.heap ∧ va_OF "java/lang/String" "value" "[B" (.ref v) a A s s.heap ∧ va_T .byte v 6 (fun j => .int (([112, 97, 114, 105, 115, 104] : List Int32).getD j 0)) A s s.heap) := by
  refine st_one (n := 6) (bs := [112, 97, 114, 105, 115, 104]) (Nat.le_of_ble_eq_true rfl) (hg (Cond.exactly (Term.string "WinnerDraws$County" 117) "java/lang/String") (by decide +kernel)) (hg (Cond.eq (.field (Term.string "WinnerDraws$County" 117) "java/lang/String" "coder" "B") (.int 0)) (by decide +kernel)) (hg (Cond.arrayOf (.field (Term.string "WinnerDraws$County" 117) "java/lang/String" "value" "[B") .byte) (by decide +kernel)) (hg (Cond.eq (.length (.field (Term.string "WinnerDraws$County" 117) "java/lang/String" "value" "[B")) (.int 6)) (by decide +kernel)) (fun j hj => ?_) hA
  · match j, hj with
    | 0, _ => exact hg (Cond.eq (.elem (.field (Term.string "WinnerDraws$County" 117) "java/lang/String" "value" "[B") (.int 0)) (.int 112)) (by decide +kernel)
    | 1, _ => exact hg (Cond.eq (.elem (.field (Term.string "WinnerDraws$County" 117) "java/lang/String" "value" "[B") (.int 1)) (.int 97)) (by decide +kernel)
    | 2, _ => exact hg (Cond.eq (.elem (.field (Term.string "WinnerDraws$County" 117) "java/lang/String" "value" "[B") (.int 2)) (.int 114)) (by decide +kernel)
    | 3, _ => exact hg (Cond.eq (.elem (.field (Term.string "WinnerDraws$County" 117) "java/lang/String" "value" "[B") (.int 3)) (.int 105)) (by decide +kernel)
    | 4, _ => exact hg (Cond.eq (.elem (.field (Term.string "WinnerDraws$County" 117) "java/lang/String" "value" "[B") (.int 4)) (.int 115)) (by decide +kernel)
    | 5, _ => exact hg (Cond.eq (.elem (.field (Term.string "WinnerDraws$County" 117) "java/lang/String" "value" "[B") (.int 5)) (.int 104)) (by decide +kernel)
    | j + 6, h => exact absurd h (by omega)
set_option maxRecDepth 20000 in
theorem st_s9 {b : Nat} {s : State} {A : Nat → Prop} (hg : ∀ c ∈ flatC (Jvm.Cond.and given_1 narrow_1), c.before #[Value.ref b] s = true) (hA : ∀ a : Nat, a < s.heap.size → ¬ A a) : ∃ a v : Nat, (Term.string "WinnerDraws$Law" 107).eval #[Value.ref b] s none [] s = some (.ref a) ∧ (va_O "java/lang/String" a A s s.heap ∧ va_OF "java/lang/String" "coder" "B" (.int 0) a A s s.heap ∧ va_OF "java/lang/String" "value" "[B" (.ref v) a A s s.heap ∧ va_T .byte v 6 (fun j => .int (([112, 101, 111, 112, 108, 101] : List Int32).getD j 0)) A s s.heap) := by
  refine st_one (n := 6) (bs := [112, 101, 111, 112, 108, 101]) (Nat.le_of_ble_eq_true rfl) (hg (Cond.exactly (Term.string "WinnerDraws$Law" 107) "java/lang/String") (by decide +kernel)) (hg (Cond.eq (.field (Term.string "WinnerDraws$Law" 107) "java/lang/String" "coder" "B") (.int 0)) (by decide +kernel)) (hg (Cond.arrayOf (.field (Term.string "WinnerDraws$Law" 107) "java/lang/String" "value" "[B") .byte) (by decide +kernel)) (hg (Cond.eq (.length (.field (Term.string "WinnerDraws$Law" 107) "java/lang/String" "value" "[B")) (.int 6)) (by decide +kernel)) (fun j hj => ?_) hA
  · match j, hj with
    | 0, _ => exact hg (Cond.eq (.elem (.field (Term.string "WinnerDraws$Law" 107) "java/lang/String" "value" "[B") (.int 0)) (.int 112)) (by decide +kernel)
    | 1, _ => exact hg (Cond.eq (.elem (.field (Term.string "WinnerDraws$Law" 107) "java/lang/String" "value" "[B") (.int 1)) (.int 101)) (by decide +kernel)
    | 2, _ => exact hg (Cond.eq (.elem (.field (Term.string "WinnerDraws$Law" 107) "java/lang/String" "value" "[B") (.int 2)) (.int 111)) (by decide +kernel)
    | 3, _ => exact hg (Cond.eq (.elem (.field (Term.string "WinnerDraws$Law" 107) "java/lang/String" "value" "[B") (.int 3)) (.int 112)) (by decide +kernel)
    | 4, _ => exact hg (Cond.eq (.elem (.field (Term.string "WinnerDraws$Law" 107) "java/lang/String" "value" "[B") (.int 4)) (.int 108)) (by decide +kernel)
    | 5, _ => exact hg (Cond.eq (.elem (.field (Term.string "WinnerDraws$Law" 107) "java/lang/String" "value" "[B") (.int 5)) (.int 101)) (by decide +kernel)
    | j + 6, h => exact absurd h (by omega)
set_option maxRecDepth 20000 in
theorem st_s10 {b : Nat} {s : State} {A : Nat → Prop} (hg : ∀ c ∈ flatC (Jvm.Cond.and given_1 narrow_1), c.before #[Value.ref b] s = true) (hA : ∀ a : Nat, a < s.heap.size → ¬ A a) : ∃ a v : Nat, (Term.string "WinnerDraws$County" 127).eval #[Value.ref b] s none [] s = some (.ref a) ∧ (va_O "java/lang/String" a A s s.heap ∧ va_OF "java/lang/String" "coder" "B" (.int 0) a A s s.heap ∧ va_OF "java/lang/String" "value" "[B" (.ref v) a A s s.heap ∧ va_T .byte v 5 (fun j => .int (([112, 117, 114, 115, 101] : List Int32).getD j 0)) A s s.heap) := by
  refine st_one (n := 5) (bs := [112, 117, 114, 115, 101]) (Nat.le_of_ble_eq_true rfl) (hg (Cond.exactly (Term.string "WinnerDraws$County" 127) "java/lang/String") (by decide +kernel)) (hg (Cond.eq (.field (Term.string "WinnerDraws$County" 127) "java/lang/String" "coder" "B") (.int 0)) (by decide +kernel)) (hg (Cond.arrayOf (.field (Term.string "WinnerDraws$County" 127) "java/lang/String" "value" "[B") .byte) (by decide +kernel)) (hg (Cond.eq (.length (.field (Term.string "WinnerDraws$County" 127) "java/lang/String" "value" "[B")) (.int 5)) (by decide +kernel)) (fun j hj => ?_) hA
  · match j, hj with
    | 0, _ => exact hg (Cond.eq (.elem (.field (Term.string "WinnerDraws$County" 127) "java/lang/String" "value" "[B") (.int 0)) (.int 112)) (by decide +kernel)
    | 1, _ => exact hg (Cond.eq (.elem (.field (Term.string "WinnerDraws$County" 127) "java/lang/String" "value" "[B") (.int 1)) (.int 117)) (by decide +kernel)
    | 2, _ => exact hg (Cond.eq (.elem (.field (Term.string "WinnerDraws$County" 127) "java/lang/String" "value" "[B") (.int 2)) (.int 114)) (by decide +kernel)
    | 3, _ => exact hg (Cond.eq (.elem (.field (Term.string "WinnerDraws$County" 127) "java/lang/String" "value" "[B") (.int 3)) (.int 115)) (by decide +kernel)
    | 4, _ => exact hg (Cond.eq (.elem (.field (Term.string "WinnerDraws$County" 127) "java/lang/String" "value" "[B") (.int 4)) (.int 101)) (by decide +kernel)
    | j + 5, h => exact absurd h (by omega)
set_option maxRecDepth 20000 in
theorem st_s11 {b : Nat} {s : State} {A : Nat → Prop} (hg : ∀ c ∈ flatC (Jvm.Cond.and given_1 narrow_1), c.before #[Value.ref b] s = true) (hA : ∀ a : Nat, a < s.heap.size → ¬ A a) : ∃ a v : Nat, (Term.string "WinnerDraws$Law" 117).eval #[Value.ref b] s none [] s = some (.ref a) ∧ (va_O "java/lang/String" a A s s.heap ∧ va_OF "java/lang/String" "coder" "B" (.int 0) a A s s.heap ∧ va_OF "java/lang/String" "value" "[B" (.ref v) a A s s.heap ∧ va_T .byte v 5 (fun j => .int (([114, 101, 105, 103, 110] : List Int32).getD j 0)) A s s.heap) := by
  refine st_one (n := 5) (bs := [114, 101, 105, 103, 110]) (Nat.le_of_ble_eq_true rfl) (hg (Cond.exactly (Term.string "WinnerDraws$Law" 117) "java/lang/String") (by decide +kernel)) (hg (Cond.eq (.field (Term.string "WinnerDraws$Law" 117) "java/lang/String" "coder" "B") (.int 0)) (by decide +kernel)) (hg (Cond.arrayOf (.field (Term.string "WinnerDraws$Law" 117) "java/lang/String" "value" "[B") .byte) (by decide +kernel)) (hg (Cond.eq (.length (.field (Term.string "WinnerDraws$Law" 117) "java/lang/String" "value" "[B")) (.int 5)) (by decide +kernel)) (fun j hj => ?_) hA
  · match j, hj with
    | 0, _ => exact hg (Cond.eq (.elem (.field (Term.string "WinnerDraws$Law" 117) "java/lang/String" "value" "[B") (.int 0)) (.int 114)) (by decide +kernel)
    | 1, _ => exact hg (Cond.eq (.elem (.field (Term.string "WinnerDraws$Law" 117) "java/lang/String" "value" "[B") (.int 1)) (.int 101)) (by decide +kernel)
    | 2, _ => exact hg (Cond.eq (.elem (.field (Term.string "WinnerDraws$Law" 117) "java/lang/String" "value" "[B") (.int 2)) (.int 105)) (by decide +kernel)
    | 3, _ => exact hg (Cond.eq (.elem (.field (Term.string "WinnerDraws$Law" 117) "java/lang/String" "value" "[B") (.int 3)) (.int 103)) (by decide +kernel)
    | 4, _ => exact hg (Cond.eq (.elem (.field (Term.string "WinnerDraws$Law" 117) "java/lang/String" "value" "[B") (.int 4)) (.int 110)) (by decide +kernel)
    | j + 5, h => exact absurd h (by omega)
set_option maxRecDepth 20000 in
theorem st_s12 {b : Nat} {s : State} {A : Nat → Prop} (hg : ∀ c ∈ flatC (Jvm.Cond.and given_1 narrow_1), c.before #[Value.ref b] s = true) (hA : ∀ a : Nat, a < s.heap.size → ¬ A a) : ∃ a v : Nat, (Term.string "WinnerDraws$County" 123).eval #[Value.ref b] s none [] s = some (.ref a) ∧ (va_O "java/lang/String" a A s s.heap ∧ va_OF "java/lang/String" "coder" "B" (.int 0) a A s s.heap ∧ va_OF "java/lang/String" "value" "[B" (.ref v) a A s s.heap ∧ va_T .byte v 4 (fun j => .int (([114, 111, 97, 100] : List Int32).getD j 0)) A s s.heap) := by
  refine st_one (n := 4) (bs := [114, 111, 97, 100]) (Nat.le_of_ble_eq_true rfl) (hg (Cond.exactly (Term.string "WinnerDraws$County" 123) "java/lang/String") (by decide +kernel)) (hg (Cond.eq (.field (Term.string "WinnerDraws$County" 123) "java/lang/String" "coder" "B") (.int 0)) (by decide +kernel)) (hg (Cond.arrayOf (.field (Term.string "WinnerDraws$County" 123) "java/lang/String" "value" "[B") .byte) (by decide +kernel)) (hg (Cond.eq (.length (.field (Term.string "WinnerDraws$County" 123) "java/lang/String" "value" "[B")) (.int 4)) (by decide +kernel)) (fun j hj => ?_) hA
  · match j, hj with
    | 0, _ => exact hg (Cond.eq (.elem (.field (Term.string "WinnerDraws$County" 123) "java/lang/String" "value" "[B") (.int 0)) (.int 114)) (by decide +kernel)
    | 1, _ => exact hg (Cond.eq (.elem (.field (Term.string "WinnerDraws$County" 123) "java/lang/String" "value" "[B") (.int 1)) (.int 111)) (by decide +kernel)
    | 2, _ => exact hg (Cond.eq (.elem (.field (Term.string "WinnerDraws$County" 123) "java/lang/String" "value" "[B") (.int 2)) (.int 97)) (by decide +kernel)
    | 3, _ => exact hg (Cond.eq (.elem (.field (Term.string "WinnerDraws$County" 123) "java/lang/String" "value" "[B") (.int 3)) (.int 100)) (by decide +kernel)
    | j + 4, h => exact absurd h (by omega)
set_option maxRecDepth 20000 in
theorem st_s13 {b : Nat} {s : State} {A : Nat → Prop} (hg : ∀ c ∈ flatC (Jvm.Cond.and given_1 narrow_1), c.before #[Value.ref b] s = true) (hA : ∀ a : Nat, a < s.heap.size → ¬ A a) : ∃ a v : Nat, (Term.string "WinnerDraws$Law" 113).eval #[Value.ref b] s none [] s = some (.ref a) ∧ (va_O "java/lang/String" a A s s.heap ∧ va_OF "java/lang/String" "coder" "B" (.int 0) a A s s.heap ∧ va_OF "java/lang/String" "value" "[B" (.ref v) a A s s.heap ∧ va_T .byte v 4 (fun j => .int (([114, 111, 111, 109] : List Int32).getD j 0)) A s s.heap) := by
  refine st_one (n := 4) (bs := [114, 111, 111, 109]) (Nat.le_of_ble_eq_true rfl) (hg (Cond.exactly (Term.string "WinnerDraws$Law" 113) "java/lang/String") (by decide +kernel)) (hg (Cond.eq (.field (Term.string "WinnerDraws$Law" 113) "java/lang/String" "coder" "B") (.int 0)) (by decide +kernel)) (hg (Cond.arrayOf (.field (Term.string "WinnerDraws$Law" 113) "java/lang/String" "value" "[B") .byte) (by decide +kernel)) (hg (Cond.eq (.length (.field (Term.string "WinnerDraws$Law" 113) "java/lang/String" "value" "[B")) (.int 4)) (by decide +kernel)) (fun j hj => ?_) hA
  · match j, hj with
    | 0, _ => exact hg (Cond.eq (.elem (.field (Term.string "WinnerDraws$Law" 113) "java/lang/String" "value" "[B") (.int 0)) (.int 114)) (by decide +kernel)
    | 1, _ => exact hg (Cond.eq (.elem (.field (Term.string "WinnerDraws$Law" 113) "java/lang/String" "value" "[B") (.int 1)) (.int 111)) (by decide +kernel)
    | 2, _ => exact hg (Cond.eq (.elem (.field (Term.string "WinnerDraws$Law" 113) "java/lang/String" "value" "[B") (.int 2)) (.int 111)) (by decide +kernel)
    | 3, _ => exact hg (Cond.eq (.elem (.field (Term.string "WinnerDraws$Law" 113) "java/lang/String" "value" "[B") (.int 3)) (.int 109)) (by decide +kernel)
    | j + 4, h => exact absurd h (by omega)
set_option maxRecDepth 20000 in
theorem st_s14 {b : Nat} {s : State} {A : Nat → Prop} (hg : ∀ c ∈ flatC (Jvm.Cond.and given_1 narrow_1), c.before #[Value.ref b] s = true) (hA : ∀ a : Nat, a < s.heap.size → ¬ A a) : ∃ a v : Nat, (Term.string "WinnerDraws$Law" 111).eval #[Value.ref b] s none [] s = some (.ref a) ∧ (va_O "java/lang/String" a A s s.heap ∧ va_OF "java/lang/String" "coder" "B" (.int 0) a A s s.heap ∧ va_OF "java/lang/String" "value" "[B" (.ref v) a A s s.heap ∧ va_T .byte v 4 (fun j => .int (([115, 105, 122, 101] : List Int32).getD j 0)) A s s.heap) := by
  refine st_one (n := 4) (bs := [115, 105, 122, 101]) (Nat.le_of_ble_eq_true rfl) (hg (Cond.exactly (Term.string "WinnerDraws$Law" 111) "java/lang/String") (by decide +kernel)) (hg (Cond.eq (.field (Term.string "WinnerDraws$Law" 111) "java/lang/String" "coder" "B") (.int 0)) (by decide +kernel)) (hg (Cond.arrayOf (.field (Term.string "WinnerDraws$Law" 111) "java/lang/String" "value" "[B") .byte) (by decide +kernel)) (hg (Cond.eq (.length (.field (Term.string "WinnerDraws$Law" 111) "java/lang/String" "value" "[B")) (.int 4)) (by decide +kernel)) (fun j hj => ?_) hA
  · match j, hj with
    | 0, _ => exact hg (Cond.eq (.elem (.field (Term.string "WinnerDraws$Law" 111) "java/lang/String" "value" "[B") (.int 0)) (.int 115)) (by decide +kernel)
    | 1, _ => exact hg (Cond.eq (.elem (.field (Term.string "WinnerDraws$Law" 111) "java/lang/String" "value" "[B") (.int 1)) (.int 105)) (by decide +kernel)
    | 2, _ => exact hg (Cond.eq (.elem (.field (Term.string "WinnerDraws$Law" 111) "java/lang/String" "value" "[B") (.int 2)) (.int 122)) (by decide +kernel)
    | 3, _ => exact hg (Cond.eq (.elem (.field (Term.string "WinnerDraws$Law" 111) "java/lang/String" "value" "[B") (.int 3)) (.int 101)) (by decide +kernel)
    | j + 4, h => exact absurd h (by omega)
set_option maxRecDepth 20000 in
theorem st_s15 {b : Nat} {s : State} {A : Nat → Prop} (hg : ∀ c ∈ flatC (Jvm.Cond.and given_1 narrow_1), c.before #[Value.ref b] s = true) (hA : ∀ a : Nat, a < s.heap.size → ¬ A a) : ∃ a v : Nat, (Term.string "WinnerDraws$County" 125).eval #[Value.ref b] s none [] s = some (.ref a) ∧ (va_O "java/lang/String" a A s s.heap ∧ va_OF "java/lang/String" "coder" "B" (.int 0) a A s s.heap ∧ va_OF "java/lang/String" "value" "[B" (.ref v) a A s s.heap ∧ va_T .byte v 4 (fun j => .int (([116, 105, 100, 101] : List Int32).getD j 0)) A s s.heap) := by
  refine st_one (n := 4) (bs := [116, 105, 100, 101]) (Nat.le_of_ble_eq_true rfl) (hg (Cond.exactly (Term.string "WinnerDraws$County" 125) "java/lang/String") (by decide +kernel)) (hg (Cond.eq (.field (Term.string "WinnerDraws$County" 125) "java/lang/String" "coder" "B") (.int 0)) (by decide +kernel)) (hg (Cond.arrayOf (.field (Term.string "WinnerDraws$County" 125) "java/lang/String" "value" "[B") .byte) (by decide +kernel)) (hg (Cond.eq (.length (.field (Term.string "WinnerDraws$County" 125) "java/lang/String" "value" "[B")) (.int 4)) (by decide +kernel)) (fun j hj => ?_) hA
  · match j, hj with
    | 0, _ => exact hg (Cond.eq (.elem (.field (Term.string "WinnerDraws$County" 125) "java/lang/String" "value" "[B") (.int 0)) (.int 116)) (by decide +kernel)
    | 1, _ => exact hg (Cond.eq (.elem (.field (Term.string "WinnerDraws$County" 125) "java/lang/String" "value" "[B") (.int 1)) (.int 105)) (by decide +kernel)
    | 2, _ => exact hg (Cond.eq (.elem (.field (Term.string "WinnerDraws$County" 125) "java/lang/String" "value" "[B") (.int 2)) (.int 100)) (by decide +kernel)
    | 3, _ => exact hg (Cond.eq (.elem (.field (Term.string "WinnerDraws$County" 125) "java/lang/String" "value" "[B") (.int 3)) (.int 101)) (by decide +kernel)
    | j + 4, h => exact absurd h (by omega)
set_option maxRecDepth 20000 in
theorem st_s16 {b : Nat} {s : State} {A : Nat → Prop} (hg : ∀ c ∈ flatC (Jvm.Cond.and given_1 narrow_1), c.before #[Value.ref b] s = true) (hA : ∀ a : Nat, a < s.heap.size → ¬ A a) : ∃ a v : Nat, (Term.string "WinnerDraws$Plan" 57).eval #[Value.ref b] s none [] s = some (.ref a) ∧ (va_O "java/lang/String" a A s s.heap ∧ va_OF "java/lang/String" "coder" "B" (.int 0) a A s s.heap ∧ va_OF "java/lang/String" "value" "[B" (.ref v) a A s s.heap ∧ va_T .byte v 4 (fun j => .int (([118, 111, 116, 101] : List Int32).getD j 0)) A s s.heap) := by
  refine st_one (n := 4) (bs := [118, 111, 116, 101]) (Nat.le_of_ble_eq_true rfl) (hg (Cond.exactly (Term.string "WinnerDraws$Plan" 57) "java/lang/String") (by decide +kernel)) (hg (Cond.eq (.field (Term.string "WinnerDraws$Plan" 57) "java/lang/String" "coder" "B") (.int 0)) (by decide +kernel)) (hg (Cond.arrayOf (.field (Term.string "WinnerDraws$Plan" 57) "java/lang/String" "value" "[B") .byte) (by decide +kernel)) (hg (Cond.eq (.length (.field (Term.string "WinnerDraws$Plan" 57) "java/lang/String" "value" "[B")) (.int 4)) (by decide +kernel)) (fun j hj => ?_) hA
  · match j, hj with
    | 0, _ => exact hg (Cond.eq (.elem (.field (Term.string "WinnerDraws$Plan" 57) "java/lang/String" "value" "[B") (.int 0)) (.int 118)) (by decide +kernel)
    | 1, _ => exact hg (Cond.eq (.elem (.field (Term.string "WinnerDraws$Plan" 57) "java/lang/String" "value" "[B") (.int 1)) (.int 111)) (by decide +kernel)
    | 2, _ => exact hg (Cond.eq (.elem (.field (Term.string "WinnerDraws$Plan" 57) "java/lang/String" "value" "[B") (.int 2)) (.int 116)) (by decide +kernel)
    | 3, _ => exact hg (Cond.eq (.elem (.field (Term.string "WinnerDraws$Plan" 57) "java/lang/String" "value" "[B") (.int 3)) (.int 101)) (by decide +kernel)
    | j + 4, h => exact absurd h (by omega)
set_option maxRecDepth 20000 in
theorem st_s17 {b : Nat} {s : State} {A : Nat → Prop} (hg : ∀ c ∈ flatC (Jvm.Cond.and given_1 narrow_1), c.before #[Value.ref b] s = true) (hA : ∀ a : Nat, a < s.heap.size → ¬ A a) : ∃ a v : Nat, (Term.string "WinnerDraws$Law" 119).eval #[Value.ref b] s none [] s = some (.ref a) ∧ (va_O "java/lang/String" a A s s.heap ∧ va_OF "java/lang/String" "coder" "B" (.int 0) a A s s.heap ∧ va_OF "java/lang/String" "value" "[B" (.ref v) a A s s.heap ∧ va_T .byte v 4 (fun j => .int (([121, 101, 97, 114] : List Int32).getD j 0)) A s s.heap) := by
  refine st_one (n := 4) (bs := [121, 101, 97, 114]) (Nat.le_of_ble_eq_true rfl) (hg (Cond.exactly (Term.string "WinnerDraws$Law" 119) "java/lang/String") (by decide +kernel)) (hg (Cond.eq (.field (Term.string "WinnerDraws$Law" 119) "java/lang/String" "coder" "B") (.int 0)) (by decide +kernel)) (hg (Cond.arrayOf (.field (Term.string "WinnerDraws$Law" 119) "java/lang/String" "value" "[B") .byte) (by decide +kernel)) (hg (Cond.eq (.length (.field (Term.string "WinnerDraws$Law" 119) "java/lang/String" "value" "[B")) (.int 4)) (by decide +kernel)) (fun j hj => ?_) hA
  · match j, hj with
    | 0, _ => exact hg (Cond.eq (.elem (.field (Term.string "WinnerDraws$Law" 119) "java/lang/String" "value" "[B") (.int 0)) (.int 121)) (by decide +kernel)
    | 1, _ => exact hg (Cond.eq (.elem (.field (Term.string "WinnerDraws$Law" 119) "java/lang/String" "value" "[B") (.int 1)) (.int 101)) (by decide +kernel)
    | 2, _ => exact hg (Cond.eq (.elem (.field (Term.string "WinnerDraws$Law" 119) "java/lang/String" "value" "[B") (.int 2)) (.int 97)) (by decide +kernel)
    | 3, _ => exact hg (Cond.eq (.elem (.field (Term.string "WinnerDraws$Law" 119) "java/lang/String" "value" "[B") (.int 3)) (.int 114)) (by decide +kernel)
    | j + 4, h => exact absurd h (by omega)
set_option maxRecDepth 20000 in
theorem st_str {b : Nat} {s : State} (hts : ∀ w ∈ lw_tbl, w.before #[Value.ref b] s = true) (hg : ∀ c ∈ flatC (Jvm.Cond.and given_1 narrow_1), c.before #[Value.ref b] s = true) : ∃ gk gv : Nat → Nat, ∀ (D : va_G) (c : ClassId × ClassId) (ad : Nat → Nat) (n : Nat), StrE (D, c, ad, (n, s.heap.size), (gk, gv)) s := by
  have hA : ∀ a : Nat, a < s.heap.size → ¬ (fun q : Nat => s.heap.size ≤ q) a := fun a h => Nat.not_le.mpr h
  obtain ⟨a0, v0, e0, f0⟩ := st_s0 hg hA
  obtain ⟨a1, v1, e1, f1⟩ := st_s1 hg hA
  obtain ⟨a2, v2, e2, f2⟩ := st_s2 hg hA
  obtain ⟨a3, v3, e3, f3⟩ := st_s3 hg hA
  obtain ⟨a4, v4, e4, f4⟩ := st_s4 hg hA
  obtain ⟨a5, v5, e5, f5⟩ := st_s5 hg hA
  obtain ⟨a6, v6, e6, f6⟩ := st_s6 hg hA
  obtain ⟨a7, v7, e7, f7⟩ := st_s7 hg hA
  obtain ⟨a8, v8, e8, f8⟩ := st_s8 hg hA
  obtain ⟨a9, v9, e9, f9⟩ := st_s9 hg hA
  obtain ⟨a10, v10, e10, f10⟩ := st_s10 hg hA
  obtain ⟨a11, v11, e11, f11⟩ := st_s11 hg hA
  obtain ⟨a12, v12, e12, f12⟩ := st_s12 hg hA
  obtain ⟨a13, v13, e13, f13⟩ := st_s13 hg hA
  obtain ⟨a14, v14, e14, f14⟩ := st_s14 hg hA
  obtain ⟨a15, v15, e15, f15⟩ := st_s15 hg hA
  obtain ⟨a16, v16, e16, f16⟩ := st_s16 hg hA
  obtain ⟨a17, v17, e17, f17⟩ := st_s17 hg hA
  refine ⟨fun i => [a0, a1, a2, a3, a4, a5, a6, a7, a8, a9, a10, a11, a12, a13, a14, a15, a16, a17].getD i 0, fun i => [v0, v1, v2, v3, v4, v5, v6, v7, v8, v9, v10, v11, v12, v13, v14, v15, v16, v17].getD i 0, fun D c ad n => ⟨fun i hi => ?_, ?_, ?_, ?_, ?_, ?_, ?_⟩⟩
  · match i, hi with
    | 0, _ => exact f0
    | 1, _ => exact f1
    | 2, _ => exact f2
    | 3, _ => exact f3
    | 4, _ => exact f4
    | 5, _ => exact f5
    | 6, _ => exact f6
    | 7, _ => exact f7
    | 8, _ => exact f8
    | 9, _ => exact f9
    | 10, _ => exact f10
    | 11, _ => exact f11
    | 12, _ => exact f12
    | 13, _ => exact f13
    | 14, _ => exact f14
    | 15, _ => exact f15
    | 16, _ => exact f16
    | 17, _ => exact f17
    | i + 18, h => exact absurd h (by show ¬ i + 18 < 18; omega)
  · unfold SR
    refine List.forall_mem_cons.mpr ⟨vk_R.of (hts _ (in_t3 (List.mem_of_getElem? (i := 70) rfl))) e8, ?_⟩
    refine List.forall_mem_cons.mpr ⟨vk_R.of (hts _ (in_t3 (List.mem_of_getElem? (i := 123) rfl))) e12, ?_⟩
    refine List.forall_mem_cons.mpr ⟨vk_R.of (hts _ (in_t3 (List.mem_of_getElem? (i := 124) rfl))) e15, ?_⟩
    refine List.forall_mem_cons.mpr ⟨vk_R.of (hts _ (in_t3 (List.mem_of_getElem? (i := 125) rfl))) e10, ?_⟩
    refine List.forall_mem_cons.mpr ⟨vk_R.of (hts _ (in_t3 (List.mem_of_getElem? (i := 224) rfl))) e4, ?_⟩
    refine List.forall_mem_cons.mpr ⟨vk_R.of (hts _ (in_t3 (List.mem_of_getElem? (i := 225) rfl))) e6, ?_⟩
    refine List.forall_mem_cons.mpr ⟨vk_R.of (hts _ (in_t3 (List.mem_of_getElem? (i := 215) rfl))) e9, ?_⟩
    refine List.forall_mem_cons.mpr ⟨vk_R.of (hts _ (in_t3 (List.mem_of_getElem? (i := 217) rfl))) e3, ?_⟩
    refine List.forall_mem_cons.mpr ⟨vk_R.of (hts _ (in_t3 (List.mem_of_getElem? (i := 218) rfl))) e14, ?_⟩
    refine List.forall_mem_cons.mpr ⟨vk_R.of (hts _ (in_t3 (List.mem_of_getElem? (i := 219) rfl))) e13, ?_⟩
    refine List.forall_mem_cons.mpr ⟨vk_R.of (hts _ (in_t3 (List.mem_of_getElem? (i := 220) rfl))) e5, ?_⟩
    refine List.forall_mem_cons.mpr ⟨vk_R.of (hts _ (in_t3 (List.mem_of_getElem? (i := 221) rfl))) e11, ?_⟩
    refine List.forall_mem_cons.mpr ⟨vk_R.of (hts _ (in_t3 (List.mem_of_getElem? (i := 222) rfl))) e17, ?_⟩
    refine List.forall_mem_cons.mpr ⟨vk_R.of (hts _ (in_t3 (List.mem_of_getElem? (i := 223) rfl))) (st_eq (hg (Cond.eq (Term.string "WinnerDraws$County" 117) (Term.string "WinnerDraws$Law" 121)) (by decide +kernel)) e8), ?_⟩
    refine List.forall_mem_cons.mpr ⟨vk_R.of (hts _ (in_t4 (List.mem_of_getElem? (i := 12) rfl))) e0, ?_⟩
    refine List.forall_mem_cons.mpr ⟨vk_R.of (hts _ (in_t4 (List.mem_of_getElem? (i := 27) rfl))) e16, ?_⟩
    refine List.forall_mem_cons.mpr ⟨vk_R.of (hts _ (in_t4 (List.mem_of_getElem? (i := 28) rfl))) e2, ?_⟩
    refine List.forall_mem_cons.mpr ⟨vk_R.of (hts _ (in_t4 (List.mem_of_getElem? (i := 29) rfl))) e7, ?_⟩
    refine List.forall_mem_cons.mpr ⟨vk_R.of (hts _ (in_t4 (List.mem_of_getElem? (i := 30) rfl))) e1, ?_⟩
    refine List.forall_mem_cons.mpr ⟨vk_R.of (hts _ (in_t7 (List.mem_of_getElem? (i := 45) rfl))) (st_eq (hg (Cond.eq (Term.string "WinnerDraws$County" 117) (Term.string "WinnerDrawsModel" 185)) (by decide +kernel)) e8), ?_⟩
    refine List.forall_mem_cons.mpr ⟨vk_R.of (hts _ (in_t7 (List.mem_of_getElem? (i := 51) rfl))) (st_eq (hg (Cond.eq (Term.string "WinnerDraws$County" 123) (Term.string "WinnerDrawsModel" 190)) (by decide +kernel)) e12), ?_⟩
    refine List.forall_mem_cons.mpr ⟨vk_R.of (hts _ (in_t7 (List.mem_of_getElem? (i := 52) rfl))) (st_eq (hg (Cond.eq (Term.string "WinnerDraws$County" 125) (Term.string "WinnerDrawsModel" 191)) (by decide +kernel)) e15), ?_⟩
    refine List.forall_mem_cons.mpr ⟨vk_R.of (hts _ (in_t7 (List.mem_of_getElem? (i := 53) rfl))) (st_eq (hg (Cond.eq (Term.string "WinnerDraws$County" 127) (Term.string "WinnerDrawsModel" 192)) (by decide +kernel)) e10), ?_⟩
    refine List.forall_mem_cons.mpr ⟨vk_R.of (hts _ (in_t7 (List.mem_of_getElem? (i := 123) rfl))) (st_eq (hg (Cond.eq (Term.string "WinnerDraws$Law" 107) (Term.string "WinnerDrawsModel" 251)) (by decide +kernel)) e9), ?_⟩
    refine List.forall_mem_cons.mpr ⟨vk_R.of (hts _ (in_t7 (List.mem_of_getElem? (i := 124) rfl))) (st_eq (hg (Cond.eq (Term.string "WinnerDraws$Law" 109) (Term.string "WinnerDrawsModel" 253)) (by decide +kernel)) e3), ?_⟩
    refine List.forall_mem_cons.mpr ⟨vk_R.of (hts _ (in_t7 (List.mem_of_getElem? (i := 125) rfl))) (st_eq (hg (Cond.eq (Term.string "WinnerDraws$Law" 111) (Term.string "WinnerDrawsModel" 255)) (by decide +kernel)) e14), ?_⟩
    refine List.forall_mem_cons.mpr ⟨vk_R.of (hts _ (in_t7 (List.mem_of_getElem? (i := 126) rfl))) (st_eq (hg (Cond.eq (Term.string "WinnerDraws$Law" 113) (Term.string "WinnerDrawsModel" 256)) (by decide +kernel)) e13), ?_⟩
    refine List.forall_mem_cons.mpr ⟨vk_R.of (hts _ (in_t7 (List.mem_of_getElem? (i := 127) rfl))) (st_eq (hg (Cond.eq (Term.string "WinnerDraws$Law" 115) (Term.string "WinnerDrawsModel" 258)) (by decide +kernel)) e5), ?_⟩
    refine List.forall_mem_cons.mpr ⟨vk_R.of (hts _ (in_t7 (List.mem_of_getElem? (i := 128) rfl))) (st_eq (hg (Cond.eq (Term.string "WinnerDraws$Law" 117) (Term.string "WinnerDrawsModel" 260)) (by decide +kernel)) e11), ?_⟩
    refine List.forall_mem_cons.mpr ⟨vk_R.of (hts _ (in_t7 (List.mem_of_getElem? (i := 129) rfl))) (st_eq (hg (Cond.eq (Term.string "WinnerDraws$Law" 119) (Term.string "WinnerDrawsModel" 262)) (by decide +kernel)) e17), ?_⟩
    refine List.forall_mem_cons.mpr ⟨vk_R.of (hts _ (in_t7 (List.mem_of_getElem? (i := 113) rfl))) (st_eq (hg (Cond.eq (Term.string "WinnerDraws$Law" 96) (Term.string "WinnerDrawsModel" 264)) (by decide +kernel)) e4), ?_⟩
    refine List.forall_mem_cons.mpr ⟨vk_R.of (hts _ (in_t7 (List.mem_of_getElem? (i := 118) rfl))) (st_eq (hg (Cond.eq (Term.string "WinnerDraws$Law" 102) (Term.string "WinnerDrawsModel" 269)) (by decide +kernel)) e6), ?_⟩
    refine List.forall_mem_cons.mpr ⟨vk_R.of (hts _ (in_t7 (List.mem_of_getElem? (i := 141) rfl))) (st_eq (hg (Cond.eq (Term.string "WinnerDraws$Plan" 57) (Term.string "WinnerDrawsModel" 284)) (by decide +kernel)) e16), ?_⟩
    refine List.forall_mem_cons.mpr ⟨vk_R.of (hts _ (in_t7 (List.mem_of_getElem? (i := 142) rfl))) (st_eq (hg (Cond.eq (Term.string "WinnerDraws$Plan" 63) (Term.string "WinnerDrawsModel" 286)) (by decide +kernel)) e2), ?_⟩
    refine List.forall_mem_cons.mpr ⟨vk_R.of (hts _ (in_t7 (List.mem_of_getElem? (i := 143) rfl))) (st_eq (hg (Cond.eq (Term.string "WinnerDraws$Plan" 65) (Term.string "WinnerDrawsModel" 288)) (by decide +kernel)) e7), ?_⟩
    refine List.forall_mem_cons.mpr ⟨vk_R.of (hts _ (in_t7 (List.mem_of_getElem? (i := 144) rfl))) (st_eq (hg (Cond.eq (Term.string "WinnerDraws$Plan" 71) (Term.string "WinnerDrawsModel" 290)) (by decide +kernel)) e1), ?_⟩
    refine List.forall_mem_cons.mpr ⟨vk_R.of (hts _ (in_t7 (List.mem_of_getElem? (i := 145) rfl))) (st_eq (hg (Cond.eq (Term.string "WinnerDraws$Plan" 48) (Term.string "WinnerDrawsModel" 292)) (by decide +kernel)) e0), ?_⟩
    exact List.forall_mem_nil _
  · exact va_Zof (hts _ (in_t3 (List.mem_of_getElem? (i := 84) rfl))) (hts _ (in_t1 (List.mem_of_getElem? (i := 15) rfl))) (va_eqt (hg (Cond.eq (.static "java/lang/String" "COMPACT_STRINGS" "Z") (.int 1)) (by decide +kernel))) hA
  · exact va_Zqof (hts _ (in_t3 (List.mem_of_getElem? (i := 100) rfl))) (hts _ (in_t1 (List.mem_of_getElem? (i := 17) rfl))) (hg (Cond.isRef (.static "jdk/internal/util/Preconditions" "SIOOBE_FORMATTER" "Ljava/util/function/BiFunction;")) (by decide +kernel)) hA
  · exact vx_Zqof (hts _ (in_t3 (List.mem_of_getElem? (i := 3) rfl))) (hts _ (in_t1 (List.mem_of_getElem? (i := 11) rfl))) (hg (Cond.isRef (.static "java/lang/Throwable" "UNASSIGNED_STACK" "[Ljava/lang/StackTraceElement;")) (by decide +kernel)) hA
  · exact vx_Zqof (hts _ (in_t3 (List.mem_of_getElem? (i := 5) rfl))) (hts _ (in_t1 (List.mem_of_getElem? (i := 11) rfl))) (hg (Cond.isRef (.static "java/lang/Throwable" "SUPPRESSED_SENTINEL" "Ljava/util/List;")) (by decide +kernel)) hA
  · exact va_Nc.of (hg (Cond.not (.castable "java/lang/IllegalArgumentException" "java/util/NoSuchElementException")) (by decide +kernel))
theorem st_K {b : Nat} {s : State} (hts : ∀ w ∈ lw_tbl, w.before #[Value.ref b] s = true) : ∃ (D : va_G) (cI cJ : ClassId), va_K D vwCl [(cI, .int), (cJ, .long)] s := by
  obtain ⟨c0, i0, k0⟩ := u_known (C := RX0) (T := TX0) (N := 5) (n := 5) hts inX0 (hts (Cond.instantiable RX0 5) (TB_tbl (tb2 41 rfl rfl)))
  obtain ⟨c1, i1, k1⟩ := u_known (C := RX1) (T := TX1) (N := 3) (n := 3) hts inX1 (hts (Cond.instantiable RX1 3) (TB_tbl (tb1 161 rfl rfl)))
  obtain ⟨c2, i2, k2⟩ := u_known (C := RX2) (T := TX2) (N := 5) (n := 5) hts inX2 (hts (Cond.instantiable RX2 5) (TB_tbl (tb1 206 rfl rfl)))
  obtain ⟨c3, i3, k3⟩ := u_known (C := RX3) (T := TX3) (N := 14) (n := 14) hts inX3 (hts (Cond.instantiable RX3 14) (TB_tbl (tb1 76 rfl rfl)))
  obtain ⟨c4, i4, k4⟩ := u_known (C := RX4) (T := TX4) (N := 4) (n := 4) hts inX4 (hts (Cond.instantiable RX4 4) (TB_tbl (tb1 142 rfl rfl)))
  obtain ⟨c5, i5, k5⟩ := u_known (C := RX5) (T := TX5) (N := 12) (n := 12) hts inX5 (hts (Cond.instantiable RX5 12) (TB_tbl (tb1 231 rfl rfl)))
  obtain ⟨c6, i6, k6⟩ := u_known (C := RX6) (T := TX6) (N := 6) (n := 6) hts inX6 (hts (Cond.instantiable RX6 6) (TB_tbl (tb1 178 rfl rfl)))
  obtain ⟨c7, i7, k7⟩ := u_known (C := RX7) (T := TX7) (N := 8) (n := 8) hts inX7 (hts (Cond.instantiable RX7 8) (TB_tbl (tb1 31 rfl rfl)))
  obtain ⟨c8, i8, k8⟩ := u_known (C := RX8) (T := TX8) (N := 14) (n := 14) hts inX8 (hts (Cond.instantiable RX8 14) (TB_tbl (tb1 23 rfl rfl)))
  obtain ⟨c9, i9, k9⟩ := u_known (C := RX9) (T := TX9) (N := 51) (n := 51) hts inX9 (hts (Cond.instantiable RX9 51) (TB_tbl (tb6 71 rfl rfl)))
  obtain ⟨cI, hI1, hI2⟩ := st_arr (ty := .int) (hts (Cond.arrayClass .int) (TB_tbl (tb1 74 rfl rfl))) (fun cA h => h)
  obtain ⟨cJ, hJ1, hJ2⟩ := st_arr (ty := .long) (hts (Cond.arrayClass .long) (TB_tbl (tb7 2 rfl rfl))) (fun cA h => h)
  refine ⟨(fun k => [c0, c1, c2, c3, c4, c5, c6, c7, c8, c9].getD k c0, fun k => [i0, i1, i2, i3, i4, i5, i6, i7, i8, i9].getD k i0), cI, cJ, fun c q hq => ?_, fun k q hk => ?_⟩
  · match c, hq with
    | 0, hq => cases hq; exact k0
    | 1, hq => cases hq; exact k1
    | 2, hq => cases hq; exact k2
    | 3, hq => cases hq; exact k3
    | 4, hq => cases hq; exact k4
    | 5, hq => cases hq; exact k5
    | 6, hq => cases hq; exact k6
    | 7, hq => cases hq; exact k7
    | 8, hq => cases hq; exact k8
    | 9, hq => cases hq; exact k9
    | c + 10, hq => exact absurd (List.getElem?_eq_some_iff.mp hq).1 (by show ¬ c + 10 < 10; omega)
  · match k, hk with
    | 0, hk => cases hk; exact ⟨hI1, hI2⟩
    | 1, hk => cases hk; exact ⟨hJ1, hJ2⟩
    | k + 2, hk => exact absurd (List.getElem?_eq_some_iff.mp hk).1 (by show ¬ k + 2 < 2; omega)
theorem st_env {b : Nat} {s : State} (hts : ∀ w ∈ lw_tbl, w.before #[Value.ref b] s = true) (hgv : (Jvm.Cond.and given_1 narrow_1).before #[Value.ref b] s = true) : ∃ G : GP, EnvR G s ∧ gB G = s.heap.size := by
  obtain ⟨D, cI, cJ, hK⟩ := st_K hts
  obtain ⟨gk, gv, hS⟩ := st_str hts (flat_of_before _ hgv)
  exact ⟨(D, (cI, cJ), fun _ => 0, (0, s.heap.size), (gk, gv)), ⟨hK, fun w hw => va_Nw.of (NW_tab hw) (hts w (NW_tbl hw)), Nat.le_refl _, hS D (cI, cJ) (fun _ => 0) 0⟩, rfl⟩
