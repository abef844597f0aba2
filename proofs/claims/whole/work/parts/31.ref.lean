/-! WinnerDrawsModel.result(I)I (('o', 'M', 0) ('i',)) -/
def f_X9_result (M : TX) (x1 : Int32) : Option (TX × Int32) := (f_X9_fine (u2 M 0 8 (M 0 5))).bind fun q1 => if q1 = 0 then (some ((u2 M 0 8 (M 0 5)), (((u2 M 0 8 (M 0 5)) 0 6) - (10 : Int32)))) else (some ((u2 M 0 8 (M 0 5)), x1))
section
variable {G : GP} {l : Launch}
set_option maxRecDepth 20000 in
set_option maxHeartbeats 2000000 in
theorem c_X9_result   {X M : TX} {L : TL} {x1 : Int32} {ro : TX × Int32} (hf : f_X9_result M x1 = some ro) : CTi G l yX9_result cX9_result 2 (some .int) 1 20 [.ref (gA G (41 + 0)), .int x1] X M L X ro.1 L ro.2 := by
  unfold f_X9_result at hf
  refine ct_of (by decide +kernel) (Nat.le_of_ble_eq_true rfl) (fun p e s m args below meth c H locs ls C hr hlk hw hl => ?_)
  have C : Cx G p s m args c cX9_result 2 RX9 := C
  have hl : lv_has ls 2 [(0, .ref (gA G (41 + 0))), (1, .int x1)] := hl
  refine lv_aload_n C.1.1 C.1.2.1 dX9_result_0 rfl (lv_at hl 0 rfl) ?_
  refine lv_aload_n C.1.1 C.1.2.1 dX9_result_1 rfl (lv_at hl 0 rfl) ?_
  refine m_get C hw iM_0_5 flX9_105 dX9_result_2 ?_
  refine m_put C hw iM_0_8 flX9_17 dX9_result_5 (fun H locs hw => ?_)
  refine lv_aload_n C.1.1 C.1.2.1 dX9_result_8 rfl (lv_at hl 0 rfl) ?_
  obtain ⟨q1, h1, hf⟩ := o_bind hf
  refine aft_i hw (run_VM C hw clX9_134 (As := []) (rest := []) oM_0 (c_X9_fine h1) rfl hl.1 rfl ⟨(Nat.le_of_ble_eq_true rfl), (Nat.le_of_ble_eq_true rfl)⟩ ⟨Nat.zero_le _, Nat.zero_le _⟩ rfl (Nat.le_of_ble_eq_true rfl) dX9_result_9) (fun H locs hw => ?_)
  refine lv_if_eq (tgt := 19) C.1.1 C.1.2.1 dX9_result_12 (by decide) (fun c2 => ?_) (fun c2 => ?_)
  · have hf := o_t hf c2
    refine lv_aload_n C.1.1 C.1.2.1 dX9_result_19 rfl (lv_at hl 0 rfl) ?_
    refine m_get C hw iM_0_6 flX9_108 dX9_result_20 ?_
    refine lv_bipush (v := (10 : Int32)) C.1.1 C.1.2.1 dX9_result_23 rfl ?_
    refine lv_isub C.1.1 C.1.2.1 dX9_result_25 ?_
    obtain rfl := Option.some.inj hf
    exact ret_i C hr hlk hw dX9_result_26
  · have hf := o_f hf c2
    refine lv_iload_n C.1.1 C.1.2.1 dX9_result_15 rfl (lv_at hl 1 rfl) ?_
    refine lv_goto (tgt := 26) C.1.1 C.1.2.1 dX9_result_16 (by decide) ?_
    obtain rfl := Option.some.inj hf
    exact ret_i C hr hlk hw dX9_result_26
end
/-! WinnerDrawsModel.fault()I (('o', 'M', 0)) -/
def f_X9_fault (M : TX) : Option (TX × Int32) := some ((u2 M 0 0 (0 : Int32)), ((u2 M 0 0 (0 : Int32)) 0 8))
section
variable {G : GP} {l : Launch}
set_option maxRecDepth 20000 in
set_option maxHeartbeats 2000000 in
theorem c_X9_fault   {X M : TX} {L : TL}  {ro : TX × Int32} (hf : f_X9_fault M = some ro) : CTi G l yX9_fault cX9_fault 1 (some .int) 0 0 [.ref (gA G (41 + 0))] X M L X ro.1 L ro.2 := by
  unfold f_X9_fault at hf
  refine ct_of (by decide +kernel) (Nat.le_of_ble_eq_true rfl) (fun p e s m args below meth c H locs ls C hr hlk hw hl => ?_)
  have C : Cx G p s m args c cX9_fault 1 RX9 := C
  have hl : lv_has ls 1 [(0, .ref (gA G (41 + 0)))] := hl
  refine lv_aload_n C.1.1 C.1.2.1 dX9_fault_0 rfl (lv_at hl 0 rfl) ?_
  refine lv_iconst (v := (0 : Int32)) C.1.1 C.1.2.1 dX9_fault_1 rfl ?_
  refine m_put C hw iM_0_0 flX9_3 dX9_fault_2 (fun H locs hw => ?_)
  refine lv_aload_n C.1.1 C.1.2.1 dX9_fault_5 rfl (lv_at hl 0 rfl) ?_
  refine m_get C hw iM_0_8 flX9_17 dX9_fault_6 ?_
  obtain rfl := Option.some.inj hf
  exact ret_i C hr hlk hw dX9_fault_9
end
/-! WinnerDrawsModel.clears()V (('o', 'M', 0)) -/
def L_X9_clears_18 : Nat → TX → Int32 → Option (TX)
  | 0 => fun _ _ => none
  | n + 1 => fun M x1 => if (10 : Int32) ≤ x1 then (some M) else (if inb x1 10 = true then ((L_X9_clears_18 n) (u2 M 4 (Int32.toNatClampNeg x1) (0 : Int32)) (x1 + (1 : Int32))) else none)
def f_X9_clears (M : TX) : Option (TX) := L_X9_clears_18 FU (u2 (u2 (u2 M 0 16 (0 : Int32)) 0 17 (0 : Int32)) 0 18 (20 : Int32)) (0 : Int32)
section
variable {G : GP} {l : Launch}
set_option maxRecDepth 20000 in
set_option maxHeartbeats 2000000 in
theorem wL_X9_clears_18 {p : Program} {e : Env} {s : State} {m : MethodId} {args : Array Value} {below : List Frame} {meth : Method} {c : Code} (C : Cx G p s m args c cX9_clears 2 RX9) (hr : meth.sig.returnType = none) (hlk : meth.locks = false) {ro : TX} : ∀ (n : Nat), ∀ (X : TX) (M : TX) (L : TL) (x1 : Int32) (H : Heap) (locs : List Loc) (ls : Array Slot), Wh G s X M L H locs → lv_has ls 2 [(0, .ref (gA G (41 + 0))), (1, .int x1)] → L_X9_clears_18 n M x1 = some ro → W p l e (rz 0 0) s m args below meth c H locs 0 0 (MQ below (Dv G X ro L) args s 0 0 (AB G)) (F0 m 18 ls []) := by
  intro n
  induction n with
  | zero =>
    intro X M L x1 H locs ls hw hl hf
    cases hf
  | succ n hk_18 =>
    intro X M L x1 H locs ls hw hl hf
    rw [L_X9_clears_18] at hf
    refine lv_iload_n C.1.1 C.1.2.1 dX9_clears_18 rfl (lv_at hl 1 rfl) ?_
    refine lv_bipush (v := (10 : Int32)) C.1.1 C.1.2.1 dX9_clears_19 rfl ?_
    refine lv_icmp_ge (tgt := 37) C.1.1 C.1.2.1 dX9_clears_21 (by decide) (fun c1 => ?_) (fun c1 => ?_)
    · have hf := o_t hf c1
      obtain rfl := Option.some.inj hf
      exact ret_v C hr hlk hw dX9_clears_37
    · have hf := o_f hf c1
      refine lv_aload_n C.1.1 C.1.2.1 dX9_clears_24 rfl (lv_at hl 0 rfl) ?_
      refine m_ref C hw fM_0_11 flX9_26 dX9_clears_25 ?_
      refine lv_iload_n C.1.1 C.1.2.1 dX9_clears_28 rfl (lv_at hl 1 rfl) ?_
      refine lv_iconst (v := (0 : Int32)) C.1.1 C.1.2.1 dX9_clears_29 rfl ?_
      have g2 := inb_in (o_g hf).1
      have hf := (o_g hf).2
      refine m_ast C hw aM_4 g2 dX9_clears_30 (fun H locs hw => ?_)
      refine lv_iinc (v := (x1 + (1 : Int32))) (lv' := [(1, .int (x1 + (1 : Int32))), (0, .ref (gA G (41 + 0)))]) C.1.1 C.1.2.1 dX9_clears_31 hl (k := 1) rfl rfl (by decide) rfl (fun ls hl => ?_)
      refine lv_goto (tgt := 18) C.1.1 C.1.2.1 dX9_clears_34 (by decide) ?_
      exact hk_18 X (u2 M 4 (Int32.toNatClampNeg x1) (0 : Int32)) L (x1 + (1 : Int32)) _ _ _ hw (lv_sub hl [1, 0] rfl) hf
set_option maxRecDepth 20000 in
set_option maxHeartbeats 2000000 in
theorem c_X9_clears   {X M : TX} {L : TL}  {ro : TX} (hf : f_X9_clears M = some ro) : CTv G l yX9_clears cX9_clears 2 none 0 0 [.ref (gA G (41 + 0))] X M L X ro L := by
  unfold f_X9_clears at hf
  refine ct_of (by decide +kernel) (Nat.le_of_ble_eq_true rfl) (fun p e s m args below meth c H locs ls C hr hlk hw hl => ?_)
  have C : Cx G p s m args c cX9_clears 2 RX9 := C
  have hl : lv_has ls 2 [(0, .ref (gA G (41 + 0)))] := hl
  refine lv_aload_n C.1.1 C.1.2.1 dX9_clears_0 rfl (lv_at hl 0 rfl) ?_
  refine lv_iconst (v := (0 : Int32)) C.1.1 C.1.2.1 dX9_clears_1 rfl ?_
  refine m_put C hw iM_0_16 flX9_148 dX9_clears_2 (fun H locs hw => ?_)
  refine lv_aload_n C.1.1 C.1.2.1 dX9_clears_5 rfl (lv_at hl 0 rfl) ?_
  refine lv_iconst (v := (0 : Int32)) C.1.1 C.1.2.1 dX9_clears_6 rfl ?_
  refine m_put C hw iM_0_17 flX9_151 dX9_clears_7 (fun H locs hw => ?_)
  refine lv_aload_n C.1.1 C.1.2.1 dX9_clears_10 rfl (lv_at hl 0 rfl) ?_
  refine lv_bipush (v := (20 : Int32)) C.1.1 C.1.2.1 dX9_clears_11 rfl ?_
  refine m_put C hw iM_0_18 flX9_154 dX9_clears_13 (fun H locs hw => ?_)
  refine lv_iconst (v := (0 : Int32)) C.1.1 C.1.2.1 dX9_clears_16 rfl ?_
  refine lv_istore_n (lv' := [(1, .int (0 : Int32)), (0, .ref (gA G (41 + 0)))]) C.1.1 C.1.2.1 dX9_clears_17 rfl hl (by decide) rfl (fun ls hl => ?_)
  exact wL_X9_clears_18 C hr hlk FU X (u2 (u2 (u2 M 0 16 (0 : Int32)) 0 17 (0 : Int32)) 0 18 (20 : Int32)) L (0 : Int32) _ _ _ hw (lv_sub hl [1, 0] rfl) hf
end
/-! WinnerDrawsModel.copies([I[II)V (('o', 'M', 0) ('a', 'M') ('a', 'M') ('i',)) -/
def L_X9_copies_3 (k1 : Nat) (k2 : Nat) : Nat → TX → Int32 → Int32 → Option (TX)
  | 0 => fun _ _ _ => none
  | n + 1 => fun M x3 x4 => if x3 ≤ x4 then (some M) else (if inb x4 (lenM k1) = true then (if inb x4 (lenM k2) = true then ((L_X9_copies_3 k1 k2 n) (u2 M k2 (Int32.toNatClampNeg x4) (M k1 (Int32.toNatClampNeg x4))) x3 (x4 + (1 : Int32))) else none) else none)
def f_X9_copies (k1 : Nat) (k2 : Nat) (M : TX) (x3 : Int32) : Option (TX) := L_X9_copies_3 k1 k2 FU M x3 (0 : Int32)
section
variable {G : GP} {l : Launch}
set_option maxRecDepth 20000 in
set_option maxHeartbeats 2000000 in
theorem wL_X9_copies_3 {k1 : Nat} (hk1 : AM k1 (lenM k1)) {k2 : Nat} (hk2 : AM k2 (lenM k2)) {p : Program} {e : Env} {s : State} {m : MethodId} {args : Array Value} {below : List Frame} {meth : Method} {c : Code} (C : Cx G p s m args c cX9_copies 5 RX9) (hr : meth.sig.returnType = none) (hlk : meth.locks = false) {ro : TX} : ∀ (n : Nat), ∀ (X : TX) (M : TX) (L : TL) (x3 : Int32) (x4 : Int32) (H : Heap) (locs : List Loc) (ls : Array Slot), Wh G s X M L H locs → lv_has ls 5 [(1, .ref (gA G (41 + k1))), (2, .ref (gA G (41 + k2))), (3, .int x3), (4, .int x4)] → L_X9_copies_3 k1 k2 n M x3 x4 = some ro → W p l e (rz 0 0) s m args below meth c H locs 0 0 (MQ below (Dv G X ro L) args s 0 0 (AB G)) (F0 m 3 ls []) := by
  intro n
  induction n with
  | zero =>
    intro X M L x3 x4 H locs ls hw hl hf
    cases hf
  | succ n hk_3 =>
    intro X M L x3 x4 H locs ls hw hl hf
    rw [L_X9_copies_3] at hf
    refine lv_iload C.1.1 C.1.2.1 dX9_copies_3 (lv_at hl 3 rfl) ?_
    refine lv_iload_n C.1.1 C.1.2.1 dX9_copies_5 rfl (lv_at hl 2 rfl) ?_
    refine lv_icmp_ge (tgt := 23) C.1.1 C.1.2.1 dX9_copies_6 (by decide) (fun c1 => ?_) (fun c1 => ?_)
    · have hf := o_t hf c1
      obtain rfl := Option.some.inj hf
      exact ret_v C hr hlk hw dX9_copies_23
    · have hf := o_f hf c1
      refine lv_aload_n C.1.1 C.1.2.1 dX9_copies_9 rfl (lv_at hl 1 rfl) ?_
      refine lv_iload C.1.1 C.1.2.1 dX9_copies_10 (lv_at hl 3 rfl) ?_
      refine lv_aload_n C.1.1 C.1.2.1 dX9_copies_12 rfl (lv_at hl 0 rfl) ?_
      refine lv_iload C.1.1 C.1.2.1 dX9_copies_13 (lv_at hl 3 rfl) ?_
      have g2 := inb_in (o_g hf).1
      have hf := (o_g hf).2
      refine m_ald C hw hk1 g2 dX9_copies_15 ?_
      have g3 := inb_in (o_g hf).1
      have hf := (o_g hf).2
      refine m_ast C hw hk2 g3 dX9_copies_16 (fun H locs hw => ?_)
      refine lv_iinc (v := (x4 + (1 : Int32))) (lv' := [(4, .int (x4 + (1 : Int32))), (1, .ref (gA G (41 + k1))), (2, .ref (gA G (41 + k2))), (3, .int x3)]) C.1.1 C.1.2.1 dX9_copies_17 hl (k := 3) rfl rfl (by decide) rfl (fun ls hl => ?_)
      refine lv_goto (tgt := 3) C.1.1 C.1.2.1 dX9_copies_20 (by decide) ?_
      exact hk_3 X (u2 M k2 (Int32.toNatClampNeg x4) (M k1 (Int32.toNatClampNeg x4))) L x3 (x4 + (1 : Int32)) _ _ _ hw (lv_sub hl [1, 2, 3, 0] rfl) hf
set_option maxRecDepth 20000 in
set_option maxHeartbeats 2000000 in
theorem c_X9_copies  {k1 : Nat} (hk1 : AM k1 (lenM k1)) {k2 : Nat} (hk2 : AM k2 (lenM k2)) {X M : TX} {L : TL} {x3 : Int32} {ro : TX} (hf : f_X9_copies k1 k2 M x3 = some ro) : CTv G l yX9_copies cX9_copies 5 none 0 0 [.ref (gA G (41 + 0)), .ref (gA G (41 + k1)), .ref (gA G (41 + k2)), .int x3] X M L X ro L := by
  unfold f_X9_copies at hf
  refine ct_of (by decide +kernel) (Nat.le_of_ble_eq_true rfl) (fun p e s m args below meth c H locs ls C hr hlk hw hl => ?_)
  have C : Cx G p s m args c cX9_copies 5 RX9 := C
  have hl : lv_has ls 5 [(0, .ref (gA G (41 + 0))), (1, .ref (gA G (41 + k1))), (2, .ref (gA G (41 + k2))), (3, .int x3)] := hl
  refine lv_iconst (v := (0 : Int32)) C.1.1 C.1.2.1 dX9_copies_0 rfl ?_
  refine lv_istore (lv' := [(4, .int (0 : Int32)), (0, .ref (gA G (41 + 0))), (1, .ref (gA G (41 + k1))), (2, .ref (gA G (41 + k2))), (3, .int x3)]) C.1.1 C.1.2.1 dX9_copies_1 hl (by decide) rfl (fun ls hl => ?_)
  exact wL_X9_copies_3 hk1 hk2 C hr hlk FU X M L x3 (0 : Int32) _ _ _ hw (lv_sub hl [2, 3, 4, 0] rfl) hf
end
/-! WinnerDrawsModel.sets()V (('o', 'M', 0)) -/
def L_X9_sets_134 : Nat → TX → Int32 → Option (TX)
  | 0 => fun _ _ => none
  | n + 1 => fun M x1 => if (M 0 19) ≤ x1 then (if inb (30 : Int32) 34 = true then (some (u2 M 19 (Int32.toNatClampNeg (30 : Int32)) (-1 : Int32))) else none) else (if inb ((3 : Int32) * x1) 30 = true then (if inb ((0 : Int32) + x1) 34 = true then (if inb (((3 : Int32) * x1) + (1 : Int32)) 30 = true then (if inb ((10 : Int32) + x1) 34 = true then (if inb (((3 : Int32) * x1) + (2 : Int32)) 30 = true then (if inb ((20 : Int32) + x1) 34 = true then ((L_X9_sets_134 n) (u2 (u2 (u2 M 19 (Int32.toNatClampNeg ((0 : Int32) + x1)) (M 6 (Int32.toNatClampNeg ((3 : Int32) * x1)))) 19 (Int32.toNatClampNeg ((10 : Int32) + x1)) ((u2 M 19 (Int32.toNatClampNeg ((0 : Int32) + x1)) (M 6 (Int32.toNatClampNeg ((3 : Int32) * x1)))) 6 (Int32.toNatClampNeg (((3 : Int32) * x1) + (1 : Int32))))) 19 (Int32.toNatClampNeg ((20 : Int32) + x1)) ((u2 (u2 M 19 (Int32.toNatClampNeg ((0 : Int32) + x1)) (M 6 (Int32.toNatClampNeg ((3 : Int32) * x1)))) 19 (Int32.toNatClampNeg ((10 : Int32) + x1)) ((u2 M 19 (Int32.toNatClampNeg ((0 : Int32) + x1)) (M 6 (Int32.toNatClampNeg ((3 : Int32) * x1)))) 6 (Int32.toNatClampNeg (((3 : Int32) * x1) + (1 : Int32))))) 6 (Int32.toNatClampNeg (((3 : Int32) * x1) + (2 : Int32))))) (x1 + (1 : Int32))) else none) else none) else none) else none) else none) else none)
def L_X9_sets_113 : Nat → TX → Int32 → Option (TX)
  | 0 => fun _ _ => none
  | n + 1 => fun M x1 => if (34 : Int32) ≤ x1 then (L_X9_sets_134 FU M (0 : Int32)) else (if inb x1 34 = true then ((L_X9_sets_113 n) (u2 M 19 (Int32.toNatClampNeg x1) (0 : Int32)) (x1 + (1 : Int32))) else none)
def L_X9_sets_93 : Nat → TX → Int32 → Option (TX)
  | 0 => fun _ _ => none
  | n + 1 => fun M x1 => if (4 : Int32) ≤ x1 then (L_X9_sets_113 FU M (0 : Int32)) else (if inb x1 4 = true then ((L_X9_sets_93 n) (u2 M 18 (Int32.toNatClampNeg x1) (-1 : Int32)) (x1 + (1 : Int32))) else none)
def f_X9_sets (M : TX) : Option (TX) := (f_X9_copies 3 6 (u2 (u2 (u2 M 0 19 (M 0 16)) 0 20 ((u2 M 0 19 (M 0 16)) 0 17)) 0 21 ((u2 (u2 M 0 19 (M 0 16)) 0 20 ((u2 M 0 19 (M 0 16)) 0 17)) 0 18)) (30 : Int32)).bind fun q1 => (f_X9_copies 4 7 q1 (10 : Int32)).bind fun q2 => (f_X9_copies 5 8 q2 (12 : Int32)).bind fun q3 => L_X9_sets_93 FU (u2 (u2 (u2 (u2 (u2 q3 0 28 (0 : Int32)) 0 40 (0 : Int32)) 0 33 (0 : Int32)) 0 50 (0 : Int32)) 0 34 (0 : Int32)) (0 : Int32)
section
variable {G : GP} {l : Launch}
set_option maxRecDepth 20000 in
set_option maxHeartbeats 2000000 in
theorem wL_X9_sets_134 {p : Program} {e : Env} {s : State} {m : MethodId} {args : Array Value} {below : List Frame} {meth : Method} {c : Code} (C : Cx G p s m args c cX9_sets 2 RX9) (hr : meth.sig.returnType = none) (hlk : meth.locks = false) {ro : TX} : ∀ (n : Nat), ∀ (X : TX) (M : TX) (L : TL) (x1 : Int32) (H : Heap) (locs : List Loc) (ls : Array Slot), Wh G s X M L H locs → lv_has ls 2 [(0, .ref (gA G (41 + 0))), (1, .int x1)] → L_X9_sets_134 n M x1 = some ro → W p l e (rz 1 24) s m args below meth c H locs 0 0 (MQ below (Dv G X ro L) args s 0 0 (AB G)) (F0 m 134 ls []) := by
  intro n
  induction n with
  | zero =>
    intro X M L x1 H locs ls hw hl hf
    cases hf
  | succ n hk_134 =>
    intro X M L x1 H locs ls hw hl hf
    rw [L_X9_sets_134] at hf
    refine lv_iload_n C.1.1 C.1.2.1 dX9_sets_134 rfl (lv_at hl 1 rfl) ?_
    refine lv_aload_n C.1.1 C.1.2.1 dX9_sets_135 rfl (lv_at hl 0 rfl) ?_
    refine m_get C hw iM_0_19 flX9_157 dX9_sets_136 ?_
    refine lv_icmp_ge (tgt := 202) C.1.1 C.1.2.1 dX9_sets_139 (by decide) (fun c6 => ?_) (fun c6 => ?_)
    · have hf := o_t hf c6
      refine lv_aload_n C.1.1 C.1.2.1 dX9_sets_202 rfl (lv_at hl 0 rfl) ?_
      refine m_ref C hw fM_0_41 flX9_71 dX9_sets_203 ?_
      refine lv_bipush (v := (30 : Int32)) C.1.1 C.1.2.1 dX9_sets_206 rfl ?_
      refine lv_iconst (v := (-1 : Int32)) C.1.1 C.1.2.1 dX9_sets_208 rfl ?_
      have g7 := inb_in (o_g hf).1
      have hf := (o_g hf).2
      refine m_ast C hw aM_19 g7 dX9_sets_209 (fun H locs hw => ?_)
      obtain rfl := Option.some.inj hf
      exact ret_v C hr hlk hw dX9_sets_210
    · have hf := o_f hf c6
      refine lv_aload_n C.1.1 C.1.2.1 dX9_sets_142 rfl (lv_at hl 0 rfl) ?_
      refine m_ref C hw fM_0_41 flX9_71 dX9_sets_143 ?_
      refine lv_iconst (v := (0 : Int32)) C.1.1 C.1.2.1 dX9_sets_146 rfl ?_
      refine lv_iload_n C.1.1 C.1.2.1 dX9_sets_147 rfl (lv_at hl 1 rfl) ?_
      refine lv_iadd C.1.1 C.1.2.1 dX9_sets_148 ?_
      refine lv_aload_n C.1.1 C.1.2.1 dX9_sets_149 rfl (lv_at hl 0 rfl) ?_
      refine m_ref C hw fM_0_13 flX9_32 dX9_sets_150 ?_
      refine lv_iconst (v := (3 : Int32)) C.1.1 C.1.2.1 dX9_sets_153 rfl ?_
      refine lv_iload_n C.1.1 C.1.2.1 dX9_sets_154 rfl (lv_at hl 1 rfl) ?_
      refine lv_imul C.1.1 C.1.2.1 dX9_sets_155 ?_
      have g8 := inb_in (o_g hf).1
      have hf := (o_g hf).2
      refine m_ald C hw aM_6 g8 dX9_sets_156 ?_
      have g9 := inb_in (o_g hf).1
      have hf := (o_g hf).2
      refine m_ast C hw aM_19 g9 dX9_sets_157 (fun H locs hw => ?_)
      refine lv_aload_n C.1.1 C.1.2.1 dX9_sets_158 rfl (lv_at hl 0 rfl) ?_
      refine m_ref C hw fM_0_41 flX9_71 dX9_sets_159 ?_
      refine lv_bipush (v := (10 : Int32)) C.1.1 C.1.2.1 dX9_sets_162 rfl ?_
      refine lv_iload_n C.1.1 C.1.2.1 dX9_sets_164 rfl (lv_at hl 1 rfl) ?_
      refine lv_iadd C.1.1 C.1.2.1 dX9_sets_165 ?_
      refine lv_aload_n C.1.1 C.1.2.1 dX9_sets_166 rfl (lv_at hl 0 rfl) ?_
      refine m_ref C hw fM_0_13 flX9_32 dX9_sets_167 ?_
      refine lv_iconst (v := (3 : Int32)) C.1.1 C.1.2.1 dX9_sets_170 rfl ?_
      refine lv_iload_n C.1.1 C.1.2.1 dX9_sets_171 rfl (lv_at hl 1 rfl) ?_
      refine lv_imul C.1.1 C.1.2.1 dX9_sets_172 ?_
      refine lv_iconst (v := (1 : Int32)) C.1.1 C.1.2.1 dX9_sets_173 rfl ?_
      refine lv_iadd C.1.1 C.1.2.1 dX9_sets_174 ?_
      have g10 := inb_in (o_g hf).1
      have hf := (o_g hf).2
      refine m_ald C hw aM_6 g10 dX9_sets_175 ?_
      have g11 := inb_in (o_g hf).1
      have hf := (o_g hf).2
      refine m_ast C hw aM_19 g11 dX9_sets_176 (fun H locs hw => ?_)
      refine lv_aload_n C.1.1 C.1.2.1 dX9_sets_177 rfl (lv_at hl 0 rfl) ?_
      refine m_ref C hw fM_0_41 flX9_71 dX9_sets_178 ?_
      refine lv_bipush (v := (20 : Int32)) C.1.1 C.1.2.1 dX9_sets_181 rfl ?_
      refine lv_iload_n C.1.1 C.1.2.1 dX9_sets_183 rfl (lv_at hl 1 rfl) ?_
      refine lv_iadd C.1.1 C.1.2.1 dX9_sets_184 ?_
      refine lv_aload_n C.1.1 C.1.2.1 dX9_sets_185 rfl (lv_at hl 0 rfl) ?_
      refine m_ref C hw fM_0_13 flX9_32 dX9_sets_186 ?_
      refine lv_iconst (v := (3 : Int32)) C.1.1 C.1.2.1 dX9_sets_189 rfl ?_
      refine lv_iload_n C.1.1 C.1.2.1 dX9_sets_190 rfl (lv_at hl 1 rfl) ?_
      refine lv_imul C.1.1 C.1.2.1 dX9_sets_191 ?_
      refine lv_iconst (v := (2 : Int32)) C.1.1 C.1.2.1 dX9_sets_192 rfl ?_
      refine lv_iadd C.1.1 C.1.2.1 dX9_sets_193 ?_
      have g12 := inb_in (o_g hf).1
      have hf := (o_g hf).2
      refine m_ald C hw aM_6 g12 dX9_sets_194 ?_
      have g13 := inb_in (o_g hf).1
      have hf := (o_g hf).2
      refine m_ast C hw aM_19 g13 dX9_sets_195 (fun H locs hw => ?_)
      refine lv_iinc (v := (x1 + (1 : Int32))) (lv' := [(1, .int (x1 + (1 : Int32))), (0, .ref (gA G (41 + 0)))]) C.1.1 C.1.2.1 dX9_sets_196 hl (k := 1) rfl rfl (by decide) rfl (fun ls hl => ?_)
      refine lv_goto (tgt := 134) C.1.1 C.1.2.1 dX9_sets_199 (by decide) ?_
      exact hk_134 X (u2 (u2 (u2 M 19 (Int32.toNatClampNeg ((0 : Int32) + x1)) (M 6 (Int32.toNatClampNeg ((3 : Int32) * x1)))) 19 (Int32.toNatClampNeg ((10 : Int32) + x1)) ((u2 M 19 (Int32.toNatClampNeg ((0 : Int32) + x1)) (M 6 (Int32.toNatClampNeg ((3 : Int32) * x1)))) 6 (Int32.toNatClampNeg (((3 : Int32) * x1) + (1 : Int32))))) 19 (Int32.toNatClampNeg ((20 : Int32) + x1)) ((u2 (u2 M 19 (Int32.toNatClampNeg ((0 : Int32) + x1)) (M 6 (Int32.toNatClampNeg ((3 : Int32) * x1)))) 19 (Int32.toNatClampNeg ((10 : Int32) + x1)) ((u2 M 19 (Int32.toNatClampNeg ((0 : Int32) + x1)) (M 6 (Int32.toNatClampNeg ((3 : Int32) * x1)))) 6 (Int32.toNatClampNeg (((3 : Int32) * x1) + (1 : Int32))))) 6 (Int32.toNatClampNeg (((3 : Int32) * x1) + (2 : Int32))))) L (x1 + (1 : Int32)) _ _ _ hw (lv_sub hl [1, 0] rfl) hf
set_option maxRecDepth 20000 in
set_option maxHeartbeats 2000000 in
theorem wL_X9_sets_113 {p : Program} {e : Env} {s : State} {m : MethodId} {args : Array Value} {below : List Frame} {meth : Method} {c : Code} (C : Cx G p s m args c cX9_sets 2 RX9) (hr : meth.sig.returnType = none) (hlk : meth.locks = false) {ro : TX} : ∀ (n : Nat), ∀ (X : TX) (M : TX) (L : TL) (x1 : Int32) (H : Heap) (locs : List Loc) (ls : Array Slot), Wh G s X M L H locs → lv_has ls 2 [(0, .ref (gA G (41 + 0))), (1, .int x1)] → L_X9_sets_113 n M x1 = some ro → W p l e (rz 1 24) s m args below meth c H locs 0 0 (MQ below (Dv G X ro L) args s 0 0 (AB G)) (F0 m 113 ls []) := by
  intro n
  induction n with
  | zero =>
    intro X M L x1 H locs ls hw hl hf
    cases hf
  | succ n hk_113 =>
    intro X M L x1 H locs ls hw hl hf
    rw [L_X9_sets_113] at hf
    refine lv_iload_n C.1.1 C.1.2.1 dX9_sets_113 rfl (lv_at hl 1 rfl) ?_
    refine lv_bipush (v := (34 : Int32)) C.1.1 C.1.2.1 dX9_sets_114 rfl ?_
    refine lv_icmp_ge (tgt := 132) C.1.1 C.1.2.1 dX9_sets_116 (by decide) (fun c5 => ?_) (fun c5 => ?_)
    · have hf := o_t hf c5
      refine lv_iconst (v := (0 : Int32)) C.1.1 C.1.2.1 dX9_sets_132 rfl ?_
      refine lv_istore_n (lv' := [(1, .int (0 : Int32)), (0, .ref (gA G (41 + 0)))]) C.1.1 C.1.2.1 dX9_sets_133 rfl hl (by decide) rfl (fun ls hl => ?_)
      exact wL_X9_sets_134 C hr hlk FU X M L (0 : Int32) _ _ _ hw (lv_sub hl [1, 0] rfl) hf
    · have hf := o_f hf c5
      refine lv_aload_n C.1.1 C.1.2.1 dX9_sets_119 rfl (lv_at hl 0 rfl) ?_
      refine m_ref C hw fM_0_41 flX9_71 dX9_sets_120 ?_
      refine lv_iload_n C.1.1 C.1.2.1 dX9_sets_123 rfl (lv_at hl 1 rfl) ?_
      refine lv_iconst (v := (0 : Int32)) C.1.1 C.1.2.1 dX9_sets_124 rfl ?_
      have g14 := inb_in (o_g hf).1
      have hf := (o_g hf).2
      refine m_ast C hw aM_19 g14 dX9_sets_125 (fun H locs hw => ?_)
      refine lv_iinc (v := (x1 + (1 : Int32))) (lv' := [(1, .int (x1 + (1 : Int32))), (0, .ref (gA G (41 + 0)))]) C.1.1 C.1.2.1 dX9_sets_126 hl (k := 1) rfl rfl (by decide) rfl (fun ls hl => ?_)
      refine lv_goto (tgt := 113) C.1.1 C.1.2.1 dX9_sets_129 (by decide) ?_
      exact hk_113 X (u2 M 19 (Int32.toNatClampNeg x1) (0 : Int32)) L (x1 + (1 : Int32)) _ _ _ hw (lv_sub hl [1, 0] rfl) hf
set_option maxRecDepth 20000 in
set_option maxHeartbeats 2000000 in
theorem wL_X9_sets_93 {p : Program} {e : Env} {s : State} {m : MethodId} {args : Array Value} {below : List Frame} {meth : Method} {c : Code} (C : Cx G p s m args c cX9_sets 2 RX9) (hr : meth.sig.returnType = none) (hlk : meth.locks = false) {ro : TX} : ∀ (n : Nat), ∀ (X : TX) (M : TX) (L : TL) (x1 : Int32) (H : Heap) (locs : List Loc) (ls : Array Slot), Wh G s X M L H locs → lv_has ls 2 [(0, .ref (gA G (41 + 0))), (1, .int x1)] → L_X9_sets_93 n M x1 = some ro → W p l e (rz 1 24) s m args below meth c H locs 0 0 (MQ below (Dv G X ro L) args s 0 0 (AB G)) (F0 m 93 ls []) := by
  intro n
  induction n with
  | zero =>
    intro X M L x1 H locs ls hw hl hf
    cases hf
  | succ n hk_93 =>
    intro X M L x1 H locs ls hw hl hf
    rw [L_X9_sets_93] at hf
    refine lv_iload_n C.1.1 C.1.2.1 dX9_sets_93 rfl (lv_at hl 1 rfl) ?_
    refine lv_iconst (v := (4 : Int32)) C.1.1 C.1.2.1 dX9_sets_94 rfl ?_
    refine lv_icmp_ge (tgt := 111) C.1.1 C.1.2.1 dX9_sets_95 (by decide) (fun c4 => ?_) (fun c4 => ?_)
    · have hf := o_t hf c4
      refine lv_iconst (v := (0 : Int32)) C.1.1 C.1.2.1 dX9_sets_111 rfl ?_
      refine lv_istore_n (lv' := [(1, .int (0 : Int32)), (0, .ref (gA G (41 + 0)))]) C.1.1 C.1.2.1 dX9_sets_112 rfl hl (by decide) rfl (fun ls hl => ?_)
      exact wL_X9_sets_113 C hr hlk FU X M L (0 : Int32) _ _ _ hw (lv_sub hl [1, 0] rfl) hf
    · have hf := o_f hf c4
      refine lv_aload_n C.1.1 C.1.2.1 dX9_sets_98 rfl (lv_at hl 0 rfl) ?_
      refine m_ref C hw fM_0_39 flX9_68 dX9_sets_99 ?_
      refine lv_iload_n C.1.1 C.1.2.1 dX9_sets_102 rfl (lv_at hl 1 rfl) ?_
      refine lv_iconst (v := (-1 : Int32)) C.1.1 C.1.2.1 dX9_sets_103 rfl ?_
      have g15 := inb_in (o_g hf).1
      have hf := (o_g hf).2
      refine m_ast C hw aM_18 g15 dX9_sets_104 (fun H locs hw => ?_)
      refine lv_iinc (v := (x1 + (1 : Int32))) (lv' := [(1, .int (x1 + (1 : Int32))), (0, .ref (gA G (41 + 0)))]) C.1.1 C.1.2.1 dX9_sets_105 hl (k := 1) rfl rfl (by decide) rfl (fun ls hl => ?_)
      refine lv_goto (tgt := 93) C.1.1 C.1.2.1 dX9_sets_108 (by decide) ?_
      exact hk_93 X (u2 M 18 (Int32.toNatClampNeg x1) (-1 : Int32)) L (x1 + (1 : Int32)) _ _ _ hw (lv_sub hl [1, 0] rfl) hf
set_option maxRecDepth 20000 in
set_option maxHeartbeats 2000000 in
theorem c_X9_sets   {X M : TX} {L : TL}  {ro : TX} (hf : f_X9_sets M = some ro) : CTv G l yX9_sets cX9_sets 2 none 1 24 [.ref (gA G (41 + 0))] X M L X ro L := by
  unfold f_X9_sets at hf
  refine ct_of (by decide +kernel) (Nat.le_of_ble_eq_true rfl) (fun p e s m args below meth c H locs ls C hr hlk hw hl => ?_)
  have C : Cx G p s m args c cX9_sets 2 RX9 := C
  have hl : lv_has ls 2 [(0, .ref (gA G (41 + 0)))] := hl
  refine lv_aload_n C.1.1 C.1.2.1 dX9_sets_0 rfl (lv_at hl 0 rfl) ?_
  refine lv_aload_n C.1.1 C.1.2.1 dX9_sets_1 rfl (lv_at hl 0 rfl) ?_
  refine m_get C hw iM_0_16 flX9_148 dX9_sets_2 ?_
  refine m_put C hw iM_0_19 flX9_157 dX9_sets_5 (fun H locs hw => ?_)
  refine lv_aload_n C.1.1 C.1.2.1 dX9_sets_8 rfl (lv_at hl 0 rfl) ?_
  refine lv_aload_n C.1.1 C.1.2.1 dX9_sets_9 rfl (lv_at hl 0 rfl) ?_
  refine m_get C hw iM_0_17 flX9_151 dX9_sets_10 ?_
  refine m_put C hw iM_0_20 flX9_160 dX9_sets_13 (fun H locs hw => ?_)
  refine lv_aload_n C.1.1 C.1.2.1 dX9_sets_16 rfl (lv_at hl 0 rfl) ?_
  refine lv_aload_n C.1.1 C.1.2.1 dX9_sets_17 rfl (lv_at hl 0 rfl) ?_
  refine m_get C hw iM_0_18 flX9_154 dX9_sets_18 ?_
  refine m_put C hw iM_0_21 flX9_163 dX9_sets_21 (fun H locs hw => ?_)
  refine lv_aload_n C.1.1 C.1.2.1 dX9_sets_24 rfl (lv_at hl 0 rfl) ?_
  refine lv_aload_n C.1.1 C.1.2.1 dX9_sets_25 rfl (lv_at hl 0 rfl) ?_
  refine m_ref C hw fM_0_10 flX9_23 dX9_sets_26 ?_
  refine lv_aload_n C.1.1 C.1.2.1 dX9_sets_29 rfl (lv_at hl 0 rfl) ?_
  refine m_ref C hw fM_0_13 flX9_32 dX9_sets_30 ?_
  refine lv_bipush (v := (30 : Int32)) C.1.1 C.1.2.1 dX9_sets_33 rfl ?_
  obtain ⟨q1, h1, hf⟩ := o_bind hf
  refine aft_v hw (run_VM C hw clX9_166 (As := [.ref (gA G (41 + 3)), .ref (gA G (41 + 6)), .int (30 : Int32)]) (rest := []) oM_0 (c_X9_copies aM_3 aM_6 h1) rfl hl.1 rfl ⟨(Nat.le_of_ble_eq_true rfl), (Nat.le_of_ble_eq_true rfl)⟩ ⟨Nat.zero_le _, Nat.zero_le _⟩ rfl (Nat.le_of_ble_eq_true rfl) dX9_sets_35) (fun H locs hw => ?_)
  refine lv_aload_n C.1.1 C.1.2.1 dX9_sets_38 rfl (lv_at hl 0 rfl) ?_
  refine lv_aload_n C.1.1 C.1.2.1 dX9_sets_39 rfl (lv_at hl 0 rfl) ?_
  refine m_ref C hw fM_0_11 flX9_26 dX9_sets_40 ?_
  refine lv_aload_n C.1.1 C.1.2.1 dX9_sets_43 rfl (lv_at hl 0 rfl) ?_
  refine m_ref C hw fM_0_14 flX9_35 dX9_sets_44 ?_
  refine lv_bipush (v := (10 : Int32)) C.1.1 C.1.2.1 dX9_sets_47 rfl ?_
  obtain ⟨q2, h2, hf⟩ := o_bind hf
  refine aft_v hw (run_VM C hw clX9_166 (As := [.ref (gA G (41 + 4)), .ref (gA G (41 + 7)), .int (10 : Int32)]) (rest := []) oM_0 (c_X9_copies aM_4 aM_7 h2) rfl hl.1 rfl ⟨(Nat.le_of_ble_eq_true rfl), (Nat.le_of_ble_eq_true rfl)⟩ ⟨Nat.zero_le _, Nat.zero_le _⟩ rfl (Nat.le_of_ble_eq_true rfl) dX9_sets_49) (fun H locs hw => ?_)
  refine lv_aload_n C.1.1 C.1.2.1 dX9_sets_52 rfl (lv_at hl 0 rfl) ?_
  refine lv_aload_n C.1.1 C.1.2.1 dX9_sets_53 rfl (lv_at hl 0 rfl) ?_
  refine m_ref C hw fM_0_12 flX9_29 dX9_sets_54 ?_
  refine lv_aload_n C.1.1 C.1.2.1 dX9_sets_57 rfl (lv_at hl 0 rfl) ?_
  refine m_ref C hw fM_0_15 flX9_38 dX9_sets_58 ?_
  refine lv_bipush (v := (12 : Int32)) C.1.1 C.1.2.1 dX9_sets_61 rfl ?_
  obtain ⟨q3, h3, hf⟩ := o_bind hf
  refine aft_v hw (run_VM C hw clX9_166 (As := [.ref (gA G (41 + 5)), .ref (gA G (41 + 8)), .int (12 : Int32)]) (rest := []) oM_0 (c_X9_copies aM_5 aM_8 h3) rfl hl.1 rfl ⟨(Nat.le_of_ble_eq_true rfl), (Nat.le_of_ble_eq_true rfl)⟩ ⟨Nat.zero_le _, Nat.zero_le _⟩ rfl (Nat.le_of_ble_eq_true rfl) dX9_sets_63) (fun H locs hw => ?_)
  refine lv_aload_n C.1.1 C.1.2.1 dX9_sets_66 rfl (lv_at hl 0 rfl) ?_
  refine lv_iconst (v := (0 : Int32)) C.1.1 C.1.2.1 dX9_sets_67 rfl ?_
  refine m_put C hw iM_0_28 flX9_170 dX9_sets_68 (fun H locs hw => ?_)
  refine lv_aload_n C.1.1 C.1.2.1 dX9_sets_71 rfl (lv_at hl 0 rfl) ?_
  refine lv_iconst (v := (0 : Int32)) C.1.1 C.1.2.1 dX9_sets_72 rfl ?_
  refine m_put C hw iM_0_40 flX9_173 dX9_sets_73 (fun H locs hw => ?_)
  refine lv_aload_n C.1.1 C.1.2.1 dX9_sets_76 rfl (lv_at hl 0 rfl) ?_
  refine lv_iconst (v := (0 : Int32)) C.1.1 C.1.2.1 dX9_sets_77 rfl ?_
  refine m_put C hw iM_0_33 flX9_176 dX9_sets_78 (fun H locs hw => ?_)
  refine lv_aload_n C.1.1 C.1.2.1 dX9_sets_81 rfl (lv_at hl 0 rfl) ?_
  refine lv_iconst (v := (0 : Int32)) C.1.1 C.1.2.1 dX9_sets_82 rfl ?_
  refine m_put C hw iM_0_50 flX9_179 dX9_sets_83 (fun H locs hw => ?_)
  refine lv_aload_n C.1.1 C.1.2.1 dX9_sets_86 rfl (lv_at hl 0 rfl) ?_
  refine lv_iconst (v := (0 : Int32)) C.1.1 C.1.2.1 dX9_sets_87 rfl ?_
  refine m_put C hw iM_0_34 flX9_182 dX9_sets_88 (fun H locs hw => ?_)
  refine lv_iconst (v := (0 : Int32)) C.1.1 C.1.2.1 dX9_sets_91 rfl ?_
  refine lv_istore_n (lv' := [(1, .int (0 : Int32)), (0, .ref (gA G (41 + 0)))]) C.1.1 C.1.2.1 dX9_sets_92 rfl hl (by decide) rfl (fun ls hl => ?_)
  exact wL_X9_sets_93 C hr hlk FU X (u2 (u2 (u2 (u2 (u2 q3 0 28 (0 : Int32)) 0 40 (0 : Int32)) 0 33 (0 : Int32)) 0 50 (0 : Int32)) 0 34 (0 : Int32)) L (0 : Int32) _ _ _ hw (lv_sub hl [1, 0] rfl) hf
end
/-! WinnerDrawsModel.of(Ljava/lang/String;)I (('s',)) -/
def L_X9_of_4 (i0 : Nat) : Nat → Int32 → Int32 → Option (Int32)
  | 0 => fun _ _ => none
  | n + 1 => fun x1 x2 => if (nI (SL.getD i0 0)) ≤ x2 then (some x1) else (if inb x2 (SL.getD i0 0) = true then ((L_X9_of_4 i0 n) ((x1 <<< ((5 : Int32) &&& 31)) ||| (((SB.getD i0 []).getD (Int32.toNatClampNeg x2) 0) - (96 : Int32))) (x2 + (1 : Int32))) else none)
def f_X9_of (i0 : Nat) : Option (Int32) := L_X9_of_4 i0 FU (0 : Int32) (0 : Int32)
section
variable {G : GP} {l : Launch}
set_option maxRecDepth 20000 in
set_option maxHeartbeats 2000000 in
theorem wL_X9_of_4 {i0 : Nat} (hi0 : i0 < SN) {p : Program} {e : Env} {s : State} {m : MethodId} {args : Array Value} {below : List Frame} {meth : Method} {c : Code} (C : Cx G p s m args c cX9_of 3 RX9) (hr : meth.sig.returnType = (some .int)) (hlk : meth.locks = false) {ro : Int32} : ∀ (n : Nat), ∀ (X : TX) (M : TX) (L : TL) (x1 : Int32) (x2 : Int32) (H : Heap) (locs : List Loc) (ls : Array Slot), Wh G s X M L H locs → lv_has ls 3 [(0, .ref (gK G i0)), (1, .int x1), (2, .int x2)] → L_X9_of_4 i0 n x1 x2 = some ro → W p l e (rz 6 181) s m args below meth c H locs 0 0 (MQ below (Di G X M L ro) args s 0 0 (AB G)) (F0 m 4 ls []) := by
  intro n
  induction n with
  | zero =>
    intro X M L x1 x2 H locs ls hw hl hf
    cases hf
  | succ n hk_4 =>
    intro X M L x1 x2 H locs ls hw hl hf
    rw [L_X9_of_4] at hf
    refine lv_iload_n C.1.1 C.1.2.1 dX9_of_4 rfl (lv_at hl 2 rfl) ?_
    refine lv_aload_n C.1.1 C.1.2.1 dX9_of_5 rfl (lv_at hl 0 rfl) ?_
    refine x_slen C hw clX9_125 (i := i0) hi0 hl.1 ⟨(Nat.le_of_ble_eq_true rfl), (Nat.le_of_ble_eq_true rfl)⟩ ⟨Nat.zero_le _, Nat.zero_le _⟩ (Nat.le_of_ble_eq_true rfl) dX9_of_6 (fun H locs hw => ?_)
    refine lv_icmp_ge (tgt := 31) C.1.1 C.1.2.1 dX9_of_9 (by decide) (fun c2 => ?_) (fun c2 => ?_)
    · have hf := o_t hf c2
      refine lv_iload_n C.1.1 C.1.2.1 dX9_of_31 rfl (lv_at hl 1 rfl) ?_
      obtain rfl := Option.some.inj hf
      exact ret_i C hr hlk hw dX9_of_32
    · have hf := o_f hf c2
      refine lv_iload_n C.1.1 C.1.2.1 dX9_of_12 rfl (lv_at hl 1 rfl) ?_
      refine lv_iconst (v := (5 : Int32)) C.1.1 C.1.2.1 dX9_of_13 rfl ?_
      refine lv_ishl C.1.1 C.1.2.1 dX9_of_14 ?_
      refine lv_aload_n C.1.1 C.1.2.1 dX9_of_15 rfl (lv_at hl 0 rfl) ?_
      refine lv_iload_n C.1.1 C.1.2.1 dX9_of_16 rfl (lv_at hl 2 rfl) ?_
      have g3 := inb_in (o_g hf).1
      have hf := (o_g hf).2
      refine x_schr C hw clX9_130 (i := i0) hi0 g3 hl.1 ⟨(Nat.le_of_ble_eq_true rfl), (Nat.le_of_ble_eq_true rfl)⟩ ⟨Nat.zero_le _, Nat.zero_le _⟩ (Nat.le_of_ble_eq_true rfl) dX9_of_17 (fun H locs hw => ?_)
      refine lv_bipush (v := (96 : Int32)) C.1.1 C.1.2.1 dX9_of_20 rfl ?_
      refine lv_isub C.1.1 C.1.2.1 dX9_of_22 ?_
      refine lv_ior C.1.1 C.1.2.1 dX9_of_23 ?_
      refine lv_istore_n (lv' := [(1, .int ((x1 <<< ((5 : Int32) &&& 31)) ||| (((SB.getD i0 []).getD (Int32.toNatClampNeg x2) 0) - (96 : Int32)))), (0, .ref (gK G i0)), (2, .int x2)]) C.1.1 C.1.2.1 dX9_of_24 rfl hl (by decide) rfl (fun ls hl => ?_)
      refine lv_iinc (v := (x2 + (1 : Int32))) (lv' := [(2, .int (x2 + (1 : Int32))), (1, .int ((x1 <<< ((5 : Int32) &&& 31)) ||| (((SB.getD i0 []).getD (Int32.toNatClampNeg x2) 0) - (96 : Int32)))), (0, .ref (gK G i0))]) C.1.1 C.1.2.1 dX9_of_25 hl (k := 2) rfl rfl (by decide) rfl (fun ls hl => ?_)
      refine lv_goto (tgt := 4) C.1.1 C.1.2.1 dX9_of_28 (by decide) ?_
      exact hk_4 X M L ((x1 <<< ((5 : Int32) &&& 31)) ||| (((SB.getD i0 []).getD (Int32.toNatClampNeg x2) 0) - (96 : Int32))) (x2 + (1 : Int32)) _ _ _ hw (lv_sub hl [2, 1, 0] rfl) hf
set_option maxRecDepth 20000 in
set_option maxHeartbeats 2000000 in
theorem c_X9_of  {i0 : Nat} (hi0 : i0 < SN) {X M : TX} {L : TL}  {ro : Int32} (hf : f_X9_of i0 = some ro) : CTi G l yX9_of cX9_of 3 (some .int) 6 181 [.ref (gK G i0)] X M L X M L ro := by
  unfold f_X9_of at hf
  refine ct_of (by decide +kernel) (Nat.le_of_ble_eq_true rfl) (fun p e s m args below meth c H locs ls C hr hlk hw hl => ?_)
  have C : Cx G p s m args c cX9_of 3 RX9 := C
  have hl : lv_has ls 3 [(0, .ref (gK G i0))] := hl
  refine lv_iconst (v := (0 : Int32)) C.1.1 C.1.2.1 dX9_of_0 rfl ?_
  refine lv_istore_n (lv' := [(1, .int (0 : Int32)), (0, .ref (gK G i0))]) C.1.1 C.1.2.1 dX9_of_1 rfl hl (by decide) rfl (fun ls hl => ?_)
  refine lv_iconst (v := (0 : Int32)) C.1.1 C.1.2.1 dX9_of_2 rfl ?_
  refine lv_istore_n (lv' := [(2, .int (0 : Int32)), (1, .int (0 : Int32)), (0, .ref (gK G i0))]) C.1.1 C.1.2.1 dX9_of_3 rfl hl (by decide) rfl (fun ls hl => ?_)
  exact wL_X9_of_4 hi0 C hr hlk FU X M L (0 : Int32) (0 : Int32) _ _ _ hw (lv_sub hl [2, 1, 0] rfl) hf
end
/-! WinnerDrawsModel.isFull(I)Z (('o', 'M', 0) ('i',)) -/
def f_X9_isFull (M : TX) (x1 : Int32) : Option (Int32) := (f_X9_of 8).bind fun q1 => if x1 = q1 then (if (M 0 16) = (10 : Int32) then (some (1 : Int32)) else (some (0 : Int32))) else ((f_X9_of 15).bind fun q3 => if x1 = q3 then (if (M 0 17) = (6 : Int32) then (some (1 : Int32)) else (some (0 : Int32))) else (some (0 : Int32)))
section
variable {G : GP} {l : Launch}
set_option maxRecDepth 20000 in
set_option maxHeartbeats 2000000 in
theorem c_X9_isFull   {X M : TX} {L : TL} {x1 : Int32} {ro : Int32} (hf : f_X9_isFull M x1 = some ro) : CTi G l yX9_isFull cX9_isFull 2 (some .boolean) 7 203 [.ref (gA G (41 + 0)), .int x1] X M L X M L ro := by
  unfold f_X9_isFull at hf
  refine ct_of (by decide +kernel) (Nat.le_of_ble_eq_true rfl) (fun p e s m args below meth c H locs ls C hr hlk hw hl => ?_)
  have C : Cx G p s m args c cX9_isFull 2 RX9 := C
  have hl : lv_has ls 2 [(0, .ref (gA G (41 + 0))), (1, .int x1)] := hl
  refine lv_iload_n C.1.1 C.1.2.1 dX9_isFull_0 rfl (lv_at hl 1 rfl) ?_
  refine x_ldcS C (i := 8) (tx := "parish") (List.mem_of_getElem? (i := 19) rfl) dX9_isFull_1 ?_
  obtain ⟨q1, h1, hf⟩ := o_bind hf
  refine aft_i hw (run_S C hw clX9_186 (As := [.ref (gK G 8)]) (rest := [.int x1]) (c_X9_of (by decide) h1) hl.1 rfl ⟨(Nat.le_of_ble_eq_true rfl), (Nat.le_of_ble_eq_true rfl)⟩ ⟨Nat.zero_le _, Nat.zero_le _⟩ rfl (Nat.le_of_ble_eq_true rfl) dX9_isFull_3) (fun H locs hw => ?_)
  refine lv_icmp_ne (tgt := 26) C.1.1 C.1.2.1 dX9_isFull_6 (by decide) (fun c2 => ?_) (fun c2 => ?_)
  · have hf := o_f hf c2
    refine lv_iload_n C.1.1 C.1.2.1 dX9_isFull_26 rfl (lv_at hl 1 rfl) ?_
    refine x_ldcS C (i := 15) (tx := "tide") (List.mem_of_getElem? (i := 21) rfl) dX9_isFull_27 ?_
    obtain ⟨q3, h3, hf⟩ := o_bind hf
    refine aft_i hw (run_S C hw clX9_186 (As := [.ref (gK G 15)]) (rest := [.int x1]) (c_X9_of (by decide) h3) hl.1 rfl ⟨(Nat.le_of_ble_eq_true rfl), (Nat.le_of_ble_eq_true rfl)⟩ ⟨Nat.zero_le _, Nat.zero_le _⟩ rfl (Nat.le_of_ble_eq_true rfl) dX9_isFull_29) (fun H locs hw => ?_)
    refine lv_icmp_ne (tgt := 48) C.1.1 C.1.2.1 dX9_isFull_32 (by decide) (fun c4 => ?_) (fun c4 => ?_)
    · have hf := o_f hf c4
      refine lv_iconst (v := (0 : Int32)) C.1.1 C.1.2.1 dX9_isFull_48 rfl ?_
      obtain rfl := Option.some.inj hf
      exact ret_z (r := (0 : Int32)) C hr hlk hw rfl dX9_isFull_49
    · have hf := o_t hf c4
      refine lv_aload_n C.1.1 C.1.2.1 dX9_isFull_35 rfl (lv_at hl 0 rfl) ?_
      refine m_get C hw iM_0_17 flX9_151 dX9_isFull_36 ?_
      refine lv_bipush (v := (6 : Int32)) C.1.1 C.1.2.1 dX9_isFull_39 rfl ?_
      refine lv_icmp_ne (tgt := 48) C.1.1 C.1.2.1 dX9_isFull_41 (by decide) (fun c5 => ?_) (fun c5 => ?_)
      · have hf := o_f hf c5
        refine lv_iconst (v := (0 : Int32)) C.1.1 C.1.2.1 dX9_isFull_48 rfl ?_
        obtain rfl := Option.some.inj hf
        exact ret_z (r := (0 : Int32)) C hr hlk hw rfl dX9_isFull_49
      · have hf := o_t hf c5
        refine lv_iconst (v := (1 : Int32)) C.1.1 C.1.2.1 dX9_isFull_44 rfl ?_
        refine lv_goto (tgt := 49) C.1.1 C.1.2.1 dX9_isFull_45 (by decide) ?_
        obtain rfl := Option.some.inj hf
        exact ret_z (r := (1 : Int32)) C hr hlk hw rfl dX9_isFull_49
  · have hf := o_t hf c2
    refine lv_aload_n C.1.1 C.1.2.1 dX9_isFull_9 rfl (lv_at hl 0 rfl) ?_
    refine m_get C hw iM_0_16 flX9_148 dX9_isFull_10 ?_
    refine lv_bipush (v := (10 : Int32)) C.1.1 C.1.2.1 dX9_isFull_13 rfl ?_
    refine lv_icmp_ne (tgt := 22) C.1.1 C.1.2.1 dX9_isFull_15 (by decide) (fun c6 => ?_) (fun c6 => ?_)
    · have hf := o_f hf c6
      refine lv_iconst (v := (0 : Int32)) C.1.1 C.1.2.1 dX9_isFull_22 rfl ?_
      refine lv_goto (tgt := 49) C.1.1 C.1.2.1 dX9_isFull_23 (by decide) ?_
      obtain rfl := Option.some.inj hf
      exact ret_z (r := (0 : Int32)) C hr hlk hw rfl dX9_isFull_49
    · have hf := o_t hf c6
      refine lv_iconst (v := (1 : Int32)) C.1.1 C.1.2.1 dX9_isFull_18 rfl ?_
      refine lv_goto (tgt := 49) C.1.1 C.1.2.1 dX9_isFull_19 (by decide) ?_
      obtain rfl := Option.some.inj hf
      exact ret_z (r := (1 : Int32)) C hr hlk hw rfl dX9_isFull_49
end
/-! WinnerDrawsModel.readRoad()V (('o', 'M', 0)) -/
def B_X9_readRoad_52 (M : TX) (x1 : Int32) (x3 : Int32) : Option (TX) := (f_X9_fine M).bind fun q6 => if q6 = 0 then (some M) else (if inb x1 10 = true then (if inb x1 10 = true then (if inb x3 10 = true then (if inb x3 10 = true then (some (u2 (u2 M 4 (Int32.toNatClampNeg x1) ((M 4 (Int32.toNatClampNeg x1)) ||| ((1 : Int32) <<< (x3 &&& 31)))) 4 (Int32.toNatClampNeg x3) (((u2 M 4 (Int32.toNatClampNeg x1) ((M 4 (Int32.toNatClampNeg x1)) ||| ((1 : Int32) <<< (x3 &&& 31)))) 4 (Int32.toNatClampNeg x3)) ||| ((1 : Int32) <<< (x1 &&& 31))))) else none) else none) else none) else none)
def f_X9_readRoad (M : TX) : Option (TX) := (f_X9_readNumber M (0 : Int32) ((M 0 16) - (1 : Int32))).bind fun q1 => (f_X9_here q1.1).bind fun q2 => (f_X9_readNumber q2.1 (0 : Int32) ((q2.1 0 16) - (1 : Int32))).bind fun q3 => (f_X9_fine q3.1).bind fun q4 => if q4 = 0 then (B_X9_readRoad_52 q3.1 q1.2 q3.2) else (if q1.2 = q3.2 then ((f_X9_wrong q3.1 (2 : Int32) (q2.1 0 4)).bind fun q13 => B_X9_readRoad_52 q13 q1.2 q3.2) else (B_X9_readRoad_52 q3.1 q1.2 q3.2))
section
variable {G : GP} {l : Launch}
set_option maxRecDepth 20000 in
set_option maxHeartbeats 2000000 in
theorem wB_X9_readRoad_52 {p : Program} {e : Env} {s : State} {m : MethodId} {args : Array Value} {below : List Frame} {meth : Method} {c : Code} (C : Cx G p s m args c cX9_readRoad 4 RX9) (hr : meth.sig.returnType = none) (hlk : meth.locks = false) {ro : TX} : ∀ (X : TX) (M : TX) (L : TL) (x1 : Int32) (x3 : Int32) (H : Heap) (locs : List Loc) (ls : Array Slot), Wh G s X M L H locs → lv_has ls 4 [(0, .ref (gA G (41 + 0))), (1, .int x1), (3, .int x3)] → B_X9_readRoad_52 M x1 x3 = some ro → W p l e (rz 2 47) s m args below meth c H locs 0 0 (MQ below (Dv G X ro L) args s 0 0 (AB G)) (F0 m 52 ls []) := by
  intro X M L x1 x3 H locs ls hw hl hf
  unfold B_X9_readRoad_52 at hf
  refine lv_aload_n C.1.1 C.1.2.1 dX9_readRoad_52 rfl (lv_at hl 0 rfl) ?_
  obtain ⟨q6, h6, hf⟩ := o_bind hf
  refine aft_i hw (run_VM C hw clX9_134 (As := []) (rest := []) oM_0 (c_X9_fine h6) rfl hl.1 rfl ⟨(Nat.le_of_ble_eq_true rfl), (Nat.le_of_ble_eq_true rfl)⟩ ⟨Nat.zero_le _, Nat.zero_le _⟩ rfl (Nat.le_of_ble_eq_true rfl) dX9_readRoad_53) (fun H locs hw => ?_)
  refine lv_if_ne (tgt := 60) C.1.1 C.1.2.1 dX9_readRoad_56 (by decide) (fun c7 => ?_) (fun c7 => ?_)
  · have hf := o_f hf c7
    refine lv_aload_n C.1.1 C.1.2.1 dX9_readRoad_60 rfl (lv_at hl 0 rfl) ?_
    refine m_ref C hw fM_0_11 flX9_26 dX9_readRoad_61 ?_
    refine lv_iload_n C.1.1 C.1.2.1 dX9_readRoad_64 rfl (lv_at hl 1 rfl) ?_
    refine lv_dup2_11 C.1.1 C.1.2.1 dX9_readRoad_65 rfl rfl ?_
    have g8 := inb_in (o_g hf).1
    have hf := (o_g hf).2
    refine m_ald C hw aM_4 g8 dX9_readRoad_66 ?_
    refine lv_iconst (v := (1 : Int32)) C.1.1 C.1.2.1 dX9_readRoad_67 rfl ?_
    refine lv_iload_n C.1.1 C.1.2.1 dX9_readRoad_68 rfl (lv_at hl 2 rfl) ?_
    refine lv_ishl C.1.1 C.1.2.1 dX9_readRoad_69 ?_
    refine lv_ior C.1.1 C.1.2.1 dX9_readRoad_70 ?_
    have g9 := inb_in (o_g hf).1
    have hf := (o_g hf).2
    refine m_ast C hw aM_4 g9 dX9_readRoad_71 (fun H locs hw => ?_)
    refine lv_aload_n C.1.1 C.1.2.1 dX9_readRoad_72 rfl (lv_at hl 0 rfl) ?_
    refine m_ref C hw fM_0_11 flX9_26 dX9_readRoad_73 ?_
    refine lv_iload_n C.1.1 C.1.2.1 dX9_readRoad_76 rfl (lv_at hl 2 rfl) ?_
    refine lv_dup2_11 C.1.1 C.1.2.1 dX9_readRoad_77 rfl rfl ?_
    have g10 := inb_in (o_g hf).1
    have hf := (o_g hf).2
    refine m_ald C hw aM_4 g10 dX9_readRoad_78 ?_
    refine lv_iconst (v := (1 : Int32)) C.1.1 C.1.2.1 dX9_readRoad_79 rfl ?_
    refine lv_iload_n C.1.1 C.1.2.1 dX9_readRoad_80 rfl (lv_at hl 1 rfl) ?_
    refine lv_ishl C.1.1 C.1.2.1 dX9_readRoad_81 ?_
    refine lv_ior C.1.1 C.1.2.1 dX9_readRoad_82 ?_
    have g11 := inb_in (o_g hf).1
    have hf := (o_g hf).2
    refine m_ast C hw aM_4 g11 dX9_readRoad_83 (fun H locs hw => ?_)
    obtain rfl := Option.some.inj hf
    exact ret_v C hr hlk hw dX9_readRoad_84
  · have hf := o_t hf c7
    obtain rfl := Option.some.inj hf
    exact ret_v C hr hlk hw dX9_readRoad_59
set_option maxRecDepth 20000 in
set_option maxHeartbeats 2000000 in
theorem c_X9_readRoad   {X M : TX} {L : TL}  {ro : TX} (hf : f_X9_readRoad M = some ro) : CTv G l yX9_readRoad cX9_readRoad 4 none 2 47 [.ref (gA G (41 + 0))] X M L X ro L := by
  unfold f_X9_readRoad at hf
  refine ct_of (by decide +kernel) (Nat.le_of_ble_eq_true rfl) (fun p e s m args below meth c H locs ls C hr hlk hw hl => ?_)
  have C : Cx G p s m args c cX9_readRoad 4 RX9 := C
  have hl : lv_has ls 4 [(0, .ref (gA G (41 + 0)))] := hl
  refine lv_aload_n C.1.1 C.1.2.1 dX9_readRoad_0 rfl (lv_at hl 0 rfl) ?_
  refine lv_iconst (v := (0 : Int32)) C.1.1 C.1.2.1 dX9_readRoad_1 rfl ?_
  refine lv_aload_n C.1.1 C.1.2.1 dX9_readRoad_2 rfl (lv_at hl 0 rfl) ?_
  refine m_get C hw iM_0_16 flX9_148 dX9_readRoad_3 ?_
  refine lv_iconst (v := (1 : Int32)) C.1.1 C.1.2.1 dX9_readRoad_6 rfl ?_
  refine lv_isub C.1.1 C.1.2.1 dX9_readRoad_7 ?_
  obtain ⟨q1, h1, hf⟩ := o_bind hf
  refine aft_i hw (run_VM C hw clX9_193 (As := [.int (0 : Int32), .int ((M 0 16) - (1 : Int32))]) (rest := []) oM_0 (c_X9_readNumber h1) rfl hl.1 rfl ⟨(Nat.le_of_ble_eq_true rfl), (Nat.le_of_ble_eq_true rfl)⟩ ⟨Nat.zero_le _, Nat.zero_le _⟩ rfl (Nat.le_of_ble_eq_true rfl) dX9_readRoad_8) (fun H locs hw => ?_)
  refine lv_istore_n (lv' := [(1, .int q1.2), (0, .ref (gA G (41 + 0)))]) C.1.1 C.1.2.1 dX9_readRoad_11 rfl hl (by decide) rfl (fun ls hl => ?_)
  refine lv_aload_n C.1.1 C.1.2.1 dX9_readRoad_12 rfl (lv_at hl 1 rfl) ?_
  obtain ⟨q2, h2, hf⟩ := o_bind hf
  refine aft_i hw (run_VM C hw clX9_117 (As := []) (rest := []) oM_0 (c_X9_here h2) rfl hl.1 rfl ⟨(Nat.le_of_ble_eq_true rfl), (Nat.le_of_ble_eq_true rfl)⟩ ⟨Nat.zero_le _, Nat.zero_le _⟩ rfl (Nat.le_of_ble_eq_true rfl) dX9_readRoad_13) (fun H locs hw => ?_)
  refine lv_pop C.1.1 C.1.2.1 dX9_readRoad_16 rfl ?_
  refine lv_aload_n C.1.1 C.1.2.1 dX9_readRoad_17 rfl (lv_at hl 1 rfl) ?_
  refine m_get C hw iM_0_4 flX9_111 dX9_readRoad_18 ?_
  refine lv_istore_n (lv' := [(2, .int (q2.1 0 4)), (1, .int q1.2), (0, .ref (gA G (41 + 0)))]) C.1.1 C.1.2.1 dX9_readRoad_21 rfl hl (by decide) rfl (fun ls hl => ?_)
  refine lv_aload_n C.1.1 C.1.2.1 dX9_readRoad_22 rfl (lv_at hl 2 rfl) ?_
  refine lv_iconst (v := (0 : Int32)) C.1.1 C.1.2.1 dX9_readRoad_23 rfl ?_
  refine lv_aload_n C.1.1 C.1.2.1 dX9_readRoad_24 rfl (lv_at hl 2 rfl) ?_
  refine m_get C hw iM_0_16 flX9_148 dX9_readRoad_25 ?_
  refine lv_iconst (v := (1 : Int32)) C.1.1 C.1.2.1 dX9_readRoad_28 rfl ?_
  refine lv_isub C.1.1 C.1.2.1 dX9_readRoad_29 ?_
  obtain ⟨q3, h3, hf⟩ := o_bind hf
  refine aft_i hw (run_VM C hw clX9_193 (As := [.int (0 : Int32), .int ((q2.1 0 16) - (1 : Int32))]) (rest := []) oM_0 (c_X9_readNumber h3) rfl hl.1 rfl ⟨(Nat.le_of_ble_eq_true rfl), (Nat.le_of_ble_eq_true rfl)⟩ ⟨Nat.zero_le _, Nat.zero_le _⟩ rfl (Nat.le_of_ble_eq_true rfl) dX9_readRoad_30) (fun H locs hw => ?_)
  refine lv_istore_n (lv' := [(3, .int q3.2), (2, .int (q2.1 0 4)), (1, .int q1.2), (0, .ref (gA G (41 + 0)))]) C.1.1 C.1.2.1 dX9_readRoad_33 rfl hl (by decide) rfl (fun ls hl => ?_)
  refine lv_aload_n C.1.1 C.1.2.1 dX9_readRoad_34 rfl (lv_at hl 3 rfl) ?_
  obtain ⟨q4, h4, hf⟩ := o_bind hf
  refine aft_i hw (run_VM C hw clX9_134 (As := []) (rest := []) oM_0 (c_X9_fine h4) rfl hl.1 rfl ⟨(Nat.le_of_ble_eq_true rfl), (Nat.le_of_ble_eq_true rfl)⟩ ⟨Nat.zero_le _, Nat.zero_le _⟩ rfl (Nat.le_of_ble_eq_true rfl) dX9_readRoad_35) (fun H locs hw => ?_)
  refine lv_if_eq (tgt := 52) C.1.1 C.1.2.1 dX9_readRoad_38 (by decide) (fun c5 => ?_) (fun c5 => ?_)
  · have hf := o_t hf c5
    exact wB_X9_readRoad_52 C hr hlk X q3.1 L q1.2 q3.2 _ _ _ hw (lv_sub hl [3, 2, 0] rfl) hf
  · have hf := o_f hf c5
    refine lv_iload_n C.1.1 C.1.2.1 dX9_readRoad_41 rfl (lv_at hl 2 rfl) ?_
    refine lv_iload_n C.1.1 C.1.2.1 dX9_readRoad_42 rfl (lv_at hl 0 rfl) ?_
    refine lv_icmp_ne (tgt := 52) C.1.1 C.1.2.1 dX9_readRoad_43 (by decide) (fun c12 => ?_) (fun c12 => ?_)
    · have hf := o_f hf c12
      exact wB_X9_readRoad_52 C hr hlk X q3.1 L q1.2 q3.2 _ _ _ hw (lv_sub hl [3, 2, 0] rfl) hf
    · have hf := o_t hf c12
      refine lv_aload_n C.1.1 C.1.2.1 dX9_readRoad_46 rfl (lv_at hl 3 rfl) ?_
      refine lv_iconst (v := (2 : Int32)) C.1.1 C.1.2.1 dX9_readRoad_47 rfl ?_
      refine lv_iload_n C.1.1 C.1.2.1 dX9_readRoad_48 rfl (lv_at hl 1 rfl) ?_
      obtain ⟨q13, h13, hf⟩ := o_bind hf
      refine aft_v hw (run_VM C hw clX9_141 (As := [.int (2 : Int32), .int (q2.1 0 4)]) (rest := []) oM_0 (c_X9_wrong h13) rfl hl.1 rfl ⟨(Nat.le_of_ble_eq_true rfl), (Nat.le_of_ble_eq_true rfl)⟩ ⟨Nat.zero_le _, Nat.zero_le _⟩ rfl (Nat.le_of_ble_eq_true rfl) dX9_readRoad_49) (fun H locs hw => ?_)
      exact wB_X9_readRoad_52 C hr hlk X q13 L q1.2 q3.2 _ _ _ hw (lv_sub hl [3, 2, 0] rfl) hf
end
/-! WinnerDrawsModel.readRow(I)V (('o', 'M', 0) ('i',)) -/
def f_X9_readRow (M : TX) (x1 : Int32) : Option (TX) := (f_X9_of 8).bind fun q1 => if x1 = q1 then ((f_X9_readNumber M (0 : Int32) (3 : Int32)).bind fun q13 => if inb ((3 : Int32) * (M 0 16)) 30 = true then ((f_X9_readNumber (u2 q13.1 3 (Int32.toNatClampNeg ((3 : Int32) * (M 0 16))) q13.2) (0 : Int32) (99 : Int32)).bind fun q15 => if inb (((3 : Int32) * ((u2 q13.1 3 (Int32.toNatClampNeg ((3 : Int32) * (M 0 16))) q13.2) 0 16)) + (1 : Int32)) 30 = true then ((f_X9_readNumber (u2 q15.1 3 (Int32.toNatClampNeg (((3 : Int32) * ((u2 q13.1 3 (Int32.toNatClampNeg ((3 : Int32) * (M 0 16))) q13.2) 0 16)) + (1 : Int32))) q15.2) (0 : Int32) (99 : Int32)).bind fun q17 => if inb (((3 : Int32) * ((u2 q15.1 3 (Int32.toNatClampNeg (((3 : Int32) * ((u2 q13.1 3 (Int32.toNatClampNeg ((3 : Int32) * (M 0 16))) q13.2) 0 16)) + (1 : Int32))) q15.2) 0 16)) + (2 : Int32)) 30 = true then (some (u2 (u2 q17.1 3 (Int32.toNatClampNeg (((3 : Int32) * ((u2 q15.1 3 (Int32.toNatClampNeg (((3 : Int32) * ((u2 q13.1 3 (Int32.toNatClampNeg ((3 : Int32) * (M 0 16))) q13.2) 0 16)) + (1 : Int32))) q15.2) 0 16)) + (2 : Int32))) q17.2) 0 16 (((u2 q17.1 3 (Int32.toNatClampNeg (((3 : Int32) * ((u2 q15.1 3 (Int32.toNatClampNeg (((3 : Int32) * ((u2 q13.1 3 (Int32.toNatClampNeg ((3 : Int32) * (M 0 16))) q13.2) 0 16)) + (1 : Int32))) q15.2) 0 16)) + (2 : Int32))) q17.2) 0 16) + (1 : Int32)))) else none) else none) else none) else ((f_X9_of 12).bind fun q3 => if x1 = q3 then ((f_X9_readRoad M).bind fun q12 => some q12) else ((f_X9_of 15).bind fun q5 => if x1 = q5 then ((f_X9_readNumber M (0 : Int32) (1 : Int32)).bind fun q8 => if inb ((2 : Int32) * (M 0 17)) 12 = true then ((f_X9_readNumber (u2 q8.1 5 (Int32.toNatClampNeg ((2 : Int32) * (M 0 17))) q8.2) (0 : Int32) (20 : Int32)).bind fun q10 => if inb (((2 : Int32) * ((u2 q8.1 5 (Int32.toNatClampNeg ((2 : Int32) * (M 0 17))) q8.2) 0 17)) + (1 : Int32)) 12 = true then (some (u2 (u2 q10.1 5 (Int32.toNatClampNeg (((2 : Int32) * ((u2 q8.1 5 (Int32.toNatClampNeg ((2 : Int32) * (M 0 17))) q8.2) 0 17)) + (1 : Int32))) q10.2) 0 17 (((u2 q10.1 5 (Int32.toNatClampNeg (((2 : Int32) * ((u2 q8.1 5 (Int32.toNatClampNeg ((2 : Int32) * (M 0 17))) q8.2) 0 17)) + (1 : Int32))) q10.2) 0 17) + (1 : Int32)))) else none) else none) else ((f_X9_readNumber M (0 : Int32) (99 : Int32)).bind fun q7 => some (u2 q7.1 0 18 q7.2))))
section
variable {G : GP} {l : Launch}
set_option maxRecDepth 20000 in
set_option maxHeartbeats 2000000 in
theorem c_X9_readRow   {X M : TX} {L : TL} {x1 : Int32} {ro : TX} (hf : f_X9_readRow M x1 = some ro) : CTv G l yX9_readRow cX9_readRow 2 none 7 203 [.ref (gA G (41 + 0)), .int x1] X M L X ro L := by
  unfold f_X9_readRow at hf
  refine ct_of (by decide +kernel) (Nat.le_of_ble_eq_true rfl) (fun p e s m args below meth c H locs ls C hr hlk hw hl => ?_)
  have C : Cx G p s m args c cX9_readRow 2 RX9 := C
  have hl : lv_has ls 2 [(0, .ref (gA G (41 + 0))), (1, .int x1)] := hl
  refine lv_iload_n C.1.1 C.1.2.1 dX9_readRow_0 rfl (lv_at hl 1 rfl) ?_
  refine x_ldcS C (i := 8) (tx := "parish") (List.mem_of_getElem? (i := 19) rfl) dX9_readRow_1 ?_
  obtain ⟨q1, h1, hf⟩ := o_bind hf
  refine aft_i hw (run_S C hw clX9_186 (As := [.ref (gK G 8)]) (rest := [.int x1]) (c_X9_of (by decide) h1) hl.1 rfl ⟨(Nat.le_of_ble_eq_true rfl), (Nat.le_of_ble_eq_true rfl)⟩ ⟨Nat.zero_le _, Nat.zero_le _⟩ rfl (Nat.le_of_ble_eq_true rfl) dX9_readRow_3) (fun H locs hw => ?_)
  refine lv_icmp_ne (tgt := 79) C.1.1 C.1.2.1 dX9_readRow_6 (by decide) (fun c2 => ?_) (fun c2 => ?_)
  · have hf := o_f hf c2
    refine lv_iload_n C.1.1 C.1.2.1 dX9_readRow_79 rfl (lv_at hl 1 rfl) ?_
    refine x_ldcS C (i := 12) (tx := "road") (List.mem_of_getElem? (i := 20) rfl) dX9_readRow_80 ?_
    obtain ⟨q3, h3, hf⟩ := o_bind hf
    refine aft_i hw (run_S C hw clX9_186 (As := [.ref (gK G 12)]) (rest := [.int x1]) (c_X9_of (by decide) h3) hl.1 rfl ⟨(Nat.le_of_ble_eq_true rfl), (Nat.le_of_ble_eq_true rfl)⟩ ⟨Nat.zero_le _, Nat.zero_le _⟩ rfl (Nat.le_of_ble_eq_true rfl) dX9_readRow_82) (fun H locs hw => ?_)
    refine lv_icmp_ne (tgt := 95) C.1.1 C.1.2.1 dX9_readRow_85 (by decide) (fun c4 => ?_) (fun c4 => ?_)
    · have hf := o_f hf c4
      refine lv_iload_n C.1.1 C.1.2.1 dX9_readRow_95 rfl (lv_at hl 1 rfl) ?_
      refine x_ldcS C (i := 15) (tx := "tide") (List.mem_of_getElem? (i := 21) rfl) dX9_readRow_96 ?_
      obtain ⟨q5, h5, hf⟩ := o_bind hf
      refine aft_i hw (run_S C hw clX9_186 (As := [.ref (gK G 15)]) (rest := [.int x1]) (c_X9_of (by decide) h5) hl.1 rfl ⟨(Nat.le_of_ble_eq_true rfl), (Nat.le_of_ble_eq_true rfl)⟩ ⟨Nat.zero_le _, Nat.zero_le _⟩ rfl (Nat.le_of_ble_eq_true rfl) dX9_readRow_98) (fun H locs hw => ?_)
      refine lv_icmp_ne (tgt := 154) C.1.1 C.1.2.1 dX9_readRow_101 (by decide) (fun c6 => ?_) (fun c6 => ?_)
      · have hf := o_f hf c6
        refine lv_aload_n C.1.1 C.1.2.1 dX9_readRow_154 rfl (lv_at hl 0 rfl) ?_
        refine lv_aload_n C.1.1 C.1.2.1 dX9_readRow_155 rfl (lv_at hl 0 rfl) ?_
        refine lv_iconst (v := (0 : Int32)) C.1.1 C.1.2.1 dX9_readRow_156 rfl ?_
        refine lv_bipush (v := (99 : Int32)) C.1.1 C.1.2.1 dX9_readRow_157 rfl ?_
        obtain ⟨q7, h7, hf⟩ := o_bind hf
        refine aft_i hw (run_VM C hw clX9_193 (As := [.int (0 : Int32), .int (99 : Int32)]) (rest := [.ref (gA G (41 + 0))]) oM_0 (c_X9_readNumber h7) rfl hl.1 rfl ⟨(Nat.le_of_ble_eq_true rfl), (Nat.le_of_ble_eq_true rfl)⟩ ⟨Nat.zero_le _, Nat.zero_le _⟩ rfl (Nat.le_of_ble_eq_true rfl) dX9_readRow_159) (fun H locs hw => ?_)
        refine m_put C hw iM_0_18 flX9_154 dX9_readRow_162 (fun H locs hw => ?_)
        obtain rfl := Option.some.inj hf
        exact ret_v C hr hlk hw dX9_readRow_165
      · have hf := o_t hf c6
        refine lv_aload_n C.1.1 C.1.2.1 dX9_readRow_104 rfl (lv_at hl 0 rfl) ?_
        refine m_ref C hw fM_0_12 flX9_29 dX9_readRow_105 ?_
        refine lv_iconst (v := (2 : Int32)) C.1.1 C.1.2.1 dX9_readRow_108 rfl ?_
        refine lv_aload_n C.1.1 C.1.2.1 dX9_readRow_109 rfl (lv_at hl 0 rfl) ?_
        refine m_get C hw iM_0_17 flX9_151 dX9_readRow_110 ?_
        refine lv_imul C.1.1 C.1.2.1 dX9_readRow_113 ?_
        refine lv_aload_n C.1.1 C.1.2.1 dX9_readRow_114 rfl (lv_at hl 0 rfl) ?_
        refine lv_iconst (v := (0 : Int32)) C.1.1 C.1.2.1 dX9_readRow_115 rfl ?_
        refine lv_iconst (v := (1 : Int32)) C.1.1 C.1.2.1 dX9_readRow_116 rfl ?_
        obtain ⟨q8, h8, hf⟩ := o_bind hf
        refine aft_i hw (run_VM C hw clX9_193 (As := [.int (0 : Int32), .int (1 : Int32)]) (rest := [.int ((2 : Int32) * (M 0 17)), .ref (gA G (41 + 5))]) oM_0 (c_X9_readNumber h8) rfl hl.1 rfl ⟨(Nat.le_of_ble_eq_true rfl), (Nat.le_of_ble_eq_true rfl)⟩ ⟨Nat.zero_le _, Nat.zero_le _⟩ rfl (Nat.le_of_ble_eq_true rfl) dX9_readRow_117) (fun H locs hw => ?_)
        have g9 := inb_in (o_g hf).1
        have hf := (o_g hf).2
        refine m_ast C hw aM_5 g9 dX9_readRow_120 (fun H locs hw => ?_)
        refine lv_aload_n C.1.1 C.1.2.1 dX9_readRow_121 rfl (lv_at hl 0 rfl) ?_
        refine m_ref C hw fM_0_12 flX9_29 dX9_readRow_122 ?_
        refine lv_iconst (v := (2 : Int32)) C.1.1 C.1.2.1 dX9_readRow_125 rfl ?_
        refine lv_aload_n C.1.1 C.1.2.1 dX9_readRow_126 rfl (lv_at hl 0 rfl) ?_
        refine m_get C hw iM_0_17 flX9_151 dX9_readRow_127 ?_
        refine lv_imul C.1.1 C.1.2.1 dX9_readRow_130 ?_
        refine lv_iconst (v := (1 : Int32)) C.1.1 C.1.2.1 dX9_readRow_131 rfl ?_
        refine lv_iadd C.1.1 C.1.2.1 dX9_readRow_132 ?_
        refine lv_aload_n C.1.1 C.1.2.1 dX9_readRow_133 rfl (lv_at hl 0 rfl) ?_
        refine lv_iconst (v := (0 : Int32)) C.1.1 C.1.2.1 dX9_readRow_134 rfl ?_
        refine lv_bipush (v := (20 : Int32)) C.1.1 C.1.2.1 dX9_readRow_135 rfl ?_
        obtain ⟨q10, h10, hf⟩ := o_bind hf
        refine aft_i hw (run_VM C hw clX9_193 (As := [.int (0 : Int32), .int (20 : Int32)]) (rest := [.int (((2 : Int32) * ((u2 q8.1 5 (Int32.toNatClampNeg ((2 : Int32) * (M 0 17))) q8.2) 0 17)) + (1 : Int32)), .ref (gA G (41 + 5))]) oM_0 (c_X9_readNumber h10) rfl hl.1 rfl ⟨(Nat.le_of_ble_eq_true rfl), (Nat.le_of_ble_eq_true rfl)⟩ ⟨Nat.zero_le _, Nat.zero_le _⟩ rfl (Nat.le_of_ble_eq_true rfl) dX9_readRow_137) (fun H locs hw => ?_)
        have g11 := inb_in (o_g hf).1
        have hf := (o_g hf).2
        refine m_ast C hw aM_5 g11 dX9_readRow_140 (fun H locs hw => ?_)
        refine lv_aload_n C.1.1 C.1.2.1 dX9_readRow_141 rfl (lv_at hl 0 rfl) ?_
        refine lv_dup C.1.1 C.1.2.1 dX9_readRow_142 rfl ?_
        refine m_get C hw iM_0_17 flX9_151 dX9_readRow_143 ?_
        refine lv_iconst (v := (1 : Int32)) C.1.1 C.1.2.1 dX9_readRow_146 rfl ?_
        refine lv_iadd C.1.1 C.1.2.1 dX9_readRow_147 ?_
        refine m_put C hw iM_0_17 flX9_151 dX9_readRow_148 (fun H locs hw => ?_)
        refine lv_goto (tgt := 165) C.1.1 C.1.2.1 dX9_readRow_151 (by decide) ?_
        obtain rfl := Option.some.inj hf
        exact ret_v C hr hlk hw dX9_readRow_165
    · have hf := o_t hf c4
      refine lv_aload_n C.1.1 C.1.2.1 dX9_readRow_88 rfl (lv_at hl 0 rfl) ?_
      obtain ⟨q12, h12, hf⟩ := o_bind hf
      refine aft_v hw (run_VM C hw clX9_197 (As := []) (rest := []) oM_0 (c_X9_readRoad h12) rfl hl.1 rfl ⟨(Nat.le_of_ble_eq_true rfl), (Nat.le_of_ble_eq_true rfl)⟩ ⟨Nat.zero_le _, Nat.zero_le _⟩ rfl (Nat.le_of_ble_eq_true rfl) dX9_readRow_89) (fun H locs hw => ?_)
      refine lv_goto (tgt := 165) C.1.1 C.1.2.1 dX9_readRow_92 (by decide) ?_
      obtain rfl := Option.some.inj hf
      exact ret_v C hr hlk hw dX9_readRow_165
  · have hf := o_t hf c2
    refine lv_aload_n C.1.1 C.1.2.1 dX9_readRow_9 rfl (lv_at hl 0 rfl) ?_
    refine m_ref C hw fM_0_10 flX9_23 dX9_readRow_10 ?_
    refine lv_iconst (v := (3 : Int32)) C.1.1 C.1.2.1 dX9_readRow_13 rfl ?_
    refine lv_aload_n C.1.1 C.1.2.1 dX9_readRow_14 rfl (lv_at hl 0 rfl) ?_
    refine m_get C hw iM_0_16 flX9_148 dX9_readRow_15 ?_
    refine lv_imul C.1.1 C.1.2.1 dX9_readRow_18 ?_
    refine lv_aload_n C.1.1 C.1.2.1 dX9_readRow_19 rfl (lv_at hl 0 rfl) ?_
    refine lv_iconst (v := (0 : Int32)) C.1.1 C.1.2.1 dX9_readRow_20 rfl ?_
    refine lv_iconst (v := (3 : Int32)) C.1.1 C.1.2.1 dX9_readRow_21 rfl ?_
    obtain ⟨q13, h13, hf⟩ := o_bind hf
    refine aft_i hw (run_VM C hw clX9_193 (As := [.int (0 : Int32), .int (3 : Int32)]) (rest := [.int ((3 : Int32) * (M 0 16)), .ref (gA G (41 + 3))]) oM_0 (c_X9_readNumber h13) rfl hl.1 rfl ⟨(Nat.le_of_ble_eq_true rfl), (Nat.le_of_ble_eq_true rfl)⟩ ⟨Nat.zero_le _, Nat.zero_le _⟩ rfl (Nat.le_of_ble_eq_true rfl) dX9_readRow_22) (fun H locs hw => ?_)
    have g14 := inb_in (o_g hf).1
    have hf := (o_g hf).2
    refine m_ast C hw aM_3 g14 dX9_readRow_25 (fun H locs hw => ?_)
    refine lv_aload_n C.1.1 C.1.2.1 dX9_readRow_26 rfl (lv_at hl 0 rfl) ?_
    refine m_ref C hw fM_0_10 flX9_23 dX9_readRow_27 ?_
    refine lv_iconst (v := (3 : Int32)) C.1.1 C.1.2.1 dX9_readRow_30 rfl ?_
    refine lv_aload_n C.1.1 C.1.2.1 dX9_readRow_31 rfl (lv_at hl 0 rfl) ?_
    refine m_get C hw iM_0_16 flX9_148 dX9_readRow_32 ?_
    refine lv_imul C.1.1 C.1.2.1 dX9_readRow_35 ?_
    refine lv_iconst (v := (1 : Int32)) C.1.1 C.1.2.1 dX9_readRow_36 rfl ?_
    refine lv_iadd C.1.1 C.1.2.1 dX9_readRow_37 ?_
    refine lv_aload_n C.1.1 C.1.2.1 dX9_readRow_38 rfl (lv_at hl 0 rfl) ?_
    refine lv_iconst (v := (0 : Int32)) C.1.1 C.1.2.1 dX9_readRow_39 rfl ?_
    refine lv_bipush (v := (99 : Int32)) C.1.1 C.1.2.1 dX9_readRow_40 rfl ?_
    obtain ⟨q15, h15, hf⟩ := o_bind hf
    refine aft_i hw (run_VM C hw clX9_193 (As := [.int (0 : Int32), .int (99 : Int32)]) (rest := [.int (((3 : Int32) * ((u2 q13.1 3 (Int32.toNatClampNeg ((3 : Int32) * (M 0 16))) q13.2) 0 16)) + (1 : Int32)), .ref (gA G (41 + 3))]) oM_0 (c_X9_readNumber h15) rfl hl.1 rfl ⟨(Nat.le_of_ble_eq_true rfl), (Nat.le_of_ble_eq_true rfl)⟩ ⟨Nat.zero_le _, Nat.zero_le _⟩ rfl (Nat.le_of_ble_eq_true rfl) dX9_readRow_42) (fun H locs hw => ?_)
    have g16 := inb_in (o_g hf).1
    have hf := (o_g hf).2
    refine m_ast C hw aM_3 g16 dX9_readRow_45 (fun H locs hw => ?_)
    refine lv_aload_n C.1.1 C.1.2.1 dX9_readRow_46 rfl (lv_at hl 0 rfl) ?_
    refine m_ref C hw fM_0_10 flX9_23 dX9_readRow_47 ?_
    refine lv_iconst (v := (3 : Int32)) C.1.1 C.1.2.1 dX9_readRow_50 rfl ?_
    refine lv_aload_n C.1.1 C.1.2.1 dX9_readRow_51 rfl (lv_at hl 0 rfl) ?_
    refine m_get C hw iM_0_16 flX9_148 dX9_readRow_52 ?_
    refine lv_imul C.1.1 C.1.2.1 dX9_readRow_55 ?_
    refine lv_iconst (v := (2 : Int32)) C.1.1 C.1.2.1 dX9_readRow_56 rfl ?_
    refine lv_iadd C.1.1 C.1.2.1 dX9_readRow_57 ?_
    refine lv_aload_n C.1.1 C.1.2.1 dX9_readRow_58 rfl (lv_at hl 0 rfl) ?_
    refine lv_iconst (v := (0 : Int32)) C.1.1 C.1.2.1 dX9_readRow_59 rfl ?_
    refine lv_bipush (v := (99 : Int32)) C.1.1 C.1.2.1 dX9_readRow_60 rfl ?_
    obtain ⟨q17, h17, hf⟩ := o_bind hf
    refine aft_i hw (run_VM C hw clX9_193 (As := [.int (0 : Int32), .int (99 : Int32)]) (rest := [.int (((3 : Int32) * ((u2 q15.1 3 (Int32.toNatClampNeg (((3 : Int32) * ((u2 q13.1 3 (Int32.toNatClampNeg ((3 : Int32) * (M 0 16))) q13.2) 0 16)) + (1 : Int32))) q15.2) 0 16)) + (2 : Int32)), .ref (gA G (41 + 3))]) oM_0 (c_X9_readNumber h17) rfl hl.1 rfl ⟨(Nat.le_of_ble_eq_true rfl), (Nat.le_of_ble_eq_true rfl)⟩ ⟨Nat.zero_le _, Nat.zero_le _⟩ rfl (Nat.le_of_ble_eq_true rfl) dX9_readRow_62) (fun H locs hw => ?_)
    have g18 := inb_in (o_g hf).1
    have hf := (o_g hf).2
    refine m_ast C hw aM_3 g18 dX9_readRow_65 (fun H locs hw => ?_)
    refine lv_aload_n C.1.1 C.1.2.1 dX9_readRow_66 rfl (lv_at hl 0 rfl) ?_
    refine lv_dup C.1.1 C.1.2.1 dX9_readRow_67 rfl ?_
    refine m_get C hw iM_0_16 flX9_148 dX9_readRow_68 ?_
    refine lv_iconst (v := (1 : Int32)) C.1.1 C.1.2.1 dX9_readRow_71 rfl ?_
    refine lv_iadd C.1.1 C.1.2.1 dX9_readRow_72 ?_
    refine m_put C hw iM_0_16 flX9_148 dX9_readRow_73 (fun H locs hw => ?_)
    refine lv_goto (tgt := 165) C.1.1 C.1.2.1 dX9_readRow_76 (by decide) ?_
    obtain rfl := Option.some.inj hf
    exact ret_v C hr hlk hw dX9_readRow_165
end
/-! WinnerDrawsModel.isRow(I)Z (('i',)) -/
def f_X9_isRow (x0 : Int32) : Option (Int32) := (f_X9_of 8).bind fun q1 => if x0 = q1 then (some (1 : Int32)) else ((f_X9_of 12).bind fun q3 => if x0 = q3 then (some (1 : Int32)) else ((f_X9_of 15).bind fun q5 => if x0 = q5 then (some (1 : Int32)) else ((f_X9_of 10).bind fun q7 => if x0 = q7 then (some (1 : Int32)) else (some (0 : Int32)))))
section
variable {G : GP} {l : Launch}
set_option maxRecDepth 20000 in
set_option maxHeartbeats 2000000 in
theorem c_X9_isRow   {X M : TX} {L : TL} {x0 : Int32} {ro : Int32} (hf : f_X9_isRow x0 = some ro) : CTi G l yX9_isRow cX9_isRow 1 (some .boolean) 7 203 [.int x0] X M L X M L ro := by
  unfold f_X9_isRow at hf
  refine ct_of (by decide +kernel) (Nat.le_of_ble_eq_true rfl) (fun p e s m args below meth c H locs ls C hr hlk hw hl => ?_)
  have C : Cx G p s m args c cX9_isRow 1 RX9 := C
  have hl : lv_has ls 1 [(0, .int x0)] := hl
  refine lv_iload_n C.1.1 C.1.2.1 dX9_isRow_0 rfl (lv_at hl 0 rfl) ?_
  refine x_ldcS C (i := 8) (tx := "parish") (List.mem_of_getElem? (i := 19) rfl) dX9_isRow_1 ?_
  obtain ⟨q1, h1, hf⟩ := o_bind hf
  refine aft_i hw (run_S C hw clX9_186 (As := [.ref (gK G 8)]) (rest := [.int x0]) (c_X9_of (by decide) h1) hl.1 rfl ⟨(Nat.le_of_ble_eq_true rfl), (Nat.le_of_ble_eq_true rfl)⟩ ⟨Nat.zero_le _, Nat.zero_le _⟩ rfl (Nat.le_of_ble_eq_true rfl) dX9_isRow_3) (fun H locs hw => ?_)
  refine lv_icmp_eq (tgt := 36) C.1.1 C.1.2.1 dX9_isRow_6 (by decide) (fun c2 => ?_) (fun c2 => ?_)
  · have hf := o_t hf c2
    refine lv_iconst (v := (1 : Int32)) C.1.1 C.1.2.1 dX9_isRow_36 rfl ?_
    refine lv_goto (tgt := 41) C.1.1 C.1.2.1 dX9_isRow_37 (by decide) ?_
    obtain rfl := Option.some.inj hf
    exact ret_z (r := (1 : Int32)) C hr hlk hw rfl dX9_isRow_41
  · have hf := o_f hf c2
    refine lv_iload_n C.1.1 C.1.2.1 dX9_isRow_9 rfl (lv_at hl 0 rfl) ?_
    refine x_ldcS C (i := 12) (tx := "road") (List.mem_of_getElem? (i := 20) rfl) dX9_isRow_10 ?_
    obtain ⟨q3, h3, hf⟩ := o_bind hf
    refine aft_i hw (run_S C hw clX9_186 (As := [.ref (gK G 12)]) (rest := [.int x0]) (c_X9_of (by decide) h3) hl.1 rfl ⟨(Nat.le_of_ble_eq_true rfl), (Nat.le_of_ble_eq_true rfl)⟩ ⟨Nat.zero_le _, Nat.zero_le _⟩ rfl (Nat.le_of_ble_eq_true rfl) dX9_isRow_12) (fun H locs hw => ?_)
    refine lv_icmp_eq (tgt := 36) C.1.1 C.1.2.1 dX9_isRow_15 (by decide) (fun c4 => ?_) (fun c4 => ?_)
    · have hf := o_t hf c4
      refine lv_iconst (v := (1 : Int32)) C.1.1 C.1.2.1 dX9_isRow_36 rfl ?_
      refine lv_goto (tgt := 41) C.1.1 C.1.2.1 dX9_isRow_37 (by decide) ?_
      obtain rfl := Option.some.inj hf
      exact ret_z (r := (1 : Int32)) C hr hlk hw rfl dX9_isRow_41
    · have hf := o_f hf c4
      refine lv_iload_n C.1.1 C.1.2.1 dX9_isRow_18 rfl (lv_at hl 0 rfl) ?_
      refine x_ldcS C (i := 15) (tx := "tide") (List.mem_of_getElem? (i := 21) rfl) dX9_isRow_19 ?_
      obtain ⟨q5, h5, hf⟩ := o_bind hf
      refine aft_i hw (run_S C hw clX9_186 (As := [.ref (gK G 15)]) (rest := [.int x0]) (c_X9_of (by decide) h5) hl.1 rfl ⟨(Nat.le_of_ble_eq_true rfl), (Nat.le_of_ble_eq_true rfl)⟩ ⟨Nat.zero_le _, Nat.zero_le _⟩ rfl (Nat.le_of_ble_eq_true rfl) dX9_isRow_21) (fun H locs hw => ?_)
      refine lv_icmp_eq (tgt := 36) C.1.1 C.1.2.1 dX9_isRow_24 (by decide) (fun c6 => ?_) (fun c6 => ?_)
      · have hf := o_t hf c6
        refine lv_iconst (v := (1 : Int32)) C.1.1 C.1.2.1 dX9_isRow_36 rfl ?_
        refine lv_goto (tgt := 41) C.1.1 C.1.2.1 dX9_isRow_37 (by decide) ?_
        obtain rfl := Option.some.inj hf
        exact ret_z (r := (1 : Int32)) C hr hlk hw rfl dX9_isRow_41
      · have hf := o_f hf c6
        refine lv_iload_n C.1.1 C.1.2.1 dX9_isRow_27 rfl (lv_at hl 0 rfl) ?_
        refine x_ldcS C (i := 10) (tx := "purse") (List.mem_of_getElem? (i := 22) rfl) dX9_isRow_28 ?_
        obtain ⟨q7, h7, hf⟩ := o_bind hf
        refine aft_i hw (run_S C hw clX9_186 (As := [.ref (gK G 10)]) (rest := [.int x0]) (c_X9_of (by decide) h7) hl.1 rfl ⟨(Nat.le_of_ble_eq_true rfl), (Nat.le_of_ble_eq_true rfl)⟩ ⟨Nat.zero_le _, Nat.zero_le _⟩ rfl (Nat.le_of_ble_eq_true rfl) dX9_isRow_30) (fun H locs hw => ?_)
        refine lv_icmp_ne (tgt := 40) C.1.1 C.1.2.1 dX9_isRow_33 (by decide) (fun c8 => ?_) (fun c8 => ?_)
        · have hf := o_f hf c8
          refine lv_iconst (v := (0 : Int32)) C.1.1 C.1.2.1 dX9_isRow_40 rfl ?_
          obtain rfl := Option.some.inj hf
          exact ret_z (r := (0 : Int32)) C hr hlk hw rfl dX9_isRow_41
        · have hf := o_t hf c8
          refine lv_iconst (v := (1 : Int32)) C.1.1 C.1.2.1 dX9_isRow_36 rfl ?_
          refine lv_goto (tgt := 41) C.1.1 C.1.2.1 dX9_isRow_37 (by decide) ?_
          obtain rfl := Option.some.inj hf
          exact ret_z (r := (1 : Int32)) C hr hlk hw rfl dX9_isRow_41
end
