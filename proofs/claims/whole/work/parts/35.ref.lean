/-! WinnerDrawsModel.hangs(I)Z (('o', 'M', 0) ('i',)) -/
def L_X9_hangs_24 (k_13 : TX → Int32 → Int32 → Int32 → Option (Int32)) : Nat → TX → Int32 → Int32 → Int32 → Int32 → Option (Int32)
  | 0 => fun _ _ _ _ _ => none
  | n + 1 => fun M x1 x2 x3 x4 => if (M 0 19) ≤ x4 then (k_13 M x1 x2 (x3 + (1 : Int32))) else (if ((x2 >>> (x4 &&& 31)) &&& (1 : Int32)) = (1 : Int32) then (if inb x4 10 = true then ((L_X9_hangs_24 k_13 n) M x1 (x2 ||| ((M 7 (Int32.toNatClampNeg x4)) &&& x1)) x3 (x4 + (1 : Int32))) else none) else ((L_X9_hangs_24 k_13 n) M x1 (x2 ||| (0 : Int32)) x3 (x4 + (1 : Int32))))
def L_X9_hangs_13 : Nat → TX → Int32 → Int32 → Int32 → Option (Int32)
  | 0 => fun _ _ _ _ => none
  | n + 1 => fun M x1 x2 x3 => if (M 0 19) ≤ x3 then (if x2 = x1 then (some (1 : Int32)) else (some (0 : Int32))) else (L_X9_hangs_24 (L_X9_hangs_13 n) FU M x1 x2 x3 (0 : Int32))
def f_X9_hangs (M : TX) (x1 : Int32) : Option (Int32) := if x1 = 0 then (some (1 : Int32)) else (L_X9_hangs_13 FU M x1 (x1 &&& (-x1)) (0 : Int32))
section
variable {G : GP} {l : Launch}
set_option maxRecDepth 20000 in
set_option maxHeartbeats 2000000 in
theorem wL_X9_hangs_24 {p : Program} {e : Env} {s : State} {m : MethodId} {args : Array Value} {below : List Frame} {meth : Method} {c : Code} (C : Cx G p s m args c cX9_hangs 5 RX9) (hr : meth.sig.returnType = (some .boolean)) (hlk : meth.locks = false) {ro : Int32} {k_13 : TX → Int32 → Int32 → Int32 → Option (Int32)} (hk_13 : ∀ (X : TX) (M : TX) (L : TL) (x1 : Int32) (x2 : Int32) (x3 : Int32) (H : Heap) (locs : List Loc) (ls : Array Slot), Wh G s X M L H locs → lv_has ls 5 [(0, .ref (gA G (41 + 0))), (1, .int x1), (2, .int x2), (3, .int x3)] → k_13 M x1 x2 x3 = some ro → W p l e (rz 0 0) s m args below meth c H locs 0 0 (MQ below (Di G X M L ro) args s 0 0 (AB G)) (F0 m 13 ls [])) : ∀ (n : Nat), ∀ (X : TX) (M : TX) (L : TL) (x1 : Int32) (x2 : Int32) (x3 : Int32) (x4 : Int32) (H : Heap) (locs : List Loc) (ls : Array Slot), Wh G s X M L H locs → lv_has ls 5 [(0, .ref (gA G (41 + 0))), (1, .int x1), (2, .int x2), (3, .int x3), (4, .int x4)] → L_X9_hangs_24 k_13 n M x1 x2 x3 x4 = some ro → W p l e (rz 0 0) s m args below meth c H locs 0 0 (MQ below (Di G X M L ro) args s 0 0 (AB G)) (F0 m 24 ls []) := by
  intro n
  induction n with
  | zero =>
    intro X M L x1 x2 x3 x4 H locs ls hw hl hf
    cases hf
  | succ n hk_24 =>
    intro X M L x1 x2 x3 x4 H locs ls hw hl hf
    rw [L_X9_hangs_24] at hf
    refine lv_iload C.1.1 C.1.2.1 dX9_hangs_24 (lv_at hl 4 rfl) ?_
    refine lv_aload_n C.1.1 C.1.2.1 dX9_hangs_26 rfl (lv_at hl 0 rfl) ?_
    refine m_get C hw iM_0_19 flX9_157 dX9_hangs_27 ?_
    refine lv_icmp_ge (tgt := 65) C.1.1 C.1.2.1 dX9_hangs_30 (by decide) (fun c4 => ?_) (fun c4 => ?_)
    · have hf := o_t hf c4
      refine lv_iinc (v := (x3 + (1 : Int32))) (lv' := [(3, .int (x3 + (1 : Int32))), (0, .ref (gA G (41 + 0))), (1, .int x1), (2, .int x2), (4, .int x4)]) C.1.1 C.1.2.1 dX9_hangs_65 hl (k := 3) rfl rfl (by decide) rfl (fun ls hl => ?_)
      refine lv_goto (tgt := 13) C.1.1 C.1.2.1 dX9_hangs_68 (by decide) ?_
      exact hk_13 X M L x1 x2 (x3 + (1 : Int32)) _ _ _ hw (lv_sub hl [1, 2, 3, 0] rfl) hf
    · have hf := o_f hf c4
      refine lv_iload_n C.1.1 C.1.2.1 dX9_hangs_33 rfl (lv_at hl 2 rfl) ?_
      refine lv_iload_n C.1.1 C.1.2.1 dX9_hangs_34 rfl (lv_at hl 2 rfl) ?_
      refine lv_iload C.1.1 C.1.2.1 dX9_hangs_35 (lv_at hl 4 rfl) ?_
      refine lv_ishr C.1.1 C.1.2.1 dX9_hangs_37 ?_
      refine lv_iconst (v := (1 : Int32)) C.1.1 C.1.2.1 dX9_hangs_38 rfl ?_
      refine lv_iand C.1.1 C.1.2.1 dX9_hangs_39 ?_
      refine lv_iconst (v := (1 : Int32)) C.1.1 C.1.2.1 dX9_hangs_40 rfl ?_
      refine lv_icmp_ne (tgt := 56) C.1.1 C.1.2.1 dX9_hangs_41 (by decide) (fun c5 => ?_) (fun c5 => ?_)
      · have hf := o_f hf c5
        refine lv_iconst (v := (0 : Int32)) C.1.1 C.1.2.1 dX9_hangs_56 rfl ?_
        refine lv_ior C.1.1 C.1.2.1 dX9_hangs_57 ?_
        refine lv_istore_n (lv' := [(2, .int (x2 ||| (0 : Int32))), (0, .ref (gA G (41 + 0))), (1, .int x1), (3, .int x3), (4, .int x4)]) C.1.1 C.1.2.1 dX9_hangs_58 rfl hl (by decide) rfl (fun ls hl => ?_)
        refine lv_iinc (v := (x4 + (1 : Int32))) (lv' := [(4, .int (x4 + (1 : Int32))), (2, .int (x2 ||| (0 : Int32))), (0, .ref (gA G (41 + 0))), (1, .int x1), (3, .int x3)]) C.1.1 C.1.2.1 dX9_hangs_59 hl (k := 4) rfl rfl (by decide) rfl (fun ls hl => ?_)
        refine lv_goto (tgt := 24) C.1.1 C.1.2.1 dX9_hangs_62 (by decide) ?_
        exact hk_24 X M L x1 (x2 ||| (0 : Int32)) x3 (x4 + (1 : Int32)) _ _ _ hw (lv_sub hl [2, 3, 1, 4, 0] rfl) hf
      · have hf := o_t hf c5
        refine lv_aload_n C.1.1 C.1.2.1 dX9_hangs_44 rfl (lv_at hl 0 rfl) ?_
        refine m_ref C hw fM_0_14 flX9_35 dX9_hangs_45 ?_
        refine lv_iload C.1.1 C.1.2.1 dX9_hangs_48 (lv_at hl 4 rfl) ?_
        have g6 := inb_in (o_g hf).1
        have hf := (o_g hf).2
        refine m_ald C hw aM_7 g6 dX9_hangs_50 ?_
        refine lv_iload_n C.1.1 C.1.2.1 dX9_hangs_51 rfl (lv_at hl 1 rfl) ?_
        refine lv_iand C.1.1 C.1.2.1 dX9_hangs_52 ?_
        refine lv_goto (tgt := 57) C.1.1 C.1.2.1 dX9_hangs_53 (by decide) ?_
        refine lv_ior C.1.1 C.1.2.1 dX9_hangs_57 ?_
        refine lv_istore_n (lv' := [(2, .int (x2 ||| ((M 7 (Int32.toNatClampNeg x4)) &&& x1))), (0, .ref (gA G (41 + 0))), (1, .int x1), (3, .int x3), (4, .int x4)]) C.1.1 C.1.2.1 dX9_hangs_58 rfl hl (by decide) rfl (fun ls hl => ?_)
        refine lv_iinc (v := (x4 + (1 : Int32))) (lv' := [(4, .int (x4 + (1 : Int32))), (2, .int (x2 ||| ((M 7 (Int32.toNatClampNeg x4)) &&& x1))), (0, .ref (gA G (41 + 0))), (1, .int x1), (3, .int x3)]) C.1.1 C.1.2.1 dX9_hangs_59 hl (k := 4) rfl rfl (by decide) rfl (fun ls hl => ?_)
        refine lv_goto (tgt := 24) C.1.1 C.1.2.1 dX9_hangs_62 (by decide) ?_
        exact hk_24 X M L x1 (x2 ||| ((M 7 (Int32.toNatClampNeg x4)) &&& x1)) x3 (x4 + (1 : Int32)) _ _ _ hw (lv_sub hl [2, 3, 1, 4, 0] rfl) hf
set_option maxRecDepth 20000 in
set_option maxHeartbeats 2000000 in
theorem wL_X9_hangs_13 {p : Program} {e : Env} {s : State} {m : MethodId} {args : Array Value} {below : List Frame} {meth : Method} {c : Code} (C : Cx G p s m args c cX9_hangs 5 RX9) (hr : meth.sig.returnType = (some .boolean)) (hlk : meth.locks = false) {ro : Int32} : ∀ (n : Nat), ∀ (X : TX) (M : TX) (L : TL) (x1 : Int32) (x2 : Int32) (x3 : Int32) (H : Heap) (locs : List Loc) (ls : Array Slot), Wh G s X M L H locs → lv_has ls 5 [(0, .ref (gA G (41 + 0))), (1, .int x1), (2, .int x2), (3, .int x3)] → L_X9_hangs_13 n M x1 x2 x3 = some ro → W p l e (rz 0 0) s m args below meth c H locs 0 0 (MQ below (Di G X M L ro) args s 0 0 (AB G)) (F0 m 13 ls []) := by
  intro n
  induction n with
  | zero =>
    intro X M L x1 x2 x3 H locs ls hw hl hf
    cases hf
  | succ n hk_13 =>
    intro X M L x1 x2 x3 H locs ls hw hl hf
    rw [L_X9_hangs_13] at hf
    refine lv_iload_n C.1.1 C.1.2.1 dX9_hangs_13 rfl (lv_at hl 3 rfl) ?_
    refine lv_aload_n C.1.1 C.1.2.1 dX9_hangs_14 rfl (lv_at hl 0 rfl) ?_
    refine m_get C hw iM_0_19 flX9_157 dX9_hangs_15 ?_
    refine lv_icmp_ge (tgt := 71) C.1.1 C.1.2.1 dX9_hangs_18 (by decide) (fun c2 => ?_) (fun c2 => ?_)
    · have hf := o_t hf c2
      refine lv_iload_n C.1.1 C.1.2.1 dX9_hangs_71 rfl (lv_at hl 2 rfl) ?_
      refine lv_iload_n C.1.1 C.1.2.1 dX9_hangs_72 rfl (lv_at hl 1 rfl) ?_
      refine lv_icmp_ne (tgt := 80) C.1.1 C.1.2.1 dX9_hangs_73 (by decide) (fun c3 => ?_) (fun c3 => ?_)
      · have hf := o_f hf c3
        refine lv_iconst (v := (0 : Int32)) C.1.1 C.1.2.1 dX9_hangs_80 rfl ?_
        obtain rfl := Option.some.inj hf
        exact ret_z (r := (0 : Int32)) C hr hlk hw rfl dX9_hangs_81
      · have hf := o_t hf c3
        refine lv_iconst (v := (1 : Int32)) C.1.1 C.1.2.1 dX9_hangs_76 rfl ?_
        refine lv_goto (tgt := 81) C.1.1 C.1.2.1 dX9_hangs_77 (by decide) ?_
        obtain rfl := Option.some.inj hf
        exact ret_z (r := (1 : Int32)) C hr hlk hw rfl dX9_hangs_81
    · have hf := o_f hf c2
      refine lv_iconst (v := (0 : Int32)) C.1.1 C.1.2.1 dX9_hangs_21 rfl ?_
      refine lv_istore (lv' := [(4, .int (0 : Int32)), (0, .ref (gA G (41 + 0))), (1, .int x1), (2, .int x2), (3, .int x3)]) C.1.1 C.1.2.1 dX9_hangs_22 hl (by decide) rfl (fun ls hl => ?_)
      exact wL_X9_hangs_24 C hr hlk hk_13 FU X M L x1 x2 x3 (0 : Int32) _ _ _ hw (lv_sub hl [1, 2, 3, 4, 0] rfl) hf
set_option maxRecDepth 20000 in
set_option maxHeartbeats 2000000 in
theorem c_X9_hangs   {X M : TX} {L : TL} {x1 : Int32} {ro : Int32} (hf : f_X9_hangs M x1 = some ro) : CTi G l yX9_hangs cX9_hangs 5 (some .boolean) 0 0 [.ref (gA G (41 + 0)), .int x1] X M L X M L ro := by
  unfold f_X9_hangs at hf
  refine ct_of (by decide +kernel) (Nat.le_of_ble_eq_true rfl) (fun p e s m args below meth c H locs ls C hr hlk hw hl => ?_)
  have C : Cx G p s m args c cX9_hangs 5 RX9 := C
  have hl : lv_has ls 5 [(0, .ref (gA G (41 + 0))), (1, .int x1)] := hl
  refine lv_iload_n C.1.1 C.1.2.1 dX9_hangs_0 rfl (lv_at hl 1 rfl) ?_
  refine lv_if_ne (tgt := 6) C.1.1 C.1.2.1 dX9_hangs_1 (by decide) (fun c1 => ?_) (fun c1 => ?_)
  · have hf := o_f hf c1
    refine lv_iload_n C.1.1 C.1.2.1 dX9_hangs_6 rfl (lv_at hl 1 rfl) ?_
    refine lv_iload_n C.1.1 C.1.2.1 dX9_hangs_7 rfl (lv_at hl 1 rfl) ?_
    refine lv_ineg C.1.1 C.1.2.1 dX9_hangs_8 ?_
    refine lv_iand C.1.1 C.1.2.1 dX9_hangs_9 ?_
    refine lv_istore_n (lv' := [(2, .int (x1 &&& (-x1))), (0, .ref (gA G (41 + 0))), (1, .int x1)]) C.1.1 C.1.2.1 dX9_hangs_10 rfl hl (by decide) rfl (fun ls hl => ?_)
    refine lv_iconst (v := (0 : Int32)) C.1.1 C.1.2.1 dX9_hangs_11 rfl ?_
    refine lv_istore_n (lv' := [(3, .int (0 : Int32)), (2, .int (x1 &&& (-x1))), (0, .ref (gA G (41 + 0))), (1, .int x1)]) C.1.1 C.1.2.1 dX9_hangs_12 rfl hl (by decide) rfl (fun ls hl => ?_)
    exact wL_X9_hangs_13 C hr hlk FU X M L x1 (x1 &&& (-x1)) (0 : Int32) _ _ _ hw (lv_sub hl [2, 3, 1, 0] rfl) hf
  · have hf := o_t hf c1
    refine lv_iconst (v := (1 : Int32)) C.1.1 C.1.2.1 dX9_hangs_4 rfl ?_
    obtain rfl := Option.some.inj hf
    exact ret_z (r := (1 : Int32)) C hr hlk hw rfl dX9_hangs_5
end
/-! WinnerDrawsModel.mayCome(II)Z (('o', 'M', 0) ('i',) ('i',)) -/
def f_X9_mayCome (M : TX) (x1 : Int32) (x2 : Int32) : Option (Int32) := if inb ((0 : Int32) + x1) 34 = true then ((f_X9_setOf M (M 20 (Int32.toNatClampNeg ((0 : Int32) + x1)))).bind fun q2 => if inb ((0 : Int32) + x1) 34 = true then (if (M 20 (Int32.toNatClampNeg ((0 : Int32) + x1))) = x2 then (some (0 : Int32)) else (if inb x1 10 = true then ((f_X9_setOf M x2).bind fun q6 => if ((M 7 (Int32.toNatClampNeg x1)) &&& q6) = 0 then (some (0 : Int32)) else (if (q2 &&& (((1 : Int32) <<< (x1 &&& 31)) ^^^ (-1 : Int32))) = 0 then (some (0 : Int32)) else ((f_X9_hangs M (q2 &&& (((1 : Int32) <<< (x1 &&& 31)) ^^^ (-1 : Int32)))).bind fun q9 => if q9 = 0 then (some (0 : Int32)) else (some (1 : Int32))))) else none)) else none) else none
section
variable {G : GP} {l : Launch}
set_option maxRecDepth 20000 in
set_option maxHeartbeats 2000000 in
theorem c_X9_mayCome   {X M : TX} {L : TL} {x1 : Int32} {x2 : Int32} {ro : Int32} (hf : f_X9_mayCome M x1 x2 = some ro) : CTi G l yX9_mayCome cX9_mayCome 4 (some .boolean) 1 24 [.ref (gA G (41 + 0)), .int x1, .int x2] X M L X M L ro := by
  unfold f_X9_mayCome at hf
  refine ct_of (by decide +kernel) (Nat.le_of_ble_eq_true rfl) (fun p e s m args below meth c H locs ls C hr hlk hw hl => ?_)
  have C : Cx G p s m args c cX9_mayCome 4 RX9 := C
  have hl : lv_has ls 4 [(0, .ref (gA G (41 + 0))), (1, .int x1), (2, .int x2)] := hl
  refine lv_aload_n C.1.1 C.1.2.1 dX9_mayCome_0 rfl (lv_at hl 0 rfl) ?_
  refine lv_aload_n C.1.1 C.1.2.1 dX9_mayCome_1 rfl (lv_at hl 0 rfl) ?_
  refine m_ref C hw fM_0_42 flX9_74 dX9_mayCome_2 ?_
  refine lv_iconst (v := (0 : Int32)) C.1.1 C.1.2.1 dX9_mayCome_5 rfl ?_
  refine lv_iload_n C.1.1 C.1.2.1 dX9_mayCome_6 rfl (lv_at hl 1 rfl) ?_
  refine lv_iadd C.1.1 C.1.2.1 dX9_mayCome_7 ?_
  have g1 := inb_in (o_g hf).1
  have hf := (o_g hf).2
  refine m_ald C hw aM_20 g1 dX9_mayCome_8 ?_
  obtain ⟨q2, h2, hf⟩ := o_bind hf
  refine aft_i hw (run_VM C hw clX9_329 (As := [.int (M 20 (Int32.toNatClampNeg ((0 : Int32) + x1)))]) (rest := []) oM_0 (c_X9_setOf h2) rfl hl.1 rfl ⟨(Nat.le_of_ble_eq_true rfl), (Nat.le_of_ble_eq_true rfl)⟩ ⟨Nat.zero_le _, Nat.zero_le _⟩ rfl (Nat.le_of_ble_eq_true rfl) dX9_mayCome_9) (fun H locs hw => ?_)
  refine lv_iconst (v := (1 : Int32)) C.1.1 C.1.2.1 dX9_mayCome_12 rfl ?_
  refine lv_iload_n C.1.1 C.1.2.1 dX9_mayCome_13 rfl (lv_at hl 1 rfl) ?_
  refine lv_ishl C.1.1 C.1.2.1 dX9_mayCome_14 ?_
  refine lv_iconst (v := (-1 : Int32)) C.1.1 C.1.2.1 dX9_mayCome_15 rfl ?_
  refine lv_ixor C.1.1 C.1.2.1 dX9_mayCome_16 ?_
  refine lv_iand C.1.1 C.1.2.1 dX9_mayCome_17 ?_
  refine lv_istore_n (lv' := [(3, .int (q2 &&& (((1 : Int32) <<< (x1 &&& 31)) ^^^ (-1 : Int32)))), (0, .ref (gA G (41 + 0))), (1, .int x1), (2, .int x2)]) C.1.1 C.1.2.1 dX9_mayCome_18 rfl hl (by decide) rfl (fun ls hl => ?_)
  refine lv_aload_n C.1.1 C.1.2.1 dX9_mayCome_19 rfl (lv_at hl 1 rfl) ?_
  refine m_ref C hw fM_0_42 flX9_74 dX9_mayCome_20 ?_
  refine lv_iconst (v := (0 : Int32)) C.1.1 C.1.2.1 dX9_mayCome_23 rfl ?_
  refine lv_iload_n C.1.1 C.1.2.1 dX9_mayCome_24 rfl (lv_at hl 2 rfl) ?_
  refine lv_iadd C.1.1 C.1.2.1 dX9_mayCome_25 ?_
  have g3 := inb_in (o_g hf).1
  have hf := (o_g hf).2
  refine m_ald C hw aM_20 g3 dX9_mayCome_26 ?_
  refine lv_iload_n C.1.1 C.1.2.1 dX9_mayCome_27 rfl (lv_at hl 3 rfl) ?_
  refine lv_icmp_eq (tgt := 62) C.1.1 C.1.2.1 dX9_mayCome_28 (by decide) (fun c4 => ?_) (fun c4 => ?_)
  · have hf := o_t hf c4
    refine lv_iconst (v := (0 : Int32)) C.1.1 C.1.2.1 dX9_mayCome_62 rfl ?_
    obtain rfl := Option.some.inj hf
    exact ret_z (r := (0 : Int32)) C hr hlk hw rfl dX9_mayCome_63
  · have hf := o_f hf c4
    refine lv_aload_n C.1.1 C.1.2.1 dX9_mayCome_31 rfl (lv_at hl 1 rfl) ?_
    refine m_ref C hw fM_0_14 flX9_35 dX9_mayCome_32 ?_
    refine lv_iload_n C.1.1 C.1.2.1 dX9_mayCome_35 rfl (lv_at hl 2 rfl) ?_
    have g5 := inb_in (o_g hf).1
    have hf := (o_g hf).2
    refine m_ald C hw aM_7 g5 dX9_mayCome_36 ?_
    refine lv_aload_n C.1.1 C.1.2.1 dX9_mayCome_37 rfl (lv_at hl 1 rfl) ?_
    refine lv_iload_n C.1.1 C.1.2.1 dX9_mayCome_38 rfl (lv_at hl 3 rfl) ?_
    obtain ⟨q6, h6, hf⟩ := o_bind hf
    refine aft_i hw (run_VM C hw clX9_329 (As := [.int x2]) (rest := [.int (M 7 (Int32.toNatClampNeg x1))]) oM_0 (c_X9_setOf h6) rfl hl.1 rfl ⟨(Nat.le_of_ble_eq_true rfl), (Nat.le_of_ble_eq_true rfl)⟩ ⟨Nat.zero_le _, Nat.zero_le _⟩ rfl (Nat.le_of_ble_eq_true rfl) dX9_mayCome_39) (fun H locs hw => ?_)
    refine lv_iand C.1.1 C.1.2.1 dX9_mayCome_42 ?_
    refine lv_if_eq (tgt := 62) C.1.1 C.1.2.1 dX9_mayCome_43 (by decide) (fun c7 => ?_) (fun c7 => ?_)
    · have hf := o_t hf c7
      refine lv_iconst (v := (0 : Int32)) C.1.1 C.1.2.1 dX9_mayCome_62 rfl ?_
      obtain rfl := Option.some.inj hf
      exact ret_z (r := (0 : Int32)) C hr hlk hw rfl dX9_mayCome_63
    · have hf := o_f hf c7
      refine lv_iload_n C.1.1 C.1.2.1 dX9_mayCome_46 rfl (lv_at hl 0 rfl) ?_
      refine lv_if_eq (tgt := 62) C.1.1 C.1.2.1 dX9_mayCome_47 (by decide) (fun c8 => ?_) (fun c8 => ?_)
      · have hf := o_t hf c8
        refine lv_iconst (v := (0 : Int32)) C.1.1 C.1.2.1 dX9_mayCome_62 rfl ?_
        obtain rfl := Option.some.inj hf
        exact ret_z (r := (0 : Int32)) C hr hlk hw rfl dX9_mayCome_63
      · have hf := o_f hf c8
        refine lv_aload_n C.1.1 C.1.2.1 dX9_mayCome_50 rfl (lv_at hl 1 rfl) ?_
        refine lv_iload_n C.1.1 C.1.2.1 dX9_mayCome_51 rfl (lv_at hl 0 rfl) ?_
        obtain ⟨q9, h9, hf⟩ := o_bind hf
        refine aft_i hw (run_VM C hw clX9_354 (As := [.int (q2 &&& (((1 : Int32) <<< (x1 &&& 31)) ^^^ (-1 : Int32)))]) (rest := []) oM_0 (c_X9_hangs h9) rfl hl.1 rfl ⟨(Nat.le_of_ble_eq_true rfl), (Nat.le_of_ble_eq_true rfl)⟩ ⟨Nat.zero_le _, Nat.zero_le _⟩ rfl (Nat.le_of_ble_eq_true rfl) dX9_mayCome_52) (fun H locs hw => ?_)
        refine lv_if_eq (tgt := 62) C.1.1 C.1.2.1 dX9_mayCome_55 (by decide) (fun c10 => ?_) (fun c10 => ?_)
        · have hf := o_t hf c10
          refine lv_iconst (v := (0 : Int32)) C.1.1 C.1.2.1 dX9_mayCome_62 rfl ?_
          obtain rfl := Option.some.inj hf
          exact ret_z (r := (0 : Int32)) C hr hlk hw rfl dX9_mayCome_63
        · have hf := o_f hf c10
          refine lv_iconst (v := (1 : Int32)) C.1.1 C.1.2.1 dX9_mayCome_58 rfl ?_
          refine lv_goto (tgt := 63) C.1.1 C.1.2.1 dX9_mayCome_59 (by decide) ?_
          obtain rfl := Option.some.inj hf
          exact ret_z (r := (1 : Int32)) C hr hlk hw rfl dX9_mayCome_63
end
/-! WinnerDrawsModel.ones(I)I (('i',)) -/
def L_X9_ones_4 : Nat → Int32 → Int32 → Int32 → Option (Int32)
  | 0 => fun _ _ _ => none
  | n + 1 => fun x0 x1 x2 => if (10 : Int32) ≤ x2 then (some x1) else ((L_X9_ones_4 n) x0 (x1 + ((x0 >>> (x2 &&& 31)) &&& (1 : Int32))) (x2 + (1 : Int32)))
def f_X9_ones (x0 : Int32) : Option (Int32) := L_X9_ones_4 FU x0 (0 : Int32) (0 : Int32)
section
variable {G : GP} {l : Launch}
set_option maxRecDepth 20000 in
set_option maxHeartbeats 2000000 in
theorem wL_X9_ones_4 {p : Program} {e : Env} {s : State} {m : MethodId} {args : Array Value} {below : List Frame} {meth : Method} {c : Code} (C : Cx G p s m args c cX9_ones 3 RX9) (hr : meth.sig.returnType = (some .int)) (hlk : meth.locks = false) {ro : Int32} : ∀ (n : Nat), ∀ (X : TX) (M : TX) (L : TL) (x0 : Int32) (x1 : Int32) (x2 : Int32) (H : Heap) (locs : List Loc) (ls : Array Slot), Wh G s X M L H locs → lv_has ls 3 [(0, .int x0), (1, .int x1), (2, .int x2)] → L_X9_ones_4 n x0 x1 x2 = some ro → W p l e (rz 0 0) s m args below meth c H locs 0 0 (MQ below (Di G X M L ro) args s 0 0 (AB G)) (F0 m 4 ls []) := by
  intro n
  induction n with
  | zero =>
    intro X M L x0 x1 x2 H locs ls hw hl hf
    cases hf
  | succ n hk_4 =>
    intro X M L x0 x1 x2 H locs ls hw hl hf
    rw [L_X9_ones_4] at hf
    refine lv_iload_n C.1.1 C.1.2.1 dX9_ones_4 rfl (lv_at hl 2 rfl) ?_
    refine lv_bipush (v := (10 : Int32)) C.1.1 C.1.2.1 dX9_ones_5 rfl ?_
    refine lv_icmp_ge (tgt := 24) C.1.1 C.1.2.1 dX9_ones_7 (by decide) (fun c1 => ?_) (fun c1 => ?_)
    · have hf := o_t hf c1
      refine lv_iload_n C.1.1 C.1.2.1 dX9_ones_24 rfl (lv_at hl 1 rfl) ?_
      obtain rfl := Option.some.inj hf
      exact ret_i C hr hlk hw dX9_ones_25
    · have hf := o_f hf c1
      refine lv_iload_n C.1.1 C.1.2.1 dX9_ones_10 rfl (lv_at hl 1 rfl) ?_
      refine lv_iload_n C.1.1 C.1.2.1 dX9_ones_11 rfl (lv_at hl 0 rfl) ?_
      refine lv_iload_n C.1.1 C.1.2.1 dX9_ones_12 rfl (lv_at hl 2 rfl) ?_
      refine lv_ishr C.1.1 C.1.2.1 dX9_ones_13 ?_
      refine lv_iconst (v := (1 : Int32)) C.1.1 C.1.2.1 dX9_ones_14 rfl ?_
      refine lv_iand C.1.1 C.1.2.1 dX9_ones_15 ?_
      refine lv_iadd C.1.1 C.1.2.1 dX9_ones_16 ?_
      refine lv_istore_n (lv' := [(1, .int (x1 + ((x0 >>> (x2 &&& 31)) &&& (1 : Int32)))), (0, .int x0), (2, .int x2)]) C.1.1 C.1.2.1 dX9_ones_17 rfl hl (by decide) rfl (fun ls hl => ?_)
      refine lv_iinc (v := (x2 + (1 : Int32))) (lv' := [(2, .int (x2 + (1 : Int32))), (1, .int (x1 + ((x0 >>> (x2 &&& 31)) &&& (1 : Int32)))), (0, .int x0)]) C.1.1 C.1.2.1 dX9_ones_18 hl (k := 2) rfl rfl (by decide) rfl (fun ls hl => ?_)
      refine lv_goto (tgt := 4) C.1.1 C.1.2.1 dX9_ones_21 (by decide) ?_
      exact hk_4 X M L x0 (x1 + ((x0 >>> (x2 &&& 31)) &&& (1 : Int32))) (x2 + (1 : Int32)) _ _ _ hw (lv_sub hl [2, 1, 0] rfl) hf
set_option maxRecDepth 20000 in
set_option maxHeartbeats 2000000 in
theorem c_X9_ones   {X M : TX} {L : TL} {x0 : Int32} {ro : Int32} (hf : f_X9_ones x0 = some ro) : CTi G l yX9_ones cX9_ones 3 (some .int) 0 0 [.int x0] X M L X M L ro := by
  unfold f_X9_ones at hf
  refine ct_of (by decide +kernel) (Nat.le_of_ble_eq_true rfl) (fun p e s m args below meth c H locs ls C hr hlk hw hl => ?_)
  have C : Cx G p s m args c cX9_ones 3 RX9 := C
  have hl : lv_has ls 3 [(0, .int x0)] := hl
  refine lv_iconst (v := (0 : Int32)) C.1.1 C.1.2.1 dX9_ones_0 rfl ?_
  refine lv_istore_n (lv' := [(1, .int (0 : Int32)), (0, .int x0)]) C.1.1 C.1.2.1 dX9_ones_1 rfl hl (by decide) rfl (fun ls hl => ?_)
  refine lv_iconst (v := (0 : Int32)) C.1.1 C.1.2.1 dX9_ones_2 rfl ?_
  refine lv_istore_n (lv' := [(2, .int (0 : Int32)), (1, .int (0 : Int32)), (0, .int x0)]) C.1.1 C.1.2.1 dX9_ones_3 rfl hl (by decide) rfl (fun ls hl => ?_)
  exact wL_X9_ones_4 C hr hlk FU X M L x0 (0 : Int32) (0 : Int32) _ _ _ hw (lv_sub hl [2, 1, 0] rfl) hf
end
/-! WinnerDrawsModel.linesNow()I (('o', 'M', 0)) -/
def L_X9_linesNow_14 (k_4 : TX → Int32 → Int32 → Option (Int32)) : Nat → TX → Int32 → Int32 → Int32 → Option (Int32)
  | 0 => fun _ _ _ _ => none
  | n + 1 => fun M x1 x2 x3 => if x2 ≤ x3 then (k_4 M x1 (x2 + (1 : Int32))) else (if inb x2 10 = true then (if (((M 7 (Int32.toNatClampNeg x2)) >>> (x3 &&& 31)) &&& (1 : Int32)) = (1 : Int32) then (if inb ((0 : Int32) + x2) 34 = true then (if inb ((0 : Int32) + x3) 34 = true then (if (M 20 (Int32.toNatClampNeg ((0 : Int32) + x2))) = (M 20 (Int32.toNatClampNeg ((0 : Int32) + x3))) then ((L_X9_linesNow_14 k_4 n) M (x1 + (0 : Int32)) x2 (x3 + (1 : Int32))) else ((L_X9_linesNow_14 k_4 n) M (x1 + (1 : Int32)) x2 (x3 + (1 : Int32)))) else none) else none) else ((L_X9_linesNow_14 k_4 n) M (x1 + (0 : Int32)) x2 (x3 + (1 : Int32)))) else none)
def L_X9_linesNow_4 : Nat → TX → Int32 → Int32 → Option (Int32)
  | 0 => fun _ _ _ => none
  | n + 1 => fun M x1 x2 => if (M 0 19) ≤ x2 then (some x1) else (L_X9_linesNow_14 (L_X9_linesNow_4 n) FU M x1 x2 (0 : Int32))
def f_X9_linesNow (M : TX) : Option (Int32) := L_X9_linesNow_4 FU M (0 : Int32) (0 : Int32)
section
variable {G : GP} {l : Launch}
set_option maxRecDepth 20000 in
set_option maxHeartbeats 2000000 in
theorem wL_X9_linesNow_14 {p : Program} {e : Env} {s : State} {m : MethodId} {args : Array Value} {below : List Frame} {meth : Method} {c : Code} (C : Cx G p s m args c cX9_linesNow 4 RX9) (hr : meth.sig.returnType = (some .int)) (hlk : meth.locks = false) {ro : Int32} {k_4 : TX → Int32 → Int32 → Option (Int32)} (hk_4 : ∀ (X : TX) (M : TX) (L : TL) (x1 : Int32) (x2 : Int32) (H : Heap) (locs : List Loc) (ls : Array Slot), Wh G s X M L H locs → lv_has ls 4 [(0, .ref (gA G (41 + 0))), (1, .int x1), (2, .int x2)] → k_4 M x1 x2 = some ro → W p l e (rz 0 0) s m args below meth c H locs 0 0 (MQ below (Di G X M L ro) args s 0 0 (AB G)) (F0 m 4 ls [])) : ∀ (n : Nat), ∀ (X : TX) (M : TX) (L : TL) (x1 : Int32) (x2 : Int32) (x3 : Int32) (H : Heap) (locs : List Loc) (ls : Array Slot), Wh G s X M L H locs → lv_has ls 4 [(0, .ref (gA G (41 + 0))), (1, .int x1), (2, .int x2), (3, .int x3)] → L_X9_linesNow_14 k_4 n M x1 x2 x3 = some ro → W p l e (rz 0 0) s m args below meth c H locs 0 0 (MQ below (Di G X M L ro) args s 0 0 (AB G)) (F0 m 14 ls []) := by
  intro n
  induction n with
  | zero =>
    intro X M L x1 x2 x3 H locs ls hw hl hf
    cases hf
  | succ n hk_14 =>
    intro X M L x1 x2 x3 H locs ls hw hl hf
    rw [L_X9_linesNow_14] at hf
    refine lv_iload_n C.1.1 C.1.2.1 dX9_linesNow_14 rfl (lv_at hl 3 rfl) ?_
    refine lv_iload_n C.1.1 C.1.2.1 dX9_linesNow_15 rfl (lv_at hl 2 rfl) ?_
    refine lv_icmp_ge (tgt := 66) C.1.1 C.1.2.1 dX9_linesNow_16 (by decide) (fun c2 => ?_) (fun c2 => ?_)
    · have hf := o_t hf c2
      refine lv_iinc (v := (x2 + (1 : Int32))) (lv' := [(2, .int (x2 + (1 : Int32))), (0, .ref (gA G (41 + 0))), (1, .int x1), (3, .int x3)]) C.1.1 C.1.2.1 dX9_linesNow_66 hl (k := 2) rfl rfl (by decide) rfl (fun ls hl => ?_)
      refine lv_goto (tgt := 4) C.1.1 C.1.2.1 dX9_linesNow_69 (by decide) ?_
      exact hk_4 X M L x1 (x2 + (1 : Int32)) _ _ _ hw (lv_sub hl [1, 2, 0] rfl) hf
    · have hf := o_f hf c2
      refine lv_iload_n C.1.1 C.1.2.1 dX9_linesNow_19 rfl (lv_at hl 1 rfl) ?_
      refine lv_aload_n C.1.1 C.1.2.1 dX9_linesNow_20 rfl (lv_at hl 0 rfl) ?_
      refine m_ref C hw fM_0_14 flX9_35 dX9_linesNow_21 ?_
      refine lv_iload_n C.1.1 C.1.2.1 dX9_linesNow_24 rfl (lv_at hl 2 rfl) ?_
      have g3 := inb_in (o_g hf).1
      have hf := (o_g hf).2
      refine m_ald C hw aM_7 g3 dX9_linesNow_25 ?_
      refine lv_iload_n C.1.1 C.1.2.1 dX9_linesNow_26 rfl (lv_at hl 3 rfl) ?_
      refine lv_ishr C.1.1 C.1.2.1 dX9_linesNow_27 ?_
      refine lv_iconst (v := (1 : Int32)) C.1.1 C.1.2.1 dX9_linesNow_28 rfl ?_
      refine lv_iand C.1.1 C.1.2.1 dX9_linesNow_29 ?_
      refine lv_iconst (v := (1 : Int32)) C.1.1 C.1.2.1 dX9_linesNow_30 rfl ?_
      refine lv_icmp_ne (tgt := 57) C.1.1 C.1.2.1 dX9_linesNow_31 (by decide) (fun c4 => ?_) (fun c4 => ?_)
      · have hf := o_f hf c4
        refine lv_iconst (v := (0 : Int32)) C.1.1 C.1.2.1 dX9_linesNow_57 rfl ?_
        refine lv_iadd C.1.1 C.1.2.1 dX9_linesNow_58 ?_
        refine lv_istore_n (lv' := [(1, .int (x1 + (0 : Int32))), (0, .ref (gA G (41 + 0))), (2, .int x2), (3, .int x3)]) C.1.1 C.1.2.1 dX9_linesNow_59 rfl hl (by decide) rfl (fun ls hl => ?_)
        refine lv_iinc (v := (x3 + (1 : Int32))) (lv' := [(3, .int (x3 + (1 : Int32))), (1, .int (x1 + (0 : Int32))), (0, .ref (gA G (41 + 0))), (2, .int x2)]) C.1.1 C.1.2.1 dX9_linesNow_60 hl (k := 3) rfl rfl (by decide) rfl (fun ls hl => ?_)
        refine lv_goto (tgt := 14) C.1.1 C.1.2.1 dX9_linesNow_63 (by decide) ?_
        exact hk_14 X M L (x1 + (0 : Int32)) x2 (x3 + (1 : Int32)) _ _ _ hw (lv_sub hl [2, 1, 3, 0] rfl) hf
      · have hf := o_t hf c4
        refine lv_aload_n C.1.1 C.1.2.1 dX9_linesNow_34 rfl (lv_at hl 0 rfl) ?_
        refine m_ref C hw fM_0_42 flX9_74 dX9_linesNow_35 ?_
        refine lv_iconst (v := (0 : Int32)) C.1.1 C.1.2.1 dX9_linesNow_38 rfl ?_
        refine lv_iload_n C.1.1 C.1.2.1 dX9_linesNow_39 rfl (lv_at hl 2 rfl) ?_
        refine lv_iadd C.1.1 C.1.2.1 dX9_linesNow_40 ?_
        have g5 := inb_in (o_g hf).1
        have hf := (o_g hf).2
        refine m_ald C hw aM_20 g5 dX9_linesNow_41 ?_
        refine lv_aload_n C.1.1 C.1.2.1 dX9_linesNow_42 rfl (lv_at hl 0 rfl) ?_
        refine m_ref C hw fM_0_42 flX9_74 dX9_linesNow_43 ?_
        refine lv_iconst (v := (0 : Int32)) C.1.1 C.1.2.1 dX9_linesNow_46 rfl ?_
        refine lv_iload_n C.1.1 C.1.2.1 dX9_linesNow_47 rfl (lv_at hl 3 rfl) ?_
        refine lv_iadd C.1.1 C.1.2.1 dX9_linesNow_48 ?_
        have g6 := inb_in (o_g hf).1
        have hf := (o_g hf).2
        refine m_ald C hw aM_20 g6 dX9_linesNow_49 ?_
        refine lv_icmp_eq (tgt := 57) C.1.1 C.1.2.1 dX9_linesNow_50 (by decide) (fun c7 => ?_) (fun c7 => ?_)
        · have hf := o_t hf c7
          refine lv_iconst (v := (0 : Int32)) C.1.1 C.1.2.1 dX9_linesNow_57 rfl ?_
          refine lv_iadd C.1.1 C.1.2.1 dX9_linesNow_58 ?_
          refine lv_istore_n (lv' := [(1, .int (x1 + (0 : Int32))), (0, .ref (gA G (41 + 0))), (2, .int x2), (3, .int x3)]) C.1.1 C.1.2.1 dX9_linesNow_59 rfl hl (by decide) rfl (fun ls hl => ?_)
          refine lv_iinc (v := (x3 + (1 : Int32))) (lv' := [(3, .int (x3 + (1 : Int32))), (1, .int (x1 + (0 : Int32))), (0, .ref (gA G (41 + 0))), (2, .int x2)]) C.1.1 C.1.2.1 dX9_linesNow_60 hl (k := 3) rfl rfl (by decide) rfl (fun ls hl => ?_)
          refine lv_goto (tgt := 14) C.1.1 C.1.2.1 dX9_linesNow_63 (by decide) ?_
          exact hk_14 X M L (x1 + (0 : Int32)) x2 (x3 + (1 : Int32)) _ _ _ hw (lv_sub hl [2, 1, 3, 0] rfl) hf
        · have hf := o_f hf c7
          refine lv_iconst (v := (1 : Int32)) C.1.1 C.1.2.1 dX9_linesNow_53 rfl ?_
          refine lv_goto (tgt := 58) C.1.1 C.1.2.1 dX9_linesNow_54 (by decide) ?_
          refine lv_iadd C.1.1 C.1.2.1 dX9_linesNow_58 ?_
          refine lv_istore_n (lv' := [(1, .int (x1 + (1 : Int32))), (0, .ref (gA G (41 + 0))), (2, .int x2), (3, .int x3)]) C.1.1 C.1.2.1 dX9_linesNow_59 rfl hl (by decide) rfl (fun ls hl => ?_)
          refine lv_iinc (v := (x3 + (1 : Int32))) (lv' := [(3, .int (x3 + (1 : Int32))), (1, .int (x1 + (1 : Int32))), (0, .ref (gA G (41 + 0))), (2, .int x2)]) C.1.1 C.1.2.1 dX9_linesNow_60 hl (k := 3) rfl rfl (by decide) rfl (fun ls hl => ?_)
          refine lv_goto (tgt := 14) C.1.1 C.1.2.1 dX9_linesNow_63 (by decide) ?_
          exact hk_14 X M L (x1 + (1 : Int32)) x2 (x3 + (1 : Int32)) _ _ _ hw (lv_sub hl [2, 1, 3, 0] rfl) hf
set_option maxRecDepth 20000 in
set_option maxHeartbeats 2000000 in
theorem wL_X9_linesNow_4 {p : Program} {e : Env} {s : State} {m : MethodId} {args : Array Value} {below : List Frame} {meth : Method} {c : Code} (C : Cx G p s m args c cX9_linesNow 4 RX9) (hr : meth.sig.returnType = (some .int)) (hlk : meth.locks = false) {ro : Int32} : ∀ (n : Nat), ∀ (X : TX) (M : TX) (L : TL) (x1 : Int32) (x2 : Int32) (H : Heap) (locs : List Loc) (ls : Array Slot), Wh G s X M L H locs → lv_has ls 4 [(0, .ref (gA G (41 + 0))), (1, .int x1), (2, .int x2)] → L_X9_linesNow_4 n M x1 x2 = some ro → W p l e (rz 0 0) s m args below meth c H locs 0 0 (MQ below (Di G X M L ro) args s 0 0 (AB G)) (F0 m 4 ls []) := by
  intro n
  induction n with
  | zero =>
    intro X M L x1 x2 H locs ls hw hl hf
    cases hf
  | succ n hk_4 =>
    intro X M L x1 x2 H locs ls hw hl hf
    rw [L_X9_linesNow_4] at hf
    refine lv_iload_n C.1.1 C.1.2.1 dX9_linesNow_4 rfl (lv_at hl 2 rfl) ?_
    refine lv_aload_n C.1.1 C.1.2.1 dX9_linesNow_5 rfl (lv_at hl 0 rfl) ?_
    refine m_get C hw iM_0_19 flX9_157 dX9_linesNow_6 ?_
    refine lv_icmp_ge (tgt := 72) C.1.1 C.1.2.1 dX9_linesNow_9 (by decide) (fun c1 => ?_) (fun c1 => ?_)
    · have hf := o_t hf c1
      refine lv_iload_n C.1.1 C.1.2.1 dX9_linesNow_72 rfl (lv_at hl 1 rfl) ?_
      obtain rfl := Option.some.inj hf
      exact ret_i C hr hlk hw dX9_linesNow_73
    · have hf := o_f hf c1
      refine lv_iconst (v := (0 : Int32)) C.1.1 C.1.2.1 dX9_linesNow_12 rfl ?_
      refine lv_istore_n (lv' := [(3, .int (0 : Int32)), (0, .ref (gA G (41 + 0))), (1, .int x1), (2, .int x2)]) C.1.1 C.1.2.1 dX9_linesNow_13 rfl hl (by decide) rfl (fun ls hl => ?_)
      exact wL_X9_linesNow_14 C hr hlk hk_4 FU X M L x1 x2 (0 : Int32) _ _ _ hw (lv_sub hl [1, 2, 3, 0] rfl) hf
set_option maxRecDepth 20000 in
set_option maxHeartbeats 2000000 in
theorem c_X9_linesNow   {X M : TX} {L : TL}  {ro : Int32} (hf : f_X9_linesNow M = some ro) : CTi G l yX9_linesNow cX9_linesNow 4 (some .int) 0 0 [.ref (gA G (41 + 0))] X M L X M L ro := by
  unfold f_X9_linesNow at hf
  refine ct_of (by decide +kernel) (Nat.le_of_ble_eq_true rfl) (fun p e s m args below meth c H locs ls C hr hlk hw hl => ?_)
  have C : Cx G p s m args c cX9_linesNow 4 RX9 := C
  have hl : lv_has ls 4 [(0, .ref (gA G (41 + 0)))] := hl
  refine lv_iconst (v := (0 : Int32)) C.1.1 C.1.2.1 dX9_linesNow_0 rfl ?_
  refine lv_istore_n (lv' := [(1, .int (0 : Int32)), (0, .ref (gA G (41 + 0)))]) C.1.1 C.1.2.1 dX9_linesNow_1 rfl hl (by decide) rfl (fun ls hl => ?_)
  refine lv_iconst (v := (0 : Int32)) C.1.1 C.1.2.1 dX9_linesNow_2 rfl ?_
  refine lv_istore_n (lv' := [(2, .int (0 : Int32)), (1, .int (0 : Int32)), (0, .ref (gA G (41 + 0)))]) C.1.1 C.1.2.1 dX9_linesNow_3 rfl hl (by decide) rfl (fun ls hl => ?_)
  exact wL_X9_linesNow_4 C hr hlk FU X M L (0 : Int32) (0 : Int32) _ _ _ hw (lv_sub hl [2, 1, 0] rfl) hf
end
/-! WinnerDrawsModel.costOf(IIIIIIII)I (('o', 'M', 0) ('i',) ('i',) ('i',) ('i',) ('i',) ('i',) ('i',) ('i',)) -/
def f_X9_costOf (M : TX) (x1 : Int32) (x2 : Int32) (x3 : Int32) (x4 : Int32) (x5 : Int32) (x6 : Int32) (x7 : Int32) (x8 : Int32) : Option (TX × Int32) := if inb (0 : Int32) 8 = true then (if inb (1 : Int32) 8 = true then (if inb (2 : Int32) 8 = true then (if inb (3 : Int32) 8 = true then (if inb (4 : Int32) 8 = true then (if inb (5 : Int32) 8 = true then (if inb (6 : Int32) 8 = true then (if inb (7 : Int32) 8 = true then ((f_X9_costNow (u2 (u2 (u2 (u2 (u2 (u2 (u2 (u2 M 14 (Int32.toNatClampNeg (0 : Int32)) x1) 14 (Int32.toNatClampNeg (1 : Int32)) x2) 14 (Int32.toNatClampNeg (2 : Int32)) x3) 14 (Int32.toNatClampNeg (3 : Int32)) x4) 14 (Int32.toNatClampNeg (4 : Int32)) x5) 14 (Int32.toNatClampNeg (5 : Int32)) x6) 14 (Int32.toNatClampNeg (6 : Int32)) x7) 14 (Int32.toNatClampNeg (7 : Int32)) x8)).bind fun q9 => some (q9.1, q9.2)) else none) else none) else none) else none) else none) else none) else none) else none
section
variable {G : GP} {l : Launch}
set_option maxRecDepth 20000 in
set_option maxHeartbeats 2000000 in
theorem c_X9_costOf   {X M : TX} {L : TL} {x1 : Int32} {x2 : Int32} {x3 : Int32} {x4 : Int32} {x5 : Int32} {x6 : Int32} {x7 : Int32} {x8 : Int32} {ro : TX × Int32} (hf : f_X9_costOf M x1 x2 x3 x4 x5 x6 x7 x8 = some ro) : CTi G l yX9_costOf cX9_costOf 9 (some .int) 3 66 [.ref (gA G (41 + 0)), .int x1, .int x2, .int x3, .int x4, .int x5, .int x6, .int x7, .int x8] X M L X ro.1 L ro.2 := by
  unfold f_X9_costOf at hf
  refine ct_of (by decide +kernel) (Nat.le_of_ble_eq_true rfl) (fun p e s m args below meth c H locs ls C hr hlk hw hl => ?_)
  have C : Cx G p s m args c cX9_costOf 9 RX9 := C
  have hl : lv_has ls 9 [(0, .ref (gA G (41 + 0))), (1, .int x1), (2, .int x2), (3, .int x3), (4, .int x4), (5, .int x5), (6, .int x6), (7, .int x7), (8, .int x8)] := hl
  refine lv_aload_n C.1.1 C.1.2.1 dX9_costOf_0 rfl (lv_at hl 0 rfl) ?_
  refine m_ref C hw fM_0_29 flX9_56 dX9_costOf_1 ?_
  refine lv_iconst (v := (0 : Int32)) C.1.1 C.1.2.1 dX9_costOf_4 rfl ?_
  refine lv_iload_n C.1.1 C.1.2.1 dX9_costOf_5 rfl (lv_at hl 1 rfl) ?_
  have g1 := inb_in (o_g hf).1
  have hf := (o_g hf).2
  refine m_ast C hw aM_14 g1 dX9_costOf_6 (fun H locs hw => ?_)
  refine lv_aload_n C.1.1 C.1.2.1 dX9_costOf_7 rfl (lv_at hl 0 rfl) ?_
  refine m_ref C hw fM_0_29 flX9_56 dX9_costOf_8 ?_
  refine lv_iconst (v := (1 : Int32)) C.1.1 C.1.2.1 dX9_costOf_11 rfl ?_
  refine lv_iload_n C.1.1 C.1.2.1 dX9_costOf_12 rfl (lv_at hl 2 rfl) ?_
  have g2 := inb_in (o_g hf).1
  have hf := (o_g hf).2
  refine m_ast C hw aM_14 g2 dX9_costOf_13 (fun H locs hw => ?_)
  refine lv_aload_n C.1.1 C.1.2.1 dX9_costOf_14 rfl (lv_at hl 0 rfl) ?_
  refine m_ref C hw fM_0_29 flX9_56 dX9_costOf_15 ?_
  refine lv_iconst (v := (2 : Int32)) C.1.1 C.1.2.1 dX9_costOf_18 rfl ?_
  refine lv_iload_n C.1.1 C.1.2.1 dX9_costOf_19 rfl (lv_at hl 3 rfl) ?_
  have g3 := inb_in (o_g hf).1
  have hf := (o_g hf).2
  refine m_ast C hw aM_14 g3 dX9_costOf_20 (fun H locs hw => ?_)
  refine lv_aload_n C.1.1 C.1.2.1 dX9_costOf_21 rfl (lv_at hl 0 rfl) ?_
  refine m_ref C hw fM_0_29 flX9_56 dX9_costOf_22 ?_
  refine lv_iconst (v := (3 : Int32)) C.1.1 C.1.2.1 dX9_costOf_25 rfl ?_
  refine lv_iload C.1.1 C.1.2.1 dX9_costOf_26 (lv_at hl 4 rfl) ?_
  have g4 := inb_in (o_g hf).1
  have hf := (o_g hf).2
  refine m_ast C hw aM_14 g4 dX9_costOf_28 (fun H locs hw => ?_)
  refine lv_aload_n C.1.1 C.1.2.1 dX9_costOf_29 rfl (lv_at hl 0 rfl) ?_
  refine m_ref C hw fM_0_29 flX9_56 dX9_costOf_30 ?_
  refine lv_iconst (v := (4 : Int32)) C.1.1 C.1.2.1 dX9_costOf_33 rfl ?_
  refine lv_iload C.1.1 C.1.2.1 dX9_costOf_34 (lv_at hl 5 rfl) ?_
  have g5 := inb_in (o_g hf).1
  have hf := (o_g hf).2
  refine m_ast C hw aM_14 g5 dX9_costOf_36 (fun H locs hw => ?_)
  refine lv_aload_n C.1.1 C.1.2.1 dX9_costOf_37 rfl (lv_at hl 0 rfl) ?_
  refine m_ref C hw fM_0_29 flX9_56 dX9_costOf_38 ?_
  refine lv_iconst (v := (5 : Int32)) C.1.1 C.1.2.1 dX9_costOf_41 rfl ?_
  refine lv_iload C.1.1 C.1.2.1 dX9_costOf_42 (lv_at hl 6 rfl) ?_
  have g6 := inb_in (o_g hf).1
  have hf := (o_g hf).2
  refine m_ast C hw aM_14 g6 dX9_costOf_44 (fun H locs hw => ?_)
  refine lv_aload_n C.1.1 C.1.2.1 dX9_costOf_45 rfl (lv_at hl 0 rfl) ?_
  refine m_ref C hw fM_0_29 flX9_56 dX9_costOf_46 ?_
  refine lv_bipush (v := (6 : Int32)) C.1.1 C.1.2.1 dX9_costOf_49 rfl ?_
  refine lv_iload C.1.1 C.1.2.1 dX9_costOf_51 (lv_at hl 7 rfl) ?_
  have g7 := inb_in (o_g hf).1
  have hf := (o_g hf).2
  refine m_ast C hw aM_14 g7 dX9_costOf_53 (fun H locs hw => ?_)
  refine lv_aload_n C.1.1 C.1.2.1 dX9_costOf_54 rfl (lv_at hl 0 rfl) ?_
  refine m_ref C hw fM_0_29 flX9_56 dX9_costOf_55 ?_
  refine lv_bipush (v := (7 : Int32)) C.1.1 C.1.2.1 dX9_costOf_58 rfl ?_
  refine lv_iload C.1.1 C.1.2.1 dX9_costOf_60 (lv_at hl 8 rfl) ?_
  have g8 := inb_in (o_g hf).1
  have hf := (o_g hf).2
  refine m_ast C hw aM_14 g8 dX9_costOf_62 (fun H locs hw => ?_)
  refine lv_aload_n C.1.1 C.1.2.1 dX9_costOf_63 rfl (lv_at hl 0 rfl) ?_
  obtain ⟨q9, h9, hf⟩ := o_bind hf
  refine aft_i hw (run_VM C hw clX9_341 (As := []) (rest := []) oM_0 (c_X9_costNow h9) rfl hl.1 rfl ⟨(Nat.le_of_ble_eq_true rfl), (Nat.le_of_ble_eq_true rfl)⟩ ⟨Nat.zero_le _, Nat.zero_le _⟩ rfl (Nat.le_of_ble_eq_true rfl) dX9_costOf_64) (fun H locs hw => ?_)
  obtain rfl := Option.some.inj hf
  exact ret_i C hr hlk hw dX9_costOf_67
end
/-! WinnerDrawsModel.costBy(II)I (('o', 'M', 0) ('i',) ('i',)) -/
def B_X9_costBy_16 (M : TX) (x1 : Int32) (x2 : Int32) (t0 : Int32) : Option (TX × Int32) := (f_X9_votesOf M x1 (0 : Int32)).bind fun q3 => (f_X9_votesOf M x1 (1 : Int32)).bind fun q4 => (f_X9_votesOf M x1 t0).bind fun q5 => (f_X9_votesOf M x1 ((1 : Int32) - t0)).bind fun q6 => if inb ((0 : Int32) + x1) 34 = true then ((f_X9_setOf M (M 20 (Int32.toNatClampNeg ((0 : Int32) + x1)))).bind fun q8 => (f_X9_ones q8).bind fun q9 => (f_X9_setOf M x2).bind fun q10 => (f_X9_ones q10).bind fun q11 => (f_X9_linesNow M).bind fun q12 => if inb (31 : Int32) 34 = true then (if inb (32 : Int32) 34 = true then ((f_X9_costOf M (q3 + q4) (q5 - q6) q9 q11 q12 (M 20 (Int32.toNatClampNeg (31 : Int32))) (M 20 (Int32.toNatClampNeg (32 : Int32))) x1).bind fun q15 => some (q15.1, q15.2)) else none) else none) else none
def f_X9_costBy (M : TX) (x1 : Int32) (x2 : Int32) : Option (TX × Int32) := if inb (30 : Int32) 34 = true then (if (M 20 (Int32.toNatClampNeg (30 : Int32))) = (1 : Int32) then (B_X9_costBy_16 M x1 x2 (1 : Int32)) else (B_X9_costBy_16 M x1 x2 (0 : Int32))) else none
section
variable {G : GP} {l : Launch}
set_option maxRecDepth 20000 in
set_option maxHeartbeats 2000000 in
theorem wB_X9_costBy_16 {p : Program} {e : Env} {s : State} {m : MethodId} {args : Array Value} {below : List Frame} {meth : Method} {c : Code} (C : Cx G p s m args c cX9_costBy 4 RX9) (hr : meth.sig.returnType = (some .int)) (hlk : meth.locks = false) {ro : TX × Int32} : ∀ (X : TX) (M : TX) (L : TL) (x1 : Int32) (x2 : Int32) (t0 : Int32) (H : Heap) (locs : List Loc) (ls : Array Slot), Wh G s X M L H locs → lv_has ls 4 [(0, .ref (gA G (41 + 0))), (1, .int x1), (2, .int x2)] → B_X9_costBy_16 M x1 x2 t0 = some ro → W p l e (rz 4 94) s m args below meth c H locs 0 0 (MQ below (Di G X ro.1 L ro.2) args s 0 0 (AB G)) (F0 m 16 ls [.int t0]) := by
  intro X M L x1 x2 t0 H locs ls hw hl hf
  unfold B_X9_costBy_16 at hf
  refine lv_istore_n (lv' := [(3, .int t0), (0, .ref (gA G (41 + 0))), (1, .int x1), (2, .int x2)]) C.1.1 C.1.2.1 dX9_costBy_16 rfl hl (by decide) rfl (fun ls hl => ?_)
  refine lv_aload_n C.1.1 C.1.2.1 dX9_costBy_17 rfl (lv_at hl 1 rfl) ?_
  refine lv_aload_n C.1.1 C.1.2.1 dX9_costBy_18 rfl (lv_at hl 1 rfl) ?_
  refine lv_iload_n C.1.1 C.1.2.1 dX9_costBy_19 rfl (lv_at hl 2 rfl) ?_
  refine lv_iconst (v := (0 : Int32)) C.1.1 C.1.2.1 dX9_costBy_20 rfl ?_
  obtain ⟨q3, h3, hf⟩ := o_bind hf
  refine aft_i hw (run_VM C hw clX9_326 (As := [.int x1, .int (0 : Int32)]) (rest := [.ref (gA G (41 + 0))]) oM_0 (c_X9_votesOf h3) rfl hl.1 rfl ⟨(Nat.le_of_ble_eq_true rfl), (Nat.le_of_ble_eq_true rfl)⟩ ⟨Nat.zero_le _, Nat.zero_le _⟩ rfl (Nat.le_of_ble_eq_true rfl) dX9_costBy_21) (fun H locs hw => ?_)
  refine lv_aload_n C.1.1 C.1.2.1 dX9_costBy_24 rfl (lv_at hl 1 rfl) ?_
  refine lv_iload_n C.1.1 C.1.2.1 dX9_costBy_25 rfl (lv_at hl 2 rfl) ?_
  refine lv_iconst (v := (1 : Int32)) C.1.1 C.1.2.1 dX9_costBy_26 rfl ?_
  obtain ⟨q4, h4, hf⟩ := o_bind hf
  refine aft_i hw (run_VM C hw clX9_326 (As := [.int x1, .int (1 : Int32)]) (rest := [.int q3, .ref (gA G (41 + 0))]) oM_0 (c_X9_votesOf h4) rfl hl.1 rfl ⟨(Nat.le_of_ble_eq_true rfl), (Nat.le_of_ble_eq_true rfl)⟩ ⟨Nat.zero_le _, Nat.zero_le _⟩ rfl (Nat.le_of_ble_eq_true rfl) dX9_costBy_27) (fun H locs hw => ?_)
  refine lv_iadd C.1.1 C.1.2.1 dX9_costBy_30 ?_
  refine lv_aload_n C.1.1 C.1.2.1 dX9_costBy_31 rfl (lv_at hl 1 rfl) ?_
  refine lv_iload_n C.1.1 C.1.2.1 dX9_costBy_32 rfl (lv_at hl 2 rfl) ?_
  refine lv_iload_n C.1.1 C.1.2.1 dX9_costBy_33 rfl (lv_at hl 0 rfl) ?_
  obtain ⟨q5, h5, hf⟩ := o_bind hf
  refine aft_i hw (run_VM C hw clX9_326 (As := [.int x1, .int t0]) (rest := [.int (q3 + q4), .ref (gA G (41 + 0))]) oM_0 (c_X9_votesOf h5) rfl hl.1 rfl ⟨(Nat.le_of_ble_eq_true rfl), (Nat.le_of_ble_eq_true rfl)⟩ ⟨Nat.zero_le _, Nat.zero_le _⟩ rfl (Nat.le_of_ble_eq_true rfl) dX9_costBy_34) (fun H locs hw => ?_)
  refine lv_aload_n C.1.1 C.1.2.1 dX9_costBy_37 rfl (lv_at hl 1 rfl) ?_
  refine lv_iload_n C.1.1 C.1.2.1 dX9_costBy_38 rfl (lv_at hl 2 rfl) ?_
  refine lv_iconst (v := (1 : Int32)) C.1.1 C.1.2.1 dX9_costBy_39 rfl ?_
  refine lv_iload_n C.1.1 C.1.2.1 dX9_costBy_40 rfl (lv_at hl 0 rfl) ?_
  refine lv_isub C.1.1 C.1.2.1 dX9_costBy_41 ?_
  obtain ⟨q6, h6, hf⟩ := o_bind hf
  refine aft_i hw (run_VM C hw clX9_326 (As := [.int x1, .int ((1 : Int32) - t0)]) (rest := [.int q5, .int (q3 + q4), .ref (gA G (41 + 0))]) oM_0 (c_X9_votesOf h6) rfl hl.1 rfl ⟨(Nat.le_of_ble_eq_true rfl), (Nat.le_of_ble_eq_true rfl)⟩ ⟨Nat.zero_le _, Nat.zero_le _⟩ rfl (Nat.le_of_ble_eq_true rfl) dX9_costBy_42) (fun H locs hw => ?_)
  refine lv_isub C.1.1 C.1.2.1 dX9_costBy_45 ?_
  refine lv_aload_n C.1.1 C.1.2.1 dX9_costBy_46 rfl (lv_at hl 1 rfl) ?_
  refine lv_aload_n C.1.1 C.1.2.1 dX9_costBy_47 rfl (lv_at hl 1 rfl) ?_
  refine m_ref C hw fM_0_42 flX9_74 dX9_costBy_48 ?_
  refine lv_iconst (v := (0 : Int32)) C.1.1 C.1.2.1 dX9_costBy_51 rfl ?_
  refine lv_iload_n C.1.1 C.1.2.1 dX9_costBy_52 rfl (lv_at hl 2 rfl) ?_
  refine lv_iadd C.1.1 C.1.2.1 dX9_costBy_53 ?_
  have g7 := inb_in (o_g hf).1
  have hf := (o_g hf).2
  refine m_ald C hw aM_20 g7 dX9_costBy_54 ?_
  obtain ⟨q8, h8, hf⟩ := o_bind hf
  refine aft_i hw (run_VM C hw clX9_329 (As := [.int (M 20 (Int32.toNatClampNeg ((0 : Int32) + x1)))]) (rest := [.int (q5 - q6), .int (q3 + q4), .ref (gA G (41 + 0))]) oM_0 (c_X9_setOf h8) rfl hl.1 rfl ⟨(Nat.le_of_ble_eq_true rfl), (Nat.le_of_ble_eq_true rfl)⟩ ⟨Nat.zero_le _, Nat.zero_le _⟩ rfl (Nat.le_of_ble_eq_true rfl) dX9_costBy_55) (fun H locs hw => ?_)
  obtain ⟨q9, h9, hf⟩ := o_bind hf
  refine aft_i hw (run_S C hw clX9_344 (As := [.int q8]) (rest := [.int (q5 - q6), .int (q3 + q4), .ref (gA G (41 + 0))]) (c_X9_ones h9) hl.1 rfl ⟨(Nat.le_of_ble_eq_true rfl), (Nat.le_of_ble_eq_true rfl)⟩ ⟨Nat.zero_le _, Nat.zero_le _⟩ rfl (Nat.le_of_ble_eq_true rfl) dX9_costBy_58) (fun H locs hw => ?_)
  refine lv_aload_n C.1.1 C.1.2.1 dX9_costBy_61 rfl (lv_at hl 1 rfl) ?_
  refine lv_iload_n C.1.1 C.1.2.1 dX9_costBy_62 rfl (lv_at hl 3 rfl) ?_
  obtain ⟨q10, h10, hf⟩ := o_bind hf
  refine aft_i hw (run_VM C hw clX9_329 (As := [.int x2]) (rest := [.int q9, .int (q5 - q6), .int (q3 + q4), .ref (gA G (41 + 0))]) oM_0 (c_X9_setOf h10) rfl hl.1 rfl ⟨(Nat.le_of_ble_eq_true rfl), (Nat.le_of_ble_eq_true rfl)⟩ ⟨Nat.zero_le _, Nat.zero_le _⟩ rfl (Nat.le_of_ble_eq_true rfl) dX9_costBy_63) (fun H locs hw => ?_)
  obtain ⟨q11, h11, hf⟩ := o_bind hf
  refine aft_i hw (run_S C hw clX9_344 (As := [.int q10]) (rest := [.int q9, .int (q5 - q6), .int (q3 + q4), .ref (gA G (41 + 0))]) (c_X9_ones h11) hl.1 rfl ⟨(Nat.le_of_ble_eq_true rfl), (Nat.le_of_ble_eq_true rfl)⟩ ⟨Nat.zero_le _, Nat.zero_le _⟩ rfl (Nat.le_of_ble_eq_true rfl) dX9_costBy_66) (fun H locs hw => ?_)
  refine lv_aload_n C.1.1 C.1.2.1 dX9_costBy_69 rfl (lv_at hl 1 rfl) ?_
  obtain ⟨q12, h12, hf⟩ := o_bind hf
  refine aft_i hw (run_VM C hw clX9_347 (As := []) (rest := [.int q11, .int q9, .int (q5 - q6), .int (q3 + q4), .ref (gA G (41 + 0))]) oM_0 (c_X9_linesNow h12) rfl hl.1 rfl ⟨(Nat.le_of_ble_eq_true rfl), (Nat.le_of_ble_eq_true rfl)⟩ ⟨Nat.zero_le _, Nat.zero_le _⟩ rfl (Nat.le_of_ble_eq_true rfl) dX9_costBy_70) (fun H locs hw => ?_)
  refine lv_aload_n C.1.1 C.1.2.1 dX9_costBy_73 rfl (lv_at hl 1 rfl) ?_
  refine m_ref C hw fM_0_42 flX9_74 dX9_costBy_74 ?_
  refine lv_bipush (v := (31 : Int32)) C.1.1 C.1.2.1 dX9_costBy_77 rfl ?_
  have g13 := inb_in (o_g hf).1
  have hf := (o_g hf).2
  refine m_ald C hw aM_20 g13 dX9_costBy_79 ?_
  refine lv_aload_n C.1.1 C.1.2.1 dX9_costBy_80 rfl (lv_at hl 1 rfl) ?_
  refine m_ref C hw fM_0_42 flX9_74 dX9_costBy_81 ?_
  refine lv_bipush (v := (32 : Int32)) C.1.1 C.1.2.1 dX9_costBy_84 rfl ?_
  have g14 := inb_in (o_g hf).1
  have hf := (o_g hf).2
  refine m_ald C hw aM_20 g14 dX9_costBy_86 ?_
  refine lv_iload_n C.1.1 C.1.2.1 dX9_costBy_87 rfl (lv_at hl 2 rfl) ?_
  obtain ⟨q15, h15, hf⟩ := o_bind hf
  refine aft_i hw (run_VM C hw clX9_350 (As := [.int (q3 + q4), .int (q5 - q6), .int q9, .int q11, .int q12, .int (M 20 (Int32.toNatClampNeg (31 : Int32))), .int (M 20 (Int32.toNatClampNeg (32 : Int32))), .int x1]) (rest := []) oM_0 (c_X9_costOf h15) rfl hl.1 rfl ⟨(Nat.le_of_ble_eq_true rfl), (Nat.le_of_ble_eq_true rfl)⟩ ⟨Nat.zero_le _, Nat.zero_le _⟩ rfl (Nat.le_of_ble_eq_true rfl) dX9_costBy_88) (fun H locs hw => ?_)
  obtain rfl := Option.some.inj hf
  exact ret_i C hr hlk hw dX9_costBy_91
set_option maxRecDepth 20000 in
set_option maxHeartbeats 2000000 in
theorem c_X9_costBy   {X M : TX} {L : TL} {x1 : Int32} {x2 : Int32} {ro : TX × Int32} (hf : f_X9_costBy M x1 x2 = some ro) : CTi G l yX9_costBy cX9_costBy 4 (some .int) 4 94 [.ref (gA G (41 + 0)), .int x1, .int x2] X M L X ro.1 L ro.2 := by
  unfold f_X9_costBy at hf
  refine ct_of (by decide +kernel) (Nat.le_of_ble_eq_true rfl) (fun p e s m args below meth c H locs ls C hr hlk hw hl => ?_)
  have C : Cx G p s m args c cX9_costBy 4 RX9 := C
  have hl : lv_has ls 4 [(0, .ref (gA G (41 + 0))), (1, .int x1), (2, .int x2)] := hl
  refine lv_aload_n C.1.1 C.1.2.1 dX9_costBy_0 rfl (lv_at hl 0 rfl) ?_
  refine m_ref C hw fM_0_42 flX9_74 dX9_costBy_1 ?_
  refine lv_bipush (v := (30 : Int32)) C.1.1 C.1.2.1 dX9_costBy_4 rfl ?_
  have g1 := inb_in (o_g hf).1
  have hf := (o_g hf).2
  refine m_ald C hw aM_20 g1 dX9_costBy_6 ?_
  refine lv_iconst (v := (1 : Int32)) C.1.1 C.1.2.1 dX9_costBy_7 rfl ?_
  refine lv_icmp_ne (tgt := 15) C.1.1 C.1.2.1 dX9_costBy_8 (by decide) (fun c2 => ?_) (fun c2 => ?_)
  · have hf := o_f hf c2
    refine lv_iconst (v := (0 : Int32)) C.1.1 C.1.2.1 dX9_costBy_15 rfl ?_
    exact wB_X9_costBy_16 C hr hlk X M L x1 x2 (0 : Int32) _ _ _ hw (lv_sub hl [0, 1, 2] rfl) hf
  · have hf := o_t hf c2
    refine lv_iconst (v := (1 : Int32)) C.1.1 C.1.2.1 dX9_costBy_11 rfl ?_
    refine lv_goto (tgt := 16) C.1.1 C.1.2.1 dX9_costBy_12 (by decide) ?_
    exact wB_X9_costBy_16 C hr hlk X M L x1 x2 (1 : Int32) _ _ _ hw (lv_sub hl [0, 1, 2] rfl) hf
end
/-! WinnerDrawsModel.isMoved(II)Z (('o', 'M', 0) ('i',) ('i',)) -/
def f_X9_isMoved (M : TX) (x1 : Int32) (x2 : Int32) : Option (TX × Int32) := (f_X9_mayCome M x1 x2).bind fun q1 => if q1 = 0 then (some (M, (0 : Int32))) else ((f_X9_costBy M x1 x2).bind fun q3 => if q3.2 ≤ (q3.1 0 21) then (if inb ((0 : Int32) + x1) 34 = true then (if inb (33 : Int32) 34 = true then (if inb (33 : Int32) 34 = true then (some ((u2 (u2 q3.1 20 (Int32.toNatClampNeg ((0 : Int32) + x1)) x2) 20 (Int32.toNatClampNeg (33 : Int32)) (((u2 q3.1 20 (Int32.toNatClampNeg ((0 : Int32) + x1)) x2) 20 (Int32.toNatClampNeg (33 : Int32))) + (1 : Int32))), (1 : Int32))) else none) else none) else none) else (some (q3.1, (0 : Int32))))
section
variable {G : GP} {l : Launch}
set_option maxRecDepth 20000 in
set_option maxHeartbeats 2000000 in
theorem c_X9_isMoved   {X M : TX} {L : TL} {x1 : Int32} {x2 : Int32} {ro : TX × Int32} (hf : f_X9_isMoved M x1 x2 = some ro) : CTi G l yX9_isMoved cX9_isMoved 3 (some .boolean) 5 117 [.ref (gA G (41 + 0)), .int x1, .int x2] X M L X ro.1 L ro.2 := by
  unfold f_X9_isMoved at hf
  refine ct_of (by decide +kernel) (Nat.le_of_ble_eq_true rfl) (fun p e s m args below meth c H locs ls C hr hlk hw hl => ?_)
  have C : Cx G p s m args c cX9_isMoved 3 RX9 := C
  have hl : lv_has ls 3 [(0, .ref (gA G (41 + 0))), (1, .int x1), (2, .int x2)] := hl
  refine lv_aload_n C.1.1 C.1.2.1 dX9_isMoved_0 rfl (lv_at hl 0 rfl) ?_
  refine lv_iload_n C.1.1 C.1.2.1 dX9_isMoved_1 rfl (lv_at hl 1 rfl) ?_
  refine lv_iload_n C.1.1 C.1.2.1 dX9_isMoved_2 rfl (lv_at hl 2 rfl) ?_
  obtain ⟨q1, h1, hf⟩ := o_bind hf
  refine aft_i hw (run_VM C hw clX9_357 (As := [.int x1, .int x2]) (rest := []) oM_0 (c_X9_mayCome h1) rfl hl.1 rfl ⟨(Nat.le_of_ble_eq_true rfl), (Nat.le_of_ble_eq_true rfl)⟩ ⟨Nat.zero_le _, Nat.zero_le _⟩ rfl (Nat.le_of_ble_eq_true rfl) dX9_isMoved_3) (fun H locs hw => ?_)
  refine lv_if_eq (tgt := 22) C.1.1 C.1.2.1 dX9_isMoved_6 (by decide) (fun c2 => ?_) (fun c2 => ?_)
  · have hf := o_t hf c2
    refine lv_iconst (v := (0 : Int32)) C.1.1 C.1.2.1 dX9_isMoved_22 rfl ?_
    obtain rfl := Option.some.inj hf
    exact ret_z (r := (0 : Int32)) C hr hlk hw rfl dX9_isMoved_23
  · have hf := o_f hf c2
    refine lv_aload_n C.1.1 C.1.2.1 dX9_isMoved_9 rfl (lv_at hl 0 rfl) ?_
    refine lv_iload_n C.1.1 C.1.2.1 dX9_isMoved_10 rfl (lv_at hl 1 rfl) ?_
    refine lv_iload_n C.1.1 C.1.2.1 dX9_isMoved_11 rfl (lv_at hl 2 rfl) ?_
    obtain ⟨q3, h3, hf⟩ := o_bind hf
    refine aft_i hw (run_VM C hw clX9_361 (As := [.int x1, .int x2]) (rest := []) oM_0 (c_X9_costBy h3) rfl hl.1 rfl ⟨(Nat.le_of_ble_eq_true rfl), (Nat.le_of_ble_eq_true rfl)⟩ ⟨Nat.zero_le _, Nat.zero_le _⟩ rfl (Nat.le_of_ble_eq_true rfl) dX9_isMoved_12) (fun H locs hw => ?_)
    refine lv_aload_n C.1.1 C.1.2.1 dX9_isMoved_15 rfl (lv_at hl 0 rfl) ?_
    refine m_get C hw iM_0_21 flX9_163 dX9_isMoved_16 ?_
    refine lv_icmp_le (tgt := 24) C.1.1 C.1.2.1 dX9_isMoved_19 (by decide) (fun c4 => ?_) (fun c4 => ?_)
    · have hf := o_t hf c4
      refine lv_aload_n C.1.1 C.1.2.1 dX9_isMoved_24 rfl (lv_at hl 0 rfl) ?_
      refine m_ref C hw fM_0_42 flX9_74 dX9_isMoved_25 ?_
      refine lv_iconst (v := (0 : Int32)) C.1.1 C.1.2.1 dX9_isMoved_28 rfl ?_
      refine lv_iload_n C.1.1 C.1.2.1 dX9_isMoved_29 rfl (lv_at hl 1 rfl) ?_
      refine lv_iadd C.1.1 C.1.2.1 dX9_isMoved_30 ?_
      refine lv_iload_n C.1.1 C.1.2.1 dX9_isMoved_31 rfl (lv_at hl 2 rfl) ?_
      have g5 := inb_in (o_g hf).1
      have hf := (o_g hf).2
      refine m_ast C hw aM_20 g5 dX9_isMoved_32 (fun H locs hw => ?_)
      refine lv_aload_n C.1.1 C.1.2.1 dX9_isMoved_33 rfl (lv_at hl 0 rfl) ?_
      refine m_ref C hw fM_0_42 flX9_74 dX9_isMoved_34 ?_
      refine lv_bipush (v := (33 : Int32)) C.1.1 C.1.2.1 dX9_isMoved_37 rfl ?_
      refine lv_dup2_11 C.1.1 C.1.2.1 dX9_isMoved_39 rfl rfl ?_
      have g6 := inb_in (o_g hf).1
      have hf := (o_g hf).2
      refine m_ald C hw aM_20 g6 dX9_isMoved_40 ?_
      refine lv_iconst (v := (1 : Int32)) C.1.1 C.1.2.1 dX9_isMoved_41 rfl ?_
      refine lv_iadd C.1.1 C.1.2.1 dX9_isMoved_42 ?_
      have g7 := inb_in (o_g hf).1
      have hf := (o_g hf).2
      refine m_ast C hw aM_20 g7 dX9_isMoved_43 (fun H locs hw => ?_)
      refine lv_iconst (v := (1 : Int32)) C.1.1 C.1.2.1 dX9_isMoved_44 rfl ?_
      obtain rfl := Option.some.inj hf
      exact ret_z (r := (1 : Int32)) C hr hlk hw rfl dX9_isMoved_45
    · have hf := o_f hf c4
      refine lv_iconst (v := (0 : Int32)) C.1.1 C.1.2.1 dX9_isMoved_22 rfl ?_
      obtain rfl := Option.some.inj hf
      exact ret_z (r := (0 : Int32)) C hr hlk hw rfl dX9_isMoved_23
end
/-! WinnerDrawsModel.bestOf(I)I (('o', 'M', 0) ('i',)) -/
def L_X9_bestOf_14 : Nat → TX → Int32 → Int32 → Int32 → Int32 → Int32 → Option (TX × Int32)
  | 0 => fun _ _ _ _ _ _ => none
  | n + 1 => fun M x1 x2 x3 x4 x5 => if ((4 : Int32) * (M 0 19)) ≤ x5 then (some (M, x2)) else ((f_X9_mayCome M (x5 / (4 : Int32)) (x5 - x5 / (4 : Int32) * (4 : Int32))).bind fun q3 => if q3 = 0 then ((L_X9_bestOf_14 n) M x1 x2 x3 x4 (x5 + (1 : Int32))) else ((f_X9_costBy M (x5 / (4 : Int32)) (x5 - x5 / (4 : Int32) * (4 : Int32))).bind fun q5 => if q5.2 ≤ (q5.1 0 21) then (if inb ((0 : Int32) + (x5 / (4 : Int32))) 34 = true then (if inb ((0 : Int32) + (x5 / (4 : Int32))) 34 = true then ((f_X9_marginOf (u2 q5.1 20 (Int32.toNatClampNeg ((0 : Int32) + (x5 / (4 : Int32)))) (x5 - x5 / (4 : Int32) * (4 : Int32))) x1).bind fun q9 => if inb ((0 : Int32) + (x5 / (4 : Int32))) 34 = true then (if q9 < x3 then ((L_X9_bestOf_14 n) (u2 (u2 q5.1 20 (Int32.toNatClampNeg ((0 : Int32) + (x5 / (4 : Int32)))) (x5 - x5 / (4 : Int32) * (4 : Int32))) 20 (Int32.toNatClampNeg ((0 : Int32) + (x5 / (4 : Int32)))) (q5.1 20 (Int32.toNatClampNeg ((0 : Int32) + (x5 / (4 : Int32)))))) x1 x2 x3 x4 (x5 + (1 : Int32))) else (if q9 = x3 then (if x2 = (-1 : Int32) then ((L_X9_bestOf_14 n) (u2 (u2 q5.1 20 (Int32.toNatClampNeg ((0 : Int32) + (x5 / (4 : Int32)))) (x5 - x5 / (4 : Int32) * (4 : Int32))) 20 (Int32.toNatClampNeg ((0 : Int32) + (x5 / (4 : Int32)))) (q5.1 20 (Int32.toNatClampNeg ((0 : Int32) + (x5 / (4 : Int32)))))) x1 x2 x3 x4 (x5 + (1 : Int32))) else (if q5.2 < x4 then ((L_X9_bestOf_14 n) (u2 (u2 q5.1 20 (Int32.toNatClampNeg ((0 : Int32) + (x5 / (4 : Int32)))) (x5 - x5 / (4 : Int32) * (4 : Int32))) 20 (Int32.toNatClampNeg ((0 : Int32) + (x5 / (4 : Int32)))) (q5.1 20 (Int32.toNatClampNeg ((0 : Int32) + (x5 / (4 : Int32)))))) x1 (((10 : Int32) * (x5 / (4 : Int32))) + (x5 - x5 / (4 : Int32) * (4 : Int32))) q9 q5.2 (x5 + (1 : Int32))) else ((L_X9_bestOf_14 n) (u2 (u2 q5.1 20 (Int32.toNatClampNeg ((0 : Int32) + (x5 / (4 : Int32)))) (x5 - x5 / (4 : Int32) * (4 : Int32))) 20 (Int32.toNatClampNeg ((0 : Int32) + (x5 / (4 : Int32)))) (q5.1 20 (Int32.toNatClampNeg ((0 : Int32) + (x5 / (4 : Int32)))))) x1 x2 x3 x4 (x5 + (1 : Int32))))) else ((L_X9_bestOf_14 n) (u2 (u2 q5.1 20 (Int32.toNatClampNeg ((0 : Int32) + (x5 / (4 : Int32)))) (x5 - x5 / (4 : Int32) * (4 : Int32))) 20 (Int32.toNatClampNeg ((0 : Int32) + (x5 / (4 : Int32)))) (q5.1 20 (Int32.toNatClampNeg ((0 : Int32) + (x5 / (4 : Int32)))))) x1 (((10 : Int32) * (x5 / (4 : Int32))) + (x5 - x5 / (4 : Int32) * (4 : Int32))) q9 q5.2 (x5 + (1 : Int32))))) else none) else none) else none) else ((L_X9_bestOf_14 n) q5.1 x1 x2 x3 x4 (x5 + (1 : Int32)))))
def f_X9_bestOf (M : TX) (x1 : Int32) : Option (TX × Int32) := (f_X9_marginOf M x1).bind fun q1 => L_X9_bestOf_14 FU M x1 (-1 : Int32) q1 (0 : Int32) (0 : Int32)
section
variable {G : GP} {l : Launch}
set_option maxRecDepth 20000 in
set_option maxHeartbeats 2000000 in
theorem wL_X9_bestOf_14 {p : Program} {e : Env} {s : State} {m : MethodId} {args : Array Value} {below : List Frame} {meth : Method} {c : Code} (C : Cx G p s m args c cX9_bestOf 11 RX9) (hr : meth.sig.returnType = (some .int)) (hlk : meth.locks = false) {ro : TX × Int32} : ∀ (n : Nat), ∀ (X : TX) (M : TX) (L : TL) (x1 : Int32) (x2 : Int32) (x3 : Int32) (x4 : Int32) (x5 : Int32) (H : Heap) (locs : List Loc) (ls : Array Slot), Wh G s X M L H locs → lv_has ls 11 [(0, .ref (gA G (41 + 0))), (1, .int x1), (2, .int x2), (3, .int x3), (4, .int x4), (5, .int x5)] → L_X9_bestOf_14 n M x1 x2 x3 x4 x5 = some ro → W p l e (rz 5 117) s m args below meth c H locs 0 0 (MQ below (Di G X ro.1 L ro.2) args s 0 0 (AB G)) (F0 m 14 ls []) := by
  intro n
  induction n with
  | zero =>
    intro X M L x1 x2 x3 x4 x5 H locs ls hw hl hf
    cases hf
  | succ n hk_14 =>
    intro X M L x1 x2 x3 x4 x5 H locs ls hw hl hf
    rw [L_X9_bestOf_14] at hf
    refine lv_iload C.1.1 C.1.2.1 dX9_bestOf_14 (lv_at hl 5 rfl) ?_
    refine lv_iconst (v := (4 : Int32)) C.1.1 C.1.2.1 dX9_bestOf_16 rfl ?_
    refine lv_aload_n C.1.1 C.1.2.1 dX9_bestOf_17 rfl (lv_at hl 0 rfl) ?_
    refine m_get C hw iM_0_19 flX9_157 dX9_bestOf_18 ?_
    refine lv_imul C.1.1 C.1.2.1 dX9_bestOf_21 ?_
    refine lv_icmp_ge (tgt := 162) C.1.1 C.1.2.1 dX9_bestOf_22 (by decide) (fun c2 => ?_) (fun c2 => ?_)
    · have hf := o_t hf c2
      refine lv_iload_n C.1.1 C.1.2.1 dX9_bestOf_162 rfl (lv_at hl 2 rfl) ?_
      obtain rfl := Option.some.inj hf
      exact ret_i C hr hlk hw dX9_bestOf_163
    · have hf := o_f hf c2
      refine lv_iload C.1.1 C.1.2.1 dX9_bestOf_25 (lv_at hl 5 rfl) ?_
      refine lv_iconst (v := (4 : Int32)) C.1.1 C.1.2.1 dX9_bestOf_27 rfl ?_
      refine lv_idiv C.1.1 C.1.2.1 dX9_bestOf_28 (by decide) ?_
      refine lv_istore (lv' := [(6, .int (x5 / (4 : Int32))), (0, .ref (gA G (41 + 0))), (1, .int x1), (2, .int x2), (3, .int x3), (4, .int x4), (5, .int x5)]) C.1.1 C.1.2.1 dX9_bestOf_29 hl (by decide) rfl (fun ls hl => ?_)
      refine lv_iload C.1.1 C.1.2.1 dX9_bestOf_31 (lv_at hl 6 rfl) ?_
      refine lv_iconst (v := (4 : Int32)) C.1.1 C.1.2.1 dX9_bestOf_33 rfl ?_
      refine lv_irem C.1.1 C.1.2.1 dX9_bestOf_34 (by decide) ?_
      refine lv_istore (lv' := [(7, .int (x5 - x5 / (4 : Int32) * (4 : Int32))), (6, .int (x5 / (4 : Int32))), (0, .ref (gA G (41 + 0))), (1, .int x1), (2, .int x2), (3, .int x3), (4, .int x4), (5, .int x5)]) C.1.1 C.1.2.1 dX9_bestOf_35 hl (by decide) rfl (fun ls hl => ?_)
      refine lv_aload_n C.1.1 C.1.2.1 dX9_bestOf_37 rfl (lv_at hl 2 rfl) ?_
      refine lv_iload C.1.1 C.1.2.1 dX9_bestOf_38 (lv_at hl 1 rfl) ?_
      refine lv_iload C.1.1 C.1.2.1 dX9_bestOf_40 (lv_at hl 0 rfl) ?_
      obtain ⟨q3, h3, hf⟩ := o_bind hf
      refine aft_i hw (run_VM C hw clX9_357 (As := [.int (x5 / (4 : Int32)), .int (x5 - x5 / (4 : Int32) * (4 : Int32))]) (rest := []) oM_0 (c_X9_mayCome h3) rfl hl.1 rfl ⟨(Nat.le_of_ble_eq_true rfl), (Nat.le_of_ble_eq_true rfl)⟩ ⟨Nat.zero_le _, Nat.zero_le _⟩ rfl (Nat.le_of_ble_eq_true rfl) dX9_bestOf_42) (fun H locs hw => ?_)
      refine lv_if_ne (tgt := 51) C.1.1 C.1.2.1 dX9_bestOf_45 (by decide) (fun c4 => ?_) (fun c4 => ?_)
      · have hf := o_f hf c4
        refine lv_aload_n C.1.1 C.1.2.1 dX9_bestOf_51 rfl (lv_at hl 2 rfl) ?_
        refine lv_iload C.1.1 C.1.2.1 dX9_bestOf_52 (lv_at hl 1 rfl) ?_
        refine lv_iload C.1.1 C.1.2.1 dX9_bestOf_54 (lv_at hl 0 rfl) ?_
        obtain ⟨q5, h5, hf⟩ := o_bind hf
        refine aft_i hw (run_VM C hw clX9_361 (As := [.int (x5 / (4 : Int32)), .int (x5 - x5 / (4 : Int32) * (4 : Int32))]) (rest := []) oM_0 (c_X9_costBy h5) rfl hl.1 rfl ⟨(Nat.le_of_ble_eq_true rfl), (Nat.le_of_ble_eq_true rfl)⟩ ⟨Nat.zero_le _, Nat.zero_le _⟩ rfl (Nat.le_of_ble_eq_true rfl) dX9_bestOf_56) (fun H locs hw => ?_)
        refine lv_istore (lv' := [(8, .int q5.2), (7, .int (x5 - x5 / (4 : Int32) * (4 : Int32))), (6, .int (x5 / (4 : Int32))), (0, .ref (gA G (41 + 0))), (1, .int x1), (2, .int x2), (3, .int x3), (4, .int x4), (5, .int x5)]) C.1.1 C.1.2.1 dX9_bestOf_59 hl (by decide) rfl (fun ls hl => ?_)
        refine lv_iload C.1.1 C.1.2.1 dX9_bestOf_61 (lv_at hl 0 rfl) ?_
        refine lv_aload_n C.1.1 C.1.2.1 dX9_bestOf_63 rfl (lv_at hl 3 rfl) ?_
        refine m_get C hw iM_0_21 flX9_163 dX9_bestOf_64 ?_
        refine lv_icmp_le (tgt := 73) C.1.1 C.1.2.1 dX9_bestOf_67 (by decide) (fun c6 => ?_) (fun c6 => ?_)
        · have hf := o_t hf c6
          refine lv_aload_n C.1.1 C.1.2.1 dX9_bestOf_73 rfl (lv_at hl 3 rfl) ?_
          refine m_ref C hw fM_0_42 flX9_74 dX9_bestOf_74 ?_
          refine lv_iconst (v := (0 : Int32)) C.1.1 C.1.2.1 dX9_bestOf_77 rfl ?_
          refine lv_iload C.1.1 C.1.2.1 dX9_bestOf_78 (lv_at hl 2 rfl) ?_
          refine lv_iadd C.1.1 C.1.2.1 dX9_bestOf_80 ?_
          have g7 := inb_in (o_g hf).1
          have hf := (o_g hf).2
          refine m_ald C hw aM_20 g7 dX9_bestOf_81 ?_
          refine lv_istore (lv' := [(9, .int (q5.1 20 (Int32.toNatClampNeg ((0 : Int32) + (x5 / (4 : Int32)))))), (8, .int q5.2), (7, .int (x5 - x5 / (4 : Int32) * (4 : Int32))), (6, .int (x5 / (4 : Int32))), (0, .ref (gA G (41 + 0))), (1, .int x1), (2, .int x2), (3, .int x3), (4, .int x4), (5, .int x5)]) C.1.1 C.1.2.1 dX9_bestOf_82 hl (by decide) rfl (fun ls hl => ?_)
          refine lv_aload_n C.1.1 C.1.2.1 dX9_bestOf_84 rfl (lv_at hl 4 rfl) ?_
          refine m_ref C hw fM_0_42 flX9_74 dX9_bestOf_85 ?_
          refine lv_iconst (v := (0 : Int32)) C.1.1 C.1.2.1 dX9_bestOf_88 rfl ?_
          refine lv_iload C.1.1 C.1.2.1 dX9_bestOf_89 (lv_at hl 3 rfl) ?_
          refine lv_iadd C.1.1 C.1.2.1 dX9_bestOf_91 ?_
          refine lv_iload C.1.1 C.1.2.1 dX9_bestOf_92 (lv_at hl 2 rfl) ?_
          have g8 := inb_in (o_g hf).1
          have hf := (o_g hf).2
          refine m_ast C hw aM_20 g8 dX9_bestOf_94 (fun H locs hw => ?_)
          refine lv_aload_n C.1.1 C.1.2.1 dX9_bestOf_95 rfl (lv_at hl 4 rfl) ?_
          refine lv_iload_n C.1.1 C.1.2.1 dX9_bestOf_96 rfl (lv_at hl 5 rfl) ?_
          obtain ⟨q9, h9, hf⟩ := o_bind hf
          refine aft_i hw (run_VM C hw clX9_364 (As := [.int x1]) (rest := []) oM_0 (c_X9_marginOf h9) rfl hl.1 rfl ⟨(Nat.le_of_ble_eq_true rfl), (Nat.le_of_ble_eq_true rfl)⟩ ⟨Nat.zero_le _, Nat.zero_le _⟩ rfl (Nat.le_of_ble_eq_true rfl) dX9_bestOf_97) (fun H locs hw => ?_)
          refine lv_istore (lv' := [(10, .int q9), (9, .int (q5.1 20 (Int32.toNatClampNeg ((0 : Int32) + (x5 / (4 : Int32)))))), (8, .int q5.2), (7, .int (x5 - x5 / (4 : Int32) * (4 : Int32))), (6, .int (x5 / (4 : Int32))), (0, .ref (gA G (41 + 0))), (1, .int x1), (2, .int x2), (3, .int x3), (4, .int x4), (5, .int x5)]) C.1.1 C.1.2.1 dX9_bestOf_100 hl (by decide) rfl (fun ls hl => ?_)
          refine lv_aload_n C.1.1 C.1.2.1 dX9_bestOf_102 rfl (lv_at hl 5 rfl) ?_
          refine m_ref C hw fM_0_42 flX9_74 dX9_bestOf_103 ?_
          refine lv_iconst (v := (0 : Int32)) C.1.1 C.1.2.1 dX9_bestOf_106 rfl ?_
          refine lv_iload C.1.1 C.1.2.1 dX9_bestOf_107 (lv_at hl 4 rfl) ?_
          refine lv_iadd C.1.1 C.1.2.1 dX9_bestOf_109 ?_
          refine lv_iload C.1.1 C.1.2.1 dX9_bestOf_110 (lv_at hl 1 rfl) ?_
          have g10 := inb_in (o_g hf).1
          have hf := (o_g hf).2
          refine m_ast C hw aM_20 g10 dX9_bestOf_112 (fun H locs hw => ?_)
          refine lv_iload C.1.1 C.1.2.1 dX9_bestOf_113 (lv_at hl 0 rfl) ?_
          refine lv_iload_n C.1.1 C.1.2.1 dX9_bestOf_115 rfl (lv_at hl 8 rfl) ?_
          refine lv_icmp_lt (tgt := 156) C.1.1 C.1.2.1 dX9_bestOf_116 (by decide) (fun c11 => ?_) (fun c11 => ?_)
          · have hf := o_t hf c11
            refine lv_iinc (v := (x5 + (1 : Int32))) (lv' := [(5, .int (x5 + (1 : Int32))), (10, .int q9), (9, .int (q5.1 20 (Int32.toNatClampNeg ((0 : Int32) + (x5 / (4 : Int32)))))), (8, .int q5.2), (7, .int (x5 - x5 / (4 : Int32) * (4 : Int32))), (6, .int (x5 / (4 : Int32))), (0, .ref (gA G (41 + 0))), (1, .int x1), (2, .int x2), (3, .int x3), (4, .int x4)]) C.1.1 C.1.2.1 dX9_bestOf_156 hl (k := 10) rfl rfl (by decide) rfl (fun ls hl => ?_)
            refine lv_goto (tgt := 14) C.1.1 C.1.2.1 dX9_bestOf_159 (by decide) ?_
            exact hk_14 X (u2 (u2 q5.1 20 (Int32.toNatClampNeg ((0 : Int32) + (x5 / (4 : Int32)))) (x5 - x5 / (4 : Int32) * (4 : Int32))) 20 (Int32.toNatClampNeg ((0 : Int32) + (x5 / (4 : Int32)))) (q5.1 20 (Int32.toNatClampNeg ((0 : Int32) + (x5 / (4 : Int32)))))) L x1 x2 x3 x4 (x5 + (1 : Int32)) _ _ _ hw (lv_sub hl [6, 7, 8, 9, 10, 0] rfl) hf
          · have hf := o_f hf c11
            refine lv_iload C.1.1 C.1.2.1 dX9_bestOf_119 (lv_at hl 0 rfl) ?_
            refine lv_iload_n C.1.1 C.1.2.1 dX9_bestOf_121 rfl (lv_at hl 8 rfl) ?_
            refine lv_icmp_ne (tgt := 140) C.1.1 C.1.2.1 dX9_bestOf_122 (by decide) (fun c12 => ?_) (fun c12 => ?_)
            · have hf := o_f hf c12
              refine lv_bipush (v := (10 : Int32)) C.1.1 C.1.2.1 dX9_bestOf_140 rfl ?_
              refine lv_iload C.1.1 C.1.2.1 dX9_bestOf_142 (lv_at hl 4 rfl) ?_
              refine lv_imul C.1.1 C.1.2.1 dX9_bestOf_144 ?_
              refine lv_iload C.1.1 C.1.2.1 dX9_bestOf_145 (lv_at hl 3 rfl) ?_
              refine lv_iadd C.1.1 C.1.2.1 dX9_bestOf_147 ?_
              refine lv_istore_n (lv' := [(2, .int (((10 : Int32) * (x5 / (4 : Int32))) + (x5 - x5 / (4 : Int32) * (4 : Int32)))), (10, .int q9), (9, .int (q5.1 20 (Int32.toNatClampNeg ((0 : Int32) + (x5 / (4 : Int32)))))), (8, .int q5.2), (7, .int (x5 - x5 / (4 : Int32) * (4 : Int32))), (6, .int (x5 / (4 : Int32))), (0, .ref (gA G (41 + 0))), (1, .int x1), (3, .int x3), (4, .int x4), (5, .int x5)]) C.1.1 C.1.2.1 dX9_bestOf_148 rfl hl (by decide) rfl (fun ls hl => ?_)
              refine lv_iload C.1.1 C.1.2.1 dX9_bestOf_149 (lv_at hl 1 rfl) ?_
              refine lv_istore_n (lv' := [(3, .int q9), (2, .int (((10 : Int32) * (x5 / (4 : Int32))) + (x5 - x5 / (4 : Int32) * (4 : Int32)))), (10, .int q9), (9, .int (q5.1 20 (Int32.toNatClampNeg ((0 : Int32) + (x5 / (4 : Int32)))))), (8, .int q5.2), (7, .int (x5 - x5 / (4 : Int32) * (4 : Int32))), (6, .int (x5 / (4 : Int32))), (0, .ref (gA G (41 + 0))), (1, .int x1), (4, .int x4), (5, .int x5)]) C.1.1 C.1.2.1 dX9_bestOf_151 rfl hl (by decide) rfl (fun ls hl => ?_)
              refine lv_iload C.1.1 C.1.2.1 dX9_bestOf_152 (lv_at hl 4 rfl) ?_
              refine lv_istore (lv' := [(4, .int q5.2), (3, .int q9), (2, .int (((10 : Int32) * (x5 / (4 : Int32))) + (x5 - x5 / (4 : Int32) * (4 : Int32)))), (10, .int q9), (9, .int (q5.1 20 (Int32.toNatClampNeg ((0 : Int32) + (x5 / (4 : Int32)))))), (8, .int q5.2), (7, .int (x5 - x5 / (4 : Int32) * (4 : Int32))), (6, .int (x5 / (4 : Int32))), (0, .ref (gA G (41 + 0))), (1, .int x1), (5, .int x5)]) C.1.1 C.1.2.1 dX9_bestOf_154 hl (by decide) rfl (fun ls hl => ?_)
              refine lv_iinc (v := (x5 + (1 : Int32))) (lv' := [(5, .int (x5 + (1 : Int32))), (4, .int q5.2), (3, .int q9), (2, .int (((10 : Int32) * (x5 / (4 : Int32))) + (x5 - x5 / (4 : Int32) * (4 : Int32)))), (10, .int q9), (9, .int (q5.1 20 (Int32.toNatClampNeg ((0 : Int32) + (x5 / (4 : Int32)))))), (8, .int q5.2), (7, .int (x5 - x5 / (4 : Int32) * (4 : Int32))), (6, .int (x5 / (4 : Int32))), (0, .ref (gA G (41 + 0))), (1, .int x1)]) C.1.1 C.1.2.1 dX9_bestOf_156 hl (k := 10) rfl rfl (by decide) rfl (fun ls hl => ?_)
              refine lv_goto (tgt := 14) C.1.1 C.1.2.1 dX9_bestOf_159 (by decide) ?_
              exact hk_14 X (u2 (u2 q5.1 20 (Int32.toNatClampNeg ((0 : Int32) + (x5 / (4 : Int32)))) (x5 - x5 / (4 : Int32) * (4 : Int32))) 20 (Int32.toNatClampNeg ((0 : Int32) + (x5 / (4 : Int32)))) (q5.1 20 (Int32.toNatClampNeg ((0 : Int32) + (x5 / (4 : Int32)))))) L x1 (((10 : Int32) * (x5 / (4 : Int32))) + (x5 - x5 / (4 : Int32) * (4 : Int32))) q9 q5.2 (x5 + (1 : Int32)) _ _ _ hw (lv_sub hl [9, 10, 3, 2, 1, 0] rfl) hf
            · have hf := o_t hf c12
              refine lv_iload_n C.1.1 C.1.2.1 dX9_bestOf_125 rfl (lv_at hl 7 rfl) ?_
              refine lv_iconst (v := (-1 : Int32)) C.1.1 C.1.2.1 dX9_bestOf_126 rfl ?_
              refine lv_icmp_eq (tgt := 156) C.1.1 C.1.2.1 dX9_bestOf_127 (by decide) (fun c13 => ?_) (fun c13 => ?_)
              · have hf := o_t hf c13
                refine lv_iinc (v := (x5 + (1 : Int32))) (lv' := [(5, .int (x5 + (1 : Int32))), (10, .int q9), (9, .int (q5.1 20 (Int32.toNatClampNeg ((0 : Int32) + (x5 / (4 : Int32)))))), (8, .int q5.2), (7, .int (x5 - x5 / (4 : Int32) * (4 : Int32))), (6, .int (x5 / (4 : Int32))), (0, .ref (gA G (41 + 0))), (1, .int x1), (2, .int x2), (3, .int x3), (4, .int x4)]) C.1.1 C.1.2.1 dX9_bestOf_156 hl (k := 10) rfl rfl (by decide) rfl (fun ls hl => ?_)
                refine lv_goto (tgt := 14) C.1.1 C.1.2.1 dX9_bestOf_159 (by decide) ?_
                exact hk_14 X (u2 (u2 q5.1 20 (Int32.toNatClampNeg ((0 : Int32) + (x5 / (4 : Int32)))) (x5 - x5 / (4 : Int32) * (4 : Int32))) 20 (Int32.toNatClampNeg ((0 : Int32) + (x5 / (4 : Int32)))) (q5.1 20 (Int32.toNatClampNeg ((0 : Int32) + (x5 / (4 : Int32)))))) L x1 x2 x3 x4 (x5 + (1 : Int32)) _ _ _ hw (lv_sub hl [6, 7, 8, 9, 10, 0] rfl) hf
              · have hf := o_f hf c13
                refine lv_iload C.1.1 C.1.2.1 dX9_bestOf_130 (lv_at hl 2 rfl) ?_
                refine lv_iload C.1.1 C.1.2.1 dX9_bestOf_132 (lv_at hl 9 rfl) ?_
                refine lv_icmp_lt (tgt := 140) C.1.1 C.1.2.1 dX9_bestOf_134 (by decide) (fun c14 => ?_) (fun c14 => ?_)
                · have hf := o_t hf c14
                  refine lv_bipush (v := (10 : Int32)) C.1.1 C.1.2.1 dX9_bestOf_140 rfl ?_
                  refine lv_iload C.1.1 C.1.2.1 dX9_bestOf_142 (lv_at hl 4 rfl) ?_
                  refine lv_imul C.1.1 C.1.2.1 dX9_bestOf_144 ?_
                  refine lv_iload C.1.1 C.1.2.1 dX9_bestOf_145 (lv_at hl 3 rfl) ?_
                  refine lv_iadd C.1.1 C.1.2.1 dX9_bestOf_147 ?_
                  refine lv_istore_n (lv' := [(2, .int (((10 : Int32) * (x5 / (4 : Int32))) + (x5 - x5 / (4 : Int32) * (4 : Int32)))), (10, .int q9), (9, .int (q5.1 20 (Int32.toNatClampNeg ((0 : Int32) + (x5 / (4 : Int32)))))), (8, .int q5.2), (7, .int (x5 - x5 / (4 : Int32) * (4 : Int32))), (6, .int (x5 / (4 : Int32))), (0, .ref (gA G (41 + 0))), (1, .int x1), (3, .int x3), (4, .int x4), (5, .int x5)]) C.1.1 C.1.2.1 dX9_bestOf_148 rfl hl (by decide) rfl (fun ls hl => ?_)
                  refine lv_iload C.1.1 C.1.2.1 dX9_bestOf_149 (lv_at hl 1 rfl) ?_
                  refine lv_istore_n (lv' := [(3, .int q9), (2, .int (((10 : Int32) * (x5 / (4 : Int32))) + (x5 - x5 / (4 : Int32) * (4 : Int32)))), (10, .int q9), (9, .int (q5.1 20 (Int32.toNatClampNeg ((0 : Int32) + (x5 / (4 : Int32)))))), (8, .int q5.2), (7, .int (x5 - x5 / (4 : Int32) * (4 : Int32))), (6, .int (x5 / (4 : Int32))), (0, .ref (gA G (41 + 0))), (1, .int x1), (4, .int x4), (5, .int x5)]) C.1.1 C.1.2.1 dX9_bestOf_151 rfl hl (by decide) rfl (fun ls hl => ?_)
                  refine lv_iload C.1.1 C.1.2.1 dX9_bestOf_152 (lv_at hl 4 rfl) ?_
                  refine lv_istore (lv' := [(4, .int q5.2), (3, .int q9), (2, .int (((10 : Int32) * (x5 / (4 : Int32))) + (x5 - x5 / (4 : Int32) * (4 : Int32)))), (10, .int q9), (9, .int (q5.1 20 (Int32.toNatClampNeg ((0 : Int32) + (x5 / (4 : Int32)))))), (8, .int q5.2), (7, .int (x5 - x5 / (4 : Int32) * (4 : Int32))), (6, .int (x5 / (4 : Int32))), (0, .ref (gA G (41 + 0))), (1, .int x1), (5, .int x5)]) C.1.1 C.1.2.1 dX9_bestOf_154 hl (by decide) rfl (fun ls hl => ?_)
                  refine lv_iinc (v := (x5 + (1 : Int32))) (lv' := [(5, .int (x5 + (1 : Int32))), (4, .int q5.2), (3, .int q9), (2, .int (((10 : Int32) * (x5 / (4 : Int32))) + (x5 - x5 / (4 : Int32) * (4 : Int32)))), (10, .int q9), (9, .int (q5.1 20 (Int32.toNatClampNeg ((0 : Int32) + (x5 / (4 : Int32)))))), (8, .int q5.2), (7, .int (x5 - x5 / (4 : Int32) * (4 : Int32))), (6, .int (x5 / (4 : Int32))), (0, .ref (gA G (41 + 0))), (1, .int x1)]) C.1.1 C.1.2.1 dX9_bestOf_156 hl (k := 10) rfl rfl (by decide) rfl (fun ls hl => ?_)
                  refine lv_goto (tgt := 14) C.1.1 C.1.2.1 dX9_bestOf_159 (by decide) ?_
                  exact hk_14 X (u2 (u2 q5.1 20 (Int32.toNatClampNeg ((0 : Int32) + (x5 / (4 : Int32)))) (x5 - x5 / (4 : Int32) * (4 : Int32))) 20 (Int32.toNatClampNeg ((0 : Int32) + (x5 / (4 : Int32)))) (q5.1 20 (Int32.toNatClampNeg ((0 : Int32) + (x5 / (4 : Int32)))))) L x1 (((10 : Int32) * (x5 / (4 : Int32))) + (x5 - x5 / (4 : Int32) * (4 : Int32))) q9 q5.2 (x5 + (1 : Int32)) _ _ _ hw (lv_sub hl [9, 10, 3, 2, 1, 0] rfl) hf
                · have hf := o_f hf c14
                  refine lv_goto (tgt := 156) C.1.1 C.1.2.1 dX9_bestOf_137 (by decide) ?_
                  refine lv_iinc (v := (x5 + (1 : Int32))) (lv' := [(5, .int (x5 + (1 : Int32))), (10, .int q9), (9, .int (q5.1 20 (Int32.toNatClampNeg ((0 : Int32) + (x5 / (4 : Int32)))))), (8, .int q5.2), (7, .int (x5 - x5 / (4 : Int32) * (4 : Int32))), (6, .int (x5 / (4 : Int32))), (0, .ref (gA G (41 + 0))), (1, .int x1), (2, .int x2), (3, .int x3), (4, .int x4)]) C.1.1 C.1.2.1 dX9_bestOf_156 hl (k := 10) rfl rfl (by decide) rfl (fun ls hl => ?_)
                  refine lv_goto (tgt := 14) C.1.1 C.1.2.1 dX9_bestOf_159 (by decide) ?_
                  exact hk_14 X (u2 (u2 q5.1 20 (Int32.toNatClampNeg ((0 : Int32) + (x5 / (4 : Int32)))) (x5 - x5 / (4 : Int32) * (4 : Int32))) 20 (Int32.toNatClampNeg ((0 : Int32) + (x5 / (4 : Int32)))) (q5.1 20 (Int32.toNatClampNeg ((0 : Int32) + (x5 / (4 : Int32)))))) L x1 x2 x3 x4 (x5 + (1 : Int32)) _ _ _ hw (lv_sub hl [6, 7, 8, 9, 10, 0] rfl) hf
        · have hf := o_f hf c6
          refine lv_goto (tgt := 156) C.1.1 C.1.2.1 dX9_bestOf_70 (by decide) ?_
          refine lv_iinc (v := (x5 + (1 : Int32))) (lv' := [(5, .int (x5 + (1 : Int32))), (8, .int q5.2), (7, .int (x5 - x5 / (4 : Int32) * (4 : Int32))), (6, .int (x5 / (4 : Int32))), (0, .ref (gA G (41 + 0))), (1, .int x1), (2, .int x2), (3, .int x3), (4, .int x4)]) C.1.1 C.1.2.1 dX9_bestOf_156 hl (k := 8) rfl rfl (by decide) rfl (fun ls hl => ?_)
          refine lv_goto (tgt := 14) C.1.1 C.1.2.1 dX9_bestOf_159 (by decide) ?_
          exact hk_14 X q5.1 L x1 x2 x3 x4 (x5 + (1 : Int32)) _ _ _ hw (lv_sub hl [4, 5, 6, 7, 8, 0] rfl) hf
      · have hf := o_t hf c4
        refine lv_goto (tgt := 156) C.1.1 C.1.2.1 dX9_bestOf_48 (by decide) ?_
        refine lv_iinc (v := (x5 + (1 : Int32))) (lv' := [(5, .int (x5 + (1 : Int32))), (7, .int (x5 - x5 / (4 : Int32) * (4 : Int32))), (6, .int (x5 / (4 : Int32))), (0, .ref (gA G (41 + 0))), (1, .int x1), (2, .int x2), (3, .int x3), (4, .int x4)]) C.1.1 C.1.2.1 dX9_bestOf_156 hl (k := 7) rfl rfl (by decide) rfl (fun ls hl => ?_)
        refine lv_goto (tgt := 14) C.1.1 C.1.2.1 dX9_bestOf_159 (by decide) ?_
        exact hk_14 X M L x1 x2 x3 x4 (x5 + (1 : Int32)) _ _ _ hw (lv_sub hl [3, 4, 5, 6, 7, 0] rfl) hf
set_option maxRecDepth 20000 in
set_option maxHeartbeats 2000000 in
theorem c_X9_bestOf   {X M : TX} {L : TL} {x1 : Int32} {ro : TX × Int32} (hf : f_X9_bestOf M x1 = some ro) : CTi G l yX9_bestOf cX9_bestOf 11 (some .int) 5 117 [.ref (gA G (41 + 0)), .int x1] X M L X ro.1 L ro.2 := by
  unfold f_X9_bestOf at hf
  refine ct_of (by decide +kernel) (Nat.le_of_ble_eq_true rfl) (fun p e s m args below meth c H locs ls C hr hlk hw hl => ?_)
  have C : Cx G p s m args c cX9_bestOf 11 RX9 := C
  have hl : lv_has ls 11 [(0, .ref (gA G (41 + 0))), (1, .int x1)] := hl
  refine lv_iconst (v := (-1 : Int32)) C.1.1 C.1.2.1 dX9_bestOf_0 rfl ?_
  refine lv_istore_n (lv' := [(2, .int (-1 : Int32)), (0, .ref (gA G (41 + 0))), (1, .int x1)]) C.1.1 C.1.2.1 dX9_bestOf_1 rfl hl (by decide) rfl (fun ls hl => ?_)
  refine lv_aload_n C.1.1 C.1.2.1 dX9_bestOf_2 rfl (lv_at hl 1 rfl) ?_
  refine lv_iload_n C.1.1 C.1.2.1 dX9_bestOf_3 rfl (lv_at hl 2 rfl) ?_
  obtain ⟨q1, h1, hf⟩ := o_bind hf
  refine aft_i hw (run_VM C hw clX9_364 (As := [.int x1]) (rest := []) oM_0 (c_X9_marginOf h1) rfl hl.1 rfl ⟨(Nat.le_of_ble_eq_true rfl), (Nat.le_of_ble_eq_true rfl)⟩ ⟨Nat.zero_le _, Nat.zero_le _⟩ rfl (Nat.le_of_ble_eq_true rfl) dX9_bestOf_4) (fun H locs hw => ?_)
  refine lv_istore_n (lv' := [(3, .int q1), (2, .int (-1 : Int32)), (0, .ref (gA G (41 + 0))), (1, .int x1)]) C.1.1 C.1.2.1 dX9_bestOf_7 rfl hl (by decide) rfl (fun ls hl => ?_)
  refine lv_iconst (v := (0 : Int32)) C.1.1 C.1.2.1 dX9_bestOf_8 rfl ?_
  refine lv_istore (lv' := [(4, .int (0 : Int32)), (3, .int q1), (2, .int (-1 : Int32)), (0, .ref (gA G (41 + 0))), (1, .int x1)]) C.1.1 C.1.2.1 dX9_bestOf_9 hl (by decide) rfl (fun ls hl => ?_)
  refine lv_iconst (v := (0 : Int32)) C.1.1 C.1.2.1 dX9_bestOf_11 rfl ?_
  refine lv_istore (lv' := [(5, .int (0 : Int32)), (4, .int (0 : Int32)), (3, .int q1), (2, .int (-1 : Int32)), (0, .ref (gA G (41 + 0))), (1, .int x1)]) C.1.1 C.1.2.1 dX9_bestOf_12 hl (by decide) rfl (fun ls hl => ?_)
  exact wL_X9_bestOf_14 C hr hlk FU X M L x1 (-1 : Int32) q1 (0 : Int32) (0 : Int32) _ _ _ hw (lv_sub hl [4, 5, 3, 2, 1, 0] rfl) hf
end
/-! WinnerDrawsModel.isDrawn()Z (('o', 'M', 0)) -/
def f_X9_isDrawn (M : TX) : Option (TX × Int32) := if inb (30 : Int32) 34 = true then (if (M 20 (Int32.toNatClampNeg (30 : Int32))) = (-1 : Int32) then (some (M, (0 : Int32))) else (if inb (30 : Int32) 34 = true then ((f_X9_bestOf M (M 20 (Int32.toNatClampNeg (30 : Int32)))).bind fun q4 => if q4.2 = (-1 : Int32) then (some (q4.1, (0 : Int32))) else ((f_X9_isMoved q4.1 (q4.2 / (10 : Int32)) (q4.2 - q4.2 / (10 : Int32) * (10 : Int32))).bind fun q6 => if q6.2 = 0 then (some (q6.1, (0 : Int32))) else (some (q6.1, (1 : Int32))))) else none)) else none
section
variable {G : GP} {l : Launch}
set_option maxRecDepth 20000 in
set_option maxHeartbeats 2000000 in
theorem c_X9_isDrawn   {X M : TX} {L : TL}  {ro : TX × Int32} (hf : f_X9_isDrawn M = some ro) : CTi G l yX9_isDrawn cX9_isDrawn 2 (some .boolean) 6 147 [.ref (gA G (41 + 0))] X M L X ro.1 L ro.2 := by
  unfold f_X9_isDrawn at hf
  refine ct_of (by decide +kernel) (Nat.le_of_ble_eq_true rfl) (fun p e s m args below meth c H locs ls C hr hlk hw hl => ?_)
  have C : Cx G p s m args c cX9_isDrawn 2 RX9 := C
  have hl : lv_has ls 2 [(0, .ref (gA G (41 + 0)))] := hl
  refine lv_aload_n C.1.1 C.1.2.1 dX9_isDrawn_0 rfl (lv_at hl 0 rfl) ?_
  refine m_ref C hw fM_0_42 flX9_74 dX9_isDrawn_1 ?_
  refine lv_bipush (v := (30 : Int32)) C.1.1 C.1.2.1 dX9_isDrawn_4 rfl ?_
  have g1 := inb_in (o_g hf).1
  have hf := (o_g hf).2
  refine m_ald C hw aM_20 g1 dX9_isDrawn_6 ?_
  refine lv_iconst (v := (-1 : Int32)) C.1.1 C.1.2.1 dX9_isDrawn_7 rfl ?_
  refine lv_icmp_ne (tgt := 15) C.1.1 C.1.2.1 dX9_isDrawn_8 (by decide) (fun c2 => ?_) (fun c2 => ?_)
  · have hf := o_f hf c2
    refine lv_aload_n C.1.1 C.1.2.1 dX9_isDrawn_15 rfl (lv_at hl 0 rfl) ?_
    refine lv_aload_n C.1.1 C.1.2.1 dX9_isDrawn_16 rfl (lv_at hl 0 rfl) ?_
    refine m_ref C hw fM_0_42 flX9_74 dX9_isDrawn_17 ?_
    refine lv_bipush (v := (30 : Int32)) C.1.1 C.1.2.1 dX9_isDrawn_20 rfl ?_
    have g3 := inb_in (o_g hf).1
    have hf := (o_g hf).2
    refine m_ald C hw aM_20 g3 dX9_isDrawn_22 ?_
    obtain ⟨q4, h4, hf⟩ := o_bind hf
    refine aft_i hw (run_VM C hw clX9_367 (As := [.int (M 20 (Int32.toNatClampNeg (30 : Int32)))]) (rest := []) oM_0 (c_X9_bestOf h4) rfl hl.1 rfl ⟨(Nat.le_of_ble_eq_true rfl), (Nat.le_of_ble_eq_true rfl)⟩ ⟨Nat.zero_le _, Nat.zero_le _⟩ rfl (Nat.le_of_ble_eq_true rfl) dX9_isDrawn_23) (fun H locs hw => ?_)
    refine lv_istore_n (lv' := [(1, .int q4.2), (0, .ref (gA G (41 + 0)))]) C.1.1 C.1.2.1 dX9_isDrawn_26 rfl hl (by decide) rfl (fun ls hl => ?_)
    refine lv_iload_n C.1.1 C.1.2.1 dX9_isDrawn_27 rfl (lv_at hl 0 rfl) ?_
    refine lv_iconst (v := (-1 : Int32)) C.1.1 C.1.2.1 dX9_isDrawn_28 rfl ?_
    refine lv_icmp_eq (tgt := 51) C.1.1 C.1.2.1 dX9_isDrawn_29 (by decide) (fun c5 => ?_) (fun c5 => ?_)
    · have hf := o_t hf c5
      refine lv_iconst (v := (0 : Int32)) C.1.1 C.1.2.1 dX9_isDrawn_51 rfl ?_
      obtain rfl := Option.some.inj hf
      exact ret_z (r := (0 : Int32)) C hr hlk hw rfl dX9_isDrawn_52
    · have hf := o_f hf c5
      refine lv_aload_n C.1.1 C.1.2.1 dX9_isDrawn_32 rfl (lv_at hl 1 rfl) ?_
      refine lv_iload_n C.1.1 C.1.2.1 dX9_isDrawn_33 rfl (lv_at hl 0 rfl) ?_
      refine lv_bipush (v := (10 : Int32)) C.1.1 C.1.2.1 dX9_isDrawn_34 rfl ?_
      refine lv_idiv C.1.1 C.1.2.1 dX9_isDrawn_36 (by decide) ?_
      refine lv_iload_n C.1.1 C.1.2.1 dX9_isDrawn_37 rfl (lv_at hl 0 rfl) ?_
      refine lv_bipush (v := (10 : Int32)) C.1.1 C.1.2.1 dX9_isDrawn_38 rfl ?_
      refine lv_irem C.1.1 C.1.2.1 dX9_isDrawn_40 (by decide) ?_
      obtain ⟨q6, h6, hf⟩ := o_bind hf
      refine aft_i hw (run_VM C hw clX9_370 (As := [.int (q4.2 / (10 : Int32)), .int (q4.2 - q4.2 / (10 : Int32) * (10 : Int32))]) (rest := []) oM_0 (c_X9_isMoved h6) rfl hl.1 rfl ⟨(Nat.le_of_ble_eq_true rfl), (Nat.le_of_ble_eq_true rfl)⟩ ⟨Nat.zero_le _, Nat.zero_le _⟩ rfl (Nat.le_of_ble_eq_true rfl) dX9_isDrawn_41) (fun H locs hw => ?_)
      refine lv_if_eq (tgt := 51) C.1.1 C.1.2.1 dX9_isDrawn_44 (by decide) (fun c7 => ?_) (fun c7 => ?_)
      · have hf := o_t hf c7
        refine lv_iconst (v := (0 : Int32)) C.1.1 C.1.2.1 dX9_isDrawn_51 rfl ?_
        obtain rfl := Option.some.inj hf
        exact ret_z (r := (0 : Int32)) C hr hlk hw rfl dX9_isDrawn_52
      · have hf := o_f hf c7
        refine lv_iconst (v := (1 : Int32)) C.1.1 C.1.2.1 dX9_isDrawn_47 rfl ?_
        refine lv_goto (tgt := 52) C.1.1 C.1.2.1 dX9_isDrawn_48 (by decide) ?_
        obtain rfl := Option.some.inj hf
        exact ret_z (r := (1 : Int32)) C hr hlk hw rfl dX9_isDrawn_52
  · have hf := o_t hf c2
    refine lv_iconst (v := (-1 : Int32)) C.1.1 C.1.2.1 dX9_isDrawn_11 rfl ?_
    refine lv_goto (tgt := 26) C.1.1 C.1.2.1 dX9_isDrawn_12 (by decide) ?_
    refine lv_istore_n (lv' := [(1, .int (-1 : Int32)), (0, .ref (gA G (41 + 0)))]) C.1.1 C.1.2.1 dX9_isDrawn_26 rfl hl (by decide) rfl (fun ls hl => ?_)
    refine lv_iload_n C.1.1 C.1.2.1 dX9_isDrawn_27 rfl (lv_at hl 0 rfl) ?_
    refine lv_iconst (v := (-1 : Int32)) C.1.1 C.1.2.1 dX9_isDrawn_28 rfl ?_
    refine lv_icmp_eq (tgt := 51) C.1.1 C.1.2.1 dX9_isDrawn_29 (by decide) (fun _ => ?_) (fun z => absurd (by decide) z)
    refine lv_iconst (v := (0 : Int32)) C.1.1 C.1.2.1 dX9_isDrawn_51 rfl ?_
    obtain rfl := Option.some.inj hf
    exact ret_z (r := (0 : Int32)) C hr hlk hw rfl dX9_isDrawn_52
end
