/-! WinnerDrawsModel.undo()I (('o', 'M', 0)) -/
def L_X9_undo_26 : Nat → TX → Int32 → Option (TX × Int32)
  | 0 => fun _ _ => none
  | n + 1 => fun M x1 => if (34 : Int32) ≤ x1 then (some ((u2 M 0 34 (0 : Int32)), ((u2 M 0 34 (0 : Int32)) 0 33))) else (if inb (((34 : Int32) * (M 0 33)) + x1) 544 = true then (if inb x1 34 = true then ((L_X9_undo_26 n) (u2 M 19 (Int32.toNatClampNeg x1) (M 21 (Int32.toNatClampNeg (((34 : Int32) * (M 0 33)) + x1)))) (x1 + (1 : Int32))) else none) else none)
def f_X9_undo (M : TX) : Option (TX × Int32) := if ((u2 M 0 0 (0 : Int32)) 0 33) = 0 then (some ((u2 M 0 0 (0 : Int32)), (-1 : Int32))) else (L_X9_undo_26 FU (u2 (u2 M 0 0 (0 : Int32)) 0 33 (((u2 M 0 0 (0 : Int32)) 0 33) - (1 : Int32))) (0 : Int32))
section
variable {G : GP} {l : Launch}
set_option maxRecDepth 20000 in
set_option maxHeartbeats 2000000 in
theorem wL_X9_undo_26 {p : Program} {e : Env} {s : State} {m : MethodId} {args : Array Value} {below : List Frame} {meth : Method} {c : Code} (C : Cx G p s m args c cX9_undo 2 RX9) (hr : meth.sig.returnType = (some .int)) (hlk : meth.locks = false) {ro : TX × Int32} : ∀ (n : Nat), ∀ (X : TX) (M : TX) (L : TL) (x1 : Int32) (H : Heap) (locs : List Loc) (ls : Array Slot), Wh G s X M L H locs → lv_has ls 2 [(0, .ref (gA G (41 + 0))), (1, .int x1)] → L_X9_undo_26 n M x1 = some ro → W p l e (rz 0 0) s m args below meth c H locs 0 0 (MQ below (Di G X ro.1 L ro.2) args s 0 0 (AB G)) (F0 m 26 ls []) := by
  intro n
  induction n with
  | zero =>
    intro X M L x1 H locs ls hw hl hf
    cases hf
  | succ n hk_26 =>
    intro X M L x1 H locs ls hw hl hf
    rw [L_X9_undo_26] at hf
    refine lv_iload_n C.1.1 C.1.2.1 dX9_undo_26 rfl (lv_at hl 1 rfl) ?_
    refine lv_bipush (v := (34 : Int32)) C.1.1 C.1.2.1 dX9_undo_27 rfl ?_
    refine lv_icmp_ge (tgt := 58) C.1.1 C.1.2.1 dX9_undo_29 (by decide) (fun c2 => ?_) (fun c2 => ?_)
    · have hf := o_t hf c2
      refine lv_aload_n C.1.1 C.1.2.1 dX9_undo_58 rfl (lv_at hl 0 rfl) ?_
      refine lv_iconst (v := (0 : Int32)) C.1.1 C.1.2.1 dX9_undo_59 rfl ?_
      refine m_put C hw iM_0_34 flX9_182 dX9_undo_60 (fun H locs hw => ?_)
      refine lv_aload_n C.1.1 C.1.2.1 dX9_undo_63 rfl (lv_at hl 0 rfl) ?_
      refine m_get C hw iM_0_33 flX9_176 dX9_undo_64 ?_
      obtain rfl := Option.some.inj hf
      exact ret_i C hr hlk hw dX9_undo_67
    · have hf := o_f hf c2
      refine lv_aload_n C.1.1 C.1.2.1 dX9_undo_32 rfl (lv_at hl 0 rfl) ?_
      refine m_ref C hw fM_0_41 flX9_71 dX9_undo_33 ?_
      refine lv_iload_n C.1.1 C.1.2.1 dX9_undo_36 rfl (lv_at hl 1 rfl) ?_
      refine lv_aload_n C.1.1 C.1.2.1 dX9_undo_37 rfl (lv_at hl 0 rfl) ?_
      refine m_ref C hw fM_0_43 flX9_77 dX9_undo_38 ?_
      refine lv_bipush (v := (34 : Int32)) C.1.1 C.1.2.1 dX9_undo_41 rfl ?_
      refine lv_aload_n C.1.1 C.1.2.1 dX9_undo_43 rfl (lv_at hl 0 rfl) ?_
      refine m_get C hw iM_0_33 flX9_176 dX9_undo_44 ?_
      refine lv_imul C.1.1 C.1.2.1 dX9_undo_47 ?_
      refine lv_iload_n C.1.1 C.1.2.1 dX9_undo_48 rfl (lv_at hl 1 rfl) ?_
      refine lv_iadd C.1.1 C.1.2.1 dX9_undo_49 ?_
      have g3 := inb_in (o_g hf).1
      have hf := (o_g hf).2
      refine m_ald C hw aM_21 g3 dX9_undo_50 ?_
      have g4 := inb_in (o_g hf).1
      have hf := (o_g hf).2
      refine m_ast C hw aM_19 g4 dX9_undo_51 (fun H locs hw => ?_)
      refine lv_iinc (v := (x1 + (1 : Int32))) (lv' := [(1, .int (x1 + (1 : Int32))), (0, .ref (gA G (41 + 0)))]) C.1.1 C.1.2.1 dX9_undo_52 hl (k := 1) rfl rfl (by decide) rfl (fun ls hl => ?_)
      refine lv_goto (tgt := 26) C.1.1 C.1.2.1 dX9_undo_55 (by decide) ?_
      exact hk_26 X (u2 M 19 (Int32.toNatClampNeg x1) (M 21 (Int32.toNatClampNeg (((34 : Int32) * (M 0 33)) + x1)))) L (x1 + (1 : Int32)) _ _ _ hw (lv_sub hl [1, 0] rfl) hf
set_option maxRecDepth 20000 in
set_option maxHeartbeats 2000000 in
theorem c_X9_undo   {X M : TX} {L : TL}  {ro : TX × Int32} (hf : f_X9_undo M = some ro) : CTi G l yX9_undo cX9_undo 2 (some .int) 0 0 [.ref (gA G (41 + 0))] X M L X ro.1 L ro.2 := by
  unfold f_X9_undo at hf
  refine ct_of (by decide +kernel) (Nat.le_of_ble_eq_true rfl) (fun p e s m args below meth c H locs ls C hr hlk hw hl => ?_)
  have C : Cx G p s m args c cX9_undo 2 RX9 := C
  have hl : lv_has ls 2 [(0, .ref (gA G (41 + 0)))] := hl
  refine lv_aload_n C.1.1 C.1.2.1 dX9_undo_0 rfl (lv_at hl 0 rfl) ?_
  refine lv_iconst (v := (0 : Int32)) C.1.1 C.1.2.1 dX9_undo_1 rfl ?_
  refine m_put C hw iM_0_0 flX9_3 dX9_undo_2 (fun H locs hw => ?_)
  refine lv_aload_n C.1.1 C.1.2.1 dX9_undo_5 rfl (lv_at hl 0 rfl) ?_
  refine m_get C hw iM_0_33 flX9_176 dX9_undo_6 ?_
  refine lv_if_ne (tgt := 14) C.1.1 C.1.2.1 dX9_undo_9 (by decide) (fun c1 => ?_) (fun c1 => ?_)
  · have hf := o_f hf c1
    refine lv_aload_n C.1.1 C.1.2.1 dX9_undo_14 rfl (lv_at hl 0 rfl) ?_
    refine lv_dup C.1.1 C.1.2.1 dX9_undo_15 rfl ?_
    refine m_get C hw iM_0_33 flX9_176 dX9_undo_16 ?_
    refine lv_iconst (v := (1 : Int32)) C.1.1 C.1.2.1 dX9_undo_19 rfl ?_
    refine lv_isub C.1.1 C.1.2.1 dX9_undo_20 ?_
    refine m_put C hw iM_0_33 flX9_176 dX9_undo_21 (fun H locs hw => ?_)
    refine lv_iconst (v := (0 : Int32)) C.1.1 C.1.2.1 dX9_undo_24 rfl ?_
    refine lv_istore_n (lv' := [(1, .int (0 : Int32)), (0, .ref (gA G (41 + 0)))]) C.1.1 C.1.2.1 dX9_undo_25 rfl hl (by decide) rfl (fun ls hl => ?_)
    exact wL_X9_undo_26 C hr hlk FU X (u2 (u2 M 0 0 (0 : Int32)) 0 33 (((u2 M 0 0 (0 : Int32)) 0 33) - (1 : Int32))) L (0 : Int32) _ _ _ hw (lv_sub hl [1, 0] rfl) hf
  · have hf := o_t hf c1
    refine lv_iconst (v := (-1 : Int32)) C.1.1 C.1.2.1 dX9_undo_12 rfl ?_
    obtain rfl := Option.some.inj hf
    exact ret_i C hr hlk hw dX9_undo_13
end
/-! WinnerDrawsModel.within(III)Z (('i',) ('i',) ('i',)) -/
def f_X9_within (x0 : Int32) (x1 : Int32) (x2 : Int32) : Option (Int32) := if x0 < x1 then (some (0 : Int32)) else (if x2 < x0 then (some (0 : Int32)) else (some (1 : Int32)))
section
variable {G : GP} {l : Launch}
set_option maxRecDepth 20000 in
set_option maxHeartbeats 2000000 in
theorem c_X9_within   {X M : TX} {L : TL} {x0 : Int32} {x1 : Int32} {x2 : Int32} {ro : Int32} (hf : f_X9_within x0 x1 x2 = some ro) : CTi G l yX9_within cX9_within 3 (some .boolean) 0 0 [.int x0, .int x1, .int x2] X M L X M L ro := by
  unfold f_X9_within at hf
  refine ct_of (by decide +kernel) (Nat.le_of_ble_eq_true rfl) (fun p e s m args below meth c H locs ls C hr hlk hw hl => ?_)
  have C : Cx G p s m args c cX9_within 3 RX9 := C
  have hl : lv_has ls 3 [(0, .int x0), (1, .int x1), (2, .int x2)] := hl
  refine lv_iload_n C.1.1 C.1.2.1 dX9_within_0 rfl (lv_at hl 0 rfl) ?_
  refine lv_iload_n C.1.1 C.1.2.1 dX9_within_1 rfl (lv_at hl 1 rfl) ?_
  refine lv_icmp_lt (tgt := 14) C.1.1 C.1.2.1 dX9_within_2 (by decide) (fun c1 => ?_) (fun c1 => ?_)
  · have hf := o_t hf c1
    refine lv_iconst (v := (0 : Int32)) C.1.1 C.1.2.1 dX9_within_14 rfl ?_
    obtain rfl := Option.some.inj hf
    exact ret_z (r := (0 : Int32)) C hr hlk hw rfl dX9_within_15
  · have hf := o_f hf c1
    refine lv_iload_n C.1.1 C.1.2.1 dX9_within_5 rfl (lv_at hl 0 rfl) ?_
    refine lv_iload_n C.1.1 C.1.2.1 dX9_within_6 rfl (lv_at hl 2 rfl) ?_
    refine lv_icmp_gt (tgt := 14) C.1.1 C.1.2.1 dX9_within_7 (by decide) (fun c2 => ?_) (fun c2 => ?_)
    · have hf := o_t hf c2
      refine lv_iconst (v := (0 : Int32)) C.1.1 C.1.2.1 dX9_within_14 rfl ?_
      obtain rfl := Option.some.inj hf
      exact ret_z (r := (0 : Int32)) C hr hlk hw rfl dX9_within_15
    · have hf := o_f hf c2
      refine lv_iconst (v := (1 : Int32)) C.1.1 C.1.2.1 dX9_within_10 rfl ?_
      refine lv_goto (tgt := 15) C.1.1 C.1.2.1 dX9_within_11 (by decide) ?_
      obtain rfl := Option.some.inj hf
      exact ret_z (r := (1 : Int32)) C hr hlk hw rfl dX9_within_15
end
/-! WinnerDrawsModel.told(I)I (('o', 'M', 0) ('i',)) -/
def B_X9_told_97 (M : TX) (x1 : Int32) (x2 : Int32) : Option (TX × Int32) := if (4 : Int32) ≤ x1 then (if (7 : Int32) ≤ x1 then (if (10 : Int32) ≤ x1 then (if x1 = (10 : Int32) then (some (M, (M 0 34))) else (if x1 = (11 : Int32) then (some (M, (M 0 40))) else (if inb (33 : Int32) 34 = true then (some (M, (M 20 (Int32.toNatClampNeg (33 : Int32))))) else none))) else (if x1 = (7 : Int32) then ((f_X9_linesNow M).bind fun q19 => some (M, q19)) else (if x1 = (8 : Int32) then ((f_X9_everybody M).bind fun q15 => (f_X9_votesIn M q15 (0 : Int32)).bind fun q16 => (f_X9_everybody M).bind fun q17 => (f_X9_votesIn M q17 (1 : Int32)).bind fun q18 => some (M, (q16 + q18))) else (some (M, x2))))) else (if x1 = (4 : Int32) then (if inb (32 : Int32) 34 = true then (some (M, (M 20 (Int32.toNatClampNeg (32 : Int32))))) else none) else (if x1 = (5 : Int32) then (if inb (30 : Int32) 34 = true then (some (M, (M 20 (Int32.toNatClampNeg (30 : Int32))))) else none) else (if inb (31 : Int32) 34 = true then (some (M, (M 20 (Int32.toNatClampNeg (31 : Int32))))) else none)))) else (if x1 = 0 then (some (M, (M 0 19))) else (if x1 = (1 : Int32) then (some (M, (x2 / (2 : Int32)))) else (if x1 = (2 : Int32) then (some (M, (M 0 20))) else (some (M, (M 0 21))))))
def L_X9_told_70 : Nat → TX → Int32 → Int32 → Int32 → Option (TX × Int32)
  | 0 => fun _ _ _ _ => none
  | n + 1 => fun M x1 x2 x3 => if (M 0 19) ≤ x3 then (B_X9_told_97 M x1 x2) else (if inb ((0 : Int32) + x3) 34 = true then ((L_X9_told_70 n) M x1 (x2 ||| ((1 : Int32) <<< ((M 20 (Int32.toNatClampNeg ((0 : Int32) + x3))) &&& 31))) (x3 + (1 : Int32))) else none)
def L_X9_told_36 : Nat → TX → Int32 → Int32 → Int32 → Option (TX × Int32)
  | 0 => fun _ _ _ _ => none
  | n + 1 => fun M x1 x2 x3 => if (M 0 19) ≤ x3 then (if x1 = (9 : Int32) then (L_X9_told_70 FU M x1 x2 (0 : Int32)) else (B_X9_told_97 M x1 x2)) else (if inb x3 10 = true then ((f_X9_ones (M 7 (Int32.toNatClampNeg x3))).bind fun q33 => (L_X9_told_36 n) M x1 (x2 + q33) (x3 + (1 : Int32))) else none)
def f_X9_told (M : TX) (x1 : Int32) : Option (TX × Int32) := (f_X9_within x1 (0 : Int32) (12 : Int32)).bind fun q1 => (f_X9_lets (u2 M 0 0 (0 : Int32)) q1 (1 : Int32) (1 : Int32)).bind fun q2 => if q2.2 = 0 then (some (q2.1, (0 : Int32))) else ((f_X9_take q2.1).bind fun q4 => if x1 = (1 : Int32) then (L_X9_told_36 FU q4 x1 (0 : Int32) (0 : Int32)) else (if x1 = (9 : Int32) then (L_X9_told_70 FU q4 x1 (0 : Int32) (0 : Int32)) else (B_X9_told_97 q4 x1 (0 : Int32))))
section
variable {G : GP} {l : Launch}
set_option maxRecDepth 20000 in
set_option maxHeartbeats 2000000 in
theorem wB_X9_told_97 {p : Program} {e : Env} {s : State} {m : MethodId} {args : Array Value} {below : List Frame} {meth : Method} {c : Code} (C : Cx G p s m args c cX9_told 4 RX9) (hr : meth.sig.returnType = (some .int)) (hlk : meth.locks = false) {ro : TX × Int32} : ∀ (X : TX) (M : TX) (L : TL) (x1 : Int32) (x2 : Int32) (H : Heap) (locs : List Loc) (ls : Array Slot), Wh G s X M L H locs → lv_has ls 4 [(0, .ref (gA G (41 + 0))), (1, .int x1), (2, .int x2)] → B_X9_told_97 M x1 x2 = some ro → W p l e (rz 2 46) s m args below meth c H locs 0 0 (MQ below (Di G X ro.1 L ro.2) args s 0 0 (AB G)) (F0 m 97 ls []) := by
  intro X M L x1 x2 H locs ls hw hl hf
  unfold B_X9_told_97 at hf
  refine lv_iload_n C.1.1 C.1.2.1 dX9_told_97 rfl (lv_at hl 1 rfl) ?_
  refine lv_iconst (v := (4 : Int32)) C.1.1 C.1.2.1 dX9_told_98 rfl ?_
  refine lv_icmp_ge (tgt := 141) C.1.1 C.1.2.1 dX9_told_99 (by decide) (fun c7 => ?_) (fun c7 => ?_)
  · have hf := o_t hf c7
    refine lv_iload_n C.1.1 C.1.2.1 dX9_told_141 rfl (lv_at hl 1 rfl) ?_
    refine lv_bipush (v := (7 : Int32)) C.1.1 C.1.2.1 dX9_told_142 rfl ?_
    refine lv_icmp_ge (tgt := 175) C.1.1 C.1.2.1 dX9_told_144 (by decide) (fun c8 => ?_) (fun c8 => ?_)
    · have hf := o_t hf c8
      refine lv_iload_n C.1.1 C.1.2.1 dX9_told_175 rfl (lv_at hl 1 rfl) ?_
      refine lv_bipush (v := (10 : Int32)) C.1.1 C.1.2.1 dX9_told_176 rfl ?_
      refine lv_icmp_ge (tgt := 224) C.1.1 C.1.2.1 dX9_told_178 (by decide) (fun c9 => ?_) (fun c9 => ?_)
      · have hf := o_t hf c9
        refine lv_iload_n C.1.1 C.1.2.1 dX9_told_224 rfl (lv_at hl 1 rfl) ?_
        refine lv_bipush (v := (10 : Int32)) C.1.1 C.1.2.1 dX9_told_225 rfl ?_
        refine lv_icmp_ne (tgt := 237) C.1.1 C.1.2.1 dX9_told_227 (by decide) (fun c10 => ?_) (fun c10 => ?_)
        · have hf := o_f hf c10
          refine lv_iload_n C.1.1 C.1.2.1 dX9_told_237 rfl (lv_at hl 1 rfl) ?_
          refine lv_bipush (v := (11 : Int32)) C.1.1 C.1.2.1 dX9_told_238 rfl ?_
          refine lv_icmp_ne (tgt := 250) C.1.1 C.1.2.1 dX9_told_240 (by decide) (fun c11 => ?_) (fun c11 => ?_)
          · have hf := o_f hf c11
            refine lv_aload_n C.1.1 C.1.2.1 dX9_told_250 rfl (lv_at hl 0 rfl) ?_
            refine m_ref C hw fM_0_42 flX9_74 dX9_told_251 ?_
            refine lv_bipush (v := (33 : Int32)) C.1.1 C.1.2.1 dX9_told_254 rfl ?_
            have g12 := inb_in (o_g hf).1
            have hf := (o_g hf).2
            refine m_ald C hw aM_20 g12 dX9_told_256 ?_
            obtain rfl := Option.some.inj hf
            exact ret_i C hr hlk hw dX9_told_257
          · have hf := o_t hf c11
            refine lv_aload_n C.1.1 C.1.2.1 dX9_told_243 rfl (lv_at hl 0 rfl) ?_
            refine m_get C hw iM_0_40 flX9_173 dX9_told_244 ?_
            refine lv_goto (tgt := 257) C.1.1 C.1.2.1 dX9_told_247 (by decide) ?_
            obtain rfl := Option.some.inj hf
            exact ret_i C hr hlk hw dX9_told_257
        · have hf := o_t hf c10
          refine lv_aload_n C.1.1 C.1.2.1 dX9_told_230 rfl (lv_at hl 0 rfl) ?_
          refine m_get C hw iM_0_34 flX9_182 dX9_told_231 ?_
          refine lv_goto (tgt := 257) C.1.1 C.1.2.1 dX9_told_234 (by decide) ?_
          obtain rfl := Option.some.inj hf
          exact ret_i C hr hlk hw dX9_told_257
      · have hf := o_f hf c9
        refine lv_iload_n C.1.1 C.1.2.1 dX9_told_181 rfl (lv_at hl 1 rfl) ?_
        refine lv_bipush (v := (7 : Int32)) C.1.1 C.1.2.1 dX9_told_182 rfl ?_
        refine lv_icmp_ne (tgt := 194) C.1.1 C.1.2.1 dX9_told_184 (by decide) (fun c13 => ?_) (fun c13 => ?_)
        · have hf := o_f hf c13
          refine lv_iload_n C.1.1 C.1.2.1 dX9_told_194 rfl (lv_at hl 1 rfl) ?_
          refine lv_bipush (v := (8 : Int32)) C.1.1 C.1.2.1 dX9_told_195 rfl ?_
          refine lv_icmp_ne (tgt := 222) C.1.1 C.1.2.1 dX9_told_197 (by decide) (fun c14 => ?_) (fun c14 => ?_)
          · have hf := o_f hf c14
            refine lv_iload_n C.1.1 C.1.2.1 dX9_told_222 rfl (lv_at hl 2 rfl) ?_
            obtain rfl := Option.some.inj hf
            exact ret_i C hr hlk hw dX9_told_223
          · have hf := o_t hf c14
            refine lv_aload_n C.1.1 C.1.2.1 dX9_told_200 rfl (lv_at hl 0 rfl) ?_
            refine lv_aload_n C.1.1 C.1.2.1 dX9_told_201 rfl (lv_at hl 0 rfl) ?_
            obtain ⟨q15, h15, hf⟩ := o_bind hf
            refine aft_i hw (run_VM C hw clX9_376 (As := []) (rest := [.ref (gA G (41 + 0))]) oM_0 (c_X9_everybody h15) rfl hl.1 rfl ⟨(Nat.le_of_ble_eq_true rfl), (Nat.le_of_ble_eq_true rfl)⟩ ⟨Nat.zero_le _, Nat.zero_le _⟩ rfl (Nat.le_of_ble_eq_true rfl) dX9_told_202) (fun H locs hw => ?_)
            refine lv_iconst (v := (0 : Int32)) C.1.1 C.1.2.1 dX9_told_205 rfl ?_
            obtain ⟨q16, h16, hf⟩ := o_bind hf
            refine aft_i hw (run_VM C hw clX9_332 (As := [.int q15, .int (0 : Int32)]) (rest := []) oM_0 (c_X9_votesIn h16) rfl hl.1 rfl ⟨(Nat.le_of_ble_eq_true rfl), (Nat.le_of_ble_eq_true rfl)⟩ ⟨Nat.zero_le _, Nat.zero_le _⟩ rfl (Nat.le_of_ble_eq_true rfl) dX9_told_206) (fun H locs hw => ?_)
            refine lv_aload_n C.1.1 C.1.2.1 dX9_told_209 rfl (lv_at hl 0 rfl) ?_
            refine lv_aload_n C.1.1 C.1.2.1 dX9_told_210 rfl (lv_at hl 0 rfl) ?_
            obtain ⟨q17, h17, hf⟩ := o_bind hf
            refine aft_i hw (run_VM C hw clX9_376 (As := []) (rest := [.ref (gA G (41 + 0)), .int q16]) oM_0 (c_X9_everybody h17) rfl hl.1 rfl ⟨(Nat.le_of_ble_eq_true rfl), (Nat.le_of_ble_eq_true rfl)⟩ ⟨Nat.zero_le _, Nat.zero_le _⟩ rfl (Nat.le_of_ble_eq_true rfl) dX9_told_211) (fun H locs hw => ?_)
            refine lv_iconst (v := (1 : Int32)) C.1.1 C.1.2.1 dX9_told_214 rfl ?_
            obtain ⟨q18, h18, hf⟩ := o_bind hf
            refine aft_i hw (run_VM C hw clX9_332 (As := [.int q17, .int (1 : Int32)]) (rest := [.int q16]) oM_0 (c_X9_votesIn h18) rfl hl.1 rfl ⟨(Nat.le_of_ble_eq_true rfl), (Nat.le_of_ble_eq_true rfl)⟩ ⟨Nat.zero_le _, Nat.zero_le _⟩ rfl (Nat.le_of_ble_eq_true rfl) dX9_told_215) (fun H locs hw => ?_)
            refine lv_iadd C.1.1 C.1.2.1 dX9_told_218 ?_
            refine lv_goto (tgt := 223) C.1.1 C.1.2.1 dX9_told_219 (by decide) ?_
            obtain rfl := Option.some.inj hf
            exact ret_i C hr hlk hw dX9_told_223
        · have hf := o_t hf c13
          refine lv_aload_n C.1.1 C.1.2.1 dX9_told_187 rfl (lv_at hl 0 rfl) ?_
          obtain ⟨q19, h19, hf⟩ := o_bind hf
          refine aft_i hw (run_VM C hw clX9_347 (As := []) (rest := []) oM_0 (c_X9_linesNow h19) rfl hl.1 rfl ⟨(Nat.le_of_ble_eq_true rfl), (Nat.le_of_ble_eq_true rfl)⟩ ⟨Nat.zero_le _, Nat.zero_le _⟩ rfl (Nat.le_of_ble_eq_true rfl) dX9_told_188) (fun H locs hw => ?_)
          refine lv_goto (tgt := 223) C.1.1 C.1.2.1 dX9_told_191 (by decide) ?_
          obtain rfl := Option.some.inj hf
          exact ret_i C hr hlk hw dX9_told_223
    · have hf := o_f hf c8
      refine lv_aload_n C.1.1 C.1.2.1 dX9_told_147 rfl (lv_at hl 0 rfl) ?_
      refine m_ref C hw fM_0_42 flX9_74 dX9_told_148 ?_
      refine lv_iload_n C.1.1 C.1.2.1 dX9_told_151 rfl (lv_at hl 1 rfl) ?_
      refine lv_iconst (v := (4 : Int32)) C.1.1 C.1.2.1 dX9_told_152 rfl ?_
      refine lv_icmp_ne (tgt := 161) C.1.1 C.1.2.1 dX9_told_153 (by decide) (fun c20 => ?_) (fun c20 => ?_)
      · have hf := o_f hf c20
        refine lv_iload_n C.1.1 C.1.2.1 dX9_told_161 rfl (lv_at hl 1 rfl) ?_
        refine lv_iconst (v := (5 : Int32)) C.1.1 C.1.2.1 dX9_told_162 rfl ?_
        refine lv_icmp_ne (tgt := 171) C.1.1 C.1.2.1 dX9_told_163 (by decide) (fun c21 => ?_) (fun c21 => ?_)
        · have hf := o_f hf c21
          refine lv_bipush (v := (31 : Int32)) C.1.1 C.1.2.1 dX9_told_171 rfl ?_
          have g22 := inb_in (o_g hf).1
          have hf := (o_g hf).2
          refine m_ald C hw aM_20 g22 dX9_told_173 ?_
          obtain rfl := Option.some.inj hf
          exact ret_i C hr hlk hw dX9_told_174
        · have hf := o_t hf c21
          refine lv_bipush (v := (30 : Int32)) C.1.1 C.1.2.1 dX9_told_166 rfl ?_
          refine lv_goto (tgt := 173) C.1.1 C.1.2.1 dX9_told_168 (by decide) ?_
          have g23 := inb_in (o_g hf).1
          have hf := (o_g hf).2
          refine m_ald C hw aM_20 g23 dX9_told_173 ?_
          obtain rfl := Option.some.inj hf
          exact ret_i C hr hlk hw dX9_told_174
      · have hf := o_t hf c20
        refine lv_bipush (v := (32 : Int32)) C.1.1 C.1.2.1 dX9_told_156 rfl ?_
        refine lv_goto (tgt := 173) C.1.1 C.1.2.1 dX9_told_158 (by decide) ?_
        have g24 := inb_in (o_g hf).1
        have hf := (o_g hf).2
        refine m_ald C hw aM_20 g24 dX9_told_173 ?_
        obtain rfl := Option.some.inj hf
        exact ret_i C hr hlk hw dX9_told_174
  · have hf := o_f hf c7
    refine lv_iload_n C.1.1 C.1.2.1 dX9_told_102 rfl (lv_at hl 1 rfl) ?_
    refine lv_if_ne (tgt := 113) C.1.1 C.1.2.1 dX9_told_103 (by decide) (fun c25 => ?_) (fun c25 => ?_)
    · have hf := o_f hf c25
      refine lv_iload_n C.1.1 C.1.2.1 dX9_told_113 rfl (lv_at hl 1 rfl) ?_
      refine lv_iconst (v := (1 : Int32)) C.1.1 C.1.2.1 dX9_told_114 rfl ?_
      refine lv_icmp_ne (tgt := 124) C.1.1 C.1.2.1 dX9_told_115 (by decide) (fun c26 => ?_) (fun c26 => ?_)
      · have hf := o_f hf c26
        refine lv_iload_n C.1.1 C.1.2.1 dX9_told_124 rfl (lv_at hl 1 rfl) ?_
        refine lv_iconst (v := (2 : Int32)) C.1.1 C.1.2.1 dX9_told_125 rfl ?_
        refine lv_icmp_ne (tgt := 136) C.1.1 C.1.2.1 dX9_told_126 (by decide) (fun c27 => ?_) (fun c27 => ?_)
        · have hf := o_f hf c27
          refine lv_aload_n C.1.1 C.1.2.1 dX9_told_136 rfl (lv_at hl 0 rfl) ?_
          refine m_get C hw iM_0_21 flX9_163 dX9_told_137 ?_
          obtain rfl := Option.some.inj hf
          exact ret_i C hr hlk hw dX9_told_140
        · have hf := o_t hf c27
          refine lv_aload_n C.1.1 C.1.2.1 dX9_told_129 rfl (lv_at hl 0 rfl) ?_
          refine m_get C hw iM_0_20 flX9_160 dX9_told_130 ?_
          refine lv_goto (tgt := 140) C.1.1 C.1.2.1 dX9_told_133 (by decide) ?_
          obtain rfl := Option.some.inj hf
          exact ret_i C hr hlk hw dX9_told_140
      · have hf := o_t hf c26
        refine lv_iload_n C.1.1 C.1.2.1 dX9_told_118 rfl (lv_at hl 2 rfl) ?_
        refine lv_iconst (v := (2 : Int32)) C.1.1 C.1.2.1 dX9_told_119 rfl ?_
        refine lv_idiv C.1.1 C.1.2.1 dX9_told_120 (by decide) ?_
        refine lv_goto (tgt := 140) C.1.1 C.1.2.1 dX9_told_121 (by decide) ?_
        obtain rfl := Option.some.inj hf
        exact ret_i C hr hlk hw dX9_told_140
    · have hf := o_t hf c25
      refine lv_aload_n C.1.1 C.1.2.1 dX9_told_106 rfl (lv_at hl 0 rfl) ?_
      refine m_get C hw iM_0_19 flX9_157 dX9_told_107 ?_
      refine lv_goto (tgt := 140) C.1.1 C.1.2.1 dX9_told_110 (by decide) ?_
      obtain rfl := Option.some.inj hf
      exact ret_i C hr hlk hw dX9_told_140
set_option maxRecDepth 20000 in
set_option maxHeartbeats 2000000 in
theorem wL_X9_told_70 {p : Program} {e : Env} {s : State} {m : MethodId} {args : Array Value} {below : List Frame} {meth : Method} {c : Code} (C : Cx G p s m args c cX9_told 4 RX9) (hr : meth.sig.returnType = (some .int)) (hlk : meth.locks = false) {ro : TX × Int32} : ∀ (n : Nat), ∀ (X : TX) (M : TX) (L : TL) (x1 : Int32) (x2 : Int32) (x3 : Int32) (H : Heap) (locs : List Loc) (ls : Array Slot), Wh G s X M L H locs → lv_has ls 4 [(0, .ref (gA G (41 + 0))), (1, .int x1), (2, .int x2), (3, .int x3)] → L_X9_told_70 n M x1 x2 x3 = some ro → W p l e (rz 2 46) s m args below meth c H locs 0 0 (MQ below (Di G X ro.1 L ro.2) args s 0 0 (AB G)) (F0 m 70 ls []) := by
  intro n
  induction n with
  | zero =>
    intro X M L x1 x2 x3 H locs ls hw hl hf
    cases hf
  | succ n hk_70 =>
    intro X M L x1 x2 x3 H locs ls hw hl hf
    rw [L_X9_told_70] at hf
    refine lv_iload_n C.1.1 C.1.2.1 dX9_told_70 rfl (lv_at hl 3 rfl) ?_
    refine lv_aload_n C.1.1 C.1.2.1 dX9_told_71 rfl (lv_at hl 0 rfl) ?_
    refine m_get C hw iM_0_19 flX9_157 dX9_told_72 ?_
    refine lv_icmp_ge (tgt := 97) C.1.1 C.1.2.1 dX9_told_75 (by decide) (fun c28 => ?_) (fun c28 => ?_)
    · have hf := o_t hf c28
      exact wB_X9_told_97 C hr hlk X M L x1 x2 _ _ _ hw (lv_sub hl [0, 1, 2] rfl) hf
    · have hf := o_f hf c28
      refine lv_iload_n C.1.1 C.1.2.1 dX9_told_78 rfl (lv_at hl 2 rfl) ?_
      refine lv_iconst (v := (1 : Int32)) C.1.1 C.1.2.1 dX9_told_79 rfl ?_
      refine lv_aload_n C.1.1 C.1.2.1 dX9_told_80 rfl (lv_at hl 0 rfl) ?_
      refine m_ref C hw fM_0_42 flX9_74 dX9_told_81 ?_
      refine lv_iconst (v := (0 : Int32)) C.1.1 C.1.2.1 dX9_told_84 rfl ?_
      refine lv_iload_n C.1.1 C.1.2.1 dX9_told_85 rfl (lv_at hl 3 rfl) ?_
      refine lv_iadd C.1.1 C.1.2.1 dX9_told_86 ?_
      have g29 := inb_in (o_g hf).1
      have hf := (o_g hf).2
      refine m_ald C hw aM_20 g29 dX9_told_87 ?_
      refine lv_ishl C.1.1 C.1.2.1 dX9_told_88 ?_
      refine lv_ior C.1.1 C.1.2.1 dX9_told_89 ?_
      refine lv_istore_n (lv' := [(2, .int (x2 ||| ((1 : Int32) <<< ((M 20 (Int32.toNatClampNeg ((0 : Int32) + x3))) &&& 31)))), (0, .ref (gA G (41 + 0))), (1, .int x1), (3, .int x3)]) C.1.1 C.1.2.1 dX9_told_90 rfl hl (by decide) rfl (fun ls hl => ?_)
      refine lv_iinc (v := (x3 + (1 : Int32))) (lv' := [(3, .int (x3 + (1 : Int32))), (2, .int (x2 ||| ((1 : Int32) <<< ((M 20 (Int32.toNatClampNeg ((0 : Int32) + x3))) &&& 31)))), (0, .ref (gA G (41 + 0))), (1, .int x1)]) C.1.1 C.1.2.1 dX9_told_91 hl (k := 3) rfl rfl (by decide) rfl (fun ls hl => ?_)
      refine lv_goto (tgt := 70) C.1.1 C.1.2.1 dX9_told_94 (by decide) ?_
      exact hk_70 X M L x1 (x2 ||| ((1 : Int32) <<< ((M 20 (Int32.toNatClampNeg ((0 : Int32) + x3))) &&& 31))) (x3 + (1 : Int32)) _ _ _ hw (lv_sub hl [2, 3, 1, 0] rfl) hf
set_option maxRecDepth 20000 in
set_option maxHeartbeats 2000000 in
theorem wL_X9_told_36 {p : Program} {e : Env} {s : State} {m : MethodId} {args : Array Value} {below : List Frame} {meth : Method} {c : Code} (C : Cx G p s m args c cX9_told 4 RX9) (hr : meth.sig.returnType = (some .int)) (hlk : meth.locks = false) {ro : TX × Int32} : ∀ (n : Nat), ∀ (X : TX) (M : TX) (L : TL) (x1 : Int32) (x2 : Int32) (x3 : Int32) (H : Heap) (locs : List Loc) (ls : Array Slot), Wh G s X M L H locs → lv_has ls 4 [(0, .ref (gA G (41 + 0))), (1, .int x1), (2, .int x2), (3, .int x3)] → L_X9_told_36 n M x1 x2 x3 = some ro → W p l e (rz 2 46) s m args below meth c H locs 0 0 (MQ below (Di G X ro.1 L ro.2) args s 0 0 (AB G)) (F0 m 36 ls []) := by
  intro n
  induction n with
  | zero =>
    intro X M L x1 x2 x3 H locs ls hw hl hf
    cases hf
  | succ n hk_36 =>
    intro X M L x1 x2 x3 H locs ls hw hl hf
    rw [L_X9_told_36] at hf
    refine lv_iload_n C.1.1 C.1.2.1 dX9_told_36 rfl (lv_at hl 3 rfl) ?_
    refine lv_aload_n C.1.1 C.1.2.1 dX9_told_37 rfl (lv_at hl 0 rfl) ?_
    refine m_get C hw iM_0_19 flX9_157 dX9_told_38 ?_
    refine lv_icmp_ge (tgt := 62) C.1.1 C.1.2.1 dX9_told_41 (by decide) (fun c30 => ?_) (fun c30 => ?_)
    · have hf := o_t hf c30
      refine lv_iload_n C.1.1 C.1.2.1 dX9_told_62 rfl (lv_at hl 1 rfl) ?_
      refine lv_bipush (v := (9 : Int32)) C.1.1 C.1.2.1 dX9_told_63 rfl ?_
      refine lv_icmp_ne (tgt := 97) C.1.1 C.1.2.1 dX9_told_65 (by decide) (fun c31 => ?_) (fun c31 => ?_)
      · have hf := o_f hf c31
        exact wB_X9_told_97 C hr hlk X M L x1 x2 _ _ _ hw (lv_sub hl [0, 1, 2] rfl) hf
      · have hf := o_t hf c31
        refine lv_iconst (v := (0 : Int32)) C.1.1 C.1.2.1 dX9_told_68 rfl ?_
        refine lv_istore_n (lv' := [(3, .int (0 : Int32)), (0, .ref (gA G (41 + 0))), (1, .int x1), (2, .int x2)]) C.1.1 C.1.2.1 dX9_told_69 rfl hl (by decide) rfl (fun ls hl => ?_)
        exact wL_X9_told_70 C hr hlk FU X M L x1 x2 (0 : Int32) _ _ _ hw (lv_sub hl [1, 2, 3, 0] rfl) hf
    · have hf := o_f hf c30
      refine lv_iload_n C.1.1 C.1.2.1 dX9_told_44 rfl (lv_at hl 2 rfl) ?_
      refine lv_aload_n C.1.1 C.1.2.1 dX9_told_45 rfl (lv_at hl 0 rfl) ?_
      refine m_ref C hw fM_0_14 flX9_35 dX9_told_46 ?_
      refine lv_iload_n C.1.1 C.1.2.1 dX9_told_49 rfl (lv_at hl 3 rfl) ?_
      have g32 := inb_in (o_g hf).1
      have hf := (o_g hf).2
      refine m_ald C hw aM_7 g32 dX9_told_50 ?_
      obtain ⟨q33, h33, hf⟩ := o_bind hf
      refine aft_i hw (run_S C hw clX9_344 (As := [.int (M 7 (Int32.toNatClampNeg x3))]) (rest := [.int x2]) (c_X9_ones h33) hl.1 rfl ⟨(Nat.le_of_ble_eq_true rfl), (Nat.le_of_ble_eq_true rfl)⟩ ⟨Nat.zero_le _, Nat.zero_le _⟩ rfl (Nat.le_of_ble_eq_true rfl) dX9_told_51) (fun H locs hw => ?_)
      refine lv_iadd C.1.1 C.1.2.1 dX9_told_54 ?_
      refine lv_istore_n (lv' := [(2, .int (x2 + q33)), (0, .ref (gA G (41 + 0))), (1, .int x1), (3, .int x3)]) C.1.1 C.1.2.1 dX9_told_55 rfl hl (by decide) rfl (fun ls hl => ?_)
      refine lv_iinc (v := (x3 + (1 : Int32))) (lv' := [(3, .int (x3 + (1 : Int32))), (2, .int (x2 + q33)), (0, .ref (gA G (41 + 0))), (1, .int x1)]) C.1.1 C.1.2.1 dX9_told_56 hl (k := 3) rfl rfl (by decide) rfl (fun ls hl => ?_)
      refine lv_goto (tgt := 36) C.1.1 C.1.2.1 dX9_told_59 (by decide) ?_
      exact hk_36 X M L x1 (x2 + q33) (x3 + (1 : Int32)) _ _ _ hw (lv_sub hl [2, 3, 1, 0] rfl) hf
set_option maxRecDepth 20000 in
set_option maxHeartbeats 2000000 in
theorem c_X9_told   {X M : TX} {L : TL} {x1 : Int32} {ro : TX × Int32} (hf : f_X9_told M x1 = some ro) : CTi G l yX9_told cX9_told 4 (some .int) 2 46 [.ref (gA G (41 + 0)), .int x1] X M L X ro.1 L ro.2 := by
  unfold f_X9_told at hf
  refine ct_of (by decide +kernel) (Nat.le_of_ble_eq_true rfl) (fun p e s m args below meth c H locs ls C hr hlk hw hl => ?_)
  have C : Cx G p s m args c cX9_told 4 RX9 := C
  have hl : lv_has ls 4 [(0, .ref (gA G (41 + 0))), (1, .int x1)] := hl
  refine lv_aload_n C.1.1 C.1.2.1 dX9_told_0 rfl (lv_at hl 0 rfl) ?_
  refine lv_iconst (v := (0 : Int32)) C.1.1 C.1.2.1 dX9_told_1 rfl ?_
  refine m_put C hw iM_0_0 flX9_3 dX9_told_2 (fun H locs hw => ?_)
  refine lv_aload_n C.1.1 C.1.2.1 dX9_told_5 rfl (lv_at hl 0 rfl) ?_
  refine lv_iload_n C.1.1 C.1.2.1 dX9_told_6 rfl (lv_at hl 1 rfl) ?_
  refine lv_iconst (v := (0 : Int32)) C.1.1 C.1.2.1 dX9_told_7 rfl ?_
  refine lv_bipush (v := (12 : Int32)) C.1.1 C.1.2.1 dX9_told_8 rfl ?_
  obtain ⟨q1, h1, hf⟩ := o_bind hf
  refine aft_i hw (run_S C hw clX9_385 (As := [.int x1, .int (0 : Int32), .int (12 : Int32)]) (rest := [.ref (gA G (41 + 0))]) (c_X9_within h1) hl.1 rfl ⟨(Nat.le_of_ble_eq_true rfl), (Nat.le_of_ble_eq_true rfl)⟩ ⟨Nat.zero_le _, Nat.zero_le _⟩ rfl (Nat.le_of_ble_eq_true rfl) dX9_told_10) (fun H locs hw => ?_)
  refine lv_iconst (v := (1 : Int32)) C.1.1 C.1.2.1 dX9_told_13 rfl ?_
  refine lv_iconst (v := (1 : Int32)) C.1.1 C.1.2.1 dX9_told_14 rfl ?_
  obtain ⟨q2, h2, hf⟩ := o_bind hf
  refine aft_i hw (run_VM C hw clX9_200 (As := [.int q1, .int (1 : Int32), .int (1 : Int32)]) (rest := []) oM_0 (c_X9_lets h2) rfl hl.1 rfl ⟨(Nat.le_of_ble_eq_true rfl), (Nat.le_of_ble_eq_true rfl)⟩ ⟨Nat.zero_le _, Nat.zero_le _⟩ rfl (Nat.le_of_ble_eq_true rfl) dX9_told_15) (fun H locs hw => ?_)
  refine lv_if_ne (tgt := 23) C.1.1 C.1.2.1 dX9_told_18 (by decide) (fun c3 => ?_) (fun c3 => ?_)
  · have hf := o_f hf c3
    refine lv_aload_n C.1.1 C.1.2.1 dX9_told_23 rfl (lv_at hl 0 rfl) ?_
    obtain ⟨q4, h4, hf⟩ := o_bind hf
    refine aft_v hw (run_VM C hw clX9_307 (As := []) (rest := []) oM_0 (c_X9_take h4) rfl hl.1 rfl ⟨(Nat.le_of_ble_eq_true rfl), (Nat.le_of_ble_eq_true rfl)⟩ ⟨Nat.zero_le _, Nat.zero_le _⟩ rfl (Nat.le_of_ble_eq_true rfl) dX9_told_24) (fun H locs hw => ?_)
    refine lv_iconst (v := (0 : Int32)) C.1.1 C.1.2.1 dX9_told_27 rfl ?_
    refine lv_istore_n (lv' := [(2, .int (0 : Int32)), (0, .ref (gA G (41 + 0))), (1, .int x1)]) C.1.1 C.1.2.1 dX9_told_28 rfl hl (by decide) rfl (fun ls hl => ?_)
    refine lv_iload_n C.1.1 C.1.2.1 dX9_told_29 rfl (lv_at hl 2 rfl) ?_
    refine lv_iconst (v := (1 : Int32)) C.1.1 C.1.2.1 dX9_told_30 rfl ?_
    refine lv_icmp_ne (tgt := 62) C.1.1 C.1.2.1 dX9_told_31 (by decide) (fun c5 => ?_) (fun c5 => ?_)
    · have hf := o_f hf c5
      refine lv_iload_n C.1.1 C.1.2.1 dX9_told_62 rfl (lv_at hl 2 rfl) ?_
      refine lv_bipush (v := (9 : Int32)) C.1.1 C.1.2.1 dX9_told_63 rfl ?_
      refine lv_icmp_ne (tgt := 97) C.1.1 C.1.2.1 dX9_told_65 (by decide) (fun c6 => ?_) (fun c6 => ?_)
      · have hf := o_f hf c6
        exact wB_X9_told_97 C hr hlk X q4 L x1 (0 : Int32) _ _ _ hw (lv_sub hl [1, 2, 0] rfl) hf
      · have hf := o_t hf c6
        refine lv_iconst (v := (0 : Int32)) C.1.1 C.1.2.1 dX9_told_68 rfl ?_
        refine lv_istore_n (lv' := [(3, .int (0 : Int32)), (2, .int (0 : Int32)), (0, .ref (gA G (41 + 0))), (1, .int x1)]) C.1.1 C.1.2.1 dX9_told_69 rfl hl (by decide) rfl (fun ls hl => ?_)
        exact wL_X9_told_70 C hr hlk FU X q4 L x1 (0 : Int32) (0 : Int32) _ _ _ hw (lv_sub hl [2, 3, 1, 0] rfl) hf
    · have hf := o_t hf c5
      refine lv_iconst (v := (0 : Int32)) C.1.1 C.1.2.1 dX9_told_34 rfl ?_
      refine lv_istore_n (lv' := [(3, .int (0 : Int32)), (2, .int (0 : Int32)), (0, .ref (gA G (41 + 0))), (1, .int x1)]) C.1.1 C.1.2.1 dX9_told_35 rfl hl (by decide) rfl (fun ls hl => ?_)
      exact wL_X9_told_36 C hr hlk FU X q4 L x1 (0 : Int32) (0 : Int32) _ _ _ hw (lv_sub hl [2, 3, 1, 0] rfl) hf
  · have hf := o_t hf c3
    refine lv_iconst (v := (0 : Int32)) C.1.1 C.1.2.1 dX9_told_21 rfl ?_
    obtain rfl := Option.some.inj hf
    exact ret_i C hr hlk hw dX9_told_22
end
/-! WinnerDrawsModel.isThere(II)Z (('o', 'M', 0) ('i',) ('i',)) -/
def f_X9_isThere (M : TX) (x1 : Int32) (x2 : Int32) : Option (TX × Int32) := (f_X9_within x1 (0 : Int32) (x2 - (1 : Int32))).bind fun q1 => (f_X9_lets M q1 (1 : Int32) (0 : Int32)).bind fun q2 => if q2.2 &&& 1 = q2.2 then (some (q2.1, q2.2)) else none
section
variable {G : GP} {l : Launch}
set_option maxRecDepth 20000 in
set_option maxHeartbeats 2000000 in
theorem c_X9_isThere   {X M : TX} {L : TL} {x1 : Int32} {x2 : Int32} {ro : TX × Int32} (hf : f_X9_isThere M x1 x2 = some ro) : CTi G l yX9_isThere cX9_isThere 3 (some .boolean) 1 23 [.ref (gA G (41 + 0)), .int x1, .int x2] X M L X ro.1 L ro.2 := by
  unfold f_X9_isThere at hf
  refine ct_of (by decide +kernel) (Nat.le_of_ble_eq_true rfl) (fun p e s m args below meth c H locs ls C hr hlk hw hl => ?_)
  have C : Cx G p s m args c cX9_isThere 3 RX9 := C
  have hl : lv_has ls 3 [(0, .ref (gA G (41 + 0))), (1, .int x1), (2, .int x2)] := hl
  refine lv_aload_n C.1.1 C.1.2.1 dX9_isThere_0 rfl (lv_at hl 0 rfl) ?_
  refine lv_iload_n C.1.1 C.1.2.1 dX9_isThere_1 rfl (lv_at hl 1 rfl) ?_
  refine lv_iconst (v := (0 : Int32)) C.1.1 C.1.2.1 dX9_isThere_2 rfl ?_
  refine lv_iload_n C.1.1 C.1.2.1 dX9_isThere_3 rfl (lv_at hl 2 rfl) ?_
  refine lv_iconst (v := (1 : Int32)) C.1.1 C.1.2.1 dX9_isThere_4 rfl ?_
  refine lv_isub C.1.1 C.1.2.1 dX9_isThere_5 ?_
  obtain ⟨q1, h1, hf⟩ := o_bind hf
  refine aft_i hw (run_S C hw clX9_385 (As := [.int x1, .int (0 : Int32), .int (x2 - (1 : Int32))]) (rest := [.ref (gA G (41 + 0))]) (c_X9_within h1) hl.1 rfl ⟨(Nat.le_of_ble_eq_true rfl), (Nat.le_of_ble_eq_true rfl)⟩ ⟨Nat.zero_le _, Nat.zero_le _⟩ rfl (Nat.le_of_ble_eq_true rfl) dX9_isThere_6) (fun H locs hw => ?_)
  refine lv_iconst (v := (1 : Int32)) C.1.1 C.1.2.1 dX9_isThere_9 rfl ?_
  refine lv_iconst (v := (0 : Int32)) C.1.1 C.1.2.1 dX9_isThere_10 rfl ?_
  obtain ⟨q2, h2, hf⟩ := o_bind hf
  refine aft_i hw (run_VM C hw clX9_200 (As := [.int q1, .int (1 : Int32), .int (0 : Int32)]) (rest := []) oM_0 (c_X9_lets h2) rfl hl.1 rfl ⟨(Nat.le_of_ble_eq_true rfl), (Nat.le_of_ble_eq_true rfl)⟩ ⟨Nat.zero_le _, Nat.zero_le _⟩ rfl (Nat.le_of_ble_eq_true rfl) dX9_isThere_11) (fun H locs hw => ?_)
  have g3 := (o_g hf).1
  have hf := (o_g hf).2
  obtain rfl := Option.some.inj hf
  exact ret_z (r := q2.2) C hr hlk hw (nar_z g3) dX9_isThere_14
end
/-! WinnerDrawsModel.parish(II)I (('o', 'M', 0) ('i',) ('i',)) -/
def f_X9_parish (M : TX) (x1 : Int32) (x2 : Int32) : Option (TX × Int32) := (f_X9_isThere (u2 M 0 0 (0 : Int32)) x1 ((u2 M 0 0 (0 : Int32)) 0 19)).bind fun q1 => if q1.2 = 0 then (some (q1.1, (0 : Int32))) else ((f_X9_within x2 (0 : Int32) (3 : Int32)).bind fun q3 => (f_X9_lets q1.1 q3 (2 : Int32) (1 : Int32)).bind fun q4 => if q4.2 = 0 then (some (q4.1, (0 : Int32))) else ((f_X9_take q4.1).bind fun q6 => if x2 = 0 then (if inb ((0 : Int32) + x1) 34 = true then (some (q6, (q6 20 (Int32.toNatClampNeg ((0 : Int32) + x1))))) else none) else (if x2 = (3 : Int32) then (if inb x1 10 = true then (some (q6, (q6 7 (Int32.toNatClampNeg x1)))) else none) else ((f_X9_votesOf q6 x1 (x2 - (1 : Int32))).bind fun q9 => some (q6, q9)))))
section
variable {G : GP} {l : Launch}
set_option maxRecDepth 20000 in
set_option maxHeartbeats 2000000 in
theorem c_X9_parish   {X M : TX} {L : TL} {x1 : Int32} {x2 : Int32} {ro : TX × Int32} (hf : f_X9_parish M x1 x2 = some ro) : CTi G l yX9_parish cX9_parish 3 (some .int) 2 45 [.ref (gA G (41 + 0)), .int x1, .int x2] X M L X ro.1 L ro.2 := by
  unfold f_X9_parish at hf
  refine ct_of (by decide +kernel) (Nat.le_of_ble_eq_true rfl) (fun p e s m args below meth c H locs ls C hr hlk hw hl => ?_)
  have C : Cx G p s m args c cX9_parish 3 RX9 := C
  have hl : lv_has ls 3 [(0, .ref (gA G (41 + 0))), (1, .int x1), (2, .int x2)] := hl
  refine lv_aload_n C.1.1 C.1.2.1 dX9_parish_0 rfl (lv_at hl 0 rfl) ?_
  refine lv_iconst (v := (0 : Int32)) C.1.1 C.1.2.1 dX9_parish_1 rfl ?_
  refine m_put C hw iM_0_0 flX9_3 dX9_parish_2 (fun H locs hw => ?_)
  refine lv_aload_n C.1.1 C.1.2.1 dX9_parish_5 rfl (lv_at hl 0 rfl) ?_
  refine lv_iload_n C.1.1 C.1.2.1 dX9_parish_6 rfl (lv_at hl 1 rfl) ?_
  refine lv_aload_n C.1.1 C.1.2.1 dX9_parish_7 rfl (lv_at hl 0 rfl) ?_
  refine m_get C hw iM_0_19 flX9_157 dX9_parish_8 ?_
  obtain ⟨q1, h1, hf⟩ := o_bind hf
  refine aft_i hw (run_VM C hw clX9_389 (As := [.int x1, .int ((u2 M 0 0 (0 : Int32)) 0 19)]) (rest := []) oM_0 (c_X9_isThere h1) rfl hl.1 rfl ⟨(Nat.le_of_ble_eq_true rfl), (Nat.le_of_ble_eq_true rfl)⟩ ⟨Nat.zero_le _, Nat.zero_le _⟩ rfl (Nat.le_of_ble_eq_true rfl) dX9_parish_11) (fun H locs hw => ?_)
  refine lv_if_eq (tgt := 32) C.1.1 C.1.2.1 dX9_parish_14 (by decide) (fun c2 => ?_) (fun c2 => ?_)
  · have hf := o_t hf c2
    refine lv_iconst (v := (0 : Int32)) C.1.1 C.1.2.1 dX9_parish_32 rfl ?_
    obtain rfl := Option.some.inj hf
    exact ret_i C hr hlk hw dX9_parish_33
  · have hf := o_f hf c2
    refine lv_aload_n C.1.1 C.1.2.1 dX9_parish_17 rfl (lv_at hl 0 rfl) ?_
    refine lv_iload_n C.1.1 C.1.2.1 dX9_parish_18 rfl (lv_at hl 2 rfl) ?_
    refine lv_iconst (v := (0 : Int32)) C.1.1 C.1.2.1 dX9_parish_19 rfl ?_
    refine lv_iconst (v := (3 : Int32)) C.1.1 C.1.2.1 dX9_parish_20 rfl ?_
    obtain ⟨q3, h3, hf⟩ := o_bind hf
    refine aft_i hw (run_S C hw clX9_385 (As := [.int x2, .int (0 : Int32), .int (3 : Int32)]) (rest := [.ref (gA G (41 + 0))]) (c_X9_within h3) hl.1 rfl ⟨(Nat.le_of_ble_eq_true rfl), (Nat.le_of_ble_eq_true rfl)⟩ ⟨Nat.zero_le _, Nat.zero_le _⟩ rfl (Nat.le_of_ble_eq_true rfl) dX9_parish_21) (fun H locs hw => ?_)
    refine lv_iconst (v := (2 : Int32)) C.1.1 C.1.2.1 dX9_parish_24 rfl ?_
    refine lv_iconst (v := (1 : Int32)) C.1.1 C.1.2.1 dX9_parish_25 rfl ?_
    obtain ⟨q4, h4, hf⟩ := o_bind hf
    refine aft_i hw (run_VM C hw clX9_200 (As := [.int q3, .int (2 : Int32), .int (1 : Int32)]) (rest := []) oM_0 (c_X9_lets h4) rfl hl.1 rfl ⟨(Nat.le_of_ble_eq_true rfl), (Nat.le_of_ble_eq_true rfl)⟩ ⟨Nat.zero_le _, Nat.zero_le _⟩ rfl (Nat.le_of_ble_eq_true rfl) dX9_parish_26) (fun H locs hw => ?_)
    refine lv_if_ne (tgt := 34) C.1.1 C.1.2.1 dX9_parish_29 (by decide) (fun c5 => ?_) (fun c5 => ?_)
    · have hf := o_f hf c5
      refine lv_aload_n C.1.1 C.1.2.1 dX9_parish_34 rfl (lv_at hl 0 rfl) ?_
      obtain ⟨q6, h6, hf⟩ := o_bind hf
      refine aft_v hw (run_VM C hw clX9_307 (As := []) (rest := []) oM_0 (c_X9_take h6) rfl hl.1 rfl ⟨(Nat.le_of_ble_eq_true rfl), (Nat.le_of_ble_eq_true rfl)⟩ ⟨Nat.zero_le _, Nat.zero_le _⟩ rfl (Nat.le_of_ble_eq_true rfl) dX9_parish_35) (fun H locs hw => ?_)
      refine lv_iload_n C.1.1 C.1.2.1 dX9_parish_38 rfl (lv_at hl 2 rfl) ?_
      refine lv_if_ne (tgt := 53) C.1.1 C.1.2.1 dX9_parish_39 (by decide) (fun c7 => ?_) (fun c7 => ?_)
      · have hf := o_f hf c7
        refine lv_iload_n C.1.1 C.1.2.1 dX9_parish_53 rfl (lv_at hl 2 rfl) ?_
        refine lv_iconst (v := (3 : Int32)) C.1.1 C.1.2.1 dX9_parish_54 rfl ?_
        refine lv_icmp_ne (tgt := 67) C.1.1 C.1.2.1 dX9_parish_55 (by decide) (fun c8 => ?_) (fun c8 => ?_)
        · have hf := o_f hf c8
          refine lv_aload_n C.1.1 C.1.2.1 dX9_parish_67 rfl (lv_at hl 0 rfl) ?_
          refine lv_iload_n C.1.1 C.1.2.1 dX9_parish_68 rfl (lv_at hl 1 rfl) ?_
          refine lv_iload_n C.1.1 C.1.2.1 dX9_parish_69 rfl (lv_at hl 2 rfl) ?_
          refine lv_iconst (v := (1 : Int32)) C.1.1 C.1.2.1 dX9_parish_70 rfl ?_
          refine lv_isub C.1.1 C.1.2.1 dX9_parish_71 ?_
          obtain ⟨q9, h9, hf⟩ := o_bind hf
          refine aft_i hw (run_VM C hw clX9_326 (As := [.int x1, .int (x2 - (1 : Int32))]) (rest := []) oM_0 (c_X9_votesOf h9) rfl hl.1 rfl ⟨(Nat.le_of_ble_eq_true rfl), (Nat.le_of_ble_eq_true rfl)⟩ ⟨Nat.zero_le _, Nat.zero_le _⟩ rfl (Nat.le_of_ble_eq_true rfl) dX9_parish_72) (fun H locs hw => ?_)
          obtain rfl := Option.some.inj hf
          exact ret_i C hr hlk hw dX9_parish_75
        · have hf := o_t hf c8
          refine lv_aload_n C.1.1 C.1.2.1 dX9_parish_58 rfl (lv_at hl 0 rfl) ?_
          refine m_ref C hw fM_0_14 flX9_35 dX9_parish_59 ?_
          refine lv_iload_n C.1.1 C.1.2.1 dX9_parish_62 rfl (lv_at hl 1 rfl) ?_
          have g10 := inb_in (o_g hf).1
          have hf := (o_g hf).2
          refine m_ald C hw aM_7 g10 dX9_parish_63 ?_
          refine lv_goto (tgt := 75) C.1.1 C.1.2.1 dX9_parish_64 (by decide) ?_
          obtain rfl := Option.some.inj hf
          exact ret_i C hr hlk hw dX9_parish_75
      · have hf := o_t hf c7
        refine lv_aload_n C.1.1 C.1.2.1 dX9_parish_42 rfl (lv_at hl 0 rfl) ?_
        refine m_ref C hw fM_0_42 flX9_74 dX9_parish_43 ?_
        refine lv_iconst (v := (0 : Int32)) C.1.1 C.1.2.1 dX9_parish_46 rfl ?_
        refine lv_iload_n C.1.1 C.1.2.1 dX9_parish_47 rfl (lv_at hl 1 rfl) ?_
        refine lv_iadd C.1.1 C.1.2.1 dX9_parish_48 ?_
        have g11 := inb_in (o_g hf).1
        have hf := (o_g hf).2
        refine m_ald C hw aM_20 g11 dX9_parish_49 ?_
        refine lv_goto (tgt := 75) C.1.1 C.1.2.1 dX9_parish_50 (by decide) ?_
        obtain rfl := Option.some.inj hf
        exact ret_i C hr hlk hw dX9_parish_75
    · have hf := o_t hf c5
      refine lv_iconst (v := (0 : Int32)) C.1.1 C.1.2.1 dX9_parish_32 rfl ?_
      obtain rfl := Option.some.inj hf
      exact ret_i C hr hlk hw dX9_parish_33
end
/-! WinnerDrawsModel.ward(II)I (('o', 'M', 0) ('i',) ('i',)) -/
def f_X9_ward (M : TX) (x1 : Int32) (x2 : Int32) : Option (TX × Int32) := (f_X9_isThere (u2 M 0 0 (0 : Int32)) x1 (4 : Int32)).bind fun q1 => if q1.2 = 0 then (some (q1.1, (0 : Int32))) else ((f_X9_within x2 (0 : Int32) (4 : Int32)).bind fun q3 => (f_X9_lets q1.1 q3 (2 : Int32) (1 : Int32)).bind fun q4 => if q4.2 = 0 then (some (q4.1, (0 : Int32))) else ((f_X9_take q4.1).bind fun q6 => (f_X9_setOf q6 x1).bind fun q7 => if x2 = 0 then (some (q6, q7)) else (if x2 = (3 : Int32) then ((f_X9_winnerOf q6 x1).bind fun q14 => some (q6, q14)) else (if x2 = (4 : Int32) then ((f_X9_hangs q6 q7).bind fun q12 => if q12 = 0 then (some (q6, (0 : Int32))) else (some (q6, (1 : Int32)))) else ((f_X9_votesIn q6 q7 (x2 - (1 : Int32))).bind fun q11 => some (q6, q11))))))
section
variable {G : GP} {l : Launch}
set_option maxRecDepth 20000 in
set_option maxHeartbeats 2000000 in
theorem c_X9_ward   {X M : TX} {L : TL} {x1 : Int32} {x2 : Int32} {ro : TX × Int32} (hf : f_X9_ward M x1 x2 = some ro) : CTi G l yX9_ward cX9_ward 4 (some .int) 3 69 [.ref (gA G (41 + 0)), .int x1, .int x2] X M L X ro.1 L ro.2 := by
  unfold f_X9_ward at hf
  refine ct_of (by decide +kernel) (Nat.le_of_ble_eq_true rfl) (fun p e s m args below meth c H locs ls C hr hlk hw hl => ?_)
  have C : Cx G p s m args c cX9_ward 4 RX9 := C
  have hl : lv_has ls 4 [(0, .ref (gA G (41 + 0))), (1, .int x1), (2, .int x2)] := hl
  refine lv_aload_n C.1.1 C.1.2.1 dX9_ward_0 rfl (lv_at hl 0 rfl) ?_
  refine lv_iconst (v := (0 : Int32)) C.1.1 C.1.2.1 dX9_ward_1 rfl ?_
  refine m_put C hw iM_0_0 flX9_3 dX9_ward_2 (fun H locs hw => ?_)
  refine lv_aload_n C.1.1 C.1.2.1 dX9_ward_5 rfl (lv_at hl 0 rfl) ?_
  refine lv_iload_n C.1.1 C.1.2.1 dX9_ward_6 rfl (lv_at hl 1 rfl) ?_
  refine lv_iconst (v := (4 : Int32)) C.1.1 C.1.2.1 dX9_ward_7 rfl ?_
  obtain ⟨q1, h1, hf⟩ := o_bind hf
  refine aft_i hw (run_VM C hw clX9_389 (As := [.int x1, .int (4 : Int32)]) (rest := []) oM_0 (c_X9_isThere h1) rfl hl.1 rfl ⟨(Nat.le_of_ble_eq_true rfl), (Nat.le_of_ble_eq_true rfl)⟩ ⟨Nat.zero_le _, Nat.zero_le _⟩ rfl (Nat.le_of_ble_eq_true rfl) dX9_ward_8) (fun H locs hw => ?_)
  refine lv_if_eq (tgt := 29) C.1.1 C.1.2.1 dX9_ward_11 (by decide) (fun c2 => ?_) (fun c2 => ?_)
  · have hf := o_t hf c2
    refine lv_iconst (v := (0 : Int32)) C.1.1 C.1.2.1 dX9_ward_29 rfl ?_
    obtain rfl := Option.some.inj hf
    exact ret_i C hr hlk hw dX9_ward_30
  · have hf := o_f hf c2
    refine lv_aload_n C.1.1 C.1.2.1 dX9_ward_14 rfl (lv_at hl 0 rfl) ?_
    refine lv_iload_n C.1.1 C.1.2.1 dX9_ward_15 rfl (lv_at hl 2 rfl) ?_
    refine lv_iconst (v := (0 : Int32)) C.1.1 C.1.2.1 dX9_ward_16 rfl ?_
    refine lv_iconst (v := (4 : Int32)) C.1.1 C.1.2.1 dX9_ward_17 rfl ?_
    obtain ⟨q3, h3, hf⟩ := o_bind hf
    refine aft_i hw (run_S C hw clX9_385 (As := [.int x2, .int (0 : Int32), .int (4 : Int32)]) (rest := [.ref (gA G (41 + 0))]) (c_X9_within h3) hl.1 rfl ⟨(Nat.le_of_ble_eq_true rfl), (Nat.le_of_ble_eq_true rfl)⟩ ⟨Nat.zero_le _, Nat.zero_le _⟩ rfl (Nat.le_of_ble_eq_true rfl) dX9_ward_18) (fun H locs hw => ?_)
    refine lv_iconst (v := (2 : Int32)) C.1.1 C.1.2.1 dX9_ward_21 rfl ?_
    refine lv_iconst (v := (1 : Int32)) C.1.1 C.1.2.1 dX9_ward_22 rfl ?_
    obtain ⟨q4, h4, hf⟩ := o_bind hf
    refine aft_i hw (run_VM C hw clX9_200 (As := [.int q3, .int (2 : Int32), .int (1 : Int32)]) (rest := []) oM_0 (c_X9_lets h4) rfl hl.1 rfl ⟨(Nat.le_of_ble_eq_true rfl), (Nat.le_of_ble_eq_true rfl)⟩ ⟨Nat.zero_le _, Nat.zero_le _⟩ rfl (Nat.le_of_ble_eq_true rfl) dX9_ward_23) (fun H locs hw => ?_)
    refine lv_if_ne (tgt := 31) C.1.1 C.1.2.1 dX9_ward_26 (by decide) (fun c5 => ?_) (fun c5 => ?_)
    · have hf := o_f hf c5
      refine lv_aload_n C.1.1 C.1.2.1 dX9_ward_31 rfl (lv_at hl 0 rfl) ?_
      obtain ⟨q6, h6, hf⟩ := o_bind hf
      refine aft_v hw (run_VM C hw clX9_307 (As := []) (rest := []) oM_0 (c_X9_take h6) rfl hl.1 rfl ⟨(Nat.le_of_ble_eq_true rfl), (Nat.le_of_ble_eq_true rfl)⟩ ⟨Nat.zero_le _, Nat.zero_le _⟩ rfl (Nat.le_of_ble_eq_true rfl) dX9_ward_32) (fun H locs hw => ?_)
      refine lv_aload_n C.1.1 C.1.2.1 dX9_ward_35 rfl (lv_at hl 0 rfl) ?_
      refine lv_iload_n C.1.1 C.1.2.1 dX9_ward_36 rfl (lv_at hl 1 rfl) ?_
      obtain ⟨q7, h7, hf⟩ := o_bind hf
      refine aft_i hw (run_VM C hw clX9_329 (As := [.int x1]) (rest := []) oM_0 (c_X9_setOf h7) rfl hl.1 rfl ⟨(Nat.le_of_ble_eq_true rfl), (Nat.le_of_ble_eq_true rfl)⟩ ⟨Nat.zero_le _, Nat.zero_le _⟩ rfl (Nat.le_of_ble_eq_true rfl) dX9_ward_37) (fun H locs hw => ?_)
      refine lv_istore_n (lv' := [(3, .int q7), (0, .ref (gA G (41 + 0))), (1, .int x1), (2, .int x2)]) C.1.1 C.1.2.1 dX9_ward_40 rfl hl (by decide) rfl (fun ls hl => ?_)
      refine lv_iload_n C.1.1 C.1.2.1 dX9_ward_41 rfl (lv_at hl 3 rfl) ?_
      refine lv_if_ne (tgt := 49) C.1.1 C.1.2.1 dX9_ward_42 (by decide) (fun c8 => ?_) (fun c8 => ?_)
      · have hf := o_f hf c8
        refine lv_iload_n C.1.1 C.1.2.1 dX9_ward_49 rfl (lv_at hl 3 rfl) ?_
        refine lv_iconst (v := (3 : Int32)) C.1.1 C.1.2.1 dX9_ward_50 rfl ?_
        refine lv_icmp_ne (tgt := 62) C.1.1 C.1.2.1 dX9_ward_51 (by decide) (fun c9 => ?_) (fun c9 => ?_)
        · have hf := o_f hf c9
          refine lv_iload_n C.1.1 C.1.2.1 dX9_ward_62 rfl (lv_at hl 3 rfl) ?_
          refine lv_iconst (v := (4 : Int32)) C.1.1 C.1.2.1 dX9_ward_63 rfl ?_
          refine lv_icmp_ne (tgt := 83) C.1.1 C.1.2.1 dX9_ward_64 (by decide) (fun c10 => ?_) (fun c10 => ?_)
          · have hf := o_f hf c10
            refine lv_aload_n C.1.1 C.1.2.1 dX9_ward_83 rfl (lv_at hl 1 rfl) ?_
            refine lv_iload_n C.1.1 C.1.2.1 dX9_ward_84 rfl (lv_at hl 0 rfl) ?_
            refine lv_iload_n C.1.1 C.1.2.1 dX9_ward_85 rfl (lv_at hl 3 rfl) ?_
            refine lv_iconst (v := (1 : Int32)) C.1.1 C.1.2.1 dX9_ward_86 rfl ?_
            refine lv_isub C.1.1 C.1.2.1 dX9_ward_87 ?_
            obtain ⟨q11, h11, hf⟩ := o_bind hf
            refine aft_i hw (run_VM C hw clX9_332 (As := [.int q7, .int (x2 - (1 : Int32))]) (rest := []) oM_0 (c_X9_votesIn h11) rfl hl.1 rfl ⟨(Nat.le_of_ble_eq_true rfl), (Nat.le_of_ble_eq_true rfl)⟩ ⟨Nat.zero_le _, Nat.zero_le _⟩ rfl (Nat.le_of_ble_eq_true rfl) dX9_ward_88) (fun H locs hw => ?_)
            obtain rfl := Option.some.inj hf
            exact ret_i C hr hlk hw dX9_ward_91
          · have hf := o_t hf c10
            refine lv_aload_n C.1.1 C.1.2.1 dX9_ward_67 rfl (lv_at hl 1 rfl) ?_
            refine lv_iload_n C.1.1 C.1.2.1 dX9_ward_68 rfl (lv_at hl 0 rfl) ?_
            obtain ⟨q12, h12, hf⟩ := o_bind hf
            refine aft_i hw (run_VM C hw clX9_354 (As := [.int q7]) (rest := []) oM_0 (c_X9_hangs h12) rfl hl.1 rfl ⟨(Nat.le_of_ble_eq_true rfl), (Nat.le_of_ble_eq_true rfl)⟩ ⟨Nat.zero_le _, Nat.zero_le _⟩ rfl (Nat.le_of_ble_eq_true rfl) dX9_ward_69) (fun H locs hw => ?_)
            refine lv_if_eq (tgt := 79) C.1.1 C.1.2.1 dX9_ward_72 (by decide) (fun c13 => ?_) (fun c13 => ?_)
            · have hf := o_t hf c13
              refine lv_iconst (v := (0 : Int32)) C.1.1 C.1.2.1 dX9_ward_79 rfl ?_
              refine lv_goto (tgt := 91) C.1.1 C.1.2.1 dX9_ward_80 (by decide) ?_
              obtain rfl := Option.some.inj hf
              exact ret_i C hr hlk hw dX9_ward_91
            · have hf := o_f hf c13
              refine lv_iconst (v := (1 : Int32)) C.1.1 C.1.2.1 dX9_ward_75 rfl ?_
              refine lv_goto (tgt := 91) C.1.1 C.1.2.1 dX9_ward_76 (by decide) ?_
              obtain rfl := Option.some.inj hf
              exact ret_i C hr hlk hw dX9_ward_91
        · have hf := o_t hf c9
          refine lv_aload_n C.1.1 C.1.2.1 dX9_ward_54 rfl (lv_at hl 1 rfl) ?_
          refine lv_iload_n C.1.1 C.1.2.1 dX9_ward_55 rfl (lv_at hl 2 rfl) ?_
          obtain ⟨q14, h14, hf⟩ := o_bind hf
          refine aft_i hw (run_VM C hw clX9_335 (As := [.int x1]) (rest := []) oM_0 (c_X9_winnerOf h14) rfl hl.1 rfl ⟨(Nat.le_of_ble_eq_true rfl), (Nat.le_of_ble_eq_true rfl)⟩ ⟨Nat.zero_le _, Nat.zero_le _⟩ rfl (Nat.le_of_ble_eq_true rfl) dX9_ward_56) (fun H locs hw => ?_)
          refine lv_goto (tgt := 91) C.1.1 C.1.2.1 dX9_ward_59 (by decide) ?_
          obtain rfl := Option.some.inj hf
          exact ret_i C hr hlk hw dX9_ward_91
      · have hf := o_t hf c8
        refine lv_iload_n C.1.1 C.1.2.1 dX9_ward_45 rfl (lv_at hl 0 rfl) ?_
        refine lv_goto (tgt := 91) C.1.1 C.1.2.1 dX9_ward_46 (by decide) ?_
        obtain rfl := Option.some.inj hf
        exact ret_i C hr hlk hw dX9_ward_91
    · have hf := o_t hf c5
      refine lv_iconst (v := (0 : Int32)) C.1.1 C.1.2.1 dX9_ward_29 rfl ?_
      obtain rfl := Option.some.inj hf
      exact ret_i C hr hlk hw dX9_ward_30
end
/-! WinnerDrawsModel.side(II)I (('o', 'M', 0) ('i',) ('i',)) -/
def L_X9_side_80 : Nat → TX → Int32 → Int32 → Int32 → Option (TX × Int32)
  | 0 => fun _ _ _ _ => none
  | n + 1 => fun M x1 x3 x4 => if (4 : Int32) ≤ x4 then (some (M, x3)) else ((f_X9_winnerOf M x4).bind fun q9 => if q9 = x1 then ((L_X9_side_80 n) M x1 (x3 ||| ((1 : Int32) <<< (x4 &&& 31))) (x4 + (1 : Int32))) else ((L_X9_side_80 n) M x1 (x3 ||| (0 : Int32)) (x4 + (1 : Int32))))
def f_X9_side (M : TX) (x1 : Int32) (x2 : Int32) : Option (TX × Int32) := (f_X9_isThere (u2 M 0 0 (0 : Int32)) x1 (2 : Int32)).bind fun q1 => if q1.2 = 0 then (some (q1.1, (0 : Int32))) else ((f_X9_within x2 (0 : Int32) (3 : Int32)).bind fun q3 => (f_X9_lets q1.1 q3 (2 : Int32) (1 : Int32)).bind fun q4 => if q4.2 = 0 then (some (q4.1, (0 : Int32))) else ((f_X9_take q4.1).bind fun q6 => if (3 : Int32) ≤ x2 then (L_X9_side_80 FU q6 x1 (0 : Int32) (0 : Int32)) else (if x2 = 0 then ((f_X9_seatsOf q6 x1).bind fun q16 => some (q6, q16)) else (if x2 = (1 : Int32) then ((f_X9_everybody q6).bind fun q14 => (f_X9_votesIn q6 q14 x1).bind fun q15 => some (q6, q15)) else ((f_X9_marginOf q6 x1).bind fun q13 => some (q6, q13))))))
section
variable {G : GP} {l : Launch}
set_option maxRecDepth 20000 in
set_option maxHeartbeats 2000000 in
theorem wL_X9_side_80 {p : Program} {e : Env} {s : State} {m : MethodId} {args : Array Value} {below : List Frame} {meth : Method} {c : Code} (C : Cx G p s m args c cX9_side 5 RX9) (hr : meth.sig.returnType = (some .int)) (hlk : meth.locks = false) {ro : TX × Int32} : ∀ (n : Nat), ∀ (X : TX) (M : TX) (L : TL) (x1 : Int32) (x3 : Int32) (x4 : Int32) (H : Heap) (locs : List Loc) (ls : Array Slot), Wh G s X M L H locs → lv_has ls 5 [(0, .ref (gA G (41 + 0))), (1, .int x1), (3, .int x3), (4, .int x4)] → L_X9_side_80 n M x1 x3 x4 = some ro → W p l e (rz 5 113) s m args below meth c H locs 0 0 (MQ below (Di G X ro.1 L ro.2) args s 0 0 (AB G)) (F0 m 80 ls []) := by
  intro n
  induction n with
  | zero =>
    intro X M L x1 x3 x4 H locs ls hw hl hf
    cases hf
  | succ n hk_80 =>
    intro X M L x1 x3 x4 H locs ls hw hl hf
    rw [L_X9_side_80] at hf
    refine lv_iload C.1.1 C.1.2.1 dX9_side_80 (lv_at hl 3 rfl) ?_
    refine lv_iconst (v := (4 : Int32)) C.1.1 C.1.2.1 dX9_side_82 rfl ?_
    refine lv_icmp_ge (tgt := 113) C.1.1 C.1.2.1 dX9_side_83 (by decide) (fun c8 => ?_) (fun c8 => ?_)
    · have hf := o_t hf c8
      refine lv_iload_n C.1.1 C.1.2.1 dX9_side_113 rfl (lv_at hl 2 rfl) ?_
      obtain rfl := Option.some.inj hf
      exact ret_i C hr hlk hw dX9_side_114
    · have hf := o_f hf c8
      refine lv_iload_n C.1.1 C.1.2.1 dX9_side_86 rfl (lv_at hl 2 rfl) ?_
      refine lv_aload_n C.1.1 C.1.2.1 dX9_side_87 rfl (lv_at hl 0 rfl) ?_
      refine lv_iload C.1.1 C.1.2.1 dX9_side_88 (lv_at hl 3 rfl) ?_
      obtain ⟨q9, h9, hf⟩ := o_bind hf
      refine aft_i hw (run_VM C hw clX9_335 (As := [.int x4]) (rest := [.int x3]) oM_0 (c_X9_winnerOf h9) rfl hl.1 rfl ⟨(Nat.le_of_ble_eq_true rfl), (Nat.le_of_ble_eq_true rfl)⟩ ⟨Nat.zero_le _, Nat.zero_le _⟩ rfl (Nat.le_of_ble_eq_true rfl) dX9_side_90) (fun H locs hw => ?_)
      refine lv_iload_n C.1.1 C.1.2.1 dX9_side_93 rfl (lv_at hl 1 rfl) ?_
      refine lv_icmp_ne (tgt := 104) C.1.1 C.1.2.1 dX9_side_94 (by decide) (fun c10 => ?_) (fun c10 => ?_)
      · have hf := o_f hf c10
        refine lv_iconst (v := (0 : Int32)) C.1.1 C.1.2.1 dX9_side_104 rfl ?_
        refine lv_ior C.1.1 C.1.2.1 dX9_side_105 ?_
        refine lv_istore_n (lv' := [(3, .int (x3 ||| (0 : Int32))), (0, .ref (gA G (41 + 0))), (1, .int x1), (4, .int x4)]) C.1.1 C.1.2.1 dX9_side_106 rfl hl (by decide) rfl (fun ls hl => ?_)
        refine lv_iinc (v := (x4 + (1 : Int32))) (lv' := [(4, .int (x4 + (1 : Int32))), (3, .int (x3 ||| (0 : Int32))), (0, .ref (gA G (41 + 0))), (1, .int x1)]) C.1.1 C.1.2.1 dX9_side_107 hl (k := 3) rfl rfl (by decide) rfl (fun ls hl => ?_)
        refine lv_goto (tgt := 80) C.1.1 C.1.2.1 dX9_side_110 (by decide) ?_
        exact hk_80 X M L x1 (x3 ||| (0 : Int32)) (x4 + (1 : Int32)) _ _ _ hw (lv_sub hl [2, 3, 1, 0] rfl) hf
      · have hf := o_t hf c10
        refine lv_iconst (v := (1 : Int32)) C.1.1 C.1.2.1 dX9_side_97 rfl ?_
        refine lv_iload C.1.1 C.1.2.1 dX9_side_98 (lv_at hl 3 rfl) ?_
        refine lv_ishl C.1.1 C.1.2.1 dX9_side_100 ?_
        refine lv_goto (tgt := 105) C.1.1 C.1.2.1 dX9_side_101 (by decide) ?_
        refine lv_ior C.1.1 C.1.2.1 dX9_side_105 ?_
        refine lv_istore_n (lv' := [(3, .int (x3 ||| ((1 : Int32) <<< (x4 &&& 31)))), (0, .ref (gA G (41 + 0))), (1, .int x1), (4, .int x4)]) C.1.1 C.1.2.1 dX9_side_106 rfl hl (by decide) rfl (fun ls hl => ?_)
        refine lv_iinc (v := (x4 + (1 : Int32))) (lv' := [(4, .int (x4 + (1 : Int32))), (3, .int (x3 ||| ((1 : Int32) <<< (x4 &&& 31)))), (0, .ref (gA G (41 + 0))), (1, .int x1)]) C.1.1 C.1.2.1 dX9_side_107 hl (k := 3) rfl rfl (by decide) rfl (fun ls hl => ?_)
        refine lv_goto (tgt := 80) C.1.1 C.1.2.1 dX9_side_110 (by decide) ?_
        exact hk_80 X M L x1 (x3 ||| ((1 : Int32) <<< (x4 &&& 31))) (x4 + (1 : Int32)) _ _ _ hw (lv_sub hl [2, 3, 1, 0] rfl) hf
set_option maxRecDepth 20000 in
set_option maxHeartbeats 2000000 in
theorem c_X9_side   {X M : TX} {L : TL} {x1 : Int32} {x2 : Int32} {ro : TX × Int32} (hf : f_X9_side M x1 x2 = some ro) : CTi G l yX9_side cX9_side 5 (some .int) 5 113 [.ref (gA G (41 + 0)), .int x1, .int x2] X M L X ro.1 L ro.2 := by
  unfold f_X9_side at hf
  refine ct_of (by decide +kernel) (Nat.le_of_ble_eq_true rfl) (fun p e s m args below meth c H locs ls C hr hlk hw hl => ?_)
  have C : Cx G p s m args c cX9_side 5 RX9 := C
  have hl : lv_has ls 5 [(0, .ref (gA G (41 + 0))), (1, .int x1), (2, .int x2)] := hl
  refine lv_aload_n C.1.1 C.1.2.1 dX9_side_0 rfl (lv_at hl 0 rfl) ?_
  refine lv_iconst (v := (0 : Int32)) C.1.1 C.1.2.1 dX9_side_1 rfl ?_
  refine m_put C hw iM_0_0 flX9_3 dX9_side_2 (fun H locs hw => ?_)
  refine lv_aload_n C.1.1 C.1.2.1 dX9_side_5 rfl (lv_at hl 0 rfl) ?_
  refine lv_iload_n C.1.1 C.1.2.1 dX9_side_6 rfl (lv_at hl 1 rfl) ?_
  refine lv_iconst (v := (2 : Int32)) C.1.1 C.1.2.1 dX9_side_7 rfl ?_
  obtain ⟨q1, h1, hf⟩ := o_bind hf
  refine aft_i hw (run_VM C hw clX9_389 (As := [.int x1, .int (2 : Int32)]) (rest := []) oM_0 (c_X9_isThere h1) rfl hl.1 rfl ⟨(Nat.le_of_ble_eq_true rfl), (Nat.le_of_ble_eq_true rfl)⟩ ⟨Nat.zero_le _, Nat.zero_le _⟩ rfl (Nat.le_of_ble_eq_true rfl) dX9_side_8) (fun H locs hw => ?_)
  refine lv_if_eq (tgt := 29) C.1.1 C.1.2.1 dX9_side_11 (by decide) (fun c2 => ?_) (fun c2 => ?_)
  · have hf := o_t hf c2
    refine lv_iconst (v := (0 : Int32)) C.1.1 C.1.2.1 dX9_side_29 rfl ?_
    obtain rfl := Option.some.inj hf
    exact ret_i C hr hlk hw dX9_side_30
  · have hf := o_f hf c2
    refine lv_aload_n C.1.1 C.1.2.1 dX9_side_14 rfl (lv_at hl 0 rfl) ?_
    refine lv_iload_n C.1.1 C.1.2.1 dX9_side_15 rfl (lv_at hl 2 rfl) ?_
    refine lv_iconst (v := (0 : Int32)) C.1.1 C.1.2.1 dX9_side_16 rfl ?_
    refine lv_iconst (v := (3 : Int32)) C.1.1 C.1.2.1 dX9_side_17 rfl ?_
    obtain ⟨q3, h3, hf⟩ := o_bind hf
    refine aft_i hw (run_S C hw clX9_385 (As := [.int x2, .int (0 : Int32), .int (3 : Int32)]) (rest := [.ref (gA G (41 + 0))]) (c_X9_within h3) hl.1 rfl ⟨(Nat.le_of_ble_eq_true rfl), (Nat.le_of_ble_eq_true rfl)⟩ ⟨Nat.zero_le _, Nat.zero_le _⟩ rfl (Nat.le_of_ble_eq_true rfl) dX9_side_18) (fun H locs hw => ?_)
    refine lv_iconst (v := (2 : Int32)) C.1.1 C.1.2.1 dX9_side_21 rfl ?_
    refine lv_iconst (v := (1 : Int32)) C.1.1 C.1.2.1 dX9_side_22 rfl ?_
    obtain ⟨q4, h4, hf⟩ := o_bind hf
    refine aft_i hw (run_VM C hw clX9_200 (As := [.int q3, .int (2 : Int32), .int (1 : Int32)]) (rest := []) oM_0 (c_X9_lets h4) rfl hl.1 rfl ⟨(Nat.le_of_ble_eq_true rfl), (Nat.le_of_ble_eq_true rfl)⟩ ⟨Nat.zero_le _, Nat.zero_le _⟩ rfl (Nat.le_of_ble_eq_true rfl) dX9_side_23) (fun H locs hw => ?_)
    refine lv_if_ne (tgt := 31) C.1.1 C.1.2.1 dX9_side_26 (by decide) (fun c5 => ?_) (fun c5 => ?_)
    · have hf := o_f hf c5
      refine lv_aload_n C.1.1 C.1.2.1 dX9_side_31 rfl (lv_at hl 0 rfl) ?_
      obtain ⟨q6, h6, hf⟩ := o_bind hf
      refine aft_v hw (run_VM C hw clX9_307 (As := []) (rest := []) oM_0 (c_X9_take h6) rfl hl.1 rfl ⟨(Nat.le_of_ble_eq_true rfl), (Nat.le_of_ble_eq_true rfl)⟩ ⟨Nat.zero_le _, Nat.zero_le _⟩ rfl (Nat.le_of_ble_eq_true rfl) dX9_side_32) (fun H locs hw => ?_)
      refine lv_iload_n C.1.1 C.1.2.1 dX9_side_35 rfl (lv_at hl 2 rfl) ?_
      refine lv_iconst (v := (3 : Int32)) C.1.1 C.1.2.1 dX9_side_36 rfl ?_
      refine lv_icmp_ge (tgt := 75) C.1.1 C.1.2.1 dX9_side_37 (by decide) (fun c7 => ?_) (fun c7 => ?_)
      · have hf := o_t hf c7
        refine lv_iconst (v := (0 : Int32)) C.1.1 C.1.2.1 dX9_side_75 rfl ?_
        refine lv_istore_n (lv' := [(3, .int (0 : Int32)), (0, .ref (gA G (41 + 0))), (1, .int x1), (2, .int x2)]) C.1.1 C.1.2.1 dX9_side_76 rfl hl (by decide) rfl (fun ls hl => ?_)
        refine lv_iconst (v := (0 : Int32)) C.1.1 C.1.2.1 dX9_side_77 rfl ?_
        refine lv_istore (lv' := [(4, .int (0 : Int32)), (3, .int (0 : Int32)), (0, .ref (gA G (41 + 0))), (1, .int x1), (2, .int x2)]) C.1.1 C.1.2.1 dX9_side_78 hl (by decide) rfl (fun ls hl => ?_)
        exact wL_X9_side_80 C hr hlk FU X q6 L x1 (0 : Int32) (0 : Int32) _ _ _ hw (lv_sub hl [2, 3, 1, 0] rfl) hf
      · have hf := o_f hf c7
        refine lv_iload_n C.1.1 C.1.2.1 dX9_side_40 rfl (lv_at hl 2 rfl) ?_
        refine lv_if_ne (tgt := 52) C.1.1 C.1.2.1 dX9_side_41 (by decide) (fun c11 => ?_) (fun c11 => ?_)
        · have hf := o_f hf c11
          refine lv_iload_n C.1.1 C.1.2.1 dX9_side_52 rfl (lv_at hl 2 rfl) ?_
          refine lv_iconst (v := (1 : Int32)) C.1.1 C.1.2.1 dX9_side_53 rfl ?_
          refine lv_icmp_ne (tgt := 69) C.1.1 C.1.2.1 dX9_side_54 (by decide) (fun c12 => ?_) (fun c12 => ?_)
          · have hf := o_f hf c12
            refine lv_aload_n C.1.1 C.1.2.1 dX9_side_69 rfl (lv_at hl 0 rfl) ?_
            refine lv_iload_n C.1.1 C.1.2.1 dX9_side_70 rfl (lv_at hl 1 rfl) ?_
            obtain ⟨q13, h13, hf⟩ := o_bind hf
            refine aft_i hw (run_VM C hw clX9_364 (As := [.int x1]) (rest := []) oM_0 (c_X9_marginOf h13) rfl hl.1 rfl ⟨(Nat.le_of_ble_eq_true rfl), (Nat.le_of_ble_eq_true rfl)⟩ ⟨Nat.zero_le _, Nat.zero_le _⟩ rfl (Nat.le_of_ble_eq_true rfl) dX9_side_71) (fun H locs hw => ?_)
            obtain rfl := Option.some.inj hf
            exact ret_i C hr hlk hw dX9_side_74
          · have hf := o_t hf c12
            refine lv_aload_n C.1.1 C.1.2.1 dX9_side_57 rfl (lv_at hl 0 rfl) ?_
            refine lv_aload_n C.1.1 C.1.2.1 dX9_side_58 rfl (lv_at hl 0 rfl) ?_
            obtain ⟨q14, h14, hf⟩ := o_bind hf
            refine aft_i hw (run_VM C hw clX9_376 (As := []) (rest := [.ref (gA G (41 + 0))]) oM_0 (c_X9_everybody h14) rfl hl.1 rfl ⟨(Nat.le_of_ble_eq_true rfl), (Nat.le_of_ble_eq_true rfl)⟩ ⟨Nat.zero_le _, Nat.zero_le _⟩ rfl (Nat.le_of_ble_eq_true rfl) dX9_side_59) (fun H locs hw => ?_)
            refine lv_iload_n C.1.1 C.1.2.1 dX9_side_62 rfl (lv_at hl 1 rfl) ?_
            obtain ⟨q15, h15, hf⟩ := o_bind hf
            refine aft_i hw (run_VM C hw clX9_332 (As := [.int q14, .int x1]) (rest := []) oM_0 (c_X9_votesIn h15) rfl hl.1 rfl ⟨(Nat.le_of_ble_eq_true rfl), (Nat.le_of_ble_eq_true rfl)⟩ ⟨Nat.zero_le _, Nat.zero_le _⟩ rfl (Nat.le_of_ble_eq_true rfl) dX9_side_63) (fun H locs hw => ?_)
            refine lv_goto (tgt := 74) C.1.1 C.1.2.1 dX9_side_66 (by decide) ?_
            obtain rfl := Option.some.inj hf
            exact ret_i C hr hlk hw dX9_side_74
        · have hf := o_t hf c11
          refine lv_aload_n C.1.1 C.1.2.1 dX9_side_44 rfl (lv_at hl 0 rfl) ?_
          refine lv_iload_n C.1.1 C.1.2.1 dX9_side_45 rfl (lv_at hl 1 rfl) ?_
          obtain ⟨q16, h16, hf⟩ := o_bind hf
          refine aft_i hw (run_VM C hw clX9_338 (As := [.int x1]) (rest := []) oM_0 (c_X9_seatsOf h16) rfl hl.1 rfl ⟨(Nat.le_of_ble_eq_true rfl), (Nat.le_of_ble_eq_true rfl)⟩ ⟨Nat.zero_le _, Nat.zero_le _⟩ rfl (Nat.le_of_ble_eq_true rfl) dX9_side_46) (fun H locs hw => ?_)
          refine lv_goto (tgt := 74) C.1.1 C.1.2.1 dX9_side_49 (by decide) ?_
          obtain rfl := Option.some.inj hf
          exact ret_i C hr hlk hw dX9_side_74
    · have hf := o_t hf c5
      refine lv_iconst (v := (0 : Int32)) C.1.1 C.1.2.1 dX9_side_29 rfl ?_
      obtain rfl := Option.some.inj hf
      exact ret_i C hr hlk hw dX9_side_30
end
/-! WinnerDrawsModel.cost(II)I (('o', 'M', 0) ('i',) ('i',)) -/
def f_X9_cost (M : TX) (x1 : Int32) (x2 : Int32) : Option (TX × Int32) := (f_X9_isThere (u2 M 0 0 (0 : Int32)) x1 ((u2 M 0 0 (0 : Int32)) 0 19)).bind fun q1 => if q1.2 = 0 then (some (q1.1, (0 : Int32))) else ((f_X9_isThere q1.1 x2 (4 : Int32)).bind fun q3 => if q3.2 = 0 then (some (q3.1, (0 : Int32))) else ((f_X9_take q3.1).bind fun q5 => (f_X9_costBy q5 x1 x2).bind fun q6 => some (q6.1, q6.2)))
section
variable {G : GP} {l : Launch}
set_option maxRecDepth 20000 in
set_option maxHeartbeats 2000000 in
theorem c_X9_cost   {X M : TX} {L : TL} {x1 : Int32} {x2 : Int32} {ro : TX × Int32} (hf : f_X9_cost M x1 x2 = some ro) : CTi G l yX9_cost cX9_cost 3 (some .int) 5 117 [.ref (gA G (41 + 0)), .int x1, .int x2] X M L X ro.1 L ro.2 := by
  unfold f_X9_cost at hf
  refine ct_of (by decide +kernel) (Nat.le_of_ble_eq_true rfl) (fun p e s m args below meth c H locs ls C hr hlk hw hl => ?_)
  have C : Cx G p s m args c cX9_cost 3 RX9 := C
  have hl : lv_has ls 3 [(0, .ref (gA G (41 + 0))), (1, .int x1), (2, .int x2)] := hl
  refine lv_aload_n C.1.1 C.1.2.1 dX9_cost_0 rfl (lv_at hl 0 rfl) ?_
  refine lv_iconst (v := (0 : Int32)) C.1.1 C.1.2.1 dX9_cost_1 rfl ?_
  refine m_put C hw iM_0_0 flX9_3 dX9_cost_2 (fun H locs hw => ?_)
  refine lv_aload_n C.1.1 C.1.2.1 dX9_cost_5 rfl (lv_at hl 0 rfl) ?_
  refine lv_iload_n C.1.1 C.1.2.1 dX9_cost_6 rfl (lv_at hl 1 rfl) ?_
  refine lv_aload_n C.1.1 C.1.2.1 dX9_cost_7 rfl (lv_at hl 0 rfl) ?_
  refine m_get C hw iM_0_19 flX9_157 dX9_cost_8 ?_
  obtain ⟨q1, h1, hf⟩ := o_bind hf
  refine aft_i hw (run_VM C hw clX9_389 (As := [.int x1, .int ((u2 M 0 0 (0 : Int32)) 0 19)]) (rest := []) oM_0 (c_X9_isThere h1) rfl hl.1 rfl ⟨(Nat.le_of_ble_eq_true rfl), (Nat.le_of_ble_eq_true rfl)⟩ ⟨Nat.zero_le _, Nat.zero_le _⟩ rfl (Nat.le_of_ble_eq_true rfl) dX9_cost_11) (fun H locs hw => ?_)
  refine lv_if_eq (tgt := 26) C.1.1 C.1.2.1 dX9_cost_14 (by decide) (fun c2 => ?_) (fun c2 => ?_)
  · have hf := o_t hf c2
    refine lv_iconst (v := (0 : Int32)) C.1.1 C.1.2.1 dX9_cost_26 rfl ?_
    obtain rfl := Option.some.inj hf
    exact ret_i C hr hlk hw dX9_cost_27
  · have hf := o_f hf c2
    refine lv_aload_n C.1.1 C.1.2.1 dX9_cost_17 rfl (lv_at hl 0 rfl) ?_
    refine lv_iload_n C.1.1 C.1.2.1 dX9_cost_18 rfl (lv_at hl 2 rfl) ?_
    refine lv_iconst (v := (4 : Int32)) C.1.1 C.1.2.1 dX9_cost_19 rfl ?_
    obtain ⟨q3, h3, hf⟩ := o_bind hf
    refine aft_i hw (run_VM C hw clX9_389 (As := [.int x2, .int (4 : Int32)]) (rest := []) oM_0 (c_X9_isThere h3) rfl hl.1 rfl ⟨(Nat.le_of_ble_eq_true rfl), (Nat.le_of_ble_eq_true rfl)⟩ ⟨Nat.zero_le _, Nat.zero_le _⟩ rfl (Nat.le_of_ble_eq_true rfl) dX9_cost_20) (fun H locs hw => ?_)
    refine lv_if_ne (tgt := 28) C.1.1 C.1.2.1 dX9_cost_23 (by decide) (fun c4 => ?_) (fun c4 => ?_)
    · have hf := o_f hf c4
      refine lv_aload_n C.1.1 C.1.2.1 dX9_cost_28 rfl (lv_at hl 0 rfl) ?_
      obtain ⟨q5, h5, hf⟩ := o_bind hf
      refine aft_v hw (run_VM C hw clX9_307 (As := []) (rest := []) oM_0 (c_X9_take h5) rfl hl.1 rfl ⟨(Nat.le_of_ble_eq_true rfl), (Nat.le_of_ble_eq_true rfl)⟩ ⟨Nat.zero_le _, Nat.zero_le _⟩ rfl (Nat.le_of_ble_eq_true rfl) dX9_cost_29) (fun H locs hw => ?_)
      refine lv_aload_n C.1.1 C.1.2.1 dX9_cost_32 rfl (lv_at hl 0 rfl) ?_
      refine lv_iload_n C.1.1 C.1.2.1 dX9_cost_33 rfl (lv_at hl 1 rfl) ?_
      refine lv_iload_n C.1.1 C.1.2.1 dX9_cost_34 rfl (lv_at hl 2 rfl) ?_
      obtain ⟨q6, h6, hf⟩ := o_bind hf
      refine aft_i hw (run_VM C hw clX9_361 (As := [.int x1, .int x2]) (rest := []) oM_0 (c_X9_costBy h6) rfl hl.1 rfl ⟨(Nat.le_of_ble_eq_true rfl), (Nat.le_of_ble_eq_true rfl)⟩ ⟨Nat.zero_le _, Nat.zero_le _⟩ rfl (Nat.le_of_ble_eq_true rfl) dX9_cost_35) (fun H locs hw => ?_)
      obtain rfl := Option.some.inj hf
      exact ret_i C hr hlk hw dX9_cost_38
    · have hf := o_t hf c4
      refine lv_iconst (v := (0 : Int32)) C.1.1 C.1.2.1 dX9_cost_26 rfl ?_
      obtain rfl := Option.some.inj hf
      exact ret_i C hr hlk hw dX9_cost_27
end
