/-! WinnerDrawsModel.thrown()I (('o', 'M', 0)) -/
def f_X9_thrown (M : TX) : Option (Int32) := some (M 0 0)
section
variable {G : GP} {l : Launch}
set_option maxRecDepth 20000 in
set_option maxHeartbeats 2000000 in
theorem c_X9_thrown   {X M : TX} {L : TL}  {ro : Int32} (hf : f_X9_thrown M = some ro) : CTi G l yX9_thrown cX9_thrown 1 (some .int) 0 0 [.ref (gA G (41 + 0))] X M L X M L ro := by
  unfold f_X9_thrown at hf
  refine ct_of (by decide +kernel) (Nat.le_of_ble_eq_true rfl) (fun p e s m args below meth c H locs ls C hr hlk hw hl => ?_)
  have C : Cx G p s m args c cX9_thrown 1 RX9 := C
  have hl : lv_has ls 1 [(0, .ref (gA G (41 + 0)))] := hl
  refine lv_aload_n C.1.1 C.1.2.1 dX9_thrown_0 rfl (lv_at hl 0 rfl) ?_
  refine m_get C hw iM_0_0 flX9_3 dX9_thrown_1 ?_
  obtain rfl := Option.some.inj hf
  exact ret_i C hr hlk hw dX9_thrown_4
end
/-! WinnerDrawsModel.lets(ZII)Z (('o', 'M', 0) ('i',) ('i',) ('i',)) -/
def f_X9_lets (M : TX) (x1 : Int32) (x2 : Int32) (x3 : Int32) : Option (TX × Int32) := if x1 = 0 then (if (M 0 0) = 0 then (if inb x3 2 = true then (if inb x3 2 = true then (if ((u2 (u2 M 0 0 x2) 1 (Int32.toNatClampNeg x3) (((u2 M 0 0 x2) 1 (Int32.toNatClampNeg x3)) + (1 : Int32))) 0 0) = 0 then (some ((u2 (u2 M 0 0 x2) 1 (Int32.toNatClampNeg x3) (((u2 M 0 0 x2) 1 (Int32.toNatClampNeg x3)) + (1 : Int32))), (1 : Int32))) else (some ((u2 (u2 M 0 0 x2) 1 (Int32.toNatClampNeg x3) (((u2 M 0 0 x2) 1 (Int32.toNatClampNeg x3)) + (1 : Int32))), (0 : Int32)))) else none) else none) else (if (M 0 0) = 0 then (some (M, (1 : Int32))) else (some (M, (0 : Int32))))) else (if (M 0 0) = 0 then (some (M, (1 : Int32))) else (some (M, (0 : Int32))))
section
variable {G : GP} {l : Launch}
set_option maxRecDepth 20000 in
set_option maxHeartbeats 2000000 in
theorem c_X9_lets   {X M : TX} {L : TL} {x1 : Int32} {x2 : Int32} {x3 : Int32} {ro : TX × Int32} (hf : f_X9_lets M x1 x2 x3 = some ro) : CTi G l yX9_lets cX9_lets 4 (some .boolean) 0 0 [.ref (gA G (41 + 0)), .int x1, .int x2, .int x3] X M L X ro.1 L ro.2 := by
  unfold f_X9_lets at hf
  refine ct_of (by decide +kernel) (Nat.le_of_ble_eq_true rfl) (fun p e s m args below meth c H locs ls C hr hlk hw hl => ?_)
  have C : Cx G p s m args c cX9_lets 4 RX9 := C
  have hl : lv_has ls 4 [(0, .ref (gA G (41 + 0))), (1, .int x1), (2, .int x2), (3, .int x3)] := hl
  refine lv_iload_n C.1.1 C.1.2.1 dX9_lets_0 rfl (lv_at hl 1 rfl) ?_
  refine lv_if_ne (tgt := 26) C.1.1 C.1.2.1 dX9_lets_1 (by decide) (fun c1 => ?_) (fun c1 => ?_)
  · have hf := o_f hf c1
    refine lv_aload_n C.1.1 C.1.2.1 dX9_lets_26 rfl (lv_at hl 0 rfl) ?_
    refine m_get C hw iM_0_0 flX9_3 dX9_lets_27 ?_
    refine lv_if_ne (tgt := 37) C.1.1 C.1.2.1 dX9_lets_30 (by decide) (fun c2 => ?_) (fun c2 => ?_)
    · have hf := o_f hf c2
      refine lv_iconst (v := (0 : Int32)) C.1.1 C.1.2.1 dX9_lets_37 rfl ?_
      obtain rfl := Option.some.inj hf
      exact ret_z (r := (0 : Int32)) C hr hlk hw rfl dX9_lets_38
    · have hf := o_t hf c2
      refine lv_iconst (v := (1 : Int32)) C.1.1 C.1.2.1 dX9_lets_33 rfl ?_
      refine lv_goto (tgt := 38) C.1.1 C.1.2.1 dX9_lets_34 (by decide) ?_
      obtain rfl := Option.some.inj hf
      exact ret_z (r := (1 : Int32)) C hr hlk hw rfl dX9_lets_38
  · have hf := o_t hf c1
    refine lv_aload_n C.1.1 C.1.2.1 dX9_lets_4 rfl (lv_at hl 0 rfl) ?_
    refine m_get C hw iM_0_0 flX9_3 dX9_lets_5 ?_
    refine lv_if_ne (tgt := 26) C.1.1 C.1.2.1 dX9_lets_8 (by decide) (fun c3 => ?_) (fun c3 => ?_)
    · have hf := o_f hf c3
      refine lv_aload_n C.1.1 C.1.2.1 dX9_lets_26 rfl (lv_at hl 0 rfl) ?_
      refine m_get C hw iM_0_0 flX9_3 dX9_lets_27 ?_
      refine lv_if_ne (tgt := 37) C.1.1 C.1.2.1 dX9_lets_30 (by decide) (fun c4 => ?_) (fun c4 => ?_)
      · have hf := o_f hf c4
        refine lv_iconst (v := (0 : Int32)) C.1.1 C.1.2.1 dX9_lets_37 rfl ?_
        obtain rfl := Option.some.inj hf
        exact ret_z (r := (0 : Int32)) C hr hlk hw rfl dX9_lets_38
      · have hf := o_t hf c4
        refine lv_iconst (v := (1 : Int32)) C.1.1 C.1.2.1 dX9_lets_33 rfl ?_
        refine lv_goto (tgt := 38) C.1.1 C.1.2.1 dX9_lets_34 (by decide) ?_
        obtain rfl := Option.some.inj hf
        exact ret_z (r := (1 : Int32)) C hr hlk hw rfl dX9_lets_38
    · have hf := o_t hf c3
      refine lv_aload_n C.1.1 C.1.2.1 dX9_lets_11 rfl (lv_at hl 0 rfl) ?_
      refine lv_iload_n C.1.1 C.1.2.1 dX9_lets_12 rfl (lv_at hl 2 rfl) ?_
      refine m_put C hw iM_0_0 flX9_3 dX9_lets_13 (fun H locs hw => ?_)
      refine lv_aload_n C.1.1 C.1.2.1 dX9_lets_16 rfl (lv_at hl 0 rfl) ?_
      refine m_ref C hw fM_0_1 flX9_7 dX9_lets_17 ?_
      refine lv_iload_n C.1.1 C.1.2.1 dX9_lets_20 rfl (lv_at hl 3 rfl) ?_
      refine lv_dup2_11 C.1.1 C.1.2.1 dX9_lets_21 rfl rfl ?_
      have g5 := inb_in (o_g hf).1
      have hf := (o_g hf).2
      refine m_ald C hw aM_1 g5 dX9_lets_22 ?_
      refine lv_iconst (v := (1 : Int32)) C.1.1 C.1.2.1 dX9_lets_23 rfl ?_
      refine lv_iadd C.1.1 C.1.2.1 dX9_lets_24 ?_
      have g6 := inb_in (o_g hf).1
      have hf := (o_g hf).2
      refine m_ast C hw aM_1 g6 dX9_lets_25 (fun H locs hw => ?_)
      refine lv_aload_n C.1.1 C.1.2.1 dX9_lets_26 rfl (lv_at hl 0 rfl) ?_
      refine m_get C hw iM_0_0 flX9_3 dX9_lets_27 ?_
      refine lv_if_ne (tgt := 37) C.1.1 C.1.2.1 dX9_lets_30 (by decide) (fun c7 => ?_) (fun c7 => ?_)
      · have hf := o_f hf c7
        refine lv_iconst (v := (0 : Int32)) C.1.1 C.1.2.1 dX9_lets_37 rfl ?_
        obtain rfl := Option.some.inj hf
        exact ret_z (r := (0 : Int32)) C hr hlk hw rfl dX9_lets_38
      · have hf := o_t hf c7
        refine lv_iconst (v := (1 : Int32)) C.1.1 C.1.2.1 dX9_lets_33 rfl ?_
        refine lv_goto (tgt := 38) C.1.1 C.1.2.1 dX9_lets_34 (by decide) ?_
        obtain rfl := Option.some.inj hf
        exact ret_z (r := (1 : Int32)) C hr hlk hw rfl dX9_lets_38
end
/-! WinnerDrawsModel.feed(IIIII)I (('o', 'M', 0) ('i',) ('i',) ('i',) ('i',) ('i',)) -/
def B_X9_feed_76 (k_23 : TX → Int32 → Int32 → Int32 → Int32 → Int32 → Int32 → Option (TX × Int32)) (M : TX) (x1 : Int32) (x2 : Int32) (x3 : Int32) (x4 : Int32) (x5 : Int32) (x6 : Int32) (t0 : Int32) : Option (TX × Int32) := if inb (M 0 2) 600 = true then (k_23 (u2 (u2 M 2 (Int32.toNatClampNeg (M 0 2)) ((t0 >>> (((24 : Int32) - ((8 : Int32) * (x6 - x6 / (4 : Int32) * (4 : Int32)))) &&& 31)) &&& (255 : Int32))) 0 2 (((u2 M 2 (Int32.toNatClampNeg (M 0 2)) ((t0 >>> (((24 : Int32) - ((8 : Int32) * (x6 - x6 / (4 : Int32) * (4 : Int32)))) &&& 31)) &&& (255 : Int32))) 0 2) + (1 : Int32))) x1 x2 x3 x4 x5 (x6 + (1 : Int32))) else none
def L_X9_feed_23 : Nat → TX → Int32 → Int32 → Int32 → Int32 → Int32 → Int32 → Option (TX × Int32)
  | 0 => fun _ _ _ _ _ _ _ => none
  | n + 1 => fun M x1 x2 x3 x4 x5 x6 => if (20 : Int32) ≤ x6 then (some (M, (M 0 2))) else (if (4 : Int32) ≤ x6 then (if (8 : Int32) ≤ x6 then (if (12 : Int32) ≤ x6 then (if (16 : Int32) ≤ x6 then (B_X9_feed_76 (L_X9_feed_23 n) M x1 x2 x3 x4 x5 x6 x5) else (B_X9_feed_76 (L_X9_feed_23 n) M x1 x2 x3 x4 x5 x6 x4)) else (B_X9_feed_76 (L_X9_feed_23 n) M x1 x2 x3 x4 x5 x6 x3)) else (B_X9_feed_76 (L_X9_feed_23 n) M x1 x2 x3 x4 x5 x6 x2)) else (B_X9_feed_76 (L_X9_feed_23 n) M x1 x2 x3 x4 x5 x6 x1))
def f_X9_feed (M : TX) (x1 : Int32) (x2 : Int32) (x3 : Int32) (x4 : Int32) (x5 : Int32) : Option (TX × Int32) := if (((u2 M 0 0 (0 : Int32)) 0 2) + (20 : Int32)) ≤ (600 : Int32) then (L_X9_feed_23 FU (u2 M 0 0 (0 : Int32)) x1 x2 x3 x4 x5 (0 : Int32)) else (some ((u2 M 0 0 (0 : Int32)), (-1 : Int32)))
section
variable {G : GP} {l : Launch}
set_option maxRecDepth 20000 in
set_option maxHeartbeats 2000000 in
theorem wB_X9_feed_76 {p : Program} {e : Env} {s : State} {m : MethodId} {args : Array Value} {below : List Frame} {meth : Method} {c : Code} (C : Cx G p s m args c cX9_feed 8 RX9) (hr : meth.sig.returnType = (some .int)) (hlk : meth.locks = false) {ro : TX × Int32} {k_23 : TX → Int32 → Int32 → Int32 → Int32 → Int32 → Int32 → Option (TX × Int32)} (hk_23 : ∀ (X : TX) (M : TX) (L : TL) (x1 : Int32) (x2 : Int32) (x3 : Int32) (x4 : Int32) (x5 : Int32) (x6 : Int32) (H : Heap) (locs : List Loc) (ls : Array Slot), Wh G s X M L H locs → lv_has ls 8 [(0, .ref (gA G (41 + 0))), (1, .int x1), (2, .int x2), (3, .int x3), (4, .int x4), (5, .int x5), (6, .int x6)] → k_23 M x1 x2 x3 x4 x5 x6 = some ro → W p l e (rz 0 0) s m args below meth c H locs 0 0 (MQ below (Di G X ro.1 L ro.2) args s 0 0 (AB G)) (F0 m 23 ls [])) : ∀ (X : TX) (M : TX) (L : TL) (x1 : Int32) (x2 : Int32) (x3 : Int32) (x4 : Int32) (x5 : Int32) (x6 : Int32) (t0 : Int32) (H : Heap) (locs : List Loc) (ls : Array Slot), Wh G s X M L H locs → lv_has ls 8 [(0, .ref (gA G (41 + 0))), (1, .int x1), (2, .int x2), (3, .int x3), (4, .int x4), (5, .int x5), (6, .int x6)] → B_X9_feed_76 k_23 M x1 x2 x3 x4 x5 x6 t0 = some ro → W p l e (rz 0 0) s m args below meth c H locs 0 0 (MQ below (Di G X ro.1 L ro.2) args s 0 0 (AB G)) (F0 m 76 ls [.int t0]) := by
  intro X M L x1 x2 x3 x4 x5 x6 t0 H locs ls hw hl hf
  unfold B_X9_feed_76 at hf
  refine lv_istore (lv' := [(7, .int t0), (0, .ref (gA G (41 + 0))), (1, .int x1), (2, .int x2), (3, .int x3), (4, .int x4), (5, .int x5), (6, .int x6)]) C.1.1 C.1.2.1 dX9_feed_76 hl (by decide) rfl (fun ls hl => ?_)
  refine lv_aload_n C.1.1 C.1.2.1 dX9_feed_78 rfl (lv_at hl 1 rfl) ?_
  refine m_ref C hw fM_0_9 flX9_20 dX9_feed_79 ?_
  refine lv_aload_n C.1.1 C.1.2.1 dX9_feed_82 rfl (lv_at hl 1 rfl) ?_
  refine m_get C hw iM_0_2 flX9_102 dX9_feed_83 ?_
  refine lv_iload C.1.1 C.1.2.1 dX9_feed_86 (lv_at hl 0 rfl) ?_
  refine lv_bipush (v := (24 : Int32)) C.1.1 C.1.2.1 dX9_feed_88 rfl ?_
  refine lv_bipush (v := (8 : Int32)) C.1.1 C.1.2.1 dX9_feed_90 rfl ?_
  refine lv_iload C.1.1 C.1.2.1 dX9_feed_92 (lv_at hl 7 rfl) ?_
  refine lv_iconst (v := (4 : Int32)) C.1.1 C.1.2.1 dX9_feed_94 rfl ?_
  refine lv_irem C.1.1 C.1.2.1 dX9_feed_95 (by decide) ?_
  refine lv_imul C.1.1 C.1.2.1 dX9_feed_96 ?_
  refine lv_isub C.1.1 C.1.2.1 dX9_feed_97 ?_
  refine lv_ishr C.1.1 C.1.2.1 dX9_feed_98 ?_
  refine lv_sipush (v := (255 : Int32)) C.1.1 C.1.2.1 dX9_feed_99 rfl ?_
  refine lv_iand C.1.1 C.1.2.1 dX9_feed_102 ?_
  have g7 := inb_in (o_g hf).1
  have hf := (o_g hf).2
  refine m_ast C hw aM_2 g7 dX9_feed_103 (fun H locs hw => ?_)
  refine lv_aload_n C.1.1 C.1.2.1 dX9_feed_104 rfl (lv_at hl 1 rfl) ?_
  refine lv_dup C.1.1 C.1.2.1 dX9_feed_105 rfl ?_
  refine m_get C hw iM_0_2 flX9_102 dX9_feed_106 ?_
  refine lv_iconst (v := (1 : Int32)) C.1.1 C.1.2.1 dX9_feed_109 rfl ?_
  refine lv_iadd C.1.1 C.1.2.1 dX9_feed_110 ?_
  refine m_put C hw iM_0_2 flX9_102 dX9_feed_111 (fun H locs hw => ?_)
  refine lv_iinc (v := (x6 + (1 : Int32))) (lv' := [(6, .int (x6 + (1 : Int32))), (7, .int t0), (0, .ref (gA G (41 + 0))), (1, .int x1), (2, .int x2), (3, .int x3), (4, .int x4), (5, .int x5)]) C.1.1 C.1.2.1 dX9_feed_114 hl (k := 7) rfl rfl (by decide) rfl (fun ls hl => ?_)
  refine lv_goto (tgt := 23) C.1.1 C.1.2.1 dX9_feed_117 (by decide) ?_
  exact hk_23 X (u2 (u2 M 2 (Int32.toNatClampNeg (M 0 2)) ((t0 >>> (((24 : Int32) - ((8 : Int32) * (x6 - x6 / (4 : Int32) * (4 : Int32)))) &&& 31)) &&& (255 : Int32))) 0 2 (((u2 M 2 (Int32.toNatClampNeg (M 0 2)) ((t0 >>> (((24 : Int32) - ((8 : Int32) * (x6 - x6 / (4 : Int32) * (4 : Int32)))) &&& 31)) &&& (255 : Int32))) 0 2) + (1 : Int32))) L x1 x2 x3 x4 x5 (x6 + (1 : Int32)) _ _ _ hw (lv_sub hl [2, 3, 4, 5, 6, 7, 0] rfl) hf
set_option maxRecDepth 20000 in
set_option maxHeartbeats 2000000 in
theorem wL_X9_feed_23 {p : Program} {e : Env} {s : State} {m : MethodId} {args : Array Value} {below : List Frame} {meth : Method} {c : Code} (C : Cx G p s m args c cX9_feed 8 RX9) (hr : meth.sig.returnType = (some .int)) (hlk : meth.locks = false) {ro : TX × Int32} : ∀ (n : Nat), ∀ (X : TX) (M : TX) (L : TL) (x1 : Int32) (x2 : Int32) (x3 : Int32) (x4 : Int32) (x5 : Int32) (x6 : Int32) (H : Heap) (locs : List Loc) (ls : Array Slot), Wh G s X M L H locs → lv_has ls 8 [(0, .ref (gA G (41 + 0))), (1, .int x1), (2, .int x2), (3, .int x3), (4, .int x4), (5, .int x5), (6, .int x6)] → L_X9_feed_23 n M x1 x2 x3 x4 x5 x6 = some ro → W p l e (rz 0 0) s m args below meth c H locs 0 0 (MQ below (Di G X ro.1 L ro.2) args s 0 0 (AB G)) (F0 m 23 ls []) := by
  intro n
  induction n with
  | zero =>
    intro X M L x1 x2 x3 x4 x5 x6 H locs ls hw hl hf
    cases hf
  | succ n hk_23 =>
    intro X M L x1 x2 x3 x4 x5 x6 H locs ls hw hl hf
    rw [L_X9_feed_23] at hf
    refine lv_iload C.1.1 C.1.2.1 dX9_feed_23 (lv_at hl 6 rfl) ?_
    refine lv_bipush (v := (20 : Int32)) C.1.1 C.1.2.1 dX9_feed_25 rfl ?_
    refine lv_icmp_ge (tgt := 120) C.1.1 C.1.2.1 dX9_feed_27 (by decide) (fun c2 => ?_) (fun c2 => ?_)
    · have hf := o_t hf c2
      refine lv_aload_n C.1.1 C.1.2.1 dX9_feed_120 rfl (lv_at hl 0 rfl) ?_
      refine m_get C hw iM_0_2 flX9_102 dX9_feed_121 ?_
      obtain rfl := Option.some.inj hf
      exact ret_i C hr hlk hw dX9_feed_124
    · have hf := o_f hf c2
      refine lv_iload C.1.1 C.1.2.1 dX9_feed_30 (lv_at hl 6 rfl) ?_
      refine lv_iconst (v := (4 : Int32)) C.1.1 C.1.2.1 dX9_feed_32 rfl ?_
      refine lv_icmp_ge (tgt := 40) C.1.1 C.1.2.1 dX9_feed_33 (by decide) (fun c3 => ?_) (fun c3 => ?_)
      · have hf := o_t hf c3
        refine lv_iload C.1.1 C.1.2.1 dX9_feed_40 (lv_at hl 6 rfl) ?_
        refine lv_bipush (v := (8 : Int32)) C.1.1 C.1.2.1 dX9_feed_42 rfl ?_
        refine lv_icmp_ge (tgt := 51) C.1.1 C.1.2.1 dX9_feed_44 (by decide) (fun c4 => ?_) (fun c4 => ?_)
        · have hf := o_t hf c4
          refine lv_iload C.1.1 C.1.2.1 dX9_feed_51 (lv_at hl 6 rfl) ?_
          refine lv_bipush (v := (12 : Int32)) C.1.1 C.1.2.1 dX9_feed_53 rfl ?_
          refine lv_icmp_ge (tgt := 62) C.1.1 C.1.2.1 dX9_feed_55 (by decide) (fun c5 => ?_) (fun c5 => ?_)
          · have hf := o_t hf c5
            refine lv_iload C.1.1 C.1.2.1 dX9_feed_62 (lv_at hl 6 rfl) ?_
            refine lv_bipush (v := (16 : Int32)) C.1.1 C.1.2.1 dX9_feed_64 rfl ?_
            refine lv_icmp_ge (tgt := 74) C.1.1 C.1.2.1 dX9_feed_66 (by decide) (fun c6 => ?_) (fun c6 => ?_)
            · have hf := o_t hf c6
              refine lv_iload C.1.1 C.1.2.1 dX9_feed_74 (lv_at hl 5 rfl) ?_
              exact wB_X9_feed_76 C hr hlk hk_23 X M L x1 x2 x3 x4 x5 x6 x5 _ _ _ hw (lv_sub hl [0, 1, 2, 3, 4, 5, 6] rfl) hf
            · have hf := o_f hf c6
              refine lv_iload C.1.1 C.1.2.1 dX9_feed_69 (lv_at hl 4 rfl) ?_
              refine lv_goto (tgt := 76) C.1.1 C.1.2.1 dX9_feed_71 (by decide) ?_
              exact wB_X9_feed_76 C hr hlk hk_23 X M L x1 x2 x3 x4 x5 x6 x4 _ _ _ hw (lv_sub hl [0, 1, 2, 3, 4, 5, 6] rfl) hf
          · have hf := o_f hf c5
            refine lv_iload_n C.1.1 C.1.2.1 dX9_feed_58 rfl (lv_at hl 3 rfl) ?_
            refine lv_goto (tgt := 76) C.1.1 C.1.2.1 dX9_feed_59 (by decide) ?_
            exact wB_X9_feed_76 C hr hlk hk_23 X M L x1 x2 x3 x4 x5 x6 x3 _ _ _ hw (lv_sub hl [0, 1, 2, 3, 4, 5, 6] rfl) hf
        · have hf := o_f hf c4
          refine lv_iload_n C.1.1 C.1.2.1 dX9_feed_47 rfl (lv_at hl 2 rfl) ?_
          refine lv_goto (tgt := 76) C.1.1 C.1.2.1 dX9_feed_48 (by decide) ?_
          exact wB_X9_feed_76 C hr hlk hk_23 X M L x1 x2 x3 x4 x5 x6 x2 _ _ _ hw (lv_sub hl [0, 1, 2, 3, 4, 5, 6] rfl) hf
      · have hf := o_f hf c3
        refine lv_iload_n C.1.1 C.1.2.1 dX9_feed_36 rfl (lv_at hl 1 rfl) ?_
        refine lv_goto (tgt := 76) C.1.1 C.1.2.1 dX9_feed_37 (by decide) ?_
        exact wB_X9_feed_76 C hr hlk hk_23 X M L x1 x2 x3 x4 x5 x6 x1 _ _ _ hw (lv_sub hl [0, 1, 2, 3, 4, 5, 6] rfl) hf
set_option maxRecDepth 20000 in
set_option maxHeartbeats 2000000 in
theorem c_X9_feed   {X M : TX} {L : TL} {x1 : Int32} {x2 : Int32} {x3 : Int32} {x4 : Int32} {x5 : Int32} {ro : TX × Int32} (hf : f_X9_feed M x1 x2 x3 x4 x5 = some ro) : CTi G l yX9_feed cX9_feed 8 (some .int) 0 0 [.ref (gA G (41 + 0)), .int x1, .int x2, .int x3, .int x4, .int x5] X M L X ro.1 L ro.2 := by
  unfold f_X9_feed at hf
  refine ct_of (by decide +kernel) (Nat.le_of_ble_eq_true rfl) (fun p e s m args below meth c H locs ls C hr hlk hw hl => ?_)
  have C : Cx G p s m args c cX9_feed 8 RX9 := C
  have hl : lv_has ls 8 [(0, .ref (gA G (41 + 0))), (1, .int x1), (2, .int x2), (3, .int x3), (4, .int x4), (5, .int x5)] := hl
  refine lv_aload_n C.1.1 C.1.2.1 dX9_feed_0 rfl (lv_at hl 0 rfl) ?_
  refine lv_iconst (v := (0 : Int32)) C.1.1 C.1.2.1 dX9_feed_1 rfl ?_
  refine m_put C hw iM_0_0 flX9_3 dX9_feed_2 (fun H locs hw => ?_)
  refine lv_aload_n C.1.1 C.1.2.1 dX9_feed_5 rfl (lv_at hl 0 rfl) ?_
  refine m_get C hw iM_0_2 flX9_102 dX9_feed_6 ?_
  refine lv_bipush (v := (20 : Int32)) C.1.1 C.1.2.1 dX9_feed_9 rfl ?_
  refine lv_iadd C.1.1 C.1.2.1 dX9_feed_11 ?_
  refine lv_sipush (v := (600 : Int32)) C.1.1 C.1.2.1 dX9_feed_12 rfl ?_
  refine lv_icmp_le (tgt := 20) C.1.1 C.1.2.1 dX9_feed_15 (by decide) (fun c1 => ?_) (fun c1 => ?_)
  · have hf := o_t hf c1
    refine lv_iconst (v := (0 : Int32)) C.1.1 C.1.2.1 dX9_feed_20 rfl ?_
    refine lv_istore (lv' := [(6, .int (0 : Int32)), (0, .ref (gA G (41 + 0))), (1, .int x1), (2, .int x2), (3, .int x3), (4, .int x4), (5, .int x5)]) C.1.1 C.1.2.1 dX9_feed_21 hl (by decide) rfl (fun ls hl => ?_)
    exact wL_X9_feed_23 C hr hlk FU X (u2 M 0 0 (0 : Int32)) L x1 x2 x3 x4 x5 (0 : Int32) _ _ _ hw (lv_sub hl [1, 2, 3, 4, 5, 6, 0] rfl) hf
  · have hf := o_f hf c1
    refine lv_iconst (v := (-1 : Int32)) C.1.1 C.1.2.1 dX9_feed_18 rfl ?_
    obtain rfl := Option.some.inj hf
    exact ret_i C hr hlk hw dX9_feed_19
end
/-! WinnerDrawsModel.fine()Z (('o', 'M', 0)) -/
def f_X9_fine (M : TX) : Option (Int32) := if (M 0 5) = (-1 : Int32) then (some (1 : Int32)) else (some (0 : Int32))
section
variable {G : GP} {l : Launch}
set_option maxRecDepth 20000 in
set_option maxHeartbeats 2000000 in
theorem c_X9_fine   {X M : TX} {L : TL}  {ro : Int32} (hf : f_X9_fine M = some ro) : CTi G l yX9_fine cX9_fine 1 (some .boolean) 0 0 [.ref (gA G (41 + 0))] X M L X M L ro := by
  unfold f_X9_fine at hf
  refine ct_of (by decide +kernel) (Nat.le_of_ble_eq_true rfl) (fun p e s m args below meth c H locs ls C hr hlk hw hl => ?_)
  have C : Cx G p s m args c cX9_fine 1 RX9 := C
  have hl : lv_has ls 1 [(0, .ref (gA G (41 + 0)))] := hl
  refine lv_aload_n C.1.1 C.1.2.1 dX9_fine_0 rfl (lv_at hl 0 rfl) ?_
  refine m_get C hw iM_0_5 flX9_105 dX9_fine_1 ?_
  refine lv_iconst (v := (-1 : Int32)) C.1.1 C.1.2.1 dX9_fine_4 rfl ?_
  refine lv_icmp_ne (tgt := 12) C.1.1 C.1.2.1 dX9_fine_5 (by decide) (fun c1 => ?_) (fun c1 => ?_)
  · have hf := o_f hf c1
    refine lv_iconst (v := (0 : Int32)) C.1.1 C.1.2.1 dX9_fine_12 rfl ?_
    obtain rfl := Option.some.inj hf
    exact ret_z (r := (0 : Int32)) C hr hlk hw rfl dX9_fine_13
  · have hf := o_t hf c1
    refine lv_iconst (v := (1 : Int32)) C.1.1 C.1.2.1 dX9_fine_8 rfl ?_
    refine lv_goto (tgt := 13) C.1.1 C.1.2.1 dX9_fine_9 (by decide) ?_
    obtain rfl := Option.some.inj hf
    exact ret_z (r := (1 : Int32)) C hr hlk hw rfl dX9_fine_13
end
/-! WinnerDrawsModel.wrong(II)V (('o', 'M', 0) ('i',) ('i',)) -/
def f_X9_wrong (M : TX) (x1 : Int32) (x2 : Int32) : Option (TX) := if (M 0 5) = (-1 : Int32) then (some (u2 (u2 M 0 5 x2) 0 6 x1)) else (some M)
section
variable {G : GP} {l : Launch}
set_option maxRecDepth 20000 in
set_option maxHeartbeats 2000000 in
theorem c_X9_wrong   {X M : TX} {L : TL} {x1 : Int32} {x2 : Int32} {ro : TX} (hf : f_X9_wrong M x1 x2 = some ro) : CTv G l yX9_wrong cX9_wrong 3 none 0 0 [.ref (gA G (41 + 0)), .int x1, .int x2] X M L X ro L := by
  unfold f_X9_wrong at hf
  refine ct_of (by decide +kernel) (Nat.le_of_ble_eq_true rfl) (fun p e s m args below meth c H locs ls C hr hlk hw hl => ?_)
  have C : Cx G p s m args c cX9_wrong 3 RX9 := C
  have hl : lv_has ls 3 [(0, .ref (gA G (41 + 0))), (1, .int x1), (2, .int x2)] := hl
  refine lv_aload_n C.1.1 C.1.2.1 dX9_wrong_0 rfl (lv_at hl 0 rfl) ?_
  refine m_get C hw iM_0_5 flX9_105 dX9_wrong_1 ?_
  refine lv_iconst (v := (-1 : Int32)) C.1.1 C.1.2.1 dX9_wrong_4 rfl ?_
  refine lv_icmp_eq (tgt := 9) C.1.1 C.1.2.1 dX9_wrong_5 (by decide) (fun c1 => ?_) (fun c1 => ?_)
  · have hf := o_t hf c1
    refine lv_aload_n C.1.1 C.1.2.1 dX9_wrong_9 rfl (lv_at hl 0 rfl) ?_
    refine lv_iload_n C.1.1 C.1.2.1 dX9_wrong_10 rfl (lv_at hl 2 rfl) ?_
    refine m_put C hw iM_0_5 flX9_105 dX9_wrong_11 (fun H locs hw => ?_)
    refine lv_aload_n C.1.1 C.1.2.1 dX9_wrong_14 rfl (lv_at hl 0 rfl) ?_
    refine lv_iload_n C.1.1 C.1.2.1 dX9_wrong_15 rfl (lv_at hl 1 rfl) ?_
    refine m_put C hw iM_0_6 flX9_108 dX9_wrong_16 (fun H locs hw => ?_)
    obtain rfl := Option.some.inj hf
    exact ret_v C hr hlk hw dX9_wrong_19
  · have hf := o_f hf c1
    obtain rfl := Option.some.inj hf
    exact ret_v C hr hlk hw dX9_wrong_8
end
/-! WinnerDrawsModel.here()I (('o', 'M', 0)) -/
def L_X9_here_0 : Nat → TX → Option (TX × Int32)
  | 0 => fun _ => none
  | n + 1 => fun M => if (M 0 3) ≤ (M 0 4) then (if (M 0 3) ≤ (M 0 4) then (some (M, (0 : Int32))) else (if inb (M 0 4) 600 = true then (some (M, (M 2 (Int32.toNatClampNeg (M 0 4))))) else none)) else (if inb (M 0 4) 600 = true then (if (M 2 (Int32.toNatClampNeg (M 0 4))) = (32 : Int32) then ((L_X9_here_0 n) (u2 M 0 4 ((M 0 4) + (1 : Int32)))) else (if (M 0 3) ≤ (M 0 4) then (some (M, (0 : Int32))) else (if inb (M 0 4) 600 = true then (some (M, (M 2 (Int32.toNatClampNeg (M 0 4))))) else none))) else none)
def f_X9_here (M : TX) : Option (TX × Int32) := L_X9_here_0 FU M
section
variable {G : GP} {l : Launch}
set_option maxRecDepth 20000 in
set_option maxHeartbeats 2000000 in
theorem wL_X9_here_0 {p : Program} {e : Env} {s : State} {m : MethodId} {args : Array Value} {below : List Frame} {meth : Method} {c : Code} (C : Cx G p s m args c cX9_here 1 RX9) (hr : meth.sig.returnType = (some .int)) (hlk : meth.locks = false) {ro : TX × Int32} : ∀ (n : Nat), ∀ (X : TX) (M : TX) (L : TL)  (H : Heap) (locs : List Loc) (ls : Array Slot), Wh G s X M L H locs → lv_has ls 1 [(0, .ref (gA G (41 + 0)))] → L_X9_here_0 n M = some ro → W p l e (rz 0 0) s m args below meth c H locs 0 0 (MQ below (Di G X ro.1 L ro.2) args s 0 0 (AB G)) (F0 m 0 ls []) := by
  intro n
  induction n with
  | zero =>
    intro X M L H locs ls hw hl hf
    cases hf
  | succ n hk_0 =>
    intro X M L H locs ls hw hl hf
    rw [L_X9_here_0] at hf
    refine lv_aload_n C.1.1 C.1.2.1 dX9_here_0 rfl (lv_at hl 0 rfl) ?_
    refine m_get C hw iM_0_4 flX9_111 dX9_here_1 ?_
    refine lv_aload_n C.1.1 C.1.2.1 dX9_here_4 rfl (lv_at hl 0 rfl) ?_
    refine m_get C hw iM_0_3 flX9_114 dX9_here_5 ?_
    refine lv_icmp_ge (tgt := 38) C.1.1 C.1.2.1 dX9_here_8 (by decide) (fun c1 => ?_) (fun c1 => ?_)
    · have hf := o_t hf c1
      refine lv_aload_n C.1.1 C.1.2.1 dX9_here_38 rfl (lv_at hl 0 rfl) ?_
      refine m_get C hw iM_0_4 flX9_111 dX9_here_39 ?_
      refine lv_aload_n C.1.1 C.1.2.1 dX9_here_42 rfl (lv_at hl 0 rfl) ?_
      refine m_get C hw iM_0_3 flX9_114 dX9_here_43 ?_
      refine lv_icmp_ge (tgt := 61) C.1.1 C.1.2.1 dX9_here_46 (by decide) (fun c2 => ?_) (fun c2 => ?_)
      · have hf := o_t hf c2
        refine lv_iconst (v := (0 : Int32)) C.1.1 C.1.2.1 dX9_here_61 rfl ?_
        obtain rfl := Option.some.inj hf
        exact ret_i C hr hlk hw dX9_here_62
      · have hf := o_f hf c2
        refine lv_aload_n C.1.1 C.1.2.1 dX9_here_49 rfl (lv_at hl 0 rfl) ?_
        refine m_ref C hw fM_0_9 flX9_20 dX9_here_50 ?_
        refine lv_aload_n C.1.1 C.1.2.1 dX9_here_53 rfl (lv_at hl 0 rfl) ?_
        refine m_get C hw iM_0_4 flX9_111 dX9_here_54 ?_
        have g3 := inb_in (o_g hf).1
        have hf := (o_g hf).2
        refine m_ald C hw aM_2 g3 dX9_here_57 ?_
        refine lv_goto (tgt := 62) C.1.1 C.1.2.1 dX9_here_58 (by decide) ?_
        obtain rfl := Option.some.inj hf
        exact ret_i C hr hlk hw dX9_here_62
    · have hf := o_f hf c1
      refine lv_aload_n C.1.1 C.1.2.1 dX9_here_11 rfl (lv_at hl 0 rfl) ?_
      refine m_ref C hw fM_0_9 flX9_20 dX9_here_12 ?_
      refine lv_aload_n C.1.1 C.1.2.1 dX9_here_15 rfl (lv_at hl 0 rfl) ?_
      refine m_get C hw iM_0_4 flX9_111 dX9_here_16 ?_
      have g4 := inb_in (o_g hf).1
      have hf := (o_g hf).2
      refine m_ald C hw aM_2 g4 dX9_here_19 ?_
      refine lv_bipush (v := (32 : Int32)) C.1.1 C.1.2.1 dX9_here_20 rfl ?_
      refine lv_icmp_ne (tgt := 38) C.1.1 C.1.2.1 dX9_here_22 (by decide) (fun c5 => ?_) (fun c5 => ?_)
      · have hf := o_f hf c5
        refine lv_aload_n C.1.1 C.1.2.1 dX9_here_38 rfl (lv_at hl 0 rfl) ?_
        refine m_get C hw iM_0_4 flX9_111 dX9_here_39 ?_
        refine lv_aload_n C.1.1 C.1.2.1 dX9_here_42 rfl (lv_at hl 0 rfl) ?_
        refine m_get C hw iM_0_3 flX9_114 dX9_here_43 ?_
        refine lv_icmp_ge (tgt := 61) C.1.1 C.1.2.1 dX9_here_46 (by decide) (fun c6 => ?_) (fun c6 => ?_)
        · have hf := o_t hf c6
          refine lv_iconst (v := (0 : Int32)) C.1.1 C.1.2.1 dX9_here_61 rfl ?_
          obtain rfl := Option.some.inj hf
          exact ret_i C hr hlk hw dX9_here_62
        · have hf := o_f hf c6
          refine lv_aload_n C.1.1 C.1.2.1 dX9_here_49 rfl (lv_at hl 0 rfl) ?_
          refine m_ref C hw fM_0_9 flX9_20 dX9_here_50 ?_
          refine lv_aload_n C.1.1 C.1.2.1 dX9_here_53 rfl (lv_at hl 0 rfl) ?_
          refine m_get C hw iM_0_4 flX9_111 dX9_here_54 ?_
          have g7 := inb_in (o_g hf).1
          have hf := (o_g hf).2
          refine m_ald C hw aM_2 g7 dX9_here_57 ?_
          refine lv_goto (tgt := 62) C.1.1 C.1.2.1 dX9_here_58 (by decide) ?_
          obtain rfl := Option.some.inj hf
          exact ret_i C hr hlk hw dX9_here_62
      · have hf := o_t hf c5
        refine lv_aload_n C.1.1 C.1.2.1 dX9_here_25 rfl (lv_at hl 0 rfl) ?_
        refine lv_dup C.1.1 C.1.2.1 dX9_here_26 rfl ?_
        refine m_get C hw iM_0_4 flX9_111 dX9_here_27 ?_
        refine lv_iconst (v := (1 : Int32)) C.1.1 C.1.2.1 dX9_here_30 rfl ?_
        refine lv_iadd C.1.1 C.1.2.1 dX9_here_31 ?_
        refine m_put C hw iM_0_4 flX9_111 dX9_here_32 (fun H locs hw => ?_)
        refine lv_goto (tgt := 0) C.1.1 C.1.2.1 dX9_here_35 (by decide) ?_
        exact hk_0 X (u2 M 0 4 ((M 0 4) + (1 : Int32))) L _ _ _ hw (lv_sub hl [0] rfl) hf
set_option maxRecDepth 20000 in
set_option maxHeartbeats 2000000 in
theorem c_X9_here   {X M : TX} {L : TL}  {ro : TX × Int32} (hf : f_X9_here M = some ro) : CTi G l yX9_here cX9_here 1 (some .int) 0 0 [.ref (gA G (41 + 0))] X M L X ro.1 L ro.2 := by
  unfold f_X9_here at hf
  refine ct_of (by decide +kernel) (Nat.le_of_ble_eq_true rfl) (fun p e s m args below meth c H locs ls C hr hlk hw hl => ?_)
  have C : Cx G p s m args c cX9_here 1 RX9 := C
  have hl : lv_has ls 1 [(0, .ref (gA G (41 + 0)))] := hl
  exact wL_X9_here_0 C hr hlk FU X M L _ _ _ hw (lv_sub hl [0] rfl) hf
end
/-! WinnerDrawsModel.isSmall(I)Z (('i',)) -/
def f_X9_isSmall (x0 : Int32) : Option (Int32) := if x0 < (97 : Int32) then (some (0 : Int32)) else (if (122 : Int32) < x0 then (some (0 : Int32)) else (some (1 : Int32)))
section
variable {G : GP} {l : Launch}
set_option maxRecDepth 20000 in
set_option maxHeartbeats 2000000 in
theorem c_X9_isSmall   {X M : TX} {L : TL} {x0 : Int32} {ro : Int32} (hf : f_X9_isSmall x0 = some ro) : CTi G l yX9_isSmall cX9_isSmall 1 (some .boolean) 0 0 [.int x0] X M L X M L ro := by
  unfold f_X9_isSmall at hf
  refine ct_of (by decide +kernel) (Nat.le_of_ble_eq_true rfl) (fun p e s m args below meth c H locs ls C hr hlk hw hl => ?_)
  have C : Cx G p s m args c cX9_isSmall 1 RX9 := C
  have hl : lv_has ls 1 [(0, .int x0)] := hl
  refine lv_iload_n C.1.1 C.1.2.1 dX9_isSmall_0 rfl (lv_at hl 0 rfl) ?_
  refine lv_bipush (v := (97 : Int32)) C.1.1 C.1.2.1 dX9_isSmall_1 rfl ?_
  refine lv_icmp_lt (tgt := 16) C.1.1 C.1.2.1 dX9_isSmall_3 (by decide) (fun c1 => ?_) (fun c1 => ?_)
  · have hf := o_t hf c1
    refine lv_iconst (v := (0 : Int32)) C.1.1 C.1.2.1 dX9_isSmall_16 rfl ?_
    obtain rfl := Option.some.inj hf
    exact ret_z (r := (0 : Int32)) C hr hlk hw rfl dX9_isSmall_17
  · have hf := o_f hf c1
    refine lv_iload_n C.1.1 C.1.2.1 dX9_isSmall_6 rfl (lv_at hl 0 rfl) ?_
    refine lv_bipush (v := (122 : Int32)) C.1.1 C.1.2.1 dX9_isSmall_7 rfl ?_
    refine lv_icmp_gt (tgt := 16) C.1.1 C.1.2.1 dX9_isSmall_9 (by decide) (fun c2 => ?_) (fun c2 => ?_)
    · have hf := o_t hf c2
      refine lv_iconst (v := (0 : Int32)) C.1.1 C.1.2.1 dX9_isSmall_16 rfl ?_
      obtain rfl := Option.some.inj hf
      exact ret_z (r := (0 : Int32)) C hr hlk hw rfl dX9_isSmall_17
    · have hf := o_f hf c2
      refine lv_iconst (v := (1 : Int32)) C.1.1 C.1.2.1 dX9_isSmall_12 rfl ?_
      refine lv_goto (tgt := 17) C.1.1 C.1.2.1 dX9_isSmall_13 (by decide) ?_
      obtain rfl := Option.some.inj hf
      exact ret_z (r := (1 : Int32)) C hr hlk hw rfl dX9_isSmall_17
end
/-! WinnerDrawsModel.word()I (('o', 'M', 0)) -/
def L_X9_word_14 : Nat → TX → Int32 → Int32 → Int32 → Option (TX × Int32)
  | 0 => fun _ _ _ _ => none
  | n + 1 => fun M x1 x2 x3 => if (M 0 3) ≤ x3 then (if x2 ≤ (6 : Int32) then (some (M, x1)) else (some (M, (0 : Int32)))) else (if inb x3 600 = true then ((f_X9_isSmall (M 2 (Int32.toNatClampNeg x3))).bind fun q5 => if q5 = 0 then (if x2 ≤ (6 : Int32) then (some (M, x1)) else (some (M, (0 : Int32)))) else (if (6 : Int32) ≤ x2 then ((L_X9_word_14 n) M (0 : Int32) (x2 + (1 : Int32)) (x3 + (1 : Int32))) else (if inb x3 600 = true then ((L_X9_word_14 n) M ((x1 <<< ((5 : Int32) &&& 31)) ||| ((M 2 (Int32.toNatClampNeg x3)) - (96 : Int32))) (x2 + (1 : Int32)) (x3 + (1 : Int32))) else none))) else none)
def f_X9_word (M : TX) : Option (TX × Int32) := (f_X9_here M).bind fun q1 => L_X9_word_14 FU q1.1 (0 : Int32) (0 : Int32) (q1.1 0 4)
section
variable {G : GP} {l : Launch}
set_option maxRecDepth 20000 in
set_option maxHeartbeats 2000000 in
theorem wL_X9_word_14 {p : Program} {e : Env} {s : State} {m : MethodId} {args : Array Value} {below : List Frame} {meth : Method} {c : Code} (C : Cx G p s m args c cX9_word 4 RX9) (hr : meth.sig.returnType = (some .int)) (hlk : meth.locks = false) {ro : TX × Int32} : ∀ (n : Nat), ∀ (X : TX) (M : TX) (L : TL) (x1 : Int32) (x2 : Int32) (x3 : Int32) (H : Heap) (locs : List Loc) (ls : Array Slot), Wh G s X M L H locs → lv_has ls 4 [(0, .ref (gA G (41 + 0))), (1, .int x1), (2, .int x2), (3, .int x3)] → L_X9_word_14 n M x1 x2 x3 = some ro → W p l e (rz 1 20) s m args below meth c H locs 0 0 (MQ below (Di G X ro.1 L ro.2) args s 0 0 (AB G)) (F0 m 14 ls []) := by
  intro n
  induction n with
  | zero =>
    intro X M L x1 x2 x3 H locs ls hw hl hf
    cases hf
  | succ n hk_14 =>
    intro X M L x1 x2 x3 H locs ls hw hl hf
    rw [L_X9_word_14] at hf
    refine lv_iload_n C.1.1 C.1.2.1 dX9_word_14 rfl (lv_at hl 3 rfl) ?_
    refine lv_aload_n C.1.1 C.1.2.1 dX9_word_15 rfl (lv_at hl 0 rfl) ?_
    refine m_get C hw iM_0_3 flX9_114 dX9_word_16 ?_
    refine lv_icmp_ge (tgt := 67) C.1.1 C.1.2.1 dX9_word_19 (by decide) (fun c2 => ?_) (fun c2 => ?_)
    · have hf := o_t hf c2
      refine lv_iload_n C.1.1 C.1.2.1 dX9_word_67 rfl (lv_at hl 2 rfl) ?_
      refine lv_bipush (v := (6 : Int32)) C.1.1 C.1.2.1 dX9_word_68 rfl ?_
      refine lv_icmp_le (tgt := 77) C.1.1 C.1.2.1 dX9_word_70 (by decide) (fun c3 => ?_) (fun c3 => ?_)
      · have hf := o_t hf c3
        refine lv_iload_n C.1.1 C.1.2.1 dX9_word_77 rfl (lv_at hl 1 rfl) ?_
        obtain rfl := Option.some.inj hf
        exact ret_i C hr hlk hw dX9_word_78
      · have hf := o_f hf c3
        refine lv_iconst (v := (0 : Int32)) C.1.1 C.1.2.1 dX9_word_73 rfl ?_
        refine lv_goto (tgt := 78) C.1.1 C.1.2.1 dX9_word_74 (by decide) ?_
        obtain rfl := Option.some.inj hf
        exact ret_i C hr hlk hw dX9_word_78
    · have hf := o_f hf c2
      refine lv_aload_n C.1.1 C.1.2.1 dX9_word_22 rfl (lv_at hl 0 rfl) ?_
      refine m_ref C hw fM_0_9 flX9_20 dX9_word_23 ?_
      refine lv_iload_n C.1.1 C.1.2.1 dX9_word_26 rfl (lv_at hl 3 rfl) ?_
      have g4 := inb_in (o_g hf).1
      have hf := (o_g hf).2
      refine m_ald C hw aM_2 g4 dX9_word_27 ?_
      obtain ⟨q5, h5, hf⟩ := o_bind hf
      refine aft_i hw (run_S C hw clX9_121 (As := [.int (M 2 (Int32.toNatClampNeg x3))]) (rest := []) (c_X9_isSmall h5) hl.1 rfl ⟨(Nat.le_of_ble_eq_true rfl), (Nat.le_of_ble_eq_true rfl)⟩ ⟨Nat.zero_le _, Nat.zero_le _⟩ rfl (Nat.le_of_ble_eq_true rfl) dX9_word_28) (fun H locs hw => ?_)
      refine lv_if_eq (tgt := 67) C.1.1 C.1.2.1 dX9_word_31 (by decide) (fun c6 => ?_) (fun c6 => ?_)
      · have hf := o_t hf c6
        refine lv_iload_n C.1.1 C.1.2.1 dX9_word_67 rfl (lv_at hl 2 rfl) ?_
        refine lv_bipush (v := (6 : Int32)) C.1.1 C.1.2.1 dX9_word_68 rfl ?_
        refine lv_icmp_le (tgt := 77) C.1.1 C.1.2.1 dX9_word_70 (by decide) (fun c7 => ?_) (fun c7 => ?_)
        · have hf := o_t hf c7
          refine lv_iload_n C.1.1 C.1.2.1 dX9_word_77 rfl (lv_at hl 1 rfl) ?_
          obtain rfl := Option.some.inj hf
          exact ret_i C hr hlk hw dX9_word_78
        · have hf := o_f hf c7
          refine lv_iconst (v := (0 : Int32)) C.1.1 C.1.2.1 dX9_word_73 rfl ?_
          refine lv_goto (tgt := 78) C.1.1 C.1.2.1 dX9_word_74 (by decide) ?_
          obtain rfl := Option.some.inj hf
          exact ret_i C hr hlk hw dX9_word_78
      · have hf := o_f hf c6
        refine lv_iload_n C.1.1 C.1.2.1 dX9_word_34 rfl (lv_at hl 2 rfl) ?_
        refine lv_bipush (v := (6 : Int32)) C.1.1 C.1.2.1 dX9_word_35 rfl ?_
        refine lv_icmp_ge (tgt := 56) C.1.1 C.1.2.1 dX9_word_37 (by decide) (fun c8 => ?_) (fun c8 => ?_)
        · have hf := o_t hf c8
          refine lv_iconst (v := (0 : Int32)) C.1.1 C.1.2.1 dX9_word_56 rfl ?_
          refine lv_istore_n (lv' := [(1, .int (0 : Int32)), (0, .ref (gA G (41 + 0))), (2, .int x2), (3, .int x3)]) C.1.1 C.1.2.1 dX9_word_57 rfl hl (by decide) rfl (fun ls hl => ?_)
          refine lv_iinc (v := (x2 + (1 : Int32))) (lv' := [(2, .int (x2 + (1 : Int32))), (1, .int (0 : Int32)), (0, .ref (gA G (41 + 0))), (3, .int x3)]) C.1.1 C.1.2.1 dX9_word_58 hl (k := 2) rfl rfl (by decide) rfl (fun ls hl => ?_)
          refine lv_iinc (v := (x3 + (1 : Int32))) (lv' := [(3, .int (x3 + (1 : Int32))), (2, .int (x2 + (1 : Int32))), (1, .int (0 : Int32)), (0, .ref (gA G (41 + 0)))]) C.1.1 C.1.2.1 dX9_word_61 hl (k := 3) rfl rfl (by decide) rfl (fun ls hl => ?_)
          refine lv_goto (tgt := 14) C.1.1 C.1.2.1 dX9_word_64 (by decide) ?_
          exact hk_14 X M L (0 : Int32) (x2 + (1 : Int32)) (x3 + (1 : Int32)) _ _ _ hw (lv_sub hl [3, 2, 1, 0] rfl) hf
        · have hf := o_f hf c8
          refine lv_iload_n C.1.1 C.1.2.1 dX9_word_40 rfl (lv_at hl 1 rfl) ?_
          refine lv_iconst (v := (5 : Int32)) C.1.1 C.1.2.1 dX9_word_41 rfl ?_
          refine lv_ishl C.1.1 C.1.2.1 dX9_word_42 ?_
          refine lv_aload_n C.1.1 C.1.2.1 dX9_word_43 rfl (lv_at hl 0 rfl) ?_
          refine m_ref C hw fM_0_9 flX9_20 dX9_word_44 ?_
          refine lv_iload_n C.1.1 C.1.2.1 dX9_word_47 rfl (lv_at hl 3 rfl) ?_
          have g9 := inb_in (o_g hf).1
          have hf := (o_g hf).2
          refine m_ald C hw aM_2 g9 dX9_word_48 ?_
          refine lv_bipush (v := (96 : Int32)) C.1.1 C.1.2.1 dX9_word_49 rfl ?_
          refine lv_isub C.1.1 C.1.2.1 dX9_word_51 ?_
          refine lv_ior C.1.1 C.1.2.1 dX9_word_52 ?_
          refine lv_goto (tgt := 57) C.1.1 C.1.2.1 dX9_word_53 (by decide) ?_
          refine lv_istore_n (lv' := [(1, .int ((x1 <<< ((5 : Int32) &&& 31)) ||| ((M 2 (Int32.toNatClampNeg x3)) - (96 : Int32)))), (0, .ref (gA G (41 + 0))), (2, .int x2), (3, .int x3)]) C.1.1 C.1.2.1 dX9_word_57 rfl hl (by decide) rfl (fun ls hl => ?_)
          refine lv_iinc (v := (x2 + (1 : Int32))) (lv' := [(2, .int (x2 + (1 : Int32))), (1, .int ((x1 <<< ((5 : Int32) &&& 31)) ||| ((M 2 (Int32.toNatClampNeg x3)) - (96 : Int32)))), (0, .ref (gA G (41 + 0))), (3, .int x3)]) C.1.1 C.1.2.1 dX9_word_58 hl (k := 2) rfl rfl (by decide) rfl (fun ls hl => ?_)
          refine lv_iinc (v := (x3 + (1 : Int32))) (lv' := [(3, .int (x3 + (1 : Int32))), (2, .int (x2 + (1 : Int32))), (1, .int ((x1 <<< ((5 : Int32) &&& 31)) ||| ((M 2 (Int32.toNatClampNeg x3)) - (96 : Int32)))), (0, .ref (gA G (41 + 0)))]) C.1.1 C.1.2.1 dX9_word_61 hl (k := 3) rfl rfl (by decide) rfl (fun ls hl => ?_)
          refine lv_goto (tgt := 14) C.1.1 C.1.2.1 dX9_word_64 (by decide) ?_
          exact hk_14 X M L ((x1 <<< ((5 : Int32) &&& 31)) ||| ((M 2 (Int32.toNatClampNeg x3)) - (96 : Int32))) (x2 + (1 : Int32)) (x3 + (1 : Int32)) _ _ _ hw (lv_sub hl [3, 2, 1, 0] rfl) hf
set_option maxRecDepth 20000 in
set_option maxHeartbeats 2000000 in
theorem c_X9_word   {X M : TX} {L : TL}  {ro : TX × Int32} (hf : f_X9_word M = some ro) : CTi G l yX9_word cX9_word 4 (some .int) 1 20 [.ref (gA G (41 + 0))] X M L X ro.1 L ro.2 := by
  unfold f_X9_word at hf
  refine ct_of (by decide +kernel) (Nat.le_of_ble_eq_true rfl) (fun p e s m args below meth c H locs ls C hr hlk hw hl => ?_)
  have C : Cx G p s m args c cX9_word 4 RX9 := C
  have hl : lv_has ls 4 [(0, .ref (gA G (41 + 0)))] := hl
  refine lv_aload_n C.1.1 C.1.2.1 dX9_word_0 rfl (lv_at hl 0 rfl) ?_
  obtain ⟨q1, h1, hf⟩ := o_bind hf
  refine aft_i hw (run_VM C hw clX9_117 (As := []) (rest := []) oM_0 (c_X9_here h1) rfl hl.1 rfl ⟨(Nat.le_of_ble_eq_true rfl), (Nat.le_of_ble_eq_true rfl)⟩ ⟨Nat.zero_le _, Nat.zero_le _⟩ rfl (Nat.le_of_ble_eq_true rfl) dX9_word_1) (fun H locs hw => ?_)
  refine lv_pop C.1.1 C.1.2.1 dX9_word_4 rfl ?_
  refine lv_iconst (v := (0 : Int32)) C.1.1 C.1.2.1 dX9_word_5 rfl ?_
  refine lv_istore_n (lv' := [(1, .int (0 : Int32)), (0, .ref (gA G (41 + 0)))]) C.1.1 C.1.2.1 dX9_word_6 rfl hl (by decide) rfl (fun ls hl => ?_)
  refine lv_iconst (v := (0 : Int32)) C.1.1 C.1.2.1 dX9_word_7 rfl ?_
  refine lv_istore_n (lv' := [(2, .int (0 : Int32)), (1, .int (0 : Int32)), (0, .ref (gA G (41 + 0)))]) C.1.1 C.1.2.1 dX9_word_8 rfl hl (by decide) rfl (fun ls hl => ?_)
  refine lv_aload_n C.1.1 C.1.2.1 dX9_word_9 rfl (lv_at hl 2 rfl) ?_
  refine m_get C hw iM_0_4 flX9_111 dX9_word_10 ?_
  refine lv_istore_n (lv' := [(3, .int (q1.1 0 4)), (2, .int (0 : Int32)), (1, .int (0 : Int32)), (0, .ref (gA G (41 + 0)))]) C.1.1 C.1.2.1 dX9_word_13 rfl hl (by decide) rfl (fun ls hl => ?_)
  exact wL_X9_word_14 C hr hlk FU X q1.1 L (0 : Int32) (0 : Int32) (q1.1 0 4) _ _ _ hw (lv_sub hl [3, 2, 1, 0] rfl) hf
end
/-! WinnerDrawsModel.pass()V (('o', 'M', 0)) -/
def L_X9_pass_0 : Nat → TX → Option (TX)
  | 0 => fun _ => none
  | n + 1 => fun M => if (M 0 3) ≤ (M 0 4) then (some M) else (if inb (M 0 4) 600 = true then ((f_X9_isSmall (M 2 (Int32.toNatClampNeg (M 0 4)))).bind fun q3 => if q3 = 0 then (some M) else ((L_X9_pass_0 n) (u2 M 0 4 ((M 0 4) + (1 : Int32))))) else none)
def f_X9_pass (M : TX) : Option (TX) := L_X9_pass_0 FU M
section
variable {G : GP} {l : Launch}
set_option maxRecDepth 20000 in
set_option maxHeartbeats 2000000 in
theorem wL_X9_pass_0 {p : Program} {e : Env} {s : State} {m : MethodId} {args : Array Value} {below : List Frame} {meth : Method} {c : Code} (C : Cx G p s m args c cX9_pass 1 RX9) (hr : meth.sig.returnType = none) (hlk : meth.locks = false) {ro : TX} : ∀ (n : Nat), ∀ (X : TX) (M : TX) (L : TL)  (H : Heap) (locs : List Loc) (ls : Array Slot), Wh G s X M L H locs → lv_has ls 1 [(0, .ref (gA G (41 + 0)))] → L_X9_pass_0 n M = some ro → W p l e (rz 1 20) s m args below meth c H locs 0 0 (MQ below (Dv G X ro L) args s 0 0 (AB G)) (F0 m 0 ls []) := by
  intro n
  induction n with
  | zero =>
    intro X M L H locs ls hw hl hf
    cases hf
  | succ n hk_0 =>
    intro X M L H locs ls hw hl hf
    rw [L_X9_pass_0] at hf
    refine lv_aload_n C.1.1 C.1.2.1 dX9_pass_0 rfl (lv_at hl 0 rfl) ?_
    refine m_get C hw iM_0_4 flX9_111 dX9_pass_1 ?_
    refine lv_aload_n C.1.1 C.1.2.1 dX9_pass_4 rfl (lv_at hl 0 rfl) ?_
    refine m_get C hw iM_0_3 flX9_114 dX9_pass_5 ?_
    refine lv_icmp_ge (tgt := 39) C.1.1 C.1.2.1 dX9_pass_8 (by decide) (fun c1 => ?_) (fun c1 => ?_)
    · have hf := o_t hf c1
      obtain rfl := Option.some.inj hf
      exact ret_v C hr hlk hw dX9_pass_39
    · have hf := o_f hf c1
      refine lv_aload_n C.1.1 C.1.2.1 dX9_pass_11 rfl (lv_at hl 0 rfl) ?_
      refine m_ref C hw fM_0_9 flX9_20 dX9_pass_12 ?_
      refine lv_aload_n C.1.1 C.1.2.1 dX9_pass_15 rfl (lv_at hl 0 rfl) ?_
      refine m_get C hw iM_0_4 flX9_111 dX9_pass_16 ?_
      have g2 := inb_in (o_g hf).1
      have hf := (o_g hf).2
      refine m_ald C hw aM_2 g2 dX9_pass_19 ?_
      obtain ⟨q3, h3, hf⟩ := o_bind hf
      refine aft_i hw (run_S C hw clX9_121 (As := [.int (M 2 (Int32.toNatClampNeg (M 0 4)))]) (rest := []) (c_X9_isSmall h3) hl.1 rfl ⟨(Nat.le_of_ble_eq_true rfl), (Nat.le_of_ble_eq_true rfl)⟩ ⟨Nat.zero_le _, Nat.zero_le _⟩ rfl (Nat.le_of_ble_eq_true rfl) dX9_pass_20) (fun H locs hw => ?_)
      refine lv_if_eq (tgt := 39) C.1.1 C.1.2.1 dX9_pass_23 (by decide) (fun c4 => ?_) (fun c4 => ?_)
      · have hf := o_t hf c4
        obtain rfl := Option.some.inj hf
        exact ret_v C hr hlk hw dX9_pass_39
      · have hf := o_f hf c4
        refine lv_aload_n C.1.1 C.1.2.1 dX9_pass_26 rfl (lv_at hl 0 rfl) ?_
        refine lv_dup C.1.1 C.1.2.1 dX9_pass_27 rfl ?_
        refine m_get C hw iM_0_4 flX9_111 dX9_pass_28 ?_
        refine lv_iconst (v := (1 : Int32)) C.1.1 C.1.2.1 dX9_pass_31 rfl ?_
        refine lv_iadd C.1.1 C.1.2.1 dX9_pass_32 ?_
        refine m_put C hw iM_0_4 flX9_111 dX9_pass_33 (fun H locs hw => ?_)
        refine lv_goto (tgt := 0) C.1.1 C.1.2.1 dX9_pass_36 (by decide) ?_
        exact hk_0 X (u2 M 0 4 ((M 0 4) + (1 : Int32))) L _ _ _ hw (lv_sub hl [0] rfl) hf
set_option maxRecDepth 20000 in
set_option maxHeartbeats 2000000 in
theorem c_X9_pass   {X M : TX} {L : TL}  {ro : TX} (hf : f_X9_pass M = some ro) : CTv G l yX9_pass cX9_pass 1 none 1 20 [.ref (gA G (41 + 0))] X M L X ro L := by
  unfold f_X9_pass at hf
  refine ct_of (by decide +kernel) (Nat.le_of_ble_eq_true rfl) (fun p e s m args below meth c H locs ls C hr hlk hw hl => ?_)
  have C : Cx G p s m args c cX9_pass 1 RX9 := C
  have hl : lv_has ls 1 [(0, .ref (gA G (41 + 0)))] := hl
  exact wL_X9_pass_0 C hr hlk FU X M L _ _ _ hw (lv_sub hl [0] rfl) hf
end
/-! WinnerDrawsModel.isDigit(I)Z (('i',)) -/
def f_X9_isDigit (x0 : Int32) : Option (Int32) := if x0 < (48 : Int32) then (some (0 : Int32)) else (if (57 : Int32) < x0 then (some (0 : Int32)) else (some (1 : Int32)))
section
variable {G : GP} {l : Launch}
set_option maxRecDepth 20000 in
set_option maxHeartbeats 2000000 in
theorem c_X9_isDigit   {X M : TX} {L : TL} {x0 : Int32} {ro : Int32} (hf : f_X9_isDigit x0 = some ro) : CTi G l yX9_isDigit cX9_isDigit 1 (some .boolean) 0 0 [.int x0] X M L X M L ro := by
  unfold f_X9_isDigit at hf
  refine ct_of (by decide +kernel) (Nat.le_of_ble_eq_true rfl) (fun p e s m args below meth c H locs ls C hr hlk hw hl => ?_)
  have C : Cx G p s m args c cX9_isDigit 1 RX9 := C
  have hl : lv_has ls 1 [(0, .int x0)] := hl
  refine lv_iload_n C.1.1 C.1.2.1 dX9_isDigit_0 rfl (lv_at hl 0 rfl) ?_
  refine lv_bipush (v := (48 : Int32)) C.1.1 C.1.2.1 dX9_isDigit_1 rfl ?_
  refine lv_icmp_lt (tgt := 16) C.1.1 C.1.2.1 dX9_isDigit_3 (by decide) (fun c1 => ?_) (fun c1 => ?_)
  · have hf := o_t hf c1
    refine lv_iconst (v := (0 : Int32)) C.1.1 C.1.2.1 dX9_isDigit_16 rfl ?_
    obtain rfl := Option.some.inj hf
    exact ret_z (r := (0 : Int32)) C hr hlk hw rfl dX9_isDigit_17
  · have hf := o_f hf c1
    refine lv_iload_n C.1.1 C.1.2.1 dX9_isDigit_6 rfl (lv_at hl 0 rfl) ?_
    refine lv_bipush (v := (57 : Int32)) C.1.1 C.1.2.1 dX9_isDigit_7 rfl ?_
    refine lv_icmp_gt (tgt := 16) C.1.1 C.1.2.1 dX9_isDigit_9 (by decide) (fun c2 => ?_) (fun c2 => ?_)
    · have hf := o_t hf c2
      refine lv_iconst (v := (0 : Int32)) C.1.1 C.1.2.1 dX9_isDigit_16 rfl ?_
      obtain rfl := Option.some.inj hf
      exact ret_z (r := (0 : Int32)) C hr hlk hw rfl dX9_isDigit_17
    · have hf := o_f hf c2
      refine lv_iconst (v := (1 : Int32)) C.1.1 C.1.2.1 dX9_isDigit_12 rfl ?_
      refine lv_goto (tgt := 17) C.1.1 C.1.2.1 dX9_isDigit_13 (by decide) ?_
      obtain rfl := Option.some.inj hf
      exact ret_z (r := (1 : Int32)) C hr hlk hw rfl dX9_isDigit_17
end
/-! WinnerDrawsModel.readNumber(II)I (('o', 'M', 0) ('i',) ('i',)) -/
def L_X9_readNumber_41 : Nat → TX → Int32 → Int32 → Int32 → Int32 → Option (TX × Int32)
  | 0 => fun _ _ _ _ _ => none
  | n + 1 => fun M x1 x2 x4 x5 => if (M 0 3) ≤ (M 0 4) then (if x5 < x1 then ((f_X9_wrong M (2 : Int32) x4).bind fun q8 => some (q8, (0 : Int32))) else (if x5 ≤ x2 then (some (M, x5)) else ((f_X9_wrong M (2 : Int32) x4).bind fun q10 => some (q10, (0 : Int32))))) else (if inb (M 0 4) 600 = true then ((f_X9_isDigit (M 2 (Int32.toNatClampNeg (M 0 4)))).bind fun q12 => if q12 = 0 then (if x5 < x1 then ((f_X9_wrong M (2 : Int32) x4).bind fun q15 => some (q15, (0 : Int32))) else (if x5 ≤ x2 then (some (M, x5)) else ((f_X9_wrong M (2 : Int32) x4).bind fun q17 => some (q17, (0 : Int32))))) else (if x5 ≤ (9999 : Int32) then (if inb (M 0 4) 600 = true then ((L_X9_readNumber_41 n) (u2 M 0 4 ((M 0 4) + (1 : Int32))) x1 x2 x4 ((((10 : Int32) * x5) + (M 2 (Int32.toNatClampNeg (M 0 4)))) - (48 : Int32))) else none) else ((L_X9_readNumber_41 n) (u2 M 0 4 ((M 0 4) + (1 : Int32))) x1 x2 x4 (10000 : Int32)))) else none)
def f_X9_readNumber (M : TX) (x1 : Int32) (x2 : Int32) : Option (TX × Int32) := (f_X9_fine M).bind fun q1 => if q1 = 0 then (some (M, (0 : Int32))) else ((f_X9_here M).bind fun q3 => (f_X9_isDigit q3.2).bind fun q4 => if q4 = 0 then ((f_X9_wrong q3.1 (1 : Int32) (q3.1 0 4)).bind fun q20 => some (q20, (0 : Int32))) else (L_X9_readNumber_41 FU q3.1 x1 x2 (q3.1 0 4) (0 : Int32)))
section
variable {G : GP} {l : Launch}
set_option maxRecDepth 20000 in
set_option maxHeartbeats 2000000 in
theorem wL_X9_readNumber_41 {p : Program} {e : Env} {s : State} {m : MethodId} {args : Array Value} {below : List Frame} {meth : Method} {c : Code} (C : Cx G p s m args c cX9_readNumber 6 RX9) (hr : meth.sig.returnType = (some .int)) (hlk : meth.locks = false) {ro : TX × Int32} : ∀ (n : Nat), ∀ (X : TX) (M : TX) (L : TL) (x1 : Int32) (x2 : Int32) (x4 : Int32) (x5 : Int32) (H : Heap) (locs : List Loc) (ls : Array Slot), Wh G s X M L H locs → lv_has ls 6 [(0, .ref (gA G (41 + 0))), (1, .int x1), (2, .int x2), (4, .int x4), (5, .int x5)] → L_X9_readNumber_41 n M x1 x2 x4 x5 = some ro → W p l e (rz 1 22) s m args below meth c H locs 0 0 (MQ below (Di G X ro.1 L ro.2) args s 0 0 (AB G)) (F0 m 41 ls []) := by
  intro n
  induction n with
  | zero =>
    intro X M L x1 x2 x4 x5 H locs ls hw hl hf
    cases hf
  | succ n hk_41 =>
    intro X M L x1 x2 x4 x5 H locs ls hw hl hf
    rw [L_X9_readNumber_41] at hf
    refine lv_aload_n C.1.1 C.1.2.1 dX9_readNumber_41 rfl (lv_at hl 0 rfl) ?_
    refine m_get C hw iM_0_4 flX9_111 dX9_readNumber_42 ?_
    refine lv_aload_n C.1.1 C.1.2.1 dX9_readNumber_45 rfl (lv_at hl 0 rfl) ?_
    refine m_get C hw iM_0_3 flX9_114 dX9_readNumber_46 ?_
    refine lv_icmp_ge (tgt := 114) C.1.1 C.1.2.1 dX9_readNumber_49 (by decide) (fun c6 => ?_) (fun c6 => ?_)
    · have hf := o_t hf c6
      refine lv_iload C.1.1 C.1.2.1 dX9_readNumber_114 (lv_at hl 4 rfl) ?_
      refine lv_iload_n C.1.1 C.1.2.1 dX9_readNumber_116 rfl (lv_at hl 1 rfl) ?_
      refine lv_icmp_lt (tgt := 126) C.1.1 C.1.2.1 dX9_readNumber_117 (by decide) (fun c7 => ?_) (fun c7 => ?_)
      · have hf := o_t hf c7
        refine lv_aload_n C.1.1 C.1.2.1 dX9_readNumber_126 rfl (lv_at hl 0 rfl) ?_
        refine lv_iconst (v := (2 : Int32)) C.1.1 C.1.2.1 dX9_readNumber_127 rfl ?_
        refine lv_iload C.1.1 C.1.2.1 dX9_readNumber_128 (lv_at hl 3 rfl) ?_
        obtain ⟨q8, h8, hf⟩ := o_bind hf
        refine aft_v hw (run_VM C hw clX9_141 (As := [.int (2 : Int32), .int x4]) (rest := []) oM_0 (c_X9_wrong h8) rfl hl.1 rfl ⟨(Nat.le_of_ble_eq_true rfl), (Nat.le_of_ble_eq_true rfl)⟩ ⟨Nat.zero_le _, Nat.zero_le _⟩ rfl (Nat.le_of_ble_eq_true rfl) dX9_readNumber_130) (fun H locs hw => ?_)
        refine lv_iconst (v := (0 : Int32)) C.1.1 C.1.2.1 dX9_readNumber_133 rfl ?_
        obtain rfl := Option.some.inj hf
        exact ret_i C hr hlk hw dX9_readNumber_134
      · have hf := o_f hf c7
        refine lv_iload C.1.1 C.1.2.1 dX9_readNumber_120 (lv_at hl 4 rfl) ?_
        refine lv_iload_n C.1.1 C.1.2.1 dX9_readNumber_122 rfl (lv_at hl 2 rfl) ?_
        refine lv_icmp_le (tgt := 135) C.1.1 C.1.2.1 dX9_readNumber_123 (by decide) (fun c9 => ?_) (fun c9 => ?_)
        · have hf := o_t hf c9
          refine lv_iload C.1.1 C.1.2.1 dX9_readNumber_135 (lv_at hl 4 rfl) ?_
          obtain rfl := Option.some.inj hf
          exact ret_i C hr hlk hw dX9_readNumber_137
        · have hf := o_f hf c9
          refine lv_aload_n C.1.1 C.1.2.1 dX9_readNumber_126 rfl (lv_at hl 0 rfl) ?_
          refine lv_iconst (v := (2 : Int32)) C.1.1 C.1.2.1 dX9_readNumber_127 rfl ?_
          refine lv_iload C.1.1 C.1.2.1 dX9_readNumber_128 (lv_at hl 3 rfl) ?_
          obtain ⟨q10, h10, hf⟩ := o_bind hf
          refine aft_v hw (run_VM C hw clX9_141 (As := [.int (2 : Int32), .int x4]) (rest := []) oM_0 (c_X9_wrong h10) rfl hl.1 rfl ⟨(Nat.le_of_ble_eq_true rfl), (Nat.le_of_ble_eq_true rfl)⟩ ⟨Nat.zero_le _, Nat.zero_le _⟩ rfl (Nat.le_of_ble_eq_true rfl) dX9_readNumber_130) (fun H locs hw => ?_)
          refine lv_iconst (v := (0 : Int32)) C.1.1 C.1.2.1 dX9_readNumber_133 rfl ?_
          obtain rfl := Option.some.inj hf
          exact ret_i C hr hlk hw dX9_readNumber_134
    · have hf := o_f hf c6
      refine lv_aload_n C.1.1 C.1.2.1 dX9_readNumber_52 rfl (lv_at hl 0 rfl) ?_
      refine m_ref C hw fM_0_9 flX9_20 dX9_readNumber_53 ?_
      refine lv_aload_n C.1.1 C.1.2.1 dX9_readNumber_56 rfl (lv_at hl 0 rfl) ?_
      refine m_get C hw iM_0_4 flX9_111 dX9_readNumber_57 ?_
      have g11 := inb_in (o_g hf).1
      have hf := (o_g hf).2
      refine m_ald C hw aM_2 g11 dX9_readNumber_60 ?_
      obtain ⟨q12, h12, hf⟩ := o_bind hf
      refine aft_i hw (run_S C hw clX9_138 (As := [.int (M 2 (Int32.toNatClampNeg (M 0 4)))]) (rest := []) (c_X9_isDigit h12) hl.1 rfl ⟨(Nat.le_of_ble_eq_true rfl), (Nat.le_of_ble_eq_true rfl)⟩ ⟨Nat.zero_le _, Nat.zero_le _⟩ rfl (Nat.le_of_ble_eq_true rfl) dX9_readNumber_61) (fun H locs hw => ?_)
      refine lv_if_eq (tgt := 114) C.1.1 C.1.2.1 dX9_readNumber_64 (by decide) (fun c13 => ?_) (fun c13 => ?_)
      · have hf := o_t hf c13
        refine lv_iload C.1.1 C.1.2.1 dX9_readNumber_114 (lv_at hl 4 rfl) ?_
        refine lv_iload_n C.1.1 C.1.2.1 dX9_readNumber_116 rfl (lv_at hl 1 rfl) ?_
        refine lv_icmp_lt (tgt := 126) C.1.1 C.1.2.1 dX9_readNumber_117 (by decide) (fun c14 => ?_) (fun c14 => ?_)
        · have hf := o_t hf c14
          refine lv_aload_n C.1.1 C.1.2.1 dX9_readNumber_126 rfl (lv_at hl 0 rfl) ?_
          refine lv_iconst (v := (2 : Int32)) C.1.1 C.1.2.1 dX9_readNumber_127 rfl ?_
          refine lv_iload C.1.1 C.1.2.1 dX9_readNumber_128 (lv_at hl 3 rfl) ?_
          obtain ⟨q15, h15, hf⟩ := o_bind hf
          refine aft_v hw (run_VM C hw clX9_141 (As := [.int (2 : Int32), .int x4]) (rest := []) oM_0 (c_X9_wrong h15) rfl hl.1 rfl ⟨(Nat.le_of_ble_eq_true rfl), (Nat.le_of_ble_eq_true rfl)⟩ ⟨Nat.zero_le _, Nat.zero_le _⟩ rfl (Nat.le_of_ble_eq_true rfl) dX9_readNumber_130) (fun H locs hw => ?_)
          refine lv_iconst (v := (0 : Int32)) C.1.1 C.1.2.1 dX9_readNumber_133 rfl ?_
          obtain rfl := Option.some.inj hf
          exact ret_i C hr hlk hw dX9_readNumber_134
        · have hf := o_f hf c14
          refine lv_iload C.1.1 C.1.2.1 dX9_readNumber_120 (lv_at hl 4 rfl) ?_
          refine lv_iload_n C.1.1 C.1.2.1 dX9_readNumber_122 rfl (lv_at hl 2 rfl) ?_
          refine lv_icmp_le (tgt := 135) C.1.1 C.1.2.1 dX9_readNumber_123 (by decide) (fun c16 => ?_) (fun c16 => ?_)
          · have hf := o_t hf c16
            refine lv_iload C.1.1 C.1.2.1 dX9_readNumber_135 (lv_at hl 4 rfl) ?_
            obtain rfl := Option.some.inj hf
            exact ret_i C hr hlk hw dX9_readNumber_137
          · have hf := o_f hf c16
            refine lv_aload_n C.1.1 C.1.2.1 dX9_readNumber_126 rfl (lv_at hl 0 rfl) ?_
            refine lv_iconst (v := (2 : Int32)) C.1.1 C.1.2.1 dX9_readNumber_127 rfl ?_
            refine lv_iload C.1.1 C.1.2.1 dX9_readNumber_128 (lv_at hl 3 rfl) ?_
            obtain ⟨q17, h17, hf⟩ := o_bind hf
            refine aft_v hw (run_VM C hw clX9_141 (As := [.int (2 : Int32), .int x4]) (rest := []) oM_0 (c_X9_wrong h17) rfl hl.1 rfl ⟨(Nat.le_of_ble_eq_true rfl), (Nat.le_of_ble_eq_true rfl)⟩ ⟨Nat.zero_le _, Nat.zero_le _⟩ rfl (Nat.le_of_ble_eq_true rfl) dX9_readNumber_130) (fun H locs hw => ?_)
            refine lv_iconst (v := (0 : Int32)) C.1.1 C.1.2.1 dX9_readNumber_133 rfl ?_
            obtain rfl := Option.some.inj hf
            exact ret_i C hr hlk hw dX9_readNumber_134
      · have hf := o_f hf c13
        refine lv_iload C.1.1 C.1.2.1 dX9_readNumber_67 (lv_at hl 4 rfl) ?_
        refine lv_sipush (v := (9999 : Int32)) C.1.1 C.1.2.1 dX9_readNumber_69 rfl ?_
        refine lv_icmp_le (tgt := 81) C.1.1 C.1.2.1 dX9_readNumber_72 (by decide) (fun c18 => ?_) (fun c18 => ?_)
        · have hf := o_t hf c18
          refine lv_bipush (v := (10 : Int32)) C.1.1 C.1.2.1 dX9_readNumber_81 rfl ?_
          refine lv_iload C.1.1 C.1.2.1 dX9_readNumber_83 (lv_at hl 4 rfl) ?_
          refine lv_imul C.1.1 C.1.2.1 dX9_readNumber_85 ?_
          refine lv_aload_n C.1.1 C.1.2.1 dX9_readNumber_86 rfl (lv_at hl 0 rfl) ?_
          refine m_ref C hw fM_0_9 flX9_20 dX9_readNumber_87 ?_
          refine lv_aload_n C.1.1 C.1.2.1 dX9_readNumber_90 rfl (lv_at hl 0 rfl) ?_
          refine m_get C hw iM_0_4 flX9_111 dX9_readNumber_91 ?_
          have g19 := inb_in (o_g hf).1
          have hf := (o_g hf).2
          refine m_ald C hw aM_2 g19 dX9_readNumber_94 ?_
          refine lv_iadd C.1.1 C.1.2.1 dX9_readNumber_95 ?_
          refine lv_bipush (v := (48 : Int32)) C.1.1 C.1.2.1 dX9_readNumber_96 rfl ?_
          refine lv_isub C.1.1 C.1.2.1 dX9_readNumber_98 ?_
          refine lv_istore (lv' := [(5, .int ((((10 : Int32) * x5) + (M 2 (Int32.toNatClampNeg (M 0 4)))) - (48 : Int32))), (0, .ref (gA G (41 + 0))), (1, .int x1), (2, .int x2), (4, .int x4)]) C.1.1 C.1.2.1 dX9_readNumber_99 hl (by decide) rfl (fun ls hl => ?_)
          refine lv_aload_n C.1.1 C.1.2.1 dX9_readNumber_101 rfl (lv_at hl 1 rfl) ?_
          refine lv_dup C.1.1 C.1.2.1 dX9_readNumber_102 rfl ?_
          refine m_get C hw iM_0_4 flX9_111 dX9_readNumber_103 ?_
          refine lv_iconst (v := (1 : Int32)) C.1.1 C.1.2.1 dX9_readNumber_106 rfl ?_
          refine lv_iadd C.1.1 C.1.2.1 dX9_readNumber_107 ?_
          refine m_put C hw iM_0_4 flX9_111 dX9_readNumber_108 (fun H locs hw => ?_)
          refine lv_goto (tgt := 41) C.1.1 C.1.2.1 dX9_readNumber_111 (by decide) ?_
          exact hk_41 X (u2 M 0 4 ((M 0 4) + (1 : Int32))) L x1 x2 x4 ((((10 : Int32) * x5) + (M 2 (Int32.toNatClampNeg (M 0 4)))) - (48 : Int32)) _ _ _ hw (lv_sub hl [1, 2, 3, 4, 0] rfl) hf
        · have hf := o_f hf c18
          refine lv_sipush (v := (10000 : Int32)) C.1.1 C.1.2.1 dX9_readNumber_75 rfl ?_
          refine lv_goto (tgt := 99) C.1.1 C.1.2.1 dX9_readNumber_78 (by decide) ?_
          refine lv_istore (lv' := [(5, .int (10000 : Int32)), (0, .ref (gA G (41 + 0))), (1, .int x1), (2, .int x2), (4, .int x4)]) C.1.1 C.1.2.1 dX9_readNumber_99 hl (by decide) rfl (fun ls hl => ?_)
          refine lv_aload_n C.1.1 C.1.2.1 dX9_readNumber_101 rfl (lv_at hl 1 rfl) ?_
          refine lv_dup C.1.1 C.1.2.1 dX9_readNumber_102 rfl ?_
          refine m_get C hw iM_0_4 flX9_111 dX9_readNumber_103 ?_
          refine lv_iconst (v := (1 : Int32)) C.1.1 C.1.2.1 dX9_readNumber_106 rfl ?_
          refine lv_iadd C.1.1 C.1.2.1 dX9_readNumber_107 ?_
          refine m_put C hw iM_0_4 flX9_111 dX9_readNumber_108 (fun H locs hw => ?_)
          refine lv_goto (tgt := 41) C.1.1 C.1.2.1 dX9_readNumber_111 (by decide) ?_
          exact hk_41 X (u2 M 0 4 ((M 0 4) + (1 : Int32))) L x1 x2 x4 (10000 : Int32) _ _ _ hw (lv_sub hl [1, 2, 3, 4, 0] rfl) hf
set_option maxRecDepth 20000 in
set_option maxHeartbeats 2000000 in
theorem c_X9_readNumber   {X M : TX} {L : TL} {x1 : Int32} {x2 : Int32} {ro : TX × Int32} (hf : f_X9_readNumber M x1 x2 = some ro) : CTi G l yX9_readNumber cX9_readNumber 6 (some .int) 1 22 [.ref (gA G (41 + 0)), .int x1, .int x2] X M L X ro.1 L ro.2 := by
  unfold f_X9_readNumber at hf
  refine ct_of (by decide +kernel) (Nat.le_of_ble_eq_true rfl) (fun p e s m args below meth c H locs ls C hr hlk hw hl => ?_)
  have C : Cx G p s m args c cX9_readNumber 6 RX9 := C
  have hl : lv_has ls 6 [(0, .ref (gA G (41 + 0))), (1, .int x1), (2, .int x2)] := hl
  refine lv_aload_n C.1.1 C.1.2.1 dX9_readNumber_0 rfl (lv_at hl 0 rfl) ?_
  obtain ⟨q1, h1, hf⟩ := o_bind hf
  refine aft_i hw (run_VM C hw clX9_134 (As := []) (rest := []) oM_0 (c_X9_fine h1) rfl hl.1 rfl ⟨(Nat.le_of_ble_eq_true rfl), (Nat.le_of_ble_eq_true rfl)⟩ ⟨Nat.zero_le _, Nat.zero_le _⟩ rfl (Nat.le_of_ble_eq_true rfl) dX9_readNumber_1) (fun H locs hw => ?_)
  refine lv_if_ne (tgt := 9) C.1.1 C.1.2.1 dX9_readNumber_4 (by decide) (fun c2 => ?_) (fun c2 => ?_)
  · have hf := o_f hf c2
    refine lv_aload_n C.1.1 C.1.2.1 dX9_readNumber_9 rfl (lv_at hl 0 rfl) ?_
    obtain ⟨q3, h3, hf⟩ := o_bind hf
    refine aft_i hw (run_VM C hw clX9_117 (As := []) (rest := []) oM_0 (c_X9_here h3) rfl hl.1 rfl ⟨(Nat.le_of_ble_eq_true rfl), (Nat.le_of_ble_eq_true rfl)⟩ ⟨Nat.zero_le _, Nat.zero_le _⟩ rfl (Nat.le_of_ble_eq_true rfl) dX9_readNumber_10) (fun H locs hw => ?_)
    refine lv_istore_n (lv' := [(3, .int q3.2), (0, .ref (gA G (41 + 0))), (1, .int x1), (2, .int x2)]) C.1.1 C.1.2.1 dX9_readNumber_13 rfl hl (by decide) rfl (fun ls hl => ?_)
    refine lv_aload_n C.1.1 C.1.2.1 dX9_readNumber_14 rfl (lv_at hl 1 rfl) ?_
    refine m_get C hw iM_0_4 flX9_111 dX9_readNumber_15 ?_
    refine lv_istore (lv' := [(4, .int (q3.1 0 4)), (3, .int q3.2), (0, .ref (gA G (41 + 0))), (1, .int x1), (2, .int x2)]) C.1.1 C.1.2.1 dX9_readNumber_18 hl (by decide) rfl (fun ls hl => ?_)
    refine lv_iconst (v := (0 : Int32)) C.1.1 C.1.2.1 dX9_readNumber_20 rfl ?_
    refine lv_istore (lv' := [(5, .int (0 : Int32)), (4, .int (q3.1 0 4)), (3, .int q3.2), (0, .ref (gA G (41 + 0))), (1, .int x1), (2, .int x2)]) C.1.1 C.1.2.1 dX9_readNumber_21 hl (by decide) rfl (fun ls hl => ?_)
    refine lv_iload_n C.1.1 C.1.2.1 dX9_readNumber_23 rfl (lv_at hl 2 rfl) ?_
    obtain ⟨q4, h4, hf⟩ := o_bind hf
    refine aft_i hw (run_S C hw clX9_138 (As := [.int q3.2]) (rest := []) (c_X9_isDigit h4) hl.1 rfl ⟨(Nat.le_of_ble_eq_true rfl), (Nat.le_of_ble_eq_true rfl)⟩ ⟨Nat.zero_le _, Nat.zero_le _⟩ rfl (Nat.le_of_ble_eq_true rfl) dX9_readNumber_24) (fun H locs hw => ?_)
    refine lv_if_ne (tgt := 41) C.1.1 C.1.2.1 dX9_readNumber_27 (by decide) (fun c5 => ?_) (fun c5 => ?_)
    · have hf := o_f hf c5
      exact wL_X9_readNumber_41 C hr hlk FU X q3.1 L x1 x2 (q3.1 0 4) (0 : Int32) _ _ _ hw (lv_sub hl [3, 4, 5, 1, 0] rfl) hf
    · have hf := o_t hf c5
      refine lv_aload_n C.1.1 C.1.2.1 dX9_readNumber_30 rfl (lv_at hl 3 rfl) ?_
      refine lv_iconst (v := (1 : Int32)) C.1.1 C.1.2.1 dX9_readNumber_31 rfl ?_
      refine lv_aload_n C.1.1 C.1.2.1 dX9_readNumber_32 rfl (lv_at hl 3 rfl) ?_
      refine m_get C hw iM_0_4 flX9_111 dX9_readNumber_33 ?_
      obtain ⟨q20, h20, hf⟩ := o_bind hf
      refine aft_v hw (run_VM C hw clX9_141 (As := [.int (1 : Int32), .int (q3.1 0 4)]) (rest := []) oM_0 (c_X9_wrong h20) rfl hl.1 rfl ⟨(Nat.le_of_ble_eq_true rfl), (Nat.le_of_ble_eq_true rfl)⟩ ⟨Nat.zero_le _, Nat.zero_le _⟩ rfl (Nat.le_of_ble_eq_true rfl) dX9_readNumber_36) (fun H locs hw => ?_)
      refine lv_iconst (v := (0 : Int32)) C.1.1 C.1.2.1 dX9_readNumber_39 rfl ?_
      obtain rfl := Option.some.inj hf
      exact ret_i C hr hlk hw dX9_readNumber_40
  · have hf := o_t hf c2
    refine lv_iconst (v := (0 : Int32)) C.1.1 C.1.2.1 dX9_readNumber_7 rfl ?_
    obtain rfl := Option.some.inj hf
    exact ret_i C hr hlk hw dX9_readNumber_8
end
/-! WinnerDrawsModel.sign(I)V (('o', 'M', 0) ('i',)) -/
def f_X9_sign (M : TX) (x1 : Int32) : Option (TX) := (f_X9_fine M).bind fun q1 => if q1 = 0 then ((f_X9_fine M).bind fun q3 => if q3 = 0 then (some M) else (some (u2 M 0 4 ((M 0 4) + (1 : Int32))))) else ((f_X9_here M).bind fun q5 => if q5.2 = x1 then ((f_X9_fine q5.1).bind fun q7 => if q7 = 0 then (some q5.1) else (some (u2 q5.1 0 4 ((q5.1 0 4) + (1 : Int32))))) else ((f_X9_wrong q5.1 (1 : Int32) (q5.1 0 4)).bind fun q9 => (f_X9_fine q9).bind fun q10 => if q10 = 0 then (some q9) else (some (u2 q9 0 4 ((q9 0 4) + (1 : Int32))))))
section
variable {G : GP} {l : Launch}
set_option maxRecDepth 20000 in
set_option maxHeartbeats 2000000 in
theorem c_X9_sign   {X M : TX} {L : TL} {x1 : Int32} {ro : TX} (hf : f_X9_sign M x1 = some ro) : CTv G l yX9_sign cX9_sign 2 none 1 22 [.ref (gA G (41 + 0)), .int x1] X M L X ro L := by
  unfold f_X9_sign at hf
  refine ct_of (by decide +kernel) (Nat.le_of_ble_eq_true rfl) (fun p e s m args below meth c H locs ls C hr hlk hw hl => ?_)
  have C : Cx G p s m args c cX9_sign 2 RX9 := C
  have hl : lv_has ls 2 [(0, .ref (gA G (41 + 0))), (1, .int x1)] := hl
  refine lv_aload_n C.1.1 C.1.2.1 dX9_sign_0 rfl (lv_at hl 0 rfl) ?_
  obtain ⟨q1, h1, hf⟩ := o_bind hf
  refine aft_i hw (run_VM C hw clX9_134 (As := []) (rest := []) oM_0 (c_X9_fine h1) rfl hl.1 rfl ⟨(Nat.le_of_ble_eq_true rfl), (Nat.le_of_ble_eq_true rfl)⟩ ⟨Nat.zero_le _, Nat.zero_le _⟩ rfl (Nat.le_of_ble_eq_true rfl) dX9_sign_1) (fun H locs hw => ?_)
  refine lv_if_eq (tgt := 24) C.1.1 C.1.2.1 dX9_sign_4 (by decide) (fun c2 => ?_) (fun c2 => ?_)
  · have hf := o_t hf c2
    refine lv_aload_n C.1.1 C.1.2.1 dX9_sign_24 rfl (lv_at hl 0 rfl) ?_
    obtain ⟨q3, h3, hf⟩ := o_bind hf
    refine aft_i hw (run_VM C hw clX9_134 (As := []) (rest := []) oM_0 (c_X9_fine h3) rfl hl.1 rfl ⟨(Nat.le_of_ble_eq_true rfl), (Nat.le_of_ble_eq_true rfl)⟩ ⟨Nat.zero_le _, Nat.zero_le _⟩ rfl (Nat.le_of_ble_eq_true rfl) dX9_sign_25) (fun H locs hw => ?_)
    refine lv_if_eq (tgt := 41) C.1.1 C.1.2.1 dX9_sign_28 (by decide) (fun c4 => ?_) (fun c4 => ?_)
    · have hf := o_t hf c4
      obtain rfl := Option.some.inj hf
      exact ret_v C hr hlk hw dX9_sign_41
    · have hf := o_f hf c4
      refine lv_aload_n C.1.1 C.1.2.1 dX9_sign_31 rfl (lv_at hl 0 rfl) ?_
      refine lv_dup C.1.1 C.1.2.1 dX9_sign_32 rfl ?_
      refine m_get C hw iM_0_4 flX9_111 dX9_sign_33 ?_
      refine lv_iconst (v := (1 : Int32)) C.1.1 C.1.2.1 dX9_sign_36 rfl ?_
      refine lv_iadd C.1.1 C.1.2.1 dX9_sign_37 ?_
      refine m_put C hw iM_0_4 flX9_111 dX9_sign_38 (fun H locs hw => ?_)
      obtain rfl := Option.some.inj hf
      exact ret_v C hr hlk hw dX9_sign_41
  · have hf := o_f hf c2
    refine lv_aload_n C.1.1 C.1.2.1 dX9_sign_7 rfl (lv_at hl 0 rfl) ?_
    obtain ⟨q5, h5, hf⟩ := o_bind hf
    refine aft_i hw (run_VM C hw clX9_117 (As := []) (rest := []) oM_0 (c_X9_here h5) rfl hl.1 rfl ⟨(Nat.le_of_ble_eq_true rfl), (Nat.le_of_ble_eq_true rfl)⟩ ⟨Nat.zero_le _, Nat.zero_le _⟩ rfl (Nat.le_of_ble_eq_true rfl) dX9_sign_8) (fun H locs hw => ?_)
    refine lv_iload_n C.1.1 C.1.2.1 dX9_sign_11 rfl (lv_at hl 1 rfl) ?_
    refine lv_icmp_eq (tgt := 24) C.1.1 C.1.2.1 dX9_sign_12 (by decide) (fun c6 => ?_) (fun c6 => ?_)
    · have hf := o_t hf c6
      refine lv_aload_n C.1.1 C.1.2.1 dX9_sign_24 rfl (lv_at hl 0 rfl) ?_
      obtain ⟨q7, h7, hf⟩ := o_bind hf
      refine aft_i hw (run_VM C hw clX9_134 (As := []) (rest := []) oM_0 (c_X9_fine h7) rfl hl.1 rfl ⟨(Nat.le_of_ble_eq_true rfl), (Nat.le_of_ble_eq_true rfl)⟩ ⟨Nat.zero_le _, Nat.zero_le _⟩ rfl (Nat.le_of_ble_eq_true rfl) dX9_sign_25) (fun H locs hw => ?_)
      refine lv_if_eq (tgt := 41) C.1.1 C.1.2.1 dX9_sign_28 (by decide) (fun c8 => ?_) (fun c8 => ?_)
      · have hf := o_t hf c8
        obtain rfl := Option.some.inj hf
        exact ret_v C hr hlk hw dX9_sign_41
      · have hf := o_f hf c8
        refine lv_aload_n C.1.1 C.1.2.1 dX9_sign_31 rfl (lv_at hl 0 rfl) ?_
        refine lv_dup C.1.1 C.1.2.1 dX9_sign_32 rfl ?_
        refine m_get C hw iM_0_4 flX9_111 dX9_sign_33 ?_
        refine lv_iconst (v := (1 : Int32)) C.1.1 C.1.2.1 dX9_sign_36 rfl ?_
        refine lv_iadd C.1.1 C.1.2.1 dX9_sign_37 ?_
        refine m_put C hw iM_0_4 flX9_111 dX9_sign_38 (fun H locs hw => ?_)
        obtain rfl := Option.some.inj hf
        exact ret_v C hr hlk hw dX9_sign_41
    · have hf := o_f hf c6
      refine lv_aload_n C.1.1 C.1.2.1 dX9_sign_15 rfl (lv_at hl 0 rfl) ?_
      refine lv_iconst (v := (1 : Int32)) C.1.1 C.1.2.1 dX9_sign_16 rfl ?_
      refine lv_aload_n C.1.1 C.1.2.1 dX9_sign_17 rfl (lv_at hl 0 rfl) ?_
      refine m_get C hw iM_0_4 flX9_111 dX9_sign_18 ?_
      obtain ⟨q9, h9, hf⟩ := o_bind hf
      refine aft_v hw (run_VM C hw clX9_141 (As := [.int (1 : Int32), .int (q5.1 0 4)]) (rest := []) oM_0 (c_X9_wrong h9) rfl hl.1 rfl ⟨(Nat.le_of_ble_eq_true rfl), (Nat.le_of_ble_eq_true rfl)⟩ ⟨Nat.zero_le _, Nat.zero_le _⟩ rfl (Nat.le_of_ble_eq_true rfl) dX9_sign_21) (fun H locs hw => ?_)
      refine lv_aload_n C.1.1 C.1.2.1 dX9_sign_24 rfl (lv_at hl 0 rfl) ?_
      obtain ⟨q10, h10, hf⟩ := o_bind hf
      refine aft_i hw (run_VM C hw clX9_134 (As := []) (rest := []) oM_0 (c_X9_fine h10) rfl hl.1 rfl ⟨(Nat.le_of_ble_eq_true rfl), (Nat.le_of_ble_eq_true rfl)⟩ ⟨Nat.zero_le _, Nat.zero_le _⟩ rfl (Nat.le_of_ble_eq_true rfl) dX9_sign_25) (fun H locs hw => ?_)
      refine lv_if_eq (tgt := 41) C.1.1 C.1.2.1 dX9_sign_28 (by decide) (fun c11 => ?_) (fun c11 => ?_)
      · have hf := o_t hf c11
        obtain rfl := Option.some.inj hf
        exact ret_v C hr hlk hw dX9_sign_41
      · have hf := o_f hf c11
        refine lv_aload_n C.1.1 C.1.2.1 dX9_sign_31 rfl (lv_at hl 0 rfl) ?_
        refine lv_dup C.1.1 C.1.2.1 dX9_sign_32 rfl ?_
        refine m_get C hw iM_0_4 flX9_111 dX9_sign_33 ?_
        refine lv_iconst (v := (1 : Int32)) C.1.1 C.1.2.1 dX9_sign_36 rfl ?_
        refine lv_iadd C.1.1 C.1.2.1 dX9_sign_37 ?_
        refine m_put C hw iM_0_4 flX9_111 dX9_sign_38 (fun H locs hw => ?_)
        obtain rfl := Option.some.inj hf
        exact ret_v C hr hlk hw dX9_sign_41
end
/-! WinnerDrawsModel.isMore()Z (('o', 'M', 0)) -/
def f_X9_isMore (M : TX) : Option (TX × Int32) := (f_X9_here M).bind fun q1 => if (q1.1 0 3) ≤ (q1.1 0 4) then (some (q1.1, (0 : Int32))) else (some (q1.1, (1 : Int32)))
section
variable {G : GP} {l : Launch}
set_option maxRecDepth 20000 in
set_option maxHeartbeats 2000000 in
theorem c_X9_isMore   {X M : TX} {L : TL}  {ro : TX × Int32} (hf : f_X9_isMore M = some ro) : CTi G l yX9_isMore cX9_isMore 1 (some .boolean) 1 20 [.ref (gA G (41 + 0))] X M L X ro.1 L ro.2 := by
  unfold f_X9_isMore at hf
  refine ct_of (by decide +kernel) (Nat.le_of_ble_eq_true rfl) (fun p e s m args below meth c H locs ls C hr hlk hw hl => ?_)
  have C : Cx G p s m args c cX9_isMore 1 RX9 := C
  have hl : lv_has ls 1 [(0, .ref (gA G (41 + 0)))] := hl
  refine lv_aload_n C.1.1 C.1.2.1 dX9_isMore_0 rfl (lv_at hl 0 rfl) ?_
  obtain ⟨q1, h1, hf⟩ := o_bind hf
  refine aft_i hw (run_VM C hw clX9_117 (As := []) (rest := []) oM_0 (c_X9_here h1) rfl hl.1 rfl ⟨(Nat.le_of_ble_eq_true rfl), (Nat.le_of_ble_eq_true rfl)⟩ ⟨Nat.zero_le _, Nat.zero_le _⟩ rfl (Nat.le_of_ble_eq_true rfl) dX9_isMore_1) (fun H locs hw => ?_)
  refine lv_pop C.1.1 C.1.2.1 dX9_isMore_4 rfl ?_
  refine lv_aload_n C.1.1 C.1.2.1 dX9_isMore_5 rfl (lv_at hl 0 rfl) ?_
  refine m_get C hw iM_0_4 flX9_111 dX9_isMore_6 ?_
  refine lv_aload_n C.1.1 C.1.2.1 dX9_isMore_9 rfl (lv_at hl 0 rfl) ?_
  refine m_get C hw iM_0_3 flX9_114 dX9_isMore_10 ?_
  refine lv_icmp_ge (tgt := 20) C.1.1 C.1.2.1 dX9_isMore_13 (by decide) (fun c2 => ?_) (fun c2 => ?_)
  · have hf := o_t hf c2
    refine lv_iconst (v := (0 : Int32)) C.1.1 C.1.2.1 dX9_isMore_20 rfl ?_
    obtain rfl := Option.some.inj hf
    exact ret_z (r := (0 : Int32)) C hr hlk hw rfl dX9_isMore_21
  · have hf := o_f hf c2
    refine lv_iconst (v := (1 : Int32)) C.1.1 C.1.2.1 dX9_isMore_16 rfl ?_
    refine lv_goto (tgt := 21) C.1.1 C.1.2.1 dX9_isMore_17 (by decide) ?_
    obtain rfl := Option.some.inj hf
    exact ret_z (r := (1 : Int32)) C hr hlk hw rfl dX9_isMore_21
end
/-! WinnerDrawsModel.begins(I)V (('o', 'M', 0) ('i',)) -/
def f_X9_begins (M : TX) (x1 : Int32) : Option (TX) := some (u2 (u2 (u2 (u2 (u2 (u2 M 0 2 (0 : Int32)) 0 8 (-1 : Int32)) 0 3 x1) 0 4 (0 : Int32)) 0 5 (-1 : Int32)) 0 7 (0 : Int32))
section
variable {G : GP} {l : Launch}
set_option maxRecDepth 20000 in
set_option maxHeartbeats 2000000 in
theorem c_X9_begins   {X M : TX} {L : TL} {x1 : Int32} {ro : TX} (hf : f_X9_begins M x1 = some ro) : CTv G l yX9_begins cX9_begins 2 none 0 0 [.ref (gA G (41 + 0)), .int x1] X M L X ro L := by
  unfold f_X9_begins at hf
  refine ct_of (by decide +kernel) (Nat.le_of_ble_eq_true rfl) (fun p e s m args below meth c H locs ls C hr hlk hw hl => ?_)
  have C : Cx G p s m args c cX9_begins 2 RX9 := C
  have hl : lv_has ls 2 [(0, .ref (gA G (41 + 0))), (1, .int x1)] := hl
  refine lv_aload_n C.1.1 C.1.2.1 dX9_begins_0 rfl (lv_at hl 0 rfl) ?_
  refine lv_iconst (v := (0 : Int32)) C.1.1 C.1.2.1 dX9_begins_1 rfl ?_
  refine m_put C hw iM_0_2 flX9_102 dX9_begins_2 (fun H locs hw => ?_)
  refine lv_aload_n C.1.1 C.1.2.1 dX9_begins_5 rfl (lv_at hl 0 rfl) ?_
  refine lv_iconst (v := (-1 : Int32)) C.1.1 C.1.2.1 dX9_begins_6 rfl ?_
  refine m_put C hw iM_0_8 flX9_17 dX9_begins_7 (fun H locs hw => ?_)
  refine lv_aload_n C.1.1 C.1.2.1 dX9_begins_10 rfl (lv_at hl 0 rfl) ?_
  refine lv_iload_n C.1.1 C.1.2.1 dX9_begins_11 rfl (lv_at hl 1 rfl) ?_
  refine m_put C hw iM_0_3 flX9_114 dX9_begins_12 (fun H locs hw => ?_)
  refine lv_aload_n C.1.1 C.1.2.1 dX9_begins_15 rfl (lv_at hl 0 rfl) ?_
  refine lv_iconst (v := (0 : Int32)) C.1.1 C.1.2.1 dX9_begins_16 rfl ?_
  refine m_put C hw iM_0_4 flX9_111 dX9_begins_17 (fun H locs hw => ?_)
  refine lv_aload_n C.1.1 C.1.2.1 dX9_begins_20 rfl (lv_at hl 0 rfl) ?_
  refine lv_iconst (v := (-1 : Int32)) C.1.1 C.1.2.1 dX9_begins_21 rfl ?_
  refine m_put C hw iM_0_5 flX9_105 dX9_begins_22 (fun H locs hw => ?_)
  refine lv_aload_n C.1.1 C.1.2.1 dX9_begins_25 rfl (lv_at hl 0 rfl) ?_
  refine lv_iconst (v := (0 : Int32)) C.1.1 C.1.2.1 dX9_begins_26 rfl ?_
  refine m_put C hw iM_0_7 flX9_145 dX9_begins_27 (fun H locs hw => ?_)
  obtain rfl := Option.some.inj hf
  exact ret_v C hr hlk hw dX9_begins_30
end
