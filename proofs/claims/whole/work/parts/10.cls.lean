/-! WinnerDraws.put([III)V (('a', 'X') ('i',) ('i',)) -/
def f_X8_put (k0 : Nat) (X : TX) (x1 : Int32) (x2 : Int32) : Option (TX) := if x1 < 0 then (some X) else (if (nI (lenX k0)) ≤ x1 then (some X) else (if inb x1 (lenX k0) = true then (some (u2 X k0 (Int32.toNatClampNeg x1) x2)) else none))
section
variable {G : GP} {l : Launch}
set_option maxRecDepth 20000 in
set_option maxHeartbeats 2000000 in
theorem c_X8_put  {k0 : Nat} (hk0 : AX k0 (lenX k0)) {X M : TX} {L : TL} {x1 : Int32} {x2 : Int32} {ro : TX} (hf : f_X8_put k0 X x1 x2 = some ro) : CTv G l yX8_put cX8_put 3 none 0 0 [.ref (gA G k0), .int x1, .int x2] X M L ro M L := by
  unfold f_X8_put at hf
  refine ct_of (by decide +kernel) (Nat.le_of_ble_eq_true rfl) (fun p e s m args below meth c H locs ls C hr hlk hw hl => ?_)
  have C : Cx G p s m args c cX8_put 3 RX8 := C
  have hl : lv_has ls 3 [(0, .ref (gA G k0)), (1, .int x1), (2, .int x2)] := hl
  refine lv_iload_n C.1.1 C.1.2.1 dX8_put_0 rfl (lv_at hl 1 rfl) ?_
  refine lv_if_lt (tgt := 14) C.1.1 C.1.2.1 dX8_put_1 (by decide) (fun c1 => ?_) (fun c1 => ?_)
  · have hf := o_t hf c1
    obtain rfl := Option.some.inj hf
    exact ret_v C hr hlk hw dX8_put_14
  · have hf := o_f hf c1
    refine lv_iload_n C.1.1 C.1.2.1 dX8_put_4 rfl (lv_at hl 1 rfl) ?_
    refine lv_aload_n C.1.1 C.1.2.1 dX8_put_5 rfl (lv_at hl 0 rfl) ?_
    refine x_alen C hw hk0 dX8_put_6 ?_
    refine lv_icmp_ge (tgt := 14) C.1.1 C.1.2.1 dX8_put_7 (by decide) (fun c2 => ?_) (fun c2 => ?_)
    · have hf := o_t hf c2
      obtain rfl := Option.some.inj hf
      exact ret_v C hr hlk hw dX8_put_14
    · have hf := o_f hf c2
      refine lv_aload_n C.1.1 C.1.2.1 dX8_put_10 rfl (lv_at hl 0 rfl) ?_
      refine lv_iload_n C.1.1 C.1.2.1 dX8_put_11 rfl (lv_at hl 1 rfl) ?_
      refine lv_iload_n C.1.1 C.1.2.1 dX8_put_12 rfl (lv_at hl 2 rfl) ?_
      have g3 := inb_in (o_g hf).1
      have hf := (o_g hf).2
      refine x_ast C hw hk0 g3 dX8_put_13 (fun H locs hw => ?_)
      obtain rfl := Option.some.inj hf
      exact ret_v C hr hlk hw dX8_put_14
end
/-! WinnerDraws$Text.add(I)V (('o', 'X', 1) ('i',)) -/
def L_X7_add_3 : Nat → TX → Int32 → Int32 → Option (TX)
  | 0 => fun _ _ _ => none
  | n + 1 => fun X x1 x2 => if x2 < 0 then (some X) else ((f_X8_put 2 X (X 1 1) ((((Int32.toUInt32 x1) >>> ((Int32.toUInt32 x2) &&& Int32.toUInt32 31)).toInt32) &&& (255 : Int32))).bind fun q2 => (L_X7_add_3 n) (u2 q2 1 1 ((q2 1 1) + (1 : Int32))) x1 (x2 + (-8 : Int32)))
def f_X7_add (X : TX) (x1 : Int32) : Option (TX) := L_X7_add_3 FU X x1 (24 : Int32)
section
variable {G : GP} {l : Launch}
set_option maxRecDepth 20000 in
set_option maxHeartbeats 2000000 in
theorem wL_X7_add_3 {p : Program} {e : Env} {s : State} {m : MethodId} {args : Array Value} {below : List Frame} {meth : Method} {c : Code} (C : Cx G p s m args c cX7_add 3 RX7) (hr : meth.sig.returnType = none) (hlk : meth.locks = false) {ro : TX} : ∀ (n : Nat), ∀ (X : TX) (M : TX) (L : TL) (x1 : Int32) (x2 : Int32) (H : Heap) (locs : List Loc) (ls : Array Slot), Wh G s X M L H locs → lv_has ls 3 [(0, .ref (gA G 1)), (1, .int x1), (2, .int x2)] → L_X7_add_3 n X x1 x2 = some ro → W p l e (rz 1 22) s m args below meth c H locs 0 0 (MQ below (Dv G ro M L) args s 0 0 (AB G)) (F0 m 3 ls []) := by
  intro n
  induction n with
  | zero =>
    intro X M L x1 x2 H locs ls hw hl hf
    cases hf
  | succ n hk_3 =>
    intro X M L x1 x2 H locs ls hw hl hf
    rw [L_X7_add_3] at hf
    refine lv_iload_n C.1.1 C.1.2.1 dX7_add_3 rfl (lv_at hl 2 rfl) ?_
    refine lv_if_lt (tgt := 41) C.1.1 C.1.2.1 dX7_add_4 (by decide) (fun c1 => ?_) (fun c1 => ?_)
    · have hf := o_t hf c1
      obtain rfl := Option.some.inj hf
      exact ret_v C hr hlk hw dX7_add_41
    · have hf := o_f hf c1
      refine lv_aload_n C.1.1 C.1.2.1 dX7_add_7 rfl (lv_at hl 0 rfl) ?_
      refine x_ref C hw fX_1_0 flX7_9 dX7_add_8 ?_
      refine lv_aload_n C.1.1 C.1.2.1 dX7_add_11 rfl (lv_at hl 0 rfl) ?_
      refine x_get C hw iX_1_1 flX7_19 dX7_add_12 ?_
      refine lv_iload_n C.1.1 C.1.2.1 dX7_add_15 rfl (lv_at hl 1 rfl) ?_
      refine lv_iload_n C.1.1 C.1.2.1 dX7_add_16 rfl (lv_at hl 2 rfl) ?_
      refine lv_iushr (v := (((Int32.toUInt32 x1) >>> ((Int32.toUInt32 x2) &&& Int32.toUInt32 31)).toInt32)) C.1.1 C.1.2.1 dX7_add_17 rfl ?_
      refine lv_sipush (v := (255 : Int32)) C.1.1 C.1.2.1 dX7_add_18 rfl ?_
      refine lv_iand C.1.1 C.1.2.1 dX7_add_21 ?_
      obtain ⟨q2, h2, hf⟩ := o_bind hf
      refine aft_v hw (run_S C hw clX7_22 (As := [.ref (gA G 2), .int (X 1 1), .int ((((Int32.toUInt32 x1) >>> ((Int32.toUInt32 x2) &&& Int32.toUInt32 31)).toInt32) &&& (255 : Int32))]) (rest := []) (c_X8_put aX_2 h2) hl.1 rfl ⟨(Nat.le_of_ble_eq_true rfl), (Nat.le_of_ble_eq_true rfl)⟩ ⟨Nat.zero_le _, Nat.zero_le _⟩ rfl (Nat.le_of_ble_eq_true rfl) dX7_add_22) (fun H locs hw => ?_)
      refine lv_aload_n C.1.1 C.1.2.1 dX7_add_25 rfl (lv_at hl 0 rfl) ?_
      refine lv_dup C.1.1 C.1.2.1 dX7_add_26 rfl ?_
      refine x_get C hw iX_1_1 flX7_19 dX7_add_27 ?_
      refine lv_iconst (v := (1 : Int32)) C.1.1 C.1.2.1 dX7_add_30 rfl ?_
      refine lv_iadd C.1.1 C.1.2.1 dX7_add_31 ?_
      refine x_put C hw iX_1_1 flX7_19 dX7_add_32 (fun H locs hw => ?_)
      refine lv_iinc (v := (x2 + (-8 : Int32))) (lv' := [(2, .int (x2 + (-8 : Int32))), (0, .ref (gA G 1)), (1, .int x1)]) C.1.1 C.1.2.1 dX7_add_35 hl (k := 2) rfl rfl (by decide) rfl (fun ls hl => ?_)
      refine lv_goto (tgt := 3) C.1.1 C.1.2.1 dX7_add_38 (by decide) ?_
      exact hk_3 (u2 q2 1 1 ((q2 1 1) + (1 : Int32))) M L x1 (x2 + (-8 : Int32)) _ _ _ hw (lv_sub hl [1, 2, 0] rfl) hf
set_option maxRecDepth 20000 in
set_option maxHeartbeats 2000000 in
theorem c_X7_add   {X M : TX} {L : TL} {x1 : Int32} {ro : TX} (hf : f_X7_add X x1 = some ro) : CTv G l yX7_add cX7_add 3 none 1 22 [.ref (gA G 1), .int x1] X M L ro M L := by
  unfold f_X7_add at hf
  refine ct_of (by decide +kernel) (Nat.le_of_ble_eq_true rfl) (fun p e s m args below meth c H locs ls C hr hlk hw hl => ?_)
  have C : Cx G p s m args c cX7_add 3 RX7 := C
  have hl : lv_has ls 3 [(0, .ref (gA G 1)), (1, .int x1)] := hl
  refine lv_bipush (v := (24 : Int32)) C.1.1 C.1.2.1 dX7_add_0 rfl ?_
  refine lv_istore_n (lv' := [(2, .int (24 : Int32)), (0, .ref (gA G 1)), (1, .int x1)]) C.1.1 C.1.2.1 dX7_add_2 rfl hl (by decide) rfl (fun ls hl => ?_)
  exact wL_X7_add_3 C hr hlk FU X M L x1 (24 : Int32) _ _ _ hw (lv_sub hl [1, 2, 0] rfl) hf
end
/-! WinnerDraws.feed(IIIII)I (('o', 'X', 0) ('i',) ('i',) ('i',) ('i',) ('i',)) -/
def f_X8_feed (X : TX) (x1 : Int32) (x2 : Int32) (x3 : Int32) (x4 : Int32) (x5 : Int32) : Option (TX × Int32) := if (X 1 1) ≤ (580 : Int32) then ((f_X7_add X x1).bind fun q2 => (f_X7_add q2 x2).bind fun q3 => (f_X7_add q3 x3).bind fun q4 => (f_X7_add q4 x4).bind fun q5 => (f_X7_add q5 x5).bind fun q6 => some (q6, (q6 1 1))) else (some (X, (-1 : Int32)))
section
variable {G : GP} {l : Launch}
set_option maxRecDepth 20000 in
set_option maxHeartbeats 2000000 in
theorem c_X8_feed   {X M : TX} {L : TL} {x1 : Int32} {x2 : Int32} {x3 : Int32} {x4 : Int32} {x5 : Int32} {ro : TX × Int32} (hf : f_X8_feed X x1 x2 x3 x4 x5 = some ro) : CTi G l yX8_feed cX8_feed 6 (some .int) 2 44 [.ref (gA G 0), .int x1, .int x2, .int x3, .int x4, .int x5] X M L ro.1 M L ro.2 := by
  unfold f_X8_feed at hf
  refine ct_of (by decide +kernel) (Nat.le_of_ble_eq_true rfl) (fun p e s m args below meth c H locs ls C hr hlk hw hl => ?_)
  have C : Cx G p s m args c cX8_feed 6 RX8 := C
  have hl : lv_has ls 6 [(0, .ref (gA G 0)), (1, .int x1), (2, .int x2), (3, .int x3), (4, .int x4), (5, .int x5)] := hl
  refine lv_aload_n C.1.1 C.1.2.1 dX8_feed_0 rfl (lv_at hl 0 rfl) ?_
  refine x_ref C hw fX_0_0 flX8_12 dX8_feed_1 ?_
  refine x_get C hw iX_1_1 flX8_78 dX8_feed_4 ?_
  refine lv_sipush (v := (580 : Int32)) C.1.1 C.1.2.1 dX8_feed_7 rfl ?_
  refine lv_icmp_le (tgt := 15) C.1.1 C.1.2.1 dX8_feed_10 (by decide) (fun c1 => ?_) (fun c1 => ?_)
  · have hf := o_t hf c1
    refine lv_aload_n C.1.1 C.1.2.1 dX8_feed_15 rfl (lv_at hl 0 rfl) ?_
    refine x_ref C hw fX_0_0 flX8_12 dX8_feed_16 ?_
    refine lv_iload_n C.1.1 C.1.2.1 dX8_feed_19 rfl (lv_at hl 1 rfl) ?_
    obtain ⟨q2, h2, hf⟩ := o_bind hf
    refine aft_v hw (run_VX C hw clX8_82 (As := [.int x1]) (rest := []) oX_1 (c_X7_add h2) rfl hl.1 rfl ⟨(Nat.le_of_ble_eq_true rfl), (Nat.le_of_ble_eq_true rfl)⟩ ⟨Nat.zero_le _, Nat.zero_le _⟩ rfl (Nat.le_of_ble_eq_true rfl) dX8_feed_20) (fun H locs hw => ?_)
    refine lv_aload_n C.1.1 C.1.2.1 dX8_feed_23 rfl (lv_at hl 0 rfl) ?_
    refine x_ref C hw fX_0_0 flX8_12 dX8_feed_24 ?_
    refine lv_iload_n C.1.1 C.1.2.1 dX8_feed_27 rfl (lv_at hl 2 rfl) ?_
    obtain ⟨q3, h3, hf⟩ := o_bind hf
    refine aft_v hw (run_VX C hw clX8_82 (As := [.int x2]) (rest := []) oX_1 (c_X7_add h3) rfl hl.1 rfl ⟨(Nat.le_of_ble_eq_true rfl), (Nat.le_of_ble_eq_true rfl)⟩ ⟨Nat.zero_le _, Nat.zero_le _⟩ rfl (Nat.le_of_ble_eq_true rfl) dX8_feed_28) (fun H locs hw => ?_)
    refine lv_aload_n C.1.1 C.1.2.1 dX8_feed_31 rfl (lv_at hl 0 rfl) ?_
    refine x_ref C hw fX_0_0 flX8_12 dX8_feed_32 ?_
    refine lv_iload_n C.1.1 C.1.2.1 dX8_feed_35 rfl (lv_at hl 3 rfl) ?_
    obtain ⟨q4, h4, hf⟩ := o_bind hf
    refine aft_v hw (run_VX C hw clX8_82 (As := [.int x3]) (rest := []) oX_1 (c_X7_add h4) rfl hl.1 rfl ⟨(Nat.le_of_ble_eq_true rfl), (Nat.le_of_ble_eq_true rfl)⟩ ⟨Nat.zero_le _, Nat.zero_le _⟩ rfl (Nat.le_of_ble_eq_true rfl) dX8_feed_36) (fun H locs hw => ?_)
    refine lv_aload_n C.1.1 C.1.2.1 dX8_feed_39 rfl (lv_at hl 0 rfl) ?_
    refine x_ref C hw fX_0_0 flX8_12 dX8_feed_40 ?_
    refine lv_iload C.1.1 C.1.2.1 dX8_feed_43 (lv_at hl 4 rfl) ?_
    obtain ⟨q5, h5, hf⟩ := o_bind hf
    refine aft_v hw (run_VX C hw clX8_82 (As := [.int x4]) (rest := []) oX_1 (c_X7_add h5) rfl hl.1 rfl ⟨(Nat.le_of_ble_eq_true rfl), (Nat.le_of_ble_eq_true rfl)⟩ ⟨Nat.zero_le _, Nat.zero_le _⟩ rfl (Nat.le_of_ble_eq_true rfl) dX8_feed_45) (fun H locs hw => ?_)
    refine lv_aload_n C.1.1 C.1.2.1 dX8_feed_48 rfl (lv_at hl 0 rfl) ?_
    refine x_ref C hw fX_0_0 flX8_12 dX8_feed_49 ?_
    refine lv_iload C.1.1 C.1.2.1 dX8_feed_52 (lv_at hl 5 rfl) ?_
    obtain ⟨q6, h6, hf⟩ := o_bind hf
    refine aft_v hw (run_VX C hw clX8_82 (As := [.int x5]) (rest := []) oX_1 (c_X7_add h6) rfl hl.1 rfl ⟨(Nat.le_of_ble_eq_true rfl), (Nat.le_of_ble_eq_true rfl)⟩ ⟨Nat.zero_le _, Nat.zero_le _⟩ rfl (Nat.le_of_ble_eq_true rfl) dX8_feed_54) (fun H locs hw => ?_)
    refine lv_aload_n C.1.1 C.1.2.1 dX8_feed_57 rfl (lv_at hl 0 rfl) ?_
    refine x_ref C hw fX_0_0 flX8_12 dX8_feed_58 ?_
    refine x_get C hw iX_1_1 flX8_78 dX8_feed_61 ?_
    obtain rfl := Option.some.inj hf
    exact ret_i C hr hlk hw dX8_feed_64
  · have hf := o_f hf c1
    refine lv_iconst (v := (-1 : Int32)) C.1.1 C.1.2.1 dX8_feed_13 rfl ?_
    obtain rfl := Option.some.inj hf
    exact ret_i C hr hlk hw dX8_feed_14
end
/-! WinnerDraws.need(Z)V (('o', 'X', 0) ('i',)) -/
def f_X8_need (X : TX) (x1 : Int32) : Option (TX × (Unit ⊕ Nat)) := if x1 = 0 then (some ((u2 X 0 13 ((X 0 13) + (1 : Int32))), .inr 1)) else (some (X, .inl ()))
section
variable {G : GP} {l : Launch}
set_option maxRecDepth 20000 in
set_option maxHeartbeats 2000000 in
theorem c_X8_need (hst : l.stackTraces = false)  {X M : TX} {L : TL} {x1 : Int32} {ro : TX × (Unit ⊕ Nat)} (hf : f_X8_need X x1 = some ro) : CXv G l yX8_need cX8_need 2 none 6 120 1 [.ref (gA G 0), .int x1] X M L ro := by
  unfold f_X8_need at hf
  refine cx_of (by decide +kernel) (Nat.le_of_ble_eq_true rfl) (fun p e s m args below meth c H locs ls C hr hlk hnt hw hl => ?_)
  have C : Cx G p s m args c cX8_need 2 RX8 := C
  have hl : lv_has ls 2 [(0, .ref (gA G 0)), (1, .int x1)] := hl
  refine lv_iload_n C.1.1 C.1.2.1 dX8_need_0 rfl (lv_at hl 1 rfl) ?_
  refine lv_if_ne (tgt := 22) C.1.1 C.1.2.1 dX8_need_1 (by decide) (fun c1 => ?_) (fun c1 => ?_)
  · have hf := o_f hf c1
    exact retx_v C hr hlk hw (Option.some.inj hf).symm (Nat.le_of_ble_eq_true rfl) (Nat.le_of_ble_eq_true rfl) dX8_need_22
  · have hf := o_t hf c1
    refine lv_aload_n C.1.1 C.1.2.1 dX8_need_4 rfl (lv_at hl 0 rfl) ?_
    refine lv_dup C.1.1 C.1.2.1 dX8_need_5 rfl ?_
    refine x_get C hw iX_0_13 flX8_372 dX8_need_6 ?_
    refine lv_iconst (v := (1 : Int32)) C.1.1 C.1.2.1 dX8_need_9 rfl ?_
    refine lv_iadd C.1.1 C.1.2.1 dX8_need_10 ?_
    refine x_put C hw iX_0_13 flX8_372 dX8_need_11 (fun H locs hw => ?_)
    exact x_throw1 C hst hw (Option.some.inj hf).symm hl.1 dX8_need_14 dX8_need_17 dX8_need_18 dX8_need_21 hnt ⟨Nat.le_of_ble_eq_true rfl, Nat.le_of_ble_eq_true rfl, Nat.le_of_ble_eq_true rfl, Nat.le_of_ble_eq_true rfl⟩ hlk (Nat.le_of_ble_eq_true rfl) (Nat.le_of_ble_eq_true rfl)
end
/-! WinnerDraws.needText(II)V (('o', 'X', 0) ('i',) ('i',)) -/
def f_X8_needText (X : TX) (x1 : Int32) (x2 : Int32) : Option (TX × (Unit ⊕ Nat)) := if x1 < 0 then ((f_X8_need X (0 : Int32)).bind fun q2 => xb q2 (fun _ _ => some (q2.1, .inl ()))) else (if x2 < x1 then ((f_X8_need X (0 : Int32)).bind fun q4 => xb q4 (fun _ _ => some (q4.1, .inl ()))) else (if (X 1 1) < x1 then ((f_X8_need X (0 : Int32)).bind fun q6 => xb q6 (fun _ _ => some (q6.1, .inl ()))) else ((f_X8_need X (1 : Int32)).bind fun q7 => xb q7 (fun _ _ => some (q7.1, .inl ())))))
section
variable {G : GP} {l : Launch}
set_option maxRecDepth 20000 in
set_option maxHeartbeats 2000000 in
theorem c_X8_needText (hst : l.stackTraces = false)  {X M : TX} {L : TL} {x1 : Int32} {x2 : Int32} {ro : TX × (Unit ⊕ Nat)} (hf : f_X8_needText X x1 x2 = some ro) : CXv G l yX8_needText cX8_needText 3 none 7 141 1 [.ref (gA G 0), .int x1, .int x2] X M L ro := by
  unfold f_X8_needText at hf
  refine cx_of (by decide +kernel) (Nat.le_of_ble_eq_true rfl) (fun p e s m args below meth c H locs ls C hr hlk hnt hw hl => ?_)
  have C : Cx G p s m args c cX8_needText 3 RX8 := C
  have hl : lv_has ls 3 [(0, .ref (gA G 0)), (1, .int x1), (2, .int x2)] := hl
  refine lv_aload_n C.1.1 C.1.2.1 dX8_needText_0 rfl (lv_at hl 0 rfl) ?_
  refine lv_iload_n C.1.1 C.1.2.1 dX8_needText_1 rfl (lv_at hl 1 rfl) ?_
  refine lv_if_lt (tgt := 25) C.1.1 C.1.2.1 dX8_needText_2 (by decide) (fun c1 => ?_) (fun c1 => ?_)
  · have hf := o_t hf c1
    refine lv_iconst (v := (0 : Int32)) C.1.1 C.1.2.1 dX8_needText_25 rfl ?_
    obtain ⟨q2, h2, hf⟩ := o_bind hf
    refine aftx_v hw (runx_VX C hw clX8_158 (tb2 212 rfl rfl) (As := [.int (0 : Int32)]) (rest := []) oX_0 (c_X8_need hst h2) rfl hl.1 rfl ⟨(Nat.le_of_ble_eq_true rfl), (Nat.le_of_ble_eq_true rfl)⟩ ⟨Nat.le_of_ble_eq_true rfl, Nat.le_of_ble_eq_true rfl⟩ rfl (Nat.le_of_ble_eq_true rfl) dX8_needText_26) hf hnt hlk (Nat.le_of_ble_eq_true rfl) (Nat.le_of_ble_eq_true rfl) (fun hf H locs hw => ?_)
    exact retx_v C hr hlk hw (Option.some.inj hf).symm (Nat.le_of_ble_eq_true rfl) (Nat.le_of_ble_eq_true rfl) dX8_needText_29
  · have hf := o_f hf c1
    refine lv_iload_n C.1.1 C.1.2.1 dX8_needText_5 rfl (lv_at hl 1 rfl) ?_
    refine lv_iload_n C.1.1 C.1.2.1 dX8_needText_6 rfl (lv_at hl 2 rfl) ?_
    refine lv_icmp_gt (tgt := 25) C.1.1 C.1.2.1 dX8_needText_7 (by decide) (fun c3 => ?_) (fun c3 => ?_)
    · have hf := o_t hf c3
      refine lv_iconst (v := (0 : Int32)) C.1.1 C.1.2.1 dX8_needText_25 rfl ?_
      obtain ⟨q4, h4, hf⟩ := o_bind hf
      refine aftx_v hw (runx_VX C hw clX8_158 (tb2 212 rfl rfl) (As := [.int (0 : Int32)]) (rest := []) oX_0 (c_X8_need hst h4) rfl hl.1 rfl ⟨(Nat.le_of_ble_eq_true rfl), (Nat.le_of_ble_eq_true rfl)⟩ ⟨Nat.le_of_ble_eq_true rfl, Nat.le_of_ble_eq_true rfl⟩ rfl (Nat.le_of_ble_eq_true rfl) dX8_needText_26) hf hnt hlk (Nat.le_of_ble_eq_true rfl) (Nat.le_of_ble_eq_true rfl) (fun hf H locs hw => ?_)
      exact retx_v C hr hlk hw (Option.some.inj hf).symm (Nat.le_of_ble_eq_true rfl) (Nat.le_of_ble_eq_true rfl) dX8_needText_29
    · have hf := o_f hf c3
      refine lv_iload_n C.1.1 C.1.2.1 dX8_needText_10 rfl (lv_at hl 1 rfl) ?_
      refine lv_aload_n C.1.1 C.1.2.1 dX8_needText_11 rfl (lv_at hl 0 rfl) ?_
      refine x_ref C hw fX_0_0 flX8_12 dX8_needText_12 ?_
      refine x_get C hw iX_1_1 flX8_78 dX8_needText_15 ?_
      refine lv_icmp_gt (tgt := 25) C.1.1 C.1.2.1 dX8_needText_18 (by decide) (fun c5 => ?_) (fun c5 => ?_)
      · have hf := o_t hf c5
        refine lv_iconst (v := (0 : Int32)) C.1.1 C.1.2.1 dX8_needText_25 rfl ?_
        obtain ⟨q6, h6, hf⟩ := o_bind hf
        refine aftx_v hw (runx_VX C hw clX8_158 (tb2 212 rfl rfl) (As := [.int (0 : Int32)]) (rest := []) oX_0 (c_X8_need hst h6) rfl hl.1 rfl ⟨(Nat.le_of_ble_eq_true rfl), (Nat.le_of_ble_eq_true rfl)⟩ ⟨Nat.le_of_ble_eq_true rfl, Nat.le_of_ble_eq_true rfl⟩ rfl (Nat.le_of_ble_eq_true rfl) dX8_needText_26) hf hnt hlk (Nat.le_of_ble_eq_true rfl) (Nat.le_of_ble_eq_true rfl) (fun hf H locs hw => ?_)
        exact retx_v C hr hlk hw (Option.some.inj hf).symm (Nat.le_of_ble_eq_true rfl) (Nat.le_of_ble_eq_true rfl) dX8_needText_29
      · have hf := o_f hf c5
        refine lv_iconst (v := (1 : Int32)) C.1.1 C.1.2.1 dX8_needText_21 rfl ?_
        refine lv_goto (tgt := 26) C.1.1 C.1.2.1 dX8_needText_22 (by decide) ?_
        obtain ⟨q7, h7, hf⟩ := o_bind hf
        refine aftx_v hw (runx_VX C hw clX8_158 (tb2 212 rfl rfl) (As := [.int (1 : Int32)]) (rest := []) oX_0 (c_X8_need hst h7) rfl hl.1 rfl ⟨(Nat.le_of_ble_eq_true rfl), (Nat.le_of_ble_eq_true rfl)⟩ ⟨Nat.le_of_ble_eq_true rfl, Nat.le_of_ble_eq_true rfl⟩ rfl (Nat.le_of_ble_eq_true rfl) dX8_needText_26) hf hnt hlk (Nat.le_of_ble_eq_true rfl) (Nat.le_of_ble_eq_true rfl) (fun hf H locs hw => ?_)
        exact retx_v C hr hlk hw (Option.some.inj hf).symm (Nat.le_of_ble_eq_true rfl) (Nat.le_of_ble_eq_true rfl) dX8_needText_29
end
/-! WinnerDraws$Text.open(I)V (('o', 'X', 1) ('i',)) -/
def f_X7_open (X : TX) (x1 : Int32) : Option (TX) := some (u2 (u2 (u2 (u2 X 1 2 x1) 1 3 (0 : Int32)) 1 1 (0 : Int32)) 1 7 (-1 : Int32))
section
variable {G : GP} {l : Launch}
set_option maxRecDepth 20000 in
set_option maxHeartbeats 2000000 in
theorem c_X7_open   {X M : TX} {L : TL} {x1 : Int32} {ro : TX} (hf : f_X7_open X x1 = some ro) : CTv G l yX7_open cX7_open 2 none 0 0 [.ref (gA G 1), .int x1] X M L ro M L := by
  unfold f_X7_open at hf
  refine ct_of (by decide +kernel) (Nat.le_of_ble_eq_true rfl) (fun p e s m args below meth c H locs ls C hr hlk hw hl => ?_)
  have C : Cx G p s m args c cX7_open 2 RX7 := C
  have hl : lv_has ls 2 [(0, .ref (gA G 1)), (1, .int x1)] := hl
  refine lv_aload_n C.1.1 C.1.2.1 dX7_open_0 rfl (lv_at hl 0 rfl) ?_
  refine lv_iload_n C.1.1 C.1.2.1 dX7_open_1 rfl (lv_at hl 1 rfl) ?_
  refine x_put C hw iX_1_2 flX7_26 dX7_open_2 (fun H locs hw => ?_)
  refine lv_aload_n C.1.1 C.1.2.1 dX7_open_5 rfl (lv_at hl 0 rfl) ?_
  refine lv_iconst (v := (0 : Int32)) C.1.1 C.1.2.1 dX7_open_6 rfl ?_
  refine x_put C hw iX_1_3 flX7_29 dX7_open_7 (fun H locs hw => ?_)
  refine lv_aload_n C.1.1 C.1.2.1 dX7_open_10 rfl (lv_at hl 0 rfl) ?_
  refine lv_iconst (v := (0 : Int32)) C.1.1 C.1.2.1 dX7_open_11 rfl ?_
  refine x_put C hw iX_1_1 flX7_19 dX7_open_12 (fun H locs hw => ?_)
  refine lv_aload_n C.1.1 C.1.2.1 dX7_open_15 rfl (lv_at hl 0 rfl) ?_
  refine lv_iconst (v := (-1 : Int32)) C.1.1 C.1.2.1 dX7_open_16 rfl ?_
  refine x_put C hw iX_1_7 flX7_15 dX7_open_17 (fun H locs hw => ?_)
  obtain rfl := Option.some.inj hf
  exact ret_v C hr hlk hw dX7_open_20
end
/-! WinnerDraws$County.clear()V (('o', 'X', 11)) -/
def L_X3_clear_2 : Nat → TX → Int32 → Option (TX)
  | 0 => fun _ _ => none
  | n + 1 => fun X x1 => if (10 : Int32) ≤ x1 then (some (u2 (u2 (u2 (u2 (u2 (u2 (u2 X 11 5 (0 : Int32)) 11 6 (0 : Int32)) 11 7 (20 : Int32)) 11 8 (0 : Int32)) 11 9 (-1 : Int32)) 11 10 (0 : Int32)) 11 11 (0 : Int32))) else ((f_X8_put 12 X x1 (0 : Int32)).bind fun q2 => (f_X8_put 13 q2 x1 (0 : Int32)).bind fun q3 => (f_X8_put 13 q3 ((10 : Int32) + x1) (0 : Int32)).bind fun q4 => (f_X8_put 14 q4 x1 (0 : Int32)).bind fun q5 => (L_X3_clear_2 n) q5 (x1 + (1 : Int32)))
def f_X3_clear (X : TX) : Option (TX) := L_X3_clear_2 FU X (0 : Int32)
section
variable {G : GP} {l : Launch}
set_option maxRecDepth 20000 in
set_option maxHeartbeats 2000000 in
theorem wL_X3_clear_2 {p : Program} {e : Env} {s : State} {m : MethodId} {args : Array Value} {below : List Frame} {meth : Method} {c : Code} (C : Cx G p s m args c cX3_clear 2 RX3) (hr : meth.sig.returnType = none) (hlk : meth.locks = false) {ro : TX} : ∀ (n : Nat), ∀ (X : TX) (M : TX) (L : TL) (x1 : Int32) (H : Heap) (locs : List Loc) (ls : Array Slot), Wh G s X M L H locs → lv_has ls 2 [(0, .ref (gA G 11)), (1, .int x1)] → L_X3_clear_2 n X x1 = some ro → W p l e (rz 1 22) s m args below meth c H locs 0 0 (MQ below (Dv G ro M L) args s 0 0 (AB G)) (F0 m 2 ls []) := by
  intro n
  induction n with
  | zero =>
    intro X M L x1 H locs ls hw hl hf
    cases hf
  | succ n hk_2 =>
    intro X M L x1 H locs ls hw hl hf
    rw [L_X3_clear_2] at hf
    refine lv_iload_n C.1.1 C.1.2.1 dX3_clear_2 rfl (lv_at hl 1 rfl) ?_
    refine lv_bipush (v := (10 : Int32)) C.1.1 C.1.2.1 dX3_clear_3 rfl ?_
    refine lv_icmp_ge (tgt := 53) C.1.1 C.1.2.1 dX3_clear_5 (by decide) (fun c1 => ?_) (fun c1 => ?_)
    · have hf := o_t hf c1
      refine lv_aload_n C.1.1 C.1.2.1 dX3_clear_53 rfl (lv_at hl 0 rfl) ?_
      refine lv_iconst (v := (0 : Int32)) C.1.1 C.1.2.1 dX3_clear_54 rfl ?_
      refine x_put C hw iX_11_5 flX3_44 dX3_clear_55 (fun H locs hw => ?_)
      refine lv_aload_n C.1.1 C.1.2.1 dX3_clear_58 rfl (lv_at hl 0 rfl) ?_
      refine lv_iconst (v := (0 : Int32)) C.1.1 C.1.2.1 dX3_clear_59 rfl ?_
      refine x_put C hw iX_11_6 flX3_47 dX3_clear_60 (fun H locs hw => ?_)
      refine lv_aload_n C.1.1 C.1.2.1 dX3_clear_63 rfl (lv_at hl 0 rfl) ?_
      refine lv_bipush (v := (20 : Int32)) C.1.1 C.1.2.1 dX3_clear_64 rfl ?_
      refine x_put C hw iX_11_7 flX3_27 dX3_clear_66 (fun H locs hw => ?_)
      refine lv_aload_n C.1.1 C.1.2.1 dX3_clear_69 rfl (lv_at hl 0 rfl) ?_
      refine lv_iconst (v := (0 : Int32)) C.1.1 C.1.2.1 dX3_clear_70 rfl ?_
      refine x_put C hw iX_11_8 flX3_50 dX3_clear_71 (fun H locs hw => ?_)
      refine lv_aload_n C.1.1 C.1.2.1 dX3_clear_74 rfl (lv_at hl 0 rfl) ?_
      refine lv_iconst (v := (-1 : Int32)) C.1.1 C.1.2.1 dX3_clear_75 rfl ?_
      refine x_put C hw iX_11_9 flX3_31 dX3_clear_76 (fun H locs hw => ?_)
      refine lv_aload_n C.1.1 C.1.2.1 dX3_clear_79 rfl (lv_at hl 0 rfl) ?_
      refine lv_iconst (v := (0 : Int32)) C.1.1 C.1.2.1 dX3_clear_80 rfl ?_
      refine x_put C hw iX_11_10 flX3_53 dX3_clear_81 (fun H locs hw => ?_)
      refine lv_aload_n C.1.1 C.1.2.1 dX3_clear_84 rfl (lv_at hl 0 rfl) ?_
      refine lv_iconst (v := (0 : Int32)) C.1.1 C.1.2.1 dX3_clear_85 rfl ?_
      refine x_put C hw iX_11_11 flX3_56 dX3_clear_86 (fun H locs hw => ?_)
      obtain rfl := Option.some.inj hf
      exact ret_v C hr hlk hw dX3_clear_89
    · have hf := o_f hf c1
      refine lv_aload_n C.1.1 C.1.2.1 dX3_clear_8 rfl (lv_at hl 0 rfl) ?_
      refine x_ref C hw fX_11_0 flX3_9 dX3_clear_9 ?_
      refine lv_iload_n C.1.1 C.1.2.1 dX3_clear_12 rfl (lv_at hl 1 rfl) ?_
      refine lv_iconst (v := (0 : Int32)) C.1.1 C.1.2.1 dX3_clear_13 rfl ?_
      obtain ⟨q2, h2, hf⟩ := o_bind hf
      refine aft_v hw (run_S C hw clX3_40 (As := [.ref (gA G 12), .int x1, .int (0 : Int32)]) (rest := []) (c_X8_put aX_12 h2) hl.1 rfl ⟨(Nat.le_of_ble_eq_true rfl), (Nat.le_of_ble_eq_true rfl)⟩ ⟨Nat.zero_le _, Nat.zero_le _⟩ rfl (Nat.le_of_ble_eq_true rfl) dX3_clear_14) (fun H locs hw => ?_)
      refine lv_aload_n C.1.1 C.1.2.1 dX3_clear_17 rfl (lv_at hl 0 rfl) ?_
      refine x_ref C hw fX_11_1 flX3_15 dX3_clear_18 ?_
      refine lv_iload_n C.1.1 C.1.2.1 dX3_clear_21 rfl (lv_at hl 1 rfl) ?_
      refine lv_iconst (v := (0 : Int32)) C.1.1 C.1.2.1 dX3_clear_22 rfl ?_
      obtain ⟨q3, h3, hf⟩ := o_bind hf
      refine aft_v hw (run_S C hw clX3_40 (As := [.ref (gA G 13), .int x1, .int (0 : Int32)]) (rest := []) (c_X8_put aX_13 h3) hl.1 rfl ⟨(Nat.le_of_ble_eq_true rfl), (Nat.le_of_ble_eq_true rfl)⟩ ⟨Nat.zero_le _, Nat.zero_le _⟩ rfl (Nat.le_of_ble_eq_true rfl) dX3_clear_23) (fun H locs hw => ?_)
      refine lv_aload_n C.1.1 C.1.2.1 dX3_clear_26 rfl (lv_at hl 0 rfl) ?_
      refine x_ref C hw fX_11_1 flX3_15 dX3_clear_27 ?_
      refine lv_bipush (v := (10 : Int32)) C.1.1 C.1.2.1 dX3_clear_30 rfl ?_
      refine lv_iload_n C.1.1 C.1.2.1 dX3_clear_32 rfl (lv_at hl 1 rfl) ?_
      refine lv_iadd C.1.1 C.1.2.1 dX3_clear_33 ?_
      refine lv_iconst (v := (0 : Int32)) C.1.1 C.1.2.1 dX3_clear_34 rfl ?_
      obtain ⟨q4, h4, hf⟩ := o_bind hf
      refine aft_v hw (run_S C hw clX3_40 (As := [.ref (gA G 13), .int ((10 : Int32) + x1), .int (0 : Int32)]) (rest := []) (c_X8_put aX_13 h4) hl.1 rfl ⟨(Nat.le_of_ble_eq_true rfl), (Nat.le_of_ble_eq_true rfl)⟩ ⟨Nat.zero_le _, Nat.zero_le _⟩ rfl (Nat.le_of_ble_eq_true rfl) dX3_clear_35) (fun H locs hw => ?_)
      refine lv_aload_n C.1.1 C.1.2.1 dX3_clear_38 rfl (lv_at hl 0 rfl) ?_
      refine x_ref C hw fX_11_2 flX3_18 dX3_clear_39 ?_
      refine lv_iload_n C.1.1 C.1.2.1 dX3_clear_42 rfl (lv_at hl 1 rfl) ?_
      refine lv_iconst (v := (0 : Int32)) C.1.1 C.1.2.1 dX3_clear_43 rfl ?_
      obtain ⟨q5, h5, hf⟩ := o_bind hf
      refine aft_v hw (run_S C hw clX3_40 (As := [.ref (gA G 14), .int x1, .int (0 : Int32)]) (rest := []) (c_X8_put aX_14 h5) hl.1 rfl ⟨(Nat.le_of_ble_eq_true rfl), (Nat.le_of_ble_eq_true rfl)⟩ ⟨Nat.zero_le _, Nat.zero_le _⟩ rfl (Nat.le_of_ble_eq_true rfl) dX3_clear_44) (fun H locs hw => ?_)
      refine lv_iinc (v := (x1 + (1 : Int32))) (lv' := [(1, .int (x1 + (1 : Int32))), (0, .ref (gA G 11))]) C.1.1 C.1.2.1 dX3_clear_47 hl (k := 1) rfl rfl (by decide) rfl (fun ls hl => ?_)
      refine lv_goto (tgt := 2) C.1.1 C.1.2.1 dX3_clear_50 (by decide) ?_
      exact hk_2 q5 M L (x1 + (1 : Int32)) _ _ _ hw (lv_sub hl [1, 0] rfl) hf
set_option maxRecDepth 20000 in
set_option maxHeartbeats 2000000 in
theorem c_X3_clear   {X M : TX} {L : TL}  {ro : TX} (hf : f_X3_clear X = some ro) : CTv G l yX3_clear cX3_clear 2 none 1 22 [.ref (gA G 11)] X M L ro M L := by
  unfold f_X3_clear at hf
  refine ct_of (by decide +kernel) (Nat.le_of_ble_eq_true rfl) (fun p e s m args below meth c H locs ls C hr hlk hw hl => ?_)
  have C : Cx G p s m args c cX3_clear 2 RX3 := C
  have hl : lv_has ls 2 [(0, .ref (gA G 11))] := hl
  refine lv_iconst (v := (0 : Int32)) C.1.1 C.1.2.1 dX3_clear_0 rfl ?_
  refine lv_istore_n (lv' := [(1, .int (0 : Int32)), (0, .ref (gA G 11))]) C.1.1 C.1.2.1 dX3_clear_1 rfl hl (by decide) rfl (fun ls hl => ?_)
  exact wL_X3_clear_2 C hr hlk FU X M L (0 : Int32) _ _ _ hw (lv_sub hl [1, 0] rfl) hf
end
/-! WinnerDraws$Text.fail(II)Z (('o', 'X', 1) ('i',) ('i',)) -/
def f_X7_fail (X : TX) (x1 : Int32) (x2 : Int32) : Option (TX × Int32) := some ((u2 (u2 X 1 6 x1) 1 7 x2), (0 : Int32))
section
variable {G : GP} {l : Launch}
set_option maxRecDepth 20000 in
set_option maxHeartbeats 2000000 in
theorem c_X7_fail   {X M : TX} {L : TL} {x1 : Int32} {x2 : Int32} {ro : TX × Int32} (hf : f_X7_fail X x1 x2 = some ro) : CTi G l yX7_fail cX7_fail 3 (some .boolean) 0 0 [.ref (gA G 1), .int x1, .int x2] X M L ro.1 M L ro.2 := by
  unfold f_X7_fail at hf
  refine ct_of (by decide +kernel) (Nat.le_of_ble_eq_true rfl) (fun p e s m args below meth c H locs ls C hr hlk hw hl => ?_)
  have C : Cx G p s m args c cX7_fail 3 RX7 := C
  have hl : lv_has ls 3 [(0, .ref (gA G 1)), (1, .int x1), (2, .int x2)] := hl
  refine lv_aload_n C.1.1 C.1.2.1 dX7_fail_0 rfl (lv_at hl 0 rfl) ?_
  refine lv_iload_n C.1.1 C.1.2.1 dX7_fail_1 rfl (lv_at hl 1 rfl) ?_
  refine x_put C hw iX_1_6 flX7_32 dX7_fail_2 (fun H locs hw => ?_)
  refine lv_aload_n C.1.1 C.1.2.1 dX7_fail_5 rfl (lv_at hl 0 rfl) ?_
  refine lv_iload_n C.1.1 C.1.2.1 dX7_fail_6 rfl (lv_at hl 2 rfl) ?_
  refine x_put C hw iX_1_7 flX7_15 dX7_fail_7 (fun H locs hw => ?_)
  refine lv_iconst (v := (0 : Int32)) C.1.1 C.1.2.1 dX7_fail_10 rfl ?_
  obtain rfl := Option.some.inj hf
  exact ret_z (r := (0 : Int32)) C hr hlk hw rfl dX7_fail_11
end
/-! WinnerDraws.at([II)I (('a', 'X') ('i',)) -/
def f_X8_at (k0 : Nat) (X : TX) (x1 : Int32) : Option (Int32) := if x1 < 0 then (some (0 : Int32)) else (if (nI (lenX k0)) ≤ x1 then (some (0 : Int32)) else (if inb x1 (lenX k0) = true then (some (X k0 (Int32.toNatClampNeg x1))) else none))
section
variable {G : GP} {l : Launch}
set_option maxRecDepth 20000 in
set_option maxHeartbeats 2000000 in
theorem c_X8_at  {k0 : Nat} (hk0 : AX k0 (lenX k0)) {X M : TX} {L : TL} {x1 : Int32} {ro : Int32} (hf : f_X8_at k0 X x1 = some ro) : CTi G l yX8_at cX8_at 2 (some .int) 0 0 [.ref (gA G k0), .int x1] X M L X M L ro := by
  unfold f_X8_at at hf
  refine ct_of (by decide +kernel) (Nat.le_of_ble_eq_true rfl) (fun p e s m args below meth c H locs ls C hr hlk hw hl => ?_)
  have C : Cx G p s m args c cX8_at 2 RX8 := C
  have hl : lv_has ls 2 [(0, .ref (gA G k0)), (1, .int x1)] := hl
  refine lv_iload_n C.1.1 C.1.2.1 dX8_at_0 rfl (lv_at hl 1 rfl) ?_
  refine lv_if_lt (tgt := 16) C.1.1 C.1.2.1 dX8_at_1 (by decide) (fun c1 => ?_) (fun c1 => ?_)
  · have hf := o_t hf c1
    refine lv_iconst (v := (0 : Int32)) C.1.1 C.1.2.1 dX8_at_16 rfl ?_
    obtain rfl := Option.some.inj hf
    exact ret_i C hr hlk hw dX8_at_17
  · have hf := o_f hf c1
    refine lv_iload_n C.1.1 C.1.2.1 dX8_at_4 rfl (lv_at hl 1 rfl) ?_
    refine lv_aload_n C.1.1 C.1.2.1 dX8_at_5 rfl (lv_at hl 0 rfl) ?_
    refine x_alen C hw hk0 dX8_at_6 ?_
    refine lv_icmp_ge (tgt := 16) C.1.1 C.1.2.1 dX8_at_7 (by decide) (fun c2 => ?_) (fun c2 => ?_)
    · have hf := o_t hf c2
      refine lv_iconst (v := (0 : Int32)) C.1.1 C.1.2.1 dX8_at_16 rfl ?_
      obtain rfl := Option.some.inj hf
      exact ret_i C hr hlk hw dX8_at_17
    · have hf := o_f hf c2
      refine lv_aload_n C.1.1 C.1.2.1 dX8_at_10 rfl (lv_at hl 0 rfl) ?_
      refine lv_iload_n C.1.1 C.1.2.1 dX8_at_11 rfl (lv_at hl 1 rfl) ?_
      have g3 := inb_in (o_g hf).1
      have hf := (o_g hf).2
      refine x_ald C hw hk0 g3 dX8_at_12 ?_
      refine lv_goto (tgt := 17) C.1.1 C.1.2.1 dX8_at_13 (by decide) ?_
      obtain rfl := Option.some.inj hf
      exact ret_i C hr hlk hw dX8_at_17
end
/-! WinnerDraws$Text.ahead()I (('o', 'X', 1)) -/
def L_X7_ahead_0 : Nat → TX → Option (TX × Int32)
  | 0 => fun _ => none
  | n + 1 => fun X => if (X 1 2) ≤ (X 1 3) then (if (X 1 2) ≤ (X 1 3) then (some (X, (-1 : Int32))) else ((f_X8_at 2 X (X 1 3)).bind fun q3 => some (X, q3))) else ((f_X8_at 2 X (X 1 3)).bind fun q4 => if q4 = (32 : Int32) then ((L_X7_ahead_0 n) (u2 X 1 3 ((X 1 3) + (1 : Int32)))) else (if (X 1 2) ≤ (X 1 3) then (some (X, (-1 : Int32))) else ((f_X8_at 2 X (X 1 3)).bind fun q7 => some (X, q7))))
def f_X7_ahead (X : TX) : Option (TX × Int32) := L_X7_ahead_0 FU X
section
variable {G : GP} {l : Launch}
set_option maxRecDepth 20000 in
set_option maxHeartbeats 2000000 in
theorem wL_X7_ahead_0 {p : Program} {e : Env} {s : State} {m : MethodId} {args : Array Value} {below : List Frame} {meth : Method} {c : Code} (C : Cx G p s m args c cX7_ahead 1 RX7) (hr : meth.sig.returnType = (some .int)) (hlk : meth.locks = false) {ro : TX × Int32} : ∀ (n : Nat), ∀ (X : TX) (M : TX) (L : TL)  (H : Heap) (locs : List Loc) (ls : Array Slot), Wh G s X M L H locs → lv_has ls 1 [(0, .ref (gA G 1))] → L_X7_ahead_0 n X = some ro → W p l e (rz 1 21) s m args below meth c H locs 0 0 (MQ below (Di G ro.1 M L ro.2) args s 0 0 (AB G)) (F0 m 0 ls []) := by
  intro n
  induction n with
  | zero =>
    intro X M L H locs ls hw hl hf
    cases hf
  | succ n hk_0 =>
    intro X M L H locs ls hw hl hf
    rw [L_X7_ahead_0] at hf
    refine lv_aload_n C.1.1 C.1.2.1 dX7_ahead_0 rfl (lv_at hl 0 rfl) ?_
    refine x_get C hw iX_1_3 flX7_29 dX7_ahead_1 ?_
    refine lv_aload_n C.1.1 C.1.2.1 dX7_ahead_4 rfl (lv_at hl 0 rfl) ?_
    refine x_get C hw iX_1_2 flX7_26 dX7_ahead_5 ?_
    refine lv_icmp_ge (tgt := 40) C.1.1 C.1.2.1 dX7_ahead_8 (by decide) (fun c1 => ?_) (fun c1 => ?_)
    · have hf := o_t hf c1
      refine lv_aload_n C.1.1 C.1.2.1 dX7_ahead_40 rfl (lv_at hl 0 rfl) ?_
      refine x_get C hw iX_1_3 flX7_29 dX7_ahead_41 ?_
      refine lv_aload_n C.1.1 C.1.2.1 dX7_ahead_44 rfl (lv_at hl 0 rfl) ?_
      refine x_get C hw iX_1_2 flX7_26 dX7_ahead_45 ?_
      refine lv_icmp_ge (tgt := 65) C.1.1 C.1.2.1 dX7_ahead_48 (by decide) (fun c2 => ?_) (fun c2 => ?_)
      · have hf := o_t hf c2
        refine lv_iconst (v := (-1 : Int32)) C.1.1 C.1.2.1 dX7_ahead_65 rfl ?_
        obtain rfl := Option.some.inj hf
        exact ret_i C hr hlk hw dX7_ahead_66
      · have hf := o_f hf c2
        refine lv_aload_n C.1.1 C.1.2.1 dX7_ahead_51 rfl (lv_at hl 0 rfl) ?_
        refine x_ref C hw fX_1_0 flX7_9 dX7_ahead_52 ?_
        refine lv_aload_n C.1.1 C.1.2.1 dX7_ahead_55 rfl (lv_at hl 0 rfl) ?_
        refine x_get C hw iX_1_3 flX7_29 dX7_ahead_56 ?_
        obtain ⟨q3, h3, hf⟩ := o_bind hf
        refine aft_i hw (run_S C hw clX7_35 (As := [.ref (gA G 2), .int (X 1 3)]) (rest := []) (c_X8_at aX_2 h3) hl.1 rfl ⟨(Nat.le_of_ble_eq_true rfl), (Nat.le_of_ble_eq_true rfl)⟩ ⟨Nat.zero_le _, Nat.zero_le _⟩ rfl (Nat.le_of_ble_eq_true rfl) dX7_ahead_59) (fun H locs hw => ?_)
        refine lv_goto (tgt := 66) C.1.1 C.1.2.1 dX7_ahead_62 (by decide) ?_
        obtain rfl := Option.some.inj hf
        exact ret_i C hr hlk hw dX7_ahead_66
    · have hf := o_f hf c1
      refine lv_aload_n C.1.1 C.1.2.1 dX7_ahead_11 rfl (lv_at hl 0 rfl) ?_
      refine x_ref C hw fX_1_0 flX7_9 dX7_ahead_12 ?_
      refine lv_aload_n C.1.1 C.1.2.1 dX7_ahead_15 rfl (lv_at hl 0 rfl) ?_
      refine x_get C hw iX_1_3 flX7_29 dX7_ahead_16 ?_
      obtain ⟨q4, h4, hf⟩ := o_bind hf
      refine aft_i hw (run_S C hw clX7_35 (As := [.ref (gA G 2), .int (X 1 3)]) (rest := []) (c_X8_at aX_2 h4) hl.1 rfl ⟨(Nat.le_of_ble_eq_true rfl), (Nat.le_of_ble_eq_true rfl)⟩ ⟨Nat.zero_le _, Nat.zero_le _⟩ rfl (Nat.le_of_ble_eq_true rfl) dX7_ahead_19) (fun H locs hw => ?_)
      refine lv_bipush (v := (32 : Int32)) C.1.1 C.1.2.1 dX7_ahead_22 rfl ?_
      refine lv_icmp_ne (tgt := 40) C.1.1 C.1.2.1 dX7_ahead_24 (by decide) (fun c5 => ?_) (fun c5 => ?_)
      · have hf := o_f hf c5
        refine lv_aload_n C.1.1 C.1.2.1 dX7_ahead_40 rfl (lv_at hl 0 rfl) ?_
        refine x_get C hw iX_1_3 flX7_29 dX7_ahead_41 ?_
        refine lv_aload_n C.1.1 C.1.2.1 dX7_ahead_44 rfl (lv_at hl 0 rfl) ?_
        refine x_get C hw iX_1_2 flX7_26 dX7_ahead_45 ?_
        refine lv_icmp_ge (tgt := 65) C.1.1 C.1.2.1 dX7_ahead_48 (by decide) (fun c6 => ?_) (fun c6 => ?_)
        · have hf := o_t hf c6
          refine lv_iconst (v := (-1 : Int32)) C.1.1 C.1.2.1 dX7_ahead_65 rfl ?_
          obtain rfl := Option.some.inj hf
          exact ret_i C hr hlk hw dX7_ahead_66
        · have hf := o_f hf c6
          refine lv_aload_n C.1.1 C.1.2.1 dX7_ahead_51 rfl (lv_at hl 0 rfl) ?_
          refine x_ref C hw fX_1_0 flX7_9 dX7_ahead_52 ?_
          refine lv_aload_n C.1.1 C.1.2.1 dX7_ahead_55 rfl (lv_at hl 0 rfl) ?_
          refine x_get C hw iX_1_3 flX7_29 dX7_ahead_56 ?_
          obtain ⟨q7, h7, hf⟩ := o_bind hf
          refine aft_i hw (run_S C hw clX7_35 (As := [.ref (gA G 2), .int (X 1 3)]) (rest := []) (c_X8_at aX_2 h7) hl.1 rfl ⟨(Nat.le_of_ble_eq_true rfl), (Nat.le_of_ble_eq_true rfl)⟩ ⟨Nat.zero_le _, Nat.zero_le _⟩ rfl (Nat.le_of_ble_eq_true rfl) dX7_ahead_59) (fun H locs hw => ?_)
          refine lv_goto (tgt := 66) C.1.1 C.1.2.1 dX7_ahead_62 (by decide) ?_
          obtain rfl := Option.some.inj hf
          exact ret_i C hr hlk hw dX7_ahead_66
      · have hf := o_t hf c5
        refine lv_aload_n C.1.1 C.1.2.1 dX7_ahead_27 rfl (lv_at hl 0 rfl) ?_
        refine lv_dup C.1.1 C.1.2.1 dX7_ahead_28 rfl ?_
        refine x_get C hw iX_1_3 flX7_29 dX7_ahead_29 ?_
        refine lv_iconst (v := (1 : Int32)) C.1.1 C.1.2.1 dX7_ahead_32 rfl ?_
        refine lv_iadd C.1.1 C.1.2.1 dX7_ahead_33 ?_
        refine x_put C hw iX_1_3 flX7_29 dX7_ahead_34 (fun H locs hw => ?_)
        refine lv_goto (tgt := 0) C.1.1 C.1.2.1 dX7_ahead_37 (by decide) ?_
        exact hk_0 (u2 X 1 3 ((X 1 3) + (1 : Int32))) M L _ _ _ hw (lv_sub hl [0] rfl) hf
set_option maxRecDepth 20000 in
set_option maxHeartbeats 2000000 in
theorem c_X7_ahead   {X M : TX} {L : TL}  {ro : TX × Int32} (hf : f_X7_ahead X = some ro) : CTi G l yX7_ahead cX7_ahead 1 (some .int) 1 21 [.ref (gA G 1)] X M L ro.1 M L ro.2 := by
  unfold f_X7_ahead at hf
  refine ct_of (by decide +kernel) (Nat.le_of_ble_eq_true rfl) (fun p e s m args below meth c H locs ls C hr hlk hw hl => ?_)
  have C : Cx G p s m args c cX7_ahead 1 RX7 := C
  have hl : lv_has ls 1 [(0, .ref (gA G 1))] := hl
  exact wL_X7_ahead_0 C hr hlk FU X M L _ _ _ hw (lv_sub hl [0] rfl) hf
end
/-! WinnerDraws$Text.isLetter(I)Z (('i',)) -/
def f_X7_isLetter (x0 : Int32) : Option (Int32) := if x0 < (97 : Int32) then (some (0 : Int32)) else (if (122 : Int32) < x0 then (some (0 : Int32)) else (some (1 : Int32)))
section
variable {G : GP} {l : Launch}
set_option maxRecDepth 20000 in
set_option maxHeartbeats 2000000 in
theorem c_X7_isLetter   {X M : TX} {L : TL} {x0 : Int32} {ro : Int32} (hf : f_X7_isLetter x0 = some ro) : CTi G l yX7_isLetter cX7_isLetter 1 (some .boolean) 0 0 [.int x0] X M L X M L ro := by
  unfold f_X7_isLetter at hf
  refine ct_of (by decide +kernel) (Nat.le_of_ble_eq_true rfl) (fun p e s m args below meth c H locs ls C hr hlk hw hl => ?_)
  have C : Cx G p s m args c cX7_isLetter 1 RX7 := C
  have hl : lv_has ls 1 [(0, .int x0)] := hl
  refine lv_iload_n C.1.1 C.1.2.1 dX7_isLetter_0 rfl (lv_at hl 0 rfl) ?_
  refine lv_bipush (v := (97 : Int32)) C.1.1 C.1.2.1 dX7_isLetter_1 rfl ?_
  refine lv_icmp_lt (tgt := 16) C.1.1 C.1.2.1 dX7_isLetter_3 (by decide) (fun c1 => ?_) (fun c1 => ?_)
  · have hf := o_t hf c1
    refine lv_iconst (v := (0 : Int32)) C.1.1 C.1.2.1 dX7_isLetter_16 rfl ?_
    obtain rfl := Option.some.inj hf
    exact ret_z (r := (0 : Int32)) C hr hlk hw rfl dX7_isLetter_17
  · have hf := o_f hf c1
    refine lv_iload_n C.1.1 C.1.2.1 dX7_isLetter_6 rfl (lv_at hl 0 rfl) ?_
    refine lv_bipush (v := (122 : Int32)) C.1.1 C.1.2.1 dX7_isLetter_7 rfl ?_
    refine lv_icmp_gt (tgt := 16) C.1.1 C.1.2.1 dX7_isLetter_9 (by decide) (fun c2 => ?_) (fun c2 => ?_)
    · have hf := o_t hf c2
      refine lv_iconst (v := (0 : Int32)) C.1.1 C.1.2.1 dX7_isLetter_16 rfl ?_
      obtain rfl := Option.some.inj hf
      exact ret_z (r := (0 : Int32)) C hr hlk hw rfl dX7_isLetter_17
    · have hf := o_f hf c2
      refine lv_iconst (v := (1 : Int32)) C.1.1 C.1.2.1 dX7_isLetter_12 rfl ?_
      refine lv_goto (tgt := 17) C.1.1 C.1.2.1 dX7_isLetter_13 (by decide) ?_
      obtain rfl := Option.some.inj hf
      exact ret_z (r := (1 : Int32)) C hr hlk hw rfl dX7_isLetter_17
end
/-! WinnerDraws$Text.word()V (('o', 'X', 1)) -/
def L_X7_word_13 : Nat → TX → Option (TX)
  | 0 => fun _ => none
  | n + 1 => fun X => if (X 1 2) ≤ (X 1 3) then (some X) else ((f_X8_at 2 X (X 1 3)).bind fun q3 => (f_X7_isLetter q3).bind fun q4 => if q4 = 0 then (some X) else ((L_X7_word_13 n) (u2 X 1 3 ((X 1 3) + (1 : Int32)))))
def f_X7_word (X : TX) : Option (TX) := (f_X7_ahead X).bind fun q1 => L_X7_word_13 FU (u2 q1.1 1 4 (q1.1 1 3))
section
variable {G : GP} {l : Launch}
set_option maxRecDepth 20000 in
set_option maxHeartbeats 2000000 in
theorem wL_X7_word_13 {p : Program} {e : Env} {s : State} {m : MethodId} {args : Array Value} {below : List Frame} {meth : Method} {c : Code} (C : Cx G p s m args c cX7_word 1 RX7) (hr : meth.sig.returnType = none) (hlk : meth.locks = false) {ro : TX} : ∀ (n : Nat), ∀ (X : TX) (M : TX) (L : TL)  (H : Heap) (locs : List Loc) (ls : Array Slot), Wh G s X M L H locs → lv_has ls 1 [(0, .ref (gA G 1))] → L_X7_word_13 n X = some ro → W p l e (rz 2 41) s m args below meth c H locs 0 0 (MQ below (Dv G ro M L) args s 0 0 (AB G)) (F0 m 13 ls []) := by
  intro n
  induction n with
  | zero =>
    intro X M L H locs ls hw hl hf
    cases hf
  | succ n hk_13 =>
    intro X M L H locs ls hw hl hf
    rw [L_X7_word_13] at hf
    refine lv_aload_n C.1.1 C.1.2.1 dX7_word_13 rfl (lv_at hl 0 rfl) ?_
    refine x_get C hw iX_1_3 flX7_29 dX7_word_14 ?_
    refine lv_aload_n C.1.1 C.1.2.1 dX7_word_17 rfl (lv_at hl 0 rfl) ?_
    refine x_get C hw iX_1_2 flX7_26 dX7_word_18 ?_
    refine lv_icmp_ge (tgt := 54) C.1.1 C.1.2.1 dX7_word_21 (by decide) (fun c2 => ?_) (fun c2 => ?_)
    · have hf := o_t hf c2
      obtain rfl := Option.some.inj hf
      exact ret_v C hr hlk hw dX7_word_54
    · have hf := o_f hf c2
      refine lv_aload_n C.1.1 C.1.2.1 dX7_word_24 rfl (lv_at hl 0 rfl) ?_
      refine x_ref C hw fX_1_0 flX7_9 dX7_word_25 ?_
      refine lv_aload_n C.1.1 C.1.2.1 dX7_word_28 rfl (lv_at hl 0 rfl) ?_
      refine x_get C hw iX_1_3 flX7_29 dX7_word_29 ?_
      obtain ⟨q3, h3, hf⟩ := o_bind hf
      refine aft_i hw (run_S C hw clX7_35 (As := [.ref (gA G 2), .int (X 1 3)]) (rest := []) (c_X8_at aX_2 h3) hl.1 rfl ⟨(Nat.le_of_ble_eq_true rfl), (Nat.le_of_ble_eq_true rfl)⟩ ⟨Nat.zero_le _, Nat.zero_le _⟩ rfl (Nat.le_of_ble_eq_true rfl) dX7_word_32) (fun H locs hw => ?_)
      obtain ⟨q4, h4, hf⟩ := o_bind hf
      refine aft_i hw (run_S C hw clX7_50 (As := [.int q3]) (rest := []) (c_X7_isLetter h4) hl.1 rfl ⟨(Nat.le_of_ble_eq_true rfl), (Nat.le_of_ble_eq_true rfl)⟩ ⟨Nat.zero_le _, Nat.zero_le _⟩ rfl (Nat.le_of_ble_eq_true rfl) dX7_word_35) (fun H locs hw => ?_)
      refine lv_if_eq (tgt := 54) C.1.1 C.1.2.1 dX7_word_38 (by decide) (fun c5 => ?_) (fun c5 => ?_)
      · have hf := o_t hf c5
        obtain rfl := Option.some.inj hf
        exact ret_v C hr hlk hw dX7_word_54
      · have hf := o_f hf c5
        refine lv_aload_n C.1.1 C.1.2.1 dX7_word_41 rfl (lv_at hl 0 rfl) ?_
        refine lv_dup C.1.1 C.1.2.1 dX7_word_42 rfl ?_
        refine x_get C hw iX_1_3 flX7_29 dX7_word_43 ?_
        refine lv_iconst (v := (1 : Int32)) C.1.1 C.1.2.1 dX7_word_46 rfl ?_
        refine lv_iadd C.1.1 C.1.2.1 dX7_word_47 ?_
        refine x_put C hw iX_1_3 flX7_29 dX7_word_48 (fun H locs hw => ?_)
        refine lv_goto (tgt := 13) C.1.1 C.1.2.1 dX7_word_51 (by decide) ?_
        exact hk_13 (u2 X 1 3 ((X 1 3) + (1 : Int32))) M L _ _ _ hw (lv_sub hl [0] rfl) hf
set_option maxRecDepth 20000 in
set_option maxHeartbeats 2000000 in
theorem c_X7_word   {X M : TX} {L : TL}  {ro : TX} (hf : f_X7_word X = some ro) : CTv G l yX7_word cX7_word 1 none 2 41 [.ref (gA G 1)] X M L ro M L := by
  unfold f_X7_word at hf
  refine ct_of (by decide +kernel) (Nat.le_of_ble_eq_true rfl) (fun p e s m args below meth c H locs ls C hr hlk hw hl => ?_)
  have C : Cx G p s m args c cX7_word 1 RX7 := C
  have hl : lv_has ls 1 [(0, .ref (gA G 1))] := hl
  refine lv_aload_n C.1.1 C.1.2.1 dX7_word_0 rfl (lv_at hl 0 rfl) ?_
  obtain ⟨q1, h1, hf⟩ := o_bind hf
  refine aft_i hw (run_VX C hw clX7_39 (As := []) (rest := []) oX_1 (c_X7_ahead h1) rfl hl.1 rfl ⟨(Nat.le_of_ble_eq_true rfl), (Nat.le_of_ble_eq_true rfl)⟩ ⟨Nat.zero_le _, Nat.zero_le _⟩ rfl (Nat.le_of_ble_eq_true rfl) dX7_word_1) (fun H locs hw => ?_)
  refine lv_pop C.1.1 C.1.2.1 dX7_word_4 rfl ?_
  refine lv_aload_n C.1.1 C.1.2.1 dX7_word_5 rfl (lv_at hl 0 rfl) ?_
  refine lv_aload_n C.1.1 C.1.2.1 dX7_word_6 rfl (lv_at hl 0 rfl) ?_
  refine x_get C hw iX_1_3 flX7_29 dX7_word_7 ?_
  refine x_put C hw iX_1_4 flX7_47 dX7_word_10 (fun H locs hw => ?_)
  exact wL_X7_word_13 C hr hlk FU (u2 q1.1 1 4 (q1.1 1 3)) M L _ _ _ hw (lv_sub hl [0] rfl) hf
end
/-! WinnerDraws$Text.is(Ljava/lang/String;)Z (('o', 'X', 1) ('s',)) -/
def L_X7_is_20 (i1 : Nat) : Nat → TX → Int32 → Option (Int32)
  | 0 => fun _ _ => none
  | n + 1 => fun X x2 => if (nI (SL.getD i1 0)) ≤ x2 then (some (1 : Int32)) else (if inb x2 (SL.getD i1 0) = true then ((f_X8_at 2 X ((X 1 4) + x2)).bind fun q6 => if ((SB.getD i1 []).getD (Int32.toNatClampNeg x2) 0) = q6 then ((L_X7_is_20 i1 n) X (x2 + (1 : Int32))) else (some (0 : Int32))) else none)
def f_X7_is (i1 : Nat) (X : TX) : Option (Int32) := if ((X 1 3) - (X 1 4)) = (nI (SL.getD i1 0)) then (L_X7_is_20 i1 FU X (0 : Int32)) else (some (0 : Int32))
section
variable {G : GP} {l : Launch}
set_option maxRecDepth 20000 in
set_option maxHeartbeats 2000000 in
theorem wL_X7_is_20 {i1 : Nat} (hi1 : i1 < SN) {p : Program} {e : Env} {s : State} {m : MethodId} {args : Array Value} {below : List Frame} {meth : Method} {c : Code} (C : Cx G p s m args c cX7_is 3 RX7) (hr : meth.sig.returnType = (some .boolean)) (hlk : meth.locks = false) {ro : Int32} : ∀ (n : Nat), ∀ (X : TX) (M : TX) (L : TL) (x2 : Int32) (H : Heap) (locs : List Loc) (ls : Array Slot), Wh G s X M L H locs → lv_has ls 3 [(0, .ref (gA G 1)), (1, .ref (gK G i1)), (2, .int x2)] → L_X7_is_20 i1 n X x2 = some ro → W p l e (rz 6 181) s m args below meth c H locs 0 0 (MQ below (Di G X M L ro) args s 0 0 (AB G)) (F0 m 20 ls []) := by
  intro n
  induction n with
  | zero =>
    intro X M L x2 H locs ls hw hl hf
    cases hf
  | succ n hk_20 =>
    intro X M L x2 H locs ls hw hl hf
    rw [L_X7_is_20] at hf
    refine lv_iload_n C.1.1 C.1.2.1 dX7_is_20 rfl (lv_at hl 2 rfl) ?_
    refine lv_aload_n C.1.1 C.1.2.1 dX7_is_21 rfl (lv_at hl 1 rfl) ?_
    refine x_slen C hw clX7_54 (i := i1) hi1 hl.1 ⟨(Nat.le_of_ble_eq_true rfl), (Nat.le_of_ble_eq_true rfl)⟩ ⟨Nat.zero_le _, Nat.zero_le _⟩ (Nat.le_of_ble_eq_true rfl) dX7_is_22 (fun H locs hw => ?_)
    refine lv_icmp_ge (tgt := 57) C.1.1 C.1.2.1 dX7_is_25 (by decide) (fun c4 => ?_) (fun c4 => ?_)
    · have hf := o_t hf c4
      refine lv_iconst (v := (1 : Int32)) C.1.1 C.1.2.1 dX7_is_57 rfl ?_
      obtain rfl := Option.some.inj hf
      exact ret_z (r := (1 : Int32)) C hr hlk hw rfl dX7_is_58
    · have hf := o_f hf c4
      refine lv_aload_n C.1.1 C.1.2.1 dX7_is_28 rfl (lv_at hl 1 rfl) ?_
      refine lv_iload_n C.1.1 C.1.2.1 dX7_is_29 rfl (lv_at hl 2 rfl) ?_
      have g5 := inb_in (o_g hf).1
      have hf := (o_g hf).2
      refine x_schr C hw clX7_59 (i := i1) hi1 g5 hl.1 ⟨(Nat.le_of_ble_eq_true rfl), (Nat.le_of_ble_eq_true rfl)⟩ ⟨Nat.zero_le _, Nat.zero_le _⟩ (Nat.le_of_ble_eq_true rfl) dX7_is_30 (fun H locs hw => ?_)
      refine lv_aload_n C.1.1 C.1.2.1 dX7_is_33 rfl (lv_at hl 0 rfl) ?_
      refine x_ref C hw fX_1_0 flX7_9 dX7_is_34 ?_
      refine lv_aload_n C.1.1 C.1.2.1 dX7_is_37 rfl (lv_at hl 0 rfl) ?_
      refine x_get C hw iX_1_4 flX7_47 dX7_is_38 ?_
      refine lv_iload_n C.1.1 C.1.2.1 dX7_is_41 rfl (lv_at hl 2 rfl) ?_
      refine lv_iadd C.1.1 C.1.2.1 dX7_is_42 ?_
      obtain ⟨q6, h6, hf⟩ := o_bind hf
      refine aft_i hw (run_S C hw clX7_35 (As := [.ref (gA G 2), .int ((X 1 4) + x2)]) (rest := [.int ((SB.getD i1 []).getD (Int32.toNatClampNeg x2) 0)]) (c_X8_at aX_2 h6) hl.1 rfl ⟨(Nat.le_of_ble_eq_true rfl), (Nat.le_of_ble_eq_true rfl)⟩ ⟨Nat.zero_le _, Nat.zero_le _⟩ rfl (Nat.le_of_ble_eq_true rfl) dX7_is_43) (fun H locs hw => ?_)
      refine lv_icmp_eq (tgt := 51) C.1.1 C.1.2.1 dX7_is_46 (by decide) (fun c7 => ?_) (fun c7 => ?_)
      · have hf := o_t hf c7
        refine lv_iinc (v := (x2 + (1 : Int32))) (lv' := [(2, .int (x2 + (1 : Int32))), (0, .ref (gA G 1)), (1, .ref (gK G i1))]) C.1.1 C.1.2.1 dX7_is_51 hl (k := 2) rfl rfl (by decide) rfl (fun ls hl => ?_)
        refine lv_goto (tgt := 20) C.1.1 C.1.2.1 dX7_is_54 (by decide) ?_
        exact hk_20 X M L (x2 + (1 : Int32)) _ _ _ hw (lv_sub hl [1, 2, 0] rfl) hf
      · have hf := o_f hf c7
        refine lv_iconst (v := (0 : Int32)) C.1.1 C.1.2.1 dX7_is_49 rfl ?_
        obtain rfl := Option.some.inj hf
        exact ret_z (r := (0 : Int32)) C hr hlk hw rfl dX7_is_50
set_option maxRecDepth 20000 in
set_option maxHeartbeats 2000000 in
theorem c_X7_is  {i1 : Nat} (hi1 : i1 < SN) {X M : TX} {L : TL}  {ro : Int32} (hf : f_X7_is i1 X = some ro) : CTi G l yX7_is cX7_is 3 (some .boolean) 6 181 [.ref (gA G 1), .ref (gK G i1)] X M L X M L ro := by
  unfold f_X7_is at hf
  refine ct_of (by decide +kernel) (Nat.le_of_ble_eq_true rfl) (fun p e s m args below meth c H locs ls C hr hlk hw hl => ?_)
  have C : Cx G p s m args c cX7_is 3 RX7 := C
  have hl : lv_has ls 3 [(0, .ref (gA G 1)), (1, .ref (gK G i1))] := hl
  refine lv_aload_n C.1.1 C.1.2.1 dX7_is_0 rfl (lv_at hl 0 rfl) ?_
  refine x_get C hw iX_1_3 flX7_29 dX7_is_1 ?_
  refine lv_aload_n C.1.1 C.1.2.1 dX7_is_4 rfl (lv_at hl 0 rfl) ?_
  refine x_get C hw iX_1_4 flX7_47 dX7_is_5 ?_
  refine lv_isub C.1.1 C.1.2.1 dX7_is_8 ?_
  refine lv_aload_n C.1.1 C.1.2.1 dX7_is_9 rfl (lv_at hl 1 rfl) ?_
  refine x_slen C hw clX7_54 (i := i1) hi1 hl.1 ⟨(Nat.le_of_ble_eq_true rfl), (Nat.le_of_ble_eq_true rfl)⟩ ⟨Nat.zero_le _, Nat.zero_le _⟩ (Nat.le_of_ble_eq_true rfl) dX7_is_10 (fun H locs hw => ?_)
  refine lv_icmp_eq (tgt := 18) C.1.1 C.1.2.1 dX7_is_13 (by decide) (fun c2 => ?_) (fun c2 => ?_)
  · have hf := o_t hf c2
    refine lv_iconst (v := (0 : Int32)) C.1.1 C.1.2.1 dX7_is_18 rfl ?_
    refine lv_istore_n (lv' := [(2, .int (0 : Int32)), (0, .ref (gA G 1)), (1, .ref (gK G i1))]) C.1.1 C.1.2.1 dX7_is_19 rfl hl (by decide) rfl (fun ls hl => ?_)
    exact wL_X7_is_20 hi1 C hr hlk FU X M L (0 : Int32) _ _ _ hw (lv_sub hl [1, 2, 0] rfl) hf
  · have hf := o_f hf c2
    refine lv_iconst (v := (0 : Int32)) C.1.1 C.1.2.1 dX7_is_16 rfl ?_
    obtain rfl := Option.some.inj hf
    exact ret_z (r := (0 : Int32)) C hr hlk hw rfl dX7_is_17
end
/-! WinnerDraws$County.clauseKind(LWinnerDraws$Text;)I (('o', 'X', 1)) -/
def f_X3_clauseKind (X : TX) : Option (Int32) := (f_X7_is 8 X).bind fun q1 => if q1 = 0 then ((f_X7_is 12 X).bind fun q3 => if q3 = 0 then ((f_X7_is 15 X).bind fun q5 => if q5 = 0 then ((f_X7_is 10 X).bind fun q7 => if q7 = 0 then (some (0 : Int32)) else (some (4 : Int32))) else (some (3 : Int32))) else (some (2 : Int32))) else (some (1 : Int32))
section
variable {G : GP} {l : Launch}
set_option maxRecDepth 20000 in
set_option maxHeartbeats 2000000 in
theorem c_X3_clauseKind   {X M : TX} {L : TL}  {ro : Int32} (hf : f_X3_clauseKind X = some ro) : CTi G l yX3_clauseKind cX3_clauseKind 1 (some .int) 7 203 [.ref (gA G 1)] X M L X M L ro := by
  unfold f_X3_clauseKind at hf
  refine ct_of (by decide +kernel) (Nat.le_of_ble_eq_true rfl) (fun p e s m args below meth c H locs ls C hr hlk hw hl => ?_)
  have C : Cx G p s m args c cX3_clauseKind 1 RX3 := C
  have hl : lv_has ls 1 [(0, .ref (gA G 1))] := hl
  refine lv_aload_n C.1.1 C.1.2.1 dX3_clauseKind_0 rfl (lv_at hl 0 rfl) ?_
  refine x_ldcS C (i := 8) (tx := "parish") (List.mem_of_getElem? (i := 0) rfl) dX3_clauseKind_1 ?_
  obtain ⟨q1, h1, hf⟩ := o_bind hf
  refine aft_i hw (run_VX C hw clX3_119 (As := [.ref (gK G 8)]) (rest := []) oX_1 (c_X7_is (by decide) h1) rfl hl.1 rfl ⟨(Nat.le_of_ble_eq_true rfl), (Nat.le_of_ble_eq_true rfl)⟩ ⟨Nat.zero_le _, Nat.zero_le _⟩ rfl (Nat.le_of_ble_eq_true rfl) dX3_clauseKind_3) (fun H locs hw => ?_)
  refine lv_if_eq (tgt := 11) C.1.1 C.1.2.1 dX3_clauseKind_6 (by decide) (fun c2 => ?_) (fun c2 => ?_)
  · have hf := o_t hf c2
    refine lv_aload_n C.1.1 C.1.2.1 dX3_clauseKind_11 rfl (lv_at hl 0 rfl) ?_
    refine x_ldcS C (i := 12) (tx := "road") (List.mem_of_getElem? (i := 1) rfl) dX3_clauseKind_12 ?_
    obtain ⟨q3, h3, hf⟩ := o_bind hf
    refine aft_i hw (run_VX C hw clX3_119 (As := [.ref (gK G 12)]) (rest := []) oX_1 (c_X7_is (by decide) h3) rfl hl.1 rfl ⟨(Nat.le_of_ble_eq_true rfl), (Nat.le_of_ble_eq_true rfl)⟩ ⟨Nat.zero_le _, Nat.zero_le _⟩ rfl (Nat.le_of_ble_eq_true rfl) dX3_clauseKind_14) (fun H locs hw => ?_)
    refine lv_if_eq (tgt := 22) C.1.1 C.1.2.1 dX3_clauseKind_17 (by decide) (fun c4 => ?_) (fun c4 => ?_)
    · have hf := o_t hf c4
      refine lv_aload_n C.1.1 C.1.2.1 dX3_clauseKind_22 rfl (lv_at hl 0 rfl) ?_
      refine x_ldcS C (i := 15) (tx := "tide") (List.mem_of_getElem? (i := 2) rfl) dX3_clauseKind_23 ?_
      obtain ⟨q5, h5, hf⟩ := o_bind hf
      refine aft_i hw (run_VX C hw clX3_119 (As := [.ref (gK G 15)]) (rest := []) oX_1 (c_X7_is (by decide) h5) rfl hl.1 rfl ⟨(Nat.le_of_ble_eq_true rfl), (Nat.le_of_ble_eq_true rfl)⟩ ⟨Nat.zero_le _, Nat.zero_le _⟩ rfl (Nat.le_of_ble_eq_true rfl) dX3_clauseKind_25) (fun H locs hw => ?_)
      refine lv_if_eq (tgt := 33) C.1.1 C.1.2.1 dX3_clauseKind_28 (by decide) (fun c6 => ?_) (fun c6 => ?_)
      · have hf := o_t hf c6
        refine lv_aload_n C.1.1 C.1.2.1 dX3_clauseKind_33 rfl (lv_at hl 0 rfl) ?_
        refine x_ldcS C (i := 10) (tx := "purse") (List.mem_of_getElem? (i := 3) rfl) dX3_clauseKind_34 ?_
        obtain ⟨q7, h7, hf⟩ := o_bind hf
        refine aft_i hw (run_VX C hw clX3_119 (As := [.ref (gK G 10)]) (rest := []) oX_1 (c_X7_is (by decide) h7) rfl hl.1 rfl ⟨(Nat.le_of_ble_eq_true rfl), (Nat.le_of_ble_eq_true rfl)⟩ ⟨Nat.zero_le _, Nat.zero_le _⟩ rfl (Nat.le_of_ble_eq_true rfl) dX3_clauseKind_36) (fun H locs hw => ?_)
        refine lv_if_eq (tgt := 46) C.1.1 C.1.2.1 dX3_clauseKind_39 (by decide) (fun c8 => ?_) (fun c8 => ?_)
        · have hf := o_t hf c8
          refine lv_iconst (v := (0 : Int32)) C.1.1 C.1.2.1 dX3_clauseKind_46 rfl ?_
          obtain rfl := Option.some.inj hf
          exact ret_i C hr hlk hw dX3_clauseKind_47
        · have hf := o_f hf c8
          refine lv_iconst (v := (4 : Int32)) C.1.1 C.1.2.1 dX3_clauseKind_42 rfl ?_
          refine lv_goto (tgt := 47) C.1.1 C.1.2.1 dX3_clauseKind_43 (by decide) ?_
          obtain rfl := Option.some.inj hf
          exact ret_i C hr hlk hw dX3_clauseKind_47
      · have hf := o_f hf c6
        refine lv_iconst (v := (3 : Int32)) C.1.1 C.1.2.1 dX3_clauseKind_31 rfl ?_
        obtain rfl := Option.some.inj hf
        exact ret_i C hr hlk hw dX3_clauseKind_32
    · have hf := o_f hf c4
      refine lv_iconst (v := (2 : Int32)) C.1.1 C.1.2.1 dX3_clauseKind_20 rfl ?_
      obtain rfl := Option.some.inj hf
      exact ret_i C hr hlk hw dX3_clauseKind_21
  · have hf := o_f hf c2
    refine lv_iconst (v := (1 : Int32)) C.1.1 C.1.2.1 dX3_clauseKind_9 rfl ?_
    obtain rfl := Option.some.inj hf
    exact ret_i C hr hlk hw dX3_clauseKind_10
end
/-! WinnerDraws$Text.isDigit(I)Z (('i',)) -/
def f_X7_isDigit (x0 : Int32) : Option (Int32) := if x0 < (48 : Int32) then (some (0 : Int32)) else (if (57 : Int32) < x0 then (some (0 : Int32)) else (some (1 : Int32)))
section
variable {G : GP} {l : Launch}
set_option maxRecDepth 20000 in
set_option maxHeartbeats 2000000 in
theorem c_X7_isDigit   {X M : TX} {L : TL} {x0 : Int32} {ro : Int32} (hf : f_X7_isDigit x0 = some ro) : CTi G l yX7_isDigit cX7_isDigit 1 (some .boolean) 0 0 [.int x0] X M L X M L ro := by
  unfold f_X7_isDigit at hf
  refine ct_of (by decide +kernel) (Nat.le_of_ble_eq_true rfl) (fun p e s m args below meth c H locs ls C hr hlk hw hl => ?_)
  have C : Cx G p s m args c cX7_isDigit 1 RX7 := C
  have hl : lv_has ls 1 [(0, .int x0)] := hl
  refine lv_iload_n C.1.1 C.1.2.1 dX7_isDigit_0 rfl (lv_at hl 0 rfl) ?_
  refine lv_bipush (v := (48 : Int32)) C.1.1 C.1.2.1 dX7_isDigit_1 rfl ?_
  refine lv_icmp_lt (tgt := 16) C.1.1 C.1.2.1 dX7_isDigit_3 (by decide) (fun c1 => ?_) (fun c1 => ?_)
  · have hf := o_t hf c1
    refine lv_iconst (v := (0 : Int32)) C.1.1 C.1.2.1 dX7_isDigit_16 rfl ?_
    obtain rfl := Option.some.inj hf
    exact ret_z (r := (0 : Int32)) C hr hlk hw rfl dX7_isDigit_17
  · have hf := o_f hf c1
    refine lv_iload_n C.1.1 C.1.2.1 dX7_isDigit_6 rfl (lv_at hl 0 rfl) ?_
    refine lv_bipush (v := (57 : Int32)) C.1.1 C.1.2.1 dX7_isDigit_7 rfl ?_
    refine lv_icmp_gt (tgt := 16) C.1.1 C.1.2.1 dX7_isDigit_9 (by decide) (fun c2 => ?_) (fun c2 => ?_)
    · have hf := o_t hf c2
      refine lv_iconst (v := (0 : Int32)) C.1.1 C.1.2.1 dX7_isDigit_16 rfl ?_
      obtain rfl := Option.some.inj hf
      exact ret_z (r := (0 : Int32)) C hr hlk hw rfl dX7_isDigit_17
    · have hf := o_f hf c2
      refine lv_iconst (v := (1 : Int32)) C.1.1 C.1.2.1 dX7_isDigit_12 rfl ?_
      refine lv_goto (tgt := 17) C.1.1 C.1.2.1 dX7_isDigit_13 (by decide) ?_
      obtain rfl := Option.some.inj hf
      exact ret_z (r := (1 : Int32)) C hr hlk hw rfl dX7_isDigit_17
end
/-! WinnerDraws$Text.number(I)Z (('o', 'X', 1) ('i',)) -/
def B_X7_number_91 (X : TX) (x1 : Int32) : Option (TX × Int32) := if (X 1 3) = (X 1 4) then ((f_X7_fail X (1 : Int32) (X 1 4)).bind fun q7 => if q7.2 &&& 1 = q7.2 then (some (q7.1, q7.2)) else none) else (if (X 1 5) ≤ x1 then (some (X, (1 : Int32))) else ((f_X7_fail X (2 : Int32) (X 1 4)).bind fun q5 => if q5.2 = 0 then (some (q5.1, (0 : Int32))) else (some (q5.1, (1 : Int32)))))
def L_X7_number_18 : Nat → TX → Int32 → Option (TX × Int32)
  | 0 => fun _ _ => none
  | n + 1 => fun X x1 => if (X 1 2) ≤ (X 1 3) then (B_X7_number_91 X x1) else ((f_X8_at 2 X (X 1 3)).bind fun q9 => (f_X7_isDigit q9).bind fun q10 => if q10 = 0 then (B_X7_number_91 X x1) else ((f_X8_at 2 X (X 1 3)).bind fun q12 => (L_X7_number_18 n) (u2 (u2 X 1 5 (if (1000 : Int32) < ((((X 1 5) * (10 : Int32)) + q12) - (48 : Int32)) then (1000 : Int32) else ((((X 1 5) * (10 : Int32)) + q12) - (48 : Int32)))) 1 3 (((u2 X 1 5 (if (1000 : Int32) < ((((X 1 5) * (10 : Int32)) + q12) - (48 : Int32)) then (1000 : Int32) else ((((X 1 5) * (10 : Int32)) + q12) - (48 : Int32)))) 1 3) + (1 : Int32))) x1))
def f_X7_number (X : TX) (x1 : Int32) : Option (TX × Int32) := (f_X7_ahead X).bind fun q1 => L_X7_number_18 FU (u2 (u2 q1.1 1 4 (q1.1 1 3)) 1 5 (0 : Int32)) x1
section
variable {G : GP} {l : Launch}
set_option maxRecDepth 20000 in
set_option maxHeartbeats 2000000 in
theorem wB_X7_number_91 {p : Program} {e : Env} {s : State} {m : MethodId} {args : Array Value} {below : List Frame} {meth : Method} {c : Code} (C : Cx G p s m args c cX7_number 2 RX7) (hr : meth.sig.returnType = (some .boolean)) (hlk : meth.locks = false) {ro : TX × Int32} : ∀ (X : TX) (M : TX) (L : TL) (x1 : Int32) (H : Heap) (locs : List Loc) (ls : Array Slot), Wh G s X M L H locs → lv_has ls 2 [(0, .ref (gA G 1)), (1, .int x1)] → B_X7_number_91 X x1 = some ro → W p l e (rz 2 41) s m args below meth c H locs 0 0 (MQ below (Di G ro.1 M L ro.2) args s 0 0 (AB G)) (F0 m 91 ls []) := by
  intro X M L x1 H locs ls hw hl hf
  unfold B_X7_number_91 at hf
  refine lv_aload_n C.1.1 C.1.2.1 dX7_number_91 rfl (lv_at hl 0 rfl) ?_
  refine x_get C hw iX_1_3 flX7_29 dX7_number_92 ?_
  refine lv_aload_n C.1.1 C.1.2.1 dX7_number_95 rfl (lv_at hl 0 rfl) ?_
  refine x_get C hw iX_1_4 flX7_47 dX7_number_96 ?_
  refine lv_icmp_ne (tgt := 112) C.1.1 C.1.2.1 dX7_number_99 (by decide) (fun c3 => ?_) (fun c3 => ?_)
  · have hf := o_f hf c3
    refine lv_aload_n C.1.1 C.1.2.1 dX7_number_112 rfl (lv_at hl 0 rfl) ?_
    refine x_get C hw iX_1_5 flX7_63 dX7_number_113 ?_
    refine lv_iload_n C.1.1 C.1.2.1 dX7_number_116 rfl (lv_at hl 1 rfl) ?_
    refine lv_icmp_le (tgt := 132) C.1.1 C.1.2.1 dX7_number_117 (by decide) (fun c4 => ?_) (fun c4 => ?_)
    · have hf := o_t hf c4
      refine lv_iconst (v := (1 : Int32)) C.1.1 C.1.2.1 dX7_number_132 rfl ?_
      refine lv_goto (tgt := 137) C.1.1 C.1.2.1 dX7_number_133 (by decide) ?_
      obtain rfl := Option.some.inj hf
      exact ret_z (r := (1 : Int32)) C hr hlk hw rfl dX7_number_137
    · have hf := o_f hf c4
      refine lv_aload_n C.1.1 C.1.2.1 dX7_number_120 rfl (lv_at hl 0 rfl) ?_
      refine lv_iconst (v := (2 : Int32)) C.1.1 C.1.2.1 dX7_number_121 rfl ?_
      refine lv_aload_n C.1.1 C.1.2.1 dX7_number_122 rfl (lv_at hl 0 rfl) ?_
      refine x_get C hw iX_1_4 flX7_47 dX7_number_123 ?_
      obtain ⟨q5, h5, hf⟩ := o_bind hf
      refine aft_i hw (run_VX C hw clX7_43 (As := [.int (2 : Int32), .int (X 1 4)]) (rest := []) oX_1 (c_X7_fail h5) rfl hl.1 rfl ⟨(Nat.le_of_ble_eq_true rfl), (Nat.le_of_ble_eq_true rfl)⟩ ⟨Nat.zero_le _, Nat.zero_le _⟩ rfl (Nat.le_of_ble_eq_true rfl) dX7_number_126) (fun H locs hw => ?_)
      refine lv_if_eq (tgt := 136) C.1.1 C.1.2.1 dX7_number_129 (by decide) (fun c6 => ?_) (fun c6 => ?_)
      · have hf := o_t hf c6
        refine lv_iconst (v := (0 : Int32)) C.1.1 C.1.2.1 dX7_number_136 rfl ?_
        obtain rfl := Option.some.inj hf
        exact ret_z (r := (0 : Int32)) C hr hlk hw rfl dX7_number_137
      · have hf := o_f hf c6
        refine lv_iconst (v := (1 : Int32)) C.1.1 C.1.2.1 dX7_number_132 rfl ?_
        refine lv_goto (tgt := 137) C.1.1 C.1.2.1 dX7_number_133 (by decide) ?_
        obtain rfl := Option.some.inj hf
        exact ret_z (r := (1 : Int32)) C hr hlk hw rfl dX7_number_137
  · have hf := o_t hf c3
    refine lv_aload_n C.1.1 C.1.2.1 dX7_number_102 rfl (lv_at hl 0 rfl) ?_
    refine lv_iconst (v := (1 : Int32)) C.1.1 C.1.2.1 dX7_number_103 rfl ?_
    refine lv_aload_n C.1.1 C.1.2.1 dX7_number_104 rfl (lv_at hl 0 rfl) ?_
    refine x_get C hw iX_1_4 flX7_47 dX7_number_105 ?_
    obtain ⟨q7, h7, hf⟩ := o_bind hf
    refine aft_i hw (run_VX C hw clX7_43 (As := [.int (1 : Int32), .int (X 1 4)]) (rest := []) oX_1 (c_X7_fail h7) rfl hl.1 rfl ⟨(Nat.le_of_ble_eq_true rfl), (Nat.le_of_ble_eq_true rfl)⟩ ⟨Nat.zero_le _, Nat.zero_le _⟩ rfl (Nat.le_of_ble_eq_true rfl) dX7_number_108) (fun H locs hw => ?_)
    have g8 := (o_g hf).1
    have hf := (o_g hf).2
    obtain rfl := Option.some.inj hf
    exact ret_z (r := q7.2) C hr hlk hw (nar_z g8) dX7_number_111
set_option maxRecDepth 20000 in
set_option maxHeartbeats 2000000 in
theorem wL_X7_number_18 {p : Program} {e : Env} {s : State} {m : MethodId} {args : Array Value} {below : List Frame} {meth : Method} {c : Code} (C : Cx G p s m args c cX7_number 2 RX7) (hr : meth.sig.returnType = (some .boolean)) (hlk : meth.locks = false) {ro : TX × Int32} : ∀ (n : Nat), ∀ (X : TX) (M : TX) (L : TL) (x1 : Int32) (H : Heap) (locs : List Loc) (ls : Array Slot), Wh G s X M L H locs → lv_has ls 2 [(0, .ref (gA G 1)), (1, .int x1)] → L_X7_number_18 n X x1 = some ro → W p l e (rz 2 41) s m args below meth c H locs 0 0 (MQ below (Di G ro.1 M L ro.2) args s 0 0 (AB G)) (F0 m 18 ls []) := by
  intro n
  induction n with
  | zero =>
    intro X M L x1 H locs ls hw hl hf
    cases hf
  | succ n hk_18 =>
    intro X M L x1 H locs ls hw hl hf
    rw [L_X7_number_18] at hf
    refine lv_aload_n C.1.1 C.1.2.1 dX7_number_18 rfl (lv_at hl 0 rfl) ?_
    refine x_get C hw iX_1_3 flX7_29 dX7_number_19 ?_
    refine lv_aload_n C.1.1 C.1.2.1 dX7_number_22 rfl (lv_at hl 0 rfl) ?_
    refine x_get C hw iX_1_2 flX7_26 dX7_number_23 ?_
    refine lv_icmp_ge (tgt := 91) C.1.1 C.1.2.1 dX7_number_26 (by decide) (fun c2 => ?_) (fun c2 => ?_)
    · have hf := o_t hf c2
      exact wB_X7_number_91 C hr hlk X M L x1 _ _ _ hw (lv_sub hl [0, 1] rfl) hf
    · have hf := o_f hf c2
      refine lv_aload_n C.1.1 C.1.2.1 dX7_number_29 rfl (lv_at hl 0 rfl) ?_
      refine x_ref C hw fX_1_0 flX7_9 dX7_number_30 ?_
      refine lv_aload_n C.1.1 C.1.2.1 dX7_number_33 rfl (lv_at hl 0 rfl) ?_
      refine x_get C hw iX_1_3 flX7_29 dX7_number_34 ?_
      obtain ⟨q9, h9, hf⟩ := o_bind hf
      refine aft_i hw (run_S C hw clX7_35 (As := [.ref (gA G 2), .int (X 1 3)]) (rest := []) (c_X8_at aX_2 h9) hl.1 rfl ⟨(Nat.le_of_ble_eq_true rfl), (Nat.le_of_ble_eq_true rfl)⟩ ⟨Nat.zero_le _, Nat.zero_le _⟩ rfl (Nat.le_of_ble_eq_true rfl) dX7_number_37) (fun H locs hw => ?_)
      obtain ⟨q10, h10, hf⟩ := o_bind hf
      refine aft_i hw (run_S C hw clX7_66 (As := [.int q9]) (rest := []) (c_X7_isDigit h10) hl.1 rfl ⟨(Nat.le_of_ble_eq_true rfl), (Nat.le_of_ble_eq_true rfl)⟩ ⟨Nat.zero_le _, Nat.zero_le _⟩ rfl (Nat.le_of_ble_eq_true rfl) dX7_number_40) (fun H locs hw => ?_)
      refine lv_if_eq (tgt := 91) C.1.1 C.1.2.1 dX7_number_43 (by decide) (fun c11 => ?_) (fun c11 => ?_)
      · have hf := o_t hf c11
        exact wB_X7_number_91 C hr hlk X M L x1 _ _ _ hw (lv_sub hl [0, 1] rfl) hf
      · have hf := o_f hf c11
        refine lv_aload_n C.1.1 C.1.2.1 dX7_number_46 rfl (lv_at hl 0 rfl) ?_
        refine lv_aload_n C.1.1 C.1.2.1 dX7_number_47 rfl (lv_at hl 0 rfl) ?_
        refine x_get C hw iX_1_5 flX7_63 dX7_number_48 ?_
        refine lv_bipush (v := (10 : Int32)) C.1.1 C.1.2.1 dX7_number_51 rfl ?_
        refine lv_imul C.1.1 C.1.2.1 dX7_number_53 ?_
        refine lv_aload_n C.1.1 C.1.2.1 dX7_number_54 rfl (lv_at hl 0 rfl) ?_
        refine x_ref C hw fX_1_0 flX7_9 dX7_number_55 ?_
        refine lv_aload_n C.1.1 C.1.2.1 dX7_number_58 rfl (lv_at hl 0 rfl) ?_
        refine x_get C hw iX_1_3 flX7_29 dX7_number_59 ?_
        obtain ⟨q12, h12, hf⟩ := o_bind hf
        refine aft_i hw (run_S C hw clX7_35 (As := [.ref (gA G 2), .int (X 1 3)]) (rest := [.int ((X 1 5) * (10 : Int32)), .ref (gA G 1)]) (c_X8_at aX_2 h12) hl.1 rfl ⟨(Nat.le_of_ble_eq_true rfl), (Nat.le_of_ble_eq_true rfl)⟩ ⟨Nat.zero_le _, Nat.zero_le _⟩ rfl (Nat.le_of_ble_eq_true rfl) dX7_number_62) (fun H locs hw => ?_)
        refine lv_iadd C.1.1 C.1.2.1 dX7_number_65 ?_
        refine lv_bipush (v := (48 : Int32)) C.1.1 C.1.2.1 dX7_number_66 rfl ?_
        refine lv_isub C.1.1 C.1.2.1 dX7_number_68 ?_
        refine lv_sipush (v := (1000 : Int32)) C.1.1 C.1.2.1 dX7_number_69 rfl ?_
        refine x_min C clX7_69 (tb3 141 rfl rfl) hl.1 ⟨(Nat.le_of_ble_eq_true rfl), (Nat.le_of_ble_eq_true rfl)⟩ ⟨Nat.zero_le _, Nat.zero_le _⟩ dX7_number_72 ?_
        refine x_put C hw iX_1_5 flX7_63 dX7_number_75 (fun H locs hw => ?_)
        refine lv_aload_n C.1.1 C.1.2.1 dX7_number_78 rfl (lv_at hl 0 rfl) ?_
        refine lv_dup C.1.1 C.1.2.1 dX7_number_79 rfl ?_
        refine x_get C hw iX_1_3 flX7_29 dX7_number_80 ?_
        refine lv_iconst (v := (1 : Int32)) C.1.1 C.1.2.1 dX7_number_83 rfl ?_
        refine lv_iadd C.1.1 C.1.2.1 dX7_number_84 ?_
        refine x_put C hw iX_1_3 flX7_29 dX7_number_85 (fun H locs hw => ?_)
        refine lv_goto (tgt := 18) C.1.1 C.1.2.1 dX7_number_88 (by decide) ?_
        exact hk_18 (u2 (u2 X 1 5 (if (1000 : Int32) < ((((X 1 5) * (10 : Int32)) + q12) - (48 : Int32)) then (1000 : Int32) else ((((X 1 5) * (10 : Int32)) + q12) - (48 : Int32)))) 1 3 (((u2 X 1 5 (if (1000 : Int32) < ((((X 1 5) * (10 : Int32)) + q12) - (48 : Int32)) then (1000 : Int32) else ((((X 1 5) * (10 : Int32)) + q12) - (48 : Int32)))) 1 3) + (1 : Int32))) M L x1 _ _ _ hw (lv_sub hl [0, 1] rfl) hf
set_option maxRecDepth 20000 in
set_option maxHeartbeats 2000000 in
theorem c_X7_number   {X M : TX} {L : TL} {x1 : Int32} {ro : TX × Int32} (hf : f_X7_number X x1 = some ro) : CTi G l yX7_number cX7_number 2 (some .boolean) 2 41 [.ref (gA G 1), .int x1] X M L ro.1 M L ro.2 := by
  unfold f_X7_number at hf
  refine ct_of (by decide +kernel) (Nat.le_of_ble_eq_true rfl) (fun p e s m args below meth c H locs ls C hr hlk hw hl => ?_)
  have C : Cx G p s m args c cX7_number 2 RX7 := C
  have hl : lv_has ls 2 [(0, .ref (gA G 1)), (1, .int x1)] := hl
  refine lv_aload_n C.1.1 C.1.2.1 dX7_number_0 rfl (lv_at hl 0 rfl) ?_
  obtain ⟨q1, h1, hf⟩ := o_bind hf
  refine aft_i hw (run_VX C hw clX7_39 (As := []) (rest := []) oX_1 (c_X7_ahead h1) rfl hl.1 rfl ⟨(Nat.le_of_ble_eq_true rfl), (Nat.le_of_ble_eq_true rfl)⟩ ⟨Nat.zero_le _, Nat.zero_le _⟩ rfl (Nat.le_of_ble_eq_true rfl) dX7_number_1) (fun H locs hw => ?_)
  refine lv_pop C.1.1 C.1.2.1 dX7_number_4 rfl ?_
  refine lv_aload_n C.1.1 C.1.2.1 dX7_number_5 rfl (lv_at hl 0 rfl) ?_
  refine lv_aload_n C.1.1 C.1.2.1 dX7_number_6 rfl (lv_at hl 0 rfl) ?_
  refine x_get C hw iX_1_3 flX7_29 dX7_number_7 ?_
  refine x_put C hw iX_1_4 flX7_47 dX7_number_10 (fun H locs hw => ?_)
  refine lv_aload_n C.1.1 C.1.2.1 dX7_number_13 rfl (lv_at hl 0 rfl) ?_
  refine lv_iconst (v := (0 : Int32)) C.1.1 C.1.2.1 dX7_number_14 rfl ?_
  refine x_put C hw iX_1_5 flX7_63 dX7_number_15 (fun H locs hw => ?_)
  exact wL_X7_number_18 C hr hlk FU (u2 (u2 q1.1 1 4 (q1.1 1 3)) 1 5 (0 : Int32)) M L x1 _ _ _ hw (lv_sub hl [0, 1] rfl) hf
end
