/-! WinnerDraws.reigns(II)I (('o', 'X', 0) ('i',) ('i',)) -/
def f_X8_reigns (X : TX) (x1 : Int32) (x2 : Int32) : Option (TX × (Int32 ⊕ Nat)) := if x1 < 0 then ((f_X8_need X (0 : Int32)).bind fun q2 => xb q2 (fun _ _ => (f_X8_isHalf x2).bind fun q3 => (f_X8_need q2.1 q3).bind fun q4 => xb q4 (fun _ _ => (f_X5_lookAhead q4.1 x1).bind fun q5 => if x2 = 0 then (some (q5, .inl (q5 34 5))) else (some (q5, .inl (q5 34 6)))))) else (if (60 : Int32) < x1 then ((f_X8_need X (0 : Int32)).bind fun q8 => xb q8 (fun _ _ => (f_X8_isHalf x2).bind fun q9 => (f_X8_need q8.1 q9).bind fun q10 => xb q10 (fun _ _ => (f_X5_lookAhead q10.1 x1).bind fun q11 => if x2 = 0 then (some (q11, .inl (q11 34 5))) else (some (q11, .inl (q11 34 6)))))) else ((f_X8_need X (1 : Int32)).bind fun q13 => xb q13 (fun _ _ => (f_X8_isHalf x2).bind fun q14 => (f_X8_need q13.1 q14).bind fun q15 => xb q15 (fun _ _ => (f_X5_lookAhead q15.1 x1).bind fun q16 => if x2 = 0 then (some (q16, .inl (q16 34 5))) else (some (q16, .inl (q16 34 6)))))))
section
variable {G : GP} {l : Launch}
set_option maxRecDepth 20000 in
set_option maxHeartbeats 2000000 in
theorem c_X8_reigns (hst : l.stackTraces = false)  {X M : TX} {L : TL} {x1 : Int32} {x2 : Int32} {ro : TX × (Int32 ⊕ Nat)} (hf : f_X8_reigns X x1 x2 = some ro) : CXi G l yX8_reigns cX8_reigns 3 (some .int) 8 190 2 [.ref (gA G 0), .int x1, .int x2] X M L ro := by
  unfold f_X8_reigns at hf
  refine cx_of (by decide +kernel) (Nat.le_of_ble_eq_true rfl) (fun p e s m args below meth c H locs ls C hr hlk hnt hw hl => ?_)
  have C : Cx G p s m args c cX8_reigns 3 RX8 := C
  have hl : lv_has ls 3 [(0, .ref (gA G 0)), (1, .int x1), (2, .int x2)] := hl
  refine lv_aload_n C.1.1 C.1.2.1 dX8_reigns_0 rfl (lv_at hl 0 rfl) ?_
  refine lv_iload_n C.1.1 C.1.2.1 dX8_reigns_1 rfl (lv_at hl 1 rfl) ?_
  refine lv_if_lt (tgt := 15) C.1.1 C.1.2.1 dX8_reigns_2 (by decide) (fun c1 => ?_) (fun c1 => ?_)
  · have hf := o_t hf c1
    refine lv_iconst (v := (0 : Int32)) C.1.1 C.1.2.1 dX8_reigns_15 rfl ?_
    obtain ⟨q2, h2, hf⟩ := o_bind hf
    refine aftx_v hw (runx_VX C hw clX8_158 (tb2 212 rfl rfl) (As := [.int (0 : Int32)]) (rest := []) oX_0 (c_X8_need hst h2) rfl hl.1 rfl ⟨(Nat.le_of_ble_eq_true rfl), (Nat.le_of_ble_eq_true rfl)⟩ ⟨Nat.le_of_ble_eq_true rfl, Nat.le_of_ble_eq_true rfl⟩ rfl (Nat.le_of_ble_eq_true rfl) dX8_reigns_16) hf hnt hlk (Nat.le_of_ble_eq_true rfl) (Nat.le_of_ble_eq_true rfl) (fun hf H locs hw => ?_)
    refine lv_aload_n C.1.1 C.1.2.1 dX8_reigns_19 rfl (lv_at hl 0 rfl) ?_
    refine lv_iload_n C.1.1 C.1.2.1 dX8_reigns_20 rfl (lv_at hl 2 rfl) ?_
    obtain ⟨q3, h3, hf⟩ := o_bind hf
    refine aft_i hw (run_S C hw clX8_262 (As := [.int x2]) (rest := [.ref (gA G 0)]) (c_X8_isHalf h3) hl.1 rfl ⟨(Nat.le_of_ble_eq_true rfl), (Nat.le_of_ble_eq_true rfl)⟩ ⟨Nat.le_of_ble_eq_true rfl, Nat.le_of_ble_eq_true rfl⟩ rfl (Nat.le_of_ble_eq_true rfl) dX8_reigns_21) (fun H locs hw => ?_)
    obtain ⟨q4, h4, hf⟩ := o_bind hf
    refine aftx_v hw (runx_VX C hw clX8_158 (tb2 212 rfl rfl) (As := [.int q3]) (rest := []) oX_0 (c_X8_need hst h4) rfl hl.1 rfl ⟨(Nat.le_of_ble_eq_true rfl), (Nat.le_of_ble_eq_true rfl)⟩ ⟨Nat.le_of_ble_eq_true rfl, Nat.le_of_ble_eq_true rfl⟩ rfl (Nat.le_of_ble_eq_true rfl) dX8_reigns_24) hf hnt hlk (Nat.le_of_ble_eq_true rfl) (Nat.le_of_ble_eq_true rfl) (fun hf H locs hw => ?_)
    refine lv_aload_n C.1.1 C.1.2.1 dX8_reigns_27 rfl (lv_at hl 0 rfl) ?_
    refine x_ref C hw fX_0_9 flX8_67 dX8_reigns_28 ?_
    refine lv_iload_n C.1.1 C.1.2.1 dX8_reigns_31 rfl (lv_at hl 1 rfl) ?_
    obtain ⟨q5, h5, hf⟩ := o_bind hf
    refine aft_v hw (run_VX C hw clX8_265 (As := [.int x1]) (rest := []) oX_34 (c_X5_lookAhead h5) rfl hl.1 rfl ⟨(Nat.le_of_ble_eq_true rfl), (Nat.le_of_ble_eq_true rfl)⟩ ⟨Nat.le_of_ble_eq_true rfl, Nat.le_of_ble_eq_true rfl⟩ rfl (Nat.le_of_ble_eq_true rfl) dX8_reigns_32) (fun H locs hw => ?_)
    refine lv_iload_n C.1.1 C.1.2.1 dX8_reigns_35 rfl (lv_at hl 2 rfl) ?_
    refine lv_if_ne (tgt := 49) C.1.1 C.1.2.1 dX8_reigns_36 (by decide) (fun c6 => ?_) (fun c6 => ?_)
    · have hf := o_f hf c6
      refine lv_aload_n C.1.1 C.1.2.1 dX8_reigns_49 rfl (lv_at hl 0 rfl) ?_
      refine x_ref C hw fX_0_9 flX8_67 dX8_reigns_50 ?_
      refine x_get C hw iX_34_6 flX8_271 dX8_reigns_53 ?_
      exact retx_i C hr hlk hw (Option.some.inj hf).symm (Nat.le_of_ble_eq_true rfl) (Nat.le_of_ble_eq_true rfl) dX8_reigns_56
    · have hf := o_t hf c6
      refine lv_aload_n C.1.1 C.1.2.1 dX8_reigns_39 rfl (lv_at hl 0 rfl) ?_
      refine x_ref C hw fX_0_9 flX8_67 dX8_reigns_40 ?_
      refine x_get C hw iX_34_5 flX8_268 dX8_reigns_43 ?_
      refine lv_goto (tgt := 56) C.1.1 C.1.2.1 dX8_reigns_46 (by decide) ?_
      exact retx_i C hr hlk hw (Option.some.inj hf).symm (Nat.le_of_ble_eq_true rfl) (Nat.le_of_ble_eq_true rfl) dX8_reigns_56
  · have hf := o_f hf c1
    refine lv_iload_n C.1.1 C.1.2.1 dX8_reigns_5 rfl (lv_at hl 1 rfl) ?_
    refine lv_bipush (v := (60 : Int32)) C.1.1 C.1.2.1 dX8_reigns_6 rfl ?_
    refine lv_icmp_gt (tgt := 15) C.1.1 C.1.2.1 dX8_reigns_8 (by decide) (fun c7 => ?_) (fun c7 => ?_)
    · have hf := o_t hf c7
      refine lv_iconst (v := (0 : Int32)) C.1.1 C.1.2.1 dX8_reigns_15 rfl ?_
      obtain ⟨q8, h8, hf⟩ := o_bind hf
      refine aftx_v hw (runx_VX C hw clX8_158 (tb2 212 rfl rfl) (As := [.int (0 : Int32)]) (rest := []) oX_0 (c_X8_need hst h8) rfl hl.1 rfl ⟨(Nat.le_of_ble_eq_true rfl), (Nat.le_of_ble_eq_true rfl)⟩ ⟨Nat.le_of_ble_eq_true rfl, Nat.le_of_ble_eq_true rfl⟩ rfl (Nat.le_of_ble_eq_true rfl) dX8_reigns_16) hf hnt hlk (Nat.le_of_ble_eq_true rfl) (Nat.le_of_ble_eq_true rfl) (fun hf H locs hw => ?_)
      refine lv_aload_n C.1.1 C.1.2.1 dX8_reigns_19 rfl (lv_at hl 0 rfl) ?_
      refine lv_iload_n C.1.1 C.1.2.1 dX8_reigns_20 rfl (lv_at hl 2 rfl) ?_
      obtain ⟨q9, h9, hf⟩ := o_bind hf
      refine aft_i hw (run_S C hw clX8_262 (As := [.int x2]) (rest := [.ref (gA G 0)]) (c_X8_isHalf h9) hl.1 rfl ⟨(Nat.le_of_ble_eq_true rfl), (Nat.le_of_ble_eq_true rfl)⟩ ⟨Nat.le_of_ble_eq_true rfl, Nat.le_of_ble_eq_true rfl⟩ rfl (Nat.le_of_ble_eq_true rfl) dX8_reigns_21) (fun H locs hw => ?_)
      obtain ⟨q10, h10, hf⟩ := o_bind hf
      refine aftx_v hw (runx_VX C hw clX8_158 (tb2 212 rfl rfl) (As := [.int q9]) (rest := []) oX_0 (c_X8_need hst h10) rfl hl.1 rfl ⟨(Nat.le_of_ble_eq_true rfl), (Nat.le_of_ble_eq_true rfl)⟩ ⟨Nat.le_of_ble_eq_true rfl, Nat.le_of_ble_eq_true rfl⟩ rfl (Nat.le_of_ble_eq_true rfl) dX8_reigns_24) hf hnt hlk (Nat.le_of_ble_eq_true rfl) (Nat.le_of_ble_eq_true rfl) (fun hf H locs hw => ?_)
      refine lv_aload_n C.1.1 C.1.2.1 dX8_reigns_27 rfl (lv_at hl 0 rfl) ?_
      refine x_ref C hw fX_0_9 flX8_67 dX8_reigns_28 ?_
      refine lv_iload_n C.1.1 C.1.2.1 dX8_reigns_31 rfl (lv_at hl 1 rfl) ?_
      obtain ⟨q11, h11, hf⟩ := o_bind hf
      refine aft_v hw (run_VX C hw clX8_265 (As := [.int x1]) (rest := []) oX_34 (c_X5_lookAhead h11) rfl hl.1 rfl ⟨(Nat.le_of_ble_eq_true rfl), (Nat.le_of_ble_eq_true rfl)⟩ ⟨Nat.le_of_ble_eq_true rfl, Nat.le_of_ble_eq_true rfl⟩ rfl (Nat.le_of_ble_eq_true rfl) dX8_reigns_32) (fun H locs hw => ?_)
      refine lv_iload_n C.1.1 C.1.2.1 dX8_reigns_35 rfl (lv_at hl 2 rfl) ?_
      refine lv_if_ne (tgt := 49) C.1.1 C.1.2.1 dX8_reigns_36 (by decide) (fun c12 => ?_) (fun c12 => ?_)
      · have hf := o_f hf c12
        refine lv_aload_n C.1.1 C.1.2.1 dX8_reigns_49 rfl (lv_at hl 0 rfl) ?_
        refine x_ref C hw fX_0_9 flX8_67 dX8_reigns_50 ?_
        refine x_get C hw iX_34_6 flX8_271 dX8_reigns_53 ?_
        exact retx_i C hr hlk hw (Option.some.inj hf).symm (Nat.le_of_ble_eq_true rfl) (Nat.le_of_ble_eq_true rfl) dX8_reigns_56
      · have hf := o_t hf c12
        refine lv_aload_n C.1.1 C.1.2.1 dX8_reigns_39 rfl (lv_at hl 0 rfl) ?_
        refine x_ref C hw fX_0_9 flX8_67 dX8_reigns_40 ?_
        refine x_get C hw iX_34_5 flX8_268 dX8_reigns_43 ?_
        refine lv_goto (tgt := 56) C.1.1 C.1.2.1 dX8_reigns_46 (by decide) ?_
        exact retx_i C hr hlk hw (Option.some.inj hf).symm (Nat.le_of_ble_eq_true rfl) (Nat.le_of_ble_eq_true rfl) dX8_reigns_56
    · have hf := o_f hf c7
      refine lv_iconst (v := (1 : Int32)) C.1.1 C.1.2.1 dX8_reigns_11 rfl ?_
      refine lv_goto (tgt := 16) C.1.1 C.1.2.1 dX8_reigns_12 (by decide) ?_
      obtain ⟨q13, h13, hf⟩ := o_bind hf
      refine aftx_v hw (runx_VX C hw clX8_158 (tb2 212 rfl rfl) (As := [.int (1 : Int32)]) (rest := []) oX_0 (c_X8_need hst h13) rfl hl.1 rfl ⟨(Nat.le_of_ble_eq_true rfl), (Nat.le_of_ble_eq_true rfl)⟩ ⟨Nat.le_of_ble_eq_true rfl, Nat.le_of_ble_eq_true rfl⟩ rfl (Nat.le_of_ble_eq_true rfl) dX8_reigns_16) hf hnt hlk (Nat.le_of_ble_eq_true rfl) (Nat.le_of_ble_eq_true rfl) (fun hf H locs hw => ?_)
      refine lv_aload_n C.1.1 C.1.2.1 dX8_reigns_19 rfl (lv_at hl 0 rfl) ?_
      refine lv_iload_n C.1.1 C.1.2.1 dX8_reigns_20 rfl (lv_at hl 2 rfl) ?_
      obtain ⟨q14, h14, hf⟩ := o_bind hf
      refine aft_i hw (run_S C hw clX8_262 (As := [.int x2]) (rest := [.ref (gA G 0)]) (c_X8_isHalf h14) hl.1 rfl ⟨(Nat.le_of_ble_eq_true rfl), (Nat.le_of_ble_eq_true rfl)⟩ ⟨Nat.le_of_ble_eq_true rfl, Nat.le_of_ble_eq_true rfl⟩ rfl (Nat.le_of_ble_eq_true rfl) dX8_reigns_21) (fun H locs hw => ?_)
      obtain ⟨q15, h15, hf⟩ := o_bind hf
      refine aftx_v hw (runx_VX C hw clX8_158 (tb2 212 rfl rfl) (As := [.int q14]) (rest := []) oX_0 (c_X8_need hst h15) rfl hl.1 rfl ⟨(Nat.le_of_ble_eq_true rfl), (Nat.le_of_ble_eq_true rfl)⟩ ⟨Nat.le_of_ble_eq_true rfl, Nat.le_of_ble_eq_true rfl⟩ rfl (Nat.le_of_ble_eq_true rfl) dX8_reigns_24) hf hnt hlk (Nat.le_of_ble_eq_true rfl) (Nat.le_of_ble_eq_true rfl) (fun hf H locs hw => ?_)
      refine lv_aload_n C.1.1 C.1.2.1 dX8_reigns_27 rfl (lv_at hl 0 rfl) ?_
      refine x_ref C hw fX_0_9 flX8_67 dX8_reigns_28 ?_
      refine lv_iload_n C.1.1 C.1.2.1 dX8_reigns_31 rfl (lv_at hl 1 rfl) ?_
      obtain ⟨q16, h16, hf⟩ := o_bind hf
      refine aft_v hw (run_VX C hw clX8_265 (As := [.int x1]) (rest := []) oX_34 (c_X5_lookAhead h16) rfl hl.1 rfl ⟨(Nat.le_of_ble_eq_true rfl), (Nat.le_of_ble_eq_true rfl)⟩ ⟨Nat.le_of_ble_eq_true rfl, Nat.le_of_ble_eq_true rfl⟩ rfl (Nat.le_of_ble_eq_true rfl) dX8_reigns_32) (fun H locs hw => ?_)
      refine lv_iload_n C.1.1 C.1.2.1 dX8_reigns_35 rfl (lv_at hl 2 rfl) ?_
      refine lv_if_ne (tgt := 49) C.1.1 C.1.2.1 dX8_reigns_36 (by decide) (fun c17 => ?_) (fun c17 => ?_)
      · have hf := o_f hf c17
        refine lv_aload_n C.1.1 C.1.2.1 dX8_reigns_49 rfl (lv_at hl 0 rfl) ?_
        refine x_ref C hw fX_0_9 flX8_67 dX8_reigns_50 ?_
        refine x_get C hw iX_34_6 flX8_271 dX8_reigns_53 ?_
        exact retx_i C hr hlk hw (Option.some.inj hf).symm (Nat.le_of_ble_eq_true rfl) (Nat.le_of_ble_eq_true rfl) dX8_reigns_56
      · have hf := o_t hf c17
        refine lv_aload_n C.1.1 C.1.2.1 dX8_reigns_39 rfl (lv_at hl 0 rfl) ?_
        refine x_ref C hw fX_0_9 flX8_67 dX8_reigns_40 ?_
        refine x_get C hw iX_34_5 flX8_268 dX8_reigns_43 ?_
        refine lv_goto (tgt := 56) C.1.1 C.1.2.1 dX8_reigns_46 (by decide) ?_
        exact retx_i C hr hlk hw (Option.some.inj hf).symm (Nat.le_of_ble_eq_true rfl) (Nat.le_of_ble_eq_true rfl) dX8_reigns_56
end
/-! WinnerDraws$Outlook.isAlike(II)Z (('o', 'X', 34) ('i',) ('i',)) -/
def L_X5_isAlike_2 : Nat → TX → Int32 → Int32 → Int32 → Option (Int32)
  | 0 => fun _ _ _ _ => none
  | n + 1 => fun X x1 x2 x3 => if (30 : Int32) < x3 then ((f_X8_at 36 X (x1 + (31 : Int32))).bind fun q2 => (f_X3_tideOf X q2).bind fun q3 => (f_X8_at 36 X (x2 + (31 : Int32))).bind fun q4 => (f_X3_tideOf X q4).bind fun q5 => if q3 = q5 then (some (1 : Int32)) else (some (0 : Int32))) else ((f_X8_at 36 X (x1 + x3)).bind fun q7 => (f_X8_at 36 X (x2 + x3)).bind fun q8 => if q7 = q8 then ((L_X5_isAlike_2 n) X x1 x2 (x3 + (1 : Int32))) else (some (0 : Int32)))
def f_X5_isAlike (X : TX) (x1 : Int32) (x2 : Int32) : Option (Int32) := L_X5_isAlike_2 FU X x1 x2 (0 : Int32)
section
variable {G : GP} {l : Launch}
set_option maxRecDepth 20000 in
set_option maxHeartbeats 2000000 in
theorem wL_X5_isAlike_2 {p : Program} {e : Env} {s : State} {m : MethodId} {args : Array Value} {below : List Frame} {meth : Method} {c : Code} (C : Cx G p s m args c cX5_isAlike 4 RX5) (hr : meth.sig.returnType = (some .boolean)) (hlk : meth.locks = false) {ro : Int32} : ∀ (n : Nat), ∀ (X : TX) (M : TX) (L : TL) (x1 : Int32) (x2 : Int32) (x3 : Int32) (H : Heap) (locs : List Loc) (ls : Array Slot), Wh G s X M L H locs → lv_has ls 4 [(0, .ref (gA G 34)), (1, .int x1), (2, .int x2), (3, .int x3)] → L_X5_isAlike_2 n X x1 x2 x3 = some ro → W p l e (rz 1 21) s m args below meth c H locs 0 0 (MQ below (Di G X M L ro) args s 0 0 (AB G)) (F0 m 2 ls []) := by
  intro n
  induction n with
  | zero =>
    intro X M L x1 x2 x3 H locs ls hw hl hf
    cases hf
  | succ n hk_2 =>
    intro X M L x1 x2 x3 H locs ls hw hl hf
    rw [L_X5_isAlike_2] at hf
    refine lv_iload_n C.1.1 C.1.2.1 dX5_isAlike_2 rfl (lv_at hl 3 rfl) ?_
    refine lv_bipush (v := (30 : Int32)) C.1.1 C.1.2.1 dX5_isAlike_3 rfl ?_
    refine lv_icmp_gt (tgt := 39) C.1.1 C.1.2.1 dX5_isAlike_5 (by decide) (fun c1 => ?_) (fun c1 => ?_)
    · have hf := o_t hf c1
      refine lv_aload_n C.1.1 C.1.2.1 dX5_isAlike_39 rfl (lv_at hl 0 rfl) ?_
      refine x_ref C hw fX_34_0 flX5_28 dX5_isAlike_40 ?_
      refine lv_aload_n C.1.1 C.1.2.1 dX5_isAlike_43 rfl (lv_at hl 0 rfl) ?_
      refine x_ref C hw fX_34_3 flX5_15 dX5_isAlike_44 ?_
      refine lv_iload_n C.1.1 C.1.2.1 dX5_isAlike_47 rfl (lv_at hl 1 rfl) ?_
      refine lv_bipush (v := (31 : Int32)) C.1.1 C.1.2.1 dX5_isAlike_48 rfl ?_
      refine lv_iadd C.1.1 C.1.2.1 dX5_isAlike_50 ?_
      obtain ⟨q2, h2, hf⟩ := o_bind hf
      refine aft_i hw (run_S C hw clX5_67 (As := [.ref (gA G 36), .int (x1 + (31 : Int32))]) (rest := [.ref (gA G 3)]) (c_X8_at aX_36 h2) hl.1 rfl ⟨(Nat.le_of_ble_eq_true rfl), (Nat.le_of_ble_eq_true rfl)⟩ ⟨Nat.zero_le _, Nat.zero_le _⟩ rfl (Nat.le_of_ble_eq_true rfl) dX5_isAlike_51) (fun H locs hw => ?_)
      obtain ⟨q3, h3, hf⟩ := o_bind hf
      refine aft_i hw (run_VX C hw clX5_71 (As := [.int q2]) (rest := []) oX_3 (c_X3_tideOf h3) rfl hl.1 rfl ⟨(Nat.le_of_ble_eq_true rfl), (Nat.le_of_ble_eq_true rfl)⟩ ⟨Nat.zero_le _, Nat.zero_le _⟩ rfl (Nat.le_of_ble_eq_true rfl) dX5_isAlike_54) (fun H locs hw => ?_)
      refine lv_aload_n C.1.1 C.1.2.1 dX5_isAlike_57 rfl (lv_at hl 0 rfl) ?_
      refine x_ref C hw fX_34_0 flX5_28 dX5_isAlike_58 ?_
      refine lv_aload_n C.1.1 C.1.2.1 dX5_isAlike_61 rfl (lv_at hl 0 rfl) ?_
      refine x_ref C hw fX_34_3 flX5_15 dX5_isAlike_62 ?_
      refine lv_iload_n C.1.1 C.1.2.1 dX5_isAlike_65 rfl (lv_at hl 2 rfl) ?_
      refine lv_bipush (v := (31 : Int32)) C.1.1 C.1.2.1 dX5_isAlike_66 rfl ?_
      refine lv_iadd C.1.1 C.1.2.1 dX5_isAlike_68 ?_
      obtain ⟨q4, h4, hf⟩ := o_bind hf
      refine aft_i hw (run_S C hw clX5_67 (As := [.ref (gA G 36), .int (x2 + (31 : Int32))]) (rest := [.ref (gA G 3), .int q3]) (c_X8_at aX_36 h4) hl.1 rfl ⟨(Nat.le_of_ble_eq_true rfl), (Nat.le_of_ble_eq_true rfl)⟩ ⟨Nat.zero_le _, Nat.zero_le _⟩ rfl (Nat.le_of_ble_eq_true rfl) dX5_isAlike_69) (fun H locs hw => ?_)
      obtain ⟨q5, h5, hf⟩ := o_bind hf
      refine aft_i hw (run_VX C hw clX5_71 (As := [.int q4]) (rest := [.int q3]) oX_3 (c_X3_tideOf h5) rfl hl.1 rfl ⟨(Nat.le_of_ble_eq_true rfl), (Nat.le_of_ble_eq_true rfl)⟩ ⟨Nat.zero_le _, Nat.zero_le _⟩ rfl (Nat.le_of_ble_eq_true rfl) dX5_isAlike_72) (fun H locs hw => ?_)
      refine lv_icmp_ne (tgt := 82) C.1.1 C.1.2.1 dX5_isAlike_75 (by decide) (fun c6 => ?_) (fun c6 => ?_)
      · have hf := o_f hf c6
        refine lv_iconst (v := (0 : Int32)) C.1.1 C.1.2.1 dX5_isAlike_82 rfl ?_
        obtain rfl := Option.some.inj hf
        exact ret_z (r := (0 : Int32)) C hr hlk hw rfl dX5_isAlike_83
      · have hf := o_t hf c6
        refine lv_iconst (v := (1 : Int32)) C.1.1 C.1.2.1 dX5_isAlike_78 rfl ?_
        refine lv_goto (tgt := 83) C.1.1 C.1.2.1 dX5_isAlike_79 (by decide) ?_
        obtain rfl := Option.some.inj hf
        exact ret_z (r := (1 : Int32)) C hr hlk hw rfl dX5_isAlike_83
    · have hf := o_f hf c1
      refine lv_aload_n C.1.1 C.1.2.1 dX5_isAlike_8 rfl (lv_at hl 0 rfl) ?_
      refine x_ref C hw fX_34_3 flX5_15 dX5_isAlike_9 ?_
      refine lv_iload_n C.1.1 C.1.2.1 dX5_isAlike_12 rfl (lv_at hl 1 rfl) ?_
      refine lv_iload_n C.1.1 C.1.2.1 dX5_isAlike_13 rfl (lv_at hl 3 rfl) ?_
      refine lv_iadd C.1.1 C.1.2.1 dX5_isAlike_14 ?_
      obtain ⟨q7, h7, hf⟩ := o_bind hf
      refine aft_i hw (run_S C hw clX5_67 (As := [.ref (gA G 36), .int (x1 + x3)]) (rest := []) (c_X8_at aX_36 h7) hl.1 rfl ⟨(Nat.le_of_ble_eq_true rfl), (Nat.le_of_ble_eq_true rfl)⟩ ⟨Nat.zero_le _, Nat.zero_le _⟩ rfl (Nat.le_of_ble_eq_true rfl) dX5_isAlike_15) (fun H locs hw => ?_)
      refine lv_aload_n C.1.1 C.1.2.1 dX5_isAlike_18 rfl (lv_at hl 0 rfl) ?_
      refine x_ref C hw fX_34_3 flX5_15 dX5_isAlike_19 ?_
      refine lv_iload_n C.1.1 C.1.2.1 dX5_isAlike_22 rfl (lv_at hl 2 rfl) ?_
      refine lv_iload_n C.1.1 C.1.2.1 dX5_isAlike_23 rfl (lv_at hl 3 rfl) ?_
      refine lv_iadd C.1.1 C.1.2.1 dX5_isAlike_24 ?_
      obtain ⟨q8, h8, hf⟩ := o_bind hf
      refine aft_i hw (run_S C hw clX5_67 (As := [.ref (gA G 36), .int (x2 + x3)]) (rest := [.int q7]) (c_X8_at aX_36 h8) hl.1 rfl ⟨(Nat.le_of_ble_eq_true rfl), (Nat.le_of_ble_eq_true rfl)⟩ ⟨Nat.zero_le _, Nat.zero_le _⟩ rfl (Nat.le_of_ble_eq_true rfl) dX5_isAlike_25) (fun H locs hw => ?_)
      refine lv_icmp_eq (tgt := 33) C.1.1 C.1.2.1 dX5_isAlike_28 (by decide) (fun c9 => ?_) (fun c9 => ?_)
      · have hf := o_t hf c9
        refine lv_iinc (v := (x3 + (1 : Int32))) (lv' := [(3, .int (x3 + (1 : Int32))), (0, .ref (gA G 34)), (1, .int x1), (2, .int x2)]) C.1.1 C.1.2.1 dX5_isAlike_33 hl (k := 3) rfl rfl (by decide) rfl (fun ls hl => ?_)
        refine lv_goto (tgt := 2) C.1.1 C.1.2.1 dX5_isAlike_36 (by decide) ?_
        exact hk_2 X M L x1 x2 (x3 + (1 : Int32)) _ _ _ hw (lv_sub hl [1, 2, 3, 0] rfl) hf
      · have hf := o_f hf c9
        refine lv_iconst (v := (0 : Int32)) C.1.1 C.1.2.1 dX5_isAlike_31 rfl ?_
        obtain rfl := Option.some.inj hf
        exact ret_z (r := (0 : Int32)) C hr hlk hw rfl dX5_isAlike_32
set_option maxRecDepth 20000 in
set_option maxHeartbeats 2000000 in
theorem c_X5_isAlike   {X M : TX} {L : TL} {x1 : Int32} {x2 : Int32} {ro : Int32} (hf : f_X5_isAlike X x1 x2 = some ro) : CTi G l yX5_isAlike cX5_isAlike 4 (some .boolean) 1 21 [.ref (gA G 34), .int x1, .int x2] X M L X M L ro := by
  unfold f_X5_isAlike at hf
  refine ct_of (by decide +kernel) (Nat.le_of_ble_eq_true rfl) (fun p e s m args below meth c H locs ls C hr hlk hw hl => ?_)
  have C : Cx G p s m args c cX5_isAlike 4 RX5 := C
  have hl : lv_has ls 4 [(0, .ref (gA G 34)), (1, .int x1), (2, .int x2)] := hl
  refine lv_iconst (v := (0 : Int32)) C.1.1 C.1.2.1 dX5_isAlike_0 rfl ?_
  refine lv_istore_n (lv' := [(3, .int (0 : Int32)), (0, .ref (gA G 34)), (1, .int x1), (2, .int x2)]) C.1.1 C.1.2.1 dX5_isAlike_1 rfl hl (by decide) rfl (fun ls hl => ?_)
  exact wL_X5_isAlike_2 C hr hlk FU X M L x1 x2 (0 : Int32) _ _ _ hw (lv_sub hl [1, 2, 3, 0] rfl) hf
end
/-! WinnerDraws$Outlook.findRound()V (('o', 'X', 34)) -/
def L_X5_findRound_67 (k_59 : TX → Int32 → Option (TX)) : Nat → TX → Int32 → Int32 → Option (TX)
  | 0 => fun _ _ _ => none
  | n + 1 => fun X x1 x2 => if (60 : Int32) < (x1 + x2) then (k_59 X (x1 + (1 : Int32))) else ((f_X5_isAlike X (x1 * (34 : Int32)) ((x1 + x2) * (34 : Int32))).bind fun q6 => if q6 = 0 then ((L_X5_findRound_67 k_59 n) X x1 (x2 + (1 : Int32))) else (some (u2 (u2 X 34 7 x1) 34 8 x2)))
def L_X5_findRound_59 : Nat → TX → Int32 → Option (TX)
  | 0 => fun _ _ => none
  | n + 1 => fun X x1 => if (60 : Int32) ≤ x1 then (some (u2 (u2 X 34 7 (-1 : Int32)) 34 8 (-1 : Int32))) else (L_X5_findRound_67 (L_X5_findRound_59 n) FU X x1 (1 : Int32))
def L_X5_findRound_14 : Nat → TX → Int32 → Option (TX)
  | 0 => fun _ _ => none
  | n + 1 => fun X x1 => if (60 : Int32) < x1 then ((f_X3_load 35 X (0 : Int32)).bind fun q3 => L_X5_findRound_59 FU q3 (0 : Int32)) else ((f_X3_save 36 X (x1 * (34 : Int32))).bind fun q8 => (f_X5_pass q8).bind fun q9 => (L_X5_findRound_14 n) q9 (x1 + (1 : Int32)))
def f_X5_findRound (X : TX) : Option (TX) := (f_X3_save 35 X (0 : Int32)).bind fun q1 => L_X5_findRound_14 FU q1 (0 : Int32)
section
variable {G : GP} {l : Launch}
set_option maxRecDepth 20000 in
set_option maxHeartbeats 2000000 in
theorem wL_X5_findRound_67 {p : Program} {e : Env} {s : State} {m : MethodId} {args : Array Value} {below : List Frame} {meth : Method} {c : Code} (C : Cx G p s m args c cX5_findRound 3 RX5) (hr : meth.sig.returnType = none) (hlk : meth.locks = false) {ro : TX} {k_59 : TX → Int32 → Option (TX)} (hk_59 : ∀ (X : TX) (M : TX) (L : TL) (x1 : Int32) (H : Heap) (locs : List Loc) (ls : Array Slot), Wh G s X M L H locs → lv_has ls 3 [(0, .ref (gA G 34)), (1, .int x1)] → k_59 X x1 = some ro → W p l e (rz 7 167) s m args below meth c H locs 0 0 (MQ below (Dv G ro M L) args s 0 0 (AB G)) (F0 m 59 ls [])) : ∀ (n : Nat), ∀ (X : TX) (M : TX) (L : TL) (x1 : Int32) (x2 : Int32) (H : Heap) (locs : List Loc) (ls : Array Slot), Wh G s X M L H locs → lv_has ls 3 [(0, .ref (gA G 34)), (1, .int x1), (2, .int x2)] → L_X5_findRound_67 k_59 n X x1 x2 = some ro → W p l e (rz 7 167) s m args below meth c H locs 0 0 (MQ below (Dv G ro M L) args s 0 0 (AB G)) (F0 m 67 ls []) := by
  intro n
  induction n with
  | zero =>
    intro X M L x1 x2 H locs ls hw hl hf
    cases hf
  | succ n hk_67 =>
    intro X M L x1 x2 H locs ls hw hl hf
    rw [L_X5_findRound_67] at hf
    refine lv_iload_n C.1.1 C.1.2.1 dX5_findRound_67 rfl (lv_at hl 1 rfl) ?_
    refine lv_iload_n C.1.1 C.1.2.1 dX5_findRound_68 rfl (lv_at hl 2 rfl) ?_
    refine lv_iadd C.1.1 C.1.2.1 dX5_findRound_69 ?_
    refine lv_bipush (v := (60 : Int32)) C.1.1 C.1.2.1 dX5_findRound_70 rfl ?_
    refine lv_icmp_gt (tgt := 109) C.1.1 C.1.2.1 dX5_findRound_72 (by decide) (fun c5 => ?_) (fun c5 => ?_)
    · have hf := o_t hf c5
      refine lv_iinc (v := (x1 + (1 : Int32))) (lv' := [(1, .int (x1 + (1 : Int32))), (0, .ref (gA G 34)), (2, .int x2)]) C.1.1 C.1.2.1 dX5_findRound_109 hl (k := 1) rfl rfl (by decide) rfl (fun ls hl => ?_)
      refine lv_goto (tgt := 59) C.1.1 C.1.2.1 dX5_findRound_112 (by decide) ?_
      exact hk_59 X M L (x1 + (1 : Int32)) _ _ _ hw (lv_sub hl [1, 0] rfl) hf
    · have hf := o_f hf c5
      refine lv_aload_n C.1.1 C.1.2.1 dX5_findRound_75 rfl (lv_at hl 0 rfl) ?_
      refine lv_iload_n C.1.1 C.1.2.1 dX5_findRound_76 rfl (lv_at hl 1 rfl) ?_
      refine lv_bipush (v := (34 : Int32)) C.1.1 C.1.2.1 dX5_findRound_77 rfl ?_
      refine lv_imul C.1.1 C.1.2.1 dX5_findRound_79 ?_
      refine lv_iload_n C.1.1 C.1.2.1 dX5_findRound_80 rfl (lv_at hl 1 rfl) ?_
      refine lv_iload_n C.1.1 C.1.2.1 dX5_findRound_81 rfl (lv_at hl 2 rfl) ?_
      refine lv_iadd C.1.1 C.1.2.1 dX5_findRound_82 ?_
      refine lv_bipush (v := (34 : Int32)) C.1.1 C.1.2.1 dX5_findRound_83 rfl ?_
      refine lv_imul C.1.1 C.1.2.1 dX5_findRound_85 ?_
      obtain ⟨q6, h6, hf⟩ := o_bind hf
      refine aft_i hw (run_VX C hw clX5_63 (As := [.int (x1 * (34 : Int32)), .int ((x1 + x2) * (34 : Int32))]) (rest := []) oX_34 (c_X5_isAlike h6) rfl hl.1 rfl ⟨(Nat.le_of_ble_eq_true rfl), (Nat.le_of_ble_eq_true rfl)⟩ ⟨Nat.zero_le _, Nat.zero_le _⟩ rfl (Nat.le_of_ble_eq_true rfl) dX5_findRound_86) (fun H locs hw => ?_)
      refine lv_if_eq (tgt := 103) C.1.1 C.1.2.1 dX5_findRound_89 (by decide) (fun c7 => ?_) (fun c7 => ?_)
      · have hf := o_t hf c7
        refine lv_iinc (v := (x2 + (1 : Int32))) (lv' := [(2, .int (x2 + (1 : Int32))), (0, .ref (gA G 34)), (1, .int x1)]) C.1.1 C.1.2.1 dX5_findRound_103 hl (k := 2) rfl rfl (by decide) rfl (fun ls hl => ?_)
        refine lv_goto (tgt := 67) C.1.1 C.1.2.1 dX5_findRound_106 (by decide) ?_
        exact hk_67 X M L x1 (x2 + (1 : Int32)) _ _ _ hw (lv_sub hl [1, 2, 0] rfl) hf
      · have hf := o_f hf c7
        refine lv_aload_n C.1.1 C.1.2.1 dX5_findRound_92 rfl (lv_at hl 0 rfl) ?_
        refine lv_iload_n C.1.1 C.1.2.1 dX5_findRound_93 rfl (lv_at hl 1 rfl) ?_
        refine x_put C hw iX_34_7 flX5_22 dX5_findRound_94 (fun H locs hw => ?_)
        refine lv_aload_n C.1.1 C.1.2.1 dX5_findRound_97 rfl (lv_at hl 0 rfl) ?_
        refine lv_iload_n C.1.1 C.1.2.1 dX5_findRound_98 rfl (lv_at hl 2 rfl) ?_
        refine x_put C hw iX_34_8 flX5_25 dX5_findRound_99 (fun H locs hw => ?_)
        obtain rfl := Option.some.inj hf
        exact ret_v C hr hlk hw dX5_findRound_102
set_option maxRecDepth 20000 in
set_option maxHeartbeats 2000000 in
theorem wL_X5_findRound_59 {p : Program} {e : Env} {s : State} {m : MethodId} {args : Array Value} {below : List Frame} {meth : Method} {c : Code} (C : Cx G p s m args c cX5_findRound 3 RX5) (hr : meth.sig.returnType = none) (hlk : meth.locks = false) {ro : TX} : ∀ (n : Nat), ∀ (X : TX) (M : TX) (L : TL) (x1 : Int32) (H : Heap) (locs : List Loc) (ls : Array Slot), Wh G s X M L H locs → lv_has ls 3 [(0, .ref (gA G 34)), (1, .int x1)] → L_X5_findRound_59 n X x1 = some ro → W p l e (rz 7 167) s m args below meth c H locs 0 0 (MQ below (Dv G ro M L) args s 0 0 (AB G)) (F0 m 59 ls []) := by
  intro n
  induction n with
  | zero =>
    intro X M L x1 H locs ls hw hl hf
    cases hf
  | succ n hk_59 =>
    intro X M L x1 H locs ls hw hl hf
    rw [L_X5_findRound_59] at hf
    refine lv_iload_n C.1.1 C.1.2.1 dX5_findRound_59 rfl (lv_at hl 1 rfl) ?_
    refine lv_bipush (v := (60 : Int32)) C.1.1 C.1.2.1 dX5_findRound_60 rfl ?_
    refine lv_icmp_ge (tgt := 115) C.1.1 C.1.2.1 dX5_findRound_62 (by decide) (fun c4 => ?_) (fun c4 => ?_)
    · have hf := o_t hf c4
      refine lv_aload_n C.1.1 C.1.2.1 dX5_findRound_115 rfl (lv_at hl 0 rfl) ?_
      refine lv_iconst (v := (-1 : Int32)) C.1.1 C.1.2.1 dX5_findRound_116 rfl ?_
      refine x_put C hw iX_34_7 flX5_22 dX5_findRound_117 (fun H locs hw => ?_)
      refine lv_aload_n C.1.1 C.1.2.1 dX5_findRound_120 rfl (lv_at hl 0 rfl) ?_
      refine lv_iconst (v := (-1 : Int32)) C.1.1 C.1.2.1 dX5_findRound_121 rfl ?_
      refine x_put C hw iX_34_8 flX5_25 dX5_findRound_122 (fun H locs hw => ?_)
      obtain rfl := Option.some.inj hf
      exact ret_v C hr hlk hw dX5_findRound_125
    · have hf := o_f hf c4
      refine lv_iconst (v := (1 : Int32)) C.1.1 C.1.2.1 dX5_findRound_65 rfl ?_
      refine lv_istore_n (lv' := [(2, .int (1 : Int32)), (0, .ref (gA G 34)), (1, .int x1)]) C.1.1 C.1.2.1 dX5_findRound_66 rfl hl (by decide) rfl (fun ls hl => ?_)
      exact wL_X5_findRound_67 C hr hlk hk_59 FU X M L x1 (1 : Int32) _ _ _ hw (lv_sub hl [1, 2, 0] rfl) hf
set_option maxRecDepth 20000 in
set_option maxHeartbeats 2000000 in
theorem wL_X5_findRound_14 {p : Program} {e : Env} {s : State} {m : MethodId} {args : Array Value} {below : List Frame} {meth : Method} {c : Code} (C : Cx G p s m args c cX5_findRound 3 RX5) (hr : meth.sig.returnType = none) (hlk : meth.locks = false) {ro : TX} : ∀ (n : Nat), ∀ (X : TX) (M : TX) (L : TL) (x1 : Int32) (H : Heap) (locs : List Loc) (ls : Array Slot), Wh G s X M L H locs → lv_has ls 3 [(0, .ref (gA G 34)), (1, .int x1)] → L_X5_findRound_14 n X x1 = some ro → W p l e (rz 7 167) s m args below meth c H locs 0 0 (MQ below (Dv G ro M L) args s 0 0 (AB G)) (F0 m 14 ls []) := by
  intro n
  induction n with
  | zero =>
    intro X M L x1 H locs ls hw hl hf
    cases hf
  | succ n hk_14 =>
    intro X M L x1 H locs ls hw hl hf
    rw [L_X5_findRound_14] at hf
    refine lv_iload_n C.1.1 C.1.2.1 dX5_findRound_14 rfl (lv_at hl 1 rfl) ?_
    refine lv_bipush (v := (60 : Int32)) C.1.1 C.1.2.1 dX5_findRound_15 rfl ?_
    refine lv_icmp_gt (tgt := 45) C.1.1 C.1.2.1 dX5_findRound_17 (by decide) (fun c2 => ?_) (fun c2 => ?_)
    · have hf := o_t hf c2
      refine lv_aload_n C.1.1 C.1.2.1 dX5_findRound_45 rfl (lv_at hl 0 rfl) ?_
      refine x_ref C hw fX_34_0 flX5_28 dX5_findRound_46 ?_
      refine lv_aload_n C.1.1 C.1.2.1 dX5_findRound_49 rfl (lv_at hl 0 rfl) ?_
      refine x_ref C hw fX_34_2 flX5_9 dX5_findRound_50 ?_
      refine lv_iconst (v := (0 : Int32)) C.1.1 C.1.2.1 dX5_findRound_53 rfl ?_
      obtain ⟨q3, h3, hf⟩ := o_bind hf
      refine aft_v hw (run_VX C hw clX5_60 (As := [.ref (gA G 35), .int (0 : Int32)]) (rest := []) oX_3 (c_X3_load aX_35 h3) rfl hl.1 rfl ⟨(Nat.le_of_ble_eq_true rfl), (Nat.le_of_ble_eq_true rfl)⟩ ⟨Nat.zero_le _, Nat.zero_le _⟩ rfl (Nat.le_of_ble_eq_true rfl) dX5_findRound_54) (fun H locs hw => ?_)
      refine lv_iconst (v := (0 : Int32)) C.1.1 C.1.2.1 dX5_findRound_57 rfl ?_
      refine lv_istore_n (lv' := [(1, .int (0 : Int32)), (0, .ref (gA G 34))]) C.1.1 C.1.2.1 dX5_findRound_58 rfl hl (by decide) rfl (fun ls hl => ?_)
      exact wL_X5_findRound_59 C hr hlk FU q3 M L (0 : Int32) _ _ _ hw (lv_sub hl [1, 0] rfl) hf
    · have hf := o_f hf c2
      refine lv_aload_n C.1.1 C.1.2.1 dX5_findRound_20 rfl (lv_at hl 0 rfl) ?_
      refine x_ref C hw fX_34_0 flX5_28 dX5_findRound_21 ?_
      refine lv_aload_n C.1.1 C.1.2.1 dX5_findRound_24 rfl (lv_at hl 0 rfl) ?_
      refine x_ref C hw fX_34_3 flX5_15 dX5_findRound_25 ?_
      refine lv_iload_n C.1.1 C.1.2.1 dX5_findRound_28 rfl (lv_at hl 1 rfl) ?_
      refine lv_bipush (v := (34 : Int32)) C.1.1 C.1.2.1 dX5_findRound_29 rfl ?_
      refine lv_imul C.1.1 C.1.2.1 dX5_findRound_31 ?_
      obtain ⟨q8, h8, hf⟩ := o_bind hf
      refine aft_v hw (run_VX C hw clX5_47 (As := [.ref (gA G 36), .int (x1 * (34 : Int32))]) (rest := []) oX_3 (c_X3_save aX_36 h8) rfl hl.1 rfl ⟨(Nat.le_of_ble_eq_true rfl), (Nat.le_of_ble_eq_true rfl)⟩ ⟨Nat.zero_le _, Nat.zero_le _⟩ rfl (Nat.le_of_ble_eq_true rfl) dX5_findRound_32) (fun H locs hw => ?_)
      refine lv_aload_n C.1.1 C.1.2.1 dX5_findRound_35 rfl (lv_at hl 0 rfl) ?_
      obtain ⟨q9, h9, hf⟩ := o_bind hf
      refine aft_v hw (run_VX C hw clX5_57 (As := []) (rest := []) oX_34 (c_X5_pass h9) rfl hl.1 rfl ⟨(Nat.le_of_ble_eq_true rfl), (Nat.le_of_ble_eq_true rfl)⟩ ⟨Nat.zero_le _, Nat.zero_le _⟩ rfl (Nat.le_of_ble_eq_true rfl) dX5_findRound_36) (fun H locs hw => ?_)
      refine lv_iinc (v := (x1 + (1 : Int32))) (lv' := [(1, .int (x1 + (1 : Int32))), (0, .ref (gA G 34))]) C.1.1 C.1.2.1 dX5_findRound_39 hl (k := 1) rfl rfl (by decide) rfl (fun ls hl => ?_)
      refine lv_goto (tgt := 14) C.1.1 C.1.2.1 dX5_findRound_42 (by decide) ?_
      exact hk_14 q9 M L (x1 + (1 : Int32)) _ _ _ hw (lv_sub hl [1, 0] rfl) hf
set_option maxRecDepth 20000 in
set_option maxHeartbeats 2000000 in
theorem c_X5_findRound   {X M : TX} {L : TL}  {ro : TX} (hf : f_X5_findRound X = some ro) : CTv G l yX5_findRound cX5_findRound 3 none 7 167 [.ref (gA G 34)] X M L ro M L := by
  unfold f_X5_findRound at hf
  refine ct_of (by decide +kernel) (Nat.le_of_ble_eq_true rfl) (fun p e s m args below meth c H locs ls C hr hlk hw hl => ?_)
  have C : Cx G p s m args c cX5_findRound 3 RX5 := C
  have hl : lv_has ls 3 [(0, .ref (gA G 34))] := hl
  refine lv_aload_n C.1.1 C.1.2.1 dX5_findRound_0 rfl (lv_at hl 0 rfl) ?_
  refine x_ref C hw fX_34_0 flX5_28 dX5_findRound_1 ?_
  refine lv_aload_n C.1.1 C.1.2.1 dX5_findRound_4 rfl (lv_at hl 0 rfl) ?_
  refine x_ref C hw fX_34_2 flX5_9 dX5_findRound_5 ?_
  refine lv_iconst (v := (0 : Int32)) C.1.1 C.1.2.1 dX5_findRound_8 rfl ?_
  obtain ⟨q1, h1, hf⟩ := o_bind hf
  refine aft_v hw (run_VX C hw clX5_47 (As := [.ref (gA G 35), .int (0 : Int32)]) (rest := []) oX_3 (c_X3_save aX_35 h1) rfl hl.1 rfl ⟨(Nat.le_of_ble_eq_true rfl), (Nat.le_of_ble_eq_true rfl)⟩ ⟨Nat.zero_le _, Nat.zero_le _⟩ rfl (Nat.le_of_ble_eq_true rfl) dX5_findRound_9) (fun H locs hw => ?_)
  refine lv_iconst (v := (0 : Int32)) C.1.1 C.1.2.1 dX5_findRound_12 rfl ?_
  refine lv_istore_n (lv' := [(1, .int (0 : Int32)), (0, .ref (gA G 34))]) C.1.1 C.1.2.1 dX5_findRound_13 rfl hl (by decide) rfl (fun ls hl => ?_)
  exact wL_X5_findRound_14 C hr hlk FU q1 M L (0 : Int32) _ _ _ hw (lv_sub hl [1, 0] rfl) hf
end
/-! WinnerDraws.round(I)I (('o', 'X', 0) ('i',)) -/
def f_X8_round (X : TX) (x1 : Int32) : Option (TX × (Int32 ⊕ Nat)) := (f_X8_isHalf x1).bind fun q1 => (f_X8_need X q1).bind fun q2 => xb q2 (fun _ _ => (f_X5_findRound q2.1).bind fun q3 => if x1 = 0 then (some (q3, .inl (q3 34 7))) else (some (q3, .inl (q3 34 8))))
section
variable {G : GP} {l : Launch}
set_option maxRecDepth 20000 in
set_option maxHeartbeats 2000000 in
theorem c_X8_round (hst : l.stackTraces = false)  {X M : TX} {L : TL} {x1 : Int32} {ro : TX × (Int32 ⊕ Nat)} (hf : f_X8_round X x1 = some ro) : CXi G l yX8_round cX8_round 2 (some .int) 8 189 1 [.ref (gA G 0), .int x1] X M L ro := by
  unfold f_X8_round at hf
  refine cx_of (by decide +kernel) (Nat.le_of_ble_eq_true rfl) (fun p e s m args below meth c H locs ls C hr hlk hnt hw hl => ?_)
  have C : Cx G p s m args c cX8_round 2 RX8 := C
  have hl : lv_has ls 2 [(0, .ref (gA G 0)), (1, .int x1)] := hl
  refine lv_aload_n C.1.1 C.1.2.1 dX8_round_0 rfl (lv_at hl 0 rfl) ?_
  refine lv_iload_n C.1.1 C.1.2.1 dX8_round_1 rfl (lv_at hl 1 rfl) ?_
  obtain ⟨q1, h1, hf⟩ := o_bind hf
  refine aft_i hw (run_S C hw clX8_262 (As := [.int x1]) (rest := [.ref (gA G 0)]) (c_X8_isHalf h1) hl.1 rfl ⟨(Nat.le_of_ble_eq_true rfl), (Nat.le_of_ble_eq_true rfl)⟩ ⟨Nat.le_of_ble_eq_true rfl, Nat.le_of_ble_eq_true rfl⟩ rfl (Nat.le_of_ble_eq_true rfl) dX8_round_2) (fun H locs hw => ?_)
  obtain ⟨q2, h2, hf⟩ := o_bind hf
  refine aftx_v hw (runx_VX C hw clX8_158 (tb2 212 rfl rfl) (As := [.int q1]) (rest := []) oX_0 (c_X8_need hst h2) rfl hl.1 rfl ⟨(Nat.le_of_ble_eq_true rfl), (Nat.le_of_ble_eq_true rfl)⟩ ⟨Nat.le_of_ble_eq_true rfl, Nat.le_of_ble_eq_true rfl⟩ rfl (Nat.le_of_ble_eq_true rfl) dX8_round_5) hf hnt hlk (Nat.le_of_ble_eq_true rfl) (Nat.le_of_ble_eq_true rfl) (fun hf H locs hw => ?_)
  refine lv_aload_n C.1.1 C.1.2.1 dX8_round_8 rfl (lv_at hl 0 rfl) ?_
  refine x_ref C hw fX_0_9 flX8_67 dX8_round_9 ?_
  obtain ⟨q3, h3, hf⟩ := o_bind hf
  refine aft_v hw (run_VX C hw clX8_274 (As := []) (rest := []) oX_34 (c_X5_findRound h3) rfl hl.1 rfl ⟨(Nat.le_of_ble_eq_true rfl), (Nat.le_of_ble_eq_true rfl)⟩ ⟨Nat.le_of_ble_eq_true rfl, Nat.le_of_ble_eq_true rfl⟩ rfl (Nat.le_of_ble_eq_true rfl) dX8_round_12) (fun H locs hw => ?_)
  refine lv_iload_n C.1.1 C.1.2.1 dX8_round_15 rfl (lv_at hl 1 rfl) ?_
  refine lv_if_ne (tgt := 29) C.1.1 C.1.2.1 dX8_round_16 (by decide) (fun c4 => ?_) (fun c4 => ?_)
  · have hf := o_f hf c4
    refine lv_aload_n C.1.1 C.1.2.1 dX8_round_29 rfl (lv_at hl 0 rfl) ?_
    refine x_ref C hw fX_0_9 flX8_67 dX8_round_30 ?_
    refine x_get C hw iX_34_8 flX8_280 dX8_round_33 ?_
    exact retx_i C hr hlk hw (Option.some.inj hf).symm (Nat.le_of_ble_eq_true rfl) (Nat.le_of_ble_eq_true rfl) dX8_round_36
  · have hf := o_t hf c4
    refine lv_aload_n C.1.1 C.1.2.1 dX8_round_19 rfl (lv_at hl 0 rfl) ?_
    refine x_ref C hw fX_0_9 flX8_67 dX8_round_20 ?_
    refine x_get C hw iX_34_7 flX8_277 dX8_round_23 ?_
    refine lv_goto (tgt := 36) C.1.1 C.1.2.1 dX8_round_26 (by decide) ?_
    exact retx_i C hr hlk hw (Option.some.inj hf).symm (Nat.le_of_ble_eq_true rfl) (Nat.le_of_ble_eq_true rfl) dX8_round_36
end
/-! WinnerDraws$County.marginHad(II)I (('o', 'X', 3) ('i',) ('i',)) -/
def L_X3_marginHad_17 (k_5 : TX → Int32 → Int32 → Int32 → Int32 → Option (Int32)) : Nat → TX → Int32 → Int32 → Int32 → Int32 → Int32 → Int32 → Option (Int32)
  | 0 => fun _ _ _ _ _ _ _ => none
  | n + 1 => fun X x1 x2 x3 x4 x5 x6 => if (X 3 5) ≤ x6 then ((f_J6_compare_7cf53 x5 (0 : Int32)).bind fun q3 => k_5 X x1 x2 (x3 + q3) (x4 + (1 : Int32))) else ((f_X3_wardOf X x6).bind fun q4 => if q4 = x4 then ((f_X3_votesOf X ((1 : Int32) - x1) x6).bind fun q6 => (f_X3_votesOf X x1 x6).bind fun q7 => (L_X3_marginHad_17 k_5 n) X x1 x2 x3 x4 (x5 + ((q7 - q6) + ((2 : Int32) * ((q6 * x2) / (100 : Int32))))) (x6 + (1 : Int32))) else ((L_X3_marginHad_17 k_5 n) X x1 x2 x3 x4 x5 (x6 + (1 : Int32))))
def L_X3_marginHad_5 : Nat → TX → Int32 → Int32 → Int32 → Int32 → Option (Int32)
  | 0 => fun _ _ _ _ _ => none
  | n + 1 => fun X x1 x2 x3 x4 => if (4 : Int32) ≤ x4 then (some x3) else (L_X3_marginHad_17 (L_X3_marginHad_5 n) FU X x1 x2 x3 x4 (0 : Int32) (0 : Int32))
def f_X3_marginHad (X : TX) (x1 : Int32) (x2 : Int32) : Option (Int32) := L_X3_marginHad_5 FU X x1 x2 (0 : Int32) (0 : Int32)
section
variable {G : GP} {l : Launch}
set_option maxRecDepth 20000 in
set_option maxHeartbeats 2000000 in
theorem wL_X3_marginHad_17 {p : Program} {e : Env} {s : State} {m : MethodId} {args : Array Value} {below : List Frame} {meth : Method} {c : Code} (C : Cx G p s m args c cX3_marginHad 8 RX3) (hr : meth.sig.returnType = (some .int)) (hlk : meth.locks = false) {ro : Int32} {k_5 : TX → Int32 → Int32 → Int32 → Int32 → Option (Int32)} (hk_5 : ∀ (X : TX) (M : TX) (L : TL) (x1 : Int32) (x2 : Int32) (x3 : Int32) (x4 : Int32) (H : Heap) (locs : List Loc) (ls : Array Slot), Wh G s X M L H locs → lv_has ls 8 [(0, .ref (gA G 3)), (1, .int x1), (2, .int x2), (3, .int x3), (4, .int x4)] → k_5 X x1 x2 x3 x4 = some ro → W p l e (rz 2 43) s m args below meth c H locs 0 0 (MQ below (Di G X M L ro) args s 0 0 (AB G)) (F0 m 5 ls [])) : ∀ (n : Nat), ∀ (X : TX) (M : TX) (L : TL) (x1 : Int32) (x2 : Int32) (x3 : Int32) (x4 : Int32) (x5 : Int32) (x6 : Int32) (H : Heap) (locs : List Loc) (ls : Array Slot), Wh G s X M L H locs → lv_has ls 8 [(0, .ref (gA G 3)), (1, .int x1), (2, .int x2), (3, .int x3), (4, .int x4), (5, .int x5), (6, .int x6)] → L_X3_marginHad_17 k_5 n X x1 x2 x3 x4 x5 x6 = some ro → W p l e (rz 2 43) s m args below meth c H locs 0 0 (MQ below (Di G X M L ro) args s 0 0 (AB G)) (F0 m 17 ls []) := by
  intro n
  induction n with
  | zero =>
    intro X M L x1 x2 x3 x4 x5 x6 H locs ls hw hl hf
    cases hf
  | succ n hk_17 =>
    intro X M L x1 x2 x3 x4 x5 x6 H locs ls hw hl hf
    rw [L_X3_marginHad_17] at hf
    refine lv_iload C.1.1 C.1.2.1 dX3_marginHad_17 (lv_at hl 6 rfl) ?_
    refine lv_aload_n C.1.1 C.1.2.1 dX3_marginHad_19 rfl (lv_at hl 0 rfl) ?_
    refine x_get C hw iX_3_5 flX3_44 dX3_marginHad_20 ?_
    refine lv_icmp_ge (tgt := 79) C.1.1 C.1.2.1 dX3_marginHad_23 (by decide) (fun c2 => ?_) (fun c2 => ?_)
    · have hf := o_t hf c2
      refine lv_iload_n C.1.1 C.1.2.1 dX3_marginHad_79 rfl (lv_at hl 3 rfl) ?_
      refine lv_iload C.1.1 C.1.2.1 dX3_marginHad_80 (lv_at hl 5 rfl) ?_
      refine lv_iconst (v := (0 : Int32)) C.1.1 C.1.2.1 dX3_marginHad_82 rfl ?_
      obtain ⟨q3, h3, hf⟩ := o_bind hf
      refine aft_i hw (run_S C hw clX3_138 (As := [.int x5, .int (0 : Int32)]) (rest := [.int x3]) (c_J6_compare_7cf53 h3) hl.1 rfl ⟨(Nat.le_of_ble_eq_true rfl), (Nat.le_of_ble_eq_true rfl)⟩ ⟨Nat.zero_le _, Nat.zero_le _⟩ rfl (Nat.le_of_ble_eq_true rfl) dX3_marginHad_83) (fun H locs hw => ?_)
      refine lv_iadd C.1.1 C.1.2.1 dX3_marginHad_86 ?_
      refine lv_istore_n (lv' := [(3, .int (x3 + q3)), (0, .ref (gA G 3)), (1, .int x1), (2, .int x2), (4, .int x4), (5, .int x5), (6, .int x6)]) C.1.1 C.1.2.1 dX3_marginHad_87 rfl hl (by decide) rfl (fun ls hl => ?_)
      refine lv_iinc (v := (x4 + (1 : Int32))) (lv' := [(4, .int (x4 + (1 : Int32))), (3, .int (x3 + q3)), (0, .ref (gA G 3)), (1, .int x1), (2, .int x2), (5, .int x5), (6, .int x6)]) C.1.1 C.1.2.1 dX3_marginHad_88 hl (k := 4) rfl rfl (by decide) rfl (fun ls hl => ?_)
      refine lv_goto (tgt := 5) C.1.1 C.1.2.1 dX3_marginHad_91 (by decide) ?_
      exact hk_5 X M L x1 x2 (x3 + q3) (x4 + (1 : Int32)) _ _ _ hw (lv_sub hl [2, 3, 4, 1, 0] rfl) hf
    · have hf := o_f hf c2
      refine lv_aload_n C.1.1 C.1.2.1 dX3_marginHad_26 rfl (lv_at hl 0 rfl) ?_
      refine lv_iload C.1.1 C.1.2.1 dX3_marginHad_27 (lv_at hl 6 rfl) ?_
      obtain ⟨q4, h4, hf⟩ := o_bind hf
      refine aft_i hw (run_VX C hw clX3_144 (As := [.int x6]) (rest := []) oX_3 (c_X3_wardOf h4) rfl hl.1 rfl ⟨(Nat.le_of_ble_eq_true rfl), (Nat.le_of_ble_eq_true rfl)⟩ ⟨Nat.zero_le _, Nat.zero_le _⟩ rfl (Nat.le_of_ble_eq_true rfl) dX3_marginHad_29) (fun H locs hw => ?_)
      refine lv_iload C.1.1 C.1.2.1 dX3_marginHad_32 (lv_at hl 4 rfl) ?_
      refine lv_icmp_ne (tgt := 73) C.1.1 C.1.2.1 dX3_marginHad_34 (by decide) (fun c5 => ?_) (fun c5 => ?_)
      · have hf := o_f hf c5
        refine lv_iinc (v := (x6 + (1 : Int32))) (lv' := [(6, .int (x6 + (1 : Int32))), (0, .ref (gA G 3)), (1, .int x1), (2, .int x2), (3, .int x3), (4, .int x4), (5, .int x5)]) C.1.1 C.1.2.1 dX3_marginHad_73 hl (k := 6) rfl rfl (by decide) rfl (fun ls hl => ?_)
        refine lv_goto (tgt := 17) C.1.1 C.1.2.1 dX3_marginHad_76 (by decide) ?_
        exact hk_17 X M L x1 x2 x3 x4 x5 (x6 + (1 : Int32)) _ _ _ hw (lv_sub hl [1, 2, 3, 4, 5, 6, 0] rfl) hf
      · have hf := o_t hf c5
        refine lv_aload_n C.1.1 C.1.2.1 dX3_marginHad_37 rfl (lv_at hl 0 rfl) ?_
        refine lv_iconst (v := (1 : Int32)) C.1.1 C.1.2.1 dX3_marginHad_38 rfl ?_
        refine lv_iload_n C.1.1 C.1.2.1 dX3_marginHad_39 rfl (lv_at hl 1 rfl) ?_
        refine lv_isub C.1.1 C.1.2.1 dX3_marginHad_40 ?_
        refine lv_iload C.1.1 C.1.2.1 dX3_marginHad_41 (lv_at hl 6 rfl) ?_
        obtain ⟨q6, h6, hf⟩ := o_bind hf
        refine aft_i hw (run_VX C hw clX3_147 (As := [.int ((1 : Int32) - x1), .int x6]) (rest := []) oX_3 (c_X3_votesOf h6) rfl hl.1 rfl ⟨(Nat.le_of_ble_eq_true rfl), (Nat.le_of_ble_eq_true rfl)⟩ ⟨Nat.zero_le _, Nat.zero_le _⟩ rfl (Nat.le_of_ble_eq_true rfl) dX3_marginHad_43) (fun H locs hw => ?_)
        refine lv_istore (lv' := [(7, .int q6), (0, .ref (gA G 3)), (1, .int x1), (2, .int x2), (3, .int x3), (4, .int x4), (5, .int x5), (6, .int x6)]) C.1.1 C.1.2.1 dX3_marginHad_46 hl (by decide) rfl (fun ls hl => ?_)
        refine lv_iload C.1.1 C.1.2.1 dX3_marginHad_48 (lv_at hl 6 rfl) ?_
        refine lv_aload_n C.1.1 C.1.2.1 dX3_marginHad_50 rfl (lv_at hl 1 rfl) ?_
        refine lv_iload_n C.1.1 C.1.2.1 dX3_marginHad_51 rfl (lv_at hl 2 rfl) ?_
        refine lv_iload C.1.1 C.1.2.1 dX3_marginHad_52 (lv_at hl 7 rfl) ?_
        obtain ⟨q7, h7, hf⟩ := o_bind hf
        refine aft_i hw (run_VX C hw clX3_147 (As := [.int x1, .int x6]) (rest := [.int x5]) oX_3 (c_X3_votesOf h7) rfl hl.1 rfl ⟨(Nat.le_of_ble_eq_true rfl), (Nat.le_of_ble_eq_true rfl)⟩ ⟨Nat.zero_le _, Nat.zero_le _⟩ rfl (Nat.le_of_ble_eq_true rfl) dX3_marginHad_54) (fun H locs hw => ?_)
        refine lv_iload C.1.1 C.1.2.1 dX3_marginHad_57 (lv_at hl 0 rfl) ?_
        refine lv_isub C.1.1 C.1.2.1 dX3_marginHad_59 ?_
        refine lv_iconst (v := (2 : Int32)) C.1.1 C.1.2.1 dX3_marginHad_60 rfl ?_
        refine lv_iload C.1.1 C.1.2.1 dX3_marginHad_61 (lv_at hl 0 rfl) ?_
        refine lv_iload_n C.1.1 C.1.2.1 dX3_marginHad_63 rfl (lv_at hl 3 rfl) ?_
        refine lv_imul C.1.1 C.1.2.1 dX3_marginHad_64 ?_
        refine lv_bipush (v := (100 : Int32)) C.1.1 C.1.2.1 dX3_marginHad_65 rfl ?_
        refine lv_idiv C.1.1 C.1.2.1 dX3_marginHad_67 (by decide) ?_
        refine lv_imul C.1.1 C.1.2.1 dX3_marginHad_68 ?_
        refine lv_iadd C.1.1 C.1.2.1 dX3_marginHad_69 ?_
        refine lv_iadd C.1.1 C.1.2.1 dX3_marginHad_70 ?_
        refine lv_istore (lv' := [(5, .int (x5 + ((q7 - q6) + ((2 : Int32) * ((q6 * x2) / (100 : Int32)))))), (7, .int q6), (0, .ref (gA G 3)), (1, .int x1), (2, .int x2), (3, .int x3), (4, .int x4), (6, .int x6)]) C.1.1 C.1.2.1 dX3_marginHad_71 hl (by decide) rfl (fun ls hl => ?_)
        refine lv_iinc (v := (x6 + (1 : Int32))) (lv' := [(6, .int (x6 + (1 : Int32))), (5, .int (x5 + ((q7 - q6) + ((2 : Int32) * ((q6 * x2) / (100 : Int32)))))), (7, .int q6), (0, .ref (gA G 3)), (1, .int x1), (2, .int x2), (3, .int x3), (4, .int x4)]) C.1.1 C.1.2.1 dX3_marginHad_73 hl (k := 7) rfl rfl (by decide) rfl (fun ls hl => ?_)
        refine lv_goto (tgt := 17) C.1.1 C.1.2.1 dX3_marginHad_76 (by decide) ?_
        exact hk_17 X M L x1 x2 x3 x4 (x5 + ((q7 - q6) + ((2 : Int32) * ((q6 * x2) / (100 : Int32))))) (x6 + (1 : Int32)) _ _ _ hw (lv_sub hl [3, 4, 5, 6, 7, 1, 0] rfl) hf
set_option maxRecDepth 20000 in
set_option maxHeartbeats 2000000 in
theorem wL_X3_marginHad_5 {p : Program} {e : Env} {s : State} {m : MethodId} {args : Array Value} {below : List Frame} {meth : Method} {c : Code} (C : Cx G p s m args c cX3_marginHad 8 RX3) (hr : meth.sig.returnType = (some .int)) (hlk : meth.locks = false) {ro : Int32} : ∀ (n : Nat), ∀ (X : TX) (M : TX) (L : TL) (x1 : Int32) (x2 : Int32) (x3 : Int32) (x4 : Int32) (H : Heap) (locs : List Loc) (ls : Array Slot), Wh G s X M L H locs → lv_has ls 8 [(0, .ref (gA G 3)), (1, .int x1), (2, .int x2), (3, .int x3), (4, .int x4)] → L_X3_marginHad_5 n X x1 x2 x3 x4 = some ro → W p l e (rz 2 43) s m args below meth c H locs 0 0 (MQ below (Di G X M L ro) args s 0 0 (AB G)) (F0 m 5 ls []) := by
  intro n
  induction n with
  | zero =>
    intro X M L x1 x2 x3 x4 H locs ls hw hl hf
    cases hf
  | succ n hk_5 =>
    intro X M L x1 x2 x3 x4 H locs ls hw hl hf
    rw [L_X3_marginHad_5] at hf
    refine lv_iload C.1.1 C.1.2.1 dX3_marginHad_5 (lv_at hl 4 rfl) ?_
    refine lv_iconst (v := (4 : Int32)) C.1.1 C.1.2.1 dX3_marginHad_7 rfl ?_
    refine lv_icmp_ge (tgt := 94) C.1.1 C.1.2.1 dX3_marginHad_8 (by decide) (fun c1 => ?_) (fun c1 => ?_)
    · have hf := o_t hf c1
      refine lv_iload_n C.1.1 C.1.2.1 dX3_marginHad_94 rfl (lv_at hl 3 rfl) ?_
      obtain rfl := Option.some.inj hf
      exact ret_i C hr hlk hw dX3_marginHad_95
    · have hf := o_f hf c1
      refine lv_iconst (v := (0 : Int32)) C.1.1 C.1.2.1 dX3_marginHad_11 rfl ?_
      refine lv_istore (lv' := [(5, .int (0 : Int32)), (0, .ref (gA G 3)), (1, .int x1), (2, .int x2), (3, .int x3), (4, .int x4)]) C.1.1 C.1.2.1 dX3_marginHad_12 hl (by decide) rfl (fun ls hl => ?_)
      refine lv_iconst (v := (0 : Int32)) C.1.1 C.1.2.1 dX3_marginHad_14 rfl ?_
      refine lv_istore (lv' := [(6, .int (0 : Int32)), (5, .int (0 : Int32)), (0, .ref (gA G 3)), (1, .int x1), (2, .int x2), (3, .int x3), (4, .int x4)]) C.1.1 C.1.2.1 dX3_marginHad_15 hl (by decide) rfl (fun ls hl => ?_)
      exact wL_X3_marginHad_17 C hr hlk hk_5 FU X M L x1 x2 x3 x4 (0 : Int32) (0 : Int32) _ _ _ hw (lv_sub hl [2, 3, 4, 5, 6, 1, 0] rfl) hf
set_option maxRecDepth 20000 in
set_option maxHeartbeats 2000000 in
theorem c_X3_marginHad   {X M : TX} {L : TL} {x1 : Int32} {x2 : Int32} {ro : Int32} (hf : f_X3_marginHad X x1 x2 = some ro) : CTi G l yX3_marginHad cX3_marginHad 8 (some .int) 2 43 [.ref (gA G 3), .int x1, .int x2] X M L X M L ro := by
  unfold f_X3_marginHad at hf
  refine ct_of (by decide +kernel) (Nat.le_of_ble_eq_true rfl) (fun p e s m args below meth c H locs ls C hr hlk hw hl => ?_)
  have C : Cx G p s m args c cX3_marginHad 8 RX3 := C
  have hl : lv_has ls 8 [(0, .ref (gA G 3)), (1, .int x1), (2, .int x2)] := hl
  refine lv_iconst (v := (0 : Int32)) C.1.1 C.1.2.1 dX3_marginHad_0 rfl ?_
  refine lv_istore_n (lv' := [(3, .int (0 : Int32)), (0, .ref (gA G 3)), (1, .int x1), (2, .int x2)]) C.1.1 C.1.2.1 dX3_marginHad_1 rfl hl (by decide) rfl (fun ls hl => ?_)
  refine lv_iconst (v := (0 : Int32)) C.1.1 C.1.2.1 dX3_marginHad_2 rfl ?_
  refine lv_istore (lv' := [(4, .int (0 : Int32)), (3, .int (0 : Int32)), (0, .ref (gA G 3)), (1, .int x1), (2, .int x2)]) C.1.1 C.1.2.1 dX3_marginHad_3 hl (by decide) rfl (fun ls hl => ?_)
  exact wL_X3_marginHad_5 C hr hlk FU X M L x1 x2 (0 : Int32) (0 : Int32) _ _ _ hw (lv_sub hl [2, 3, 4, 1, 0] rfl) hf
end
/-! WinnerDraws.swing(I)I (('o', 'X', 0) ('i',)) -/
def L_X8_swing_7 : Nat → TX → Int32 → Int32 → Option (TX × (Int32 ⊕ Nat))
  | 0 => fun _ _ _ => none
  | n + 1 => fun X x1 x2 => if (100 : Int32) < x2 then (some (X, .inl (-1 : Int32))) else ((f_X3_marginHad X x1 x2).bind fun q3 => if q3 ≤ 0 then ((L_X8_swing_7 n) X x1 (x2 + (1 : Int32))) else (some (X, .inl x2)))
def f_X8_swing (X : TX) (x1 : Int32) : Option (TX × (Int32 ⊕ Nat)) := (f_X8_needSide X x1).bind fun q1 => xb q1 (fun _ _ => L_X8_swing_7 FU q1.1 x1 (0 : Int32))
section
variable {G : GP} {l : Launch}
set_option maxRecDepth 20000 in
set_option maxHeartbeats 2000000 in
theorem wL_X8_swing_7 {p : Program} {e : Env} {s : State} {m : MethodId} {args : Array Value} {below : List Frame} {meth : Method} {c : Code} (C : Cx G p s m args c cX8_swing 3 RX8) (hr : meth.sig.returnType = (some .int)) (hlk : meth.locks = false) (hnt : ∀ x ∈ c.exceptionTable.toList, False) (hst : l.stackTraces = false) {ro : TX × (Int32 ⊕ Nat)} : ∀ (n : Nat), ∀ (X : TX) (M : TX) (L : TL) (x1 : Int32) (x2 : Int32) (H : Heap) (locs : List Loc) (ls : Array Slot), Wh G s X M L H locs → lv_has ls 3 [(0, .ref (gA G 0)), (1, .int x1), (2, .int x2)] → L_X8_swing_7 n X x1 x2 = some ro → W p l e (rx 8 162 1) s m args below meth c H locs 1 6 (vx_MQ below (Dxi G ro M L) (XD G ro M L) args s 1 (6 * 1) (AB G)) (F0 m 7 ls []) := by
  intro n
  induction n with
  | zero =>
    intro X M L x1 x2 H locs ls hw hl hf
    cases hf
  | succ n hk_7 =>
    intro X M L x1 x2 H locs ls hw hl hf
    rw [L_X8_swing_7] at hf
    refine lv_iload_n C.1.1 C.1.2.1 dX8_swing_7 rfl (lv_at hl 2 rfl) ?_
    refine lv_bipush (v := (100 : Int32)) C.1.1 C.1.2.1 dX8_swing_8 rfl ?_
    refine lv_icmp_gt (tgt := 33) C.1.1 C.1.2.1 dX8_swing_10 (by decide) (fun c2 => ?_) (fun c2 => ?_)
    · have hf := o_t hf c2
      refine lv_iconst (v := (-1 : Int32)) C.1.1 C.1.2.1 dX8_swing_33 rfl ?_
      exact retx_i C hr hlk hw (Option.some.inj hf).symm (Nat.le_of_ble_eq_true rfl) (Nat.le_of_ble_eq_true rfl) dX8_swing_34
    · have hf := o_f hf c2
      refine lv_aload_n C.1.1 C.1.2.1 dX8_swing_13 rfl (lv_at hl 0 rfl) ?_
      refine x_ref C hw fX_0_1 flX8_19 dX8_swing_14 ?_
      refine lv_iload_n C.1.1 C.1.2.1 dX8_swing_17 rfl (lv_at hl 1 rfl) ?_
      refine lv_iload_n C.1.1 C.1.2.1 dX8_swing_18 rfl (lv_at hl 2 rfl) ?_
      obtain ⟨q3, h3, hf⟩ := o_bind hf
      refine aft_i hw (run_VX C hw clX8_283 (As := [.int x1, .int x2]) (rest := []) oX_3 (c_X3_marginHad h3) rfl hl.1 rfl ⟨(Nat.le_of_ble_eq_true rfl), (Nat.le_of_ble_eq_true rfl)⟩ ⟨Nat.le_of_ble_eq_true rfl, Nat.le_of_ble_eq_true rfl⟩ rfl (Nat.le_of_ble_eq_true rfl) dX8_swing_19) (fun H locs hw => ?_)
      refine lv_if_le (tgt := 27) C.1.1 C.1.2.1 dX8_swing_22 (by decide) (fun c4 => ?_) (fun c4 => ?_)
      · have hf := o_t hf c4
        refine lv_iinc (v := (x2 + (1 : Int32))) (lv' := [(2, .int (x2 + (1 : Int32))), (0, .ref (gA G 0)), (1, .int x1)]) C.1.1 C.1.2.1 dX8_swing_27 hl (k := 2) rfl rfl (by decide) rfl (fun ls hl => ?_)
        refine lv_goto (tgt := 7) C.1.1 C.1.2.1 dX8_swing_30 (by decide) ?_
        exact hk_7 X M L x1 (x2 + (1 : Int32)) _ _ _ hw (lv_sub hl [1, 2, 0] rfl) hf
      · have hf := o_f hf c4
        refine lv_iload_n C.1.1 C.1.2.1 dX8_swing_25 rfl (lv_at hl 2 rfl) ?_
        exact retx_i C hr hlk hw (Option.some.inj hf).symm (Nat.le_of_ble_eq_true rfl) (Nat.le_of_ble_eq_true rfl) dX8_swing_26
set_option maxRecDepth 20000 in
set_option maxHeartbeats 2000000 in
theorem c_X8_swing (hst : l.stackTraces = false)  {X M : TX} {L : TL} {x1 : Int32} {ro : TX × (Int32 ⊕ Nat)} (hf : f_X8_swing X x1 = some ro) : CXi G l yX8_swing cX8_swing 3 (some .int) 8 162 1 [.ref (gA G 0), .int x1] X M L ro := by
  unfold f_X8_swing at hf
  refine cx_of (by decide +kernel) (Nat.le_of_ble_eq_true rfl) (fun p e s m args below meth c H locs ls C hr hlk hnt hw hl => ?_)
  have C : Cx G p s m args c cX8_swing 3 RX8 := C
  have hl : lv_has ls 3 [(0, .ref (gA G 0)), (1, .int x1)] := hl
  refine lv_aload_n C.1.1 C.1.2.1 dX8_swing_0 rfl (lv_at hl 0 rfl) ?_
  refine lv_iload_n C.1.1 C.1.2.1 dX8_swing_1 rfl (lv_at hl 1 rfl) ?_
  obtain ⟨q1, h1, hf⟩ := o_bind hf
  refine aftx_v hw (runx_VX C hw clX8_220 (tb5 43 rfl rfl) (As := [.int x1]) (rest := []) oX_0 (c_X8_needSide hst h1) rfl hl.1 rfl ⟨(Nat.le_of_ble_eq_true rfl), (Nat.le_of_ble_eq_true rfl)⟩ ⟨Nat.le_of_ble_eq_true rfl, Nat.le_of_ble_eq_true rfl⟩ rfl (Nat.le_of_ble_eq_true rfl) dX8_swing_2) hf hnt hlk (Nat.le_of_ble_eq_true rfl) (Nat.le_of_ble_eq_true rfl) (fun hf H locs hw => ?_)
  refine lv_iconst (v := (0 : Int32)) C.1.1 C.1.2.1 dX8_swing_5 rfl ?_
  refine lv_istore_n (lv' := [(2, .int (0 : Int32)), (0, .ref (gA G 0)), (1, .int x1)]) C.1.1 C.1.2.1 dX8_swing_6 rfl hl (by decide) rfl (fun ls hl => ?_)
  exact wL_X8_swing_7 C hr hlk hnt hst FU q1.1 M L x1 (0 : Int32) _ _ _ hw (lv_sub hl [1, 2, 0] rfl) hf
end
/-! WinnerDraws$County.leadIn(I)I (('o', 'X', 3) ('i',)) -/
def f_X3_leadIn (X : TX) (x1 : Int32) : Option (Int32) := (f_X8_at 10 X x1).bind fun q1 => some q1
section
variable {G : GP} {l : Launch}
set_option maxRecDepth 20000 in
set_option maxHeartbeats 2000000 in
theorem c_X3_leadIn   {X M : TX} {L : TL} {x1 : Int32} {ro : Int32} (hf : f_X3_leadIn X x1 = some ro) : CTi G l yX3_leadIn cX3_leadIn 2 (some .int) 1 21 [.ref (gA G 3), .int x1] X M L X M L ro := by
  unfold f_X3_leadIn at hf
  refine ct_of (by decide +kernel) (Nat.le_of_ble_eq_true rfl) (fun p e s m args below meth c H locs ls C hr hlk hw hl => ?_)
  have C : Cx G p s m args c cX3_leadIn 2 RX3 := C
  have hl : lv_has ls 2 [(0, .ref (gA G 3)), (1, .int x1)] := hl
  refine lv_aload_n C.1.1 C.1.2.1 dX3_leadIn_0 rfl (lv_at hl 0 rfl) ?_
  refine x_ref C hw fX_3_13 flX3_37 dX3_leadIn_1 ?_
  refine lv_iload_n C.1.1 C.1.2.1 dX3_leadIn_4 rfl (lv_at hl 1 rfl) ?_
  obtain ⟨q1, h1, hf⟩ := o_bind hf
  refine aft_i hw (run_S C hw clX3_66 (As := [.ref (gA G 10), .int x1]) (rest := []) (c_X8_at aX_10 h1) hl.1 rfl ⟨(Nat.le_of_ble_eq_true rfl), (Nat.le_of_ble_eq_true rfl)⟩ ⟨Nat.zero_le _, Nat.zero_le _⟩ rfl (Nat.le_of_ble_eq_true rfl) dX3_leadIn_5) (fun H locs hw => ?_)
  obtain rfl := Option.some.inj hf
  exact ret_i C hr hlk hw dX3_leadIn_8
end
/-! WinnerDraws$County.wasted(I)I (('o', 'X', 3) ('i',)) -/
def L_X3_wasted_4 : Nat → TX → Int32 → Int32 → Int32 → Option (Int32)
  | 0 => fun _ _ _ _ => none
  | n + 1 => fun X x1 x2 x3 => if (4 : Int32) ≤ x3 then (some x2) else ((f_X3_winner X x3).bind fun q2 => if q2 = x1 then ((f_X3_leadIn X x3).bind fun q5 => (L_X3_wasted_4 n) X x1 (x2 + ((if 0 ≤ q5 then q5 else 0 - q5) - (1 : Int32))) (x3 + (1 : Int32))) else ((f_X3_wardVotes X x1 x3).bind fun q4 => (L_X3_wasted_4 n) X x1 (x2 + q4) (x3 + (1 : Int32))))
def f_X3_wasted (X : TX) (x1 : Int32) : Option (Int32) := L_X3_wasted_4 FU X x1 (0 : Int32) (0 : Int32)
section
variable {G : GP} {l : Launch}
set_option maxRecDepth 20000 in
set_option maxHeartbeats 2000000 in
theorem wL_X3_wasted_4 {p : Program} {e : Env} {s : State} {m : MethodId} {args : Array Value} {below : List Frame} {meth : Method} {c : Code} (C : Cx G p s m args c cX3_wasted 4 RX3) (hr : meth.sig.returnType = (some .int)) (hlk : meth.locks = false) {ro : Int32} : ∀ (n : Nat), ∀ (X : TX) (M : TX) (L : TL) (x1 : Int32) (x2 : Int32) (x3 : Int32) (H : Heap) (locs : List Loc) (ls : Array Slot), Wh G s X M L H locs → lv_has ls 4 [(0, .ref (gA G 3)), (1, .int x1), (2, .int x2), (3, .int x3)] → L_X3_wasted_4 n X x1 x2 x3 = some ro → W p l e (rz 3 67) s m args below meth c H locs 0 0 (MQ below (Di G X M L ro) args s 0 0 (AB G)) (F0 m 4 ls []) := by
  intro n
  induction n with
  | zero =>
    intro X M L x1 x2 x3 H locs ls hw hl hf
    cases hf
  | succ n hk_4 =>
    intro X M L x1 x2 x3 H locs ls hw hl hf
    rw [L_X3_wasted_4] at hf
    refine lv_iload_n C.1.1 C.1.2.1 dX3_wasted_4 rfl (lv_at hl 3 rfl) ?_
    refine lv_iconst (v := (4 : Int32)) C.1.1 C.1.2.1 dX3_wasted_5 rfl ?_
    refine lv_icmp_ge (tgt := 46) C.1.1 C.1.2.1 dX3_wasted_6 (by decide) (fun c1 => ?_) (fun c1 => ?_)
    · have hf := o_t hf c1
      refine lv_iload_n C.1.1 C.1.2.1 dX3_wasted_46 rfl (lv_at hl 2 rfl) ?_
      obtain rfl := Option.some.inj hf
      exact ret_i C hr hlk hw dX3_wasted_47
    · have hf := o_f hf c1
      refine lv_iload_n C.1.1 C.1.2.1 dX3_wasted_9 rfl (lv_at hl 2 rfl) ?_
      refine lv_aload_n C.1.1 C.1.2.1 dX3_wasted_10 rfl (lv_at hl 0 rfl) ?_
      refine lv_iload_n C.1.1 C.1.2.1 dX3_wasted_11 rfl (lv_at hl 3 rfl) ?_
      obtain ⟨q2, h2, hf⟩ := o_bind hf
      refine aft_i hw (run_VX C hw clX3_134 (As := [.int x3]) (rest := [.int x2]) oX_3 (c_X3_winner h2) rfl hl.1 rfl ⟨(Nat.le_of_ble_eq_true rfl), (Nat.le_of_ble_eq_true rfl)⟩ ⟨Nat.zero_le _, Nat.zero_le _⟩ rfl (Nat.le_of_ble_eq_true rfl) dX3_wasted_12) (fun H locs hw => ?_)
      refine lv_iload_n C.1.1 C.1.2.1 dX3_wasted_15 rfl (lv_at hl 1 rfl) ?_
      refine lv_icmp_ne (tgt := 32) C.1.1 C.1.2.1 dX3_wasted_16 (by decide) (fun c3 => ?_) (fun c3 => ?_)
      · have hf := o_f hf c3
        refine lv_aload_n C.1.1 C.1.2.1 dX3_wasted_32 rfl (lv_at hl 0 rfl) ?_
        refine lv_iload_n C.1.1 C.1.2.1 dX3_wasted_33 rfl (lv_at hl 1 rfl) ?_
        refine lv_iload_n C.1.1 C.1.2.1 dX3_wasted_34 rfl (lv_at hl 3 rfl) ?_
        obtain ⟨q4, h4, hf⟩ := o_bind hf
        refine aft_i hw (run_VX C hw clX3_179 (As := [.int x1, .int x3]) (rest := [.int x2]) oX_3 (c_X3_wardVotes h4) rfl hl.1 rfl ⟨(Nat.le_of_ble_eq_true rfl), (Nat.le_of_ble_eq_true rfl)⟩ ⟨Nat.zero_le _, Nat.zero_le _⟩ rfl (Nat.le_of_ble_eq_true rfl) dX3_wasted_35) (fun H locs hw => ?_)
        refine lv_iadd C.1.1 C.1.2.1 dX3_wasted_38 ?_
        refine lv_istore_n (lv' := [(2, .int (x2 + q4)), (0, .ref (gA G 3)), (1, .int x1), (3, .int x3)]) C.1.1 C.1.2.1 dX3_wasted_39 rfl hl (by decide) rfl (fun ls hl => ?_)
        refine lv_iinc (v := (x3 + (1 : Int32))) (lv' := [(3, .int (x3 + (1 : Int32))), (2, .int (x2 + q4)), (0, .ref (gA G 3)), (1, .int x1)]) C.1.1 C.1.2.1 dX3_wasted_40 hl (k := 3) rfl rfl (by decide) rfl (fun ls hl => ?_)
        refine lv_goto (tgt := 4) C.1.1 C.1.2.1 dX3_wasted_43 (by decide) ?_
        exact hk_4 X M L x1 (x2 + q4) (x3 + (1 : Int32)) _ _ _ hw (lv_sub hl [2, 3, 1, 0] rfl) hf
      · have hf := o_t hf c3
        refine lv_aload_n C.1.1 C.1.2.1 dX3_wasted_19 rfl (lv_at hl 0 rfl) ?_
        refine lv_iload_n C.1.1 C.1.2.1 dX3_wasted_20 rfl (lv_at hl 3 rfl) ?_
        obtain ⟨q5, h5, hf⟩ := o_bind hf
        refine aft_i hw (run_VX C hw clX3_171 (As := [.int x3]) (rest := [.int x2]) oX_3 (c_X3_leadIn h5) rfl hl.1 rfl ⟨(Nat.le_of_ble_eq_true rfl), (Nat.le_of_ble_eq_true rfl)⟩ ⟨Nat.zero_le _, Nat.zero_le _⟩ rfl (Nat.le_of_ble_eq_true rfl) dX3_wasted_21) (fun H locs hw => ?_)
        refine x_abs C clX3_174 (tb5 173 rfl rfl) hl.1 ⟨(Nat.le_of_ble_eq_true rfl), (Nat.le_of_ble_eq_true rfl)⟩ ⟨Nat.zero_le _, Nat.zero_le _⟩ dX3_wasted_24 ?_
        refine lv_iconst (v := (1 : Int32)) C.1.1 C.1.2.1 dX3_wasted_27 rfl ?_
        refine lv_isub C.1.1 C.1.2.1 dX3_wasted_28 ?_
        refine lv_goto (tgt := 38) C.1.1 C.1.2.1 dX3_wasted_29 (by decide) ?_
        refine lv_iadd C.1.1 C.1.2.1 dX3_wasted_38 ?_
        refine lv_istore_n (lv' := [(2, .int (x2 + ((if 0 ≤ q5 then q5 else 0 - q5) - (1 : Int32)))), (0, .ref (gA G 3)), (1, .int x1), (3, .int x3)]) C.1.1 C.1.2.1 dX3_wasted_39 rfl hl (by decide) rfl (fun ls hl => ?_)
        refine lv_iinc (v := (x3 + (1 : Int32))) (lv' := [(3, .int (x3 + (1 : Int32))), (2, .int (x2 + ((if 0 ≤ q5 then q5 else 0 - q5) - (1 : Int32)))), (0, .ref (gA G 3)), (1, .int x1)]) C.1.1 C.1.2.1 dX3_wasted_40 hl (k := 3) rfl rfl (by decide) rfl (fun ls hl => ?_)
        refine lv_goto (tgt := 4) C.1.1 C.1.2.1 dX3_wasted_43 (by decide) ?_
        exact hk_4 X M L x1 (x2 + ((if 0 ≤ q5 then q5 else 0 - q5) - (1 : Int32))) (x3 + (1 : Int32)) _ _ _ hw (lv_sub hl [2, 3, 1, 0] rfl) hf
set_option maxRecDepth 20000 in
set_option maxHeartbeats 2000000 in
theorem c_X3_wasted   {X M : TX} {L : TL} {x1 : Int32} {ro : Int32} (hf : f_X3_wasted X x1 = some ro) : CTi G l yX3_wasted cX3_wasted 4 (some .int) 3 67 [.ref (gA G 3), .int x1] X M L X M L ro := by
  unfold f_X3_wasted at hf
  refine ct_of (by decide +kernel) (Nat.le_of_ble_eq_true rfl) (fun p e s m args below meth c H locs ls C hr hlk hw hl => ?_)
  have C : Cx G p s m args c cX3_wasted 4 RX3 := C
  have hl : lv_has ls 4 [(0, .ref (gA G 3)), (1, .int x1)] := hl
  refine lv_iconst (v := (0 : Int32)) C.1.1 C.1.2.1 dX3_wasted_0 rfl ?_
  refine lv_istore_n (lv' := [(2, .int (0 : Int32)), (0, .ref (gA G 3)), (1, .int x1)]) C.1.1 C.1.2.1 dX3_wasted_1 rfl hl (by decide) rfl (fun ls hl => ?_)
  refine lv_iconst (v := (0 : Int32)) C.1.1 C.1.2.1 dX3_wasted_2 rfl ?_
  refine lv_istore_n (lv' := [(3, .int (0 : Int32)), (2, .int (0 : Int32)), (0, .ref (gA G 3)), (1, .int x1)]) C.1.1 C.1.2.1 dX3_wasted_3 rfl hl (by decide) rfl (fun ls hl => ?_)
  exact wL_X3_wasted_4 C hr hlk FU X M L x1 (0 : Int32) (0 : Int32) _ _ _ hw (lv_sub hl [2, 3, 1, 0] rfl) hf
end
/-! WinnerDraws.leastTerm(JJI)J (('l',) ('l',) ('i',)) -/
def L_X8_leastTerm_26 : Nat → Int64 → Int64 → Int32 → Int64 → Int64 → Int32 → Option (Int64)
  | 0 => fun _ _ _ _ _ _ => none
  | n + 1 => fun x0 x2 x4 x5 x7 x9 => if (100 : Int32) ≤ x9 then (if (lg_cmp x5 (0 : Int64)) = 0 then (some (0 : Int64)) else (if x4 = 0 then (if x5 = 0 then none else (some (x0 / x5))) else (if x5 = 0 then none else (some (x2 / x5))))) else (if (lg_cmp x7 (0 : Int64)) = 0 then (if (lg_cmp x5 (0 : Int64)) = 0 then (some (0 : Int64)) else (if x4 = 0 then (if x5 = 0 then none else (some (x0 / x5))) else (if x5 = 0 then none else (some (x2 / x5))))) else (if x7 = 0 then none else ((L_X8_leastTerm_26 n) x0 x2 x4 x7 (x5 - x5 / x7 * x7) (x9 + (1 : Int32)))))
def f_X8_leastTerm (x0 : Int64) (x2 : Int64) (x4 : Int32) : Option (Int64) := if (lg_cmp x0 (0 : Int64)) = 0 then (if x4 = 0 then (some (0 : Int64)) else (some (1 : Int64))) else (L_X8_leastTerm_26 FU x0 x2 x4 x0 x2 (0 : Int32))
section
variable {G : GP} {l : Launch}
set_option maxRecDepth 20000 in
set_option maxHeartbeats 2000000 in
theorem wL_X8_leastTerm_26 {p : Program} {e : Env} {s : State} {m : MethodId} {args : Array Value} {below : List Frame} {meth : Method} {c : Code} (C : Cx G p s m args c cX8_leastTerm 12 RX8) (hr : meth.sig.returnType = (some .long)) (hlk : meth.locks = false) {ro : Int64} : ∀ (n : Nat), ∀ (X : TX) (M : TX) (L : TL) (x0 : Int64) (x2 : Int64) (x4 : Int32) (x5 : Int64) (x7 : Int64) (x9 : Int32) (H : Heap) (locs : List Loc) (ls : Array Slot), Wh G s X M L H locs → lv_has ls 12 [(0, .long x0), (2, .long x2), (4, .int x4), (5, .long x5), (7, .long x7), (9, .int x9)] → L_X8_leastTerm_26 n x0 x2 x4 x5 x7 x9 = some ro → W p l e (rz 0 0) s m args below meth c H locs 0 0 (MQ below (Dl G X M L ro) args s 0 0 (AB G)) (F0 m 26 ls []) := by
  intro n
  induction n with
  | zero =>
    intro X M L x0 x2 x4 x5 x7 x9 H locs ls hw hl hf
    cases hf
  | succ n hk_26 =>
    intro X M L x0 x2 x4 x5 x7 x9 H locs ls hw hl hf
    rw [L_X8_leastTerm_26] at hf
    refine lv_iload C.1.1 C.1.2.1 dX8_leastTerm_26 (lv_at hl 5 rfl) ?_
    refine lv_bipush (v := (100 : Int32)) C.1.1 C.1.2.1 dX8_leastTerm_28 rfl ?_
    refine lv_icmp_ge (tgt := 61) C.1.1 C.1.2.1 dX8_leastTerm_30 (by decide) (fun c2 => ?_) (fun c2 => ?_)
    · have hf := o_t hf c2
      refine lv_lload C.1.1 C.1.2.1 dX8_leastTerm_61 (lv_at hl 3 rfl) ?_
      refine lv_lconst (v := (0 : Int64)) C.1.1 C.1.2.1 dX8_leastTerm_63 rfl ?_
      refine W.lcmp C.1.1 C.1.2.1 dX8_leastTerm_64 ?_
      refine lv_if_ne (tgt := 70) C.1.1 C.1.2.1 dX8_leastTerm_65 (by decide) (fun c3 => ?_) (fun c3 => ?_)
      · have hf := o_f hf c3
        refine lv_iload C.1.1 C.1.2.1 dX8_leastTerm_70 (lv_at hl 2 rfl) ?_
        refine lv_if_ne (tgt := 82) C.1.1 C.1.2.1 dX8_leastTerm_72 (by decide) (fun c4 => ?_) (fun c4 => ?_)
        · have hf := o_f hf c4
          refine lv_lload_n C.1.1 C.1.2.1 dX8_leastTerm_82 rfl (lv_at hl 1 rfl) ?_
          refine lv_lload C.1.1 C.1.2.1 dX8_leastTerm_83 (lv_at hl 3 rfl) ?_
          have g5 := o_n1 hf
          have hf := o_n2 hf
          refine lv_ldiv C.1.1 C.1.2.1 dX8_leastTerm_85 g5 ?_
          obtain rfl := Option.some.inj hf
          exact ret_l C hr hlk hw dX8_leastTerm_86
        · have hf := o_t hf c4
          refine lv_lload_n C.1.1 C.1.2.1 dX8_leastTerm_75 rfl (lv_at hl 0 rfl) ?_
          refine lv_lload C.1.1 C.1.2.1 dX8_leastTerm_76 (lv_at hl 3 rfl) ?_
          have g6 := o_n1 hf
          have hf := o_n2 hf
          refine lv_ldiv C.1.1 C.1.2.1 dX8_leastTerm_78 g6 ?_
          refine lv_goto (tgt := 86) C.1.1 C.1.2.1 dX8_leastTerm_79 (by decide) ?_
          obtain rfl := Option.some.inj hf
          exact ret_l C hr hlk hw dX8_leastTerm_86
      · have hf := o_t hf c3
        refine lv_lconst (v := (0 : Int64)) C.1.1 C.1.2.1 dX8_leastTerm_68 rfl ?_
        obtain rfl := Option.some.inj hf
        exact ret_l C hr hlk hw dX8_leastTerm_69
    · have hf := o_f hf c2
      refine lv_lload C.1.1 C.1.2.1 dX8_leastTerm_33 (lv_at hl 4 rfl) ?_
      refine lv_lconst (v := (0 : Int64)) C.1.1 C.1.2.1 dX8_leastTerm_35 rfl ?_
      refine W.lcmp C.1.1 C.1.2.1 dX8_leastTerm_36 ?_
      refine lv_if_eq (tgt := 61) C.1.1 C.1.2.1 dX8_leastTerm_37 (by decide) (fun c7 => ?_) (fun c7 => ?_)
      · have hf := o_t hf c7
        refine lv_lload C.1.1 C.1.2.1 dX8_leastTerm_61 (lv_at hl 3 rfl) ?_
        refine lv_lconst (v := (0 : Int64)) C.1.1 C.1.2.1 dX8_leastTerm_63 rfl ?_
        refine W.lcmp C.1.1 C.1.2.1 dX8_leastTerm_64 ?_
        refine lv_if_ne (tgt := 70) C.1.1 C.1.2.1 dX8_leastTerm_65 (by decide) (fun c8 => ?_) (fun c8 => ?_)
        · have hf := o_f hf c8
          refine lv_iload C.1.1 C.1.2.1 dX8_leastTerm_70 (lv_at hl 2 rfl) ?_
          refine lv_if_ne (tgt := 82) C.1.1 C.1.2.1 dX8_leastTerm_72 (by decide) (fun c9 => ?_) (fun c9 => ?_)
          · have hf := o_f hf c9
            refine lv_lload_n C.1.1 C.1.2.1 dX8_leastTerm_82 rfl (lv_at hl 1 rfl) ?_
            refine lv_lload C.1.1 C.1.2.1 dX8_leastTerm_83 (lv_at hl 3 rfl) ?_
            have g10 := o_n1 hf
            have hf := o_n2 hf
            refine lv_ldiv C.1.1 C.1.2.1 dX8_leastTerm_85 g10 ?_
            obtain rfl := Option.some.inj hf
            exact ret_l C hr hlk hw dX8_leastTerm_86
          · have hf := o_t hf c9
            refine lv_lload_n C.1.1 C.1.2.1 dX8_leastTerm_75 rfl (lv_at hl 0 rfl) ?_
            refine lv_lload C.1.1 C.1.2.1 dX8_leastTerm_76 (lv_at hl 3 rfl) ?_
            have g11 := o_n1 hf
            have hf := o_n2 hf
            refine lv_ldiv C.1.1 C.1.2.1 dX8_leastTerm_78 g11 ?_
            refine lv_goto (tgt := 86) C.1.1 C.1.2.1 dX8_leastTerm_79 (by decide) ?_
            obtain rfl := Option.some.inj hf
            exact ret_l C hr hlk hw dX8_leastTerm_86
        · have hf := o_t hf c8
          refine lv_lconst (v := (0 : Int64)) C.1.1 C.1.2.1 dX8_leastTerm_68 rfl ?_
          obtain rfl := Option.some.inj hf
          exact ret_l C hr hlk hw dX8_leastTerm_69
      · have hf := o_f hf c7
        refine lv_lload C.1.1 C.1.2.1 dX8_leastTerm_40 (lv_at hl 3 rfl) ?_
        refine lv_lload C.1.1 C.1.2.1 dX8_leastTerm_42 (lv_at hl 4 rfl) ?_
        have g12 := o_n1 hf
        have hf := o_n2 hf
        refine lv_lrem C.1.1 C.1.2.1 dX8_leastTerm_44 g12 ?_
        refine lv_lstore (lv' := [(10, .long (x5 - x5 / x7 * x7)), (0, .long x0), (2, .long x2), (4, .int x4), (5, .long x5), (7, .long x7), (9, .int x9)]) C.1.1 C.1.2.1 dX8_leastTerm_45 hl (by decide) rfl (fun ls hl => ?_)
        refine lv_lload C.1.1 C.1.2.1 dX8_leastTerm_47 (lv_at hl 5 rfl) ?_
        refine lv_lstore (lv' := [(5, .long x7), (10, .long (x5 - x5 / x7 * x7)), (0, .long x0), (2, .long x2), (4, .int x4), (7, .long x7), (9, .int x9)]) C.1.1 C.1.2.1 dX8_leastTerm_49 hl (by decide) rfl (fun ls hl => ?_)
        refine lv_lload C.1.1 C.1.2.1 dX8_leastTerm_51 (lv_at hl 1 rfl) ?_
        refine lv_lstore (lv' := [(7, .long (x5 - x5 / x7 * x7)), (5, .long x7), (10, .long (x5 - x5 / x7 * x7)), (0, .long x0), (2, .long x2), (4, .int x4), (9, .int x9)]) C.1.1 C.1.2.1 dX8_leastTerm_53 hl (by decide) rfl (fun ls hl => ?_)
        refine lv_iinc (v := (x9 + (1 : Int32))) (lv' := [(9, .int (x9 + (1 : Int32))), (7, .long (x5 - x5 / x7 * x7)), (5, .long x7), (10, .long (x5 - x5 / x7 * x7)), (0, .long x0), (2, .long x2), (4, .int x4)]) C.1.1 C.1.2.1 dX8_leastTerm_55 hl (k := 6) rfl rfl (by decide) rfl (fun ls hl => ?_)
        refine lv_goto (tgt := 26) C.1.1 C.1.2.1 dX8_leastTerm_58 (by decide) ?_
        exact hk_26 X M L x0 x2 x4 x7 (x5 - x5 / x7 * x7) (x9 + (1 : Int32)) _ _ _ hw (lv_sub hl [4, 5, 6, 2, 1, 0] rfl) hf
set_option maxRecDepth 20000 in
set_option maxHeartbeats 2000000 in
theorem c_X8_leastTerm   {X M : TX} {L : TL} {x0 : Int64} {x2 : Int64} {x4 : Int32} {ro : Int64} (hf : f_X8_leastTerm x0 x2 x4 = some ro) : CTl G l yX8_leastTerm cX8_leastTerm 12 (some .long) 0 0 [.long x0, .long x2, .int x4] X M L X M L ro := by
  unfold f_X8_leastTerm at hf
  refine ct_of (by decide +kernel) (Nat.le_of_ble_eq_true rfl) (fun p e s m args below meth c H locs ls C hr hlk hw hl => ?_)
  have C : Cx G p s m args c cX8_leastTerm 12 RX8 := C
  have hl : lv_has ls 12 [(0, .long x0), (2, .long x2), (4, .int x4)] := hl
  refine lv_lload_n C.1.1 C.1.2.1 dX8_leastTerm_0 rfl (lv_at hl 0 rfl) ?_
  refine lv_lconst (v := (0 : Int64)) C.1.1 C.1.2.1 dX8_leastTerm_1 rfl ?_
  refine W.lcmp C.1.1 C.1.2.1 dX8_leastTerm_2 ?_
  refine lv_if_ne (tgt := 17) C.1.1 C.1.2.1 dX8_leastTerm_3 (by decide) (fun c1 => ?_) (fun c1 => ?_)
  · have hf := o_f hf c1
    refine lv_lload_n C.1.1 C.1.2.1 dX8_leastTerm_17 rfl (lv_at hl 0 rfl) ?_
    refine lv_lstore (lv' := [(5, .long x0), (0, .long x0), (2, .long x2), (4, .int x4)]) C.1.1 C.1.2.1 dX8_leastTerm_18 hl (by decide) rfl (fun ls hl => ?_)
    refine lv_lload_n C.1.1 C.1.2.1 dX8_leastTerm_20 rfl (lv_at hl 2 rfl) ?_
    refine lv_lstore (lv' := [(7, .long x2), (5, .long x0), (0, .long x0), (2, .long x2), (4, .int x4)]) C.1.1 C.1.2.1 dX8_leastTerm_21 hl (by decide) rfl (fun ls hl => ?_)
    refine lv_iconst (v := (0 : Int32)) C.1.1 C.1.2.1 dX8_leastTerm_23 rfl ?_
    refine lv_istore (lv' := [(9, .int (0 : Int32)), (7, .long x2), (5, .long x0), (0, .long x0), (2, .long x2), (4, .int x4)]) C.1.1 C.1.2.1 dX8_leastTerm_24 hl (by decide) rfl (fun ls hl => ?_)
    exact wL_X8_leastTerm_26 C hr hlk FU X M L x0 x2 x4 x0 x2 (0 : Int32) _ _ _ hw (lv_sub hl [3, 4, 5, 2, 1, 0] rfl) hf
  · have hf := o_t hf c1
    refine lv_iload C.1.1 C.1.2.1 dX8_leastTerm_6 (lv_at hl 2 rfl) ?_
    refine lv_if_ne (tgt := 15) C.1.1 C.1.2.1 dX8_leastTerm_8 (by decide) (fun c13 => ?_) (fun c13 => ?_)
    · have hf := o_f hf c13
      refine lv_lconst (v := (1 : Int64)) C.1.1 C.1.2.1 dX8_leastTerm_15 rfl ?_
      obtain rfl := Option.some.inj hf
      exact ret_l C hr hlk hw dX8_leastTerm_16
    · have hf := o_t hf c13
      refine lv_lconst (v := (0 : Int64)) C.1.1 C.1.2.1 dX8_leastTerm_11 rfl ?_
      refine lv_goto (tgt := 16) C.1.1 C.1.2.1 dX8_leastTerm_12 (by decide) ?_
      obtain rfl := Option.some.inj hf
      exact ret_l C hr hlk hw dX8_leastTerm_16
end
/-! WinnerDraws.waste(II)I (('o', 'X', 0) ('i',) ('i',)) -/
def f_X8_waste (X : TX) (x1 : Int32) (x2 : Int32) : Option (TX × (Int32 ⊕ Nat)) := (f_X8_needSide X x1).bind fun q1 => xb q1 (fun _ _ => (f_X8_isHalf x2).bind fun q2 => (f_X8_need q1.1 q2).bind fun q3 => xb q3 (fun _ _ => (f_X3_wasted q3.1 x1).bind fun q4 => (f_X3_allVotes q3.1 (0 : Int32)).bind fun q5 => (f_X3_allVotes q3.1 (1 : Int32)).bind fun q6 => (f_X8_leastTerm (Int32.toInt64 q4) (Int32.toInt64 (q5 + q6)) x2).bind fun q7 => some (q3.1, .inl (Int64.toInt32 q7))))
section
variable {G : GP} {l : Launch}
set_option maxRecDepth 20000 in
set_option maxHeartbeats 2000000 in
theorem c_X8_waste (hst : l.stackTraces = false)  {X M : TX} {L : TL} {x1 : Int32} {x2 : Int32} {ro : TX × (Int32 ⊕ Nat)} (hf : f_X8_waste X x1 x2 = some ro) : CXi G l yX8_waste cX8_waste 3 (some .int) 8 162 2 [.ref (gA G 0), .int x1, .int x2] X M L ro := by
  unfold f_X8_waste at hf
  refine cx_of (by decide +kernel) (Nat.le_of_ble_eq_true rfl) (fun p e s m args below meth c H locs ls C hr hlk hnt hw hl => ?_)
  have C : Cx G p s m args c cX8_waste 3 RX8 := C
  have hl : lv_has ls 3 [(0, .ref (gA G 0)), (1, .int x1), (2, .int x2)] := hl
  refine lv_aload_n C.1.1 C.1.2.1 dX8_waste_0 rfl (lv_at hl 0 rfl) ?_
  refine lv_iload_n C.1.1 C.1.2.1 dX8_waste_1 rfl (lv_at hl 1 rfl) ?_
  obtain ⟨q1, h1, hf⟩ := o_bind hf
  refine aftx_v hw (runx_VX C hw clX8_220 (tb5 43 rfl rfl) (As := [.int x1]) (rest := []) oX_0 (c_X8_needSide hst h1) rfl hl.1 rfl ⟨(Nat.le_of_ble_eq_true rfl), (Nat.le_of_ble_eq_true rfl)⟩ ⟨Nat.le_of_ble_eq_true rfl, Nat.le_of_ble_eq_true rfl⟩ rfl (Nat.le_of_ble_eq_true rfl) dX8_waste_2) hf hnt hlk (Nat.le_of_ble_eq_true rfl) (Nat.le_of_ble_eq_true rfl) (fun hf H locs hw => ?_)
  refine lv_aload_n C.1.1 C.1.2.1 dX8_waste_5 rfl (lv_at hl 0 rfl) ?_
  refine lv_iload_n C.1.1 C.1.2.1 dX8_waste_6 rfl (lv_at hl 2 rfl) ?_
  obtain ⟨q2, h2, hf⟩ := o_bind hf
  refine aft_i hw (run_S C hw clX8_262 (As := [.int x2]) (rest := [.ref (gA G 0)]) (c_X8_isHalf h2) hl.1 rfl ⟨(Nat.le_of_ble_eq_true rfl), (Nat.le_of_ble_eq_true rfl)⟩ ⟨Nat.le_of_ble_eq_true rfl, Nat.le_of_ble_eq_true rfl⟩ rfl (Nat.le_of_ble_eq_true rfl) dX8_waste_7) (fun H locs hw => ?_)
  obtain ⟨q3, h3, hf⟩ := o_bind hf
  refine aftx_v hw (runx_VX C hw clX8_158 (tb2 212 rfl rfl) (As := [.int q2]) (rest := []) oX_0 (c_X8_need hst h3) rfl hl.1 rfl ⟨(Nat.le_of_ble_eq_true rfl), (Nat.le_of_ble_eq_true rfl)⟩ ⟨Nat.le_of_ble_eq_true rfl, Nat.le_of_ble_eq_true rfl⟩ rfl (Nat.le_of_ble_eq_true rfl) dX8_waste_10) hf hnt hlk (Nat.le_of_ble_eq_true rfl) (Nat.le_of_ble_eq_true rfl) (fun hf H locs hw => ?_)
  refine lv_aload_n C.1.1 C.1.2.1 dX8_waste_13 rfl (lv_at hl 0 rfl) ?_
  refine x_ref C hw fX_0_1 flX8_19 dX8_waste_14 ?_
  refine lv_iload_n C.1.1 C.1.2.1 dX8_waste_17 rfl (lv_at hl 1 rfl) ?_
  obtain ⟨q4, h4, hf⟩ := o_bind hf
  refine aft_i hw (run_VX C hw clX8_286 (As := [.int x1]) (rest := []) oX_3 (c_X3_wasted h4) rfl hl.1 rfl ⟨(Nat.le_of_ble_eq_true rfl), (Nat.le_of_ble_eq_true rfl)⟩ ⟨Nat.le_of_ble_eq_true rfl, Nat.le_of_ble_eq_true rfl⟩ rfl (Nat.le_of_ble_eq_true rfl) dX8_waste_18) (fun H locs hw => ?_)
  refine lv_i2l (v := (Int32.toInt64 q4)) C.1.1 C.1.2.1 dX8_waste_21 rfl ?_
  refine lv_aload_n C.1.1 C.1.2.1 dX8_waste_22 rfl (lv_at hl 0 rfl) ?_
  refine x_ref C hw fX_0_1 flX8_19 dX8_waste_23 ?_
  refine lv_iconst (v := (0 : Int32)) C.1.1 C.1.2.1 dX8_waste_26 rfl ?_
  obtain ⟨q5, h5, hf⟩ := o_bind hf
  refine aft_i hw (run_VX C hw clX8_181 (As := [.int (0 : Int32)]) (rest := [.long (Int32.toInt64 q4)]) oX_3 (c_X3_allVotes h5) rfl hl.1 rfl ⟨(Nat.le_of_ble_eq_true rfl), (Nat.le_of_ble_eq_true rfl)⟩ ⟨Nat.le_of_ble_eq_true rfl, Nat.le_of_ble_eq_true rfl⟩ rfl (Nat.le_of_ble_eq_true rfl) dX8_waste_27) (fun H locs hw => ?_)
  refine lv_aload_n C.1.1 C.1.2.1 dX8_waste_30 rfl (lv_at hl 0 rfl) ?_
  refine x_ref C hw fX_0_1 flX8_19 dX8_waste_31 ?_
  refine lv_iconst (v := (1 : Int32)) C.1.1 C.1.2.1 dX8_waste_34 rfl ?_
  obtain ⟨q6, h6, hf⟩ := o_bind hf
  refine aft_i hw (run_VX C hw clX8_181 (As := [.int (1 : Int32)]) (rest := [.int q5, .long (Int32.toInt64 q4)]) oX_3 (c_X3_allVotes h6) rfl hl.1 rfl ⟨(Nat.le_of_ble_eq_true rfl), (Nat.le_of_ble_eq_true rfl)⟩ ⟨Nat.le_of_ble_eq_true rfl, Nat.le_of_ble_eq_true rfl⟩ rfl (Nat.le_of_ble_eq_true rfl) dX8_waste_35) (fun H locs hw => ?_)
  refine lv_iadd C.1.1 C.1.2.1 dX8_waste_38 ?_
  refine lv_i2l (v := (Int32.toInt64 (q5 + q6))) C.1.1 C.1.2.1 dX8_waste_39 rfl ?_
  refine lv_iload_n C.1.1 C.1.2.1 dX8_waste_40 rfl (lv_at hl 2 rfl) ?_
  obtain ⟨q7, h7, hf⟩ := o_bind hf
  refine aft_l hw (run_S C hw clX8_289 (As := [.long (Int32.toInt64 q4), .long (Int32.toInt64 (q5 + q6)), .int x2]) (rest := []) (c_X8_leastTerm h7) hl.1 rfl ⟨(Nat.le_of_ble_eq_true rfl), (Nat.le_of_ble_eq_true rfl)⟩ ⟨Nat.le_of_ble_eq_true rfl, Nat.le_of_ble_eq_true rfl⟩ rfl (Nat.le_of_ble_eq_true rfl) dX8_waste_41) (fun H locs hw => ?_)
  refine lv_l2i (v := (Int64.toInt32 q7)) C.1.1 C.1.2.1 dX8_waste_44 rfl ?_
  exact retx_i C hr hlk hw (Option.some.inj hf).symm (Nat.le_of_ble_eq_true rfl) (Nat.le_of_ble_eq_true rfl) dX8_waste_45
end
/-! WinnerDraws$Book.hasLine(I)Z (('o', 'X', 27) ('i',)) -/
def f_X1_hasLine_o27 (X : TX) (x1 : Int32) : Option (Int32) := (f_X8_has (X 27 1) x1).bind fun q1 => if q1 &&& 1 = q1 then (some q1) else none
section
variable {G : GP} {l : Launch}
set_option maxRecDepth 20000 in
set_option maxHeartbeats 2000000 in
theorem c_X1_hasLine_o27   {X M : TX} {L : TL} {x1 : Int32} {ro : Int32} (hf : f_X1_hasLine_o27 X x1 = some ro) : CTi G l yX1_hasLine cX1_hasLine 2 (some .boolean) 1 21 [.ref (gA G 27), .int x1] X M L X M L ro := by
  unfold f_X1_hasLine_o27 at hf
  refine ct_of (by decide +kernel) (Nat.le_of_ble_eq_true rfl) (fun p e s m args below meth c H locs ls C hr hlk hw hl => ?_)
  have C : Cx G p s m args c cX1_hasLine 2 RX1 := C
  have hl : lv_has ls 2 [(0, .ref (gA G 27)), (1, .int x1)] := hl
  refine lv_aload_n C.1.1 C.1.2.1 dX1_hasLine_0 rfl (lv_at hl 0 rfl) ?_
  refine x_get C hw iX_27_1 flX1_19 dX1_hasLine_1 ?_
  refine lv_iload_n C.1.1 C.1.2.1 dX1_hasLine_4 rfl (lv_at hl 1 rfl) ?_
  obtain ⟨q1, h1, hf⟩ := o_bind hf
  refine aft_i hw (run_S C hw clX1_66 (As := [.int (X 27 1), .int x1]) (rest := []) (c_X8_has h1) hl.1 rfl ⟨(Nat.le_of_ble_eq_true rfl), (Nat.le_of_ble_eq_true rfl)⟩ ⟨Nat.zero_le _, Nat.zero_le _⟩ rfl (Nat.le_of_ble_eq_true rfl) dX1_hasLine_5) (fun H locs hw => ?_)
  have g2 := (o_g hf).1
  have hf := (o_g hf).2
  obtain rfl := Option.some.inj hf
  exact ret_z (r := q1) C hr hlk hw (nar_z g2) dX1_hasLine_8
end
/-! WinnerDraws$Book.isRight(LWinnerDraws$County;)Z (('o', 'X', 27) ('o', 'X', 3)) -/
def L_X1_isRight_2 : Nat → TX → Int32 → Option (Int32)
  | 0 => fun _ _ => none
  | n + 1 => fun X x2 => if (4 : Int32) ≤ x2 then (some (1 : Int32)) else ((f_X1_hasLine_o27 X x2).bind fun q2 => if q2 = 0 then ((L_X1_isRight_2 n) X (x2 + (1 : Int32))) else ((f_X3_winner X x2).bind fun q4 => (f_X8_at 28 X x2).bind fun q5 => if q4 = q5 then ((L_X1_isRight_2 n) X (x2 + (1 : Int32))) else (some (0 : Int32))))
def f_X1_isRight (X : TX) : Option (Int32) := L_X1_isRight_2 FU X (0 : Int32)
section
variable {G : GP} {l : Launch}
set_option maxRecDepth 20000 in
set_option maxHeartbeats 2000000 in
theorem wL_X1_isRight_2 {p : Program} {e : Env} {s : State} {m : MethodId} {args : Array Value} {below : List Frame} {meth : Method} {c : Code} (C : Cx G p s m args c cX1_isRight 3 RX1) (hr : meth.sig.returnType = (some .boolean)) (hlk : meth.locks = false) {ro : Int32} : ∀ (n : Nat), ∀ (X : TX) (M : TX) (L : TL) (x2 : Int32) (H : Heap) (locs : List Loc) (ls : Array Slot), Wh G s X M L H locs → lv_has ls 3 [(0, .ref (gA G 27)), (1, .ref (gA G 3)), (2, .int x2)] → L_X1_isRight_2 n X x2 = some ro → W p l e (rz 2 43) s m args below meth c H locs 0 0 (MQ below (Di G X M L ro) args s 0 0 (AB G)) (F0 m 2 ls []) := by
  intro n
  induction n with
  | zero =>
    intro X M L x2 H locs ls hw hl hf
    cases hf
  | succ n hk_2 =>
    intro X M L x2 H locs ls hw hl hf
    rw [L_X1_isRight_2] at hf
    refine lv_iload_n C.1.1 C.1.2.1 dX1_isRight_2 rfl (lv_at hl 2 rfl) ?_
    refine lv_iconst (v := (4 : Int32)) C.1.1 C.1.2.1 dX1_isRight_3 rfl ?_
    refine lv_icmp_ge (tgt := 39) C.1.1 C.1.2.1 dX1_isRight_4 (by decide) (fun c1 => ?_) (fun c1 => ?_)
    · have hf := o_t hf c1
      refine lv_iconst (v := (1 : Int32)) C.1.1 C.1.2.1 dX1_isRight_39 rfl ?_
      obtain rfl := Option.some.inj hf
      exact ret_z (r := (1 : Int32)) C hr hlk hw rfl dX1_isRight_40
    · have hf := o_f hf c1
      refine lv_aload_n C.1.1 C.1.2.1 dX1_isRight_7 rfl (lv_at hl 0 rfl) ?_
      refine lv_iload_n C.1.1 C.1.2.1 dX1_isRight_8 rfl (lv_at hl 2 rfl) ?_
      obtain ⟨q2, h2, hf⟩ := o_bind hf
      refine aft_i hw (run_VX C hw clX1_46 (As := [.int x2]) (rest := []) oX_27 (c_X1_hasLine_o27 h2) rfl hl.1 rfl ⟨(Nat.le_of_ble_eq_true rfl), (Nat.le_of_ble_eq_true rfl)⟩ ⟨Nat.zero_le _, Nat.zero_le _⟩ rfl (Nat.le_of_ble_eq_true rfl) dX1_isRight_9) (fun H locs hw => ?_)
      refine lv_if_eq (tgt := 33) C.1.1 C.1.2.1 dX1_isRight_12 (by decide) (fun c3 => ?_) (fun c3 => ?_)
      · have hf := o_t hf c3
        refine lv_iinc (v := (x2 + (1 : Int32))) (lv' := [(2, .int (x2 + (1 : Int32))), (0, .ref (gA G 27)), (1, .ref (gA G 3))]) C.1.1 C.1.2.1 dX1_isRight_33 hl (k := 2) rfl rfl (by decide) rfl (fun ls hl => ?_)
        refine lv_goto (tgt := 2) C.1.1 C.1.2.1 dX1_isRight_36 (by decide) ?_
        exact hk_2 X M L (x2 + (1 : Int32)) _ _ _ hw (lv_sub hl [1, 2, 0] rfl) hf
      · have hf := o_f hf c3
        refine lv_aload_n C.1.1 C.1.2.1 dX1_isRight_15 rfl (lv_at hl 1 rfl) ?_
        refine lv_iload_n C.1.1 C.1.2.1 dX1_isRight_16 rfl (lv_at hl 2 rfl) ?_
        obtain ⟨q4, h4, hf⟩ := o_bind hf
        refine aft_i hw (run_VX C hw clX1_69 (As := [.int x2]) (rest := []) oX_3 (c_X3_winner h4) rfl hl.1 rfl ⟨(Nat.le_of_ble_eq_true rfl), (Nat.le_of_ble_eq_true rfl)⟩ ⟨Nat.zero_le _, Nat.zero_le _⟩ rfl (Nat.le_of_ble_eq_true rfl) dX1_isRight_17) (fun H locs hw => ?_)
        refine lv_aload_n C.1.1 C.1.2.1 dX1_isRight_20 rfl (lv_at hl 0 rfl) ?_
        refine x_ref C hw fX_27_0 flX1_9 dX1_isRight_21 ?_
        refine lv_iload_n C.1.1 C.1.2.1 dX1_isRight_24 rfl (lv_at hl 2 rfl) ?_
        obtain ⟨q5, h5, hf⟩ := o_bind hf
        refine aft_i hw (run_S C hw clX1_74 (As := [.ref (gA G 28), .int x2]) (rest := [.int q4]) (c_X8_at aX_28 h5) hl.1 rfl ⟨(Nat.le_of_ble_eq_true rfl), (Nat.le_of_ble_eq_true rfl)⟩ ⟨Nat.zero_le _, Nat.zero_le _⟩ rfl (Nat.le_of_ble_eq_true rfl) dX1_isRight_25) (fun H locs hw => ?_)
        refine lv_icmp_eq (tgt := 33) C.1.1 C.1.2.1 dX1_isRight_28 (by decide) (fun c6 => ?_) (fun c6 => ?_)
        · have hf := o_t hf c6
          refine lv_iinc (v := (x2 + (1 : Int32))) (lv' := [(2, .int (x2 + (1 : Int32))), (0, .ref (gA G 27)), (1, .ref (gA G 3))]) C.1.1 C.1.2.1 dX1_isRight_33 hl (k := 2) rfl rfl (by decide) rfl (fun ls hl => ?_)
          refine lv_goto (tgt := 2) C.1.1 C.1.2.1 dX1_isRight_36 (by decide) ?_
          exact hk_2 X M L (x2 + (1 : Int32)) _ _ _ hw (lv_sub hl [1, 2, 0] rfl) hf
        · have hf := o_f hf c6
          refine lv_iconst (v := (0 : Int32)) C.1.1 C.1.2.1 dX1_isRight_31 rfl ?_
          obtain rfl := Option.some.inj hf
          exact ret_z (r := (0 : Int32)) C hr hlk hw rfl dX1_isRight_32
set_option maxRecDepth 20000 in
set_option maxHeartbeats 2000000 in
theorem c_X1_isRight   {X M : TX} {L : TL}  {ro : Int32} (hf : f_X1_isRight X = some ro) : CTi G l yX1_isRight cX1_isRight 3 (some .boolean) 2 43 [.ref (gA G 27), .ref (gA G 3)] X M L X M L ro := by
  unfold f_X1_isRight at hf
  refine ct_of (by decide +kernel) (Nat.le_of_ble_eq_true rfl) (fun p e s m args below meth c H locs ls C hr hlk hw hl => ?_)
  have C : Cx G p s m args c cX1_isRight 3 RX1 := C
  have hl : lv_has ls 3 [(0, .ref (gA G 27)), (1, .ref (gA G 3))] := hl
  refine lv_iconst (v := (0 : Int32)) C.1.1 C.1.2.1 dX1_isRight_0 rfl ?_
  refine lv_istore_n (lv' := [(2, .int (0 : Int32)), (0, .ref (gA G 27)), (1, .ref (gA G 3))]) C.1.1 C.1.2.1 dX1_isRight_1 rfl hl (by decide) rfl (fun ls hl => ?_)
  exact wL_X1_isRight_2 C hr hlk FU X M L (0 : Int32) _ _ _ hw (lv_sub hl [1, 2, 0] rfl) hf
end
