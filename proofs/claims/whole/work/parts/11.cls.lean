/-! WinnerDraws$County.readParish(LWinnerDraws$Text;)Z (('o', 'X', 11) ('o', 'X', 1)) -/
def L_X3_readParish_27 : Nat → TX → Int32 → Option (TX × Int32)
  | 0 => fun _ _ => none
  | n + 1 => fun X x2 => if (2 : Int32) ≤ x2 then (some ((u2 X 11 5 ((X 11 5) + (1 : Int32))), (1 : Int32))) else ((f_X7_number X (99 : Int32)).bind fun q5 => if q5.2 = 0 then (some (q5.1, (0 : Int32))) else ((f_X8_put 13 q5.1 ((x2 * (10 : Int32)) + (q5.1 11 5)) (q5.1 1 5)).bind fun q7 => (L_X3_readParish_27 n) q7 (x2 + (1 : Int32))))
def f_X3_readParish (X : TX) : Option (TX × Int32) := (f_X7_number X (3 : Int32)).bind fun q1 => if q1.2 = 0 then (some (q1.1, (0 : Int32))) else ((f_X8_put 12 q1.1 (q1.1 11 5) (q1.1 1 5)).bind fun q3 => L_X3_readParish_27 FU q3 (0 : Int32))
section
variable {G : GP} {l : Launch}
set_option maxRecDepth 20000 in
set_option maxHeartbeats 2000000 in
theorem wL_X3_readParish_27 {p : Program} {e : Env} {s : State} {m : MethodId} {args : Array Value} {below : List Frame} {meth : Method} {c : Code} (C : Cx G p s m args c cX3_readParish 3 RX3) (hr : meth.sig.returnType = (some .boolean)) (hlk : meth.locks = false) {ro : TX × Int32} : ∀ (n : Nat), ∀ (X : TX) (M : TX) (L : TL) (x2 : Int32) (H : Heap) (locs : List Loc) (ls : Array Slot), Wh G s X M L H locs → lv_has ls 3 [(0, .ref (gA G 11)), (1, .ref (gA G 1)), (2, .int x2)] → L_X3_readParish_27 n X x2 = some ro → W p l e (rz 3 62) s m args below meth c H locs 0 0 (MQ below (Di G ro.1 M L ro.2) args s 0 0 (AB G)) (F0 m 27 ls []) := by
  intro n
  induction n with
  | zero =>
    intro X M L x2 H locs ls hw hl hf
    cases hf
  | succ n hk_27 =>
    intro X M L x2 H locs ls hw hl hf
    rw [L_X3_readParish_27] at hf
    refine lv_iload_n C.1.1 C.1.2.1 dX3_readParish_27 rfl (lv_at hl 2 rfl) ?_
    refine lv_iconst (v := (2 : Int32)) C.1.1 C.1.2.1 dX3_readParish_28 rfl ?_
    refine lv_icmp_ge (tgt := 69) C.1.1 C.1.2.1 dX3_readParish_29 (by decide) (fun c4 => ?_) (fun c4 => ?_)
    · have hf := o_t hf c4
      refine lv_aload_n C.1.1 C.1.2.1 dX3_readParish_69 rfl (lv_at hl 0 rfl) ?_
      refine lv_dup C.1.1 C.1.2.1 dX3_readParish_70 rfl ?_
      refine x_get C hw iX_11_5 flX3_44 dX3_readParish_71 ?_
      refine lv_iconst (v := (1 : Int32)) C.1.1 C.1.2.1 dX3_readParish_74 rfl ?_
      refine lv_iadd C.1.1 C.1.2.1 dX3_readParish_75 ?_
      refine x_put C hw iX_11_5 flX3_44 dX3_readParish_76 (fun H locs hw => ?_)
      refine lv_iconst (v := (1 : Int32)) C.1.1 C.1.2.1 dX3_readParish_79 rfl ?_
      obtain rfl := Option.some.inj hf
      exact ret_z (r := (1 : Int32)) C hr hlk hw rfl dX3_readParish_80
    · have hf := o_f hf c4
      refine lv_aload_n C.1.1 C.1.2.1 dX3_readParish_32 rfl (lv_at hl 1 rfl) ?_
      refine lv_bipush (v := (99 : Int32)) C.1.1 C.1.2.1 dX3_readParish_33 rfl ?_
      obtain ⟨q5, h5, hf⟩ := o_bind hf
      refine aft_i hw (run_VX C hw clX3_128 (As := [.int (99 : Int32)]) (rest := []) oX_1 (c_X7_number h5) rfl hl.1 rfl ⟨(Nat.le_of_ble_eq_true rfl), (Nat.le_of_ble_eq_true rfl)⟩ ⟨Nat.zero_le _, Nat.zero_le _⟩ rfl (Nat.le_of_ble_eq_true rfl) dX3_readParish_35) (fun H locs hw => ?_)
      refine lv_if_ne (tgt := 43) C.1.1 C.1.2.1 dX3_readParish_38 (by decide) (fun c6 => ?_) (fun c6 => ?_)
      · have hf := o_f hf c6
        refine lv_aload_n C.1.1 C.1.2.1 dX3_readParish_43 rfl (lv_at hl 0 rfl) ?_
        refine x_ref C hw fX_11_1 flX3_15 dX3_readParish_44 ?_
        refine lv_iload_n C.1.1 C.1.2.1 dX3_readParish_47 rfl (lv_at hl 2 rfl) ?_
        refine lv_bipush (v := (10 : Int32)) C.1.1 C.1.2.1 dX3_readParish_48 rfl ?_
        refine lv_imul C.1.1 C.1.2.1 dX3_readParish_50 ?_
        refine lv_aload_n C.1.1 C.1.2.1 dX3_readParish_51 rfl (lv_at hl 0 rfl) ?_
        refine x_get C hw iX_11_5 flX3_44 dX3_readParish_52 ?_
        refine lv_iadd C.1.1 C.1.2.1 dX3_readParish_55 ?_
        refine lv_aload_n C.1.1 C.1.2.1 dX3_readParish_56 rfl (lv_at hl 1 rfl) ?_
        refine x_get C hw iX_1_5 flX3_131 dX3_readParish_57 ?_
        obtain ⟨q7, h7, hf⟩ := o_bind hf
        refine aft_v hw (run_S C hw clX3_40 (As := [.ref (gA G 13), .int ((x2 * (10 : Int32)) + (q5.1 11 5)), .int (q5.1 1 5)]) (rest := []) (c_X8_put aX_13 h7) hl.1 rfl ⟨(Nat.le_of_ble_eq_true rfl), (Nat.le_of_ble_eq_true rfl)⟩ ⟨Nat.zero_le _, Nat.zero_le _⟩ rfl (Nat.le_of_ble_eq_true rfl) dX3_readParish_60) (fun H locs hw => ?_)
        refine lv_iinc (v := (x2 + (1 : Int32))) (lv' := [(2, .int (x2 + (1 : Int32))), (0, .ref (gA G 11)), (1, .ref (gA G 1))]) C.1.1 C.1.2.1 dX3_readParish_63 hl (k := 2) rfl rfl (by decide) rfl (fun ls hl => ?_)
        refine lv_goto (tgt := 27) C.1.1 C.1.2.1 dX3_readParish_66 (by decide) ?_
        exact hk_27 q7 M L (x2 + (1 : Int32)) _ _ _ hw (lv_sub hl [1, 2, 0] rfl) hf
      · have hf := o_t hf c6
        refine lv_iconst (v := (0 : Int32)) C.1.1 C.1.2.1 dX3_readParish_41 rfl ?_
        obtain rfl := Option.some.inj hf
        exact ret_z (r := (0 : Int32)) C hr hlk hw rfl dX3_readParish_42
set_option maxRecDepth 20000 in
set_option maxHeartbeats 2000000 in
theorem c_X3_readParish   {X M : TX} {L : TL}  {ro : TX × Int32} (hf : f_X3_readParish X = some ro) : CTi G l yX3_readParish cX3_readParish 3 (some .boolean) 3 62 [.ref (gA G 11), .ref (gA G 1)] X M L ro.1 M L ro.2 := by
  unfold f_X3_readParish at hf
  refine ct_of (by decide +kernel) (Nat.le_of_ble_eq_true rfl) (fun p e s m args below meth c H locs ls C hr hlk hw hl => ?_)
  have C : Cx G p s m args c cX3_readParish 3 RX3 := C
  have hl : lv_has ls 3 [(0, .ref (gA G 11)), (1, .ref (gA G 1))] := hl
  refine lv_aload_n C.1.1 C.1.2.1 dX3_readParish_0 rfl (lv_at hl 1 rfl) ?_
  refine lv_iconst (v := (3 : Int32)) C.1.1 C.1.2.1 dX3_readParish_1 rfl ?_
  obtain ⟨q1, h1, hf⟩ := o_bind hf
  refine aft_i hw (run_VX C hw clX3_128 (As := [.int (3 : Int32)]) (rest := []) oX_1 (c_X7_number h1) rfl hl.1 rfl ⟨(Nat.le_of_ble_eq_true rfl), (Nat.le_of_ble_eq_true rfl)⟩ ⟨Nat.zero_le _, Nat.zero_le _⟩ rfl (Nat.le_of_ble_eq_true rfl) dX3_readParish_2) (fun H locs hw => ?_)
  refine lv_if_ne (tgt := 10) C.1.1 C.1.2.1 dX3_readParish_5 (by decide) (fun c2 => ?_) (fun c2 => ?_)
  · have hf := o_f hf c2
    refine lv_aload_n C.1.1 C.1.2.1 dX3_readParish_10 rfl (lv_at hl 0 rfl) ?_
    refine x_ref C hw fX_11_0 flX3_9 dX3_readParish_11 ?_
    refine lv_aload_n C.1.1 C.1.2.1 dX3_readParish_14 rfl (lv_at hl 0 rfl) ?_
    refine x_get C hw iX_11_5 flX3_44 dX3_readParish_15 ?_
    refine lv_aload_n C.1.1 C.1.2.1 dX3_readParish_18 rfl (lv_at hl 1 rfl) ?_
    refine x_get C hw iX_1_5 flX3_131 dX3_readParish_19 ?_
    obtain ⟨q3, h3, hf⟩ := o_bind hf
    refine aft_v hw (run_S C hw clX3_40 (As := [.ref (gA G 12), .int (q1.1 11 5), .int (q1.1 1 5)]) (rest := []) (c_X8_put aX_12 h3) hl.1 rfl ⟨(Nat.le_of_ble_eq_true rfl), (Nat.le_of_ble_eq_true rfl)⟩ ⟨Nat.zero_le _, Nat.zero_le _⟩ rfl (Nat.le_of_ble_eq_true rfl) dX3_readParish_22) (fun H locs hw => ?_)
    refine lv_iconst (v := (0 : Int32)) C.1.1 C.1.2.1 dX3_readParish_25 rfl ?_
    refine lv_istore_n (lv' := [(2, .int (0 : Int32)), (0, .ref (gA G 11)), (1, .ref (gA G 1))]) C.1.1 C.1.2.1 dX3_readParish_26 rfl hl (by decide) rfl (fun ls hl => ?_)
    exact wL_X3_readParish_27 C hr hlk FU q3 M L (0 : Int32) _ _ _ hw (lv_sub hl [1, 2, 0] rfl) hf
  · have hf := o_t hf c2
    refine lv_iconst (v := (0 : Int32)) C.1.1 C.1.2.1 dX3_readParish_8 rfl ?_
    obtain rfl := Option.some.inj hf
    exact ret_z (r := (0 : Int32)) C hr hlk hw rfl dX3_readParish_9
end
/-! WinnerDraws$County.readRoad(LWinnerDraws$Text;)Z (('o', 'X', 11) ('o', 'X', 1)) -/
def f_X3_readRoad (X : TX) : Option (TX × Int32) := (f_X7_number X ((X 11 5) - (1 : Int32))).bind fun q1 => if q1.2 = 0 then (some (q1.1, (0 : Int32))) else ((f_X7_number q1.1 ((q1.1 11 5) - (1 : Int32))).bind fun q3 => if q3.2 = 0 then (some (q3.1, (0 : Int32))) else (if (q3.1 1 5) = (q1.1 1 5) then ((f_X7_fail q3.1 (2 : Int32) (q3.1 1 4)).bind fun q10 => if q10.2 &&& 1 = q10.2 then (some (q10.1, q10.2)) else none) else ((f_X8_at 14 q3.1 (q1.1 1 5)).bind fun q6 => (f_X8_put 14 q3.1 (q1.1 1 5) (q6 ||| ((1 : Int32) <<< ((q3.1 1 5) &&& 31)))).bind fun q7 => (f_X8_at 14 q7 (q3.1 1 5)).bind fun q8 => (f_X8_put 14 q7 (q3.1 1 5) (q8 ||| ((1 : Int32) <<< ((q1.1 1 5) &&& 31)))).bind fun q9 => some (q9, (1 : Int32)))))
section
variable {G : GP} {l : Launch}
set_option maxRecDepth 20000 in
set_option maxHeartbeats 2000000 in
theorem c_X3_readRoad   {X M : TX} {L : TL}  {ro : TX × Int32} (hf : f_X3_readRoad X = some ro) : CTi G l yX3_readRoad cX3_readRoad 4 (some .boolean) 3 62 [.ref (gA G 11), .ref (gA G 1)] X M L ro.1 M L ro.2 := by
  unfold f_X3_readRoad at hf
  refine ct_of (by decide +kernel) (Nat.le_of_ble_eq_true rfl) (fun p e s m args below meth c H locs ls C hr hlk hw hl => ?_)
  have C : Cx G p s m args c cX3_readRoad 4 RX3 := C
  have hl : lv_has ls 4 [(0, .ref (gA G 11)), (1, .ref (gA G 1))] := hl
  refine lv_aload_n C.1.1 C.1.2.1 dX3_readRoad_0 rfl (lv_at hl 1 rfl) ?_
  refine lv_aload_n C.1.1 C.1.2.1 dX3_readRoad_1 rfl (lv_at hl 0 rfl) ?_
  refine x_get C hw iX_11_5 flX3_44 dX3_readRoad_2 ?_
  refine lv_iconst (v := (1 : Int32)) C.1.1 C.1.2.1 dX3_readRoad_5 rfl ?_
  refine lv_isub C.1.1 C.1.2.1 dX3_readRoad_6 ?_
  obtain ⟨q1, h1, hf⟩ := o_bind hf
  refine aft_i hw (run_VX C hw clX3_128 (As := [.int ((X 11 5) - (1 : Int32))]) (rest := []) oX_1 (c_X7_number h1) rfl hl.1 rfl ⟨(Nat.le_of_ble_eq_true rfl), (Nat.le_of_ble_eq_true rfl)⟩ ⟨Nat.zero_le _, Nat.zero_le _⟩ rfl (Nat.le_of_ble_eq_true rfl) dX3_readRoad_7) (fun H locs hw => ?_)
  refine lv_if_ne (tgt := 15) C.1.1 C.1.2.1 dX3_readRoad_10 (by decide) (fun c2 => ?_) (fun c2 => ?_)
  · have hf := o_f hf c2
    refine lv_aload_n C.1.1 C.1.2.1 dX3_readRoad_15 rfl (lv_at hl 1 rfl) ?_
    refine x_get C hw iX_1_5 flX3_131 dX3_readRoad_16 ?_
    refine lv_istore_n (lv' := [(2, .int (q1.1 1 5)), (0, .ref (gA G 11)), (1, .ref (gA G 1))]) C.1.1 C.1.2.1 dX3_readRoad_19 rfl hl (by decide) rfl (fun ls hl => ?_)
    refine lv_aload_n C.1.1 C.1.2.1 dX3_readRoad_20 rfl (lv_at hl 2 rfl) ?_
    refine lv_aload_n C.1.1 C.1.2.1 dX3_readRoad_21 rfl (lv_at hl 1 rfl) ?_
    refine x_get C hw iX_11_5 flX3_44 dX3_readRoad_22 ?_
    refine lv_iconst (v := (1 : Int32)) C.1.1 C.1.2.1 dX3_readRoad_25 rfl ?_
    refine lv_isub C.1.1 C.1.2.1 dX3_readRoad_26 ?_
    obtain ⟨q3, h3, hf⟩ := o_bind hf
    refine aft_i hw (run_VX C hw clX3_128 (As := [.int ((q1.1 11 5) - (1 : Int32))]) (rest := []) oX_1 (c_X7_number h3) rfl hl.1 rfl ⟨(Nat.le_of_ble_eq_true rfl), (Nat.le_of_ble_eq_true rfl)⟩ ⟨Nat.zero_le _, Nat.zero_le _⟩ rfl (Nat.le_of_ble_eq_true rfl) dX3_readRoad_27) (fun H locs hw => ?_)
    refine lv_if_ne (tgt := 35) C.1.1 C.1.2.1 dX3_readRoad_30 (by decide) (fun c4 => ?_) (fun c4 => ?_)
    · have hf := o_f hf c4
      refine lv_aload_n C.1.1 C.1.2.1 dX3_readRoad_35 rfl (lv_at hl 2 rfl) ?_
      refine x_get C hw iX_1_5 flX3_131 dX3_readRoad_36 ?_
      refine lv_istore_n (lv' := [(3, .int (q3.1 1 5)), (2, .int (q1.1 1 5)), (0, .ref (gA G 11)), (1, .ref (gA G 1))]) C.1.1 C.1.2.1 dX3_readRoad_39 rfl hl (by decide) rfl (fun ls hl => ?_)
      refine lv_iload_n C.1.1 C.1.2.1 dX3_readRoad_40 rfl (lv_at hl 0 rfl) ?_
      refine lv_iload_n C.1.1 C.1.2.1 dX3_readRoad_41 rfl (lv_at hl 1 rfl) ?_
      refine lv_icmp_ne (tgt := 55) C.1.1 C.1.2.1 dX3_readRoad_42 (by decide) (fun c5 => ?_) (fun c5 => ?_)
      · have hf := o_f hf c5
        refine lv_aload_n C.1.1 C.1.2.1 dX3_readRoad_55 rfl (lv_at hl 2 rfl) ?_
        refine x_ref C hw fX_11_2 flX3_18 dX3_readRoad_56 ?_
        refine lv_iload_n C.1.1 C.1.2.1 dX3_readRoad_59 rfl (lv_at hl 1 rfl) ?_
        refine lv_aload_n C.1.1 C.1.2.1 dX3_readRoad_60 rfl (lv_at hl 2 rfl) ?_
        refine x_ref C hw fX_11_2 flX3_18 dX3_readRoad_61 ?_
        refine lv_iload_n C.1.1 C.1.2.1 dX3_readRoad_64 rfl (lv_at hl 1 rfl) ?_
        obtain ⟨q6, h6, hf⟩ := o_bind hf
        refine aft_i hw (run_S C hw clX3_66 (As := [.ref (gA G 14), .int (q1.1 1 5)]) (rest := [.int (q1.1 1 5), .ref (gA G 14)]) (c_X8_at aX_14 h6) hl.1 rfl ⟨(Nat.le_of_ble_eq_true rfl), (Nat.le_of_ble_eq_true rfl)⟩ ⟨Nat.zero_le _, Nat.zero_le _⟩ rfl (Nat.le_of_ble_eq_true rfl) dX3_readRoad_65) (fun H locs hw => ?_)
        refine lv_iconst (v := (1 : Int32)) C.1.1 C.1.2.1 dX3_readRoad_68 rfl ?_
        refine lv_iload_n C.1.1 C.1.2.1 dX3_readRoad_69 rfl (lv_at hl 0 rfl) ?_
        refine lv_ishl C.1.1 C.1.2.1 dX3_readRoad_70 ?_
        refine lv_ior C.1.1 C.1.2.1 dX3_readRoad_71 ?_
        obtain ⟨q7, h7, hf⟩ := o_bind hf
        refine aft_v hw (run_S C hw clX3_40 (As := [.ref (gA G 14), .int (q1.1 1 5), .int (q6 ||| ((1 : Int32) <<< ((q3.1 1 5) &&& 31)))]) (rest := []) (c_X8_put aX_14 h7) hl.1 rfl ⟨(Nat.le_of_ble_eq_true rfl), (Nat.le_of_ble_eq_true rfl)⟩ ⟨Nat.zero_le _, Nat.zero_le _⟩ rfl (Nat.le_of_ble_eq_true rfl) dX3_readRoad_72) (fun H locs hw => ?_)
        refine lv_aload_n C.1.1 C.1.2.1 dX3_readRoad_75 rfl (lv_at hl 2 rfl) ?_
        refine x_ref C hw fX_11_2 flX3_18 dX3_readRoad_76 ?_
        refine lv_iload_n C.1.1 C.1.2.1 dX3_readRoad_79 rfl (lv_at hl 0 rfl) ?_
        refine lv_aload_n C.1.1 C.1.2.1 dX3_readRoad_80 rfl (lv_at hl 2 rfl) ?_
        refine x_ref C hw fX_11_2 flX3_18 dX3_readRoad_81 ?_
        refine lv_iload_n C.1.1 C.1.2.1 dX3_readRoad_84 rfl (lv_at hl 0 rfl) ?_
        obtain ⟨q8, h8, hf⟩ := o_bind hf
        refine aft_i hw (run_S C hw clX3_66 (As := [.ref (gA G 14), .int (q3.1 1 5)]) (rest := [.int (q3.1 1 5), .ref (gA G 14)]) (c_X8_at aX_14 h8) hl.1 rfl ⟨(Nat.le_of_ble_eq_true rfl), (Nat.le_of_ble_eq_true rfl)⟩ ⟨Nat.zero_le _, Nat.zero_le _⟩ rfl (Nat.le_of_ble_eq_true rfl) dX3_readRoad_85) (fun H locs hw => ?_)
        refine lv_iconst (v := (1 : Int32)) C.1.1 C.1.2.1 dX3_readRoad_88 rfl ?_
        refine lv_iload_n C.1.1 C.1.2.1 dX3_readRoad_89 rfl (lv_at hl 1 rfl) ?_
        refine lv_ishl C.1.1 C.1.2.1 dX3_readRoad_90 ?_
        refine lv_ior C.1.1 C.1.2.1 dX3_readRoad_91 ?_
        obtain ⟨q9, h9, hf⟩ := o_bind hf
        refine aft_v hw (run_S C hw clX3_40 (As := [.ref (gA G 14), .int (q3.1 1 5), .int (q8 ||| ((1 : Int32) <<< ((q1.1 1 5) &&& 31)))]) (rest := []) (c_X8_put aX_14 h9) hl.1 rfl ⟨(Nat.le_of_ble_eq_true rfl), (Nat.le_of_ble_eq_true rfl)⟩ ⟨Nat.zero_le _, Nat.zero_le _⟩ rfl (Nat.le_of_ble_eq_true rfl) dX3_readRoad_92) (fun H locs hw => ?_)
        refine lv_iconst (v := (1 : Int32)) C.1.1 C.1.2.1 dX3_readRoad_95 rfl ?_
        obtain rfl := Option.some.inj hf
        exact ret_z (r := (1 : Int32)) C hr hlk hw rfl dX3_readRoad_96
      · have hf := o_t hf c5
        refine lv_aload_n C.1.1 C.1.2.1 dX3_readRoad_45 rfl (lv_at hl 3 rfl) ?_
        refine lv_iconst (v := (2 : Int32)) C.1.1 C.1.2.1 dX3_readRoad_46 rfl ?_
        refine lv_aload_n C.1.1 C.1.2.1 dX3_readRoad_47 rfl (lv_at hl 3 rfl) ?_
        refine x_get C hw iX_1_4 flX3_101 dX3_readRoad_48 ?_
        obtain ⟨q10, h10, hf⟩ := o_bind hf
        refine aft_i hw (run_VX C hw clX3_90 (As := [.int (2 : Int32), .int (q3.1 1 4)]) (rest := []) oX_1 (c_X7_fail h10) rfl hl.1 rfl ⟨(Nat.le_of_ble_eq_true rfl), (Nat.le_of_ble_eq_true rfl)⟩ ⟨Nat.zero_le _, Nat.zero_le _⟩ rfl (Nat.le_of_ble_eq_true rfl) dX3_readRoad_51) (fun H locs hw => ?_)
        have g11 := (o_g hf).1
        have hf := (o_g hf).2
        obtain rfl := Option.some.inj hf
        exact ret_z (r := q10.2) C hr hlk hw (nar_z g11) dX3_readRoad_54
    · have hf := o_t hf c4
      refine lv_iconst (v := (0 : Int32)) C.1.1 C.1.2.1 dX3_readRoad_33 rfl ?_
      obtain rfl := Option.some.inj hf
      exact ret_z (r := (0 : Int32)) C hr hlk hw rfl dX3_readRoad_34
  · have hf := o_t hf c2
    refine lv_iconst (v := (0 : Int32)) C.1.1 C.1.2.1 dX3_readRoad_13 rfl ?_
    obtain rfl := Option.some.inj hf
    exact ret_z (r := (0 : Int32)) C hr hlk hw rfl dX3_readRoad_14
end
/-! WinnerDraws$County.readTide(LWinnerDraws$Text;)Z (('o', 'X', 11) ('o', 'X', 1)) -/
def f_X3_readTide (X : TX) : Option (TX × Int32) := (f_X7_number X (1 : Int32)).bind fun q1 => if q1.2 = 0 then (some (q1.1, (0 : Int32))) else ((f_X8_put 15 q1.1 (q1.1 11 6) (q1.1 1 5)).bind fun q3 => (f_X7_number q3 (20 : Int32)).bind fun q4 => if q4.2 = 0 then (some (q4.1, (0 : Int32))) else ((f_X8_put 16 q4.1 (q4.1 11 6) (q4.1 1 5)).bind fun q6 => some ((u2 q6 11 6 ((q6 11 6) + (1 : Int32))), (1 : Int32))))
section
variable {G : GP} {l : Launch}
set_option maxRecDepth 20000 in
set_option maxHeartbeats 2000000 in
theorem c_X3_readTide   {X M : TX} {L : TL}  {ro : TX × Int32} (hf : f_X3_readTide X = some ro) : CTi G l yX3_readTide cX3_readTide 2 (some .boolean) 3 62 [.ref (gA G 11), .ref (gA G 1)] X M L ro.1 M L ro.2 := by
  unfold f_X3_readTide at hf
  refine ct_of (by decide +kernel) (Nat.le_of_ble_eq_true rfl) (fun p e s m args below meth c H locs ls C hr hlk hw hl => ?_)
  have C : Cx G p s m args c cX3_readTide 2 RX3 := C
  have hl : lv_has ls 2 [(0, .ref (gA G 11)), (1, .ref (gA G 1))] := hl
  refine lv_aload_n C.1.1 C.1.2.1 dX3_readTide_0 rfl (lv_at hl 1 rfl) ?_
  refine lv_iconst (v := (1 : Int32)) C.1.1 C.1.2.1 dX3_readTide_1 rfl ?_
  obtain ⟨q1, h1, hf⟩ := o_bind hf
  refine aft_i hw (run_VX C hw clX3_128 (As := [.int (1 : Int32)]) (rest := []) oX_1 (c_X7_number h1) rfl hl.1 rfl ⟨(Nat.le_of_ble_eq_true rfl), (Nat.le_of_ble_eq_true rfl)⟩ ⟨Nat.zero_le _, Nat.zero_le _⟩ rfl (Nat.le_of_ble_eq_true rfl) dX3_readTide_2) (fun H locs hw => ?_)
  refine lv_if_ne (tgt := 10) C.1.1 C.1.2.1 dX3_readTide_5 (by decide) (fun c2 => ?_) (fun c2 => ?_)
  · have hf := o_f hf c2
    refine lv_aload_n C.1.1 C.1.2.1 dX3_readTide_10 rfl (lv_at hl 0 rfl) ?_
    refine x_ref C hw fX_11_3 flX3_21 dX3_readTide_11 ?_
    refine lv_aload_n C.1.1 C.1.2.1 dX3_readTide_14 rfl (lv_at hl 0 rfl) ?_
    refine x_get C hw iX_11_6 flX3_47 dX3_readTide_15 ?_
    refine lv_aload_n C.1.1 C.1.2.1 dX3_readTide_18 rfl (lv_at hl 1 rfl) ?_
    refine x_get C hw iX_1_5 flX3_131 dX3_readTide_19 ?_
    obtain ⟨q3, h3, hf⟩ := o_bind hf
    refine aft_v hw (run_S C hw clX3_40 (As := [.ref (gA G 15), .int (q1.1 11 6), .int (q1.1 1 5)]) (rest := []) (c_X8_put aX_15 h3) hl.1 rfl ⟨(Nat.le_of_ble_eq_true rfl), (Nat.le_of_ble_eq_true rfl)⟩ ⟨Nat.zero_le _, Nat.zero_le _⟩ rfl (Nat.le_of_ble_eq_true rfl) dX3_readTide_22) (fun H locs hw => ?_)
    refine lv_aload_n C.1.1 C.1.2.1 dX3_readTide_25 rfl (lv_at hl 1 rfl) ?_
    refine lv_bipush (v := (20 : Int32)) C.1.1 C.1.2.1 dX3_readTide_26 rfl ?_
    obtain ⟨q4, h4, hf⟩ := o_bind hf
    refine aft_i hw (run_VX C hw clX3_128 (As := [.int (20 : Int32)]) (rest := []) oX_1 (c_X7_number h4) rfl hl.1 rfl ⟨(Nat.le_of_ble_eq_true rfl), (Nat.le_of_ble_eq_true rfl)⟩ ⟨Nat.zero_le _, Nat.zero_le _⟩ rfl (Nat.le_of_ble_eq_true rfl) dX3_readTide_28) (fun H locs hw => ?_)
    refine lv_if_ne (tgt := 36) C.1.1 C.1.2.1 dX3_readTide_31 (by decide) (fun c5 => ?_) (fun c5 => ?_)
    · have hf := o_f hf c5
      refine lv_aload_n C.1.1 C.1.2.1 dX3_readTide_36 rfl (lv_at hl 0 rfl) ?_
      refine x_ref C hw fX_11_4 flX3_24 dX3_readTide_37 ?_
      refine lv_aload_n C.1.1 C.1.2.1 dX3_readTide_40 rfl (lv_at hl 0 rfl) ?_
      refine x_get C hw iX_11_6 flX3_47 dX3_readTide_41 ?_
      refine lv_aload_n C.1.1 C.1.2.1 dX3_readTide_44 rfl (lv_at hl 1 rfl) ?_
      refine x_get C hw iX_1_5 flX3_131 dX3_readTide_45 ?_
      obtain ⟨q6, h6, hf⟩ := o_bind hf
      refine aft_v hw (run_S C hw clX3_40 (As := [.ref (gA G 16), .int (q4.1 11 6), .int (q4.1 1 5)]) (rest := []) (c_X8_put aX_16 h6) hl.1 rfl ⟨(Nat.le_of_ble_eq_true rfl), (Nat.le_of_ble_eq_true rfl)⟩ ⟨Nat.zero_le _, Nat.zero_le _⟩ rfl (Nat.le_of_ble_eq_true rfl) dX3_readTide_48) (fun H locs hw => ?_)
      refine lv_aload_n C.1.1 C.1.2.1 dX3_readTide_51 rfl (lv_at hl 0 rfl) ?_
      refine lv_dup C.1.1 C.1.2.1 dX3_readTide_52 rfl ?_
      refine x_get C hw iX_11_6 flX3_47 dX3_readTide_53 ?_
      refine lv_iconst (v := (1 : Int32)) C.1.1 C.1.2.1 dX3_readTide_56 rfl ?_
      refine lv_iadd C.1.1 C.1.2.1 dX3_readTide_57 ?_
      refine x_put C hw iX_11_6 flX3_47 dX3_readTide_58 (fun H locs hw => ?_)
      refine lv_iconst (v := (1 : Int32)) C.1.1 C.1.2.1 dX3_readTide_61 rfl ?_
      obtain rfl := Option.some.inj hf
      exact ret_z (r := (1 : Int32)) C hr hlk hw rfl dX3_readTide_62
    · have hf := o_t hf c5
      refine lv_iconst (v := (0 : Int32)) C.1.1 C.1.2.1 dX3_readTide_34 rfl ?_
      obtain rfl := Option.some.inj hf
      exact ret_z (r := (0 : Int32)) C hr hlk hw rfl dX3_readTide_35
  · have hf := o_t hf c2
    refine lv_iconst (v := (0 : Int32)) C.1.1 C.1.2.1 dX3_readTide_8 rfl ?_
    obtain rfl := Option.some.inj hf
    exact ret_z (r := (0 : Int32)) C hr hlk hw rfl dX3_readTide_9
end
/-! WinnerDraws$County.readPurse(LWinnerDraws$Text;)Z (('o', 'X', 11) ('o', 'X', 1)) -/
def f_X3_readPurse (X : TX) : Option (TX × Int32) := (f_X7_number X (99 : Int32)).bind fun q1 => if q1.2 = 0 then (some (q1.1, (0 : Int32))) else (some ((u2 q1.1 11 7 (q1.1 1 5)), (1 : Int32)))
section
variable {G : GP} {l : Launch}
set_option maxRecDepth 20000 in
set_option maxHeartbeats 2000000 in
theorem c_X3_readPurse   {X M : TX} {L : TL}  {ro : TX × Int32} (hf : f_X3_readPurse X = some ro) : CTi G l yX3_readPurse cX3_readPurse 2 (some .boolean) 3 62 [.ref (gA G 11), .ref (gA G 1)] X M L ro.1 M L ro.2 := by
  unfold f_X3_readPurse at hf
  refine ct_of (by decide +kernel) (Nat.le_of_ble_eq_true rfl) (fun p e s m args below meth c H locs ls C hr hlk hw hl => ?_)
  have C : Cx G p s m args c cX3_readPurse 2 RX3 := C
  have hl : lv_has ls 2 [(0, .ref (gA G 11)), (1, .ref (gA G 1))] := hl
  refine lv_aload_n C.1.1 C.1.2.1 dX3_readPurse_0 rfl (lv_at hl 1 rfl) ?_
  refine lv_bipush (v := (99 : Int32)) C.1.1 C.1.2.1 dX3_readPurse_1 rfl ?_
  obtain ⟨q1, h1, hf⟩ := o_bind hf
  refine aft_i hw (run_VX C hw clX3_128 (As := [.int (99 : Int32)]) (rest := []) oX_1 (c_X7_number h1) rfl hl.1 rfl ⟨(Nat.le_of_ble_eq_true rfl), (Nat.le_of_ble_eq_true rfl)⟩ ⟨Nat.zero_le _, Nat.zero_le _⟩ rfl (Nat.le_of_ble_eq_true rfl) dX3_readPurse_3) (fun H locs hw => ?_)
  refine lv_if_ne (tgt := 11) C.1.1 C.1.2.1 dX3_readPurse_6 (by decide) (fun c2 => ?_) (fun c2 => ?_)
  · have hf := o_f hf c2
    refine lv_aload_n C.1.1 C.1.2.1 dX3_readPurse_11 rfl (lv_at hl 0 rfl) ?_
    refine lv_aload_n C.1.1 C.1.2.1 dX3_readPurse_12 rfl (lv_at hl 1 rfl) ?_
    refine x_get C hw iX_1_5 flX3_131 dX3_readPurse_13 ?_
    refine x_put C hw iX_11_7 flX3_27 dX3_readPurse_16 (fun H locs hw => ?_)
    refine lv_iconst (v := (1 : Int32)) C.1.1 C.1.2.1 dX3_readPurse_19 rfl ?_
    obtain rfl := Option.some.inj hf
    exact ret_z (r := (1 : Int32)) C hr hlk hw rfl dX3_readPurse_20
  · have hf := o_t hf c2
    refine lv_iconst (v := (0 : Int32)) C.1.1 C.1.2.1 dX3_readPurse_9 rfl ?_
    obtain rfl := Option.some.inj hf
    exact ret_z (r := (0 : Int32)) C hr hlk hw rfl dX3_readPurse_10
end
/-! WinnerDraws$County.readClause(LWinnerDraws$Text;I)Z (('o', 'X', 11) ('o', 'X', 1) ('i',)) -/
def B_X3_readClause_43 (X : TX) (x3 : Int32) : Option (TX × Int32) := if x3 = (3 : Int32) then (if (X 11 6) < (6 : Int32) then (if x3 = (1 : Int32) then ((f_X3_readParish X).bind fun q22 => if q22.2 &&& 1 = q22.2 then (some (q22.1, q22.2)) else none) else (if x3 = (2 : Int32) then ((f_X3_readRoad X).bind fun q25 => if q25.2 &&& 1 = q25.2 then (some (q25.1, q25.2)) else none) else (if x3 = (3 : Int32) then ((f_X3_readTide X).bind fun q28 => if q28.2 &&& 1 = q28.2 then (some (q28.1, q28.2)) else none) else (((f_X3_readPurse X).bind fun q30 => if q30.2 &&& 1 = q30.2 then (some (q30.1, q30.2)) else none))))) else ((f_X7_fail X (3 : Int32) (X 1 4)).bind fun q32 => if q32.2 &&& 1 = q32.2 then (some (q32.1, q32.2)) else none)) else (if x3 = (1 : Int32) then ((f_X3_readParish X).bind fun q10 => if q10.2 &&& 1 = q10.2 then (some (q10.1, q10.2)) else none) else (if x3 = (2 : Int32) then ((f_X3_readRoad X).bind fun q13 => if q13.2 &&& 1 = q13.2 then (some (q13.1, q13.2)) else none) else (if x3 = (3 : Int32) then ((f_X3_readTide X).bind fun q16 => if q16.2 &&& 1 = q16.2 then (some (q16.1, q16.2)) else none) else (((f_X3_readPurse X).bind fun q18 => if q18.2 &&& 1 = q18.2 then (some (q18.1, q18.2)) else none)))))
def f_X3_readClause (X : TX) (x2 : Int32) : Option (TX × Int32) := (f_X7_word X).bind fun q1 => (f_X3_clauseKind q1).bind fun q2 => if q2 = 0 then ((f_X7_fail q1 (1 : Int32) (q1 1 4)).bind fun q37 => if q37.2 &&& 1 = q37.2 then (some (q37.1, q37.2)) else none) else (if (60 : Int32) ≤ x2 then ((f_X7_fail q1 (3 : Int32) (q1 1 4)).bind fun q5 => if q5.2 &&& 1 = q5.2 then (some (q5.1, q5.2)) else none) else (if q2 = (1 : Int32) then (if (10 : Int32) ≤ (q1 11 5) then ((f_X7_fail q1 (3 : Int32) (q1 1 4)).bind fun q35 => if q35.2 &&& 1 = q35.2 then (some (q35.1, q35.2)) else none) else (B_X3_readClause_43 q1 q2)) else (B_X3_readClause_43 q1 q2)))
section
variable {G : GP} {l : Launch}
set_option maxRecDepth 20000 in
set_option maxHeartbeats 2000000 in
theorem wB_X3_readClause_43 {p : Program} {e : Env} {s : State} {m : MethodId} {args : Array Value} {below : List Frame} {meth : Method} {c : Code} (C : Cx G p s m args c cX3_readClause 4 RX3) (hr : meth.sig.returnType = (some .boolean)) (hlk : meth.locks = false) {ro : TX × Int32} : ∀ (X : TX) (M : TX) (L : TL) (x3 : Int32) (H : Heap) (locs : List Loc) (ls : Array Slot), Wh G s X M L H locs → lv_has ls 4 [(0, .ref (gA G 11)), (1, .ref (gA G 1)), (3, .int x3)] → B_X3_readClause_43 X x3 = some ro → W p l e (rz 8 223) s m args below meth c H locs 0 0 (MQ below (Di G ro.1 M L ro.2) args s 0 0 (AB G)) (F0 m 43 ls []) := by
  intro X M L x3 H locs ls hw hl hf
  unfold B_X3_readClause_43 at hf
  refine lv_iload_n C.1.1 C.1.2.1 dX3_readClause_43 rfl (lv_at hl 2 rfl) ?_
  refine lv_iconst (v := (3 : Int32)) C.1.1 C.1.2.1 dX3_readClause_44 rfl ?_
  refine lv_icmp_ne (tgt := 67) C.1.1 C.1.2.1 dX3_readClause_45 (by decide) (fun c8 => ?_) (fun c8 => ?_)
  · have hf := o_f hf c8
    refine lv_iload_n C.1.1 C.1.2.1 dX3_readClause_67 rfl (lv_at hl 2 rfl) ?_
    by_cases c9 : x3 = (1 : Int32)
    · have hf := o_t hf c9
      refine lv_tableIn (tgt := 96) (off := 28) C.1.1 C.1.2.1 dX3_readClause_68 (by rw [c9]; decide) (by rw [c9]; decide) (by rw [c9]; rfl) (by decide) ?_
      refine lv_aload_n C.1.1 C.1.2.1 dX3_readClause_96 rfl (lv_at hl 0 rfl) ?_
      refine lv_aload_n C.1.1 C.1.2.1 dX3_readClause_97 rfl (lv_at hl 1 rfl) ?_
      obtain ⟨q10, h10, hf⟩ := o_bind hf
      refine aft_i hw (run_VX C hw clX3_104 (As := [.ref (gA G 1)]) (rest := []) oX_11 (c_X3_readParish h10) rfl hl.1 rfl ⟨(Nat.le_of_ble_eq_true rfl), (Nat.le_of_ble_eq_true rfl)⟩ ⟨Nat.zero_le _, Nat.zero_le _⟩ rfl (Nat.le_of_ble_eq_true rfl) dX3_readClause_98) (fun H locs hw => ?_)
      have g11 := (o_g hf).1
      have hf := (o_g hf).2
      obtain rfl := Option.some.inj hf
      exact ret_z (r := q10.2) C hr hlk hw (nar_z g11) dX3_readClause_101
    have hf := o_f hf c9
    by_cases c12 : x3 = (2 : Int32)
    · have hf := o_t hf c12
      refine lv_tableIn (tgt := 102) (off := 34) C.1.1 C.1.2.1 dX3_readClause_68 (by rw [c12]; decide) (by rw [c12]; decide) (by rw [c12]; rfl) (by decide) ?_
      refine lv_aload_n C.1.1 C.1.2.1 dX3_readClause_102 rfl (lv_at hl 0 rfl) ?_
      refine lv_aload_n C.1.1 C.1.2.1 dX3_readClause_103 rfl (lv_at hl 1 rfl) ?_
      obtain ⟨q13, h13, hf⟩ := o_bind hf
      refine aft_i hw (run_VX C hw clX3_108 (As := [.ref (gA G 1)]) (rest := []) oX_11 (c_X3_readRoad h13) rfl hl.1 rfl ⟨(Nat.le_of_ble_eq_true rfl), (Nat.le_of_ble_eq_true rfl)⟩ ⟨Nat.zero_le _, Nat.zero_le _⟩ rfl (Nat.le_of_ble_eq_true rfl) dX3_readClause_104) (fun H locs hw => ?_)
      have g14 := (o_g hf).1
      have hf := (o_g hf).2
      obtain rfl := Option.some.inj hf
      exact ret_z (r := q13.2) C hr hlk hw (nar_z g14) dX3_readClause_107
    have hf := o_f hf c12
    by_cases c15 : x3 = (3 : Int32)
    · have hf := o_t hf c15
      refine lv_tableIn (tgt := 108) (off := 40) C.1.1 C.1.2.1 dX3_readClause_68 (by rw [c15]; decide) (by rw [c15]; decide) (by rw [c15]; rfl) (by decide) ?_
      refine lv_aload_n C.1.1 C.1.2.1 dX3_readClause_108 rfl (lv_at hl 0 rfl) ?_
      refine lv_aload_n C.1.1 C.1.2.1 dX3_readClause_109 rfl (lv_at hl 1 rfl) ?_
      obtain ⟨q16, h16, hf⟩ := o_bind hf
      refine aft_i hw (run_VX C hw clX3_111 (As := [.ref (gA G 1)]) (rest := []) oX_11 (c_X3_readTide h16) rfl hl.1 rfl ⟨(Nat.le_of_ble_eq_true rfl), (Nat.le_of_ble_eq_true rfl)⟩ ⟨Nat.zero_le _, Nat.zero_le _⟩ rfl (Nat.le_of_ble_eq_true rfl) dX3_readClause_110) (fun H locs hw => ?_)
      have g17 := (o_g hf).1
      have hf := (o_g hf).2
      obtain rfl := Option.some.inj hf
      exact ret_z (r := q16.2) C hr hlk hw (nar_z g17) dX3_readClause_113
    have hf := o_f hf c15
    have ho : (Int32.toInt x3) < 1 ∨ 3 < (Int32.toInt x3) := by
      rcases (by omega : (Int32.toInt x3) < 1 ∨ 3 < (Int32.toInt x3) ∨ (Int32.toInt x3) = 1 ∨ (Int32.toInt x3) = 2 ∨ (Int32.toInt x3) = 3) with q | q | q | q | q
      · exact Or.inl q
      · exact Or.inr q
      · exact absurd (Int32.toInt_inj.mp (q.trans (by decide))) c9
      · exact absurd (Int32.toInt_inj.mp (q.trans (by decide))) c12
      · exact absurd (Int32.toInt_inj.mp (q.trans (by decide))) c15
    refine lv_tableOut (tgt := 114) C.1.1 C.1.2.1 dX3_readClause_68 ho (by decide) ?_
    refine lv_aload_n C.1.1 C.1.2.1 dX3_readClause_114 rfl (lv_at hl 0 rfl) ?_
    refine lv_aload_n C.1.1 C.1.2.1 dX3_readClause_115 rfl (lv_at hl 1 rfl) ?_
    obtain ⟨q18, h18, hf⟩ := o_bind hf
    refine aft_i hw (run_VX C hw clX3_114 (As := [.ref (gA G 1)]) (rest := []) oX_11 (c_X3_readPurse h18) rfl hl.1 rfl ⟨(Nat.le_of_ble_eq_true rfl), (Nat.le_of_ble_eq_true rfl)⟩ ⟨Nat.zero_le _, Nat.zero_le _⟩ rfl (Nat.le_of_ble_eq_true rfl) dX3_readClause_116) (fun H locs hw => ?_)
    have g19 := (o_g hf).1
    have hf := (o_g hf).2
    obtain rfl := Option.some.inj hf
    exact ret_z (r := q18.2) C hr hlk hw (nar_z g19) dX3_readClause_119
  · have hf := o_t hf c8
    refine lv_aload_n C.1.1 C.1.2.1 dX3_readClause_48 rfl (lv_at hl 0 rfl) ?_
    refine x_get C hw iX_11_6 flX3_47 dX3_readClause_49 ?_
    refine lv_bipush (v := (6 : Int32)) C.1.1 C.1.2.1 dX3_readClause_52 rfl ?_
    refine lv_icmp_lt (tgt := 67) C.1.1 C.1.2.1 dX3_readClause_54 (by decide) (fun c20 => ?_) (fun c20 => ?_)
    · have hf := o_t hf c20
      refine lv_iload_n C.1.1 C.1.2.1 dX3_readClause_67 rfl (lv_at hl 2 rfl) ?_
      by_cases c21 : x3 = (1 : Int32)
      · have hf := o_t hf c21
        refine lv_tableIn (tgt := 96) (off := 28) C.1.1 C.1.2.1 dX3_readClause_68 (by rw [c21]; decide) (by rw [c21]; decide) (by rw [c21]; rfl) (by decide) ?_
        refine lv_aload_n C.1.1 C.1.2.1 dX3_readClause_96 rfl (lv_at hl 0 rfl) ?_
        refine lv_aload_n C.1.1 C.1.2.1 dX3_readClause_97 rfl (lv_at hl 1 rfl) ?_
        obtain ⟨q22, h22, hf⟩ := o_bind hf
        refine aft_i hw (run_VX C hw clX3_104 (As := [.ref (gA G 1)]) (rest := []) oX_11 (c_X3_readParish h22) rfl hl.1 rfl ⟨(Nat.le_of_ble_eq_true rfl), (Nat.le_of_ble_eq_true rfl)⟩ ⟨Nat.zero_le _, Nat.zero_le _⟩ rfl (Nat.le_of_ble_eq_true rfl) dX3_readClause_98) (fun H locs hw => ?_)
        have g23 := (o_g hf).1
        have hf := (o_g hf).2
        obtain rfl := Option.some.inj hf
        exact ret_z (r := q22.2) C hr hlk hw (nar_z g23) dX3_readClause_101
      have hf := o_f hf c21
      by_cases c24 : x3 = (2 : Int32)
      · have hf := o_t hf c24
        refine lv_tableIn (tgt := 102) (off := 34) C.1.1 C.1.2.1 dX3_readClause_68 (by rw [c24]; decide) (by rw [c24]; decide) (by rw [c24]; rfl) (by decide) ?_
        refine lv_aload_n C.1.1 C.1.2.1 dX3_readClause_102 rfl (lv_at hl 0 rfl) ?_
        refine lv_aload_n C.1.1 C.1.2.1 dX3_readClause_103 rfl (lv_at hl 1 rfl) ?_
        obtain ⟨q25, h25, hf⟩ := o_bind hf
        refine aft_i hw (run_VX C hw clX3_108 (As := [.ref (gA G 1)]) (rest := []) oX_11 (c_X3_readRoad h25) rfl hl.1 rfl ⟨(Nat.le_of_ble_eq_true rfl), (Nat.le_of_ble_eq_true rfl)⟩ ⟨Nat.zero_le _, Nat.zero_le _⟩ rfl (Nat.le_of_ble_eq_true rfl) dX3_readClause_104) (fun H locs hw => ?_)
        have g26 := (o_g hf).1
        have hf := (o_g hf).2
        obtain rfl := Option.some.inj hf
        exact ret_z (r := q25.2) C hr hlk hw (nar_z g26) dX3_readClause_107
      have hf := o_f hf c24
      by_cases c27 : x3 = (3 : Int32)
      · have hf := o_t hf c27
        refine lv_tableIn (tgt := 108) (off := 40) C.1.1 C.1.2.1 dX3_readClause_68 (by rw [c27]; decide) (by rw [c27]; decide) (by rw [c27]; rfl) (by decide) ?_
        refine lv_aload_n C.1.1 C.1.2.1 dX3_readClause_108 rfl (lv_at hl 0 rfl) ?_
        refine lv_aload_n C.1.1 C.1.2.1 dX3_readClause_109 rfl (lv_at hl 1 rfl) ?_
        obtain ⟨q28, h28, hf⟩ := o_bind hf
        refine aft_i hw (run_VX C hw clX3_111 (As := [.ref (gA G 1)]) (rest := []) oX_11 (c_X3_readTide h28) rfl hl.1 rfl ⟨(Nat.le_of_ble_eq_true rfl), (Nat.le_of_ble_eq_true rfl)⟩ ⟨Nat.zero_le _, Nat.zero_le _⟩ rfl (Nat.le_of_ble_eq_true rfl) dX3_readClause_110) (fun H locs hw => ?_)
        have g29 := (o_g hf).1
        have hf := (o_g hf).2
        obtain rfl := Option.some.inj hf
        exact ret_z (r := q28.2) C hr hlk hw (nar_z g29) dX3_readClause_113
      have hf := o_f hf c27
      have ho : (Int32.toInt x3) < 1 ∨ 3 < (Int32.toInt x3) := by
        rcases (by omega : (Int32.toInt x3) < 1 ∨ 3 < (Int32.toInt x3) ∨ (Int32.toInt x3) = 1 ∨ (Int32.toInt x3) = 2 ∨ (Int32.toInt x3) = 3) with q | q | q | q | q
        · exact Or.inl q
        · exact Or.inr q
        · exact absurd (Int32.toInt_inj.mp (q.trans (by decide))) c21
        · exact absurd (Int32.toInt_inj.mp (q.trans (by decide))) c24
        · exact absurd (Int32.toInt_inj.mp (q.trans (by decide))) c27
      refine lv_tableOut (tgt := 114) C.1.1 C.1.2.1 dX3_readClause_68 ho (by decide) ?_
      refine lv_aload_n C.1.1 C.1.2.1 dX3_readClause_114 rfl (lv_at hl 0 rfl) ?_
      refine lv_aload_n C.1.1 C.1.2.1 dX3_readClause_115 rfl (lv_at hl 1 rfl) ?_
      obtain ⟨q30, h30, hf⟩ := o_bind hf
      refine aft_i hw (run_VX C hw clX3_114 (As := [.ref (gA G 1)]) (rest := []) oX_11 (c_X3_readPurse h30) rfl hl.1 rfl ⟨(Nat.le_of_ble_eq_true rfl), (Nat.le_of_ble_eq_true rfl)⟩ ⟨Nat.zero_le _, Nat.zero_le _⟩ rfl (Nat.le_of_ble_eq_true rfl) dX3_readClause_116) (fun H locs hw => ?_)
      have g31 := (o_g hf).1
      have hf := (o_g hf).2
      obtain rfl := Option.some.inj hf
      exact ret_z (r := q30.2) C hr hlk hw (nar_z g31) dX3_readClause_119
    · have hf := o_f hf c20
      refine lv_aload_n C.1.1 C.1.2.1 dX3_readClause_57 rfl (lv_at hl 1 rfl) ?_
      refine lv_iconst (v := (3 : Int32)) C.1.1 C.1.2.1 dX3_readClause_58 rfl ?_
      refine lv_aload_n C.1.1 C.1.2.1 dX3_readClause_59 rfl (lv_at hl 1 rfl) ?_
      refine x_get C hw iX_1_4 flX3_101 dX3_readClause_60 ?_
      obtain ⟨q32, h32, hf⟩ := o_bind hf
      refine aft_i hw (run_VX C hw clX3_90 (As := [.int (3 : Int32), .int (X 1 4)]) (rest := []) oX_1 (c_X7_fail h32) rfl hl.1 rfl ⟨(Nat.le_of_ble_eq_true rfl), (Nat.le_of_ble_eq_true rfl)⟩ ⟨Nat.zero_le _, Nat.zero_le _⟩ rfl (Nat.le_of_ble_eq_true rfl) dX3_readClause_63) (fun H locs hw => ?_)
      have g33 := (o_g hf).1
      have hf := (o_g hf).2
      obtain rfl := Option.some.inj hf
      exact ret_z (r := q32.2) C hr hlk hw (nar_z g33) dX3_readClause_66
set_option maxRecDepth 20000 in
set_option maxHeartbeats 2000000 in
theorem c_X3_readClause   {X M : TX} {L : TL} {x2 : Int32} {ro : TX × Int32} (hf : f_X3_readClause X x2 = some ro) : CTi G l yX3_readClause cX3_readClause 4 (some .boolean) 8 223 [.ref (gA G 11), .ref (gA G 1), .int x2] X M L ro.1 M L ro.2 := by
  unfold f_X3_readClause at hf
  refine ct_of (by decide +kernel) (Nat.le_of_ble_eq_true rfl) (fun p e s m args below meth c H locs ls C hr hlk hw hl => ?_)
  have C : Cx G p s m args c cX3_readClause 4 RX3 := C
  have hl : lv_has ls 4 [(0, .ref (gA G 11)), (1, .ref (gA G 1)), (2, .int x2)] := hl
  refine lv_aload_n C.1.1 C.1.2.1 dX3_readClause_0 rfl (lv_at hl 1 rfl) ?_
  obtain ⟨q1, h1, hf⟩ := o_bind hf
  refine aft_v hw (run_VX C hw clX3_94 (As := []) (rest := []) oX_1 (c_X7_word h1) rfl hl.1 rfl ⟨(Nat.le_of_ble_eq_true rfl), (Nat.le_of_ble_eq_true rfl)⟩ ⟨Nat.zero_le _, Nat.zero_le _⟩ rfl (Nat.le_of_ble_eq_true rfl) dX3_readClause_1) (fun H locs hw => ?_)
  refine lv_aload_n C.1.1 C.1.2.1 dX3_readClause_4 rfl (lv_at hl 1 rfl) ?_
  obtain ⟨q2, h2, hf⟩ := o_bind hf
  refine aft_i hw (run_S C hw clX3_97 (As := [.ref (gA G 1)]) (rest := []) (c_X3_clauseKind h2) hl.1 rfl ⟨(Nat.le_of_ble_eq_true rfl), (Nat.le_of_ble_eq_true rfl)⟩ ⟨Nat.zero_le _, Nat.zero_le _⟩ rfl (Nat.le_of_ble_eq_true rfl) dX3_readClause_5) (fun H locs hw => ?_)
  refine lv_istore_n (lv' := [(3, .int q2), (0, .ref (gA G 11)), (1, .ref (gA G 1)), (2, .int x2)]) C.1.1 C.1.2.1 dX3_readClause_8 rfl hl (by decide) rfl (fun ls hl => ?_)
  refine lv_iload_n C.1.1 C.1.2.1 dX3_readClause_9 rfl (lv_at hl 0 rfl) ?_
  refine lv_if_ne (tgt := 23) C.1.1 C.1.2.1 dX3_readClause_10 (by decide) (fun c3 => ?_) (fun c3 => ?_)
  · have hf := o_f hf c3
    refine lv_iload_n C.1.1 C.1.2.1 dX3_readClause_23 rfl (lv_at hl 3 rfl) ?_
    refine lv_bipush (v := (60 : Int32)) C.1.1 C.1.2.1 dX3_readClause_24 rfl ?_
    refine lv_icmp_ge (tgt := 57) C.1.1 C.1.2.1 dX3_readClause_26 (by decide) (fun c4 => ?_) (fun c4 => ?_)
    · have hf := o_t hf c4
      refine lv_aload_n C.1.1 C.1.2.1 dX3_readClause_57 rfl (lv_at hl 2 rfl) ?_
      refine lv_iconst (v := (3 : Int32)) C.1.1 C.1.2.1 dX3_readClause_58 rfl ?_
      refine lv_aload_n C.1.1 C.1.2.1 dX3_readClause_59 rfl (lv_at hl 2 rfl) ?_
      refine x_get C hw iX_1_4 flX3_101 dX3_readClause_60 ?_
      obtain ⟨q5, h5, hf⟩ := o_bind hf
      refine aft_i hw (run_VX C hw clX3_90 (As := [.int (3 : Int32), .int (q1 1 4)]) (rest := []) oX_1 (c_X7_fail h5) rfl hl.1 rfl ⟨(Nat.le_of_ble_eq_true rfl), (Nat.le_of_ble_eq_true rfl)⟩ ⟨Nat.zero_le _, Nat.zero_le _⟩ rfl (Nat.le_of_ble_eq_true rfl) dX3_readClause_63) (fun H locs hw => ?_)
      have g6 := (o_g hf).1
      have hf := (o_g hf).2
      obtain rfl := Option.some.inj hf
      exact ret_z (r := q5.2) C hr hlk hw (nar_z g6) dX3_readClause_66
    · have hf := o_f hf c4
      refine lv_iload_n C.1.1 C.1.2.1 dX3_readClause_29 rfl (lv_at hl 0 rfl) ?_
      refine lv_iconst (v := (1 : Int32)) C.1.1 C.1.2.1 dX3_readClause_30 rfl ?_
      refine lv_icmp_ne (tgt := 43) C.1.1 C.1.2.1 dX3_readClause_31 (by decide) (fun c7 => ?_) (fun c7 => ?_)
      · have hf := o_f hf c7
        exact wB_X3_readClause_43 C hr hlk q1 M L q2 _ _ _ hw (lv_sub hl [1, 2, 0] rfl) hf
      · have hf := o_t hf c7
        refine lv_aload_n C.1.1 C.1.2.1 dX3_readClause_34 rfl (lv_at hl 1 rfl) ?_
        refine x_get C hw iX_11_5 flX3_44 dX3_readClause_35 ?_
        refine lv_bipush (v := (10 : Int32)) C.1.1 C.1.2.1 dX3_readClause_38 rfl ?_
        refine lv_icmp_ge (tgt := 57) C.1.1 C.1.2.1 dX3_readClause_40 (by decide) (fun c34 => ?_) (fun c34 => ?_)
        · have hf := o_t hf c34
          refine lv_aload_n C.1.1 C.1.2.1 dX3_readClause_57 rfl (lv_at hl 2 rfl) ?_
          refine lv_iconst (v := (3 : Int32)) C.1.1 C.1.2.1 dX3_readClause_58 rfl ?_
          refine lv_aload_n C.1.1 C.1.2.1 dX3_readClause_59 rfl (lv_at hl 2 rfl) ?_
          refine x_get C hw iX_1_4 flX3_101 dX3_readClause_60 ?_
          obtain ⟨q35, h35, hf⟩ := o_bind hf
          refine aft_i hw (run_VX C hw clX3_90 (As := [.int (3 : Int32), .int (q1 1 4)]) (rest := []) oX_1 (c_X7_fail h35) rfl hl.1 rfl ⟨(Nat.le_of_ble_eq_true rfl), (Nat.le_of_ble_eq_true rfl)⟩ ⟨Nat.zero_le _, Nat.zero_le _⟩ rfl (Nat.le_of_ble_eq_true rfl) dX3_readClause_63) (fun H locs hw => ?_)
          have g36 := (o_g hf).1
          have hf := (o_g hf).2
          obtain rfl := Option.some.inj hf
          exact ret_z (r := q35.2) C hr hlk hw (nar_z g36) dX3_readClause_66
        · have hf := o_f hf c34
          exact wB_X3_readClause_43 C hr hlk q1 M L q2 _ _ _ hw (lv_sub hl [1, 2, 0] rfl) hf
  · have hf := o_t hf c3
    refine lv_aload_n C.1.1 C.1.2.1 dX3_readClause_13 rfl (lv_at hl 2 rfl) ?_
    refine lv_iconst (v := (1 : Int32)) C.1.1 C.1.2.1 dX3_readClause_14 rfl ?_
    refine lv_aload_n C.1.1 C.1.2.1 dX3_readClause_15 rfl (lv_at hl 2 rfl) ?_
    refine x_get C hw iX_1_4 flX3_101 dX3_readClause_16 ?_
    obtain ⟨q37, h37, hf⟩ := o_bind hf
    refine aft_i hw (run_VX C hw clX3_90 (As := [.int (1 : Int32), .int (q1 1 4)]) (rest := []) oX_1 (c_X7_fail h37) rfl hl.1 rfl ⟨(Nat.le_of_ble_eq_true rfl), (Nat.le_of_ble_eq_true rfl)⟩ ⟨Nat.zero_le _, Nat.zero_le _⟩ rfl (Nat.le_of_ble_eq_true rfl) dX3_readClause_19) (fun H locs hw => ?_)
    have g38 := (o_g hf).1
    have hf := (o_g hf).2
    obtain rfl := Option.some.inj hf
    exact ret_z (r := q37.2) C hr hlk hw (nar_z g38) dX3_readClause_22
end
/-! WinnerDraws$Text.sign(I)Z (('o', 'X', 1) ('i',)) -/
def f_X7_sign (X : TX) (x1 : Int32) : Option (TX × Int32) := (f_X7_ahead X).bind fun q1 => if q1.2 = x1 then (some ((u2 q1.1 1 3 ((q1.1 1 3) + (1 : Int32))), (1 : Int32))) else ((f_X7_fail q1.1 (1 : Int32) (q1.1 1 3)).bind fun q3 => if q3.2 &&& 1 = q3.2 then (some (q3.1, q3.2)) else none)
section
variable {G : GP} {l : Launch}
set_option maxRecDepth 20000 in
set_option maxHeartbeats 2000000 in
theorem c_X7_sign   {X M : TX} {L : TL} {x1 : Int32} {ro : TX × Int32} (hf : f_X7_sign X x1 = some ro) : CTi G l yX7_sign cX7_sign 2 (some .boolean) 2 41 [.ref (gA G 1), .int x1] X M L ro.1 M L ro.2 := by
  unfold f_X7_sign at hf
  refine ct_of (by decide +kernel) (Nat.le_of_ble_eq_true rfl) (fun p e s m args below meth c H locs ls C hr hlk hw hl => ?_)
  have C : Cx G p s m args c cX7_sign 2 RX7 := C
  have hl : lv_has ls 2 [(0, .ref (gA G 1)), (1, .int x1)] := hl
  refine lv_aload_n C.1.1 C.1.2.1 dX7_sign_0 rfl (lv_at hl 0 rfl) ?_
  obtain ⟨q1, h1, hf⟩ := o_bind hf
  refine aft_i hw (run_VX C hw clX7_39 (As := []) (rest := []) oX_1 (c_X7_ahead h1) rfl hl.1 rfl ⟨(Nat.le_of_ble_eq_true rfl), (Nat.le_of_ble_eq_true rfl)⟩ ⟨Nat.zero_le _, Nat.zero_le _⟩ rfl (Nat.le_of_ble_eq_true rfl) dX7_sign_1) (fun H locs hw => ?_)
  refine lv_iload_n C.1.1 C.1.2.1 dX7_sign_4 rfl (lv_at hl 1 rfl) ?_
  refine lv_icmp_eq (tgt := 18) C.1.1 C.1.2.1 dX7_sign_5 (by decide) (fun c2 => ?_) (fun c2 => ?_)
  · have hf := o_t hf c2
    refine lv_aload_n C.1.1 C.1.2.1 dX7_sign_18 rfl (lv_at hl 0 rfl) ?_
    refine lv_dup C.1.1 C.1.2.1 dX7_sign_19 rfl ?_
    refine x_get C hw iX_1_3 flX7_29 dX7_sign_20 ?_
    refine lv_iconst (v := (1 : Int32)) C.1.1 C.1.2.1 dX7_sign_23 rfl ?_
    refine lv_iadd C.1.1 C.1.2.1 dX7_sign_24 ?_
    refine x_put C hw iX_1_3 flX7_29 dX7_sign_25 (fun H locs hw => ?_)
    refine lv_iconst (v := (1 : Int32)) C.1.1 C.1.2.1 dX7_sign_28 rfl ?_
    obtain rfl := Option.some.inj hf
    exact ret_z (r := (1 : Int32)) C hr hlk hw rfl dX7_sign_29
  · have hf := o_f hf c2
    refine lv_aload_n C.1.1 C.1.2.1 dX7_sign_8 rfl (lv_at hl 0 rfl) ?_
    refine lv_iconst (v := (1 : Int32)) C.1.1 C.1.2.1 dX7_sign_9 rfl ?_
    refine lv_aload_n C.1.1 C.1.2.1 dX7_sign_10 rfl (lv_at hl 0 rfl) ?_
    refine x_get C hw iX_1_3 flX7_29 dX7_sign_11 ?_
    obtain ⟨q3, h3, hf⟩ := o_bind hf
    refine aft_i hw (run_VX C hw clX7_43 (As := [.int (1 : Int32), .int (q1.1 1 3)]) (rest := []) oX_1 (c_X7_fail h3) rfl hl.1 rfl ⟨(Nat.le_of_ble_eq_true rfl), (Nat.le_of_ble_eq_true rfl)⟩ ⟨Nat.zero_le _, Nat.zero_le _⟩ rfl (Nat.le_of_ble_eq_true rfl) dX7_sign_14) (fun H locs hw => ?_)
    have g4 := (o_g hf).1
    have hf := (o_g hf).2
    obtain rfl := Option.some.inj hf
    exact ret_z (r := q3.2) C hr hlk hw (nar_z g4) dX7_sign_17
end
/-! WinnerDraws$County.read(LWinnerDraws$Text;)Z (('o', 'X', 11) ('o', 'X', 1)) -/
def L_X3_read_6 : Nat → TX → Int32 → Option (TX × Int32)
  | 0 => fun _ _ => none
  | n + 1 => fun X x2 => if (60 : Int32) < x2 then ((f_X7_fail X (3 : Int32) (X 1 3)).bind fun q3 => if q3.2 &&& 1 = q3.2 then (some (q3.1, q3.2)) else none) else ((f_X7_ahead X).bind fun q5 => if q5.2 = (-1 : Int32) then (some (q5.1, (1 : Int32))) else ((f_X3_readClause q5.1 x2).bind fun q7 => if q7.2 = 0 then (some (q7.1, (0 : Int32))) else ((f_X7_sign q7.1 (59 : Int32)).bind fun q9 => if q9.2 = 0 then (some (q9.1, (0 : Int32))) else ((L_X3_read_6 n) q9.1 (x2 + (1 : Int32))))))
def f_X3_read (X : TX) : Option (TX × Int32) := (f_X3_clear X).bind fun q1 => L_X3_read_6 FU q1 (0 : Int32)
section
variable {G : GP} {l : Launch}
set_option maxRecDepth 20000 in
set_option maxHeartbeats 2000000 in
theorem wL_X3_read_6 {p : Program} {e : Env} {s : State} {m : MethodId} {args : Array Value} {below : List Frame} {meth : Method} {c : Code} (C : Cx G p s m args c cX3_read 3 RX3) (hr : meth.sig.returnType = (some .boolean)) (hlk : meth.locks = false) {ro : TX × Int32} : ∀ (n : Nat), ∀ (X : TX) (M : TX) (L : TL) (x2 : Int32) (H : Heap) (locs : List Loc) (ls : Array Slot), Wh G s X M L H locs → lv_has ls 3 [(0, .ref (gA G 11)), (1, .ref (gA G 1)), (2, .int x2)] → L_X3_read_6 n X x2 = some ro → W p l e (rz 9 246) s m args below meth c H locs 0 0 (MQ below (Di G ro.1 M L ro.2) args s 0 0 (AB G)) (F0 m 6 ls []) := by
  intro n
  induction n with
  | zero =>
    intro X M L x2 H locs ls hw hl hf
    cases hf
  | succ n hk_6 =>
    intro X M L x2 H locs ls hw hl hf
    rw [L_X3_read_6] at hf
    refine lv_iload_n C.1.1 C.1.2.1 dX3_read_6 rfl (lv_at hl 2 rfl) ?_
    refine lv_bipush (v := (60 : Int32)) C.1.1 C.1.2.1 dX3_read_7 rfl ?_
    refine lv_icmp_gt (tgt := 48) C.1.1 C.1.2.1 dX3_read_9 (by decide) (fun c2 => ?_) (fun c2 => ?_)
    · have hf := o_t hf c2
      refine lv_aload_n C.1.1 C.1.2.1 dX3_read_48 rfl (lv_at hl 1 rfl) ?_
      refine lv_iconst (v := (3 : Int32)) C.1.1 C.1.2.1 dX3_read_49 rfl ?_
      refine lv_aload_n C.1.1 C.1.2.1 dX3_read_50 rfl (lv_at hl 1 rfl) ?_
      refine x_get C hw iX_1_3 flX3_87 dX3_read_51 ?_
      obtain ⟨q3, h3, hf⟩ := o_bind hf
      refine aft_i hw (run_VX C hw clX3_90 (As := [.int (3 : Int32), .int (X 1 3)]) (rest := []) oX_1 (c_X7_fail h3) rfl hl.1 rfl ⟨(Nat.le_of_ble_eq_true rfl), (Nat.le_of_ble_eq_true rfl)⟩ ⟨Nat.zero_le _, Nat.zero_le _⟩ rfl (Nat.le_of_ble_eq_true rfl) dX3_read_54) (fun H locs hw => ?_)
      have g4 := (o_g hf).1
      have hf := (o_g hf).2
      obtain rfl := Option.some.inj hf
      exact ret_z (r := q3.2) C hr hlk hw (nar_z g4) dX3_read_57
    · have hf := o_f hf c2
      refine lv_aload_n C.1.1 C.1.2.1 dX3_read_12 rfl (lv_at hl 1 rfl) ?_
      obtain ⟨q5, h5, hf⟩ := o_bind hf
      refine aft_i hw (run_VX C hw clX3_73 (As := []) (rest := []) oX_1 (c_X7_ahead h5) rfl hl.1 rfl ⟨(Nat.le_of_ble_eq_true rfl), (Nat.le_of_ble_eq_true rfl)⟩ ⟨Nat.zero_le _, Nat.zero_le _⟩ rfl (Nat.le_of_ble_eq_true rfl) dX3_read_13) (fun H locs hw => ?_)
      refine lv_iconst (v := (-1 : Int32)) C.1.1 C.1.2.1 dX3_read_16 rfl ?_
      refine lv_icmp_ne (tgt := 22) C.1.1 C.1.2.1 dX3_read_17 (by decide) (fun c6 => ?_) (fun c6 => ?_)
      · have hf := o_f hf c6
        refine lv_aload_n C.1.1 C.1.2.1 dX3_read_22 rfl (lv_at hl 0 rfl) ?_
        refine lv_aload_n C.1.1 C.1.2.1 dX3_read_23 rfl (lv_at hl 1 rfl) ?_
        refine lv_iload_n C.1.1 C.1.2.1 dX3_read_24 rfl (lv_at hl 2 rfl) ?_
        obtain ⟨q7, h7, hf⟩ := o_bind hf
        refine aft_i hw (run_VX C hw clX3_79 (As := [.ref (gA G 1), .int x2]) (rest := []) oX_11 (c_X3_readClause h7) rfl hl.1 rfl ⟨(Nat.le_of_ble_eq_true rfl), (Nat.le_of_ble_eq_true rfl)⟩ ⟨Nat.zero_le _, Nat.zero_le _⟩ rfl (Nat.le_of_ble_eq_true rfl) dX3_read_25) (fun H locs hw => ?_)
        refine lv_if_eq (tgt := 40) C.1.1 C.1.2.1 dX3_read_28 (by decide) (fun c8 => ?_) (fun c8 => ?_)
        · have hf := o_t hf c8
          refine lv_iconst (v := (0 : Int32)) C.1.1 C.1.2.1 dX3_read_40 rfl ?_
          obtain rfl := Option.some.inj hf
          exact ret_z (r := (0 : Int32)) C hr hlk hw rfl dX3_read_41
        · have hf := o_f hf c8
          refine lv_aload_n C.1.1 C.1.2.1 dX3_read_31 rfl (lv_at hl 1 rfl) ?_
          refine lv_bipush (v := (59 : Int32)) C.1.1 C.1.2.1 dX3_read_32 rfl ?_
          obtain ⟨q9, h9, hf⟩ := o_bind hf
          refine aft_i hw (run_VX C hw clX3_83 (As := [.int (59 : Int32)]) (rest := []) oX_1 (c_X7_sign h9) rfl hl.1 rfl ⟨(Nat.le_of_ble_eq_true rfl), (Nat.le_of_ble_eq_true rfl)⟩ ⟨Nat.zero_le _, Nat.zero_le _⟩ rfl (Nat.le_of_ble_eq_true rfl) dX3_read_34) (fun H locs hw => ?_)
          refine lv_if_ne (tgt := 42) C.1.1 C.1.2.1 dX3_read_37 (by decide) (fun c10 => ?_) (fun c10 => ?_)
          · have hf := o_f hf c10
            refine lv_iinc (v := (x2 + (1 : Int32))) (lv' := [(2, .int (x2 + (1 : Int32))), (0, .ref (gA G 11)), (1, .ref (gA G 1))]) C.1.1 C.1.2.1 dX3_read_42 hl (k := 2) rfl rfl (by decide) rfl (fun ls hl => ?_)
            refine lv_goto (tgt := 6) C.1.1 C.1.2.1 dX3_read_45 (by decide) ?_
            exact hk_6 q9.1 M L (x2 + (1 : Int32)) _ _ _ hw (lv_sub hl [1, 2, 0] rfl) hf
          · have hf := o_t hf c10
            refine lv_iconst (v := (0 : Int32)) C.1.1 C.1.2.1 dX3_read_40 rfl ?_
            obtain rfl := Option.some.inj hf
            exact ret_z (r := (0 : Int32)) C hr hlk hw rfl dX3_read_41
      · have hf := o_t hf c6
        refine lv_iconst (v := (1 : Int32)) C.1.1 C.1.2.1 dX3_read_20 rfl ?_
        obtain rfl := Option.some.inj hf
        exact ret_z (r := (1 : Int32)) C hr hlk hw rfl dX3_read_21
set_option maxRecDepth 20000 in
set_option maxHeartbeats 2000000 in
theorem c_X3_read   {X M : TX} {L : TL}  {ro : TX × Int32} (hf : f_X3_read X = some ro) : CTi G l yX3_read cX3_read 3 (some .boolean) 9 246 [.ref (gA G 11), .ref (gA G 1)] X M L ro.1 M L ro.2 := by
  unfold f_X3_read at hf
  refine ct_of (by decide +kernel) (Nat.le_of_ble_eq_true rfl) (fun p e s m args below meth c H locs ls C hr hlk hw hl => ?_)
  have C : Cx G p s m args c cX3_read 3 RX3 := C
  have hl : lv_has ls 3 [(0, .ref (gA G 11)), (1, .ref (gA G 1))] := hl
  refine lv_aload_n C.1.1 C.1.2.1 dX3_read_0 rfl (lv_at hl 0 rfl) ?_
  obtain ⟨q1, h1, hf⟩ := o_bind hf
  refine aft_v hw (run_VX C hw clX3_70 (As := []) (rest := []) oX_11 (c_X3_clear h1) rfl hl.1 rfl ⟨(Nat.le_of_ble_eq_true rfl), (Nat.le_of_ble_eq_true rfl)⟩ ⟨Nat.zero_le _, Nat.zero_le _⟩ rfl (Nat.le_of_ble_eq_true rfl) dX3_read_1) (fun H locs hw => ?_)
  refine lv_iconst (v := (0 : Int32)) C.1.1 C.1.2.1 dX3_read_4 rfl ?_
  refine lv_istore_n (lv' := [(2, .int (0 : Int32)), (0, .ref (gA G 11)), (1, .ref (gA G 1))]) C.1.1 C.1.2.1 dX3_read_5 rfl hl (by decide) rfl (fun ls hl => ?_)
  exact wL_X3_read_6 C hr hlk FU q1 M L (0 : Int32) _ _ _ hw (lv_sub hl [1, 2, 0] rfl) hf
end
/-! WinnerDraws.copy([II[III)V (('a', 'X') ('i',) ('a', 'X') ('i',) ('i',)) -/
def L_X8_copy_3 (k0 : Nat) (k2 : Nat) : Nat → TX → Int32 → Int32 → Int32 → Int32 → Option (TX)
  | 0 => fun _ _ _ _ _ => none
  | n + 1 => fun X x1 x3 x4 x5 => if x4 ≤ x5 then (some X) else ((f_X8_at k0 X (x1 + x5)).bind fun q2 => (f_X8_put k2 X (x3 + x5) q2).bind fun q3 => (L_X8_copy_3 k0 k2 n) q3 x1 x3 x4 (x5 + (1 : Int32)))
def f_X8_copy (k0 : Nat) (k2 : Nat) (X : TX) (x1 : Int32) (x3 : Int32) (x4 : Int32) : Option (TX) := L_X8_copy_3 k0 k2 FU X x1 x3 x4 (0 : Int32)
section
variable {G : GP} {l : Launch}
set_option maxRecDepth 20000 in
set_option maxHeartbeats 2000000 in
theorem wL_X8_copy_3 {k0 : Nat} (hk0 : AX k0 (lenX k0)) {k2 : Nat} (hk2 : AX k2 (lenX k2)) {p : Program} {e : Env} {s : State} {m : MethodId} {args : Array Value} {below : List Frame} {meth : Method} {c : Code} (C : Cx G p s m args c cX8_copy 6 RX8) (hr : meth.sig.returnType = none) (hlk : meth.locks = false) {ro : TX} : ∀ (n : Nat), ∀ (X : TX) (M : TX) (L : TL) (x1 : Int32) (x3 : Int32) (x4 : Int32) (x5 : Int32) (H : Heap) (locs : List Loc) (ls : Array Slot), Wh G s X M L H locs → lv_has ls 6 [(0, .ref (gA G k0)), (1, .int x1), (2, .ref (gA G k2)), (3, .int x3), (4, .int x4), (5, .int x5)] → L_X8_copy_3 k0 k2 n X x1 x3 x4 x5 = some ro → W p l e (rz 1 22) s m args below meth c H locs 0 0 (MQ below (Dv G ro M L) args s 0 0 (AB G)) (F0 m 3 ls []) := by
  intro n
  induction n with
  | zero =>
    intro X M L x1 x3 x4 x5 H locs ls hw hl hf
    cases hf
  | succ n hk_3 =>
    intro X M L x1 x3 x4 x5 H locs ls hw hl hf
    rw [L_X8_copy_3] at hf
    refine lv_iload C.1.1 C.1.2.1 dX8_copy_3 (lv_at hl 5 rfl) ?_
    refine lv_iload C.1.1 C.1.2.1 dX8_copy_5 (lv_at hl 4 rfl) ?_
    refine lv_icmp_ge (tgt := 32) C.1.1 C.1.2.1 dX8_copy_7 (by decide) (fun c1 => ?_) (fun c1 => ?_)
    · have hf := o_t hf c1
      obtain rfl := Option.some.inj hf
      exact ret_v C hr hlk hw dX8_copy_32
    · have hf := o_f hf c1
      refine lv_aload_n C.1.1 C.1.2.1 dX8_copy_10 rfl (lv_at hl 2 rfl) ?_
      refine lv_iload_n C.1.1 C.1.2.1 dX8_copy_11 rfl (lv_at hl 3 rfl) ?_
      refine lv_iload C.1.1 C.1.2.1 dX8_copy_12 (lv_at hl 5 rfl) ?_
      refine lv_iadd C.1.1 C.1.2.1 dX8_copy_14 ?_
      refine lv_aload_n C.1.1 C.1.2.1 dX8_copy_15 rfl (lv_at hl 0 rfl) ?_
      refine lv_iload_n C.1.1 C.1.2.1 dX8_copy_16 rfl (lv_at hl 1 rfl) ?_
      refine lv_iload C.1.1 C.1.2.1 dX8_copy_17 (lv_at hl 5 rfl) ?_
      refine lv_iadd C.1.1 C.1.2.1 dX8_copy_19 ?_
      obtain ⟨q2, h2, hf⟩ := o_bind hf
      refine aft_i hw (run_S C hw clX8_384 (As := [.ref (gA G k0), .int (x1 + x5)]) (rest := [.int (x3 + x5), .ref (gA G k2)]) (c_X8_at hk0 h2) hl.1 rfl ⟨(Nat.le_of_ble_eq_true rfl), (Nat.le_of_ble_eq_true rfl)⟩ ⟨Nat.zero_le _, Nat.zero_le _⟩ rfl (Nat.le_of_ble_eq_true rfl) dX8_copy_20) (fun H locs hw => ?_)
      obtain ⟨q3, h3, hf⟩ := o_bind hf
      refine aft_v hw (run_S C hw clX8_388 (As := [.ref (gA G k2), .int (x3 + x5), .int q2]) (rest := []) (c_X8_put hk2 h3) hl.1 rfl ⟨(Nat.le_of_ble_eq_true rfl), (Nat.le_of_ble_eq_true rfl)⟩ ⟨Nat.zero_le _, Nat.zero_le _⟩ rfl (Nat.le_of_ble_eq_true rfl) dX8_copy_23) (fun H locs hw => ?_)
      refine lv_iinc (v := (x5 + (1 : Int32))) (lv' := [(5, .int (x5 + (1 : Int32))), (0, .ref (gA G k0)), (1, .int x1), (2, .ref (gA G k2)), (3, .int x3), (4, .int x4)]) C.1.1 C.1.2.1 dX8_copy_26 hl (k := 5) rfl rfl (by decide) rfl (fun ls hl => ?_)
      refine lv_goto (tgt := 3) C.1.1 C.1.2.1 dX8_copy_29 (by decide) ?_
      exact hk_3 q3 M L x1 x3 x4 (x5 + (1 : Int32)) _ _ _ hw (lv_sub hl [1, 2, 3, 4, 5, 0] rfl) hf
set_option maxRecDepth 20000 in
set_option maxHeartbeats 2000000 in
theorem c_X8_copy  {k0 : Nat} (hk0 : AX k0 (lenX k0)) {k2 : Nat} (hk2 : AX k2 (lenX k2)) {X M : TX} {L : TL} {x1 : Int32} {x3 : Int32} {x4 : Int32} {ro : TX} (hf : f_X8_copy k0 k2 X x1 x3 x4 = some ro) : CTv G l yX8_copy cX8_copy 6 none 1 22 [.ref (gA G k0), .int x1, .ref (gA G k2), .int x3, .int x4] X M L ro M L := by
  unfold f_X8_copy at hf
  refine ct_of (by decide +kernel) (Nat.le_of_ble_eq_true rfl) (fun p e s m args below meth c H locs ls C hr hlk hw hl => ?_)
  have C : Cx G p s m args c cX8_copy 6 RX8 := C
  have hl : lv_has ls 6 [(0, .ref (gA G k0)), (1, .int x1), (2, .ref (gA G k2)), (3, .int x3), (4, .int x4)] := hl
  refine lv_iconst (v := (0 : Int32)) C.1.1 C.1.2.1 dX8_copy_0 rfl ?_
  refine lv_istore (lv' := [(5, .int (0 : Int32)), (0, .ref (gA G k0)), (1, .int x1), (2, .ref (gA G k2)), (3, .int x3), (4, .int x4)]) C.1.1 C.1.2.1 dX8_copy_1 hl (by decide) rfl (fun ls hl => ?_)
  exact wL_X8_copy_3 hk0 hk2 C hr hlk FU X M L x1 x3 x4 (0 : Int32) _ _ _ hw (lv_sub hl [1, 2, 3, 4, 5, 0] rfl) hf
end
/-! WinnerDraws$County.tally()V (('o', 'X', 3)) -/
def L_X3_tally_33 : Nat → TX → Int32 → Option (TX)
  | 0 => fun _ _ => none
  | n + 1 => fun X x1 => if (X 3 5) ≤ x1 then (some X) else ((f_X8_at 4 X x1).bind fun q3 => (f_X8_at 9 X q3).bind fun q4 => (f_X8_put 9 X q3 (q4 ||| ((1 : Int32) <<< (x1 &&& 31)))).bind fun q5 => (f_X8_at 10 q5 q3).bind fun q6 => (f_X8_at 5 q5 x1).bind fun q7 => (f_X8_at 5 q5 ((10 : Int32) + x1)).bind fun q8 => (f_X8_put 10 q5 q3 ((q6 + q7) - q8)).bind fun q9 => (L_X3_tally_33 n) q9 (x1 + (1 : Int32)))
def L_X3_tally_2 : Nat → TX → Int32 → Option (TX)
  | 0 => fun _ _ => none
  | n + 1 => fun X x1 => if (4 : Int32) ≤ x1 then (L_X3_tally_33 FU X (0 : Int32)) else ((f_X8_put 9 X x1 (0 : Int32)).bind fun q10 => (f_X8_put 10 q10 x1 (0 : Int32)).bind fun q11 => (L_X3_tally_2 n) q11 (x1 + (1 : Int32)))
def f_X3_tally (X : TX) : Option (TX) := L_X3_tally_2 FU X (0 : Int32)
section
variable {G : GP} {l : Launch}
set_option maxRecDepth 20000 in
set_option maxHeartbeats 2000000 in
theorem wL_X3_tally_33 {p : Program} {e : Env} {s : State} {m : MethodId} {args : Array Value} {below : List Frame} {meth : Method} {c : Code} (C : Cx G p s m args c cX3_tally 3 RX3) (hr : meth.sig.returnType = none) (hlk : meth.locks = false) {ro : TX} : ∀ (n : Nat), ∀ (X : TX) (M : TX) (L : TL) (x1 : Int32) (H : Heap) (locs : List Loc) (ls : Array Slot), Wh G s X M L H locs → lv_has ls 3 [(0, .ref (gA G 3)), (1, .int x1)] → L_X3_tally_33 n X x1 = some ro → W p l e (rz 1 22) s m args below meth c H locs 0 0 (MQ below (Dv G ro M L) args s 0 0 (AB G)) (F0 m 33 ls []) := by
  intro n
  induction n with
  | zero =>
    intro X M L x1 H locs ls hw hl hf
    cases hf
  | succ n hk_33 =>
    intro X M L x1 H locs ls hw hl hf
    rw [L_X3_tally_33] at hf
    refine lv_iload_n C.1.1 C.1.2.1 dX3_tally_33 rfl (lv_at hl 1 rfl) ?_
    refine lv_aload_n C.1.1 C.1.2.1 dX3_tally_34 rfl (lv_at hl 0 rfl) ?_
    refine x_get C hw iX_3_5 flX3_44 dX3_tally_35 ?_
    refine lv_icmp_ge (tgt := 113) C.1.1 C.1.2.1 dX3_tally_38 (by decide) (fun c2 => ?_) (fun c2 => ?_)
    · have hf := o_t hf c2
      obtain rfl := Option.some.inj hf
      exact ret_v C hr hlk hw dX3_tally_113
    · have hf := o_f hf c2
      refine lv_aload_n C.1.1 C.1.2.1 dX3_tally_41 rfl (lv_at hl 0 rfl) ?_
      refine x_ref C hw fX_3_0 flX3_9 dX3_tally_42 ?_
      refine lv_iload_n C.1.1 C.1.2.1 dX3_tally_45 rfl (lv_at hl 1 rfl) ?_
      obtain ⟨q3, h3, hf⟩ := o_bind hf
      refine aft_i hw (run_S C hw clX3_66 (As := [.ref (gA G 4), .int x1]) (rest := []) (c_X8_at aX_4 h3) hl.1 rfl ⟨(Nat.le_of_ble_eq_true rfl), (Nat.le_of_ble_eq_true rfl)⟩ ⟨Nat.zero_le _, Nat.zero_le _⟩ rfl (Nat.le_of_ble_eq_true rfl) dX3_tally_46) (fun H locs hw => ?_)
      refine lv_istore_n (lv' := [(2, .int q3), (0, .ref (gA G 3)), (1, .int x1)]) C.1.1 C.1.2.1 dX3_tally_49 rfl hl (by decide) rfl (fun ls hl => ?_)
      refine lv_aload_n C.1.1 C.1.2.1 dX3_tally_50 rfl (lv_at hl 1 rfl) ?_
      refine x_ref C hw fX_3_12 flX3_34 dX3_tally_51 ?_
      refine lv_iload_n C.1.1 C.1.2.1 dX3_tally_54 rfl (lv_at hl 0 rfl) ?_
      refine lv_aload_n C.1.1 C.1.2.1 dX3_tally_55 rfl (lv_at hl 1 rfl) ?_
      refine x_ref C hw fX_3_12 flX3_34 dX3_tally_56 ?_
      refine lv_iload_n C.1.1 C.1.2.1 dX3_tally_59 rfl (lv_at hl 0 rfl) ?_
      obtain ⟨q4, h4, hf⟩ := o_bind hf
      refine aft_i hw (run_S C hw clX3_66 (As := [.ref (gA G 9), .int q3]) (rest := [.int q3, .ref (gA G 9)]) (c_X8_at aX_9 h4) hl.1 rfl ⟨(Nat.le_of_ble_eq_true rfl), (Nat.le_of_ble_eq_true rfl)⟩ ⟨Nat.zero_le _, Nat.zero_le _⟩ rfl (Nat.le_of_ble_eq_true rfl) dX3_tally_60) (fun H locs hw => ?_)
      refine lv_iconst (v := (1 : Int32)) C.1.1 C.1.2.1 dX3_tally_63 rfl ?_
      refine lv_iload_n C.1.1 C.1.2.1 dX3_tally_64 rfl (lv_at hl 2 rfl) ?_
      refine lv_ishl C.1.1 C.1.2.1 dX3_tally_65 ?_
      refine lv_ior C.1.1 C.1.2.1 dX3_tally_66 ?_
      obtain ⟨q5, h5, hf⟩ := o_bind hf
      refine aft_v hw (run_S C hw clX3_40 (As := [.ref (gA G 9), .int q3, .int (q4 ||| ((1 : Int32) <<< (x1 &&& 31)))]) (rest := []) (c_X8_put aX_9 h5) hl.1 rfl ⟨(Nat.le_of_ble_eq_true rfl), (Nat.le_of_ble_eq_true rfl)⟩ ⟨Nat.zero_le _, Nat.zero_le _⟩ rfl (Nat.le_of_ble_eq_true rfl) dX3_tally_67) (fun H locs hw => ?_)
      refine lv_aload_n C.1.1 C.1.2.1 dX3_tally_70 rfl (lv_at hl 1 rfl) ?_
      refine x_ref C hw fX_3_13 flX3_37 dX3_tally_71 ?_
      refine lv_iload_n C.1.1 C.1.2.1 dX3_tally_74 rfl (lv_at hl 0 rfl) ?_
      refine lv_aload_n C.1.1 C.1.2.1 dX3_tally_75 rfl (lv_at hl 1 rfl) ?_
      refine x_ref C hw fX_3_13 flX3_37 dX3_tally_76 ?_
      refine lv_iload_n C.1.1 C.1.2.1 dX3_tally_79 rfl (lv_at hl 0 rfl) ?_
      obtain ⟨q6, h6, hf⟩ := o_bind hf
      refine aft_i hw (run_S C hw clX3_66 (As := [.ref (gA G 10), .int q3]) (rest := [.int q3, .ref (gA G 10)]) (c_X8_at aX_10 h6) hl.1 rfl ⟨(Nat.le_of_ble_eq_true rfl), (Nat.le_of_ble_eq_true rfl)⟩ ⟨Nat.zero_le _, Nat.zero_le _⟩ rfl (Nat.le_of_ble_eq_true rfl) dX3_tally_80) (fun H locs hw => ?_)
      refine lv_aload_n C.1.1 C.1.2.1 dX3_tally_83 rfl (lv_at hl 1 rfl) ?_
      refine x_ref C hw fX_3_1 flX3_15 dX3_tally_84 ?_
      refine lv_iload_n C.1.1 C.1.2.1 dX3_tally_87 rfl (lv_at hl 2 rfl) ?_
      obtain ⟨q7, h7, hf⟩ := o_bind hf
      refine aft_i hw (run_S C hw clX3_66 (As := [.ref (gA G 5), .int x1]) (rest := [.int q6, .int q3, .ref (gA G 10)]) (c_X8_at aX_5 h7) hl.1 rfl ⟨(Nat.le_of_ble_eq_true rfl), (Nat.le_of_ble_eq_true rfl)⟩ ⟨Nat.zero_le _, Nat.zero_le _⟩ rfl (Nat.le_of_ble_eq_true rfl) dX3_tally_88) (fun H locs hw => ?_)
      refine lv_iadd C.1.1 C.1.2.1 dX3_tally_91 ?_
      refine lv_aload_n C.1.1 C.1.2.1 dX3_tally_92 rfl (lv_at hl 1 rfl) ?_
      refine x_ref C hw fX_3_1 flX3_15 dX3_tally_93 ?_
      refine lv_bipush (v := (10 : Int32)) C.1.1 C.1.2.1 dX3_tally_96 rfl ?_
      refine lv_iload_n C.1.1 C.1.2.1 dX3_tally_98 rfl (lv_at hl 2 rfl) ?_
      refine lv_iadd C.1.1 C.1.2.1 dX3_tally_99 ?_
      obtain ⟨q8, h8, hf⟩ := o_bind hf
      refine aft_i hw (run_S C hw clX3_66 (As := [.ref (gA G 5), .int ((10 : Int32) + x1)]) (rest := [.int (q6 + q7), .int q3, .ref (gA G 10)]) (c_X8_at aX_5 h8) hl.1 rfl ⟨(Nat.le_of_ble_eq_true rfl), (Nat.le_of_ble_eq_true rfl)⟩ ⟨Nat.zero_le _, Nat.zero_le _⟩ rfl (Nat.le_of_ble_eq_true rfl) dX3_tally_100) (fun H locs hw => ?_)
      refine lv_isub C.1.1 C.1.2.1 dX3_tally_103 ?_
      obtain ⟨q9, h9, hf⟩ := o_bind hf
      refine aft_v hw (run_S C hw clX3_40 (As := [.ref (gA G 10), .int q3, .int ((q6 + q7) - q8)]) (rest := []) (c_X8_put aX_10 h9) hl.1 rfl ⟨(Nat.le_of_ble_eq_true rfl), (Nat.le_of_ble_eq_true rfl)⟩ ⟨Nat.zero_le _, Nat.zero_le _⟩ rfl (Nat.le_of_ble_eq_true rfl) dX3_tally_104) (fun H locs hw => ?_)
      refine lv_iinc (v := (x1 + (1 : Int32))) (lv' := [(1, .int (x1 + (1 : Int32))), (2, .int q3), (0, .ref (gA G 3))]) C.1.1 C.1.2.1 dX3_tally_107 hl (k := 2) rfl rfl (by decide) rfl (fun ls hl => ?_)
      refine lv_goto (tgt := 33) C.1.1 C.1.2.1 dX3_tally_110 (by decide) ?_
      exact hk_33 q9 M L (x1 + (1 : Int32)) _ _ _ hw (lv_sub hl [2, 0] rfl) hf
set_option maxRecDepth 20000 in
set_option maxHeartbeats 2000000 in
theorem wL_X3_tally_2 {p : Program} {e : Env} {s : State} {m : MethodId} {args : Array Value} {below : List Frame} {meth : Method} {c : Code} (C : Cx G p s m args c cX3_tally 3 RX3) (hr : meth.sig.returnType = none) (hlk : meth.locks = false) {ro : TX} : ∀ (n : Nat), ∀ (X : TX) (M : TX) (L : TL) (x1 : Int32) (H : Heap) (locs : List Loc) (ls : Array Slot), Wh G s X M L H locs → lv_has ls 3 [(0, .ref (gA G 3)), (1, .int x1)] → L_X3_tally_2 n X x1 = some ro → W p l e (rz 1 22) s m args below meth c H locs 0 0 (MQ below (Dv G ro M L) args s 0 0 (AB G)) (F0 m 2 ls []) := by
  intro n
  induction n with
  | zero =>
    intro X M L x1 H locs ls hw hl hf
    cases hf
  | succ n hk_2 =>
    intro X M L x1 H locs ls hw hl hf
    rw [L_X3_tally_2] at hf
    refine lv_iload_n C.1.1 C.1.2.1 dX3_tally_2 rfl (lv_at hl 1 rfl) ?_
    refine lv_iconst (v := (4 : Int32)) C.1.1 C.1.2.1 dX3_tally_3 rfl ?_
    refine lv_icmp_ge (tgt := 31) C.1.1 C.1.2.1 dX3_tally_4 (by decide) (fun c1 => ?_) (fun c1 => ?_)
    · have hf := o_t hf c1
      refine lv_iconst (v := (0 : Int32)) C.1.1 C.1.2.1 dX3_tally_31 rfl ?_
      refine lv_istore_n (lv' := [(1, .int (0 : Int32)), (0, .ref (gA G 3))]) C.1.1 C.1.2.1 dX3_tally_32 rfl hl (by decide) rfl (fun ls hl => ?_)
      exact wL_X3_tally_33 C hr hlk FU X M L (0 : Int32) _ _ _ hw (lv_sub hl [1, 0] rfl) hf
    · have hf := o_f hf c1
      refine lv_aload_n C.1.1 C.1.2.1 dX3_tally_7 rfl (lv_at hl 0 rfl) ?_
      refine x_ref C hw fX_3_12 flX3_34 dX3_tally_8 ?_
      refine lv_iload_n C.1.1 C.1.2.1 dX3_tally_11 rfl (lv_at hl 1 rfl) ?_
      refine lv_iconst (v := (0 : Int32)) C.1.1 C.1.2.1 dX3_tally_12 rfl ?_
      obtain ⟨q10, h10, hf⟩ := o_bind hf
      refine aft_v hw (run_S C hw clX3_40 (As := [.ref (gA G 9), .int x1, .int (0 : Int32)]) (rest := []) (c_X8_put aX_9 h10) hl.1 rfl ⟨(Nat.le_of_ble_eq_true rfl), (Nat.le_of_ble_eq_true rfl)⟩ ⟨Nat.zero_le _, Nat.zero_le _⟩ rfl (Nat.le_of_ble_eq_true rfl) dX3_tally_13) (fun H locs hw => ?_)
      refine lv_aload_n C.1.1 C.1.2.1 dX3_tally_16 rfl (lv_at hl 0 rfl) ?_
      refine x_ref C hw fX_3_13 flX3_37 dX3_tally_17 ?_
      refine lv_iload_n C.1.1 C.1.2.1 dX3_tally_20 rfl (lv_at hl 1 rfl) ?_
      refine lv_iconst (v := (0 : Int32)) C.1.1 C.1.2.1 dX3_tally_21 rfl ?_
      obtain ⟨q11, h11, hf⟩ := o_bind hf
      refine aft_v hw (run_S C hw clX3_40 (As := [.ref (gA G 10), .int x1, .int (0 : Int32)]) (rest := []) (c_X8_put aX_10 h11) hl.1 rfl ⟨(Nat.le_of_ble_eq_true rfl), (Nat.le_of_ble_eq_true rfl)⟩ ⟨Nat.zero_le _, Nat.zero_le _⟩ rfl (Nat.le_of_ble_eq_true rfl) dX3_tally_22) (fun H locs hw => ?_)
      refine lv_iinc (v := (x1 + (1 : Int32))) (lv' := [(1, .int (x1 + (1 : Int32))), (0, .ref (gA G 3))]) C.1.1 C.1.2.1 dX3_tally_25 hl (k := 1) rfl rfl (by decide) rfl (fun ls hl => ?_)
      refine lv_goto (tgt := 2) C.1.1 C.1.2.1 dX3_tally_28 (by decide) ?_
      exact hk_2 q11 M L (x1 + (1 : Int32)) _ _ _ hw (lv_sub hl [1, 0] rfl) hf
set_option maxRecDepth 20000 in
set_option maxHeartbeats 2000000 in
theorem c_X3_tally   {X M : TX} {L : TL}  {ro : TX} (hf : f_X3_tally X = some ro) : CTv G l yX3_tally cX3_tally 3 none 1 22 [.ref (gA G 3)] X M L ro M L := by
  unfold f_X3_tally at hf
  refine ct_of (by decide +kernel) (Nat.le_of_ble_eq_true rfl) (fun p e s m args below meth c H locs ls C hr hlk hw hl => ?_)
  have C : Cx G p s m args c cX3_tally 3 RX3 := C
  have hl : lv_has ls 3 [(0, .ref (gA G 3))] := hl
  refine lv_iconst (v := (0 : Int32)) C.1.1 C.1.2.1 dX3_tally_0 rfl ?_
  refine lv_istore_n (lv' := [(1, .int (0 : Int32)), (0, .ref (gA G 3))]) C.1.1 C.1.2.1 dX3_tally_1 rfl hl (by decide) rfl (fun ls hl => ?_)
  exact wL_X3_tally_2 C hr hlk FU X M L (0 : Int32) _ _ _ hw (lv_sub hl [1, 0] rfl) hf
end
/-! WinnerDraws$County.copyFrom(LWinnerDraws$County;)V (('o', 'X', 3) ('o', 'X', 11)) -/
def f_X3_copyFrom (X : TX) : Option (TX) := (f_X8_copy 12 4 X (0 : Int32) (0 : Int32) (10 : Int32)).bind fun q1 => (f_X8_copy 13 5 q1 (0 : Int32) (0 : Int32) (20 : Int32)).bind fun q2 => (f_X8_copy 14 6 q2 (0 : Int32) (0 : Int32) (10 : Int32)).bind fun q3 => (f_X8_copy 15 7 q3 (0 : Int32) (0 : Int32) (6 : Int32)).bind fun q4 => (f_X8_copy 16 8 q4 (0 : Int32) (0 : Int32) (6 : Int32)).bind fun q5 => (f_X3_tally (u2 (u2 (u2 (u2 (u2 (u2 (u2 q5 3 5 (q5 11 5)) 3 6 ((u2 q5 3 5 (q5 11 5)) 11 6)) 3 7 ((u2 (u2 q5 3 5 (q5 11 5)) 3 6 ((u2 q5 3 5 (q5 11 5)) 11 6)) 11 7)) 3 8 ((u2 (u2 (u2 q5 3 5 (q5 11 5)) 3 6 ((u2 q5 3 5 (q5 11 5)) 11 6)) 3 7 ((u2 (u2 q5 3 5 (q5 11 5)) 3 6 ((u2 q5 3 5 (q5 11 5)) 11 6)) 11 7)) 11 8)) 3 9 ((u2 (u2 (u2 (u2 q5 3 5 (q5 11 5)) 3 6 ((u2 q5 3 5 (q5 11 5)) 11 6)) 3 7 ((u2 (u2 q5 3 5 (q5 11 5)) 3 6 ((u2 q5 3 5 (q5 11 5)) 11 6)) 11 7)) 3 8 ((u2 (u2 (u2 q5 3 5 (q5 11 5)) 3 6 ((u2 q5 3 5 (q5 11 5)) 11 6)) 3 7 ((u2 (u2 q5 3 5 (q5 11 5)) 3 6 ((u2 q5 3 5 (q5 11 5)) 11 6)) 11 7)) 11 8)) 11 9)) 3 10 ((u2 (u2 (u2 (u2 (u2 q5 3 5 (q5 11 5)) 3 6 ((u2 q5 3 5 (q5 11 5)) 11 6)) 3 7 ((u2 (u2 q5 3 5 (q5 11 5)) 3 6 ((u2 q5 3 5 (q5 11 5)) 11 6)) 11 7)) 3 8 ((u2 (u2 (u2 q5 3 5 (q5 11 5)) 3 6 ((u2 q5 3 5 (q5 11 5)) 11 6)) 3 7 ((u2 (u2 q5 3 5 (q5 11 5)) 3 6 ((u2 q5 3 5 (q5 11 5)) 11 6)) 11 7)) 11 8)) 3 9 ((u2 (u2 (u2 (u2 q5 3 5 (q5 11 5)) 3 6 ((u2 q5 3 5 (q5 11 5)) 11 6)) 3 7 ((u2 (u2 q5 3 5 (q5 11 5)) 3 6 ((u2 q5 3 5 (q5 11 5)) 11 6)) 11 7)) 3 8 ((u2 (u2 (u2 q5 3 5 (q5 11 5)) 3 6 ((u2 q5 3 5 (q5 11 5)) 11 6)) 3 7 ((u2 (u2 q5 3 5 (q5 11 5)) 3 6 ((u2 q5 3 5 (q5 11 5)) 11 6)) 11 7)) 11 8)) 11 9)) 11 10)) 3 11 ((u2 (u2 (u2 (u2 (u2 (u2 q5 3 5 (q5 11 5)) 3 6 ((u2 q5 3 5 (q5 11 5)) 11 6)) 3 7 ((u2 (u2 q5 3 5 (q5 11 5)) 3 6 ((u2 q5 3 5 (q5 11 5)) 11 6)) 11 7)) 3 8 ((u2 (u2 (u2 q5 3 5 (q5 11 5)) 3 6 ((u2 q5 3 5 (q5 11 5)) 11 6)) 3 7 ((u2 (u2 q5 3 5 (q5 11 5)) 3 6 ((u2 q5 3 5 (q5 11 5)) 11 6)) 11 7)) 11 8)) 3 9 ((u2 (u2 (u2 (u2 q5 3 5 (q5 11 5)) 3 6 ((u2 q5 3 5 (q5 11 5)) 11 6)) 3 7 ((u2 (u2 q5 3 5 (q5 11 5)) 3 6 ((u2 q5 3 5 (q5 11 5)) 11 6)) 11 7)) 3 8 ((u2 (u2 (u2 q5 3 5 (q5 11 5)) 3 6 ((u2 q5 3 5 (q5 11 5)) 11 6)) 3 7 ((u2 (u2 q5 3 5 (q5 11 5)) 3 6 ((u2 q5 3 5 (q5 11 5)) 11 6)) 11 7)) 11 8)) 11 9)) 3 10 ((u2 (u2 (u2 (u2 (u2 q5 3 5 (q5 11 5)) 3 6 ((u2 q5 3 5 (q5 11 5)) 11 6)) 3 7 ((u2 (u2 q5 3 5 (q5 11 5)) 3 6 ((u2 q5 3 5 (q5 11 5)) 11 6)) 11 7)) 3 8 ((u2 (u2 (u2 q5 3 5 (q5 11 5)) 3 6 ((u2 q5 3 5 (q5 11 5)) 11 6)) 3 7 ((u2 (u2 q5 3 5 (q5 11 5)) 3 6 ((u2 q5 3 5 (q5 11 5)) 11 6)) 11 7)) 11 8)) 3 9 ((u2 (u2 (u2 (u2 q5 3 5 (q5 11 5)) 3 6 ((u2 q5 3 5 (q5 11 5)) 11 6)) 3 7 ((u2 (u2 q5 3 5 (q5 11 5)) 3 6 ((u2 q5 3 5 (q5 11 5)) 11 6)) 11 7)) 3 8 ((u2 (u2 (u2 q5 3 5 (q5 11 5)) 3 6 ((u2 q5 3 5 (q5 11 5)) 11 6)) 3 7 ((u2 (u2 q5 3 5 (q5 11 5)) 3 6 ((u2 q5 3 5 (q5 11 5)) 11 6)) 11 7)) 11 8)) 11 9)) 11 10)) 11 11))).bind fun q6 => some q6
section
variable {G : GP} {l : Launch}
set_option maxRecDepth 20000 in
set_option maxHeartbeats 2000000 in
theorem c_X3_copyFrom   {X M : TX} {L : TL}  {ro : TX} (hf : f_X3_copyFrom X = some ro) : CTv G l yX3_copyFrom cX3_copyFrom 2 none 2 47 [.ref (gA G 3), .ref (gA G 11)] X M L ro M L := by
  unfold f_X3_copyFrom at hf
  refine ct_of (by decide +kernel) (Nat.le_of_ble_eq_true rfl) (fun p e s m args below meth c H locs ls C hr hlk hw hl => ?_)
  have C : Cx G p s m args c cX3_copyFrom 2 RX3 := C
  have hl : lv_has ls 2 [(0, .ref (gA G 3)), (1, .ref (gA G 11))] := hl
  refine lv_aload_n C.1.1 C.1.2.1 dX3_copyFrom_0 rfl (lv_at hl 1 rfl) ?_
  refine x_ref C hw fX_11_0 flX3_9 dX3_copyFrom_1 ?_
  refine lv_iconst (v := (0 : Int32)) C.1.1 C.1.2.1 dX3_copyFrom_4 rfl ?_
  refine lv_aload_n C.1.1 C.1.2.1 dX3_copyFrom_5 rfl (lv_at hl 0 rfl) ?_
  refine x_ref C hw fX_3_0 flX3_9 dX3_copyFrom_6 ?_
  refine lv_iconst (v := (0 : Int32)) C.1.1 C.1.2.1 dX3_copyFrom_9 rfl ?_
  refine lv_bipush (v := (10 : Int32)) C.1.1 C.1.2.1 dX3_copyFrom_10 rfl ?_
  obtain ⟨q1, h1, hf⟩ := o_bind hf
  refine aft_v hw (run_S C hw clX3_59 (As := [.ref (gA G 12), .int (0 : Int32), .ref (gA G 4), .int (0 : Int32), .int (10 : Int32)]) (rest := []) (c_X8_copy aX_12 aX_4 h1) hl.1 rfl ⟨(Nat.le_of_ble_eq_true rfl), (Nat.le_of_ble_eq_true rfl)⟩ ⟨Nat.zero_le _, Nat.zero_le _⟩ rfl (Nat.le_of_ble_eq_true rfl) dX3_copyFrom_12) (fun H locs hw => ?_)
  refine lv_aload_n C.1.1 C.1.2.1 dX3_copyFrom_15 rfl (lv_at hl 1 rfl) ?_
  refine x_ref C hw fX_11_1 flX3_15 dX3_copyFrom_16 ?_
  refine lv_iconst (v := (0 : Int32)) C.1.1 C.1.2.1 dX3_copyFrom_19 rfl ?_
  refine lv_aload_n C.1.1 C.1.2.1 dX3_copyFrom_20 rfl (lv_at hl 0 rfl) ?_
  refine x_ref C hw fX_3_1 flX3_15 dX3_copyFrom_21 ?_
  refine lv_iconst (v := (0 : Int32)) C.1.1 C.1.2.1 dX3_copyFrom_24 rfl ?_
  refine lv_bipush (v := (20 : Int32)) C.1.1 C.1.2.1 dX3_copyFrom_25 rfl ?_
  obtain ⟨q2, h2, hf⟩ := o_bind hf
  refine aft_v hw (run_S C hw clX3_59 (As := [.ref (gA G 13), .int (0 : Int32), .ref (gA G 5), .int (0 : Int32), .int (20 : Int32)]) (rest := []) (c_X8_copy aX_13 aX_5 h2) hl.1 rfl ⟨(Nat.le_of_ble_eq_true rfl), (Nat.le_of_ble_eq_true rfl)⟩ ⟨Nat.zero_le _, Nat.zero_le _⟩ rfl (Nat.le_of_ble_eq_true rfl) dX3_copyFrom_27) (fun H locs hw => ?_)
  refine lv_aload_n C.1.1 C.1.2.1 dX3_copyFrom_30 rfl (lv_at hl 1 rfl) ?_
  refine x_ref C hw fX_11_2 flX3_18 dX3_copyFrom_31 ?_
  refine lv_iconst (v := (0 : Int32)) C.1.1 C.1.2.1 dX3_copyFrom_34 rfl ?_
  refine lv_aload_n C.1.1 C.1.2.1 dX3_copyFrom_35 rfl (lv_at hl 0 rfl) ?_
  refine x_ref C hw fX_3_2 flX3_18 dX3_copyFrom_36 ?_
  refine lv_iconst (v := (0 : Int32)) C.1.1 C.1.2.1 dX3_copyFrom_39 rfl ?_
  refine lv_bipush (v := (10 : Int32)) C.1.1 C.1.2.1 dX3_copyFrom_40 rfl ?_
  obtain ⟨q3, h3, hf⟩ := o_bind hf
  refine aft_v hw (run_S C hw clX3_59 (As := [.ref (gA G 14), .int (0 : Int32), .ref (gA G 6), .int (0 : Int32), .int (10 : Int32)]) (rest := []) (c_X8_copy aX_14 aX_6 h3) hl.1 rfl ⟨(Nat.le_of_ble_eq_true rfl), (Nat.le_of_ble_eq_true rfl)⟩ ⟨Nat.zero_le _, Nat.zero_le _⟩ rfl (Nat.le_of_ble_eq_true rfl) dX3_copyFrom_42) (fun H locs hw => ?_)
  refine lv_aload_n C.1.1 C.1.2.1 dX3_copyFrom_45 rfl (lv_at hl 1 rfl) ?_
  refine x_ref C hw fX_11_3 flX3_21 dX3_copyFrom_46 ?_
  refine lv_iconst (v := (0 : Int32)) C.1.1 C.1.2.1 dX3_copyFrom_49 rfl ?_
  refine lv_aload_n C.1.1 C.1.2.1 dX3_copyFrom_50 rfl (lv_at hl 0 rfl) ?_
  refine x_ref C hw fX_3_3 flX3_21 dX3_copyFrom_51 ?_
  refine lv_iconst (v := (0 : Int32)) C.1.1 C.1.2.1 dX3_copyFrom_54 rfl ?_
  refine lv_bipush (v := (6 : Int32)) C.1.1 C.1.2.1 dX3_copyFrom_55 rfl ?_
  obtain ⟨q4, h4, hf⟩ := o_bind hf
  refine aft_v hw (run_S C hw clX3_59 (As := [.ref (gA G 15), .int (0 : Int32), .ref (gA G 7), .int (0 : Int32), .int (6 : Int32)]) (rest := []) (c_X8_copy aX_15 aX_7 h4) hl.1 rfl ⟨(Nat.le_of_ble_eq_true rfl), (Nat.le_of_ble_eq_true rfl)⟩ ⟨Nat.zero_le _, Nat.zero_le _⟩ rfl (Nat.le_of_ble_eq_true rfl) dX3_copyFrom_57) (fun H locs hw => ?_)
  refine lv_aload_n C.1.1 C.1.2.1 dX3_copyFrom_60 rfl (lv_at hl 1 rfl) ?_
  refine x_ref C hw fX_11_4 flX3_24 dX3_copyFrom_61 ?_
  refine lv_iconst (v := (0 : Int32)) C.1.1 C.1.2.1 dX3_copyFrom_64 rfl ?_
  refine lv_aload_n C.1.1 C.1.2.1 dX3_copyFrom_65 rfl (lv_at hl 0 rfl) ?_
  refine x_ref C hw fX_3_4 flX3_24 dX3_copyFrom_66 ?_
  refine lv_iconst (v := (0 : Int32)) C.1.1 C.1.2.1 dX3_copyFrom_69 rfl ?_
  refine lv_bipush (v := (6 : Int32)) C.1.1 C.1.2.1 dX3_copyFrom_70 rfl ?_
  obtain ⟨q5, h5, hf⟩ := o_bind hf
  refine aft_v hw (run_S C hw clX3_59 (As := [.ref (gA G 16), .int (0 : Int32), .ref (gA G 8), .int (0 : Int32), .int (6 : Int32)]) (rest := []) (c_X8_copy aX_16 aX_8 h5) hl.1 rfl ⟨(Nat.le_of_ble_eq_true rfl), (Nat.le_of_ble_eq_true rfl)⟩ ⟨Nat.zero_le _, Nat.zero_le _⟩ rfl (Nat.le_of_ble_eq_true rfl) dX3_copyFrom_72) (fun H locs hw => ?_)
  refine lv_aload_n C.1.1 C.1.2.1 dX3_copyFrom_75 rfl (lv_at hl 0 rfl) ?_
  refine lv_aload_n C.1.1 C.1.2.1 dX3_copyFrom_76 rfl (lv_at hl 1 rfl) ?_
  refine x_get C hw iX_11_5 flX3_44 dX3_copyFrom_77 ?_
  refine x_put C hw iX_3_5 flX3_44 dX3_copyFrom_80 (fun H locs hw => ?_)
  refine lv_aload_n C.1.1 C.1.2.1 dX3_copyFrom_83 rfl (lv_at hl 0 rfl) ?_
  refine lv_aload_n C.1.1 C.1.2.1 dX3_copyFrom_84 rfl (lv_at hl 1 rfl) ?_
  refine x_get C hw iX_11_6 flX3_47 dX3_copyFrom_85 ?_
  refine x_put C hw iX_3_6 flX3_47 dX3_copyFrom_88 (fun H locs hw => ?_)
  refine lv_aload_n C.1.1 C.1.2.1 dX3_copyFrom_91 rfl (lv_at hl 0 rfl) ?_
  refine lv_aload_n C.1.1 C.1.2.1 dX3_copyFrom_92 rfl (lv_at hl 1 rfl) ?_
  refine x_get C hw iX_11_7 flX3_27 dX3_copyFrom_93 ?_
  refine x_put C hw iX_3_7 flX3_27 dX3_copyFrom_96 (fun H locs hw => ?_)
  refine lv_aload_n C.1.1 C.1.2.1 dX3_copyFrom_99 rfl (lv_at hl 0 rfl) ?_
  refine lv_aload_n C.1.1 C.1.2.1 dX3_copyFrom_100 rfl (lv_at hl 1 rfl) ?_
  refine x_get C hw iX_11_8 flX3_50 dX3_copyFrom_101 ?_
  refine x_put C hw iX_3_8 flX3_50 dX3_copyFrom_104 (fun H locs hw => ?_)
  refine lv_aload_n C.1.1 C.1.2.1 dX3_copyFrom_107 rfl (lv_at hl 0 rfl) ?_
  refine lv_aload_n C.1.1 C.1.2.1 dX3_copyFrom_108 rfl (lv_at hl 1 rfl) ?_
  refine x_get C hw iX_11_9 flX3_31 dX3_copyFrom_109 ?_
  refine x_put C hw iX_3_9 flX3_31 dX3_copyFrom_112 (fun H locs hw => ?_)
  refine lv_aload_n C.1.1 C.1.2.1 dX3_copyFrom_115 rfl (lv_at hl 0 rfl) ?_
  refine lv_aload_n C.1.1 C.1.2.1 dX3_copyFrom_116 rfl (lv_at hl 1 rfl) ?_
  refine x_get C hw iX_11_10 flX3_53 dX3_copyFrom_117 ?_
  refine x_put C hw iX_3_10 flX3_53 dX3_copyFrom_120 (fun H locs hw => ?_)
  refine lv_aload_n C.1.1 C.1.2.1 dX3_copyFrom_123 rfl (lv_at hl 0 rfl) ?_
  refine lv_aload_n C.1.1 C.1.2.1 dX3_copyFrom_124 rfl (lv_at hl 1 rfl) ?_
  refine x_get C hw iX_11_11 flX3_56 dX3_copyFrom_125 ?_
  refine x_put C hw iX_3_11 flX3_56 dX3_copyFrom_128 (fun H locs hw => ?_)
  refine lv_aload_n C.1.1 C.1.2.1 dX3_copyFrom_131 rfl (lv_at hl 0 rfl) ?_
  obtain ⟨q6, h6, hf⟩ := o_bind hf
  refine aft_v hw (run_VX C hw clX3_63 (As := []) (rest := []) oX_3 (c_X3_tally h6) rfl hl.1 rfl ⟨(Nat.le_of_ble_eq_true rfl), (Nat.le_of_ble_eq_true rfl)⟩ ⟨Nat.zero_le _, Nat.zero_le _⟩ rfl (Nat.le_of_ble_eq_true rfl) dX3_copyFrom_132) (fun H locs hw => ?_)
  obtain rfl := Option.some.inj hf
  exact ret_v C hr hlk hw dX3_copyFrom_135
end
/-! WinnerDraws$Law.clear()V (('o', 'X', 19)) -/
def f_X4_clear (X : TX) : Option (TX) := some (u2 X 19 3 (0 : Int32))
section
variable {G : GP} {l : Launch}
set_option maxRecDepth 20000 in
set_option maxHeartbeats 2000000 in
theorem c_X4_clear   {X M : TX} {L : TL}  {ro : TX} (hf : f_X4_clear X = some ro) : CTv G l yX4_clear cX4_clear 1 none 0 0 [.ref (gA G 19)] X M L ro M L := by
  unfold f_X4_clear at hf
  refine ct_of (by decide +kernel) (Nat.le_of_ble_eq_true rfl) (fun p e s m args below meth c H locs ls C hr hlk hw hl => ?_)
  have C : Cx G p s m args c cX4_clear 1 RX4 := C
  have hl : lv_has ls 1 [(0, .ref (gA G 19))] := hl
  refine lv_aload_n C.1.1 C.1.2.1 dX4_clear_0 rfl (lv_at hl 0 rfl) ?_
  refine lv_iconst (v := (0 : Int32)) C.1.1 C.1.2.1 dX4_clear_1 rfl ?_
  refine x_put C hw iX_19_3 flX4_21 dX4_clear_2 (fun H locs hw => ?_)
  obtain rfl := Option.some.inj hf
  exact ret_v C hr hlk hw dX4_clear_5
end
/-! WinnerDraws$Book.clear()V (('o', 'X', 27)) -/
def f_X1_clear (X : TX) : Option (TX) := some (u2 X 27 1 (0 : Int32))
section
variable {G : GP} {l : Launch}
set_option maxRecDepth 20000 in
set_option maxHeartbeats 2000000 in
theorem c_X1_clear   {X M : TX} {L : TL}  {ro : TX} (hf : f_X1_clear X = some ro) : CTv G l yX1_clear cX1_clear 1 none 0 0 [.ref (gA G 27)] X M L ro M L := by
  unfold f_X1_clear at hf
  refine ct_of (by decide +kernel) (Nat.le_of_ble_eq_true rfl) (fun p e s m args below meth c H locs ls C hr hlk hw hl => ?_)
  have C : Cx G p s m args c cX1_clear 1 RX1 := C
  have hl : lv_has ls 1 [(0, .ref (gA G 27))] := hl
  refine lv_aload_n C.1.1 C.1.2.1 dX1_clear_0 rfl (lv_at hl 0 rfl) ?_
  refine lv_iconst (v := (0 : Int32)) C.1.1 C.1.2.1 dX1_clear_1 rfl ?_
  refine x_put C hw iX_27_1 flX1_19 dX1_clear_2 (fun H locs hw => ?_)
  obtain rfl := Option.some.inj hf
  exact ret_v C hr hlk hw dX1_clear_5
end
/-! WinnerDraws$Archive.clear()V (('o', 'X', 37)) -/
def f_X0_clear (X : TX) : Option (TX) := some (u2 (u2 X 37 3 (0 : Int32)) 37 4 (0 : Int32))
section
variable {G : GP} {l : Launch}
set_option maxRecDepth 20000 in
set_option maxHeartbeats 2000000 in
theorem c_X0_clear   {X M : TX} {L : TL}  {ro : TX} (hf : f_X0_clear X = some ro) : CTv G l yX0_clear cX0_clear 1 none 0 0 [.ref (gA G 37)] X M L ro M L := by
  unfold f_X0_clear at hf
  refine ct_of (by decide +kernel) (Nat.le_of_ble_eq_true rfl) (fun p e s m args below meth c H locs ls C hr hlk hw hl => ?_)
  have C : Cx G p s m args c cX0_clear 1 RX0 := C
  have hl : lv_has ls 1 [(0, .ref (gA G 37))] := hl
  refine lv_aload_n C.1.1 C.1.2.1 dX0_clear_0 rfl (lv_at hl 0 rfl) ?_
  refine lv_iconst (v := (0 : Int32)) C.1.1 C.1.2.1 dX0_clear_1 rfl ?_
  refine x_put C hw iX_37_3 flX0_21 dX0_clear_2 (fun H locs hw => ?_)
  refine lv_aload_n C.1.1 C.1.2.1 dX0_clear_5 rfl (lv_at hl 0 rfl) ?_
  refine lv_iconst (v := (0 : Int32)) C.1.1 C.1.2.1 dX0_clear_6 rfl ?_
  refine x_put C hw iX_37_4 flX0_25 dX0_clear_7 (fun H locs hw => ?_)
  obtain rfl := Option.some.inj hf
  exact ret_v C hr hlk hw dX0_clear_10
end
