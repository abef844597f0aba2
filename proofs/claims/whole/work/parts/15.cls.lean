/-! WinnerDraws$Council.priceOf(II)I (('o', 'X', 33) ('i',) ('i',)) -/
def B_X2_priceOf_60 (X : TX) (x1 : Int32) (x2 : Int32) (t0 : Int32) (t1 : Int32) : Option (TX × Int32) := (f_X4_tell X t1 t0).bind fun q5 => (f_X3_wardOf q5 x1).bind fun q6 => (f_X3_membersOf q5 q6).bind fun q7 => (f_J6_bitCount_0f7a4 q7).bind fun q8 => (f_X4_tell q5 (2 : Int32) q8).bind fun q9 => (f_X3_membersOf q9 x2).bind fun q10 => (f_J6_bitCount_0f7a4 q10).bind fun q11 => (f_X4_tell q9 (3 : Int32) q11).bind fun q12 => (f_X3_lines q12).bind fun q13 => (f_X4_tell q12 (4 : Int32) q13).bind fun q14 => (f_X4_tell q14 (5 : Int32) (q14 3 10)).bind fun q15 => (f_X4_tell q15 (6 : Int32) (q15 3 8)).bind fun q16 => (f_X4_tell q16 (7 : Int32) x1).bind fun q17 => (f_X4_price q17).bind fun q18 => some (q18.1, q18.2)
def f_X2_priceOf (X : TX) (x1 : Int32) (x2 : Int32) : Option (TX × Int32) := (f_X3_votesOf X (0 : Int32) x1).bind fun q1 => (f_X3_votesOf X (1 : Int32) x1).bind fun q2 => (f_X4_tell X (0 : Int32) (q1 + q2)).bind fun q3 => if (q3 3 9) = (1 : Int32) then (B_X2_priceOf_60 q3 x1 x2 (q2 - q1) (1 : Int32)) else (B_X2_priceOf_60 q3 x1 x2 (q1 - q2) (1 : Int32))
section
variable {G : GP} {l : Launch}
set_option maxRecDepth 20000 in
set_option maxHeartbeats 2000000 in
theorem wB_X2_priceOf_60 {p : Program} {e : Env} {s : State} {m : MethodId} {args : Array Value} {below : List Frame} {meth : Method} {c : Code} (C : Cx G p s m args c cX2_priceOf 5 RX2) (hr : meth.sig.returnType = (some .int)) (hlk : meth.locks = false) {ro : TX × Int32} : ∀ (X : TX) (M : TX) (L : TL) (x1 : Int32) (x2 : Int32) (t0 : Int32) (t1 : Int32) (H : Heap) (locs : List Loc) (ls : Array Slot), Wh G s X M L H locs → lv_has ls 5 [(0, .ref (gA G 33)), (1, .int x1), (2, .int x2)] → B_X2_priceOf_60 X x1 x2 t0 t1 = some ro → W p l e (rz 3 75) s m args below meth c H locs 0 0 (MQ below (Di G ro.1 M L ro.2) args s 0 0 (AB G)) (F0 m 60 ls [.int t0, .int t1, .ref (gA G 19)]) := by
  intro X M L x1 x2 t0 t1 H locs ls hw hl hf
  unfold B_X2_priceOf_60 at hf
  obtain ⟨q5, h5, hf⟩ := o_bind hf
  refine aft_v hw (run_VX C hw clX2_76 (As := [.int t1, .int t0]) (rest := []) oX_19 (c_X4_tell h5) rfl hl.1 rfl ⟨(Nat.le_of_ble_eq_true rfl), (Nat.le_of_ble_eq_true rfl)⟩ ⟨Nat.zero_le _, Nat.zero_le _⟩ rfl (Nat.le_of_ble_eq_true rfl) dX2_priceOf_60) (fun H locs hw => ?_)
  refine lv_aload_n C.1.1 C.1.2.1 dX2_priceOf_63 rfl (lv_at hl 0 rfl) ?_
  refine x_ref C hw fX_33_1 flX2_25 dX2_priceOf_64 ?_
  refine lv_iconst (v := (2 : Int32)) C.1.1 C.1.2.1 dX2_priceOf_67 rfl ?_
  refine lv_aload_n C.1.1 C.1.2.1 dX2_priceOf_68 rfl (lv_at hl 0 rfl) ?_
  refine x_ref C hw fX_33_0 flX2_21 dX2_priceOf_69 ?_
  refine lv_aload_n C.1.1 C.1.2.1 dX2_priceOf_72 rfl (lv_at hl 0 rfl) ?_
  refine x_ref C hw fX_33_0 flX2_21 dX2_priceOf_73 ?_
  refine lv_iload_n C.1.1 C.1.2.1 dX2_priceOf_76 rfl (lv_at hl 1 rfl) ?_
  obtain ⟨q6, h6, hf⟩ := o_bind hf
  refine aft_i hw (run_VX C hw clX2_81 (As := [.int x1]) (rest := [.ref (gA G 3), .int (2 : Int32), .ref (gA G 19)]) oX_3 (c_X3_wardOf h6) rfl hl.1 rfl ⟨(Nat.le_of_ble_eq_true rfl), (Nat.le_of_ble_eq_true rfl)⟩ ⟨Nat.zero_le _, Nat.zero_le _⟩ rfl (Nat.le_of_ble_eq_true rfl) dX2_priceOf_77) (fun H locs hw => ?_)
  obtain ⟨q7, h7, hf⟩ := o_bind hf
  refine aft_i hw (run_VX C hw clX2_84 (As := [.int q6]) (rest := [.int (2 : Int32), .ref (gA G 19)]) oX_3 (c_X3_membersOf h7) rfl hl.1 rfl ⟨(Nat.le_of_ble_eq_true rfl), (Nat.le_of_ble_eq_true rfl)⟩ ⟨Nat.zero_le _, Nat.zero_le _⟩ rfl (Nat.le_of_ble_eq_true rfl) dX2_priceOf_80) (fun H locs hw => ?_)
  obtain ⟨q8, h8, hf⟩ := o_bind hf
  refine aft_i hw (run_S C hw clX2_87 (As := [.int q7]) (rest := [.int (2 : Int32), .ref (gA G 19)]) (c_J6_bitCount_0f7a4 h8) hl.1 rfl ⟨(Nat.le_of_ble_eq_true rfl), (Nat.le_of_ble_eq_true rfl)⟩ ⟨Nat.zero_le _, Nat.zero_le _⟩ rfl (Nat.le_of_ble_eq_true rfl) dX2_priceOf_83) (fun H locs hw => ?_)
  obtain ⟨q9, h9, hf⟩ := o_bind hf
  refine aft_v hw (run_VX C hw clX2_76 (As := [.int (2 : Int32), .int q8]) (rest := []) oX_19 (c_X4_tell h9) rfl hl.1 rfl ⟨(Nat.le_of_ble_eq_true rfl), (Nat.le_of_ble_eq_true rfl)⟩ ⟨Nat.zero_le _, Nat.zero_le _⟩ rfl (Nat.le_of_ble_eq_true rfl) dX2_priceOf_86) (fun H locs hw => ?_)
  refine lv_aload_n C.1.1 C.1.2.1 dX2_priceOf_89 rfl (lv_at hl 0 rfl) ?_
  refine x_ref C hw fX_33_1 flX2_25 dX2_priceOf_90 ?_
  refine lv_iconst (v := (3 : Int32)) C.1.1 C.1.2.1 dX2_priceOf_93 rfl ?_
  refine lv_aload_n C.1.1 C.1.2.1 dX2_priceOf_94 rfl (lv_at hl 0 rfl) ?_
  refine x_ref C hw fX_33_0 flX2_21 dX2_priceOf_95 ?_
  refine lv_iload_n C.1.1 C.1.2.1 dX2_priceOf_98 rfl (lv_at hl 2 rfl) ?_
  obtain ⟨q10, h10, hf⟩ := o_bind hf
  refine aft_i hw (run_VX C hw clX2_84 (As := [.int x2]) (rest := [.int (3 : Int32), .ref (gA G 19)]) oX_3 (c_X3_membersOf h10) rfl hl.1 rfl ⟨(Nat.le_of_ble_eq_true rfl), (Nat.le_of_ble_eq_true rfl)⟩ ⟨Nat.zero_le _, Nat.zero_le _⟩ rfl (Nat.le_of_ble_eq_true rfl) dX2_priceOf_99) (fun H locs hw => ?_)
  obtain ⟨q11, h11, hf⟩ := o_bind hf
  refine aft_i hw (run_S C hw clX2_87 (As := [.int q10]) (rest := [.int (3 : Int32), .ref (gA G 19)]) (c_J6_bitCount_0f7a4 h11) hl.1 rfl ⟨(Nat.le_of_ble_eq_true rfl), (Nat.le_of_ble_eq_true rfl)⟩ ⟨Nat.zero_le _, Nat.zero_le _⟩ rfl (Nat.le_of_ble_eq_true rfl) dX2_priceOf_102) (fun H locs hw => ?_)
  obtain ⟨q12, h12, hf⟩ := o_bind hf
  refine aft_v hw (run_VX C hw clX2_76 (As := [.int (3 : Int32), .int q11]) (rest := []) oX_19 (c_X4_tell h12) rfl hl.1 rfl ⟨(Nat.le_of_ble_eq_true rfl), (Nat.le_of_ble_eq_true rfl)⟩ ⟨Nat.zero_le _, Nat.zero_le _⟩ rfl (Nat.le_of_ble_eq_true rfl) dX2_priceOf_105) (fun H locs hw => ?_)
  refine lv_aload_n C.1.1 C.1.2.1 dX2_priceOf_108 rfl (lv_at hl 0 rfl) ?_
  refine x_ref C hw fX_33_1 flX2_25 dX2_priceOf_109 ?_
  refine lv_iconst (v := (4 : Int32)) C.1.1 C.1.2.1 dX2_priceOf_112 rfl ?_
  refine lv_aload_n C.1.1 C.1.2.1 dX2_priceOf_113 rfl (lv_at hl 0 rfl) ?_
  refine x_ref C hw fX_33_0 flX2_21 dX2_priceOf_114 ?_
  obtain ⟨q13, h13, hf⟩ := o_bind hf
  refine aft_i hw (run_VX C hw clX2_92 (As := []) (rest := [.int (4 : Int32), .ref (gA G 19)]) oX_3 (c_X3_lines h13) rfl hl.1 rfl ⟨(Nat.le_of_ble_eq_true rfl), (Nat.le_of_ble_eq_true rfl)⟩ ⟨Nat.zero_le _, Nat.zero_le _⟩ rfl (Nat.le_of_ble_eq_true rfl) dX2_priceOf_117) (fun H locs hw => ?_)
  obtain ⟨q14, h14, hf⟩ := o_bind hf
  refine aft_v hw (run_VX C hw clX2_76 (As := [.int (4 : Int32), .int q13]) (rest := []) oX_19 (c_X4_tell h14) rfl hl.1 rfl ⟨(Nat.le_of_ble_eq_true rfl), (Nat.le_of_ble_eq_true rfl)⟩ ⟨Nat.zero_le _, Nat.zero_le _⟩ rfl (Nat.le_of_ble_eq_true rfl) dX2_priceOf_120) (fun H locs hw => ?_)
  refine lv_aload_n C.1.1 C.1.2.1 dX2_priceOf_123 rfl (lv_at hl 0 rfl) ?_
  refine x_ref C hw fX_33_1 flX2_25 dX2_priceOf_124 ?_
  refine lv_iconst (v := (5 : Int32)) C.1.1 C.1.2.1 dX2_priceOf_127 rfl ?_
  refine lv_aload_n C.1.1 C.1.2.1 dX2_priceOf_128 rfl (lv_at hl 0 rfl) ?_
  refine x_ref C hw fX_33_0 flX2_21 dX2_priceOf_129 ?_
  refine x_get C hw iX_3_10 flX2_96 dX2_priceOf_132 ?_
  obtain ⟨q15, h15, hf⟩ := o_bind hf
  refine aft_v hw (run_VX C hw clX2_76 (As := [.int (5 : Int32), .int (q14 3 10)]) (rest := []) oX_19 (c_X4_tell h15) rfl hl.1 rfl ⟨(Nat.le_of_ble_eq_true rfl), (Nat.le_of_ble_eq_true rfl)⟩ ⟨Nat.zero_le _, Nat.zero_le _⟩ rfl (Nat.le_of_ble_eq_true rfl) dX2_priceOf_135) (fun H locs hw => ?_)
  refine lv_aload_n C.1.1 C.1.2.1 dX2_priceOf_138 rfl (lv_at hl 0 rfl) ?_
  refine x_ref C hw fX_33_1 flX2_25 dX2_priceOf_139 ?_
  refine lv_bipush (v := (6 : Int32)) C.1.1 C.1.2.1 dX2_priceOf_142 rfl ?_
  refine lv_aload_n C.1.1 C.1.2.1 dX2_priceOf_144 rfl (lv_at hl 0 rfl) ?_
  refine x_ref C hw fX_33_0 flX2_21 dX2_priceOf_145 ?_
  refine x_get C hw iX_3_8 flX2_29 dX2_priceOf_148 ?_
  obtain ⟨q16, h16, hf⟩ := o_bind hf
  refine aft_v hw (run_VX C hw clX2_76 (As := [.int (6 : Int32), .int (q15 3 8)]) (rest := []) oX_19 (c_X4_tell h16) rfl hl.1 rfl ⟨(Nat.le_of_ble_eq_true rfl), (Nat.le_of_ble_eq_true rfl)⟩ ⟨Nat.zero_le _, Nat.zero_le _⟩ rfl (Nat.le_of_ble_eq_true rfl) dX2_priceOf_151) (fun H locs hw => ?_)
  refine lv_aload_n C.1.1 C.1.2.1 dX2_priceOf_154 rfl (lv_at hl 0 rfl) ?_
  refine x_ref C hw fX_33_1 flX2_25 dX2_priceOf_155 ?_
  refine lv_bipush (v := (7 : Int32)) C.1.1 C.1.2.1 dX2_priceOf_158 rfl ?_
  refine lv_iload_n C.1.1 C.1.2.1 dX2_priceOf_160 rfl (lv_at hl 1 rfl) ?_
  obtain ⟨q17, h17, hf⟩ := o_bind hf
  refine aft_v hw (run_VX C hw clX2_76 (As := [.int (7 : Int32), .int x1]) (rest := []) oX_19 (c_X4_tell h17) rfl hl.1 rfl ⟨(Nat.le_of_ble_eq_true rfl), (Nat.le_of_ble_eq_true rfl)⟩ ⟨Nat.zero_le _, Nat.zero_le _⟩ rfl (Nat.le_of_ble_eq_true rfl) dX2_priceOf_161) (fun H locs hw => ?_)
  refine lv_aload_n C.1.1 C.1.2.1 dX2_priceOf_164 rfl (lv_at hl 0 rfl) ?_
  refine x_ref C hw fX_33_1 flX2_25 dX2_priceOf_165 ?_
  obtain ⟨q18, h18, hf⟩ := o_bind hf
  refine aft_i hw (run_VX C hw clX2_99 (As := []) (rest := []) oX_19 (c_X4_price h18) rfl hl.1 rfl ⟨(Nat.le_of_ble_eq_true rfl), (Nat.le_of_ble_eq_true rfl)⟩ ⟨Nat.zero_le _, Nat.zero_le _⟩ rfl (Nat.le_of_ble_eq_true rfl) dX2_priceOf_168) (fun H locs hw => ?_)
  obtain rfl := Option.some.inj hf
  exact ret_i C hr hlk hw dX2_priceOf_171
set_option maxRecDepth 20000 in
set_option maxHeartbeats 2000000 in
theorem c_X2_priceOf   {X M : TX} {L : TL} {x1 : Int32} {x2 : Int32} {ro : TX × Int32} (hf : f_X2_priceOf X x1 x2 = some ro) : CTi G l yX2_priceOf cX2_priceOf 5 (some .int) 3 75 [.ref (gA G 33), .int x1, .int x2] X M L ro.1 M L ro.2 := by
  unfold f_X2_priceOf at hf
  refine ct_of (by decide +kernel) (Nat.le_of_ble_eq_true rfl) (fun p e s m args below meth c H locs ls C hr hlk hw hl => ?_)
  have C : Cx G p s m args c cX2_priceOf 5 RX2 := C
  have hl : lv_has ls 5 [(0, .ref (gA G 33)), (1, .int x1), (2, .int x2)] := hl
  refine lv_aload_n C.1.1 C.1.2.1 dX2_priceOf_0 rfl (lv_at hl 0 rfl) ?_
  refine x_ref C hw fX_33_0 flX2_21 dX2_priceOf_1 ?_
  refine lv_iconst (v := (0 : Int32)) C.1.1 C.1.2.1 dX2_priceOf_4 rfl ?_
  refine lv_iload_n C.1.1 C.1.2.1 dX2_priceOf_5 rfl (lv_at hl 1 rfl) ?_
  obtain ⟨q1, h1, hf⟩ := o_bind hf
  refine aft_i hw (run_VX C hw clX2_73 (As := [.int (0 : Int32), .int x1]) (rest := []) oX_3 (c_X3_votesOf h1) rfl hl.1 rfl ⟨(Nat.le_of_ble_eq_true rfl), (Nat.le_of_ble_eq_true rfl)⟩ ⟨Nat.zero_le _, Nat.zero_le _⟩ rfl (Nat.le_of_ble_eq_true rfl) dX2_priceOf_6) (fun H locs hw => ?_)
  refine lv_istore_n (lv' := [(3, .int q1), (0, .ref (gA G 33)), (1, .int x1), (2, .int x2)]) C.1.1 C.1.2.1 dX2_priceOf_9 rfl hl (by decide) rfl (fun ls hl => ?_)
  refine lv_aload_n C.1.1 C.1.2.1 dX2_priceOf_10 rfl (lv_at hl 1 rfl) ?_
  refine x_ref C hw fX_33_0 flX2_21 dX2_priceOf_11 ?_
  refine lv_iconst (v := (1 : Int32)) C.1.1 C.1.2.1 dX2_priceOf_14 rfl ?_
  refine lv_iload_n C.1.1 C.1.2.1 dX2_priceOf_15 rfl (lv_at hl 2 rfl) ?_
  obtain ⟨q2, h2, hf⟩ := o_bind hf
  refine aft_i hw (run_VX C hw clX2_73 (As := [.int (1 : Int32), .int x1]) (rest := []) oX_3 (c_X3_votesOf h2) rfl hl.1 rfl ⟨(Nat.le_of_ble_eq_true rfl), (Nat.le_of_ble_eq_true rfl)⟩ ⟨Nat.zero_le _, Nat.zero_le _⟩ rfl (Nat.le_of_ble_eq_true rfl) dX2_priceOf_16) (fun H locs hw => ?_)
  refine lv_istore (lv' := [(4, .int q2), (3, .int q1), (0, .ref (gA G 33)), (1, .int x1), (2, .int x2)]) C.1.1 C.1.2.1 dX2_priceOf_19 hl (by decide) rfl (fun ls hl => ?_)
  refine lv_aload_n C.1.1 C.1.2.1 dX2_priceOf_21 rfl (lv_at hl 2 rfl) ?_
  refine x_ref C hw fX_33_1 flX2_25 dX2_priceOf_22 ?_
  refine lv_iconst (v := (0 : Int32)) C.1.1 C.1.2.1 dX2_priceOf_25 rfl ?_
  refine lv_iload_n C.1.1 C.1.2.1 dX2_priceOf_26 rfl (lv_at hl 1 rfl) ?_
  refine lv_iload C.1.1 C.1.2.1 dX2_priceOf_27 (lv_at hl 0 rfl) ?_
  refine lv_iadd C.1.1 C.1.2.1 dX2_priceOf_29 ?_
  obtain ⟨q3, h3, hf⟩ := o_bind hf
  refine aft_v hw (run_VX C hw clX2_76 (As := [.int (0 : Int32), .int (q1 + q2)]) (rest := []) oX_19 (c_X4_tell h3) rfl hl.1 rfl ⟨(Nat.le_of_ble_eq_true rfl), (Nat.le_of_ble_eq_true rfl)⟩ ⟨Nat.zero_le _, Nat.zero_le _⟩ rfl (Nat.le_of_ble_eq_true rfl) dX2_priceOf_30) (fun H locs hw => ?_)
  refine lv_aload_n C.1.1 C.1.2.1 dX2_priceOf_33 rfl (lv_at hl 2 rfl) ?_
  refine x_ref C hw fX_33_1 flX2_25 dX2_priceOf_34 ?_
  refine lv_iconst (v := (1 : Int32)) C.1.1 C.1.2.1 dX2_priceOf_37 rfl ?_
  refine lv_aload_n C.1.1 C.1.2.1 dX2_priceOf_38 rfl (lv_at hl 2 rfl) ?_
  refine x_ref C hw fX_33_0 flX2_21 dX2_priceOf_39 ?_
  refine x_get C hw iX_3_9 flX2_37 dX2_priceOf_42 ?_
  refine lv_iconst (v := (1 : Int32)) C.1.1 C.1.2.1 dX2_priceOf_45 rfl ?_
  refine lv_icmp_ne (tgt := 56) C.1.1 C.1.2.1 dX2_priceOf_46 (by decide) (fun c4 => ?_) (fun c4 => ?_)
  · have hf := o_f hf c4
    refine lv_iload_n C.1.1 C.1.2.1 dX2_priceOf_56 rfl (lv_at hl 1 rfl) ?_
    refine lv_iload C.1.1 C.1.2.1 dX2_priceOf_57 (lv_at hl 0 rfl) ?_
    refine lv_isub C.1.1 C.1.2.1 dX2_priceOf_59 ?_
    exact wB_X2_priceOf_60 C hr hlk q3 M L x1 x2 (q1 - q2) (1 : Int32) _ _ _ hw (lv_sub hl [2, 3, 4] rfl) hf
  · have hf := o_t hf c4
    refine lv_iload C.1.1 C.1.2.1 dX2_priceOf_49 (lv_at hl 0 rfl) ?_
    refine lv_iload_n C.1.1 C.1.2.1 dX2_priceOf_51 rfl (lv_at hl 1 rfl) ?_
    refine lv_isub C.1.1 C.1.2.1 dX2_priceOf_52 ?_
    refine lv_goto (tgt := 60) C.1.1 C.1.2.1 dX2_priceOf_53 (by decide) ?_
    exact wB_X2_priceOf_60 C hr hlk q3 M L x1 x2 (q2 - q1) (1 : Int32) _ _ _ hw (lv_sub hl [2, 3, 4] rfl) hf
end
/-! WinnerDraws$Council.choose(I)Z (('o', 'X', 33) ('i',)) -/
def B_X2_choose_124 (k_21 : TX → Int32 → Int32 → Int32 → Option (TX × Int32)) (k_45 : TX → Int32 → Int32 → Int32 → Int32 → Int32 → Option (TX × Int32)) (X : TX) (x1 : Int32) (x2 : Int32) (x3 : Int32) (x4 : Int32) (x5 : Int32) (x6 : Int32) (x7 : Int32) (t0 : Int32) : Option (TX × Int32) := if (X 3 7) < x7 then (k_45 X x1 x2 x3 x4 (x5 + (1 : Int32))) else (if (X 33 4) < x6 then (k_45 (u2 (u2 (u2 X 33 2 x3) 33 3 x5) 33 4 x6) x1 x7 x3 x4 (x5 + (1 : Int32))) else (if t0 = 0 then (k_45 X x1 x2 x3 x4 (x5 + (1 : Int32))) else (k_45 (u2 (u2 (u2 X 33 2 x3) 33 3 x5) 33 4 x6) x1 x7 x3 x4 (x5 + (1 : Int32)))))
def L_X2_choose_45 (k_21 : TX → Int32 → Int32 → Int32 → Option (TX × Int32)) : Nat → TX → Int32 → Int32 → Int32 → Int32 → Int32 → Option (TX × Int32)
  | 0 => fun _ _ _ _ _ _ => none
  | n + 1 => fun X x1 x2 x3 x4 x5 => if (4 : Int32) ≤ x5 then (k_21 X x1 x2 (x3 + (1 : Int32))) else ((f_X8_has x4 x5).bind fun q6 => if q6 = 0 then ((L_X2_choose_45 k_21 n) X x1 x2 x3 x4 (x5 + (1 : Int32))) else ((f_X3_marginIfPlaced X x1 x3 x5).bind fun q8 => if q8 < (X 33 4) then (if (X 33 2) = (-1 : Int32) then (B_X2_choose_124 k_21 (L_X2_choose_45 k_21 n) X x1 x2 x3 x4 x5 q8 (0 : Int32) (0 : Int32)) else (if q8 = (X 33 4) then (if x2 ≤ (0 : Int32) then (B_X2_choose_124 k_21 (L_X2_choose_45 k_21 n) X x1 x2 x3 x4 x5 q8 (0 : Int32) (0 : Int32)) else (B_X2_choose_124 k_21 (L_X2_choose_45 k_21 n) X x1 x2 x3 x4 x5 q8 (0 : Int32) (1 : Int32))) else (B_X2_choose_124 k_21 (L_X2_choose_45 k_21 n) X x1 x2 x3 x4 x5 q8 (0 : Int32) (0 : Int32)))) else ((f_X2_priceOf X x3 x5).bind fun q16 => if (q16.1 33 2) = (-1 : Int32) then (B_X2_choose_124 k_21 (L_X2_choose_45 k_21 n) q16.1 x1 x2 x3 x4 x5 q8 q16.2 (0 : Int32)) else (if q8 = (q16.1 33 4) then (if x2 ≤ q16.2 then (B_X2_choose_124 k_21 (L_X2_choose_45 k_21 n) q16.1 x1 x2 x3 x4 x5 q8 q16.2 (0 : Int32)) else (B_X2_choose_124 k_21 (L_X2_choose_45 k_21 n) q16.1 x1 x2 x3 x4 x5 q8 q16.2 (1 : Int32))) else (B_X2_choose_124 k_21 (L_X2_choose_45 k_21 n) q16.1 x1 x2 x3 x4 x5 q8 q16.2 (0 : Int32))))))
def L_X2_choose_21 : Nat → TX → Int32 → Int32 → Int32 → Option (TX × Int32)
  | 0 => fun _ _ _ _ => none
  | n + 1 => fun X x1 x2 x3 => if (X 3 5) ≤ x3 then (if (X 33 2) = (-1 : Int32) then (some (X, (0 : Int32))) else (some (X, (1 : Int32)))) else ((f_X3_openWards X x3).bind fun q4 => L_X2_choose_45 (L_X2_choose_21 n) FU X x1 x2 x3 q4 (0 : Int32))
def f_X2_choose (X : TX) (x1 : Int32) : Option (TX × Int32) := (f_X3_margin (u2 X 33 2 (-1 : Int32)) x1).bind fun q1 => L_X2_choose_21 FU (u2 (u2 X 33 2 (-1 : Int32)) 33 4 q1) x1 (0 : Int32) (0 : Int32)
section
variable {G : GP} {l : Launch}
set_option maxRecDepth 20000 in
set_option maxHeartbeats 2000000 in
theorem wB_X2_choose_124 {p : Program} {e : Env} {s : State} {m : MethodId} {args : Array Value} {below : List Frame} {meth : Method} {c : Code} (C : Cx G p s m args c cX2_choose 9 RX2) (hr : meth.sig.returnType = (some .boolean)) (hlk : meth.locks = false) {ro : TX × Int32} {k_21 : TX → Int32 → Int32 → Int32 → Option (TX × Int32)} (hk_21 : ∀ (X : TX) (M : TX) (L : TL) (x1 : Int32) (x2 : Int32) (x3 : Int32) (H : Heap) (locs : List Loc) (ls : Array Slot), Wh G s X M L H locs → lv_has ls 9 [(0, .ref (gA G 33)), (1, .int x1), (2, .int x2), (3, .int x3)] → k_21 X x1 x2 x3 = some ro → W p l e (rz 4 99) s m args below meth c H locs 0 0 (MQ below (Di G ro.1 M L ro.2) args s 0 0 (AB G)) (F0 m 21 ls [])) {k_45 : TX → Int32 → Int32 → Int32 → Int32 → Int32 → Option (TX × Int32)} (hk_45 : ∀ (X : TX) (M : TX) (L : TL) (x1 : Int32) (x2 : Int32) (x3 : Int32) (x4 : Int32) (x5 : Int32) (H : Heap) (locs : List Loc) (ls : Array Slot), Wh G s X M L H locs → lv_has ls 9 [(0, .ref (gA G 33)), (1, .int x1), (2, .int x2), (3, .int x3), (4, .int x4), (5, .int x5)] → k_45 X x1 x2 x3 x4 x5 = some ro → W p l e (rz 4 99) s m args below meth c H locs 0 0 (MQ below (Di G ro.1 M L ro.2) args s 0 0 (AB G)) (F0 m 45 ls [])) : ∀ (X : TX) (M : TX) (L : TL) (x1 : Int32) (x2 : Int32) (x3 : Int32) (x4 : Int32) (x5 : Int32) (x6 : Int32) (x7 : Int32) (t0 : Int32) (H : Heap) (locs : List Loc) (ls : Array Slot), Wh G s X M L H locs → lv_has ls 9 [(0, .ref (gA G 33)), (1, .int x1), (2, .int x2), (3, .int x3), (4, .int x4), (5, .int x5), (6, .int x6), (7, .int x7)] → B_X2_choose_124 k_21 k_45 X x1 x2 x3 x4 x5 x6 x7 t0 = some ro → W p l e (rz 4 99) s m args below meth c H locs 0 0 (MQ below (Di G ro.1 M L ro.2) args s 0 0 (AB G)) (F0 m 124 ls [.int t0]) := by
  intro X M L x1 x2 x3 x4 x5 x6 x7 t0 H locs ls hw hl hf
  unfold B_X2_choose_124 at hf
  refine lv_istore (lv' := [(8, .int t0), (0, .ref (gA G 33)), (1, .int x1), (2, .int x2), (3, .int x3), (4, .int x4), (5, .int x5), (6, .int x6), (7, .int x7)]) C.1.1 C.1.2.1 dX2_choose_124 hl (by decide) rfl (fun ls hl => ?_)
  refine lv_iload C.1.1 C.1.2.1 dX2_choose_126 (lv_at hl 8 rfl) ?_
  refine lv_aload_n C.1.1 C.1.2.1 dX2_choose_128 rfl (lv_at hl 1 rfl) ?_
  refine x_ref C hw fX_33_0 flX2_21 dX2_choose_129 ?_
  refine x_get C hw iX_3_7 flX2_59 dX2_choose_132 ?_
  refine lv_icmp_gt (tgt := 172) C.1.1 C.1.2.1 dX2_choose_135 (by decide) (fun c11 => ?_) (fun c11 => ?_)
  · have hf := o_t hf c11
    refine lv_iinc (v := (x5 + (1 : Int32))) (lv' := [(5, .int (x5 + (1 : Int32))), (8, .int t0), (0, .ref (gA G 33)), (1, .int x1), (2, .int x2), (3, .int x3), (4, .int x4), (6, .int x6), (7, .int x7)]) C.1.1 C.1.2.1 dX2_choose_172 hl (k := 6) rfl rfl (by decide) rfl (fun ls hl => ?_)
    refine lv_goto (tgt := 45) C.1.1 C.1.2.1 dX2_choose_175 (by decide) ?_
    exact hk_45 X M L x1 x2 x3 x4 (x5 + (1 : Int32)) _ _ _ hw (lv_sub hl [2, 3, 4, 5, 6, 0] rfl) hf
  · have hf := o_f hf c11
    refine lv_iload C.1.1 C.1.2.1 dX2_choose_138 (lv_at hl 7 rfl) ?_
    refine lv_aload_n C.1.1 C.1.2.1 dX2_choose_140 rfl (lv_at hl 1 rfl) ?_
    refine x_get C hw iX_33_4 flX2_18 dX2_choose_141 ?_
    refine lv_icmp_gt (tgt := 152) C.1.1 C.1.2.1 dX2_choose_144 (by decide) (fun c12 => ?_) (fun c12 => ?_)
    · have hf := o_t hf c12
      refine lv_aload_n C.1.1 C.1.2.1 dX2_choose_152 rfl (lv_at hl 1 rfl) ?_
      refine lv_iload_n C.1.1 C.1.2.1 dX2_choose_153 rfl (lv_at hl 4 rfl) ?_
      refine x_put C hw iX_33_2 flX2_9 dX2_choose_154 (fun H locs hw => ?_)
      refine lv_aload_n C.1.1 C.1.2.1 dX2_choose_157 rfl (lv_at hl 1 rfl) ?_
      refine lv_iload C.1.1 C.1.2.1 dX2_choose_158 (lv_at hl 6 rfl) ?_
      refine x_put C hw iX_33_3 flX2_15 dX2_choose_160 (fun H locs hw => ?_)
      refine lv_aload_n C.1.1 C.1.2.1 dX2_choose_163 rfl (lv_at hl 1 rfl) ?_
      refine lv_iload C.1.1 C.1.2.1 dX2_choose_164 (lv_at hl 7 rfl) ?_
      refine x_put C hw iX_33_4 flX2_18 dX2_choose_166 (fun H locs hw => ?_)
      refine lv_iload C.1.1 C.1.2.1 dX2_choose_169 (lv_at hl 8 rfl) ?_
      refine lv_istore_n (lv' := [(2, .int x7), (8, .int t0), (0, .ref (gA G 33)), (1, .int x1), (3, .int x3), (4, .int x4), (5, .int x5), (6, .int x6), (7, .int x7)]) C.1.1 C.1.2.1 dX2_choose_171 rfl hl (by decide) rfl (fun ls hl => ?_)
      refine lv_iinc (v := (x5 + (1 : Int32))) (lv' := [(5, .int (x5 + (1 : Int32))), (2, .int x7), (8, .int t0), (0, .ref (gA G 33)), (1, .int x1), (3, .int x3), (4, .int x4), (6, .int x6), (7, .int x7)]) C.1.1 C.1.2.1 dX2_choose_172 hl (k := 6) rfl rfl (by decide) rfl (fun ls hl => ?_)
      refine lv_goto (tgt := 45) C.1.1 C.1.2.1 dX2_choose_175 (by decide) ?_
      exact hk_45 (u2 (u2 (u2 X 33 2 x3) 33 3 x5) 33 4 x6) M L x1 x7 x3 x4 (x5 + (1 : Int32)) _ _ _ hw (lv_sub hl [3, 4, 1, 5, 6, 0] rfl) hf
    · have hf := o_f hf c12
      refine lv_iload C.1.1 C.1.2.1 dX2_choose_147 (lv_at hl 0 rfl) ?_
      refine lv_if_eq (tgt := 172) C.1.1 C.1.2.1 dX2_choose_149 (by decide) (fun c13 => ?_) (fun c13 => ?_)
      · have hf := o_t hf c13
        refine lv_iinc (v := (x5 + (1 : Int32))) (lv' := [(5, .int (x5 + (1 : Int32))), (8, .int t0), (0, .ref (gA G 33)), (1, .int x1), (2, .int x2), (3, .int x3), (4, .int x4), (6, .int x6), (7, .int x7)]) C.1.1 C.1.2.1 dX2_choose_172 hl (k := 6) rfl rfl (by decide) rfl (fun ls hl => ?_)
        refine lv_goto (tgt := 45) C.1.1 C.1.2.1 dX2_choose_175 (by decide) ?_
        exact hk_45 X M L x1 x2 x3 x4 (x5 + (1 : Int32)) _ _ _ hw (lv_sub hl [2, 3, 4, 5, 6, 0] rfl) hf
      · have hf := o_f hf c13
        refine lv_aload_n C.1.1 C.1.2.1 dX2_choose_152 rfl (lv_at hl 1 rfl) ?_
        refine lv_iload_n C.1.1 C.1.2.1 dX2_choose_153 rfl (lv_at hl 4 rfl) ?_
        refine x_put C hw iX_33_2 flX2_9 dX2_choose_154 (fun H locs hw => ?_)
        refine lv_aload_n C.1.1 C.1.2.1 dX2_choose_157 rfl (lv_at hl 1 rfl) ?_
        refine lv_iload C.1.1 C.1.2.1 dX2_choose_158 (lv_at hl 6 rfl) ?_
        refine x_put C hw iX_33_3 flX2_15 dX2_choose_160 (fun H locs hw => ?_)
        refine lv_aload_n C.1.1 C.1.2.1 dX2_choose_163 rfl (lv_at hl 1 rfl) ?_
        refine lv_iload C.1.1 C.1.2.1 dX2_choose_164 (lv_at hl 7 rfl) ?_
        refine x_put C hw iX_33_4 flX2_18 dX2_choose_166 (fun H locs hw => ?_)
        refine lv_iload C.1.1 C.1.2.1 dX2_choose_169 (lv_at hl 8 rfl) ?_
        refine lv_istore_n (lv' := [(2, .int x7), (8, .int t0), (0, .ref (gA G 33)), (1, .int x1), (3, .int x3), (4, .int x4), (5, .int x5), (6, .int x6), (7, .int x7)]) C.1.1 C.1.2.1 dX2_choose_171 rfl hl (by decide) rfl (fun ls hl => ?_)
        refine lv_iinc (v := (x5 + (1 : Int32))) (lv' := [(5, .int (x5 + (1 : Int32))), (2, .int x7), (8, .int t0), (0, .ref (gA G 33)), (1, .int x1), (3, .int x3), (4, .int x4), (6, .int x6), (7, .int x7)]) C.1.1 C.1.2.1 dX2_choose_172 hl (k := 6) rfl rfl (by decide) rfl (fun ls hl => ?_)
        refine lv_goto (tgt := 45) C.1.1 C.1.2.1 dX2_choose_175 (by decide) ?_
        exact hk_45 (u2 (u2 (u2 X 33 2 x3) 33 3 x5) 33 4 x6) M L x1 x7 x3 x4 (x5 + (1 : Int32)) _ _ _ hw (lv_sub hl [3, 4, 1, 5, 6, 0] rfl) hf
set_option maxRecDepth 20000 in
set_option maxHeartbeats 2000000 in
theorem wL_X2_choose_45 {p : Program} {e : Env} {s : State} {m : MethodId} {args : Array Value} {below : List Frame} {meth : Method} {c : Code} (C : Cx G p s m args c cX2_choose 9 RX2) (hr : meth.sig.returnType = (some .boolean)) (hlk : meth.locks = false) {ro : TX × Int32} {k_21 : TX → Int32 → Int32 → Int32 → Option (TX × Int32)} (hk_21 : ∀ (X : TX) (M : TX) (L : TL) (x1 : Int32) (x2 : Int32) (x3 : Int32) (H : Heap) (locs : List Loc) (ls : Array Slot), Wh G s X M L H locs → lv_has ls 9 [(0, .ref (gA G 33)), (1, .int x1), (2, .int x2), (3, .int x3)] → k_21 X x1 x2 x3 = some ro → W p l e (rz 4 99) s m args below meth c H locs 0 0 (MQ below (Di G ro.1 M L ro.2) args s 0 0 (AB G)) (F0 m 21 ls [])) : ∀ (n : Nat), ∀ (X : TX) (M : TX) (L : TL) (x1 : Int32) (x2 : Int32) (x3 : Int32) (x4 : Int32) (x5 : Int32) (H : Heap) (locs : List Loc) (ls : Array Slot), Wh G s X M L H locs → lv_has ls 9 [(0, .ref (gA G 33)), (1, .int x1), (2, .int x2), (3, .int x3), (4, .int x4), (5, .int x5)] → L_X2_choose_45 k_21 n X x1 x2 x3 x4 x5 = some ro → W p l e (rz 4 99) s m args below meth c H locs 0 0 (MQ below (Di G ro.1 M L ro.2) args s 0 0 (AB G)) (F0 m 45 ls []) := by
  intro n
  induction n with
  | zero =>
    intro X M L x1 x2 x3 x4 x5 H locs ls hw hl hf
    cases hf
  | succ n hk_45 =>
    intro X M L x1 x2 x3 x4 x5 H locs ls hw hl hf
    rw [L_X2_choose_45] at hf
    refine lv_iload C.1.1 C.1.2.1 dX2_choose_45 (lv_at hl 5 rfl) ?_
    refine lv_iconst (v := (4 : Int32)) C.1.1 C.1.2.1 dX2_choose_47 rfl ?_
    refine lv_icmp_ge (tgt := 178) C.1.1 C.1.2.1 dX2_choose_48 (by decide) (fun c5 => ?_) (fun c5 => ?_)
    · have hf := o_t hf c5
      refine lv_iinc (v := (x3 + (1 : Int32))) (lv' := [(3, .int (x3 + (1 : Int32))), (0, .ref (gA G 33)), (1, .int x1), (2, .int x2), (4, .int x4), (5, .int x5)]) C.1.1 C.1.2.1 dX2_choose_178 hl (k := 3) rfl rfl (by decide) rfl (fun ls hl => ?_)
      refine lv_goto (tgt := 21) C.1.1 C.1.2.1 dX2_choose_181 (by decide) ?_
      exact hk_21 X M L x1 x2 (x3 + (1 : Int32)) _ _ _ hw (lv_sub hl [1, 2, 3, 0] rfl) hf
    · have hf := o_f hf c5
      refine lv_iload C.1.1 C.1.2.1 dX2_choose_51 (lv_at hl 4 rfl) ?_
      refine lv_iload C.1.1 C.1.2.1 dX2_choose_53 (lv_at hl 5 rfl) ?_
      obtain ⟨q6, h6, hf⟩ := o_bind hf
      refine aft_i hw (run_S C hw clX2_52 (As := [.int x4, .int x5]) (rest := []) (c_X8_has h6) hl.1 rfl ⟨(Nat.le_of_ble_eq_true rfl), (Nat.le_of_ble_eq_true rfl)⟩ ⟨Nat.zero_le _, Nat.zero_le _⟩ rfl (Nat.le_of_ble_eq_true rfl) dX2_choose_55) (fun H locs hw => ?_)
      refine lv_if_eq (tgt := 172) C.1.1 C.1.2.1 dX2_choose_58 (by decide) (fun c7 => ?_) (fun c7 => ?_)
      · have hf := o_t hf c7
        refine lv_iinc (v := (x5 + (1 : Int32))) (lv' := [(5, .int (x5 + (1 : Int32))), (0, .ref (gA G 33)), (1, .int x1), (2, .int x2), (3, .int x3), (4, .int x4)]) C.1.1 C.1.2.1 dX2_choose_172 hl (k := 5) rfl rfl (by decide) rfl (fun ls hl => ?_)
        refine lv_goto (tgt := 45) C.1.1 C.1.2.1 dX2_choose_175 (by decide) ?_
        exact hk_45 X M L x1 x2 x3 x4 (x5 + (1 : Int32)) _ _ _ hw (lv_sub hl [1, 2, 3, 4, 5, 0] rfl) hf
      · have hf := o_f hf c7
        refine lv_aload_n C.1.1 C.1.2.1 dX2_choose_61 rfl (lv_at hl 0 rfl) ?_
        refine x_ref C hw fX_33_0 flX2_21 dX2_choose_62 ?_
        refine lv_iload_n C.1.1 C.1.2.1 dX2_choose_65 rfl (lv_at hl 1 rfl) ?_
        refine lv_iload_n C.1.1 C.1.2.1 dX2_choose_66 rfl (lv_at hl 3 rfl) ?_
        refine lv_iload C.1.1 C.1.2.1 dX2_choose_67 (lv_at hl 5 rfl) ?_
        obtain ⟨q8, h8, hf⟩ := o_bind hf
        refine aft_i hw (run_VX C hw clX2_108 (As := [.int x1, .int x3, .int x5]) (rest := []) oX_3 (c_X3_marginIfPlaced h8) rfl hl.1 rfl ⟨(Nat.le_of_ble_eq_true rfl), (Nat.le_of_ble_eq_true rfl)⟩ ⟨Nat.zero_le _, Nat.zero_le _⟩ rfl (Nat.le_of_ble_eq_true rfl) dX2_choose_69) (fun H locs hw => ?_)
        refine lv_istore (lv' := [(6, .int q8), (0, .ref (gA G 33)), (1, .int x1), (2, .int x2), (3, .int x3), (4, .int x4), (5, .int x5)]) C.1.1 C.1.2.1 dX2_choose_72 hl (by decide) rfl (fun ls hl => ?_)
        refine lv_iload C.1.1 C.1.2.1 dX2_choose_74 (lv_at hl 0 rfl) ?_
        refine lv_aload_n C.1.1 C.1.2.1 dX2_choose_76 rfl (lv_at hl 1 rfl) ?_
        refine x_get C hw iX_33_4 flX2_18 dX2_choose_77 ?_
        refine lv_icmp_lt (tgt := 93) C.1.1 C.1.2.1 dX2_choose_80 (by decide) (fun c9 => ?_) (fun c9 => ?_)
        · have hf := o_t hf c9
          refine lv_iconst (v := (0 : Int32)) C.1.1 C.1.2.1 dX2_choose_93 rfl ?_
          refine lv_istore (lv' := [(7, .int (0 : Int32)), (6, .int q8), (0, .ref (gA G 33)), (1, .int x1), (2, .int x2), (3, .int x3), (4, .int x4), (5, .int x5)]) C.1.1 C.1.2.1 dX2_choose_94 hl (by decide) rfl (fun ls hl => ?_)
          refine lv_aload_n C.1.1 C.1.2.1 dX2_choose_96 rfl (lv_at hl 2 rfl) ?_
          refine x_get C hw iX_33_2 flX2_9 dX2_choose_97 ?_
          refine lv_iconst (v := (-1 : Int32)) C.1.1 C.1.2.1 dX2_choose_100 rfl ?_
          refine lv_icmp_eq (tgt := 123) C.1.1 C.1.2.1 dX2_choose_101 (by decide) (fun c10 => ?_) (fun c10 => ?_)
          · have hf := o_t hf c10
            refine lv_iconst (v := (0 : Int32)) C.1.1 C.1.2.1 dX2_choose_123 rfl ?_
            exact wB_X2_choose_124 C hr hlk hk_21 hk_45 X M L x1 x2 x3 x4 x5 q8 (0 : Int32) (0 : Int32) _ _ _ hw (lv_sub hl [2, 3, 4, 5, 6, 7, 1, 0] rfl) hf
          · have hf := o_f hf c10
            refine lv_iload C.1.1 C.1.2.1 dX2_choose_104 (lv_at hl 1 rfl) ?_
            refine lv_aload_n C.1.1 C.1.2.1 dX2_choose_106 rfl (lv_at hl 2 rfl) ?_
            refine x_get C hw iX_33_4 flX2_18 dX2_choose_107 ?_
            refine lv_icmp_ne (tgt := 123) C.1.1 C.1.2.1 dX2_choose_110 (by decide) (fun c14 => ?_) (fun c14 => ?_)
            · have hf := o_f hf c14
              refine lv_iconst (v := (0 : Int32)) C.1.1 C.1.2.1 dX2_choose_123 rfl ?_
              exact wB_X2_choose_124 C hr hlk hk_21 hk_45 X M L x1 x2 x3 x4 x5 q8 (0 : Int32) (0 : Int32) _ _ _ hw (lv_sub hl [2, 3, 4, 5, 6, 7, 1, 0] rfl) hf
            · have hf := o_t hf c14
              refine lv_iload C.1.1 C.1.2.1 dX2_choose_113 (lv_at hl 0 rfl) ?_
              refine lv_iload_n C.1.1 C.1.2.1 dX2_choose_115 rfl (lv_at hl 4 rfl) ?_
              refine lv_icmp_ge (tgt := 123) C.1.1 C.1.2.1 dX2_choose_116 (by decide) (fun c15 => ?_) (fun c15 => ?_)
              · have hf := o_t hf c15
                refine lv_iconst (v := (0 : Int32)) C.1.1 C.1.2.1 dX2_choose_123 rfl ?_
                exact wB_X2_choose_124 C hr hlk hk_21 hk_45 X M L x1 x2 x3 x4 x5 q8 (0 : Int32) (0 : Int32) _ _ _ hw (lv_sub hl [2, 3, 4, 5, 6, 7, 1, 0] rfl) hf
              · have hf := o_f hf c15
                refine lv_iconst (v := (1 : Int32)) C.1.1 C.1.2.1 dX2_choose_119 rfl ?_
                refine lv_goto (tgt := 124) C.1.1 C.1.2.1 dX2_choose_120 (by decide) ?_
                exact wB_X2_choose_124 C hr hlk hk_21 hk_45 X M L x1 x2 x3 x4 x5 q8 (0 : Int32) (1 : Int32) _ _ _ hw (lv_sub hl [2, 3, 4, 5, 6, 7, 1, 0] rfl) hf
        · have hf := o_f hf c9
          refine lv_aload_n C.1.1 C.1.2.1 dX2_choose_83 rfl (lv_at hl 1 rfl) ?_
          refine lv_iload_n C.1.1 C.1.2.1 dX2_choose_84 rfl (lv_at hl 4 rfl) ?_
          refine lv_iload C.1.1 C.1.2.1 dX2_choose_85 (lv_at hl 6 rfl) ?_
          obtain ⟨q16, h16, hf⟩ := o_bind hf
          refine aft_i hw (run_VX C hw clX2_55 (As := [.int x3, .int x5]) (rest := []) oX_33 (c_X2_priceOf h16) rfl hl.1 rfl ⟨(Nat.le_of_ble_eq_true rfl), (Nat.le_of_ble_eq_true rfl)⟩ ⟨Nat.zero_le _, Nat.zero_le _⟩ rfl (Nat.le_of_ble_eq_true rfl) dX2_choose_87) (fun H locs hw => ?_)
          refine lv_goto (tgt := 94) C.1.1 C.1.2.1 dX2_choose_90 (by decide) ?_
          refine lv_istore (lv' := [(7, .int q16.2), (6, .int q8), (0, .ref (gA G 33)), (1, .int x1), (2, .int x2), (3, .int x3), (4, .int x4), (5, .int x5)]) C.1.1 C.1.2.1 dX2_choose_94 hl (by decide) rfl (fun ls hl => ?_)
          refine lv_aload_n C.1.1 C.1.2.1 dX2_choose_96 rfl (lv_at hl 2 rfl) ?_
          refine x_get C hw iX_33_2 flX2_9 dX2_choose_97 ?_
          refine lv_iconst (v := (-1 : Int32)) C.1.1 C.1.2.1 dX2_choose_100 rfl ?_
          refine lv_icmp_eq (tgt := 123) C.1.1 C.1.2.1 dX2_choose_101 (by decide) (fun c17 => ?_) (fun c17 => ?_)
          · have hf := o_t hf c17
            refine lv_iconst (v := (0 : Int32)) C.1.1 C.1.2.1 dX2_choose_123 rfl ?_
            exact wB_X2_choose_124 C hr hlk hk_21 hk_45 q16.1 M L x1 x2 x3 x4 x5 q8 q16.2 (0 : Int32) _ _ _ hw (lv_sub hl [2, 3, 4, 5, 6, 7, 1, 0] rfl) hf
          · have hf := o_f hf c17
            refine lv_iload C.1.1 C.1.2.1 dX2_choose_104 (lv_at hl 1 rfl) ?_
            refine lv_aload_n C.1.1 C.1.2.1 dX2_choose_106 rfl (lv_at hl 2 rfl) ?_
            refine x_get C hw iX_33_4 flX2_18 dX2_choose_107 ?_
            refine lv_icmp_ne (tgt := 123) C.1.1 C.1.2.1 dX2_choose_110 (by decide) (fun c18 => ?_) (fun c18 => ?_)
            · have hf := o_f hf c18
              refine lv_iconst (v := (0 : Int32)) C.1.1 C.1.2.1 dX2_choose_123 rfl ?_
              exact wB_X2_choose_124 C hr hlk hk_21 hk_45 q16.1 M L x1 x2 x3 x4 x5 q8 q16.2 (0 : Int32) _ _ _ hw (lv_sub hl [2, 3, 4, 5, 6, 7, 1, 0] rfl) hf
            · have hf := o_t hf c18
              refine lv_iload C.1.1 C.1.2.1 dX2_choose_113 (lv_at hl 0 rfl) ?_
              refine lv_iload_n C.1.1 C.1.2.1 dX2_choose_115 rfl (lv_at hl 4 rfl) ?_
              refine lv_icmp_ge (tgt := 123) C.1.1 C.1.2.1 dX2_choose_116 (by decide) (fun c19 => ?_) (fun c19 => ?_)
              · have hf := o_t hf c19
                refine lv_iconst (v := (0 : Int32)) C.1.1 C.1.2.1 dX2_choose_123 rfl ?_
                exact wB_X2_choose_124 C hr hlk hk_21 hk_45 q16.1 M L x1 x2 x3 x4 x5 q8 q16.2 (0 : Int32) _ _ _ hw (lv_sub hl [2, 3, 4, 5, 6, 7, 1, 0] rfl) hf
              · have hf := o_f hf c19
                refine lv_iconst (v := (1 : Int32)) C.1.1 C.1.2.1 dX2_choose_119 rfl ?_
                refine lv_goto (tgt := 124) C.1.1 C.1.2.1 dX2_choose_120 (by decide) ?_
                exact wB_X2_choose_124 C hr hlk hk_21 hk_45 q16.1 M L x1 x2 x3 x4 x5 q8 q16.2 (1 : Int32) _ _ _ hw (lv_sub hl [2, 3, 4, 5, 6, 7, 1, 0] rfl) hf
set_option maxRecDepth 20000 in
set_option maxHeartbeats 2000000 in
theorem wL_X2_choose_21 {p : Program} {e : Env} {s : State} {m : MethodId} {args : Array Value} {below : List Frame} {meth : Method} {c : Code} (C : Cx G p s m args c cX2_choose 9 RX2) (hr : meth.sig.returnType = (some .boolean)) (hlk : meth.locks = false) {ro : TX × Int32} : ∀ (n : Nat), ∀ (X : TX) (M : TX) (L : TL) (x1 : Int32) (x2 : Int32) (x3 : Int32) (H : Heap) (locs : List Loc) (ls : Array Slot), Wh G s X M L H locs → lv_has ls 9 [(0, .ref (gA G 33)), (1, .int x1), (2, .int x2), (3, .int x3)] → L_X2_choose_21 n X x1 x2 x3 = some ro → W p l e (rz 4 99) s m args below meth c H locs 0 0 (MQ below (Di G ro.1 M L ro.2) args s 0 0 (AB G)) (F0 m 21 ls []) := by
  intro n
  induction n with
  | zero =>
    intro X M L x1 x2 x3 H locs ls hw hl hf
    cases hf
  | succ n hk_21 =>
    intro X M L x1 x2 x3 H locs ls hw hl hf
    rw [L_X2_choose_21] at hf
    refine lv_iload_n C.1.1 C.1.2.1 dX2_choose_21 rfl (lv_at hl 3 rfl) ?_
    refine lv_aload_n C.1.1 C.1.2.1 dX2_choose_22 rfl (lv_at hl 0 rfl) ?_
    refine x_ref C hw fX_33_0 flX2_21 dX2_choose_23 ?_
    refine x_get C hw iX_3_5 flX2_105 dX2_choose_26 ?_
    refine lv_icmp_ge (tgt := 184) C.1.1 C.1.2.1 dX2_choose_29 (by decide) (fun c2 => ?_) (fun c2 => ?_)
    · have hf := o_t hf c2
      refine lv_aload_n C.1.1 C.1.2.1 dX2_choose_184 rfl (lv_at hl 0 rfl) ?_
      refine x_get C hw iX_33_2 flX2_9 dX2_choose_185 ?_
      refine lv_iconst (v := (-1 : Int32)) C.1.1 C.1.2.1 dX2_choose_188 rfl ?_
      refine lv_icmp_eq (tgt := 196) C.1.1 C.1.2.1 dX2_choose_189 (by decide) (fun c3 => ?_) (fun c3 => ?_)
      · have hf := o_t hf c3
        refine lv_iconst (v := (0 : Int32)) C.1.1 C.1.2.1 dX2_choose_196 rfl ?_
        obtain rfl := Option.some.inj hf
        exact ret_z (r := (0 : Int32)) C hr hlk hw rfl dX2_choose_197
      · have hf := o_f hf c3
        refine lv_iconst (v := (1 : Int32)) C.1.1 C.1.2.1 dX2_choose_192 rfl ?_
        refine lv_goto (tgt := 197) C.1.1 C.1.2.1 dX2_choose_193 (by decide) ?_
        obtain rfl := Option.some.inj hf
        exact ret_z (r := (1 : Int32)) C hr hlk hw rfl dX2_choose_197
    · have hf := o_f hf c2
      refine lv_aload_n C.1.1 C.1.2.1 dX2_choose_32 rfl (lv_at hl 0 rfl) ?_
      refine x_ref C hw fX_33_0 flX2_21 dX2_choose_33 ?_
      refine lv_iload_n C.1.1 C.1.2.1 dX2_choose_36 rfl (lv_at hl 3 rfl) ?_
      obtain ⟨q4, h4, hf⟩ := o_bind hf
      refine aft_i hw (run_VX C hw clX2_48 (As := [.int x3]) (rest := []) oX_3 (c_X3_openWards h4) rfl hl.1 rfl ⟨(Nat.le_of_ble_eq_true rfl), (Nat.le_of_ble_eq_true rfl)⟩ ⟨Nat.zero_le _, Nat.zero_le _⟩ rfl (Nat.le_of_ble_eq_true rfl) dX2_choose_37) (fun H locs hw => ?_)
      refine lv_istore (lv' := [(4, .int q4), (0, .ref (gA G 33)), (1, .int x1), (2, .int x2), (3, .int x3)]) C.1.1 C.1.2.1 dX2_choose_40 hl (by decide) rfl (fun ls hl => ?_)
      refine lv_iconst (v := (0 : Int32)) C.1.1 C.1.2.1 dX2_choose_42 rfl ?_
      refine lv_istore (lv' := [(5, .int (0 : Int32)), (4, .int q4), (0, .ref (gA G 33)), (1, .int x1), (2, .int x2), (3, .int x3)]) C.1.1 C.1.2.1 dX2_choose_43 hl (by decide) rfl (fun ls hl => ?_)
      exact wL_X2_choose_45 C hr hlk hk_21 FU X M L x1 x2 x3 q4 (0 : Int32) _ _ _ hw (lv_sub hl [2, 3, 4, 5, 1, 0] rfl) hf
set_option maxRecDepth 20000 in
set_option maxHeartbeats 2000000 in
theorem c_X2_choose   {X M : TX} {L : TL} {x1 : Int32} {ro : TX × Int32} (hf : f_X2_choose X x1 = some ro) : CTi G l yX2_choose cX2_choose 9 (some .boolean) 4 99 [.ref (gA G 33), .int x1] X M L ro.1 M L ro.2 := by
  unfold f_X2_choose at hf
  refine ct_of (by decide +kernel) (Nat.le_of_ble_eq_true rfl) (fun p e s m args below meth c H locs ls C hr hlk hw hl => ?_)
  have C : Cx G p s m args c cX2_choose 9 RX2 := C
  have hl : lv_has ls 9 [(0, .ref (gA G 33)), (1, .int x1)] := hl
  refine lv_aload_n C.1.1 C.1.2.1 dX2_choose_0 rfl (lv_at hl 0 rfl) ?_
  refine lv_iconst (v := (-1 : Int32)) C.1.1 C.1.2.1 dX2_choose_1 rfl ?_
  refine x_put C hw iX_33_2 flX2_9 dX2_choose_2 (fun H locs hw => ?_)
  refine lv_aload_n C.1.1 C.1.2.1 dX2_choose_5 rfl (lv_at hl 0 rfl) ?_
  refine lv_aload_n C.1.1 C.1.2.1 dX2_choose_6 rfl (lv_at hl 0 rfl) ?_
  refine x_ref C hw fX_33_0 flX2_21 dX2_choose_7 ?_
  refine lv_iload_n C.1.1 C.1.2.1 dX2_choose_10 rfl (lv_at hl 1 rfl) ?_
  obtain ⟨q1, h1, hf⟩ := o_bind hf
  refine aft_i hw (run_VX C hw clX2_102 (As := [.int x1]) (rest := [.ref (gA G 33)]) oX_3 (c_X3_margin h1) rfl hl.1 rfl ⟨(Nat.le_of_ble_eq_true rfl), (Nat.le_of_ble_eq_true rfl)⟩ ⟨Nat.zero_le _, Nat.zero_le _⟩ rfl (Nat.le_of_ble_eq_true rfl) dX2_choose_11) (fun H locs hw => ?_)
  refine x_put C hw iX_33_4 flX2_18 dX2_choose_14 (fun H locs hw => ?_)
  refine lv_iconst (v := (0 : Int32)) C.1.1 C.1.2.1 dX2_choose_17 rfl ?_
  refine lv_istore_n (lv' := [(2, .int (0 : Int32)), (0, .ref (gA G 33)), (1, .int x1)]) C.1.1 C.1.2.1 dX2_choose_18 rfl hl (by decide) rfl (fun ls hl => ?_)
  refine lv_iconst (v := (0 : Int32)) C.1.1 C.1.2.1 dX2_choose_19 rfl ?_
  refine lv_istore_n (lv' := [(3, .int (0 : Int32)), (2, .int (0 : Int32)), (0, .ref (gA G 33)), (1, .int x1)]) C.1.1 C.1.2.1 dX2_choose_20 rfl hl (by decide) rfl (fun ls hl => ?_)
  exact wL_X2_choose_21 C hr hlk FU (u2 (u2 X 33 2 (-1 : Int32)) 33 4 q1) M L x1 (0 : Int32) (0 : Int32) _ _ _ hw (lv_sub hl [2, 3, 1, 0] rfl) hf
end
/-! WinnerDraws$County.place(II)V (('o', 'X', 3) ('i',) ('i',)) -/
def f_X3_place (X : TX) (x1 : Int32) (x2 : Int32) : Option (TX) := (f_X8_at 4 X x1).bind fun q1 => (f_X8_at 5 X x1).bind fun q2 => (f_X8_at 5 X ((10 : Int32) + x1)).bind fun q3 => (f_X8_at 9 X q1).bind fun q4 => (f_X8_put 9 X q1 (q4 &&& (((1 : Int32) <<< (x1 &&& 31)) ^^^ (-1 : Int32)))).bind fun q5 => (f_X8_at 10 q5 q1).bind fun q6 => (f_X8_put 10 q5 q1 (q6 - (q2 - q3))).bind fun q7 => (f_X8_at 9 q7 x2).bind fun q8 => (f_X8_put 9 q7 x2 (q8 ||| ((1 : Int32) <<< (x1 &&& 31)))).bind fun q9 => (f_X8_at 10 q9 x2).bind fun q10 => (f_X8_put 10 q9 x2 (q10 + (q2 - q3))).bind fun q11 => (f_X8_put 4 q11 x1 x2).bind fun q12 => some q12
section
variable {G : GP} {l : Launch}
set_option maxRecDepth 20000 in
set_option maxHeartbeats 2000000 in
theorem c_X3_place   {X M : TX} {L : TL} {x1 : Int32} {x2 : Int32} {ro : TX} (hf : f_X3_place X x1 x2 = some ro) : CTv G l yX3_place cX3_place 5 none 1 22 [.ref (gA G 3), .int x1, .int x2] X M L ro M L := by
  unfold f_X3_place at hf
  refine ct_of (by decide +kernel) (Nat.le_of_ble_eq_true rfl) (fun p e s m args below meth c H locs ls C hr hlk hw hl => ?_)
  have C : Cx G p s m args c cX3_place 5 RX3 := C
  have hl : lv_has ls 5 [(0, .ref (gA G 3)), (1, .int x1), (2, .int x2)] := hl
  refine lv_aload_n C.1.1 C.1.2.1 dX3_place_0 rfl (lv_at hl 0 rfl) ?_
  refine x_ref C hw fX_3_0 flX3_9 dX3_place_1 ?_
  refine lv_iload_n C.1.1 C.1.2.1 dX3_place_4 rfl (lv_at hl 1 rfl) ?_
  obtain ⟨q1, h1, hf⟩ := o_bind hf
  refine aft_i hw (run_S C hw clX3_66 (As := [.ref (gA G 4), .int x1]) (rest := []) (c_X8_at aX_4 h1) hl.1 rfl ⟨(Nat.le_of_ble_eq_true rfl), (Nat.le_of_ble_eq_true rfl)⟩ ⟨Nat.zero_le _, Nat.zero_le _⟩ rfl (Nat.le_of_ble_eq_true rfl) dX3_place_5) (fun H locs hw => ?_)
  refine lv_istore_n (lv' := [(3, .int q1), (0, .ref (gA G 3)), (1, .int x1), (2, .int x2)]) C.1.1 C.1.2.1 dX3_place_8 rfl hl (by decide) rfl (fun ls hl => ?_)
  refine lv_aload_n C.1.1 C.1.2.1 dX3_place_9 rfl (lv_at hl 1 rfl) ?_
  refine x_ref C hw fX_3_1 flX3_15 dX3_place_10 ?_
  refine lv_iload_n C.1.1 C.1.2.1 dX3_place_13 rfl (lv_at hl 2 rfl) ?_
  obtain ⟨q2, h2, hf⟩ := o_bind hf
  refine aft_i hw (run_S C hw clX3_66 (As := [.ref (gA G 5), .int x1]) (rest := []) (c_X8_at aX_5 h2) hl.1 rfl ⟨(Nat.le_of_ble_eq_true rfl), (Nat.le_of_ble_eq_true rfl)⟩ ⟨Nat.zero_le _, Nat.zero_le _⟩ rfl (Nat.le_of_ble_eq_true rfl) dX3_place_14) (fun H locs hw => ?_)
  refine lv_aload_n C.1.1 C.1.2.1 dX3_place_17 rfl (lv_at hl 1 rfl) ?_
  refine x_ref C hw fX_3_1 flX3_15 dX3_place_18 ?_
  refine lv_bipush (v := (10 : Int32)) C.1.1 C.1.2.1 dX3_place_21 rfl ?_
  refine lv_iload_n C.1.1 C.1.2.1 dX3_place_23 rfl (lv_at hl 2 rfl) ?_
  refine lv_iadd C.1.1 C.1.2.1 dX3_place_24 ?_
  obtain ⟨q3, h3, hf⟩ := o_bind hf
  refine aft_i hw (run_S C hw clX3_66 (As := [.ref (gA G 5), .int ((10 : Int32) + x1)]) (rest := [.int q2]) (c_X8_at aX_5 h3) hl.1 rfl ⟨(Nat.le_of_ble_eq_true rfl), (Nat.le_of_ble_eq_true rfl)⟩ ⟨Nat.zero_le _, Nat.zero_le _⟩ rfl (Nat.le_of_ble_eq_true rfl) dX3_place_25) (fun H locs hw => ?_)
  refine lv_isub C.1.1 C.1.2.1 dX3_place_28 ?_
  refine lv_istore (lv' := [(4, .int (q2 - q3)), (3, .int q1), (0, .ref (gA G 3)), (1, .int x1), (2, .int x2)]) C.1.1 C.1.2.1 dX3_place_29 hl (by decide) rfl (fun ls hl => ?_)
  refine lv_aload_n C.1.1 C.1.2.1 dX3_place_31 rfl (lv_at hl 2 rfl) ?_
  refine x_ref C hw fX_3_12 flX3_34 dX3_place_32 ?_
  refine lv_iload_n C.1.1 C.1.2.1 dX3_place_35 rfl (lv_at hl 1 rfl) ?_
  refine lv_aload_n C.1.1 C.1.2.1 dX3_place_36 rfl (lv_at hl 2 rfl) ?_
  refine x_ref C hw fX_3_12 flX3_34 dX3_place_37 ?_
  refine lv_iload_n C.1.1 C.1.2.1 dX3_place_40 rfl (lv_at hl 1 rfl) ?_
  obtain ⟨q4, h4, hf⟩ := o_bind hf
  refine aft_i hw (run_S C hw clX3_66 (As := [.ref (gA G 9), .int q1]) (rest := [.int q1, .ref (gA G 9)]) (c_X8_at aX_9 h4) hl.1 rfl ⟨(Nat.le_of_ble_eq_true rfl), (Nat.le_of_ble_eq_true rfl)⟩ ⟨Nat.zero_le _, Nat.zero_le _⟩ rfl (Nat.le_of_ble_eq_true rfl) dX3_place_41) (fun H locs hw => ?_)
  refine lv_iconst (v := (1 : Int32)) C.1.1 C.1.2.1 dX3_place_44 rfl ?_
  refine lv_iload_n C.1.1 C.1.2.1 dX3_place_45 rfl (lv_at hl 3 rfl) ?_
  refine lv_ishl C.1.1 C.1.2.1 dX3_place_46 ?_
  refine lv_iconst (v := (-1 : Int32)) C.1.1 C.1.2.1 dX3_place_47 rfl ?_
  refine lv_ixor C.1.1 C.1.2.1 dX3_place_48 ?_
  refine lv_iand C.1.1 C.1.2.1 dX3_place_49 ?_
  obtain ⟨q5, h5, hf⟩ := o_bind hf
  refine aft_v hw (run_S C hw clX3_40 (As := [.ref (gA G 9), .int q1, .int (q4 &&& (((1 : Int32) <<< (x1 &&& 31)) ^^^ (-1 : Int32)))]) (rest := []) (c_X8_put aX_9 h5) hl.1 rfl ⟨(Nat.le_of_ble_eq_true rfl), (Nat.le_of_ble_eq_true rfl)⟩ ⟨Nat.zero_le _, Nat.zero_le _⟩ rfl (Nat.le_of_ble_eq_true rfl) dX3_place_50) (fun H locs hw => ?_)
  refine lv_aload_n C.1.1 C.1.2.1 dX3_place_53 rfl (lv_at hl 2 rfl) ?_
  refine x_ref C hw fX_3_13 flX3_37 dX3_place_54 ?_
  refine lv_iload_n C.1.1 C.1.2.1 dX3_place_57 rfl (lv_at hl 1 rfl) ?_
  refine lv_aload_n C.1.1 C.1.2.1 dX3_place_58 rfl (lv_at hl 2 rfl) ?_
  refine x_ref C hw fX_3_13 flX3_37 dX3_place_59 ?_
  refine lv_iload_n C.1.1 C.1.2.1 dX3_place_62 rfl (lv_at hl 1 rfl) ?_
  obtain ⟨q6, h6, hf⟩ := o_bind hf
  refine aft_i hw (run_S C hw clX3_66 (As := [.ref (gA G 10), .int q1]) (rest := [.int q1, .ref (gA G 10)]) (c_X8_at aX_10 h6) hl.1 rfl ⟨(Nat.le_of_ble_eq_true rfl), (Nat.le_of_ble_eq_true rfl)⟩ ⟨Nat.zero_le _, Nat.zero_le _⟩ rfl (Nat.le_of_ble_eq_true rfl) dX3_place_63) (fun H locs hw => ?_)
  refine lv_iload C.1.1 C.1.2.1 dX3_place_66 (lv_at hl 0 rfl) ?_
  refine lv_isub C.1.1 C.1.2.1 dX3_place_68 ?_
  obtain ⟨q7, h7, hf⟩ := o_bind hf
  refine aft_v hw (run_S C hw clX3_40 (As := [.ref (gA G 10), .int q1, .int (q6 - (q2 - q3))]) (rest := []) (c_X8_put aX_10 h7) hl.1 rfl ⟨(Nat.le_of_ble_eq_true rfl), (Nat.le_of_ble_eq_true rfl)⟩ ⟨Nat.zero_le _, Nat.zero_le _⟩ rfl (Nat.le_of_ble_eq_true rfl) dX3_place_69) (fun H locs hw => ?_)
  refine lv_aload_n C.1.1 C.1.2.1 dX3_place_72 rfl (lv_at hl 2 rfl) ?_
  refine x_ref C hw fX_3_12 flX3_34 dX3_place_73 ?_
  refine lv_iload_n C.1.1 C.1.2.1 dX3_place_76 rfl (lv_at hl 4 rfl) ?_
  refine lv_aload_n C.1.1 C.1.2.1 dX3_place_77 rfl (lv_at hl 2 rfl) ?_
  refine x_ref C hw fX_3_12 flX3_34 dX3_place_78 ?_
  refine lv_iload_n C.1.1 C.1.2.1 dX3_place_81 rfl (lv_at hl 4 rfl) ?_
  obtain ⟨q8, h8, hf⟩ := o_bind hf
  refine aft_i hw (run_S C hw clX3_66 (As := [.ref (gA G 9), .int x2]) (rest := [.int x2, .ref (gA G 9)]) (c_X8_at aX_9 h8) hl.1 rfl ⟨(Nat.le_of_ble_eq_true rfl), (Nat.le_of_ble_eq_true rfl)⟩ ⟨Nat.zero_le _, Nat.zero_le _⟩ rfl (Nat.le_of_ble_eq_true rfl) dX3_place_82) (fun H locs hw => ?_)
  refine lv_iconst (v := (1 : Int32)) C.1.1 C.1.2.1 dX3_place_85 rfl ?_
  refine lv_iload_n C.1.1 C.1.2.1 dX3_place_86 rfl (lv_at hl 3 rfl) ?_
  refine lv_ishl C.1.1 C.1.2.1 dX3_place_87 ?_
  refine lv_ior C.1.1 C.1.2.1 dX3_place_88 ?_
  obtain ⟨q9, h9, hf⟩ := o_bind hf
  refine aft_v hw (run_S C hw clX3_40 (As := [.ref (gA G 9), .int x2, .int (q8 ||| ((1 : Int32) <<< (x1 &&& 31)))]) (rest := []) (c_X8_put aX_9 h9) hl.1 rfl ⟨(Nat.le_of_ble_eq_true rfl), (Nat.le_of_ble_eq_true rfl)⟩ ⟨Nat.zero_le _, Nat.zero_le _⟩ rfl (Nat.le_of_ble_eq_true rfl) dX3_place_89) (fun H locs hw => ?_)
  refine lv_aload_n C.1.1 C.1.2.1 dX3_place_92 rfl (lv_at hl 2 rfl) ?_
  refine x_ref C hw fX_3_13 flX3_37 dX3_place_93 ?_
  refine lv_iload_n C.1.1 C.1.2.1 dX3_place_96 rfl (lv_at hl 4 rfl) ?_
  refine lv_aload_n C.1.1 C.1.2.1 dX3_place_97 rfl (lv_at hl 2 rfl) ?_
  refine x_ref C hw fX_3_13 flX3_37 dX3_place_98 ?_
  refine lv_iload_n C.1.1 C.1.2.1 dX3_place_101 rfl (lv_at hl 4 rfl) ?_
  obtain ⟨q10, h10, hf⟩ := o_bind hf
  refine aft_i hw (run_S C hw clX3_66 (As := [.ref (gA G 10), .int x2]) (rest := [.int x2, .ref (gA G 10)]) (c_X8_at aX_10 h10) hl.1 rfl ⟨(Nat.le_of_ble_eq_true rfl), (Nat.le_of_ble_eq_true rfl)⟩ ⟨Nat.zero_le _, Nat.zero_le _⟩ rfl (Nat.le_of_ble_eq_true rfl) dX3_place_102) (fun H locs hw => ?_)
  refine lv_iload C.1.1 C.1.2.1 dX3_place_105 (lv_at hl 0 rfl) ?_
  refine lv_iadd C.1.1 C.1.2.1 dX3_place_107 ?_
  obtain ⟨q11, h11, hf⟩ := o_bind hf
  refine aft_v hw (run_S C hw clX3_40 (As := [.ref (gA G 10), .int x2, .int (q10 + (q2 - q3))]) (rest := []) (c_X8_put aX_10 h11) hl.1 rfl ⟨(Nat.le_of_ble_eq_true rfl), (Nat.le_of_ble_eq_true rfl)⟩ ⟨Nat.zero_le _, Nat.zero_le _⟩ rfl (Nat.le_of_ble_eq_true rfl) dX3_place_108) (fun H locs hw => ?_)
  refine lv_aload_n C.1.1 C.1.2.1 dX3_place_111 rfl (lv_at hl 2 rfl) ?_
  refine x_ref C hw fX_3_0 flX3_9 dX3_place_112 ?_
  refine lv_iload_n C.1.1 C.1.2.1 dX3_place_115 rfl (lv_at hl 3 rfl) ?_
  refine lv_iload_n C.1.1 C.1.2.1 dX3_place_116 rfl (lv_at hl 4 rfl) ?_
  obtain ⟨q12, h12, hf⟩ := o_bind hf
  refine aft_v hw (run_S C hw clX3_40 (As := [.ref (gA G 4), .int x1, .int x2]) (rest := []) (c_X8_put aX_4 h12) hl.1 rfl ⟨(Nat.le_of_ble_eq_true rfl), (Nat.le_of_ble_eq_true rfl)⟩ ⟨Nat.zero_le _, Nat.zero_le _⟩ rfl (Nat.le_of_ble_eq_true rfl) dX3_place_117) (fun H locs hw => ?_)
  obtain rfl := Option.some.inj hf
  exact ret_v C hr hlk hw dX3_place_120
end
/-! WinnerDraws$Council.shift(II)Z (('o', 'X', 33) ('i',) ('i',)) -/
def f_X2_shift (X : TX) (x1 : Int32) (x2 : Int32) : Option (TX × Int32) := (f_X3_place X x1 x2).bind fun q1 => some ((u2 q1 3 11 ((q1 3 11) + (1 : Int32))), (1 : Int32))
section
variable {G : GP} {l : Launch}
set_option maxRecDepth 20000 in
set_option maxHeartbeats 2000000 in
theorem c_X2_shift   {X M : TX} {L : TL} {x1 : Int32} {x2 : Int32} {ro : TX × Int32} (hf : f_X2_shift X x1 x2 = some ro) : CTi G l yX2_shift cX2_shift 3 (some .boolean) 2 46 [.ref (gA G 33), .int x1, .int x2] X M L ro.1 M L ro.2 := by
  unfold f_X2_shift at hf
  refine ct_of (by decide +kernel) (Nat.le_of_ble_eq_true rfl) (fun p e s m args below meth c H locs ls C hr hlk hw hl => ?_)
  have C : Cx G p s m args c cX2_shift 3 RX2 := C
  have hl : lv_has ls 3 [(0, .ref (gA G 33)), (1, .int x1), (2, .int x2)] := hl
  refine lv_aload_n C.1.1 C.1.2.1 dX2_shift_0 rfl (lv_at hl 0 rfl) ?_
  refine x_ref C hw fX_33_0 flX2_21 dX2_shift_1 ?_
  refine lv_iload_n C.1.1 C.1.2.1 dX2_shift_4 rfl (lv_at hl 1 rfl) ?_
  refine lv_iload_n C.1.1 C.1.2.1 dX2_shift_5 rfl (lv_at hl 2 rfl) ?_
  obtain ⟨q1, h1, hf⟩ := o_bind hf
  refine aft_v hw (run_VX C hw clX2_62 (As := [.int x1, .int x2]) (rest := []) oX_3 (c_X3_place h1) rfl hl.1 rfl ⟨(Nat.le_of_ble_eq_true rfl), (Nat.le_of_ble_eq_true rfl)⟩ ⟨Nat.zero_le _, Nat.zero_le _⟩ rfl (Nat.le_of_ble_eq_true rfl) dX2_shift_6) (fun H locs hw => ?_)
  refine lv_aload_n C.1.1 C.1.2.1 dX2_shift_9 rfl (lv_at hl 0 rfl) ?_
  refine x_ref C hw fX_33_0 flX2_21 dX2_shift_10 ?_
  refine lv_dup C.1.1 C.1.2.1 dX2_shift_13 rfl ?_
  refine x_get C hw iX_3_11 flX2_66 dX2_shift_14 ?_
  refine lv_iconst (v := (1 : Int32)) C.1.1 C.1.2.1 dX2_shift_17 rfl ?_
  refine lv_iadd C.1.1 C.1.2.1 dX2_shift_18 ?_
  refine x_put C hw iX_3_11 flX2_66 dX2_shift_19 (fun H locs hw => ?_)
  refine lv_iconst (v := (1 : Int32)) C.1.1 C.1.2.1 dX2_shift_22 rfl ?_
  obtain rfl := Option.some.inj hf
  exact ret_z (r := (1 : Int32)) C hr hlk hw rfl dX2_shift_23
end
/-! WinnerDraws$Council.redraw()Z (('o', 'X', 33)) -/
def f_X2_redraw (X : TX) : Option (TX × Int32) := if (X 3 9) = (-1 : Int32) then (some (X, (0 : Int32))) else ((f_X2_choose X (X 3 9)).bind fun q2 => if q2.2 = 0 then (some (q2.1, (0 : Int32))) else ((f_X2_shift q2.1 (q2.1 33 2) (q2.1 33 3)).bind fun q4 => if q4.2 = 0 then (some (q4.1, (0 : Int32))) else (some (q4.1, (1 : Int32)))))
section
variable {G : GP} {l : Launch}
set_option maxRecDepth 20000 in
set_option maxHeartbeats 2000000 in
theorem c_X2_redraw   {X M : TX} {L : TL}  {ro : TX × Int32} (hf : f_X2_redraw X = some ro) : CTi G l yX2_redraw cX2_redraw 1 (some .boolean) 5 127 [.ref (gA G 33)] X M L ro.1 M L ro.2 := by
  unfold f_X2_redraw at hf
  refine ct_of (by decide +kernel) (Nat.le_of_ble_eq_true rfl) (fun p e s m args below meth c H locs ls C hr hlk hw hl => ?_)
  have C : Cx G p s m args c cX2_redraw 1 RX2 := C
  have hl : lv_has ls 1 [(0, .ref (gA G 33))] := hl
  refine lv_aload_n C.1.1 C.1.2.1 dX2_redraw_0 rfl (lv_at hl 0 rfl) ?_
  refine x_ref C hw fX_33_0 flX2_21 dX2_redraw_1 ?_
  refine x_get C hw iX_3_9 flX2_37 dX2_redraw_4 ?_
  refine lv_iconst (v := (-1 : Int32)) C.1.1 C.1.2.1 dX2_redraw_7 rfl ?_
  refine lv_icmp_eq (tgt := 44) C.1.1 C.1.2.1 dX2_redraw_8 (by decide) (fun c1 => ?_) (fun c1 => ?_)
  · have hf := o_t hf c1
    refine lv_iconst (v := (0 : Int32)) C.1.1 C.1.2.1 dX2_redraw_44 rfl ?_
    obtain rfl := Option.some.inj hf
    exact ret_z (r := (0 : Int32)) C hr hlk hw rfl dX2_redraw_45
  · have hf := o_f hf c1
    refine lv_aload_n C.1.1 C.1.2.1 dX2_redraw_11 rfl (lv_at hl 0 rfl) ?_
    refine lv_aload_n C.1.1 C.1.2.1 dX2_redraw_12 rfl (lv_at hl 0 rfl) ?_
    refine x_ref C hw fX_33_0 flX2_21 dX2_redraw_13 ?_
    refine x_get C hw iX_3_9 flX2_37 dX2_redraw_16 ?_
    obtain ⟨q2, h2, hf⟩ := o_bind hf
    refine aft_i hw (run_VX C hw clX2_40 (As := [.int (X 3 9)]) (rest := []) oX_33 (c_X2_choose h2) rfl hl.1 rfl ⟨(Nat.le_of_ble_eq_true rfl), (Nat.le_of_ble_eq_true rfl)⟩ ⟨Nat.zero_le _, Nat.zero_le _⟩ rfl (Nat.le_of_ble_eq_true rfl) dX2_redraw_19) (fun H locs hw => ?_)
    refine lv_if_eq (tgt := 44) C.1.1 C.1.2.1 dX2_redraw_22 (by decide) (fun c3 => ?_) (fun c3 => ?_)
    · have hf := o_t hf c3
      refine lv_iconst (v := (0 : Int32)) C.1.1 C.1.2.1 dX2_redraw_44 rfl ?_
      obtain rfl := Option.some.inj hf
      exact ret_z (r := (0 : Int32)) C hr hlk hw rfl dX2_redraw_45
    · have hf := o_f hf c3
      refine lv_aload_n C.1.1 C.1.2.1 dX2_redraw_25 rfl (lv_at hl 0 rfl) ?_
      refine lv_aload_n C.1.1 C.1.2.1 dX2_redraw_26 rfl (lv_at hl 0 rfl) ?_
      refine x_get C hw iX_33_2 flX2_9 dX2_redraw_27 ?_
      refine lv_aload_n C.1.1 C.1.2.1 dX2_redraw_30 rfl (lv_at hl 0 rfl) ?_
      refine x_get C hw iX_33_3 flX2_15 dX2_redraw_31 ?_
      obtain ⟨q4, h4, hf⟩ := o_bind hf
      refine aft_i hw (run_VX C hw clX2_44 (As := [.int (q2.1 33 2), .int (q2.1 33 3)]) (rest := []) oX_33 (c_X2_shift h4) rfl hl.1 rfl ⟨(Nat.le_of_ble_eq_true rfl), (Nat.le_of_ble_eq_true rfl)⟩ ⟨Nat.zero_le _, Nat.zero_le _⟩ rfl (Nat.le_of_ble_eq_true rfl) dX2_redraw_34) (fun H locs hw => ?_)
      refine lv_if_eq (tgt := 44) C.1.1 C.1.2.1 dX2_redraw_37 (by decide) (fun c5 => ?_) (fun c5 => ?_)
      · have hf := o_t hf c5
        refine lv_iconst (v := (0 : Int32)) C.1.1 C.1.2.1 dX2_redraw_44 rfl ?_
        obtain rfl := Option.some.inj hf
        exact ret_z (r := (0 : Int32)) C hr hlk hw rfl dX2_redraw_45
      · have hf := o_f hf c5
        refine lv_iconst (v := (1 : Int32)) C.1.1 C.1.2.1 dX2_redraw_40 rfl ?_
        refine lv_goto (tgt := 45) C.1.1 C.1.2.1 dX2_redraw_41 (by decide) ?_
        obtain rfl := Option.some.inj hf
        exact ret_z (r := (1 : Int32)) C hr hlk hw rfl dX2_redraw_45
end
/-! WinnerDraws$Council.move(II)Z (('o', 'X', 33) ('i',) ('i',)) -/
def f_X2_move (X : TX) (x1 : Int32) (x2 : Int32) : Option (TX × Int32) := (f_X3_openWards X x1).bind fun q1 => (f_X8_has q1 x2).bind fun q2 => if q2 = 0 then (some (X, (0 : Int32))) else ((f_X2_priceOf X x1 x2).bind fun q4 => if (q4.1 3 7) < q4.2 then (some (q4.1, (0 : Int32))) else ((f_X2_shift q4.1 x1 x2).bind fun q6 => if q6.2 = 0 then (some (q6.1, (0 : Int32))) else (some (q6.1, (1 : Int32)))))
section
variable {G : GP} {l : Launch}
set_option maxRecDepth 20000 in
set_option maxHeartbeats 2000000 in
theorem c_X2_move   {X M : TX} {L : TL} {x1 : Int32} {x2 : Int32} {ro : TX × Int32} (hf : f_X2_move X x1 x2 = some ro) : CTi G l yX2_move cX2_move 3 (some .boolean) 4 99 [.ref (gA G 33), .int x1, .int x2] X M L ro.1 M L ro.2 := by
  unfold f_X2_move at hf
  refine ct_of (by decide +kernel) (Nat.le_of_ble_eq_true rfl) (fun p e s m args below meth c H locs ls C hr hlk hw hl => ?_)
  have C : Cx G p s m args c cX2_move 3 RX2 := C
  have hl : lv_has ls 3 [(0, .ref (gA G 33)), (1, .int x1), (2, .int x2)] := hl
  refine lv_aload_n C.1.1 C.1.2.1 dX2_move_0 rfl (lv_at hl 0 rfl) ?_
  refine x_ref C hw fX_33_0 flX2_21 dX2_move_1 ?_
  refine lv_iload_n C.1.1 C.1.2.1 dX2_move_4 rfl (lv_at hl 1 rfl) ?_
  obtain ⟨q1, h1, hf⟩ := o_bind hf
  refine aft_i hw (run_VX C hw clX2_48 (As := [.int x1]) (rest := []) oX_3 (c_X3_openWards h1) rfl hl.1 rfl ⟨(Nat.le_of_ble_eq_true rfl), (Nat.le_of_ble_eq_true rfl)⟩ ⟨Nat.zero_le _, Nat.zero_le _⟩ rfl (Nat.le_of_ble_eq_true rfl) dX2_move_5) (fun H locs hw => ?_)
  refine lv_iload_n C.1.1 C.1.2.1 dX2_move_8 rfl (lv_at hl 2 rfl) ?_
  obtain ⟨q2, h2, hf⟩ := o_bind hf
  refine aft_i hw (run_S C hw clX2_52 (As := [.int q1, .int x2]) (rest := []) (c_X8_has h2) hl.1 rfl ⟨(Nat.le_of_ble_eq_true rfl), (Nat.le_of_ble_eq_true rfl)⟩ ⟨Nat.zero_le _, Nat.zero_le _⟩ rfl (Nat.le_of_ble_eq_true rfl) dX2_move_9) (fun H locs hw => ?_)
  refine lv_if_eq (tgt := 44) C.1.1 C.1.2.1 dX2_move_12 (by decide) (fun c3 => ?_) (fun c3 => ?_)
  · have hf := o_t hf c3
    refine lv_iconst (v := (0 : Int32)) C.1.1 C.1.2.1 dX2_move_44 rfl ?_
    obtain rfl := Option.some.inj hf
    exact ret_z (r := (0 : Int32)) C hr hlk hw rfl dX2_move_45
  · have hf := o_f hf c3
    refine lv_aload_n C.1.1 C.1.2.1 dX2_move_15 rfl (lv_at hl 0 rfl) ?_
    refine lv_iload_n C.1.1 C.1.2.1 dX2_move_16 rfl (lv_at hl 1 rfl) ?_
    refine lv_iload_n C.1.1 C.1.2.1 dX2_move_17 rfl (lv_at hl 2 rfl) ?_
    obtain ⟨q4, h4, hf⟩ := o_bind hf
    refine aft_i hw (run_VX C hw clX2_55 (As := [.int x1, .int x2]) (rest := []) oX_33 (c_X2_priceOf h4) rfl hl.1 rfl ⟨(Nat.le_of_ble_eq_true rfl), (Nat.le_of_ble_eq_true rfl)⟩ ⟨Nat.zero_le _, Nat.zero_le _⟩ rfl (Nat.le_of_ble_eq_true rfl) dX2_move_18) (fun H locs hw => ?_)
    refine lv_aload_n C.1.1 C.1.2.1 dX2_move_21 rfl (lv_at hl 0 rfl) ?_
    refine x_ref C hw fX_33_0 flX2_21 dX2_move_22 ?_
    refine x_get C hw iX_3_7 flX2_59 dX2_move_25 ?_
    refine lv_icmp_gt (tgt := 44) C.1.1 C.1.2.1 dX2_move_28 (by decide) (fun c5 => ?_) (fun c5 => ?_)
    · have hf := o_t hf c5
      refine lv_iconst (v := (0 : Int32)) C.1.1 C.1.2.1 dX2_move_44 rfl ?_
      obtain rfl := Option.some.inj hf
      exact ret_z (r := (0 : Int32)) C hr hlk hw rfl dX2_move_45
    · have hf := o_f hf c5
      refine lv_aload_n C.1.1 C.1.2.1 dX2_move_31 rfl (lv_at hl 0 rfl) ?_
      refine lv_iload_n C.1.1 C.1.2.1 dX2_move_32 rfl (lv_at hl 1 rfl) ?_
      refine lv_iload_n C.1.1 C.1.2.1 dX2_move_33 rfl (lv_at hl 2 rfl) ?_
      obtain ⟨q6, h6, hf⟩ := o_bind hf
      refine aft_i hw (run_VX C hw clX2_44 (As := [.int x1, .int x2]) (rest := []) oX_33 (c_X2_shift h6) rfl hl.1 rfl ⟨(Nat.le_of_ble_eq_true rfl), (Nat.le_of_ble_eq_true rfl)⟩ ⟨Nat.zero_le _, Nat.zero_le _⟩ rfl (Nat.le_of_ble_eq_true rfl) dX2_move_34) (fun H locs hw => ?_)
      refine lv_if_eq (tgt := 44) C.1.1 C.1.2.1 dX2_move_37 (by decide) (fun c7 => ?_) (fun c7 => ?_)
      · have hf := o_t hf c7
        refine lv_iconst (v := (0 : Int32)) C.1.1 C.1.2.1 dX2_move_44 rfl ?_
        obtain rfl := Option.some.inj hf
        exact ret_z (r := (0 : Int32)) C hr hlk hw rfl dX2_move_45
      · have hf := o_f hf c7
        refine lv_iconst (v := (1 : Int32)) C.1.1 C.1.2.1 dX2_move_40 rfl ?_
        refine lv_goto (tgt := 45) C.1.1 C.1.2.1 dX2_move_41 (by decide) ?_
        obtain rfl := Option.some.inj hf
        exact ret_z (r := (1 : Int32)) C hr hlk hw rfl dX2_move_45
end
/-! WinnerDraws$County.recountParish(III)Z (('o', 'X', 3) ('i',) ('i',) ('i',)) -/
def f_X3_recountParish (X : TX) (x1 : Int32) (x2 : Int32) (x3 : Int32) : Option (TX × Int32) := (f_X3_votesOf X (0 : Int32) x1).bind fun q1 => if q1 = x2 then ((f_X3_votesOf X (1 : Int32) x1).bind fun q6 => if q6 = x3 then (some (X, (0 : Int32))) else ((f_X8_put 5 X x1 x2).bind fun q8 => (f_X8_put 5 q8 ((10 : Int32) + x1) x3).bind fun q9 => (f_X3_tally q9).bind fun q10 => some (q10, (1 : Int32)))) else ((f_X8_put 5 X x1 x2).bind fun q3 => (f_X8_put 5 q3 ((10 : Int32) + x1) x3).bind fun q4 => (f_X3_tally q4).bind fun q5 => some (q5, (1 : Int32)))
section
variable {G : GP} {l : Launch}
set_option maxRecDepth 20000 in
set_option maxHeartbeats 2000000 in
theorem c_X3_recountParish   {X M : TX} {L : TL} {x1 : Int32} {x2 : Int32} {x3 : Int32} {ro : TX × Int32} (hf : f_X3_recountParish X x1 x2 x3 = some ro) : CTi G l yX3_recountParish cX3_recountParish 4 (some .boolean) 2 44 [.ref (gA G 3), .int x1, .int x2, .int x3] X M L ro.1 M L ro.2 := by
  unfold f_X3_recountParish at hf
  refine ct_of (by decide +kernel) (Nat.le_of_ble_eq_true rfl) (fun p e s m args below meth c H locs ls C hr hlk hw hl => ?_)
  have C : Cx G p s m args c cX3_recountParish 4 RX3 := C
  have hl : lv_has ls 4 [(0, .ref (gA G 3)), (1, .int x1), (2, .int x2), (3, .int x3)] := hl
  refine lv_aload_n C.1.1 C.1.2.1 dX3_recountParish_0 rfl (lv_at hl 0 rfl) ?_
  refine lv_iconst (v := (0 : Int32)) C.1.1 C.1.2.1 dX3_recountParish_1 rfl ?_
  refine lv_iload_n C.1.1 C.1.2.1 dX3_recountParish_2 rfl (lv_at hl 1 rfl) ?_
  obtain ⟨q1, h1, hf⟩ := o_bind hf
  refine aft_i hw (run_VX C hw clX3_147 (As := [.int (0 : Int32), .int x1]) (rest := []) oX_3 (c_X3_votesOf h1) rfl hl.1 rfl ⟨(Nat.le_of_ble_eq_true rfl), (Nat.le_of_ble_eq_true rfl)⟩ ⟨Nat.zero_le _, Nat.zero_le _⟩ rfl (Nat.le_of_ble_eq_true rfl) dX3_recountParish_3) (fun H locs hw => ?_)
  refine lv_iload_n C.1.1 C.1.2.1 dX3_recountParish_6 rfl (lv_at hl 2 rfl) ?_
  refine lv_icmp_ne (tgt := 22) C.1.1 C.1.2.1 dX3_recountParish_7 (by decide) (fun c2 => ?_) (fun c2 => ?_)
  · have hf := o_f hf c2
    refine lv_aload_n C.1.1 C.1.2.1 dX3_recountParish_22 rfl (lv_at hl 0 rfl) ?_
    refine x_ref C hw fX_3_1 flX3_15 dX3_recountParish_23 ?_
    refine lv_iload_n C.1.1 C.1.2.1 dX3_recountParish_26 rfl (lv_at hl 1 rfl) ?_
    refine lv_iload_n C.1.1 C.1.2.1 dX3_recountParish_27 rfl (lv_at hl 2 rfl) ?_
    obtain ⟨q3, h3, hf⟩ := o_bind hf
    refine aft_v hw (run_S C hw clX3_40 (As := [.ref (gA G 5), .int x1, .int x2]) (rest := []) (c_X8_put aX_5 h3) hl.1 rfl ⟨(Nat.le_of_ble_eq_true rfl), (Nat.le_of_ble_eq_true rfl)⟩ ⟨Nat.zero_le _, Nat.zero_le _⟩ rfl (Nat.le_of_ble_eq_true rfl) dX3_recountParish_28) (fun H locs hw => ?_)
    refine lv_aload_n C.1.1 C.1.2.1 dX3_recountParish_31 rfl (lv_at hl 0 rfl) ?_
    refine x_ref C hw fX_3_1 flX3_15 dX3_recountParish_32 ?_
    refine lv_bipush (v := (10 : Int32)) C.1.1 C.1.2.1 dX3_recountParish_35 rfl ?_
    refine lv_iload_n C.1.1 C.1.2.1 dX3_recountParish_37 rfl (lv_at hl 1 rfl) ?_
    refine lv_iadd C.1.1 C.1.2.1 dX3_recountParish_38 ?_
    refine lv_iload_n C.1.1 C.1.2.1 dX3_recountParish_39 rfl (lv_at hl 3 rfl) ?_
    obtain ⟨q4, h4, hf⟩ := o_bind hf
    refine aft_v hw (run_S C hw clX3_40 (As := [.ref (gA G 5), .int ((10 : Int32) + x1), .int x3]) (rest := []) (c_X8_put aX_5 h4) hl.1 rfl ⟨(Nat.le_of_ble_eq_true rfl), (Nat.le_of_ble_eq_true rfl)⟩ ⟨Nat.zero_le _, Nat.zero_le _⟩ rfl (Nat.le_of_ble_eq_true rfl) dX3_recountParish_40) (fun H locs hw => ?_)
    refine lv_aload_n C.1.1 C.1.2.1 dX3_recountParish_43 rfl (lv_at hl 0 rfl) ?_
    obtain ⟨q5, h5, hf⟩ := o_bind hf
    refine aft_v hw (run_VX C hw clX3_63 (As := []) (rest := []) oX_3 (c_X3_tally h5) rfl hl.1 rfl ⟨(Nat.le_of_ble_eq_true rfl), (Nat.le_of_ble_eq_true rfl)⟩ ⟨Nat.zero_le _, Nat.zero_le _⟩ rfl (Nat.le_of_ble_eq_true rfl) dX3_recountParish_44) (fun H locs hw => ?_)
    refine lv_iconst (v := (1 : Int32)) C.1.1 C.1.2.1 dX3_recountParish_47 rfl ?_
    obtain rfl := Option.some.inj hf
    exact ret_z (r := (1 : Int32)) C hr hlk hw rfl dX3_recountParish_48
  · have hf := o_t hf c2
    refine lv_aload_n C.1.1 C.1.2.1 dX3_recountParish_10 rfl (lv_at hl 0 rfl) ?_
    refine lv_iconst (v := (1 : Int32)) C.1.1 C.1.2.1 dX3_recountParish_11 rfl ?_
    refine lv_iload_n C.1.1 C.1.2.1 dX3_recountParish_12 rfl (lv_at hl 1 rfl) ?_
    obtain ⟨q6, h6, hf⟩ := o_bind hf
    refine aft_i hw (run_VX C hw clX3_147 (As := [.int (1 : Int32), .int x1]) (rest := []) oX_3 (c_X3_votesOf h6) rfl hl.1 rfl ⟨(Nat.le_of_ble_eq_true rfl), (Nat.le_of_ble_eq_true rfl)⟩ ⟨Nat.zero_le _, Nat.zero_le _⟩ rfl (Nat.le_of_ble_eq_true rfl) dX3_recountParish_13) (fun H locs hw => ?_)
    refine lv_iload_n C.1.1 C.1.2.1 dX3_recountParish_16 rfl (lv_at hl 3 rfl) ?_
    refine lv_icmp_ne (tgt := 22) C.1.1 C.1.2.1 dX3_recountParish_17 (by decide) (fun c7 => ?_) (fun c7 => ?_)
    · have hf := o_f hf c7
      refine lv_aload_n C.1.1 C.1.2.1 dX3_recountParish_22 rfl (lv_at hl 0 rfl) ?_
      refine x_ref C hw fX_3_1 flX3_15 dX3_recountParish_23 ?_
      refine lv_iload_n C.1.1 C.1.2.1 dX3_recountParish_26 rfl (lv_at hl 1 rfl) ?_
      refine lv_iload_n C.1.1 C.1.2.1 dX3_recountParish_27 rfl (lv_at hl 2 rfl) ?_
      obtain ⟨q8, h8, hf⟩ := o_bind hf
      refine aft_v hw (run_S C hw clX3_40 (As := [.ref (gA G 5), .int x1, .int x2]) (rest := []) (c_X8_put aX_5 h8) hl.1 rfl ⟨(Nat.le_of_ble_eq_true rfl), (Nat.le_of_ble_eq_true rfl)⟩ ⟨Nat.zero_le _, Nat.zero_le _⟩ rfl (Nat.le_of_ble_eq_true rfl) dX3_recountParish_28) (fun H locs hw => ?_)
      refine lv_aload_n C.1.1 C.1.2.1 dX3_recountParish_31 rfl (lv_at hl 0 rfl) ?_
      refine x_ref C hw fX_3_1 flX3_15 dX3_recountParish_32 ?_
      refine lv_bipush (v := (10 : Int32)) C.1.1 C.1.2.1 dX3_recountParish_35 rfl ?_
      refine lv_iload_n C.1.1 C.1.2.1 dX3_recountParish_37 rfl (lv_at hl 1 rfl) ?_
      refine lv_iadd C.1.1 C.1.2.1 dX3_recountParish_38 ?_
      refine lv_iload_n C.1.1 C.1.2.1 dX3_recountParish_39 rfl (lv_at hl 3 rfl) ?_
      obtain ⟨q9, h9, hf⟩ := o_bind hf
      refine aft_v hw (run_S C hw clX3_40 (As := [.ref (gA G 5), .int ((10 : Int32) + x1), .int x3]) (rest := []) (c_X8_put aX_5 h9) hl.1 rfl ⟨(Nat.le_of_ble_eq_true rfl), (Nat.le_of_ble_eq_true rfl)⟩ ⟨Nat.zero_le _, Nat.zero_le _⟩ rfl (Nat.le_of_ble_eq_true rfl) dX3_recountParish_40) (fun H locs hw => ?_)
      refine lv_aload_n C.1.1 C.1.2.1 dX3_recountParish_43 rfl (lv_at hl 0 rfl) ?_
      obtain ⟨q10, h10, hf⟩ := o_bind hf
      refine aft_v hw (run_VX C hw clX3_63 (As := []) (rest := []) oX_3 (c_X3_tally h10) rfl hl.1 rfl ⟨(Nat.le_of_ble_eq_true rfl), (Nat.le_of_ble_eq_true rfl)⟩ ⟨Nat.zero_le _, Nat.zero_le _⟩ rfl (Nat.le_of_ble_eq_true rfl) dX3_recountParish_44) (fun H locs hw => ?_)
      refine lv_iconst (v := (1 : Int32)) C.1.1 C.1.2.1 dX3_recountParish_47 rfl ?_
      obtain rfl := Option.some.inj hf
      exact ret_z (r := (1 : Int32)) C hr hlk hw rfl dX3_recountParish_48
    · have hf := o_t hf c7
      refine lv_iconst (v := (0 : Int32)) C.1.1 C.1.2.1 dX3_recountParish_20 rfl ?_
      obtain rfl := Option.some.inj hf
      exact ret_z (r := (0 : Int32)) C hr hlk hw rfl dX3_recountParish_21
end
/-! WinnerDraws$Council.recountParish(III)Z (('o', 'X', 33) ('i',) ('i',) ('i',)) -/
def f_X2_recountParish (X : TX) (x1 : Int32) (x2 : Int32) (x3 : Int32) : Option (TX × Int32) := (f_X3_recountParish X x1 x2 x3).bind fun q1 => if q1.2 &&& 1 = q1.2 then (some (q1.1, q1.2)) else none
section
variable {G : GP} {l : Launch}
set_option maxRecDepth 20000 in
set_option maxHeartbeats 2000000 in
theorem c_X2_recountParish   {X M : TX} {L : TL} {x1 : Int32} {x2 : Int32} {x3 : Int32} {ro : TX × Int32} (hf : f_X2_recountParish X x1 x2 x3 = some ro) : CTi G l yX2_recountParish cX2_recountParish 4 (some .boolean) 3 67 [.ref (gA G 33), .int x1, .int x2, .int x3] X M L ro.1 M L ro.2 := by
  unfold f_X2_recountParish at hf
  refine ct_of (by decide +kernel) (Nat.le_of_ble_eq_true rfl) (fun p e s m args below meth c H locs ls C hr hlk hw hl => ?_)
  have C : Cx G p s m args c cX2_recountParish 4 RX2 := C
  have hl : lv_has ls 4 [(0, .ref (gA G 33)), (1, .int x1), (2, .int x2), (3, .int x3)] := hl
  refine lv_aload_n C.1.1 C.1.2.1 dX2_recountParish_0 rfl (lv_at hl 0 rfl) ?_
  refine x_ref C hw fX_33_0 flX2_21 dX2_recountParish_1 ?_
  refine lv_iload_n C.1.1 C.1.2.1 dX2_recountParish_4 rfl (lv_at hl 1 rfl) ?_
  refine lv_iload_n C.1.1 C.1.2.1 dX2_recountParish_5 rfl (lv_at hl 2 rfl) ?_
  refine lv_iload_n C.1.1 C.1.2.1 dX2_recountParish_6 rfl (lv_at hl 3 rfl) ?_
  obtain ⟨q1, h1, hf⟩ := o_bind hf
  refine aft_i hw (run_VX C hw clX2_69 (As := [.int x1, .int x2, .int x3]) (rest := []) oX_3 (c_X3_recountParish h1) rfl hl.1 rfl ⟨(Nat.le_of_ble_eq_true rfl), (Nat.le_of_ble_eq_true rfl)⟩ ⟨Nat.zero_le _, Nat.zero_le _⟩ rfl (Nat.le_of_ble_eq_true rfl) dX2_recountParish_7) (fun H locs hw => ?_)
  have g2 := (o_g hf).1
  have hf := (o_g hf).2
  obtain rfl := Option.some.inj hf
  exact ret_z (r := q1.2) C hr hlk hw (nar_z g2) dX2_recountParish_10
end
/-! WinnerDraws$Plan.runStep(LWinnerDraws$Council;I)Z (('o', 'X', 31) ('o', 'X', 33) ('i',)) -/
def f_X6_runStep (X : TX) (x2 : Int32) : Option (TX × Int32) := (f_X8_at 32 X x2).bind fun q1 => if q1 = (1 : Int32) then ((f_X2_vote X).bind fun q3 => if q3.2 &&& 1 = q3.2 then (some (q3.1, q3.2)) else none) else (if q1 = (2 : Int32) then ((f_X2_redraw X).bind fun q6 => if q6.2 &&& 1 = q6.2 then (some (q6.1, q6.2)) else none) else (if q1 = (3 : Int32) then ((f_X8_at 32 X (x2 + (1 : Int32))).bind fun q9 => (f_X8_at 32 X (x2 + (2 : Int32))).bind fun q10 => (f_X2_move X q9 q10).bind fun q11 => if q11.2 &&& 1 = q11.2 then (some (q11.1, q11.2)) else none) else (((f_X8_at 32 X (x2 + (1 : Int32))).bind fun q13 => (f_X8_at 32 X (x2 + (2 : Int32))).bind fun q14 => (f_X8_at 32 X (x2 + (3 : Int32))).bind fun q15 => (f_X2_recountParish X q13 q14 q15).bind fun q16 => if q16.2 &&& 1 = q16.2 then (some (q16.1, q16.2)) else none))))
section
variable {G : GP} {l : Launch}
set_option maxRecDepth 20000 in
set_option maxHeartbeats 2000000 in
theorem c_X6_runStep   {X M : TX} {L : TL} {x2 : Int32} {ro : TX × Int32} (hf : f_X6_runStep X x2 = some ro) : CTi G l yX6_runStep cX6_runStep 3 (some .boolean) 6 147 [.ref (gA G 31), .ref (gA G 33), .int x2] X M L ro.1 M L ro.2 := by
  unfold f_X6_runStep at hf
  refine ct_of (by decide +kernel) (Nat.le_of_ble_eq_true rfl) (fun p e s m args below meth c H locs ls C hr hlk hw hl => ?_)
  have C : Cx G p s m args c cX6_runStep 3 RX6 := C
  have hl : lv_has ls 3 [(0, .ref (gA G 31)), (1, .ref (gA G 33)), (2, .int x2)] := hl
  refine lv_aload_n C.1.1 C.1.2.1 dX6_runStep_0 rfl (lv_at hl 0 rfl) ?_
  refine x_ref C hw fX_31_0 flX6_9 dX6_runStep_1 ?_
  refine lv_iload_n C.1.1 C.1.2.1 dX6_runStep_4 rfl (lv_at hl 2 rfl) ?_
  obtain ⟨q1, h1, hf⟩ := o_bind hf
  refine aft_i hw (run_S C hw clX6_89 (As := [.ref (gA G 32), .int x2]) (rest := []) (c_X8_at aX_32 h1) hl.1 rfl ⟨(Nat.le_of_ble_eq_true rfl), (Nat.le_of_ble_eq_true rfl)⟩ ⟨Nat.zero_le _, Nat.zero_le _⟩ rfl (Nat.le_of_ble_eq_true rfl) dX6_runStep_5) (fun H locs hw => ?_)
  by_cases c2 : q1 = (1 : Int32)
  · have hf := o_t hf c2
    refine lv_tableIn (tgt := 36) (off := 28) C.1.1 C.1.2.1 dX6_runStep_8 (by rw [c2]; decide) (by rw [c2]; decide) (by rw [c2]; rfl) (by decide) ?_
    refine lv_aload_n C.1.1 C.1.2.1 dX6_runStep_36 rfl (lv_at hl 1 rfl) ?_
    obtain ⟨q3, h3, hf⟩ := o_bind hf
    refine aft_i hw (run_VX C hw clX6_101 (As := []) (rest := []) oX_33 (c_X2_vote h3) rfl hl.1 rfl ⟨(Nat.le_of_ble_eq_true rfl), (Nat.le_of_ble_eq_true rfl)⟩ ⟨Nat.zero_le _, Nat.zero_le _⟩ rfl (Nat.le_of_ble_eq_true rfl) dX6_runStep_37) (fun H locs hw => ?_)
    have g4 := (o_g hf).1
    have hf := (o_g hf).2
    obtain rfl := Option.some.inj hf
    exact ret_z (r := q3.2) C hr hlk hw (nar_z g4) dX6_runStep_40
  have hf := o_f hf c2
  by_cases c5 : q1 = (2 : Int32)
  · have hf := o_t hf c5
    refine lv_tableIn (tgt := 41) (off := 33) C.1.1 C.1.2.1 dX6_runStep_8 (by rw [c5]; decide) (by rw [c5]; decide) (by rw [c5]; rfl) (by decide) ?_
    refine lv_aload_n C.1.1 C.1.2.1 dX6_runStep_41 rfl (lv_at hl 1 rfl) ?_
    obtain ⟨q6, h6, hf⟩ := o_bind hf
    refine aft_i hw (run_VX C hw clX6_106 (As := []) (rest := []) oX_33 (c_X2_redraw h6) rfl hl.1 rfl ⟨(Nat.le_of_ble_eq_true rfl), (Nat.le_of_ble_eq_true rfl)⟩ ⟨Nat.zero_le _, Nat.zero_le _⟩ rfl (Nat.le_of_ble_eq_true rfl) dX6_runStep_42) (fun H locs hw => ?_)
    have g7 := (o_g hf).1
    have hf := (o_g hf).2
    obtain rfl := Option.some.inj hf
    exact ret_z (r := q6.2) C hr hlk hw (nar_z g7) dX6_runStep_45
  have hf := o_f hf c5
  by_cases c8 : q1 = (3 : Int32)
  · have hf := o_t hf c8
    refine lv_tableIn (tgt := 46) (off := 38) C.1.1 C.1.2.1 dX6_runStep_8 (by rw [c8]; decide) (by rw [c8]; decide) (by rw [c8]; rfl) (by decide) ?_
    refine lv_aload_n C.1.1 C.1.2.1 dX6_runStep_46 rfl (lv_at hl 1 rfl) ?_
    refine lv_aload_n C.1.1 C.1.2.1 dX6_runStep_47 rfl (lv_at hl 0 rfl) ?_
    refine x_ref C hw fX_31_0 flX6_9 dX6_runStep_48 ?_
    refine lv_iload_n C.1.1 C.1.2.1 dX6_runStep_51 rfl (lv_at hl 2 rfl) ?_
    refine lv_iconst (v := (1 : Int32)) C.1.1 C.1.2.1 dX6_runStep_52 rfl ?_
    refine lv_iadd C.1.1 C.1.2.1 dX6_runStep_53 ?_
    obtain ⟨q9, h9, hf⟩ := o_bind hf
    refine aft_i hw (run_S C hw clX6_89 (As := [.ref (gA G 32), .int (x2 + (1 : Int32))]) (rest := [.ref (gA G 33)]) (c_X8_at aX_32 h9) hl.1 rfl ⟨(Nat.le_of_ble_eq_true rfl), (Nat.le_of_ble_eq_true rfl)⟩ ⟨Nat.zero_le _, Nat.zero_le _⟩ rfl (Nat.le_of_ble_eq_true rfl) dX6_runStep_54) (fun H locs hw => ?_)
    refine lv_aload_n C.1.1 C.1.2.1 dX6_runStep_57 rfl (lv_at hl 0 rfl) ?_
    refine x_ref C hw fX_31_0 flX6_9 dX6_runStep_58 ?_
    refine lv_iload_n C.1.1 C.1.2.1 dX6_runStep_61 rfl (lv_at hl 2 rfl) ?_
    refine lv_iconst (v := (2 : Int32)) C.1.1 C.1.2.1 dX6_runStep_62 rfl ?_
    refine lv_iadd C.1.1 C.1.2.1 dX6_runStep_63 ?_
    obtain ⟨q10, h10, hf⟩ := o_bind hf
    refine aft_i hw (run_S C hw clX6_89 (As := [.ref (gA G 32), .int (x2 + (2 : Int32))]) (rest := [.int q9, .ref (gA G 33)]) (c_X8_at aX_32 h10) hl.1 rfl ⟨(Nat.le_of_ble_eq_true rfl), (Nat.le_of_ble_eq_true rfl)⟩ ⟨Nat.zero_le _, Nat.zero_le _⟩ rfl (Nat.le_of_ble_eq_true rfl) dX6_runStep_64) (fun H locs hw => ?_)
    obtain ⟨q11, h11, hf⟩ := o_bind hf
    refine aft_i hw (run_VX C hw clX6_109 (As := [.int q9, .int q10]) (rest := []) oX_33 (c_X2_move h11) rfl hl.1 rfl ⟨(Nat.le_of_ble_eq_true rfl), (Nat.le_of_ble_eq_true rfl)⟩ ⟨Nat.zero_le _, Nat.zero_le _⟩ rfl (Nat.le_of_ble_eq_true rfl) dX6_runStep_67) (fun H locs hw => ?_)
    have g12 := (o_g hf).1
    have hf := (o_g hf).2
    obtain rfl := Option.some.inj hf
    exact ret_z (r := q11.2) C hr hlk hw (nar_z g12) dX6_runStep_70
  have hf := o_f hf c8
  have ho : (Int32.toInt q1) < 1 ∨ 3 < (Int32.toInt q1) := by
    rcases (by omega : (Int32.toInt q1) < 1 ∨ 3 < (Int32.toInt q1) ∨ (Int32.toInt q1) = 1 ∨ (Int32.toInt q1) = 2 ∨ (Int32.toInt q1) = 3) with q | q | q | q | q
    · exact Or.inl q
    · exact Or.inr q
    · exact absurd (Int32.toInt_inj.mp (q.trans (by decide))) c2
    · exact absurd (Int32.toInt_inj.mp (q.trans (by decide))) c5
    · exact absurd (Int32.toInt_inj.mp (q.trans (by decide))) c8
  refine lv_tableOut (tgt := 71) C.1.1 C.1.2.1 dX6_runStep_8 ho (by decide) ?_
  refine lv_aload_n C.1.1 C.1.2.1 dX6_runStep_71 rfl (lv_at hl 1 rfl) ?_
  refine lv_aload_n C.1.1 C.1.2.1 dX6_runStep_72 rfl (lv_at hl 0 rfl) ?_
  refine x_ref C hw fX_31_0 flX6_9 dX6_runStep_73 ?_
  refine lv_iload_n C.1.1 C.1.2.1 dX6_runStep_76 rfl (lv_at hl 2 rfl) ?_
  refine lv_iconst (v := (1 : Int32)) C.1.1 C.1.2.1 dX6_runStep_77 rfl ?_
  refine lv_iadd C.1.1 C.1.2.1 dX6_runStep_78 ?_
  obtain ⟨q13, h13, hf⟩ := o_bind hf
  refine aft_i hw (run_S C hw clX6_89 (As := [.ref (gA G 32), .int (x2 + (1 : Int32))]) (rest := [.ref (gA G 33)]) (c_X8_at aX_32 h13) hl.1 rfl ⟨(Nat.le_of_ble_eq_true rfl), (Nat.le_of_ble_eq_true rfl)⟩ ⟨Nat.zero_le _, Nat.zero_le _⟩ rfl (Nat.le_of_ble_eq_true rfl) dX6_runStep_79) (fun H locs hw => ?_)
  refine lv_aload_n C.1.1 C.1.2.1 dX6_runStep_82 rfl (lv_at hl 0 rfl) ?_
  refine x_ref C hw fX_31_0 flX6_9 dX6_runStep_83 ?_
  refine lv_iload_n C.1.1 C.1.2.1 dX6_runStep_86 rfl (lv_at hl 2 rfl) ?_
  refine lv_iconst (v := (2 : Int32)) C.1.1 C.1.2.1 dX6_runStep_87 rfl ?_
  refine lv_iadd C.1.1 C.1.2.1 dX6_runStep_88 ?_
  obtain ⟨q14, h14, hf⟩ := o_bind hf
  refine aft_i hw (run_S C hw clX6_89 (As := [.ref (gA G 32), .int (x2 + (2 : Int32))]) (rest := [.int q13, .ref (gA G 33)]) (c_X8_at aX_32 h14) hl.1 rfl ⟨(Nat.le_of_ble_eq_true rfl), (Nat.le_of_ble_eq_true rfl)⟩ ⟨Nat.zero_le _, Nat.zero_le _⟩ rfl (Nat.le_of_ble_eq_true rfl) dX6_runStep_89) (fun H locs hw => ?_)
  refine lv_aload_n C.1.1 C.1.2.1 dX6_runStep_92 rfl (lv_at hl 0 rfl) ?_
  refine x_ref C hw fX_31_0 flX6_9 dX6_runStep_93 ?_
  refine lv_iload_n C.1.1 C.1.2.1 dX6_runStep_96 rfl (lv_at hl 2 rfl) ?_
  refine lv_iconst (v := (3 : Int32)) C.1.1 C.1.2.1 dX6_runStep_97 rfl ?_
  refine lv_iadd C.1.1 C.1.2.1 dX6_runStep_98 ?_
  obtain ⟨q15, h15, hf⟩ := o_bind hf
  refine aft_i hw (run_S C hw clX6_89 (As := [.ref (gA G 32), .int (x2 + (3 : Int32))]) (rest := [.int q14, .int q13, .ref (gA G 33)]) (c_X8_at aX_32 h15) hl.1 rfl ⟨(Nat.le_of_ble_eq_true rfl), (Nat.le_of_ble_eq_true rfl)⟩ ⟨Nat.zero_le _, Nat.zero_le _⟩ rfl (Nat.le_of_ble_eq_true rfl) dX6_runStep_99) (fun H locs hw => ?_)
  obtain ⟨q16, h16, hf⟩ := o_bind hf
  refine aft_i hw (run_VX C hw clX6_111 (As := [.int q13, .int q14, .int q15]) (rest := []) oX_33 (c_X2_recountParish h16) rfl hl.1 rfl ⟨(Nat.le_of_ble_eq_true rfl), (Nat.le_of_ble_eq_true rfl)⟩ ⟨Nat.zero_le _, Nat.zero_le _⟩ rfl (Nat.le_of_ble_eq_true rfl) dX6_runStep_102) (fun H locs hw => ?_)
  have g17 := (o_g hf).1
  have hf := (o_g hf).2
  obtain rfl := Option.some.inj hf
  exact ret_z (r := q16.2) C hr hlk hw (nar_z g17) dX6_runStep_105
end
