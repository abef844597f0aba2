/-! WinnerDraws$Plan.readAgain(LWinnerDraws$Text;I)Z (('o', 'X', 31) ('o', 'X', 1) ('i',)) -/
def f_X6_readAgain (rec : TX → Int32 → Option (TX × Int32)) (X : TX) (x2 : Int32) : Option (TX × Int32) := if x2 < (6 : Int32) then ((f_X8_put 32 (u2 X 31 1 ((X 31 1) + (4 : Int32))) (X 31 1) (5 : Int32)).bind fun q2 => (f_X6_readNumber q2 (40 : Int32) ((X 31 1) + (1 : Int32))).bind fun q3 => if q3.2 = 0 then (some (q3.1, (0 : Int32))) else ((f_X7_sign q3.1 (91 : Int32)).bind fun q5 => if q5.2 = 0 then (some (q5.1, (0 : Int32))) else ((rec q5.1 (x2 + (1 : Int32))).bind fun q7 => if q7.2 = 0 then (some (q7.1, (0 : Int32))) else ((f_X8_put 32 q7.1 ((X 31 1) + (2 : Int32)) (q7.1 31 1)).bind fun q9 => (f_X7_sign q9 (93 : Int32)).bind fun q10 => if q10.2 &&& 1 = q10.2 then (some (q10.1, q10.2)) else none)))) else ((f_X7_fail X (3 : Int32) (X 1 4)).bind fun q12 => if q12.2 &&& 1 = q12.2 then (some (q12.1, q12.2)) else none)
section
variable {G : GP} {l : Launch}
set_option maxRecDepth 20000 in
set_option maxHeartbeats 2000000 in
theorem c_X6_readAgain {rec : TX → Int32 → Option (TX × Int32)} {d : Nat} (hrec : ∀ {X M : TX} {L : TL} {x2 : Int32} {ro : TX × Int32}, rec X x2 = some ro → CTi G l yX6_readSteps cX6_readSteps 5 (some .boolean) (8 + 8 * d) (226 + 226 * d) [.ref (gA G 31), .ref (gA G 1), .int x2] X M L ro.1 M L ro.2)  {X M : TX} {L : TL} {x2 : Int32} {ro : TX × Int32} (hf : f_X6_readAgain rec X x2 = some ro) : CTi G l yX6_readAgain cX6_readAgain 4 (some .boolean) (9 + 8 * d) (250 + 226 * d) [.ref (gA G 31), .ref (gA G 1), .int x2] X M L ro.1 M L ro.2 := by
  unfold f_X6_readAgain at hf
  refine ct_of (by decide +kernel) (Nat.le_of_ble_eq_true rfl) (fun p e s m args below meth c H locs ls C hr hlk hw hl => ?_)
  have C : Cx G p s m args c cX6_readAgain 4 RX6 := C
  have hl : lv_has ls 4 [(0, .ref (gA G 31)), (1, .ref (gA G 1)), (2, .int x2)] := hl
  refine lv_iload_n C.1.1 C.1.2.1 dX6_readAgain_0 rfl (lv_at hl 2 rfl) ?_
  refine lv_bipush (v := (6 : Int32)) C.1.1 C.1.2.1 dX6_readAgain_1 rfl ?_
  refine lv_icmp_lt (tgt := 16) C.1.1 C.1.2.1 dX6_readAgain_3 (by decide) (fun c1 => ?_) (fun c1 => ?_)
  · have hf := o_t hf c1
    refine lv_aload_n C.1.1 C.1.2.1 dX6_readAgain_16 rfl (lv_at hl 0 rfl) ?_
    refine x_get C hw iX_31_1 flX6_15 dX6_readAgain_17 ?_
    refine lv_istore_n (lv' := [(3, .int (X 31 1)), (0, .ref (gA G 31)), (1, .ref (gA G 1)), (2, .int x2)]) C.1.1 C.1.2.1 dX6_readAgain_20 rfl hl (by decide) rfl (fun ls hl => ?_)
    refine lv_aload_n C.1.1 C.1.2.1 dX6_readAgain_21 rfl (lv_at hl 1 rfl) ?_
    refine lv_dup C.1.1 C.1.2.1 dX6_readAgain_22 rfl ?_
    refine x_get C hw iX_31_1 flX6_15 dX6_readAgain_23 ?_
    refine lv_iconst (v := (4 : Int32)) C.1.1 C.1.2.1 dX6_readAgain_26 rfl ?_
    refine lv_iadd C.1.1 C.1.2.1 dX6_readAgain_27 ?_
    refine x_put C hw iX_31_1 flX6_15 dX6_readAgain_28 (fun H locs hw => ?_)
    refine lv_aload_n C.1.1 C.1.2.1 dX6_readAgain_31 rfl (lv_at hl 1 rfl) ?_
    refine x_ref C hw fX_31_0 flX6_9 dX6_readAgain_32 ?_
    refine lv_iload_n C.1.1 C.1.2.1 dX6_readAgain_35 rfl (lv_at hl 0 rfl) ?_
    refine lv_iconst (v := (5 : Int32)) C.1.1 C.1.2.1 dX6_readAgain_36 rfl ?_
    obtain ⟨q2, h2, hf⟩ := o_bind hf
    refine aft_v hw (run_S C hw clX6_59 (As := [.ref (gA G 32), .int (X 31 1), .int (5 : Int32)]) (rest := []) (c_X8_put aX_32 h2) hl.1 rfl ⟨(by show 0 + 1 ≤ 9 + 8 * d; omega), (by show 8 + (3 + 11) + 0 ≤ 250 + 226 * d; omega)⟩ ⟨Nat.zero_le _, Nat.zero_le _⟩ rfl (Nat.le_of_ble_eq_true rfl) dX6_readAgain_37) (fun H locs hw => ?_)
    refine lv_aload_n C.1.1 C.1.2.1 dX6_readAgain_40 rfl (lv_at hl 1 rfl) ?_
    refine lv_aload_n C.1.1 C.1.2.1 dX6_readAgain_41 rfl (lv_at hl 2 rfl) ?_
    refine lv_bipush (v := (40 : Int32)) C.1.1 C.1.2.1 dX6_readAgain_42 rfl ?_
    refine lv_iload_n C.1.1 C.1.2.1 dX6_readAgain_44 rfl (lv_at hl 0 rfl) ?_
    refine lv_iconst (v := (1 : Int32)) C.1.1 C.1.2.1 dX6_readAgain_45 rfl ?_
    refine lv_iadd C.1.1 C.1.2.1 dX6_readAgain_46 ?_
    obtain ⟨q3, h3, hf⟩ := o_bind hf
    refine aft_i hw (run_VX C hw clX6_67 (As := [.ref (gA G 1), .int (40 : Int32), .int ((X 31 1) + (1 : Int32))]) (rest := []) oX_31 (c_X6_readNumber h3) rfl hl.1 rfl ⟨(by show 3 + 1 ≤ 9 + 8 * d; omega), (by show 8 + (4 + 11) + 62 ≤ 250 + 226 * d; omega)⟩ ⟨Nat.zero_le _, Nat.zero_le _⟩ rfl (Nat.le_of_ble_eq_true rfl) dX6_readAgain_47) (fun H locs hw => ?_)
    refine lv_if_eq (tgt := 73) C.1.1 C.1.2.1 dX6_readAgain_50 (by decide) (fun c4 => ?_) (fun c4 => ?_)
    · have hf := o_t hf c4
      refine lv_iconst (v := (0 : Int32)) C.1.1 C.1.2.1 dX6_readAgain_73 rfl ?_
      obtain rfl := Option.some.inj hf
      exact ret_z (r := (0 : Int32)) C hr hlk hw rfl dX6_readAgain_74
    · have hf := o_f hf c4
      refine lv_aload_n C.1.1 C.1.2.1 dX6_readAgain_53 rfl (lv_at hl 2 rfl) ?_
      refine lv_bipush (v := (91 : Int32)) C.1.1 C.1.2.1 dX6_readAgain_54 rfl ?_
      obtain ⟨q5, h5, hf⟩ := o_bind hf
      refine aft_i hw (run_VX C hw clX6_41 (As := [.int (91 : Int32)]) (rest := []) oX_1 (c_X7_sign h5) rfl hl.1 rfl ⟨(by show 2 + 1 ≤ 9 + 8 * d; omega), (by show 8 + (2 + 11) + 41 ≤ 250 + 226 * d; omega)⟩ ⟨Nat.zero_le _, Nat.zero_le _⟩ rfl (Nat.le_of_ble_eq_true rfl) dX6_readAgain_56) (fun H locs hw => ?_)
      refine lv_if_eq (tgt := 73) C.1.1 C.1.2.1 dX6_readAgain_59 (by decide) (fun c6 => ?_) (fun c6 => ?_)
      · have hf := o_t hf c6
        refine lv_iconst (v := (0 : Int32)) C.1.1 C.1.2.1 dX6_readAgain_73 rfl ?_
        obtain rfl := Option.some.inj hf
        exact ret_z (r := (0 : Int32)) C hr hlk hw rfl dX6_readAgain_74
      · have hf := o_f hf c6
        refine lv_aload_n C.1.1 C.1.2.1 dX6_readAgain_62 rfl (lv_at hl 1 rfl) ?_
        refine lv_aload_n C.1.1 C.1.2.1 dX6_readAgain_63 rfl (lv_at hl 2 rfl) ?_
        refine lv_iload_n C.1.1 C.1.2.1 dX6_readAgain_64 rfl (lv_at hl 3 rfl) ?_
        refine lv_iconst (v := (1 : Int32)) C.1.1 C.1.2.1 dX6_readAgain_65 rfl ?_
        refine lv_iadd C.1.1 C.1.2.1 dX6_readAgain_66 ?_
        obtain ⟨q7, h7, hf⟩ := o_bind hf
        refine aft_i hw (run_VX C hw clX6_80 (As := [.ref (gA G 1), .int (x2 + (1 : Int32))]) (rest := []) oX_31 (hrec h7) rfl hl.1 rfl ⟨(by show (8 + 8 * d) + 1 ≤ 9 + 8 * d; omega), (by show 8 + (5 + 11) + (226 + 226 * d) ≤ 250 + 226 * d; omega)⟩ ⟨Nat.zero_le _, Nat.zero_le _⟩ rfl (Nat.le_of_ble_eq_true rfl) dX6_readAgain_67) (fun H locs hw => ?_)
        refine lv_if_ne (tgt := 75) C.1.1 C.1.2.1 dX6_readAgain_70 (by decide) (fun c8 => ?_) (fun c8 => ?_)
        · have hf := o_f hf c8
          refine lv_aload_n C.1.1 C.1.2.1 dX6_readAgain_75 rfl (lv_at hl 1 rfl) ?_
          refine x_ref C hw fX_31_0 flX6_9 dX6_readAgain_76 ?_
          refine lv_iload_n C.1.1 C.1.2.1 dX6_readAgain_79 rfl (lv_at hl 0 rfl) ?_
          refine lv_iconst (v := (2 : Int32)) C.1.1 C.1.2.1 dX6_readAgain_80 rfl ?_
          refine lv_iadd C.1.1 C.1.2.1 dX6_readAgain_81 ?_
          refine lv_aload_n C.1.1 C.1.2.1 dX6_readAgain_82 rfl (lv_at hl 1 rfl) ?_
          refine x_get C hw iX_31_1 flX6_15 dX6_readAgain_83 ?_
          obtain ⟨q9, h9, hf⟩ := o_bind hf
          refine aft_v hw (run_S C hw clX6_59 (As := [.ref (gA G 32), .int ((X 31 1) + (2 : Int32)), .int (q7.1 31 1)]) (rest := []) (c_X8_put aX_32 h9) hl.1 rfl ⟨(by show 0 + 1 ≤ 9 + 8 * d; omega), (by show 8 + (3 + 11) + 0 ≤ 250 + 226 * d; omega)⟩ ⟨Nat.zero_le _, Nat.zero_le _⟩ rfl (Nat.le_of_ble_eq_true rfl) dX6_readAgain_86) (fun H locs hw => ?_)
          refine lv_aload_n C.1.1 C.1.2.1 dX6_readAgain_89 rfl (lv_at hl 2 rfl) ?_
          refine lv_bipush (v := (93 : Int32)) C.1.1 C.1.2.1 dX6_readAgain_90 rfl ?_
          obtain ⟨q10, h10, hf⟩ := o_bind hf
          refine aft_i hw (run_VX C hw clX6_41 (As := [.int (93 : Int32)]) (rest := []) oX_1 (c_X7_sign h10) rfl hl.1 rfl ⟨(by show 2 + 1 ≤ 9 + 8 * d; omega), (by show 8 + (2 + 11) + 41 ≤ 250 + 226 * d; omega)⟩ ⟨Nat.zero_le _, Nat.zero_le _⟩ rfl (Nat.le_of_ble_eq_true rfl) dX6_readAgain_92) (fun H locs hw => ?_)
          have g11 := (o_g hf).1
          have hf := (o_g hf).2
          obtain rfl := Option.some.inj hf
          exact ret_z (r := q10.2) C hr hlk hw (nar_z g11) dX6_readAgain_95
        · have hf := o_t hf c8
          refine lv_iconst (v := (0 : Int32)) C.1.1 C.1.2.1 dX6_readAgain_73 rfl ?_
          obtain rfl := Option.some.inj hf
          exact ret_z (r := (0 : Int32)) C hr hlk hw rfl dX6_readAgain_74
  · have hf := o_f hf c1
    refine lv_aload_n C.1.1 C.1.2.1 dX6_readAgain_6 rfl (lv_at hl 1 rfl) ?_
    refine lv_iconst (v := (3 : Int32)) C.1.1 C.1.2.1 dX6_readAgain_7 rfl ?_
    refine lv_aload_n C.1.1 C.1.2.1 dX6_readAgain_8 rfl (lv_at hl 1 rfl) ?_
    refine x_get C hw iX_1_4 flX6_73 dX6_readAgain_9 ?_
    obtain ⟨q12, h12, hf⟩ := o_bind hf
    refine aft_i hw (run_VX C hw clX6_76 (As := [.int (3 : Int32), .int (X 1 4)]) (rest := []) oX_1 (c_X7_fail h12) rfl hl.1 rfl ⟨(by show 0 + 1 ≤ 9 + 8 * d; omega), (by show 8 + (3 + 11) + 0 ≤ 250 + 226 * d; omega)⟩ ⟨Nat.zero_le _, Nat.zero_le _⟩ rfl (Nat.le_of_ble_eq_true rfl) dX6_readAgain_12) (fun H locs hw => ?_)
    have g13 := (o_g hf).1
    have hf := (o_g hf).2
    obtain rfl := Option.some.inj hf
    exact ret_z (r := q12.2) C hr hlk hw (nar_z g13) dX6_readAgain_15
end
/-! WinnerDraws$Plan.readStep(LWinnerDraws$Text;I)Z (('o', 'X', 31) ('o', 'X', 1) ('i',)) -/
def f_X6_readStep (rec : TX → Int32 → Option (TX × Int32)) (X : TX) (x2 : Int32) : Option (TX × Int32) := (f_X7_word X).bind fun q1 => (f_X7_is 0 q1).bind fun q2 => if q2 = 0 then ((f_X7_is 16 (u2 q1 31 1 ((q1 31 1) + (4 : Int32)))).bind fun q4 => if q4 = 0 then ((f_X7_is 2 (u2 q1 31 1 ((q1 31 1) + (4 : Int32)))).bind fun q6 => if q6 = 0 then ((f_X7_is 7 (u2 q1 31 1 ((q1 31 1) + (4 : Int32)))).bind fun q8 => if q8 = 0 then ((f_X7_is 1 (u2 q1 31 1 ((q1 31 1) + (4 : Int32)))).bind fun q10 => if q10 = 0 then ((f_X7_fail (u2 q1 31 1 ((q1 31 1) + (4 : Int32))) (1 : Int32) ((u2 q1 31 1 ((q1 31 1) + (4 : Int32))) 1 4)).bind fun q12 => if q12.2 &&& 1 = q12.2 then (some (q12.1, q12.2)) else none) else ((f_X8_put 32 (u2 q1 31 1 ((q1 31 1) + (4 : Int32))) (q1 31 1) (4 : Int32)).bind fun q14 => (f_X6_readNumber q14 ((q14 31 2) - (1 : Int32)) ((q1 31 1) + (1 : Int32))).bind fun q15 => if q15.2 = 0 then (some (q15.1, (0 : Int32))) else ((f_X6_readNumber q15.1 (99 : Int32) ((q1 31 1) + (2 : Int32))).bind fun q17 => if q17.2 = 0 then (some (q17.1, (0 : Int32))) else ((f_X6_readNumber q17.1 (99 : Int32) ((q1 31 1) + (3 : Int32))).bind fun q19 => if q19.2 = 0 then (some (q19.1, (0 : Int32))) else (some (q19.1, (1 : Int32))))))) else ((f_X8_put 32 (u2 q1 31 1 ((q1 31 1) + (4 : Int32))) (q1 31 1) (3 : Int32)).bind fun q21 => (f_X6_readNumber q21 ((q21 31 2) - (1 : Int32)) ((q1 31 1) + (1 : Int32))).bind fun q22 => if q22.2 = 0 then (some (q22.1, (0 : Int32))) else ((f_X6_readNumber q22.1 (3 : Int32) ((q1 31 1) + (2 : Int32))).bind fun q24 => if q24.2 = 0 then (some (q24.1, (0 : Int32))) else (some (q24.1, (1 : Int32)))))) else ((f_X8_put 32 (u2 q1 31 1 ((q1 31 1) + (4 : Int32))) (q1 31 1) (2 : Int32)).bind fun q26 => some (q26, (1 : Int32)))) else ((f_X8_put 32 (u2 q1 31 1 ((q1 31 1) + (4 : Int32))) (q1 31 1) (1 : Int32)).bind fun q27 => some (q27, (1 : Int32)))) else ((f_X6_readAgain rec q1 x2).bind fun q28 => if q28.2 &&& 1 = q28.2 then (some (q28.1, q28.2)) else none)
section
variable {G : GP} {l : Launch}
set_option maxRecDepth 20000 in
set_option maxHeartbeats 2000000 in
theorem c_X6_readStep {rec : TX → Int32 → Option (TX × Int32)} {d : Nat} (hrec : ∀ {X M : TX} {L : TL} {x2 : Int32} {ro : TX × Int32}, rec X x2 = some ro → CTi G l yX6_readSteps cX6_readSteps 5 (some .boolean) (8 + 8 * d) (226 + 226 * d) [.ref (gA G 31), .ref (gA G 1), .int x2] X M L ro.1 M L ro.2)  {X M : TX} {L : TL} {x2 : Int32} {ro : TX × Int32} (hf : f_X6_readStep rec X x2 = some ro) : CTi G l yX6_readStep cX6_readStep 4 (some .boolean) (10 + 8 * d) (273 + 226 * d) [.ref (gA G 31), .ref (gA G 1), .int x2] X M L ro.1 M L ro.2 := by
  unfold f_X6_readStep at hf
  refine ct_of (by decide +kernel) (Nat.le_of_ble_eq_true rfl) (fun p e s m args below meth c H locs ls C hr hlk hw hl => ?_)
  have C : Cx G p s m args c cX6_readStep 4 RX6 := C
  have hl : lv_has ls 4 [(0, .ref (gA G 31)), (1, .ref (gA G 1)), (2, .int x2)] := hl
  refine lv_aload_n C.1.1 C.1.2.1 dX6_readStep_0 rfl (lv_at hl 1 rfl) ?_
  obtain ⟨q1, h1, hf⟩ := o_bind hf
  refine aft_v hw (run_VX C hw clX6_45 (As := []) (rest := []) oX_1 (c_X7_word h1) rfl hl.1 rfl ⟨(by show 2 + 1 ≤ 10 + 8 * d; omega), (by show 8 + (1 + 11) + 41 ≤ 273 + 226 * d; omega)⟩ ⟨Nat.zero_le _, Nat.zero_le _⟩ rfl (Nat.le_of_ble_eq_true rfl) dX6_readStep_1) (fun H locs hw => ?_)
  refine lv_aload_n C.1.1 C.1.2.1 dX6_readStep_4 rfl (lv_at hl 1 rfl) ?_
  refine x_ldcS C (i := 0) (tx := "again") (List.mem_of_getElem? (i := 14) rfl) dX6_readStep_5 ?_
  obtain ⟨q2, h2, hf⟩ := o_bind hf
  refine aft_i hw (run_VX C hw clX6_50 (As := [.ref (gK G 0)]) (rest := []) oX_1 (c_X7_is (by decide) h2) rfl hl.1 rfl ⟨(by show 6 + 1 ≤ 10 + 8 * d; omega), (by show 8 + (3 + 11) + 181 ≤ 273 + 226 * d; omega)⟩ ⟨Nat.zero_le _, Nat.zero_le _⟩ rfl (Nat.le_of_ble_eq_true rfl) dX6_readStep_7) (fun H locs hw => ?_)
  refine lv_if_eq (tgt := 20) C.1.1 C.1.2.1 dX6_readStep_10 (by decide) (fun c3 => ?_) (fun c3 => ?_)
  · have hf := o_t hf c3
    refine lv_aload_n C.1.1 C.1.2.1 dX6_readStep_20 rfl (lv_at hl 0 rfl) ?_
    refine x_get C hw iX_31_1 flX6_15 dX6_readStep_21 ?_
    refine lv_istore_n (lv' := [(3, .int (q1 31 1)), (0, .ref (gA G 31)), (1, .ref (gA G 1)), (2, .int x2)]) C.1.1 C.1.2.1 dX6_readStep_24 rfl hl (by decide) rfl (fun ls hl => ?_)
    refine lv_aload_n C.1.1 C.1.2.1 dX6_readStep_25 rfl (lv_at hl 1 rfl) ?_
    refine lv_dup C.1.1 C.1.2.1 dX6_readStep_26 rfl ?_
    refine x_get C hw iX_31_1 flX6_15 dX6_readStep_27 ?_
    refine lv_iconst (v := (4 : Int32)) C.1.1 C.1.2.1 dX6_readStep_30 rfl ?_
    refine lv_iadd C.1.1 C.1.2.1 dX6_readStep_31 ?_
    refine x_put C hw iX_31_1 flX6_15 dX6_readStep_32 (fun H locs hw => ?_)
    refine lv_aload_n C.1.1 C.1.2.1 dX6_readStep_35 rfl (lv_at hl 2 rfl) ?_
    refine x_ldcS C (i := 16) (tx := "vote") (List.mem_of_getElem? (i := 15) rfl) dX6_readStep_36 ?_
    obtain ⟨q4, h4, hf⟩ := o_bind hf
    refine aft_i hw (run_VX C hw clX6_50 (As := [.ref (gK G 16)]) (rest := []) oX_1 (c_X7_is (by decide) h4) rfl hl.1 rfl ⟨(by show 6 + 1 ≤ 10 + 8 * d; omega), (by show 8 + (3 + 11) + 181 ≤ 273 + 226 * d; omega)⟩ ⟨Nat.zero_le _, Nat.zero_le _⟩ rfl (Nat.le_of_ble_eq_true rfl) dX6_readStep_38) (fun H locs hw => ?_)
    refine lv_if_eq (tgt := 55) C.1.1 C.1.2.1 dX6_readStep_41 (by decide) (fun c5 => ?_) (fun c5 => ?_)
    · have hf := o_t hf c5
      refine lv_aload_n C.1.1 C.1.2.1 dX6_readStep_55 rfl (lv_at hl 2 rfl) ?_
      refine x_ldcS C (i := 2) (tx := "draw") (List.mem_of_getElem? (i := 16) rfl) dX6_readStep_56 ?_
      obtain ⟨q6, h6, hf⟩ := o_bind hf
      refine aft_i hw (run_VX C hw clX6_50 (As := [.ref (gK G 2)]) (rest := []) oX_1 (c_X7_is (by decide) h6) rfl hl.1 rfl ⟨(by show 6 + 1 ≤ 10 + 8 * d; omega), (by show 8 + (3 + 11) + 181 ≤ 273 + 226 * d; omega)⟩ ⟨Nat.zero_le _, Nat.zero_le _⟩ rfl (Nat.le_of_ble_eq_true rfl) dX6_readStep_58) (fun H locs hw => ?_)
      refine lv_if_eq (tgt := 75) C.1.1 C.1.2.1 dX6_readStep_61 (by decide) (fun c7 => ?_) (fun c7 => ?_)
      · have hf := o_t hf c7
        refine lv_aload_n C.1.1 C.1.2.1 dX6_readStep_75 rfl (lv_at hl 2 rfl) ?_
        refine x_ldcS C (i := 7) (tx := "move") (List.mem_of_getElem? (i := 17) rfl) dX6_readStep_76 ?_
        obtain ⟨q8, h8, hf⟩ := o_bind hf
        refine aft_i hw (run_VX C hw clX6_50 (As := [.ref (gK G 7)]) (rest := []) oX_1 (c_X7_is (by decide) h8) rfl hl.1 rfl ⟨(by show 6 + 1 ≤ 10 + 8 * d; omega), (by show 8 + (3 + 11) + 181 ≤ 273 + 226 * d; omega)⟩ ⟨Nat.zero_le _, Nat.zero_le _⟩ rfl (Nat.le_of_ble_eq_true rfl) dX6_readStep_78) (fun H locs hw => ?_)
        refine lv_if_eq (tgt := 128) C.1.1 C.1.2.1 dX6_readStep_81 (by decide) (fun c9 => ?_) (fun c9 => ?_)
        · have hf := o_t hf c9
          refine lv_aload_n C.1.1 C.1.2.1 dX6_readStep_128 rfl (lv_at hl 2 rfl) ?_
          refine x_ldcS C (i := 1) (tx := "count") (List.mem_of_getElem? (i := 18) rfl) dX6_readStep_129 ?_
          obtain ⟨q10, h10, hf⟩ := o_bind hf
          refine aft_i hw (run_VX C hw clX6_50 (As := [.ref (gK G 1)]) (rest := []) oX_1 (c_X7_is (by decide) h10) rfl hl.1 rfl ⟨(by show 6 + 1 ≤ 10 + 8 * d; omega), (by show 8 + (3 + 11) + 181 ≤ 273 + 226 * d; omega)⟩ ⟨Nat.zero_le _, Nat.zero_le _⟩ rfl (Nat.le_of_ble_eq_true rfl) dX6_readStep_131) (fun H locs hw => ?_)
          refine lv_if_eq (tgt := 195) C.1.1 C.1.2.1 dX6_readStep_134 (by decide) (fun c11 => ?_) (fun c11 => ?_)
          · have hf := o_t hf c11
            refine lv_aload_n C.1.1 C.1.2.1 dX6_readStep_195 rfl (lv_at hl 2 rfl) ?_
            refine lv_iconst (v := (1 : Int32)) C.1.1 C.1.2.1 dX6_readStep_196 rfl ?_
            refine lv_aload_n C.1.1 C.1.2.1 dX6_readStep_197 rfl (lv_at hl 2 rfl) ?_
            refine x_get C hw iX_1_4 flX6_73 dX6_readStep_198 ?_
            obtain ⟨q12, h12, hf⟩ := o_bind hf
            refine aft_i hw (run_VX C hw clX6_76 (As := [.int (1 : Int32), .int ((u2 q1 31 1 ((q1 31 1) + (4 : Int32))) 1 4)]) (rest := []) oX_1 (c_X7_fail h12) rfl hl.1 rfl ⟨(by show 0 + 1 ≤ 10 + 8 * d; omega), (by show 8 + (3 + 11) + 0 ≤ 273 + 226 * d; omega)⟩ ⟨Nat.zero_le _, Nat.zero_le _⟩ rfl (Nat.le_of_ble_eq_true rfl) dX6_readStep_201) (fun H locs hw => ?_)
            have g13 := (o_g hf).1
            have hf := (o_g hf).2
            obtain rfl := Option.some.inj hf
            exact ret_z (r := q12.2) C hr hlk hw (nar_z g13) dX6_readStep_204
          · have hf := o_f hf c11
            refine lv_aload_n C.1.1 C.1.2.1 dX6_readStep_137 rfl (lv_at hl 1 rfl) ?_
            refine x_ref C hw fX_31_0 flX6_9 dX6_readStep_138 ?_
            refine lv_iload_n C.1.1 C.1.2.1 dX6_readStep_141 rfl (lv_at hl 0 rfl) ?_
            refine lv_iconst (v := (4 : Int32)) C.1.1 C.1.2.1 dX6_readStep_142 rfl ?_
            obtain ⟨q14, h14, hf⟩ := o_bind hf
            refine aft_v hw (run_S C hw clX6_59 (As := [.ref (gA G 32), .int (q1 31 1), .int (4 : Int32)]) (rest := []) (c_X8_put aX_32 h14) hl.1 rfl ⟨(by show 0 + 1 ≤ 10 + 8 * d; omega), (by show 8 + (3 + 11) + 0 ≤ 273 + 226 * d; omega)⟩ ⟨Nat.zero_le _, Nat.zero_le _⟩ rfl (Nat.le_of_ble_eq_true rfl) dX6_readStep_143) (fun H locs hw => ?_)
            refine lv_aload_n C.1.1 C.1.2.1 dX6_readStep_146 rfl (lv_at hl 1 rfl) ?_
            refine lv_aload_n C.1.1 C.1.2.1 dX6_readStep_147 rfl (lv_at hl 2 rfl) ?_
            refine lv_aload_n C.1.1 C.1.2.1 dX6_readStep_148 rfl (lv_at hl 1 rfl) ?_
            refine x_get C hw iX_31_2 flX6_28 dX6_readStep_149 ?_
            refine lv_iconst (v := (1 : Int32)) C.1.1 C.1.2.1 dX6_readStep_152 rfl ?_
            refine lv_isub C.1.1 C.1.2.1 dX6_readStep_153 ?_
            refine lv_iload_n C.1.1 C.1.2.1 dX6_readStep_154 rfl (lv_at hl 0 rfl) ?_
            refine lv_iconst (v := (1 : Int32)) C.1.1 C.1.2.1 dX6_readStep_155 rfl ?_
            refine lv_iadd C.1.1 C.1.2.1 dX6_readStep_156 ?_
            obtain ⟨q15, h15, hf⟩ := o_bind hf
            refine aft_i hw (run_VX C hw clX6_67 (As := [.ref (gA G 1), .int ((q14 31 2) - (1 : Int32)), .int ((q1 31 1) + (1 : Int32))]) (rest := []) oX_31 (c_X6_readNumber h15) rfl hl.1 rfl ⟨(by show 3 + 1 ≤ 10 + 8 * d; omega), (by show 8 + (4 + 11) + 62 ≤ 273 + 226 * d; omega)⟩ ⟨Nat.zero_le _, Nat.zero_le _⟩ rfl (Nat.le_of_ble_eq_true rfl) dX6_readStep_157) (fun H locs hw => ?_)
            refine lv_if_eq (tgt := 193) C.1.1 C.1.2.1 dX6_readStep_160 (by decide) (fun c16 => ?_) (fun c16 => ?_)
            · have hf := o_t hf c16
              refine lv_iconst (v := (0 : Int32)) C.1.1 C.1.2.1 dX6_readStep_193 rfl ?_
              obtain rfl := Option.some.inj hf
              exact ret_z (r := (0 : Int32)) C hr hlk hw rfl dX6_readStep_194
            · have hf := o_f hf c16
              refine lv_aload_n C.1.1 C.1.2.1 dX6_readStep_163 rfl (lv_at hl 1 rfl) ?_
              refine lv_aload_n C.1.1 C.1.2.1 dX6_readStep_164 rfl (lv_at hl 2 rfl) ?_
              refine lv_bipush (v := (99 : Int32)) C.1.1 C.1.2.1 dX6_readStep_165 rfl ?_
              refine lv_iload_n C.1.1 C.1.2.1 dX6_readStep_167 rfl (lv_at hl 0 rfl) ?_
              refine lv_iconst (v := (2 : Int32)) C.1.1 C.1.2.1 dX6_readStep_168 rfl ?_
              refine lv_iadd C.1.1 C.1.2.1 dX6_readStep_169 ?_
              obtain ⟨q17, h17, hf⟩ := o_bind hf
              refine aft_i hw (run_VX C hw clX6_67 (As := [.ref (gA G 1), .int (99 : Int32), .int ((q1 31 1) + (2 : Int32))]) (rest := []) oX_31 (c_X6_readNumber h17) rfl hl.1 rfl ⟨(by show 3 + 1 ≤ 10 + 8 * d; omega), (by show 8 + (4 + 11) + 62 ≤ 273 + 226 * d; omega)⟩ ⟨Nat.zero_le _, Nat.zero_le _⟩ rfl (Nat.le_of_ble_eq_true rfl) dX6_readStep_170) (fun H locs hw => ?_)
              refine lv_if_eq (tgt := 193) C.1.1 C.1.2.1 dX6_readStep_173 (by decide) (fun c18 => ?_) (fun c18 => ?_)
              · have hf := o_t hf c18
                refine lv_iconst (v := (0 : Int32)) C.1.1 C.1.2.1 dX6_readStep_193 rfl ?_
                obtain rfl := Option.some.inj hf
                exact ret_z (r := (0 : Int32)) C hr hlk hw rfl dX6_readStep_194
              · have hf := o_f hf c18
                refine lv_aload_n C.1.1 C.1.2.1 dX6_readStep_176 rfl (lv_at hl 1 rfl) ?_
                refine lv_aload_n C.1.1 C.1.2.1 dX6_readStep_177 rfl (lv_at hl 2 rfl) ?_
                refine lv_bipush (v := (99 : Int32)) C.1.1 C.1.2.1 dX6_readStep_178 rfl ?_
                refine lv_iload_n C.1.1 C.1.2.1 dX6_readStep_180 rfl (lv_at hl 0 rfl) ?_
                refine lv_iconst (v := (3 : Int32)) C.1.1 C.1.2.1 dX6_readStep_181 rfl ?_
                refine lv_iadd C.1.1 C.1.2.1 dX6_readStep_182 ?_
                obtain ⟨q19, h19, hf⟩ := o_bind hf
                refine aft_i hw (run_VX C hw clX6_67 (As := [.ref (gA G 1), .int (99 : Int32), .int ((q1 31 1) + (3 : Int32))]) (rest := []) oX_31 (c_X6_readNumber h19) rfl hl.1 rfl ⟨(by show 3 + 1 ≤ 10 + 8 * d; omega), (by show 8 + (4 + 11) + 62 ≤ 273 + 226 * d; omega)⟩ ⟨Nat.zero_le _, Nat.zero_le _⟩ rfl (Nat.le_of_ble_eq_true rfl) dX6_readStep_183) (fun H locs hw => ?_)
                refine lv_if_eq (tgt := 193) C.1.1 C.1.2.1 dX6_readStep_186 (by decide) (fun c20 => ?_) (fun c20 => ?_)
                · have hf := o_t hf c20
                  refine lv_iconst (v := (0 : Int32)) C.1.1 C.1.2.1 dX6_readStep_193 rfl ?_
                  obtain rfl := Option.some.inj hf
                  exact ret_z (r := (0 : Int32)) C hr hlk hw rfl dX6_readStep_194
                · have hf := o_f hf c20
                  refine lv_iconst (v := (1 : Int32)) C.1.1 C.1.2.1 dX6_readStep_189 rfl ?_
                  refine lv_goto (tgt := 194) C.1.1 C.1.2.1 dX6_readStep_190 (by decide) ?_
                  obtain rfl := Option.some.inj hf
                  exact ret_z (r := (1 : Int32)) C hr hlk hw rfl dX6_readStep_194
        · have hf := o_f hf c9
          refine lv_aload_n C.1.1 C.1.2.1 dX6_readStep_84 rfl (lv_at hl 1 rfl) ?_
          refine x_ref C hw fX_31_0 flX6_9 dX6_readStep_85 ?_
          refine lv_iload_n C.1.1 C.1.2.1 dX6_readStep_88 rfl (lv_at hl 0 rfl) ?_
          refine lv_iconst (v := (3 : Int32)) C.1.1 C.1.2.1 dX6_readStep_89 rfl ?_
          obtain ⟨q21, h21, hf⟩ := o_bind hf
          refine aft_v hw (run_S C hw clX6_59 (As := [.ref (gA G 32), .int (q1 31 1), .int (3 : Int32)]) (rest := []) (c_X8_put aX_32 h21) hl.1 rfl ⟨(by show 0 + 1 ≤ 10 + 8 * d; omega), (by show 8 + (3 + 11) + 0 ≤ 273 + 226 * d; omega)⟩ ⟨Nat.zero_le _, Nat.zero_le _⟩ rfl (Nat.le_of_ble_eq_true rfl) dX6_readStep_90) (fun H locs hw => ?_)
          refine lv_aload_n C.1.1 C.1.2.1 dX6_readStep_93 rfl (lv_at hl 1 rfl) ?_
          refine lv_aload_n C.1.1 C.1.2.1 dX6_readStep_94 rfl (lv_at hl 2 rfl) ?_
          refine lv_aload_n C.1.1 C.1.2.1 dX6_readStep_95 rfl (lv_at hl 1 rfl) ?_
          refine x_get C hw iX_31_2 flX6_28 dX6_readStep_96 ?_
          refine lv_iconst (v := (1 : Int32)) C.1.1 C.1.2.1 dX6_readStep_99 rfl ?_
          refine lv_isub C.1.1 C.1.2.1 dX6_readStep_100 ?_
          refine lv_iload_n C.1.1 C.1.2.1 dX6_readStep_101 rfl (lv_at hl 0 rfl) ?_
          refine lv_iconst (v := (1 : Int32)) C.1.1 C.1.2.1 dX6_readStep_102 rfl ?_
          refine lv_iadd C.1.1 C.1.2.1 dX6_readStep_103 ?_
          obtain ⟨q22, h22, hf⟩ := o_bind hf
          refine aft_i hw (run_VX C hw clX6_67 (As := [.ref (gA G 1), .int ((q21 31 2) - (1 : Int32)), .int ((q1 31 1) + (1 : Int32))]) (rest := []) oX_31 (c_X6_readNumber h22) rfl hl.1 rfl ⟨(by show 3 + 1 ≤ 10 + 8 * d; omega), (by show 8 + (4 + 11) + 62 ≤ 273 + 226 * d; omega)⟩ ⟨Nat.zero_le _, Nat.zero_le _⟩ rfl (Nat.le_of_ble_eq_true rfl) dX6_readStep_104) (fun H locs hw => ?_)
          refine lv_if_eq (tgt := 126) C.1.1 C.1.2.1 dX6_readStep_107 (by decide) (fun c23 => ?_) (fun c23 => ?_)
          · have hf := o_t hf c23
            refine lv_iconst (v := (0 : Int32)) C.1.1 C.1.2.1 dX6_readStep_126 rfl ?_
            obtain rfl := Option.some.inj hf
            exact ret_z (r := (0 : Int32)) C hr hlk hw rfl dX6_readStep_127
          · have hf := o_f hf c23
            refine lv_aload_n C.1.1 C.1.2.1 dX6_readStep_110 rfl (lv_at hl 1 rfl) ?_
            refine lv_aload_n C.1.1 C.1.2.1 dX6_readStep_111 rfl (lv_at hl 2 rfl) ?_
            refine lv_iconst (v := (3 : Int32)) C.1.1 C.1.2.1 dX6_readStep_112 rfl ?_
            refine lv_iload_n C.1.1 C.1.2.1 dX6_readStep_113 rfl (lv_at hl 0 rfl) ?_
            refine lv_iconst (v := (2 : Int32)) C.1.1 C.1.2.1 dX6_readStep_114 rfl ?_
            refine lv_iadd C.1.1 C.1.2.1 dX6_readStep_115 ?_
            obtain ⟨q24, h24, hf⟩ := o_bind hf
            refine aft_i hw (run_VX C hw clX6_67 (As := [.ref (gA G 1), .int (3 : Int32), .int ((q1 31 1) + (2 : Int32))]) (rest := []) oX_31 (c_X6_readNumber h24) rfl hl.1 rfl ⟨(by show 3 + 1 ≤ 10 + 8 * d; omega), (by show 8 + (4 + 11) + 62 ≤ 273 + 226 * d; omega)⟩ ⟨Nat.zero_le _, Nat.zero_le _⟩ rfl (Nat.le_of_ble_eq_true rfl) dX6_readStep_116) (fun H locs hw => ?_)
            refine lv_if_eq (tgt := 126) C.1.1 C.1.2.1 dX6_readStep_119 (by decide) (fun c25 => ?_) (fun c25 => ?_)
            · have hf := o_t hf c25
              refine lv_iconst (v := (0 : Int32)) C.1.1 C.1.2.1 dX6_readStep_126 rfl ?_
              obtain rfl := Option.some.inj hf
              exact ret_z (r := (0 : Int32)) C hr hlk hw rfl dX6_readStep_127
            · have hf := o_f hf c25
              refine lv_iconst (v := (1 : Int32)) C.1.1 C.1.2.1 dX6_readStep_122 rfl ?_
              refine lv_goto (tgt := 127) C.1.1 C.1.2.1 dX6_readStep_123 (by decide) ?_
              obtain rfl := Option.some.inj hf
              exact ret_z (r := (1 : Int32)) C hr hlk hw rfl dX6_readStep_127
      · have hf := o_f hf c7
        refine lv_aload_n C.1.1 C.1.2.1 dX6_readStep_64 rfl (lv_at hl 1 rfl) ?_
        refine x_ref C hw fX_31_0 flX6_9 dX6_readStep_65 ?_
        refine lv_iload_n C.1.1 C.1.2.1 dX6_readStep_68 rfl (lv_at hl 0 rfl) ?_
        refine lv_iconst (v := (2 : Int32)) C.1.1 C.1.2.1 dX6_readStep_69 rfl ?_
        obtain ⟨q26, h26, hf⟩ := o_bind hf
        refine aft_v hw (run_S C hw clX6_59 (As := [.ref (gA G 32), .int (q1 31 1), .int (2 : Int32)]) (rest := []) (c_X8_put aX_32 h26) hl.1 rfl ⟨(by show 0 + 1 ≤ 10 + 8 * d; omega), (by show 8 + (3 + 11) + 0 ≤ 273 + 226 * d; omega)⟩ ⟨Nat.zero_le _, Nat.zero_le _⟩ rfl (Nat.le_of_ble_eq_true rfl) dX6_readStep_70) (fun H locs hw => ?_)
        refine lv_iconst (v := (1 : Int32)) C.1.1 C.1.2.1 dX6_readStep_73 rfl ?_
        obtain rfl := Option.some.inj hf
        exact ret_z (r := (1 : Int32)) C hr hlk hw rfl dX6_readStep_74
    · have hf := o_f hf c5
      refine lv_aload_n C.1.1 C.1.2.1 dX6_readStep_44 rfl (lv_at hl 1 rfl) ?_
      refine x_ref C hw fX_31_0 flX6_9 dX6_readStep_45 ?_
      refine lv_iload_n C.1.1 C.1.2.1 dX6_readStep_48 rfl (lv_at hl 0 rfl) ?_
      refine lv_iconst (v := (1 : Int32)) C.1.1 C.1.2.1 dX6_readStep_49 rfl ?_
      obtain ⟨q27, h27, hf⟩ := o_bind hf
      refine aft_v hw (run_S C hw clX6_59 (As := [.ref (gA G 32), .int (q1 31 1), .int (1 : Int32)]) (rest := []) (c_X8_put aX_32 h27) hl.1 rfl ⟨(by show 0 + 1 ≤ 10 + 8 * d; omega), (by show 8 + (3 + 11) + 0 ≤ 273 + 226 * d; omega)⟩ ⟨Nat.zero_le _, Nat.zero_le _⟩ rfl (Nat.le_of_ble_eq_true rfl) dX6_readStep_50) (fun H locs hw => ?_)
      refine lv_iconst (v := (1 : Int32)) C.1.1 C.1.2.1 dX6_readStep_53 rfl ?_
      obtain rfl := Option.some.inj hf
      exact ret_z (r := (1 : Int32)) C hr hlk hw rfl dX6_readStep_54
  · have hf := o_f hf c3
    refine lv_aload_n C.1.1 C.1.2.1 dX6_readStep_13 rfl (lv_at hl 0 rfl) ?_
    refine lv_aload_n C.1.1 C.1.2.1 dX6_readStep_14 rfl (lv_at hl 1 rfl) ?_
    refine lv_iload_n C.1.1 C.1.2.1 dX6_readStep_15 rfl (lv_at hl 2 rfl) ?_
    obtain ⟨q28, h28, hf⟩ := o_bind hf
    refine aft_i hw (run_VX C hw clX6_54 (As := [.ref (gA G 1), .int x2]) (rest := []) oX_31 (c_X6_readAgain hrec h28) rfl hl.1 rfl ⟨(by show (9 + 8 * d) + 1 ≤ 10 + 8 * d; omega), (by show 8 + (4 + 11) + (250 + 226 * d) ≤ 273 + 226 * d; omega)⟩ ⟨Nat.zero_le _, Nat.zero_le _⟩ rfl (Nat.le_of_ble_eq_true rfl) dX6_readStep_16) (fun H locs hw => ?_)
    have g29 := (o_g hf).1
    have hf := (o_g hf).2
    obtain rfl := Option.some.inj hf
    exact ret_z (r := q28.2) C hr hlk hw (nar_z g29) dX6_readStep_19
end
/-! WinnerDraws$Plan.readSteps(LWinnerDraws$Text;I)Z (('o', 'X', 31) ('o', 'X', 1) ('i',)) -/
def L_X6_readSteps_14 (rec : TX → Int32 → Option (TX × Int32)) : Nat → TX → Int32 → Int32 → Int32 → Option (TX × Int32)
  | 0 => fun _ _ _ _ => none
  | n + 1 => fun X x2 x3 x4 => if (150 : Int32) ≤ x4 then (some (X, (1 : Int32))) else ((f_X7_ahead X).bind fun q3 => if q3.2 = x3 then (some (q3.1, (1 : Int32))) else ((f_X6_readStep rec q3.1 x2).bind fun q5 => if q5.2 = 0 then (some (q5.1, (0 : Int32))) else ((f_X7_sign q5.1 (59 : Int32)).bind fun q7 => if q7.2 = 0 then (some (q7.1, (0 : Int32))) else ((L_X6_readSteps_14 rec n) q7.1 x2 x3 (x4 + (1 : Int32))))))
def f_X6_readSteps : Nat → TX → Int32 → Option (TX × Int32)
  | 0 => fun _ _ => none
  | d + 1 => fun X x2 => if x2 = 0 then (L_X6_readSteps_14 (f_X6_readSteps d) FU X x2 (-1 : Int32) (0 : Int32)) else (L_X6_readSteps_14 (f_X6_readSteps d) FU X x2 (93 : Int32) (0 : Int32))
section
variable {G : GP} {l : Launch}
set_option maxRecDepth 20000 in
set_option maxHeartbeats 2000000 in
theorem wL_X6_readSteps_14 {rec : TX → Int32 → Option (TX × Int32)} {d : Nat} (hrec : ∀ {X M : TX} {L : TL} {x2 : Int32} {ro : TX × Int32}, rec X x2 = some ro → CTi G l yX6_readSteps cX6_readSteps 5 (some .boolean) (8 + 8 * d) (226 + 226 * d) [.ref (gA G 31), .ref (gA G 1), .int x2] X M L ro.1 M L ro.2) {p : Program} {e : Env} {s : State} {m : MethodId} {args : Array Value} {below : List Frame} {meth : Method} {c : Code} (C : Cx G p s m args c cX6_readSteps 5 RX6) (hr : meth.sig.returnType = (some .boolean)) (hlk : meth.locks = false) {ro : TX × Int32} : ∀ (n : Nat), ∀ (X : TX) (M : TX) (L : TL) (x2 : Int32) (x3 : Int32) (x4 : Int32) (H : Heap) (locs : List Loc) (ls : Array Slot), Wh G s X M L H locs → lv_has ls 5 [(0, .ref (gA G 31)), (1, .ref (gA G 1)), (2, .int x2), (3, .int x3), (4, .int x4)] → L_X6_readSteps_14 rec n X x2 x3 x4 = some ro → W p l e (rz (8 + 8 * (d + 1)) (226 + 226 * (d + 1))) s m args below meth c H locs 0 0 (MQ below (Di G ro.1 M L ro.2) args s 0 0 (AB G)) (F0 m 14 ls []) := by
  intro n
  induction n with
  | zero =>
    intro X M L x2 x3 x4 H locs ls hw hl hf
    cases hf
  | succ n hk_14 =>
    intro X M L x2 x3 x4 H locs ls hw hl hf
    rw [L_X6_readSteps_14] at hf
    refine lv_iload C.1.1 C.1.2.1 dX6_readSteps_14 (lv_at hl 4 rfl) ?_
    refine lv_sipush (v := (150 : Int32)) C.1.1 C.1.2.1 dX6_readSteps_16 rfl ?_
    refine lv_icmp_ge (tgt := 58) C.1.1 C.1.2.1 dX6_readSteps_19 (by decide) (fun c2 => ?_) (fun c2 => ?_)
    · have hf := o_t hf c2
      refine lv_iconst (v := (1 : Int32)) C.1.1 C.1.2.1 dX6_readSteps_58 rfl ?_
      obtain rfl := Option.some.inj hf
      exact ret_z (r := (1 : Int32)) C hr hlk hw rfl dX6_readSteps_59
    · have hf := o_f hf c2
      refine lv_aload_n C.1.1 C.1.2.1 dX6_readSteps_22 rfl (lv_at hl 1 rfl) ?_
      obtain ⟨q3, h3, hf⟩ := o_bind hf
      refine aft_i hw (run_VX C hw clX6_31 (As := []) (rest := []) oX_1 (c_X7_ahead h3) rfl hl.1 rfl ⟨(by show 1 + 1 ≤ 8 + 8 * (d + 1); omega), (by show 8 + (1 + 11) + 21 ≤ 226 + 226 * (d + 1); omega)⟩ ⟨Nat.zero_le _, Nat.zero_le _⟩ rfl (Nat.le_of_ble_eq_true rfl) dX6_readSteps_23) (fun H locs hw => ?_)
      refine lv_iload_n C.1.1 C.1.2.1 dX6_readSteps_26 rfl (lv_at hl 3 rfl) ?_
      refine lv_icmp_ne (tgt := 32) C.1.1 C.1.2.1 dX6_readSteps_27 (by decide) (fun c4 => ?_) (fun c4 => ?_)
      · have hf := o_f hf c4
        refine lv_aload_n C.1.1 C.1.2.1 dX6_readSteps_32 rfl (lv_at hl 0 rfl) ?_
        refine lv_aload_n C.1.1 C.1.2.1 dX6_readSteps_33 rfl (lv_at hl 1 rfl) ?_
        refine lv_iload_n C.1.1 C.1.2.1 dX6_readSteps_34 rfl (lv_at hl 2 rfl) ?_
        obtain ⟨q5, h5, hf⟩ := o_bind hf
        refine aft_i hw (run_VX C hw clX6_37 (As := [.ref (gA G 1), .int x2]) (rest := []) oX_31 (c_X6_readStep hrec h5) rfl hl.1 rfl ⟨(by show (10 + 8 * d) + 1 ≤ 8 + 8 * (d + 1); omega), (by show 8 + (4 + 11) + (273 + 226 * d) ≤ 226 + 226 * (d + 1); omega)⟩ ⟨Nat.zero_le _, Nat.zero_le _⟩ rfl (Nat.le_of_ble_eq_true rfl) dX6_readSteps_35) (fun H locs hw => ?_)
        refine lv_if_eq (tgt := 50) C.1.1 C.1.2.1 dX6_readSteps_38 (by decide) (fun c6 => ?_) (fun c6 => ?_)
        · have hf := o_t hf c6
          refine lv_iconst (v := (0 : Int32)) C.1.1 C.1.2.1 dX6_readSteps_50 rfl ?_
          obtain rfl := Option.some.inj hf
          exact ret_z (r := (0 : Int32)) C hr hlk hw rfl dX6_readSteps_51
        · have hf := o_f hf c6
          refine lv_aload_n C.1.1 C.1.2.1 dX6_readSteps_41 rfl (lv_at hl 1 rfl) ?_
          refine lv_bipush (v := (59 : Int32)) C.1.1 C.1.2.1 dX6_readSteps_42 rfl ?_
          obtain ⟨q7, h7, hf⟩ := o_bind hf
          refine aft_i hw (run_VX C hw clX6_41 (As := [.int (59 : Int32)]) (rest := []) oX_1 (c_X7_sign h7) rfl hl.1 rfl ⟨(by show 2 + 1 ≤ 8 + 8 * (d + 1); omega), (by show 8 + (2 + 11) + 41 ≤ 226 + 226 * (d + 1); omega)⟩ ⟨Nat.zero_le _, Nat.zero_le _⟩ rfl (Nat.le_of_ble_eq_true rfl) dX6_readSteps_44) (fun H locs hw => ?_)
          refine lv_if_ne (tgt := 52) C.1.1 C.1.2.1 dX6_readSteps_47 (by decide) (fun c8 => ?_) (fun c8 => ?_)
          · have hf := o_f hf c8
            refine lv_iinc (v := (x4 + (1 : Int32))) (lv' := [(4, .int (x4 + (1 : Int32))), (0, .ref (gA G 31)), (1, .ref (gA G 1)), (2, .int x2), (3, .int x3)]) C.1.1 C.1.2.1 dX6_readSteps_52 hl (k := 4) rfl rfl (by decide) rfl (fun ls hl => ?_)
            refine lv_goto (tgt := 14) C.1.1 C.1.2.1 dX6_readSteps_55 (by decide) ?_
            exact hk_14 q7.1 M L x2 x3 (x4 + (1 : Int32)) _ _ _ hw (lv_sub hl [1, 2, 3, 4, 0] rfl) hf
          · have hf := o_t hf c8
            refine lv_iconst (v := (0 : Int32)) C.1.1 C.1.2.1 dX6_readSteps_50 rfl ?_
            obtain rfl := Option.some.inj hf
            exact ret_z (r := (0 : Int32)) C hr hlk hw rfl dX6_readSteps_51
      · have hf := o_t hf c4
        refine lv_iconst (v := (1 : Int32)) C.1.1 C.1.2.1 dX6_readSteps_30 rfl ?_
        obtain rfl := Option.some.inj hf
        exact ret_z (r := (1 : Int32)) C hr hlk hw rfl dX6_readSteps_31
set_option maxRecDepth 20000 in
set_option maxHeartbeats 2000000 in
theorem c_X6_readSteps : ∀ (d : Nat), ∀ {X M : TX} {L : TL} {x2 : Int32} {ro : TX × Int32}, f_X6_readSteps d X x2 = some ro → CTi G l yX6_readSteps cX6_readSteps 5 (some .boolean) (8 + 8 * d) (226 + 226 * d) [.ref (gA G 31), .ref (gA G 1), .int x2] X M L ro.1 M L ro.2 := by
  intro d
  induction d with
  | zero =>
    intro X M L x2 ro hf
    cases hf
  | succ d hrec =>
    intro X M L x2 ro hf
    rw [f_X6_readSteps] at hf
    refine ct_of (by decide +kernel) (Nat.le_of_ble_eq_true rfl) (fun p e s m args below meth c H locs ls C hr hlk hw hl => ?_)
    have C : Cx G p s m args c cX6_readSteps 5 RX6 := C
    have hl : lv_has ls 5 [(0, .ref (gA G 31)), (1, .ref (gA G 1)), (2, .int x2)] := hl
    refine lv_iload_n C.1.1 C.1.2.1 dX6_readSteps_0 rfl (lv_at hl 2 rfl) ?_
    refine lv_if_ne (tgt := 8) C.1.1 C.1.2.1 dX6_readSteps_1 (by decide) (fun c1 => ?_) (fun c1 => ?_)
    · have hf := o_f hf c1
      refine lv_bipush (v := (93 : Int32)) C.1.1 C.1.2.1 dX6_readSteps_8 rfl ?_
      refine lv_istore_n (lv' := [(3, .int (93 : Int32)), (0, .ref (gA G 31)), (1, .ref (gA G 1)), (2, .int x2)]) C.1.1 C.1.2.1 dX6_readSteps_10 rfl hl (by decide) rfl (fun ls hl => ?_)
      refine lv_iconst (v := (0 : Int32)) C.1.1 C.1.2.1 dX6_readSteps_11 rfl ?_
      refine lv_istore (lv' := [(4, .int (0 : Int32)), (3, .int (93 : Int32)), (0, .ref (gA G 31)), (1, .ref (gA G 1)), (2, .int x2)]) C.1.1 C.1.2.1 dX6_readSteps_12 hl (by decide) rfl (fun ls hl => ?_)
      exact wL_X6_readSteps_14 hrec C hr hlk FU X M L x2 (93 : Int32) (0 : Int32) _ _ _ hw (lv_sub hl [2, 3, 4, 1, 0] rfl) hf
    · have hf := o_t hf c1
      refine lv_iconst (v := (-1 : Int32)) C.1.1 C.1.2.1 dX6_readSteps_4 rfl ?_
      refine lv_goto (tgt := 10) C.1.1 C.1.2.1 dX6_readSteps_5 (by decide) ?_
      refine lv_istore_n (lv' := [(3, .int (-1 : Int32)), (0, .ref (gA G 31)), (1, .ref (gA G 1)), (2, .int x2)]) C.1.1 C.1.2.1 dX6_readSteps_10 rfl hl (by decide) rfl (fun ls hl => ?_)
      refine lv_iconst (v := (0 : Int32)) C.1.1 C.1.2.1 dX6_readSteps_11 rfl ?_
      refine lv_istore (lv' := [(4, .int (0 : Int32)), (3, .int (-1 : Int32)), (0, .ref (gA G 31)), (1, .ref (gA G 1)), (2, .int x2)]) C.1.1 C.1.2.1 dX6_readSteps_12 hl (by decide) rfl (fun ls hl => ?_)
      exact wL_X6_readSteps_14 hrec C hr hlk FU X M L x2 (-1 : Int32) (0 : Int32) _ _ _ hw (lv_sub hl [2, 3, 4, 1, 0] rfl) hf
end
/-! WinnerDraws$County.save([II)V (('o', 'X', 3) ('a', 'X') ('i',)) -/
def f_X3_save (k1 : Nat) (X : TX) (x2 : Int32) : Option (TX) := (f_X8_copy 4 k1 X (0 : Int32) x2 (10 : Int32)).bind fun q1 => (f_X8_copy 5 k1 q1 (0 : Int32) (x2 + (10 : Int32)) (20 : Int32)).bind fun q2 => (f_X8_put k1 q2 (x2 + (30 : Int32)) (q2 3 9)).bind fun q3 => (f_X8_put k1 q3 (x2 + (31 : Int32)) (q3 3 8)).bind fun q4 => (f_X8_put k1 q4 (x2 + (32 : Int32)) (q4 3 10)).bind fun q5 => (f_X8_put k1 q5 (x2 + (33 : Int32)) (q5 3 11)).bind fun q6 => some q6
section
variable {G : GP} {l : Launch}
set_option maxRecDepth 20000 in
set_option maxHeartbeats 2000000 in
theorem c_X3_save  {k1 : Nat} (hk1 : AX k1 (lenX k1)) {X M : TX} {L : TL} {x2 : Int32} {ro : TX} (hf : f_X3_save k1 X x2 = some ro) : CTv G l yX3_save cX3_save 3 none 2 47 [.ref (gA G 3), .ref (gA G k1), .int x2] X M L ro M L := by
  unfold f_X3_save at hf
  refine ct_of (by decide +kernel) (Nat.le_of_ble_eq_true rfl) (fun p e s m args below meth c H locs ls C hr hlk hw hl => ?_)
  have C : Cx G p s m args c cX3_save 3 RX3 := C
  have hl : lv_has ls 3 [(0, .ref (gA G 3)), (1, .ref (gA G k1)), (2, .int x2)] := hl
  refine lv_aload_n C.1.1 C.1.2.1 dX3_save_0 rfl (lv_at hl 0 rfl) ?_
  refine x_ref C hw fX_3_0 flX3_9 dX3_save_1 ?_
  refine lv_iconst (v := (0 : Int32)) C.1.1 C.1.2.1 dX3_save_4 rfl ?_
  refine lv_aload_n C.1.1 C.1.2.1 dX3_save_5 rfl (lv_at hl 1 rfl) ?_
  refine lv_iload_n C.1.1 C.1.2.1 dX3_save_6 rfl (lv_at hl 2 rfl) ?_
  refine lv_bipush (v := (10 : Int32)) C.1.1 C.1.2.1 dX3_save_7 rfl ?_
  obtain ⟨q1, h1, hf⟩ := o_bind hf
  refine aft_v hw (run_S C hw clX3_59 (As := [.ref (gA G 4), .int (0 : Int32), .ref (gA G k1), .int x2, .int (10 : Int32)]) (rest := []) (c_X8_copy aX_4 hk1 h1) hl.1 rfl ⟨(Nat.le_of_ble_eq_true rfl), (Nat.le_of_ble_eq_true rfl)⟩ ⟨Nat.zero_le _, Nat.zero_le _⟩ rfl (Nat.le_of_ble_eq_true rfl) dX3_save_9) (fun H locs hw => ?_)
  refine lv_aload_n C.1.1 C.1.2.1 dX3_save_12 rfl (lv_at hl 0 rfl) ?_
  refine x_ref C hw fX_3_1 flX3_15 dX3_save_13 ?_
  refine lv_iconst (v := (0 : Int32)) C.1.1 C.1.2.1 dX3_save_16 rfl ?_
  refine lv_aload_n C.1.1 C.1.2.1 dX3_save_17 rfl (lv_at hl 1 rfl) ?_
  refine lv_iload_n C.1.1 C.1.2.1 dX3_save_18 rfl (lv_at hl 2 rfl) ?_
  refine lv_bipush (v := (10 : Int32)) C.1.1 C.1.2.1 dX3_save_19 rfl ?_
  refine lv_iadd C.1.1 C.1.2.1 dX3_save_21 ?_
  refine lv_bipush (v := (20 : Int32)) C.1.1 C.1.2.1 dX3_save_22 rfl ?_
  obtain ⟨q2, h2, hf⟩ := o_bind hf
  refine aft_v hw (run_S C hw clX3_59 (As := [.ref (gA G 5), .int (0 : Int32), .ref (gA G k1), .int (x2 + (10 : Int32)), .int (20 : Int32)]) (rest := []) (c_X8_copy aX_5 hk1 h2) hl.1 rfl ⟨(Nat.le_of_ble_eq_true rfl), (Nat.le_of_ble_eq_true rfl)⟩ ⟨Nat.zero_le _, Nat.zero_le _⟩ rfl (Nat.le_of_ble_eq_true rfl) dX3_save_24) (fun H locs hw => ?_)
  refine lv_aload_n C.1.1 C.1.2.1 dX3_save_27 rfl (lv_at hl 1 rfl) ?_
  refine lv_iload_n C.1.1 C.1.2.1 dX3_save_28 rfl (lv_at hl 2 rfl) ?_
  refine lv_bipush (v := (30 : Int32)) C.1.1 C.1.2.1 dX3_save_29 rfl ?_
  refine lv_iadd C.1.1 C.1.2.1 dX3_save_31 ?_
  refine lv_aload_n C.1.1 C.1.2.1 dX3_save_32 rfl (lv_at hl 0 rfl) ?_
  refine x_get C hw iX_3_9 flX3_31 dX3_save_33 ?_
  obtain ⟨q3, h3, hf⟩ := o_bind hf
  refine aft_v hw (run_S C hw clX3_40 (As := [.ref (gA G k1), .int (x2 + (30 : Int32)), .int (q2 3 9)]) (rest := []) (c_X8_put hk1 h3) hl.1 rfl ⟨(Nat.le_of_ble_eq_true rfl), (Nat.le_of_ble_eq_true rfl)⟩ ⟨Nat.zero_le _, Nat.zero_le _⟩ rfl (Nat.le_of_ble_eq_true rfl) dX3_save_36) (fun H locs hw => ?_)
  refine lv_aload_n C.1.1 C.1.2.1 dX3_save_39 rfl (lv_at hl 1 rfl) ?_
  refine lv_iload_n C.1.1 C.1.2.1 dX3_save_40 rfl (lv_at hl 2 rfl) ?_
  refine lv_bipush (v := (31 : Int32)) C.1.1 C.1.2.1 dX3_save_41 rfl ?_
  refine lv_iadd C.1.1 C.1.2.1 dX3_save_43 ?_
  refine lv_aload_n C.1.1 C.1.2.1 dX3_save_44 rfl (lv_at hl 0 rfl) ?_
  refine x_get C hw iX_3_8 flX3_50 dX3_save_45 ?_
  obtain ⟨q4, h4, hf⟩ := o_bind hf
  refine aft_v hw (run_S C hw clX3_40 (As := [.ref (gA G k1), .int (x2 + (31 : Int32)), .int (q3 3 8)]) (rest := []) (c_X8_put hk1 h4) hl.1 rfl ⟨(Nat.le_of_ble_eq_true rfl), (Nat.le_of_ble_eq_true rfl)⟩ ⟨Nat.zero_le _, Nat.zero_le _⟩ rfl (Nat.le_of_ble_eq_true rfl) dX3_save_48) (fun H locs hw => ?_)
  refine lv_aload_n C.1.1 C.1.2.1 dX3_save_51 rfl (lv_at hl 1 rfl) ?_
  refine lv_iload_n C.1.1 C.1.2.1 dX3_save_52 rfl (lv_at hl 2 rfl) ?_
  refine lv_bipush (v := (32 : Int32)) C.1.1 C.1.2.1 dX3_save_53 rfl ?_
  refine lv_iadd C.1.1 C.1.2.1 dX3_save_55 ?_
  refine lv_aload_n C.1.1 C.1.2.1 dX3_save_56 rfl (lv_at hl 0 rfl) ?_
  refine x_get C hw iX_3_10 flX3_53 dX3_save_57 ?_
  obtain ⟨q5, h5, hf⟩ := o_bind hf
  refine aft_v hw (run_S C hw clX3_40 (As := [.ref (gA G k1), .int (x2 + (32 : Int32)), .int (q4 3 10)]) (rest := []) (c_X8_put hk1 h5) hl.1 rfl ⟨(Nat.le_of_ble_eq_true rfl), (Nat.le_of_ble_eq_true rfl)⟩ ⟨Nat.zero_le _, Nat.zero_le _⟩ rfl (Nat.le_of_ble_eq_true rfl) dX3_save_60) (fun H locs hw => ?_)
  refine lv_aload_n C.1.1 C.1.2.1 dX3_save_63 rfl (lv_at hl 1 rfl) ?_
  refine lv_iload_n C.1.1 C.1.2.1 dX3_save_64 rfl (lv_at hl 2 rfl) ?_
  refine lv_bipush (v := (33 : Int32)) C.1.1 C.1.2.1 dX3_save_65 rfl ?_
  refine lv_iadd C.1.1 C.1.2.1 dX3_save_67 ?_
  refine lv_aload_n C.1.1 C.1.2.1 dX3_save_68 rfl (lv_at hl 0 rfl) ?_
  refine x_get C hw iX_3_11 flX3_56 dX3_save_69 ?_
  obtain ⟨q6, h6, hf⟩ := o_bind hf
  refine aft_v hw (run_S C hw clX3_40 (As := [.ref (gA G k1), .int (x2 + (33 : Int32)), .int (q5 3 11)]) (rest := []) (c_X8_put hk1 h6) hl.1 rfl ⟨(Nat.le_of_ble_eq_true rfl), (Nat.le_of_ble_eq_true rfl)⟩ ⟨Nat.zero_le _, Nat.zero_le _⟩ rfl (Nat.le_of_ble_eq_true rfl) dX3_save_72) (fun H locs hw => ?_)
  obtain rfl := Option.some.inj hf
  exact ret_v C hr hlk hw dX3_save_75
end
/-! WinnerDraws$Archive.keepWork(LWinnerDraws$County;)V (('o', 'X', 37) ('o', 'X', 3)) -/
def f_X0_keepWork (X : TX) : Option (TX) := (f_X3_save 38 X ((X 37 3) * (34 : Int32))).bind fun q1 => some (u2 q1 37 3 ((q1 37 3) + (1 : Int32)))
section
variable {G : GP} {l : Launch}
set_option maxRecDepth 20000 in
set_option maxHeartbeats 2000000 in
theorem c_X0_keepWork   {X M : TX} {L : TL}  {ro : TX} (hf : f_X0_keepWork X = some ro) : CTv G l yX0_keepWork cX0_keepWork 2 none 3 69 [.ref (gA G 37), .ref (gA G 3)] X M L ro M L := by
  unfold f_X0_keepWork at hf
  refine ct_of (by decide +kernel) (Nat.le_of_ble_eq_true rfl) (fun p e s m args below meth c H locs ls C hr hlk hw hl => ?_)
  have C : Cx G p s m args c cX0_keepWork 2 RX0 := C
  have hl : lv_has ls 2 [(0, .ref (gA G 37)), (1, .ref (gA G 3))] := hl
  refine lv_aload_n C.1.1 C.1.2.1 dX0_keepWork_0 rfl (lv_at hl 1 rfl) ?_
  refine lv_aload_n C.1.1 C.1.2.1 dX0_keepWork_1 rfl (lv_at hl 0 rfl) ?_
  refine x_ref C hw fX_37_0 flX0_9 dX0_keepWork_2 ?_
  refine lv_aload_n C.1.1 C.1.2.1 dX0_keepWork_5 rfl (lv_at hl 0 rfl) ?_
  refine x_get C hw iX_37_3 flX0_21 dX0_keepWork_6 ?_
  refine lv_bipush (v := (34 : Int32)) C.1.1 C.1.2.1 dX0_keepWork_9 rfl ?_
  refine lv_imul C.1.1 C.1.2.1 dX0_keepWork_11 ?_
  obtain ⟨q1, h1, hf⟩ := o_bind hf
  refine aft_v hw (run_VX C hw clX0_28 (As := [.ref (gA G 38), .int ((X 37 3) * (34 : Int32))]) (rest := []) oX_3 (c_X3_save aX_38 h1) rfl hl.1 rfl ⟨(Nat.le_of_ble_eq_true rfl), (Nat.le_of_ble_eq_true rfl)⟩ ⟨Nat.zero_le _, Nat.zero_le _⟩ rfl (Nat.le_of_ble_eq_true rfl) dX0_keepWork_12) (fun H locs hw => ?_)
  refine lv_aload_n C.1.1 C.1.2.1 dX0_keepWork_15 rfl (lv_at hl 0 rfl) ?_
  refine lv_dup C.1.1 C.1.2.1 dX0_keepWork_16 rfl ?_
  refine x_get C hw iX_37_3 flX0_21 dX0_keepWork_17 ?_
  refine lv_iconst (v := (1 : Int32)) C.1.1 C.1.2.1 dX0_keepWork_20 rfl ?_
  refine lv_iadd C.1.1 C.1.2.1 dX0_keepWork_21 ?_
  refine x_put C hw iX_37_3 flX0_21 dX0_keepWork_22 (fun H locs hw => ?_)
  obtain rfl := Option.some.inj hf
  exact ret_v C hr hlk hw dX0_keepWork_25
end
/-! WinnerDraws$County.tideOf(I)I (('o', 'X', 3) ('i',)) -/
def f_X3_tideOf (X : TX) (x1 : Int32) : Option (Int32) := if (X 3 6) ≤ 0 then (some (0 : Int32)) else (if (X 3 6) = 0 then none else (some (x1 - x1 / (X 3 6) * (X 3 6))))
section
variable {G : GP} {l : Launch}
set_option maxRecDepth 20000 in
set_option maxHeartbeats 2000000 in
theorem c_X3_tideOf   {X M : TX} {L : TL} {x1 : Int32} {ro : Int32} (hf : f_X3_tideOf X x1 = some ro) : CTi G l yX3_tideOf cX3_tideOf 2 (some .int) 0 0 [.ref (gA G 3), .int x1] X M L X M L ro := by
  unfold f_X3_tideOf at hf
  refine ct_of (by decide +kernel) (Nat.le_of_ble_eq_true rfl) (fun p e s m args below meth c H locs ls C hr hlk hw hl => ?_)
  have C : Cx G p s m args c cX3_tideOf 2 RX3 := C
  have hl : lv_has ls 2 [(0, .ref (gA G 3)), (1, .int x1)] := hl
  refine lv_aload_n C.1.1 C.1.2.1 dX3_tideOf_0 rfl (lv_at hl 0 rfl) ?_
  refine x_get C hw iX_3_6 flX3_47 dX3_tideOf_1 ?_
  refine lv_if_le (tgt := 16) C.1.1 C.1.2.1 dX3_tideOf_4 (by decide) (fun c1 => ?_) (fun c1 => ?_)
  · have hf := o_t hf c1
    refine lv_iconst (v := (0 : Int32)) C.1.1 C.1.2.1 dX3_tideOf_16 rfl ?_
    obtain rfl := Option.some.inj hf
    exact ret_i C hr hlk hw dX3_tideOf_17
  · have hf := o_f hf c1
    refine lv_iload_n C.1.1 C.1.2.1 dX3_tideOf_7 rfl (lv_at hl 1 rfl) ?_
    refine lv_aload_n C.1.1 C.1.2.1 dX3_tideOf_8 rfl (lv_at hl 0 rfl) ?_
    refine x_get C hw iX_3_6 flX3_47 dX3_tideOf_9 ?_
    have g2 := o_n1 hf
    have hf := o_n2 hf
    refine lv_irem C.1.1 C.1.2.1 dX3_tideOf_12 g2 ?_
    refine lv_goto (tgt := 17) C.1.1 C.1.2.1 dX3_tideOf_13 (by decide) ?_
    obtain rfl := Option.some.inj hf
    exact ret_i C hr hlk hw dX3_tideOf_17
end
/-! WinnerDraws$County.comingSide()I (('o', 'X', 3)) -/
def f_X3_comingSide (X : TX) : Option (Int32) := (f_X3_tideOf X (X 3 8)).bind fun q1 => (f_X8_at 7 X q1).bind fun q2 => some q2
section
variable {G : GP} {l : Launch}
set_option maxRecDepth 20000 in
set_option maxHeartbeats 2000000 in
theorem c_X3_comingSide   {X M : TX} {L : TL}  {ro : Int32} (hf : f_X3_comingSide X = some ro) : CTi G l yX3_comingSide cX3_comingSide 1 (some .int) 1 21 [.ref (gA G 3)] X M L X M L ro := by
  unfold f_X3_comingSide at hf
  refine ct_of (by decide +kernel) (Nat.le_of_ble_eq_true rfl) (fun p e s m args below meth c H locs ls C hr hlk hw hl => ?_)
  have C : Cx G p s m args c cX3_comingSide 1 RX3 := C
  have hl : lv_has ls 1 [(0, .ref (gA G 3))] := hl
  refine lv_aload_n C.1.1 C.1.2.1 dX3_comingSide_0 rfl (lv_at hl 0 rfl) ?_
  refine x_ref C hw fX_3_3 flX3_21 dX3_comingSide_1 ?_
  refine lv_aload_n C.1.1 C.1.2.1 dX3_comingSide_4 rfl (lv_at hl 0 rfl) ?_
  refine lv_aload_n C.1.1 C.1.2.1 dX3_comingSide_5 rfl (lv_at hl 0 rfl) ?_
  refine x_get C hw iX_3_8 flX3_50 dX3_comingSide_6 ?_
  obtain ⟨q1, h1, hf⟩ := o_bind hf
  refine aft_i hw (run_VX C hw clX3_182 (As := [.int (X 3 8)]) (rest := [.ref (gA G 7)]) oX_3 (c_X3_tideOf h1) rfl hl.1 rfl ⟨(Nat.le_of_ble_eq_true rfl), (Nat.le_of_ble_eq_true rfl)⟩ ⟨Nat.zero_le _, Nat.zero_le _⟩ rfl (Nat.le_of_ble_eq_true rfl) dX3_comingSide_9) (fun H locs hw => ?_)
  obtain ⟨q2, h2, hf⟩ := o_bind hf
  refine aft_i hw (run_S C hw clX3_66 (As := [.ref (gA G 7), .int q1]) (rest := []) (c_X8_at aX_7 h2) hl.1 rfl ⟨(Nat.le_of_ble_eq_true rfl), (Nat.le_of_ble_eq_true rfl)⟩ ⟨Nat.zero_le _, Nat.zero_le _⟩ rfl (Nat.le_of_ble_eq_true rfl) dX3_comingSide_12) (fun H locs hw => ?_)
  obtain rfl := Option.some.inj hf
  exact ret_i C hr hlk hw dX3_comingSide_15
end
/-! WinnerDraws$County.comingShare()I (('o', 'X', 3)) -/
def f_X3_comingShare (X : TX) : Option (Int32) := (f_X3_tideOf X (X 3 8)).bind fun q1 => (f_X8_at 8 X q1).bind fun q2 => some q2
section
variable {G : GP} {l : Launch}
set_option maxRecDepth 20000 in
set_option maxHeartbeats 2000000 in
theorem c_X3_comingShare   {X M : TX} {L : TL}  {ro : Int32} (hf : f_X3_comingShare X = some ro) : CTi G l yX3_comingShare cX3_comingShare 1 (some .int) 1 21 [.ref (gA G 3)] X M L X M L ro := by
  unfold f_X3_comingShare at hf
  refine ct_of (by decide +kernel) (Nat.le_of_ble_eq_true rfl) (fun p e s m args below meth c H locs ls C hr hlk hw hl => ?_)
  have C : Cx G p s m args c cX3_comingShare 1 RX3 := C
  have hl : lv_has ls 1 [(0, .ref (gA G 3))] := hl
  refine lv_aload_n C.1.1 C.1.2.1 dX3_comingShare_0 rfl (lv_at hl 0 rfl) ?_
  refine x_ref C hw fX_3_4 flX3_24 dX3_comingShare_1 ?_
  refine lv_aload_n C.1.1 C.1.2.1 dX3_comingShare_4 rfl (lv_at hl 0 rfl) ?_
  refine lv_aload_n C.1.1 C.1.2.1 dX3_comingShare_5 rfl (lv_at hl 0 rfl) ?_
  refine x_get C hw iX_3_8 flX3_50 dX3_comingShare_6 ?_
  obtain ⟨q1, h1, hf⟩ := o_bind hf
  refine aft_i hw (run_VX C hw clX3_182 (As := [.int (X 3 8)]) (rest := [.ref (gA G 8)]) oX_3 (c_X3_tideOf h1) rfl hl.1 rfl ⟨(Nat.le_of_ble_eq_true rfl), (Nat.le_of_ble_eq_true rfl)⟩ ⟨Nat.zero_le _, Nat.zero_le _⟩ rfl (Nat.le_of_ble_eq_true rfl) dX3_comingShare_9) (fun H locs hw => ?_)
  obtain ⟨q2, h2, hf⟩ := o_bind hf
  refine aft_i hw (run_S C hw clX3_66 (As := [.ref (gA G 8), .int q1]) (rest := []) (c_X8_at aX_8 h2) hl.1 rfl ⟨(Nat.le_of_ble_eq_true rfl), (Nat.le_of_ble_eq_true rfl)⟩ ⟨Nat.zero_le _, Nat.zero_le _⟩ rfl (Nat.le_of_ble_eq_true rfl) dX3_comingShare_12) (fun H locs hw => ?_)
  obtain rfl := Option.some.inj hf
  exact ret_i C hr hlk hw dX3_comingShare_15
end
/-! WinnerDraws$County.comeTide()V (('o', 'X', 3)) -/
def L_X3_comeTide_34 : Nat → TX → Int32 → Int32 → Int32 → Int32 → Option (TX)
  | 0 => fun _ _ _ _ _ => none
  | n + 1 => fun X x1 x2 x3 x4 => if (X 3 5) ≤ x4 then ((f_X3_tally X).bind fun q6 => some q6) else ((f_X8_at 5 X (x2 + x4)).bind fun q7 => (f_X8_at 5 X (x2 + x4)).bind fun q8 => (f_X8_put 5 X (x2 + x4) (q8 - ((q7 * x3) / (100 : Int32)))).bind fun q9 => (f_X8_at 5 q9 (x1 + x4)).bind fun q10 => (f_X8_put 5 q9 (x1 + x4) (q10 + ((q7 * x3) / (100 : Int32)))).bind fun q11 => (L_X3_comeTide_34 n) q11 x1 x2 x3 (x4 + (1 : Int32)))
def f_X3_comeTide (X : TX) : Option (TX) := if (X 3 6) = 0 then (some X) else ((f_X3_comingSide X).bind fun q2 => (f_X3_comingSide X).bind fun q3 => (f_X3_comingShare X).bind fun q4 => L_X3_comeTide_34 FU X (q2 * (10 : Int32)) (((1 : Int32) - q3) * (10 : Int32)) q4 (0 : Int32))
section
variable {G : GP} {l : Launch}
set_option maxRecDepth 20000 in
set_option maxHeartbeats 2000000 in
theorem wL_X3_comeTide_34 {p : Program} {e : Env} {s : State} {m : MethodId} {args : Array Value} {below : List Frame} {meth : Method} {c : Code} (C : Cx G p s m args c cX3_comeTide 6 RX3) (hr : meth.sig.returnType = none) (hlk : meth.locks = false) {ro : TX} : ∀ (n : Nat), ∀ (X : TX) (M : TX) (L : TL) (x1 : Int32) (x2 : Int32) (x3 : Int32) (x4 : Int32) (H : Heap) (locs : List Loc) (ls : Array Slot), Wh G s X M L H locs → lv_has ls 6 [(0, .ref (gA G 3)), (1, .int x1), (2, .int x2), (3, .int x3), (4, .int x4)] → L_X3_comeTide_34 n X x1 x2 x3 x4 = some ro → W p l e (rz 2 44) s m args below meth c H locs 0 0 (MQ below (Dv G ro M L) args s 0 0 (AB G)) (F0 m 34 ls []) := by
  intro n
  induction n with
  | zero =>
    intro X M L x1 x2 x3 x4 H locs ls hw hl hf
    cases hf
  | succ n hk_34 =>
    intro X M L x1 x2 x3 x4 H locs ls hw hl hf
    rw [L_X3_comeTide_34] at hf
    refine lv_iload C.1.1 C.1.2.1 dX3_comeTide_34 (lv_at hl 4 rfl) ?_
    refine lv_aload_n C.1.1 C.1.2.1 dX3_comeTide_36 rfl (lv_at hl 0 rfl) ?_
    refine x_get C hw iX_3_5 flX3_44 dX3_comeTide_37 ?_
    refine lv_icmp_ge (tgt := 117) C.1.1 C.1.2.1 dX3_comeTide_40 (by decide) (fun c5 => ?_) (fun c5 => ?_)
    · have hf := o_t hf c5
      refine lv_aload_n C.1.1 C.1.2.1 dX3_comeTide_117 rfl (lv_at hl 0 rfl) ?_
      obtain ⟨q6, h6, hf⟩ := o_bind hf
      refine aft_v hw (run_VX C hw clX3_63 (As := []) (rest := []) oX_3 (c_X3_tally h6) rfl hl.1 rfl ⟨(Nat.le_of_ble_eq_true rfl), (Nat.le_of_ble_eq_true rfl)⟩ ⟨Nat.zero_le _, Nat.zero_le _⟩ rfl (Nat.le_of_ble_eq_true rfl) dX3_comeTide_118) (fun H locs hw => ?_)
      obtain rfl := Option.some.inj hf
      exact ret_v C hr hlk hw dX3_comeTide_121
    · have hf := o_f hf c5
      refine lv_aload_n C.1.1 C.1.2.1 dX3_comeTide_43 rfl (lv_at hl 0 rfl) ?_
      refine x_ref C hw fX_3_1 flX3_15 dX3_comeTide_44 ?_
      refine lv_iload_n C.1.1 C.1.2.1 dX3_comeTide_47 rfl (lv_at hl 2 rfl) ?_
      refine lv_iload C.1.1 C.1.2.1 dX3_comeTide_48 (lv_at hl 4 rfl) ?_
      refine lv_iadd C.1.1 C.1.2.1 dX3_comeTide_50 ?_
      obtain ⟨q7, h7, hf⟩ := o_bind hf
      refine aft_i hw (run_S C hw clX3_66 (As := [.ref (gA G 5), .int (x2 + x4)]) (rest := []) (c_X8_at aX_5 h7) hl.1 rfl ⟨(Nat.le_of_ble_eq_true rfl), (Nat.le_of_ble_eq_true rfl)⟩ ⟨Nat.zero_le _, Nat.zero_le _⟩ rfl (Nat.le_of_ble_eq_true rfl) dX3_comeTide_51) (fun H locs hw => ?_)
      refine lv_iload_n C.1.1 C.1.2.1 dX3_comeTide_54 rfl (lv_at hl 3 rfl) ?_
      refine lv_imul C.1.1 C.1.2.1 dX3_comeTide_55 ?_
      refine lv_bipush (v := (100 : Int32)) C.1.1 C.1.2.1 dX3_comeTide_56 rfl ?_
      refine lv_idiv C.1.1 C.1.2.1 dX3_comeTide_58 (by decide) ?_
      refine lv_istore (lv' := [(5, .int ((q7 * x3) / (100 : Int32))), (0, .ref (gA G 3)), (1, .int x1), (2, .int x2), (3, .int x3), (4, .int x4)]) C.1.1 C.1.2.1 dX3_comeTide_59 hl (by decide) rfl (fun ls hl => ?_)
      refine lv_aload_n C.1.1 C.1.2.1 dX3_comeTide_61 rfl (lv_at hl 1 rfl) ?_
      refine x_ref C hw fX_3_1 flX3_15 dX3_comeTide_62 ?_
      refine lv_iload_n C.1.1 C.1.2.1 dX3_comeTide_65 rfl (lv_at hl 3 rfl) ?_
      refine lv_iload C.1.1 C.1.2.1 dX3_comeTide_66 (lv_at hl 5 rfl) ?_
      refine lv_iadd C.1.1 C.1.2.1 dX3_comeTide_68 ?_
      refine lv_aload_n C.1.1 C.1.2.1 dX3_comeTide_69 rfl (lv_at hl 1 rfl) ?_
      refine x_ref C hw fX_3_1 flX3_15 dX3_comeTide_70 ?_
      refine lv_iload_n C.1.1 C.1.2.1 dX3_comeTide_73 rfl (lv_at hl 3 rfl) ?_
      refine lv_iload C.1.1 C.1.2.1 dX3_comeTide_74 (lv_at hl 5 rfl) ?_
      refine lv_iadd C.1.1 C.1.2.1 dX3_comeTide_76 ?_
      obtain ⟨q8, h8, hf⟩ := o_bind hf
      refine aft_i hw (run_S C hw clX3_66 (As := [.ref (gA G 5), .int (x2 + x4)]) (rest := [.int (x2 + x4), .ref (gA G 5)]) (c_X8_at aX_5 h8) hl.1 rfl ⟨(Nat.le_of_ble_eq_true rfl), (Nat.le_of_ble_eq_true rfl)⟩ ⟨Nat.zero_le _, Nat.zero_le _⟩ rfl (Nat.le_of_ble_eq_true rfl) dX3_comeTide_77) (fun H locs hw => ?_)
      refine lv_iload C.1.1 C.1.2.1 dX3_comeTide_80 (lv_at hl 0 rfl) ?_
      refine lv_isub C.1.1 C.1.2.1 dX3_comeTide_82 ?_
      obtain ⟨q9, h9, hf⟩ := o_bind hf
      refine aft_v hw (run_S C hw clX3_40 (As := [.ref (gA G 5), .int (x2 + x4), .int (q8 - ((q7 * x3) / (100 : Int32)))]) (rest := []) (c_X8_put aX_5 h9) hl.1 rfl ⟨(Nat.le_of_ble_eq_true rfl), (Nat.le_of_ble_eq_true rfl)⟩ ⟨Nat.zero_le _, Nat.zero_le _⟩ rfl (Nat.le_of_ble_eq_true rfl) dX3_comeTide_83) (fun H locs hw => ?_)
      refine lv_aload_n C.1.1 C.1.2.1 dX3_comeTide_86 rfl (lv_at hl 1 rfl) ?_
      refine x_ref C hw fX_3_1 flX3_15 dX3_comeTide_87 ?_
      refine lv_iload_n C.1.1 C.1.2.1 dX3_comeTide_90 rfl (lv_at hl 2 rfl) ?_
      refine lv_iload C.1.1 C.1.2.1 dX3_comeTide_91 (lv_at hl 5 rfl) ?_
      refine lv_iadd C.1.1 C.1.2.1 dX3_comeTide_93 ?_
      refine lv_aload_n C.1.1 C.1.2.1 dX3_comeTide_94 rfl (lv_at hl 1 rfl) ?_
      refine x_ref C hw fX_3_1 flX3_15 dX3_comeTide_95 ?_
      refine lv_iload_n C.1.1 C.1.2.1 dX3_comeTide_98 rfl (lv_at hl 2 rfl) ?_
      refine lv_iload C.1.1 C.1.2.1 dX3_comeTide_99 (lv_at hl 5 rfl) ?_
      refine lv_iadd C.1.1 C.1.2.1 dX3_comeTide_101 ?_
      obtain ⟨q10, h10, hf⟩ := o_bind hf
      refine aft_i hw (run_S C hw clX3_66 (As := [.ref (gA G 5), .int (x1 + x4)]) (rest := [.int (x1 + x4), .ref (gA G 5)]) (c_X8_at aX_5 h10) hl.1 rfl ⟨(Nat.le_of_ble_eq_true rfl), (Nat.le_of_ble_eq_true rfl)⟩ ⟨Nat.zero_le _, Nat.zero_le _⟩ rfl (Nat.le_of_ble_eq_true rfl) dX3_comeTide_102) (fun H locs hw => ?_)
      refine lv_iload C.1.1 C.1.2.1 dX3_comeTide_105 (lv_at hl 0 rfl) ?_
      refine lv_iadd C.1.1 C.1.2.1 dX3_comeTide_107 ?_
      obtain ⟨q11, h11, hf⟩ := o_bind hf
      refine aft_v hw (run_S C hw clX3_40 (As := [.ref (gA G 5), .int (x1 + x4), .int (q10 + ((q7 * x3) / (100 : Int32)))]) (rest := []) (c_X8_put aX_5 h11) hl.1 rfl ⟨(Nat.le_of_ble_eq_true rfl), (Nat.le_of_ble_eq_true rfl)⟩ ⟨Nat.zero_le _, Nat.zero_le _⟩ rfl (Nat.le_of_ble_eq_true rfl) dX3_comeTide_108) (fun H locs hw => ?_)
      refine lv_iinc (v := (x4 + (1 : Int32))) (lv' := [(4, .int (x4 + (1 : Int32))), (5, .int ((q7 * x3) / (100 : Int32))), (0, .ref (gA G 3)), (1, .int x1), (2, .int x2), (3, .int x3)]) C.1.1 C.1.2.1 dX3_comeTide_111 hl (k := 5) rfl rfl (by decide) rfl (fun ls hl => ?_)
      refine lv_goto (tgt := 34) C.1.1 C.1.2.1 dX3_comeTide_114 (by decide) ?_
      exact hk_34 q11 M L x1 x2 x3 (x4 + (1 : Int32)) _ _ _ hw (lv_sub hl [2, 3, 4, 5, 0] rfl) hf
set_option maxRecDepth 20000 in
set_option maxHeartbeats 2000000 in
theorem c_X3_comeTide   {X M : TX} {L : TL}  {ro : TX} (hf : f_X3_comeTide X = some ro) : CTv G l yX3_comeTide cX3_comeTide 6 none 2 44 [.ref (gA G 3)] X M L ro M L := by
  unfold f_X3_comeTide at hf
  refine ct_of (by decide +kernel) (Nat.le_of_ble_eq_true rfl) (fun p e s m args below meth c H locs ls C hr hlk hw hl => ?_)
  have C : Cx G p s m args c cX3_comeTide 6 RX3 := C
  have hl : lv_has ls 6 [(0, .ref (gA G 3))] := hl
  refine lv_aload_n C.1.1 C.1.2.1 dX3_comeTide_0 rfl (lv_at hl 0 rfl) ?_
  refine x_get C hw iX_3_6 flX3_47 dX3_comeTide_1 ?_
  refine lv_if_ne (tgt := 8) C.1.1 C.1.2.1 dX3_comeTide_4 (by decide) (fun c1 => ?_) (fun c1 => ?_)
  · have hf := o_f hf c1
    refine lv_aload_n C.1.1 C.1.2.1 dX3_comeTide_8 rfl (lv_at hl 0 rfl) ?_
    obtain ⟨q2, h2, hf⟩ := o_bind hf
    refine aft_i hw (run_VX C hw clX3_185 (As := []) (rest := []) oX_3 (c_X3_comingSide h2) rfl hl.1 rfl ⟨(Nat.le_of_ble_eq_true rfl), (Nat.le_of_ble_eq_true rfl)⟩ ⟨Nat.zero_le _, Nat.zero_le _⟩ rfl (Nat.le_of_ble_eq_true rfl) dX3_comeTide_9) (fun H locs hw => ?_)
    refine lv_bipush (v := (10 : Int32)) C.1.1 C.1.2.1 dX3_comeTide_12 rfl ?_
    refine lv_imul C.1.1 C.1.2.1 dX3_comeTide_14 ?_
    refine lv_istore_n (lv' := [(1, .int (q2 * (10 : Int32))), (0, .ref (gA G 3))]) C.1.1 C.1.2.1 dX3_comeTide_15 rfl hl (by decide) rfl (fun ls hl => ?_)
    refine lv_iconst (v := (1 : Int32)) C.1.1 C.1.2.1 dX3_comeTide_16 rfl ?_
    refine lv_aload_n C.1.1 C.1.2.1 dX3_comeTide_17 rfl (lv_at hl 1 rfl) ?_
    obtain ⟨q3, h3, hf⟩ := o_bind hf
    refine aft_i hw (run_VX C hw clX3_185 (As := []) (rest := [.int (1 : Int32)]) oX_3 (c_X3_comingSide h3) rfl hl.1 rfl ⟨(Nat.le_of_ble_eq_true rfl), (Nat.le_of_ble_eq_true rfl)⟩ ⟨Nat.zero_le _, Nat.zero_le _⟩ rfl (Nat.le_of_ble_eq_true rfl) dX3_comeTide_18) (fun H locs hw => ?_)
    refine lv_isub C.1.1 C.1.2.1 dX3_comeTide_21 ?_
    refine lv_bipush (v := (10 : Int32)) C.1.1 C.1.2.1 dX3_comeTide_22 rfl ?_
    refine lv_imul C.1.1 C.1.2.1 dX3_comeTide_24 ?_
    refine lv_istore_n (lv' := [(2, .int (((1 : Int32) - q3) * (10 : Int32))), (1, .int (q2 * (10 : Int32))), (0, .ref (gA G 3))]) C.1.1 C.1.2.1 dX3_comeTide_25 rfl hl (by decide) rfl (fun ls hl => ?_)
    refine lv_aload_n C.1.1 C.1.2.1 dX3_comeTide_26 rfl (lv_at hl 2 rfl) ?_
    obtain ⟨q4, h4, hf⟩ := o_bind hf
    refine aft_i hw (run_VX C hw clX3_188 (As := []) (rest := []) oX_3 (c_X3_comingShare h4) rfl hl.1 rfl ⟨(Nat.le_of_ble_eq_true rfl), (Nat.le_of_ble_eq_true rfl)⟩ ⟨Nat.zero_le _, Nat.zero_le _⟩ rfl (Nat.le_of_ble_eq_true rfl) dX3_comeTide_27) (fun H locs hw => ?_)
    refine lv_istore_n (lv' := [(3, .int q4), (2, .int (((1 : Int32) - q3) * (10 : Int32))), (1, .int (q2 * (10 : Int32))), (0, .ref (gA G 3))]) C.1.1 C.1.2.1 dX3_comeTide_30 rfl hl (by decide) rfl (fun ls hl => ?_)
    refine lv_iconst (v := (0 : Int32)) C.1.1 C.1.2.1 dX3_comeTide_31 rfl ?_
    refine lv_istore (lv' := [(4, .int (0 : Int32)), (3, .int q4), (2, .int (((1 : Int32) - q3) * (10 : Int32))), (1, .int (q2 * (10 : Int32))), (0, .ref (gA G 3))]) C.1.1 C.1.2.1 dX3_comeTide_32 hl (by decide) rfl (fun ls hl => ?_)
    exact wL_X3_comeTide_34 C hr hlk FU X M L (q2 * (10 : Int32)) (((1 : Int32) - q3) * (10 : Int32)) q4 (0 : Int32) _ _ _ hw (lv_sub hl [4, 3, 2, 1, 0] rfl) hf
  · have hf := o_t hf c1
    obtain rfl := Option.some.inj hf
    exact ret_v C hr hlk hw dX3_comeTide_7
end
/-! java/lang/Integer.compare(II)I (('i',) ('i',)) -/
def f_J6_compare_7cf53 (x0 : Int32) (x1 : Int32) : Option (Int32) := if x1 ≤ x0 then (if x0 = x1 then (some (0 : Int32)) else (some (1 : Int32))) else (some (-1 : Int32))
section
variable {G : GP} {l : Launch}
set_option maxRecDepth 20000 in
set_option maxHeartbeats 2000000 in
theorem c_J6_compare_7cf53   {X M : TX} {L : TL} {x0 : Int32} {x1 : Int32} {ro : Int32} (hf : f_J6_compare_7cf53 x0 x1 = some ro) : CTi G l yJ6_compare_7cf53 cJ6_compare_7cf53 2 (some .int) 0 0 [.int x0, .int x1] X M L X M L ro := by
  unfold f_J6_compare_7cf53 at hf
  refine ct_of (by decide +kernel) (Nat.le_of_ble_eq_true rfl) (fun p e s m args below meth c H locs ls C hr hlk hw hl => ?_)
  have C : Cx G p s m args c cJ6_compare_7cf53 2 RJ6 := C
  have hl : lv_has ls 2 [(0, .int x0), (1, .int x1)] := hl
  refine lv_iload_n C.1.1 C.1.2.1 dJ6_compare_7cf53_0 rfl (lv_at hl 0 rfl) ?_
  refine lv_iload_n C.1.1 C.1.2.1 dJ6_compare_7cf53_1 rfl (lv_at hl 1 rfl) ?_
  refine lv_icmp_ge (tgt := 9) C.1.1 C.1.2.1 dJ6_compare_7cf53_2 (by decide) (fun c1 => ?_) (fun c1 => ?_)
  · have hf := o_t hf c1
    refine lv_iload_n C.1.1 C.1.2.1 dJ6_compare_7cf53_9 rfl (lv_at hl 0 rfl) ?_
    refine lv_iload_n C.1.1 C.1.2.1 dJ6_compare_7cf53_10 rfl (lv_at hl 1 rfl) ?_
    refine lv_icmp_ne (tgt := 18) C.1.1 C.1.2.1 dJ6_compare_7cf53_11 (by decide) (fun c2 => ?_) (fun c2 => ?_)
    · have hf := o_f hf c2
      refine lv_iconst (v := (1 : Int32)) C.1.1 C.1.2.1 dJ6_compare_7cf53_18 rfl ?_
      obtain rfl := Option.some.inj hf
      exact ret_i C hr hlk hw dJ6_compare_7cf53_19
    · have hf := o_t hf c2
      refine lv_iconst (v := (0 : Int32)) C.1.1 C.1.2.1 dJ6_compare_7cf53_14 rfl ?_
      refine lv_goto (tgt := 19) C.1.1 C.1.2.1 dJ6_compare_7cf53_15 (by decide) ?_
      obtain rfl := Option.some.inj hf
      exact ret_i C hr hlk hw dJ6_compare_7cf53_19
  · have hf := o_f hf c1
    refine lv_iconst (v := (-1 : Int32)) C.1.1 C.1.2.1 dJ6_compare_7cf53_5 rfl ?_
    refine lv_goto (tgt := 19) C.1.1 C.1.2.1 dJ6_compare_7cf53_6 (by decide) ?_
    obtain rfl := Option.some.inj hf
    exact ret_i C hr hlk hw dJ6_compare_7cf53_19
end
/-! WinnerDraws$County.margin(I)I (('o', 'X', 3) ('i',)) -/
def L_X3_margin_4 : Nat → TX → Int32 → Int32 → Int32 → Option (Int32)
  | 0 => fun _ _ _ _ => none
  | n + 1 => fun X x1 x2 x3 => if (4 : Int32) ≤ x3 then (if x1 = 0 then (some x2) else (some (-x2))) else ((f_X8_at 10 X x3).bind fun q3 => (f_J6_compare_7cf53 q3 (0 : Int32)).bind fun q4 => (L_X3_margin_4 n) X x1 (x2 + q4) (x3 + (1 : Int32)))
def f_X3_margin (X : TX) (x1 : Int32) : Option (Int32) := L_X3_margin_4 FU X x1 (0 : Int32) (0 : Int32)
section
variable {G : GP} {l : Launch}
set_option maxRecDepth 20000 in
set_option maxHeartbeats 2000000 in
theorem wL_X3_margin_4 {p : Program} {e : Env} {s : State} {m : MethodId} {args : Array Value} {below : List Frame} {meth : Method} {c : Code} (C : Cx G p s m args c cX3_margin 4 RX3) (hr : meth.sig.returnType = (some .int)) (hlk : meth.locks = false) {ro : Int32} : ∀ (n : Nat), ∀ (X : TX) (M : TX) (L : TL) (x1 : Int32) (x2 : Int32) (x3 : Int32) (H : Heap) (locs : List Loc) (ls : Array Slot), Wh G s X M L H locs → lv_has ls 4 [(0, .ref (gA G 3)), (1, .int x1), (2, .int x2), (3, .int x3)] → L_X3_margin_4 n X x1 x2 x3 = some ro → W p l e (rz 1 21) s m args below meth c H locs 0 0 (MQ below (Di G X M L ro) args s 0 0 (AB G)) (F0 m 4 ls []) := by
  intro n
  induction n with
  | zero =>
    intro X M L x1 x2 x3 H locs ls hw hl hf
    cases hf
  | succ n hk_4 =>
    intro X M L x1 x2 x3 H locs ls hw hl hf
    rw [L_X3_margin_4] at hf
    refine lv_iload_n C.1.1 C.1.2.1 dX3_margin_4 rfl (lv_at hl 3 rfl) ?_
    refine lv_iconst (v := (4 : Int32)) C.1.1 C.1.2.1 dX3_margin_5 rfl ?_
    refine lv_icmp_ge (tgt := 30) C.1.1 C.1.2.1 dX3_margin_6 (by decide) (fun c1 => ?_) (fun c1 => ?_)
    · have hf := o_t hf c1
      refine lv_iload_n C.1.1 C.1.2.1 dX3_margin_30 rfl (lv_at hl 1 rfl) ?_
      refine lv_if_ne (tgt := 38) C.1.1 C.1.2.1 dX3_margin_31 (by decide) (fun c2 => ?_) (fun c2 => ?_)
      · have hf := o_f hf c2
        refine lv_iload_n C.1.1 C.1.2.1 dX3_margin_38 rfl (lv_at hl 2 rfl) ?_
        refine lv_ineg C.1.1 C.1.2.1 dX3_margin_39 ?_
        obtain rfl := Option.some.inj hf
        exact ret_i C hr hlk hw dX3_margin_40
      · have hf := o_t hf c2
        refine lv_iload_n C.1.1 C.1.2.1 dX3_margin_34 rfl (lv_at hl 2 rfl) ?_
        refine lv_goto (tgt := 40) C.1.1 C.1.2.1 dX3_margin_35 (by decide) ?_
        obtain rfl := Option.some.inj hf
        exact ret_i C hr hlk hw dX3_margin_40
    · have hf := o_f hf c1
      refine lv_iload_n C.1.1 C.1.2.1 dX3_margin_9 rfl (lv_at hl 2 rfl) ?_
      refine lv_aload_n C.1.1 C.1.2.1 dX3_margin_10 rfl (lv_at hl 0 rfl) ?_
      refine x_ref C hw fX_3_13 flX3_37 dX3_margin_11 ?_
      refine lv_iload_n C.1.1 C.1.2.1 dX3_margin_14 rfl (lv_at hl 3 rfl) ?_
      obtain ⟨q3, h3, hf⟩ := o_bind hf
      refine aft_i hw (run_S C hw clX3_66 (As := [.ref (gA G 10), .int x3]) (rest := [.int x2]) (c_X8_at aX_10 h3) hl.1 rfl ⟨(Nat.le_of_ble_eq_true rfl), (Nat.le_of_ble_eq_true rfl)⟩ ⟨Nat.zero_le _, Nat.zero_le _⟩ rfl (Nat.le_of_ble_eq_true rfl) dX3_margin_15) (fun H locs hw => ?_)
      refine lv_iconst (v := (0 : Int32)) C.1.1 C.1.2.1 dX3_margin_18 rfl ?_
      obtain ⟨q4, h4, hf⟩ := o_bind hf
      refine aft_i hw (run_S C hw clX3_138 (As := [.int q3, .int (0 : Int32)]) (rest := [.int x2]) (c_J6_compare_7cf53 h4) hl.1 rfl ⟨(Nat.le_of_ble_eq_true rfl), (Nat.le_of_ble_eq_true rfl)⟩ ⟨Nat.zero_le _, Nat.zero_le _⟩ rfl (Nat.le_of_ble_eq_true rfl) dX3_margin_19) (fun H locs hw => ?_)
      refine lv_iadd C.1.1 C.1.2.1 dX3_margin_22 ?_
      refine lv_istore_n (lv' := [(2, .int (x2 + q4)), (0, .ref (gA G 3)), (1, .int x1), (3, .int x3)]) C.1.1 C.1.2.1 dX3_margin_23 rfl hl (by decide) rfl (fun ls hl => ?_)
      refine lv_iinc (v := (x3 + (1 : Int32))) (lv' := [(3, .int (x3 + (1 : Int32))), (2, .int (x2 + q4)), (0, .ref (gA G 3)), (1, .int x1)]) C.1.1 C.1.2.1 dX3_margin_24 hl (k := 3) rfl rfl (by decide) rfl (fun ls hl => ?_)
      refine lv_goto (tgt := 4) C.1.1 C.1.2.1 dX3_margin_27 (by decide) ?_
      exact hk_4 X M L x1 (x2 + q4) (x3 + (1 : Int32)) _ _ _ hw (lv_sub hl [2, 3, 1, 0] rfl) hf
set_option maxRecDepth 20000 in
set_option maxHeartbeats 2000000 in
theorem c_X3_margin   {X M : TX} {L : TL} {x1 : Int32} {ro : Int32} (hf : f_X3_margin X x1 = some ro) : CTi G l yX3_margin cX3_margin 4 (some .int) 1 21 [.ref (gA G 3), .int x1] X M L X M L ro := by
  unfold f_X3_margin at hf
  refine ct_of (by decide +kernel) (Nat.le_of_ble_eq_true rfl) (fun p e s m args below meth c H locs ls C hr hlk hw hl => ?_)
  have C : Cx G p s m args c cX3_margin 4 RX3 := C
  have hl : lv_has ls 4 [(0, .ref (gA G 3)), (1, .int x1)] := hl
  refine lv_iconst (v := (0 : Int32)) C.1.1 C.1.2.1 dX3_margin_0 rfl ?_
  refine lv_istore_n (lv' := [(2, .int (0 : Int32)), (0, .ref (gA G 3)), (1, .int x1)]) C.1.1 C.1.2.1 dX3_margin_1 rfl hl (by decide) rfl (fun ls hl => ?_)
  refine lv_iconst (v := (0 : Int32)) C.1.1 C.1.2.1 dX3_margin_2 rfl ?_
  refine lv_istore_n (lv' := [(3, .int (0 : Int32)), (2, .int (0 : Int32)), (0, .ref (gA G 3)), (1, .int x1)]) C.1.1 C.1.2.1 dX3_margin_3 rfl hl (by decide) rfl (fun ls hl => ?_)
  exact wL_X3_margin_4 C hr hlk FU X M L x1 (0 : Int32) (0 : Int32) _ _ _ hw (lv_sub hl [2, 3, 1, 0] rfl) hf
end
/-! WinnerDraws$County.votesOf(II)I (('o', 'X', 3) ('i',) ('i',)) -/
def f_X3_votesOf (X : TX) (x1 : Int32) (x2 : Int32) : Option (Int32) := (f_X8_at 5 X ((x1 * (10 : Int32)) + x2)).bind fun q1 => some q1
section
variable {G : GP} {l : Launch}
set_option maxRecDepth 20000 in
set_option maxHeartbeats 2000000 in
theorem c_X3_votesOf   {X M : TX} {L : TL} {x1 : Int32} {x2 : Int32} {ro : Int32} (hf : f_X3_votesOf X x1 x2 = some ro) : CTi G l yX3_votesOf cX3_votesOf 3 (some .int) 1 21 [.ref (gA G 3), .int x1, .int x2] X M L X M L ro := by
  unfold f_X3_votesOf at hf
  refine ct_of (by decide +kernel) (Nat.le_of_ble_eq_true rfl) (fun p e s m args below meth c H locs ls C hr hlk hw hl => ?_)
  have C : Cx G p s m args c cX3_votesOf 3 RX3 := C
  have hl : lv_has ls 3 [(0, .ref (gA G 3)), (1, .int x1), (2, .int x2)] := hl
  refine lv_aload_n C.1.1 C.1.2.1 dX3_votesOf_0 rfl (lv_at hl 0 rfl) ?_
  refine x_ref C hw fX_3_1 flX3_15 dX3_votesOf_1 ?_
  refine lv_iload_n C.1.1 C.1.2.1 dX3_votesOf_4 rfl (lv_at hl 1 rfl) ?_
  refine lv_bipush (v := (10 : Int32)) C.1.1 C.1.2.1 dX3_votesOf_5 rfl ?_
  refine lv_imul C.1.1 C.1.2.1 dX3_votesOf_7 ?_
  refine lv_iload_n C.1.1 C.1.2.1 dX3_votesOf_8 rfl (lv_at hl 2 rfl) ?_
  refine lv_iadd C.1.1 C.1.2.1 dX3_votesOf_9 ?_
  obtain ⟨q1, h1, hf⟩ := o_bind hf
  refine aft_i hw (run_S C hw clX3_66 (As := [.ref (gA G 5), .int ((x1 * (10 : Int32)) + x2)]) (rest := []) (c_X8_at aX_5 h1) hl.1 rfl ⟨(Nat.le_of_ble_eq_true rfl), (Nat.le_of_ble_eq_true rfl)⟩ ⟨Nat.zero_le _, Nat.zero_le _⟩ rfl (Nat.le_of_ble_eq_true rfl) dX3_votesOf_10) (fun H locs hw => ?_)
  obtain rfl := Option.some.inj hf
  exact ret_i C hr hlk hw dX3_votesOf_13
end
/-! WinnerDraws$County.allVotes(I)I (('o', 'X', 3) ('i',)) -/
def L_X3_allVotes_4 : Nat → TX → Int32 → Int32 → Int32 → Option (Int32)
  | 0 => fun _ _ _ _ => none
  | n + 1 => fun X x1 x2 x3 => if (X 3 5) ≤ x3 then (some x2) else ((f_X3_votesOf X x1 x3).bind fun q2 => (L_X3_allVotes_4 n) X x1 (x2 + q2) (x3 + (1 : Int32)))
def f_X3_allVotes (X : TX) (x1 : Int32) : Option (Int32) := L_X3_allVotes_4 FU X x1 (0 : Int32) (0 : Int32)
section
variable {G : GP} {l : Launch}
set_option maxRecDepth 20000 in
set_option maxHeartbeats 2000000 in
theorem wL_X3_allVotes_4 {p : Program} {e : Env} {s : State} {m : MethodId} {args : Array Value} {below : List Frame} {meth : Method} {c : Code} (C : Cx G p s m args c cX3_allVotes 4 RX3) (hr : meth.sig.returnType = (some .int)) (hlk : meth.locks = false) {ro : Int32} : ∀ (n : Nat), ∀ (X : TX) (M : TX) (L : TL) (x1 : Int32) (x2 : Int32) (x3 : Int32) (H : Heap) (locs : List Loc) (ls : Array Slot), Wh G s X M L H locs → lv_has ls 4 [(0, .ref (gA G 3)), (1, .int x1), (2, .int x2), (3, .int x3)] → L_X3_allVotes_4 n X x1 x2 x3 = some ro → W p l e (rz 2 43) s m args below meth c H locs 0 0 (MQ below (Di G X M L ro) args s 0 0 (AB G)) (F0 m 4 ls []) := by
  intro n
  induction n with
  | zero =>
    intro X M L x1 x2 x3 H locs ls hw hl hf
    cases hf
  | succ n hk_4 =>
    intro X M L x1 x2 x3 H locs ls hw hl hf
    rw [L_X3_allVotes_4] at hf
    refine lv_iload_n C.1.1 C.1.2.1 dX3_allVotes_4 rfl (lv_at hl 3 rfl) ?_
    refine lv_aload_n C.1.1 C.1.2.1 dX3_allVotes_5 rfl (lv_at hl 0 rfl) ?_
    refine x_get C hw iX_3_5 flX3_44 dX3_allVotes_6 ?_
    refine lv_icmp_ge (tgt := 27) C.1.1 C.1.2.1 dX3_allVotes_9 (by decide) (fun c1 => ?_) (fun c1 => ?_)
    · have hf := o_t hf c1
      refine lv_iload_n C.1.1 C.1.2.1 dX3_allVotes_27 rfl (lv_at hl 2 rfl) ?_
      obtain rfl := Option.some.inj hf
      exact ret_i C hr hlk hw dX3_allVotes_28
    · have hf := o_f hf c1
      refine lv_iload_n C.1.1 C.1.2.1 dX3_allVotes_12 rfl (lv_at hl 2 rfl) ?_
      refine lv_aload_n C.1.1 C.1.2.1 dX3_allVotes_13 rfl (lv_at hl 0 rfl) ?_
      refine lv_iload_n C.1.1 C.1.2.1 dX3_allVotes_14 rfl (lv_at hl 1 rfl) ?_
      refine lv_iload_n C.1.1 C.1.2.1 dX3_allVotes_15 rfl (lv_at hl 3 rfl) ?_
      obtain ⟨q2, h2, hf⟩ := o_bind hf
      refine aft_i hw (run_VX C hw clX3_147 (As := [.int x1, .int x3]) (rest := [.int x2]) oX_3 (c_X3_votesOf h2) rfl hl.1 rfl ⟨(Nat.le_of_ble_eq_true rfl), (Nat.le_of_ble_eq_true rfl)⟩ ⟨Nat.zero_le _, Nat.zero_le _⟩ rfl (Nat.le_of_ble_eq_true rfl) dX3_allVotes_16) (fun H locs hw => ?_)
      refine lv_iadd C.1.1 C.1.2.1 dX3_allVotes_19 ?_
      refine lv_istore_n (lv' := [(2, .int (x2 + q2)), (0, .ref (gA G 3)), (1, .int x1), (3, .int x3)]) C.1.1 C.1.2.1 dX3_allVotes_20 rfl hl (by decide) rfl (fun ls hl => ?_)
      refine lv_iinc (v := (x3 + (1 : Int32))) (lv' := [(3, .int (x3 + (1 : Int32))), (2, .int (x2 + q2)), (0, .ref (gA G 3)), (1, .int x1)]) C.1.1 C.1.2.1 dX3_allVotes_21 hl (k := 3) rfl rfl (by decide) rfl (fun ls hl => ?_)
      refine lv_goto (tgt := 4) C.1.1 C.1.2.1 dX3_allVotes_24 (by decide) ?_
      exact hk_4 X M L x1 (x2 + q2) (x3 + (1 : Int32)) _ _ _ hw (lv_sub hl [2, 3, 1, 0] rfl) hf
set_option maxRecDepth 20000 in
set_option maxHeartbeats 2000000 in
theorem c_X3_allVotes   {X M : TX} {L : TL} {x1 : Int32} {ro : Int32} (hf : f_X3_allVotes X x1 = some ro) : CTi G l yX3_allVotes cX3_allVotes 4 (some .int) 2 43 [.ref (gA G 3), .int x1] X M L X M L ro := by
  unfold f_X3_allVotes at hf
  refine ct_of (by decide +kernel) (Nat.le_of_ble_eq_true rfl) (fun p e s m args below meth c H locs ls C hr hlk hw hl => ?_)
  have C : Cx G p s m args c cX3_allVotes 4 RX3 := C
  have hl : lv_has ls 4 [(0, .ref (gA G 3)), (1, .int x1)] := hl
  refine lv_iconst (v := (0 : Int32)) C.1.1 C.1.2.1 dX3_allVotes_0 rfl ?_
  refine lv_istore_n (lv' := [(2, .int (0 : Int32)), (0, .ref (gA G 3)), (1, .int x1)]) C.1.1 C.1.2.1 dX3_allVotes_1 rfl hl (by decide) rfl (fun ls hl => ?_)
  refine lv_iconst (v := (0 : Int32)) C.1.1 C.1.2.1 dX3_allVotes_2 rfl ?_
  refine lv_istore_n (lv' := [(3, .int (0 : Int32)), (2, .int (0 : Int32)), (0, .ref (gA G 3)), (1, .int x1)]) C.1.1 C.1.2.1 dX3_allVotes_3 rfl hl (by decide) rfl (fun ls hl => ?_)
  exact wL_X3_allVotes_4 C hr hlk FU X M L x1 (0 : Int32) (0 : Int32) _ _ _ hw (lv_sub hl [2, 3, 1, 0] rfl) hf
end
