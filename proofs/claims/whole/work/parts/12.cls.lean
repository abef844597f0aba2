/-! WinnerDraws.county(I)I (('o', 'X', 0) ('i',)) -/
def f_X8_county (X : TX) (x1 : Int32) : Option (TX × (Int32 ⊕ Nat)) := (f_X8_needText X x1 (600 : Int32)).bind fun q1 => xb q1 (fun _ _ => (f_X7_open q1.1 x1).bind fun q2 => (f_X3_read q2).bind fun q3 => if q3.2 = 0 then (some (q3.1, .inl ((q3.1 1 6) - (10 : Int32)))) else ((f_X3_copyFrom q3.1).bind fun q5 => (f_X4_clear q5).bind fun q6 => (f_X1_clear q6).bind fun q7 => (f_X0_clear q7).bind fun q8 => some ((u2 q8 0 11 (0 : Int32)), .inl ((u2 q8 0 11 (0 : Int32)) 3 5))))
section
variable {G : GP} {l : Launch}
set_option maxRecDepth 20000 in
set_option maxHeartbeats 2000000 in
theorem c_X8_county (hst : l.stackTraces = false)  {X M : TX} {L : TL} {x1 : Int32} {ro : TX × (Int32 ⊕ Nat)} (hf : f_X8_county X x1 = some ro) : CXi G l yX8_county cX8_county 2 (some .int) 10 268 1 [.ref (gA G 0), .int x1] X M L ro := by
  unfold f_X8_county at hf
  refine cx_of (by decide +kernel) (Nat.le_of_ble_eq_true rfl) (fun p e s m args below meth c H locs ls C hr hlk hnt hw hl => ?_)
  have C : Cx G p s m args c cX8_county 2 RX8 := C
  have hl : lv_has ls 2 [(0, .ref (gA G 0)), (1, .int x1)] := hl
  refine lv_aload_n C.1.1 C.1.2.1 dX8_county_0 rfl (lv_at hl 0 rfl) ?_
  refine lv_iload_n C.1.1 C.1.2.1 dX8_county_1 rfl (lv_at hl 1 rfl) ?_
  refine lv_sipush (v := (600 : Int32)) C.1.1 C.1.2.1 dX8_county_2 rfl ?_
  obtain ⟨q1, h1, hf⟩ := o_bind hf
  refine aftx_v hw (runx_VX C hw clX8_86 (tb2 208 rfl rfl) (As := [.int x1, .int (600 : Int32)]) (rest := []) oX_0 (c_X8_needText hst h1) rfl hl.1 rfl ⟨(Nat.le_of_ble_eq_true rfl), (Nat.le_of_ble_eq_true rfl)⟩ ⟨Nat.le_of_ble_eq_true rfl, Nat.le_of_ble_eq_true rfl⟩ rfl (Nat.le_of_ble_eq_true rfl) dX8_county_5) hf hnt hlk (Nat.le_of_ble_eq_true rfl) (Nat.le_of_ble_eq_true rfl) (fun hf H locs hw => ?_)
  refine lv_aload_n C.1.1 C.1.2.1 dX8_county_8 rfl (lv_at hl 0 rfl) ?_
  refine x_ref C hw fX_0_0 flX8_12 dX8_county_9 ?_
  refine lv_iload_n C.1.1 C.1.2.1 dX8_county_12 rfl (lv_at hl 1 rfl) ?_
  obtain ⟨q2, h2, hf⟩ := o_bind hf
  refine aft_v hw (run_VX C hw clX8_90 (As := [.int x1]) (rest := []) oX_1 (c_X7_open h2) rfl hl.1 rfl ⟨(Nat.le_of_ble_eq_true rfl), (Nat.le_of_ble_eq_true rfl)⟩ ⟨Nat.le_of_ble_eq_true rfl, Nat.le_of_ble_eq_true rfl⟩ rfl (Nat.le_of_ble_eq_true rfl) dX8_county_13) (fun H locs hw => ?_)
  refine lv_aload_n C.1.1 C.1.2.1 dX8_county_16 rfl (lv_at hl 0 rfl) ?_
  refine x_ref C hw fX_0_2 flX8_23 dX8_county_17 ?_
  refine lv_aload_n C.1.1 C.1.2.1 dX8_county_20 rfl (lv_at hl 0 rfl) ?_
  refine x_ref C hw fX_0_0 flX8_12 dX8_county_21 ?_
  obtain ⟨q3, h3, hf⟩ := o_bind hf
  refine aft_i hw (run_VX C hw clX8_93 (As := [.ref (gA G 1)]) (rest := []) oX_11 (c_X3_read h3) rfl hl.1 rfl ⟨(Nat.le_of_ble_eq_true rfl), (Nat.le_of_ble_eq_true rfl)⟩ ⟨Nat.le_of_ble_eq_true rfl, Nat.le_of_ble_eq_true rfl⟩ rfl (Nat.le_of_ble_eq_true rfl) dX8_county_24) (fun H locs hw => ?_)
  refine lv_if_ne (tgt := 41) C.1.1 C.1.2.1 dX8_county_27 (by decide) (fun c4 => ?_) (fun c4 => ?_)
  · have hf := o_f hf c4
    refine lv_aload_n C.1.1 C.1.2.1 dX8_county_41 rfl (lv_at hl 0 rfl) ?_
    refine x_ref C hw fX_0_1 flX8_19 dX8_county_42 ?_
    refine lv_aload_n C.1.1 C.1.2.1 dX8_county_45 rfl (lv_at hl 0 rfl) ?_
    refine x_ref C hw fX_0_2 flX8_23 dX8_county_46 ?_
    obtain ⟨q5, h5, hf⟩ := o_bind hf
    refine aft_v hw (run_VX C hw clX8_100 (As := [.ref (gA G 11)]) (rest := []) oX_3 (c_X3_copyFrom h5) rfl hl.1 rfl ⟨(Nat.le_of_ble_eq_true rfl), (Nat.le_of_ble_eq_true rfl)⟩ ⟨Nat.le_of_ble_eq_true rfl, Nat.le_of_ble_eq_true rfl⟩ rfl (Nat.le_of_ble_eq_true rfl) dX8_county_49) (fun H locs hw => ?_)
    refine lv_aload_n C.1.1 C.1.2.1 dX8_county_52 rfl (lv_at hl 0 rfl) ?_
    refine x_ref C hw fX_0_3 flX8_29 dX8_county_53 ?_
    obtain ⟨q6, h6, hf⟩ := o_bind hf
    refine aft_v hw (run_VX C hw clX8_104 (As := []) (rest := []) oX_19 (c_X4_clear h6) rfl hl.1 rfl ⟨(Nat.le_of_ble_eq_true rfl), (Nat.le_of_ble_eq_true rfl)⟩ ⟨Nat.le_of_ble_eq_true rfl, Nat.le_of_ble_eq_true rfl⟩ rfl (Nat.le_of_ble_eq_true rfl) dX8_county_56) (fun H locs hw => ?_)
    refine lv_aload_n C.1.1 C.1.2.1 dX8_county_59 rfl (lv_at hl 0 rfl) ?_
    refine x_ref C hw fX_0_5 flX8_39 dX8_county_60 ?_
    obtain ⟨q7, h7, hf⟩ := o_bind hf
    refine aft_v hw (run_VX C hw clX8_107 (As := []) (rest := []) oX_27 (c_X1_clear h7) rfl hl.1 rfl ⟨(Nat.le_of_ble_eq_true rfl), (Nat.le_of_ble_eq_true rfl)⟩ ⟨Nat.le_of_ble_eq_true rfl, Nat.le_of_ble_eq_true rfl⟩ rfl (Nat.le_of_ble_eq_true rfl) dX8_county_63) (fun H locs hw => ?_)
    refine lv_aload_n C.1.1 C.1.2.1 dX8_county_66 rfl (lv_at hl 0 rfl) ?_
    refine x_ref C hw fX_0_10 flX8_74 dX8_county_67 ?_
    obtain ⟨q8, h8, hf⟩ := o_bind hf
    refine aft_v hw (run_VX C hw clX8_108 (As := []) (rest := []) oX_37 (c_X0_clear h8) rfl hl.1 rfl ⟨(Nat.le_of_ble_eq_true rfl), (Nat.le_of_ble_eq_true rfl)⟩ ⟨Nat.le_of_ble_eq_true rfl, Nat.le_of_ble_eq_true rfl⟩ rfl (Nat.le_of_ble_eq_true rfl) dX8_county_70) (fun H locs hw => ?_)
    refine lv_aload_n C.1.1 C.1.2.1 dX8_county_73 rfl (lv_at hl 0 rfl) ?_
    refine lv_iconst (v := (0 : Int32)) C.1.1 C.1.2.1 dX8_county_74 rfl ?_
    refine x_put C hw iX_0_11 flX8_109 dX8_county_75 (fun H locs hw => ?_)
    refine lv_aload_n C.1.1 C.1.2.1 dX8_county_78 rfl (lv_at hl 0 rfl) ?_
    refine x_ref C hw fX_0_1 flX8_19 dX8_county_79 ?_
    refine x_get C hw iX_3_5 flX8_112 dX8_county_82 ?_
    exact retx_i C hr hlk hw (Option.some.inj hf).symm (Nat.le_of_ble_eq_true rfl) (Nat.le_of_ble_eq_true rfl) dX8_county_85
  · have hf := o_t hf c4
    refine lv_aload_n C.1.1 C.1.2.1 dX8_county_30 rfl (lv_at hl 0 rfl) ?_
    refine x_ref C hw fX_0_0 flX8_12 dX8_county_31 ?_
    refine x_get C hw iX_1_6 flX8_97 dX8_county_34 ?_
    refine lv_bipush (v := (10 : Int32)) C.1.1 C.1.2.1 dX8_county_37 rfl ?_
    refine lv_isub C.1.1 C.1.2.1 dX8_county_39 ?_
    exact retx_i C hr hlk hw (Option.some.inj hf).symm (Nat.le_of_ble_eq_true rfl) (Nat.le_of_ble_eq_true rfl) dX8_county_40
end
/-! WinnerDraws$Law.factNamed(LWinnerDraws$Text;)I (('o', 'X', 1)) -/
def f_X4_factNamed (X : TX) : Option (Int32) := (f_X7_is 9 X).bind fun q1 => if q1 = 0 then ((f_X7_is 3 X).bind fun q3 => if q3 = 0 then ((f_X7_is 14 X).bind fun q5 => if q5 = 0 then ((f_X7_is 13 X).bind fun q7 => if q7 = 0 then ((f_X7_is 5 X).bind fun q9 => if q9 = 0 then ((f_X7_is 11 X).bind fun q11 => if q11 = 0 then ((f_X7_is 17 X).bind fun q13 => if q13 = 0 then ((f_X7_is 8 X).bind fun q15 => if q15 = 0 then (some (-1 : Int32)) else (some (7 : Int32))) else (some (6 : Int32))) else (some (5 : Int32))) else (some (4 : Int32))) else (some (3 : Int32))) else (some (2 : Int32))) else (some (1 : Int32))) else (some (0 : Int32))
section
variable {G : GP} {l : Launch}
set_option maxRecDepth 20000 in
set_option maxHeartbeats 2000000 in
theorem c_X4_factNamed   {X M : TX} {L : TL}  {ro : Int32} (hf : f_X4_factNamed X = some ro) : CTi G l yX4_factNamed cX4_factNamed 1 (some .int) 7 203 [.ref (gA G 1)] X M L X M L ro := by
  unfold f_X4_factNamed at hf
  refine ct_of (by decide +kernel) (Nat.le_of_ble_eq_true rfl) (fun p e s m args below meth c H locs ls C hr hlk hw hl => ?_)
  have C : Cx G p s m args c cX4_factNamed 1 RX4 := C
  have hl : lv_has ls 1 [(0, .ref (gA G 1))] := hl
  refine lv_aload_n C.1.1 C.1.2.1 dX4_factNamed_0 rfl (lv_at hl 0 rfl) ?_
  refine x_ldcS C (i := 9) (tx := "people") (List.mem_of_getElem? (i := 6) rfl) dX4_factNamed_1 ?_
  obtain ⟨q1, h1, hf⟩ := o_bind hf
  refine aft_i hw (run_VX C hw clX4_98 (As := [.ref (gK G 9)]) (rest := []) oX_1 (c_X7_is (by decide) h1) rfl hl.1 rfl ⟨(Nat.le_of_ble_eq_true rfl), (Nat.le_of_ble_eq_true rfl)⟩ ⟨Nat.zero_le _, Nat.zero_le _⟩ rfl (Nat.le_of_ble_eq_true rfl) dX4_factNamed_3) (fun H locs hw => ?_)
  refine lv_if_eq (tgt := 11) C.1.1 C.1.2.1 dX4_factNamed_6 (by decide) (fun c2 => ?_) (fun c2 => ?_)
  · have hf := o_t hf c2
    refine lv_aload_n C.1.1 C.1.2.1 dX4_factNamed_11 rfl (lv_at hl 0 rfl) ?_
    refine x_ldcS C (i := 3) (tx := "lead") (List.mem_of_getElem? (i := 7) rfl) dX4_factNamed_12 ?_
    obtain ⟨q3, h3, hf⟩ := o_bind hf
    refine aft_i hw (run_VX C hw clX4_98 (As := [.ref (gK G 3)]) (rest := []) oX_1 (c_X7_is (by decide) h3) rfl hl.1 rfl ⟨(Nat.le_of_ble_eq_true rfl), (Nat.le_of_ble_eq_true rfl)⟩ ⟨Nat.zero_le _, Nat.zero_le _⟩ rfl (Nat.le_of_ble_eq_true rfl) dX4_factNamed_14) (fun H locs hw => ?_)
    refine lv_if_eq (tgt := 22) C.1.1 C.1.2.1 dX4_factNamed_17 (by decide) (fun c4 => ?_) (fun c4 => ?_)
    · have hf := o_t hf c4
      refine lv_aload_n C.1.1 C.1.2.1 dX4_factNamed_22 rfl (lv_at hl 0 rfl) ?_
      refine x_ldcS C (i := 14) (tx := "size") (List.mem_of_getElem? (i := 8) rfl) dX4_factNamed_23 ?_
      obtain ⟨q5, h5, hf⟩ := o_bind hf
      refine aft_i hw (run_VX C hw clX4_98 (As := [.ref (gK G 14)]) (rest := []) oX_1 (c_X7_is (by decide) h5) rfl hl.1 rfl ⟨(Nat.le_of_ble_eq_true rfl), (Nat.le_of_ble_eq_true rfl)⟩ ⟨Nat.zero_le _, Nat.zero_le _⟩ rfl (Nat.le_of_ble_eq_true rfl) dX4_factNamed_25) (fun H locs hw => ?_)
      refine lv_if_eq (tgt := 33) C.1.1 C.1.2.1 dX4_factNamed_28 (by decide) (fun c6 => ?_) (fun c6 => ?_)
      · have hf := o_t hf c6
        refine lv_aload_n C.1.1 C.1.2.1 dX4_factNamed_33 rfl (lv_at hl 0 rfl) ?_
        refine x_ldcS C (i := 13) (tx := "room") (List.mem_of_getElem? (i := 9) rfl) dX4_factNamed_34 ?_
        obtain ⟨q7, h7, hf⟩ := o_bind hf
        refine aft_i hw (run_VX C hw clX4_98 (As := [.ref (gK G 13)]) (rest := []) oX_1 (c_X7_is (by decide) h7) rfl hl.1 rfl ⟨(Nat.le_of_ble_eq_true rfl), (Nat.le_of_ble_eq_true rfl)⟩ ⟨Nat.zero_le _, Nat.zero_le _⟩ rfl (Nat.le_of_ble_eq_true rfl) dX4_factNamed_36) (fun H locs hw => ?_)
        refine lv_if_eq (tgt := 44) C.1.1 C.1.2.1 dX4_factNamed_39 (by decide) (fun c8 => ?_) (fun c8 => ?_)
        · have hf := o_t hf c8
          refine lv_aload_n C.1.1 C.1.2.1 dX4_factNamed_44 rfl (lv_at hl 0 rfl) ?_
          refine x_ldcS C (i := 5) (tx := "lines") (List.mem_of_getElem? (i := 10) rfl) dX4_factNamed_45 ?_
          obtain ⟨q9, h9, hf⟩ := o_bind hf
          refine aft_i hw (run_VX C hw clX4_98 (As := [.ref (gK G 5)]) (rest := []) oX_1 (c_X7_is (by decide) h9) rfl hl.1 rfl ⟨(Nat.le_of_ble_eq_true rfl), (Nat.le_of_ble_eq_true rfl)⟩ ⟨Nat.zero_le _, Nat.zero_le _⟩ rfl (Nat.le_of_ble_eq_true rfl) dX4_factNamed_47) (fun H locs hw => ?_)
          refine lv_if_eq (tgt := 55) C.1.1 C.1.2.1 dX4_factNamed_50 (by decide) (fun c10 => ?_) (fun c10 => ?_)
          · have hf := o_t hf c10
            refine lv_aload_n C.1.1 C.1.2.1 dX4_factNamed_55 rfl (lv_at hl 0 rfl) ?_
            refine x_ldcS C (i := 11) (tx := "reign") (List.mem_of_getElem? (i := 11) rfl) dX4_factNamed_56 ?_
            obtain ⟨q11, h11, hf⟩ := o_bind hf
            refine aft_i hw (run_VX C hw clX4_98 (As := [.ref (gK G 11)]) (rest := []) oX_1 (c_X7_is (by decide) h11) rfl hl.1 rfl ⟨(Nat.le_of_ble_eq_true rfl), (Nat.le_of_ble_eq_true rfl)⟩ ⟨Nat.zero_le _, Nat.zero_le _⟩ rfl (Nat.le_of_ble_eq_true rfl) dX4_factNamed_58) (fun H locs hw => ?_)
            refine lv_if_eq (tgt := 66) C.1.1 C.1.2.1 dX4_factNamed_61 (by decide) (fun c12 => ?_) (fun c12 => ?_)
            · have hf := o_t hf c12
              refine lv_aload_n C.1.1 C.1.2.1 dX4_factNamed_66 rfl (lv_at hl 0 rfl) ?_
              refine x_ldcS C (i := 17) (tx := "year") (List.mem_of_getElem? (i := 12) rfl) dX4_factNamed_67 ?_
              obtain ⟨q13, h13, hf⟩ := o_bind hf
              refine aft_i hw (run_VX C hw clX4_98 (As := [.ref (gK G 17)]) (rest := []) oX_1 (c_X7_is (by decide) h13) rfl hl.1 rfl ⟨(Nat.le_of_ble_eq_true rfl), (Nat.le_of_ble_eq_true rfl)⟩ ⟨Nat.zero_le _, Nat.zero_le _⟩ rfl (Nat.le_of_ble_eq_true rfl) dX4_factNamed_69) (fun H locs hw => ?_)
              refine lv_if_eq (tgt := 78) C.1.1 C.1.2.1 dX4_factNamed_72 (by decide) (fun c14 => ?_) (fun c14 => ?_)
              · have hf := o_t hf c14
                refine lv_aload_n C.1.1 C.1.2.1 dX4_factNamed_78 rfl (lv_at hl 0 rfl) ?_
                refine x_ldcS C (i := 8) (tx := "parish") (List.mem_of_getElem? (i := 13) rfl) dX4_factNamed_79 ?_
                obtain ⟨q15, h15, hf⟩ := o_bind hf
                refine aft_i hw (run_VX C hw clX4_98 (As := [.ref (gK G 8)]) (rest := []) oX_1 (c_X7_is (by decide) h15) rfl hl.1 rfl ⟨(Nat.le_of_ble_eq_true rfl), (Nat.le_of_ble_eq_true rfl)⟩ ⟨Nat.zero_le _, Nat.zero_le _⟩ rfl (Nat.le_of_ble_eq_true rfl) dX4_factNamed_81) (fun H locs hw => ?_)
                refine lv_if_eq (tgt := 92) C.1.1 C.1.2.1 dX4_factNamed_84 (by decide) (fun c16 => ?_) (fun c16 => ?_)
                · have hf := o_t hf c16
                  refine lv_iconst (v := (-1 : Int32)) C.1.1 C.1.2.1 dX4_factNamed_92 rfl ?_
                  obtain rfl := Option.some.inj hf
                  exact ret_i C hr hlk hw dX4_factNamed_93
                · have hf := o_f hf c16
                  refine lv_bipush (v := (7 : Int32)) C.1.1 C.1.2.1 dX4_factNamed_87 rfl ?_
                  refine lv_goto (tgt := 93) C.1.1 C.1.2.1 dX4_factNamed_89 (by decide) ?_
                  obtain rfl := Option.some.inj hf
                  exact ret_i C hr hlk hw dX4_factNamed_93
              · have hf := o_f hf c14
                refine lv_bipush (v := (6 : Int32)) C.1.1 C.1.2.1 dX4_factNamed_75 rfl ?_
                obtain rfl := Option.some.inj hf
                exact ret_i C hr hlk hw dX4_factNamed_77
            · have hf := o_f hf c12
              refine lv_iconst (v := (5 : Int32)) C.1.1 C.1.2.1 dX4_factNamed_64 rfl ?_
              obtain rfl := Option.some.inj hf
              exact ret_i C hr hlk hw dX4_factNamed_65
          · have hf := o_f hf c10
            refine lv_iconst (v := (4 : Int32)) C.1.1 C.1.2.1 dX4_factNamed_53 rfl ?_
            obtain rfl := Option.some.inj hf
            exact ret_i C hr hlk hw dX4_factNamed_54
        · have hf := o_f hf c8
          refine lv_iconst (v := (3 : Int32)) C.1.1 C.1.2.1 dX4_factNamed_42 rfl ?_
          obtain rfl := Option.some.inj hf
          exact ret_i C hr hlk hw dX4_factNamed_43
      · have hf := o_f hf c6
        refine lv_iconst (v := (2 : Int32)) C.1.1 C.1.2.1 dX4_factNamed_31 rfl ?_
        obtain rfl := Option.some.inj hf
        exact ret_i C hr hlk hw dX4_factNamed_32
    · have hf := o_f hf c4
      refine lv_iconst (v := (1 : Int32)) C.1.1 C.1.2.1 dX4_factNamed_20 rfl ?_
      obtain rfl := Option.some.inj hf
      exact ret_i C hr hlk hw dX4_factNamed_21
  · have hf := o_f hf c2
    refine lv_iconst (v := (0 : Int32)) C.1.1 C.1.2.1 dX4_factNamed_9 rfl ?_
    obtain rfl := Option.some.inj hf
    exact ret_i C hr hlk hw dX4_factNamed_10
end
/-! WinnerDraws$Law.add(I)Z (('o', 'X', 23) ('i',)) -/
def f_X4_add (X : TX) (x1 : Int32) : Option (TX × Int32) := (f_X8_put 24 X (X 23 3) x1).bind fun q1 => some ((u2 q1 23 3 ((q1 23 3) + (1 : Int32))), (1 : Int32))
section
variable {G : GP} {l : Launch}
set_option maxRecDepth 20000 in
set_option maxHeartbeats 2000000 in
theorem c_X4_add   {X M : TX} {L : TL} {x1 : Int32} {ro : TX × Int32} (hf : f_X4_add X x1 = some ro) : CTi G l yX4_add cX4_add 2 (some .boolean) 1 22 [.ref (gA G 23), .int x1] X M L ro.1 M L ro.2 := by
  unfold f_X4_add at hf
  refine ct_of (by decide +kernel) (Nat.le_of_ble_eq_true rfl) (fun p e s m args below meth c H locs ls C hr hlk hw hl => ?_)
  have C : Cx G p s m args c cX4_add 2 RX4 := C
  have hl : lv_has ls 2 [(0, .ref (gA G 23)), (1, .int x1)] := hl
  refine lv_aload_n C.1.1 C.1.2.1 dX4_add_0 rfl (lv_at hl 0 rfl) ?_
  refine x_ref C hw fX_23_0 flX4_9 dX4_add_1 ?_
  refine lv_aload_n C.1.1 C.1.2.1 dX4_add_4 rfl (lv_at hl 0 rfl) ?_
  refine x_get C hw iX_23_3 flX4_21 dX4_add_5 ?_
  refine lv_iload_n C.1.1 C.1.2.1 dX4_add_8 rfl (lv_at hl 1 rfl) ?_
  obtain ⟨q1, h1, hf⟩ := o_bind hf
  refine aft_v hw (run_S C hw clX4_29 (As := [.ref (gA G 24), .int (X 23 3), .int x1]) (rest := []) (c_X8_put aX_24 h1) hl.1 rfl ⟨(Nat.le_of_ble_eq_true rfl), (Nat.le_of_ble_eq_true rfl)⟩ ⟨Nat.zero_le _, Nat.zero_le _⟩ rfl (Nat.le_of_ble_eq_true rfl) dX4_add_9) (fun H locs hw => ?_)
  refine lv_aload_n C.1.1 C.1.2.1 dX4_add_12 rfl (lv_at hl 0 rfl) ?_
  refine lv_dup C.1.1 C.1.2.1 dX4_add_13 rfl ?_
  refine x_get C hw iX_23_3 flX4_21 dX4_add_14 ?_
  refine lv_iconst (v := (1 : Int32)) C.1.1 C.1.2.1 dX4_add_17 rfl ?_
  refine lv_iadd C.1.1 C.1.2.1 dX4_add_18 ?_
  refine x_put C hw iX_23_3 flX4_21 dX4_add_19 (fun H locs hw => ?_)
  refine lv_iconst (v := (1 : Int32)) C.1.1 C.1.2.1 dX4_add_22 rfl ?_
  obtain rfl := Option.some.inj hf
  exact ret_z (r := (1 : Int32)) C hr hlk hw rfl dX4_add_23
end
/-! WinnerDraws$Law.readUnit(LWinnerDraws$Text;I)Z (('o', 'X', 23) ('o', 'X', 1) ('i',)) -/
def B_X4_readUnit_165 (rec : TX → Int32 → Option (TX × Int32)) (X : TX) (x2 : Int32) (x5 : Int32) : Option (TX × Int32) := if x2 < (6 : Int32) then ((f_X7_sign X (91 : Int32)).bind fun q13 => if q13.2 = 0 then (some (q13.1, (0 : Int32))) else ((rec q13.1 (x2 + (1 : Int32))).bind fun q15 => if q15.2 = 0 then (some (q15.1, (0 : Int32))) else ((f_X7_sign q15.1 (44 : Int32)).bind fun q17 => if q17.2 = 0 then (some (q17.1, (0 : Int32))) else ((rec q17.1 (x2 + (1 : Int32))).bind fun q19 => if q19.2 = 0 then (some (q19.1, (0 : Int32))) else ((f_X7_sign q19.1 (93 : Int32)).bind fun q21 => if q21.2 = 0 then (some (q21.1, (0 : Int32))) else ((f_X4_add q21.1 x5).bind fun q23 => if q23.2 = 0 then (some (q23.1, (0 : Int32))) else (some (q23.1, (1 : Int32))))))))) else ((f_X7_fail X (3 : Int32) (X 1 4)).bind fun q25 => if q25.2 &&& 1 = q25.2 then (some (q25.1, q25.2)) else none)
def f_X4_readUnit (rec : TX → Int32 → Option (TX × Int32)) (X : TX) (x2 : Int32) : Option (TX × Int32) := (f_X7_ahead X).bind fun q1 => (f_X7_isDigit q1.2).bind fun q2 => if q2 = 0 then (if q1.2 = (40 : Int32) then (if x2 < (6 : Int32) then ((f_X7_sign q1.1 (40 : Int32)).bind fun q32 => if q32.2 = 0 then (some (q32.1, (0 : Int32))) else ((rec q32.1 (x2 + (1 : Int32))).bind fun q34 => if q34.2 = 0 then (some (q34.1, (0 : Int32))) else ((f_X7_sign q34.1 (41 : Int32)).bind fun q36 => if q36.2 = 0 then (some (q36.1, (0 : Int32))) else (some (q36.1, (1 : Int32)))))) else ((f_X7_fail q1.1 (3 : Int32) (q1.1 1 3)).bind fun q38 => if q38.2 &&& 1 = q38.2 then (some (q38.1, q38.2)) else none)) else ((f_X7_word q1.1).bind fun q5 => (f_X4_factNamed q5).bind fun q6 => if q6 = (-1 : Int32) then ((f_X7_is 4 q5).bind fun q8 => if q8 = 0 then ((f_X7_is 6 q5).bind fun q10 => if q10 = 0 then ((f_X7_fail q5 (1 : Int32) (q5 1 4)).bind fun q27 => if q27.2 &&& 1 = q27.2 then (some (q27.1, q27.2)) else none) else (B_X4_readUnit_165 rec q5 x2 (-17 : Int32))) else (B_X4_readUnit_165 rec q5 x2 (-16 : Int32))) else ((f_X4_add q5 ((-1 : Int32) - q6)).bind fun q29 => if q29.2 &&& 1 = q29.2 then (some (q29.1, q29.2)) else none))) else ((f_X7_number q1.1 (999 : Int32)).bind fun q40 => if q40.2 = 0 then (some (q40.1, (0 : Int32))) else ((f_X4_add q40.1 (q40.1 1 5)).bind fun q42 => if q42.2 = 0 then (some (q42.1, (0 : Int32))) else (some (q42.1, (1 : Int32)))))
section
variable {G : GP} {l : Launch}
set_option maxRecDepth 20000 in
set_option maxHeartbeats 2000000 in
theorem wB_X4_readUnit_165 {rec : TX → Int32 → Option (TX × Int32)} {d : Nat} (hrec : ∀ {X M : TX} {L : TL} {x2 : Int32} {ro : TX × Int32}, rec X x2 = some ro → CTi G l yX4_readSum cX4_readSum 5 (some .boolean) (10 + 10 * d) (272 + 272 * d) [.ref (gA G 23), .ref (gA G 1), .int x2] X M L ro.1 M L ro.2) {p : Program} {e : Env} {s : State} {m : MethodId} {args : Array Value} {below : List Frame} {meth : Method} {c : Code} (C : Cx G p s m args c cX4_readUnit 6 RX4) (hr : meth.sig.returnType = (some .boolean)) (hlk : meth.locks = false) {ro : TX × Int32} : ∀ (X : TX) (M : TX) (L : TL) (x2 : Int32) (x5 : Int32) (H : Heap) (locs : List Loc) (ls : Array Slot), Wh G s X M L H locs → lv_has ls 6 [(0, .ref (gA G 23)), (1, .ref (gA G 1)), (2, .int x2), (5, .int x5)] → B_X4_readUnit_165 rec X x2 x5 = some ro → W p l e (rz (11 + 10 * d) (296 + 272 * d)) s m args below meth c H locs 0 0 (MQ below (Di G ro.1 M L ro.2) args s 0 0 (AB G)) (F0 m 165 ls []) := by
  intro X M L x2 x5 H locs ls hw hl hf
  unfold B_X4_readUnit_165 at hf
  refine lv_iload_n C.1.1 C.1.2.1 dX4_readUnit_165 rfl (lv_at hl 2 rfl) ?_
  refine lv_bipush (v := (6 : Int32)) C.1.1 C.1.2.1 dX4_readUnit_166 rfl ?_
  refine lv_icmp_lt (tgt := 181) C.1.1 C.1.2.1 dX4_readUnit_168 (by decide) (fun c12 => ?_) (fun c12 => ?_)
  · have hf := o_t hf c12
    refine lv_aload_n C.1.1 C.1.2.1 dX4_readUnit_181 rfl (lv_at hl 1 rfl) ?_
    refine lv_bipush (v := (91 : Int32)) C.1.1 C.1.2.1 dX4_readUnit_182 rfl ?_
    obtain ⟨q13, h13, hf⟩ := o_bind hf
    refine aft_i hw (run_VX C hw clX4_70 (As := [.int (91 : Int32)]) (rest := []) oX_1 (c_X7_sign h13) rfl hl.1 rfl ⟨(by show 2 + 1 ≤ 11 + 10 * d; omega), (by show 8 + (2 + 11) + 41 ≤ 296 + 272 * d; omega)⟩ ⟨Nat.zero_le _, Nat.zero_le _⟩ rfl (Nat.le_of_ble_eq_true rfl) dX4_readUnit_184) (fun H locs hw => ?_)
    refine lv_if_eq (tgt := 243) C.1.1 C.1.2.1 dX4_readUnit_187 (by decide) (fun c14 => ?_) (fun c14 => ?_)
    · have hf := o_t hf c14
      refine lv_iconst (v := (0 : Int32)) C.1.1 C.1.2.1 dX4_readUnit_243 rfl ?_
      obtain rfl := Option.some.inj hf
      exact ret_z (r := (0 : Int32)) C hr hlk hw rfl dX4_readUnit_244
    · have hf := o_f hf c14
      refine lv_aload_n C.1.1 C.1.2.1 dX4_readUnit_190 rfl (lv_at hl 0 rfl) ?_
      refine lv_aload_n C.1.1 C.1.2.1 dX4_readUnit_191 rfl (lv_at hl 1 rfl) ?_
      refine lv_iload_n C.1.1 C.1.2.1 dX4_readUnit_192 rfl (lv_at hl 2 rfl) ?_
      refine lv_iconst (v := (1 : Int32)) C.1.1 C.1.2.1 dX4_readUnit_193 rfl ?_
      refine lv_iadd C.1.1 C.1.2.1 dX4_readUnit_194 ?_
      obtain ⟨q15, h15, hf⟩ := o_bind hf
      refine aft_i hw (run_VX C hw clX4_50 (As := [.ref (gA G 1), .int (x2 + (1 : Int32))]) (rest := []) oX_23 (hrec h15) rfl hl.1 rfl ⟨(by show (10 + 10 * d) + 1 ≤ 11 + 10 * d; omega), (by show 8 + (5 + 11) + (272 + 272 * d) ≤ 296 + 272 * d; omega)⟩ ⟨Nat.zero_le _, Nat.zero_le _⟩ rfl (Nat.le_of_ble_eq_true rfl) dX4_readUnit_195) (fun H locs hw => ?_)
      refine lv_if_eq (tgt := 243) C.1.1 C.1.2.1 dX4_readUnit_198 (by decide) (fun c16 => ?_) (fun c16 => ?_)
      · have hf := o_t hf c16
        refine lv_iconst (v := (0 : Int32)) C.1.1 C.1.2.1 dX4_readUnit_243 rfl ?_
        obtain rfl := Option.some.inj hf
        exact ret_z (r := (0 : Int32)) C hr hlk hw rfl dX4_readUnit_244
      · have hf := o_f hf c16
        refine lv_aload_n C.1.1 C.1.2.1 dX4_readUnit_201 rfl (lv_at hl 1 rfl) ?_
        refine lv_bipush (v := (44 : Int32)) C.1.1 C.1.2.1 dX4_readUnit_202 rfl ?_
        obtain ⟨q17, h17, hf⟩ := o_bind hf
        refine aft_i hw (run_VX C hw clX4_70 (As := [.int (44 : Int32)]) (rest := []) oX_1 (c_X7_sign h17) rfl hl.1 rfl ⟨(by show 2 + 1 ≤ 11 + 10 * d; omega), (by show 8 + (2 + 11) + 41 ≤ 296 + 272 * d; omega)⟩ ⟨Nat.zero_le _, Nat.zero_le _⟩ rfl (Nat.le_of_ble_eq_true rfl) dX4_readUnit_204) (fun H locs hw => ?_)
        refine lv_if_eq (tgt := 243) C.1.1 C.1.2.1 dX4_readUnit_207 (by decide) (fun c18 => ?_) (fun c18 => ?_)
        · have hf := o_t hf c18
          refine lv_iconst (v := (0 : Int32)) C.1.1 C.1.2.1 dX4_readUnit_243 rfl ?_
          obtain rfl := Option.some.inj hf
          exact ret_z (r := (0 : Int32)) C hr hlk hw rfl dX4_readUnit_244
        · have hf := o_f hf c18
          refine lv_aload_n C.1.1 C.1.2.1 dX4_readUnit_210 rfl (lv_at hl 0 rfl) ?_
          refine lv_aload_n C.1.1 C.1.2.1 dX4_readUnit_211 rfl (lv_at hl 1 rfl) ?_
          refine lv_iload_n C.1.1 C.1.2.1 dX4_readUnit_212 rfl (lv_at hl 2 rfl) ?_
          refine lv_iconst (v := (1 : Int32)) C.1.1 C.1.2.1 dX4_readUnit_213 rfl ?_
          refine lv_iadd C.1.1 C.1.2.1 dX4_readUnit_214 ?_
          obtain ⟨q19, h19, hf⟩ := o_bind hf
          refine aft_i hw (run_VX C hw clX4_50 (As := [.ref (gA G 1), .int (x2 + (1 : Int32))]) (rest := []) oX_23 (hrec h19) rfl hl.1 rfl ⟨(by show (10 + 10 * d) + 1 ≤ 11 + 10 * d; omega), (by show 8 + (5 + 11) + (272 + 272 * d) ≤ 296 + 272 * d; omega)⟩ ⟨Nat.zero_le _, Nat.zero_le _⟩ rfl (Nat.le_of_ble_eq_true rfl) dX4_readUnit_215) (fun H locs hw => ?_)
          refine lv_if_eq (tgt := 243) C.1.1 C.1.2.1 dX4_readUnit_218 (by decide) (fun c20 => ?_) (fun c20 => ?_)
          · have hf := o_t hf c20
            refine lv_iconst (v := (0 : Int32)) C.1.1 C.1.2.1 dX4_readUnit_243 rfl ?_
            obtain rfl := Option.some.inj hf
            exact ret_z (r := (0 : Int32)) C hr hlk hw rfl dX4_readUnit_244
          · have hf := o_f hf c20
            refine lv_aload_n C.1.1 C.1.2.1 dX4_readUnit_221 rfl (lv_at hl 1 rfl) ?_
            refine lv_bipush (v := (93 : Int32)) C.1.1 C.1.2.1 dX4_readUnit_222 rfl ?_
            obtain ⟨q21, h21, hf⟩ := o_bind hf
            refine aft_i hw (run_VX C hw clX4_70 (As := [.int (93 : Int32)]) (rest := []) oX_1 (c_X7_sign h21) rfl hl.1 rfl ⟨(by show 2 + 1 ≤ 11 + 10 * d; omega), (by show 8 + (2 + 11) + 41 ≤ 296 + 272 * d; omega)⟩ ⟨Nat.zero_le _, Nat.zero_le _⟩ rfl (Nat.le_of_ble_eq_true rfl) dX4_readUnit_224) (fun H locs hw => ?_)
            refine lv_if_eq (tgt := 243) C.1.1 C.1.2.1 dX4_readUnit_227 (by decide) (fun c22 => ?_) (fun c22 => ?_)
            · have hf := o_t hf c22
              refine lv_iconst (v := (0 : Int32)) C.1.1 C.1.2.1 dX4_readUnit_243 rfl ?_
              obtain rfl := Option.some.inj hf
              exact ret_z (r := (0 : Int32)) C hr hlk hw rfl dX4_readUnit_244
            · have hf := o_f hf c22
              refine lv_aload_n C.1.1 C.1.2.1 dX4_readUnit_230 rfl (lv_at hl 0 rfl) ?_
              refine lv_iload C.1.1 C.1.2.1 dX4_readUnit_231 (lv_at hl 3 rfl) ?_
              obtain ⟨q23, h23, hf⟩ := o_bind hf
              refine aft_i hw (run_VX C hw clX4_74 (As := [.int x5]) (rest := []) oX_23 (c_X4_add h23) rfl hl.1 rfl ⟨(by show 1 + 1 ≤ 11 + 10 * d; omega), (by show 8 + (2 + 11) + 22 ≤ 296 + 272 * d; omega)⟩ ⟨Nat.zero_le _, Nat.zero_le _⟩ rfl (Nat.le_of_ble_eq_true rfl) dX4_readUnit_233) (fun H locs hw => ?_)
              refine lv_if_eq (tgt := 243) C.1.1 C.1.2.1 dX4_readUnit_236 (by decide) (fun c24 => ?_) (fun c24 => ?_)
              · have hf := o_t hf c24
                refine lv_iconst (v := (0 : Int32)) C.1.1 C.1.2.1 dX4_readUnit_243 rfl ?_
                obtain rfl := Option.some.inj hf
                exact ret_z (r := (0 : Int32)) C hr hlk hw rfl dX4_readUnit_244
              · have hf := o_f hf c24
                refine lv_iconst (v := (1 : Int32)) C.1.1 C.1.2.1 dX4_readUnit_239 rfl ?_
                refine lv_goto (tgt := 244) C.1.1 C.1.2.1 dX4_readUnit_240 (by decide) ?_
                obtain rfl := Option.some.inj hf
                exact ret_z (r := (1 : Int32)) C hr hlk hw rfl dX4_readUnit_244
  · have hf := o_f hf c12
    refine lv_aload_n C.1.1 C.1.2.1 dX4_readUnit_171 rfl (lv_at hl 1 rfl) ?_
    refine lv_iconst (v := (3 : Int32)) C.1.1 C.1.2.1 dX4_readUnit_172 rfl ?_
    refine lv_aload_n C.1.1 C.1.2.1 dX4_readUnit_173 rfl (lv_at hl 1 rfl) ?_
    refine x_get C hw iX_1_4 flX4_104 dX4_readUnit_174 ?_
    obtain ⟨q25, h25, hf⟩ := o_bind hf
    refine aft_i hw (run_VX C hw clX4_63 (As := [.int (3 : Int32), .int (X 1 4)]) (rest := []) oX_1 (c_X7_fail h25) rfl hl.1 rfl ⟨(by show 0 + 1 ≤ 11 + 10 * d; omega), (by show 8 + (3 + 11) + 0 ≤ 296 + 272 * d; omega)⟩ ⟨Nat.zero_le _, Nat.zero_le _⟩ rfl (Nat.le_of_ble_eq_true rfl) dX4_readUnit_177) (fun H locs hw => ?_)
    have g26 := (o_g hf).1
    have hf := (o_g hf).2
    obtain rfl := Option.some.inj hf
    exact ret_z (r := q25.2) C hr hlk hw (nar_z g26) dX4_readUnit_180
set_option maxRecDepth 20000 in
set_option maxHeartbeats 2000000 in
theorem c_X4_readUnit {rec : TX → Int32 → Option (TX × Int32)} {d : Nat} (hrec : ∀ {X M : TX} {L : TL} {x2 : Int32} {ro : TX × Int32}, rec X x2 = some ro → CTi G l yX4_readSum cX4_readSum 5 (some .boolean) (10 + 10 * d) (272 + 272 * d) [.ref (gA G 23), .ref (gA G 1), .int x2] X M L ro.1 M L ro.2)  {X M : TX} {L : TL} {x2 : Int32} {ro : TX × Int32} (hf : f_X4_readUnit rec X x2 = some ro) : CTi G l yX4_readUnit cX4_readUnit 6 (some .boolean) (11 + 10 * d) (296 + 272 * d) [.ref (gA G 23), .ref (gA G 1), .int x2] X M L ro.1 M L ro.2 := by
  unfold f_X4_readUnit at hf
  refine ct_of (by decide +kernel) (Nat.le_of_ble_eq_true rfl) (fun p e s m args below meth c H locs ls C hr hlk hw hl => ?_)
  have C : Cx G p s m args c cX4_readUnit 6 RX4 := C
  have hl : lv_has ls 6 [(0, .ref (gA G 23)), (1, .ref (gA G 1)), (2, .int x2)] := hl
  refine lv_aload_n C.1.1 C.1.2.1 dX4_readUnit_0 rfl (lv_at hl 1 rfl) ?_
  obtain ⟨q1, h1, hf⟩ := o_bind hf
  refine aft_i hw (run_VX C hw clX4_54 (As := []) (rest := []) oX_1 (c_X7_ahead h1) rfl hl.1 rfl ⟨(by show 1 + 1 ≤ 11 + 10 * d; omega), (by show 8 + (1 + 11) + 21 ≤ 296 + 272 * d; omega)⟩ ⟨Nat.zero_le _, Nat.zero_le _⟩ rfl (Nat.le_of_ble_eq_true rfl) dX4_readUnit_1) (fun H locs hw => ?_)
  refine lv_istore_n (lv' := [(3, .int q1.2), (0, .ref (gA G 23)), (1, .ref (gA G 1)), (2, .int x2)]) C.1.1 C.1.2.1 dX4_readUnit_4 rfl hl (by decide) rfl (fun ls hl => ?_)
  refine lv_iload_n C.1.1 C.1.2.1 dX4_readUnit_5 rfl (lv_at hl 0 rfl) ?_
  obtain ⟨q2, h2, hf⟩ := o_bind hf
  refine aft_i hw (run_S C hw clX4_80 (As := [.int q1.2]) (rest := []) (c_X7_isDigit h2) hl.1 rfl ⟨(by show 0 + 1 ≤ 11 + 10 * d; omega), (by show 8 + (1 + 11) + 0 ≤ 296 + 272 * d; omega)⟩ ⟨Nat.zero_le _, Nat.zero_le _⟩ rfl (Nat.le_of_ble_eq_true rfl) dX4_readUnit_6) (fun H locs hw => ?_)
  refine lv_if_eq (tgt := 39) C.1.1 C.1.2.1 dX4_readUnit_9 (by decide) (fun c3 => ?_) (fun c3 => ?_)
  · have hf := o_t hf c3
    refine lv_iload_n C.1.1 C.1.2.1 dX4_readUnit_39 rfl (lv_at hl 0 rfl) ?_
    refine lv_bipush (v := (40 : Int32)) C.1.1 C.1.2.1 dX4_readUnit_40 rfl ?_
    refine lv_icmp_ne (tgt := 96) C.1.1 C.1.2.1 dX4_readUnit_42 (by decide) (fun c4 => ?_) (fun c4 => ?_)
    · have hf := o_f hf c4
      refine lv_aload_n C.1.1 C.1.2.1 dX4_readUnit_96 rfl (lv_at hl 2 rfl) ?_
      obtain ⟨q5, h5, hf⟩ := o_bind hf
      refine aft_v hw (run_VX C hw clX4_89 (As := []) (rest := []) oX_1 (c_X7_word h5) rfl hl.1 rfl ⟨(by show 2 + 1 ≤ 11 + 10 * d; omega), (by show 8 + (1 + 11) + 41 ≤ 296 + 272 * d; omega)⟩ ⟨Nat.zero_le _, Nat.zero_le _⟩ rfl (Nat.le_of_ble_eq_true rfl) dX4_readUnit_97) (fun H locs hw => ?_)
      refine lv_aload_n C.1.1 C.1.2.1 dX4_readUnit_100 rfl (lv_at hl 2 rfl) ?_
      obtain ⟨q6, h6, hf⟩ := o_bind hf
      refine aft_i hw (run_S C hw clX4_92 (As := [.ref (gA G 1)]) (rest := []) (c_X4_factNamed h6) hl.1 rfl ⟨(by show 7 + 1 ≤ 11 + 10 * d; omega), (by show 8 + (1 + 11) + 203 ≤ 296 + 272 * d; omega)⟩ ⟨Nat.zero_le _, Nat.zero_le _⟩ rfl (Nat.le_of_ble_eq_true rfl) dX4_readUnit_101) (fun H locs hw => ?_)
      refine lv_istore (lv' := [(4, .int q6), (3, .int q1.2), (0, .ref (gA G 23)), (1, .ref (gA G 1)), (2, .int x2)]) C.1.1 C.1.2.1 dX4_readUnit_104 hl (by decide) rfl (fun ls hl => ?_)
      refine lv_iload C.1.1 C.1.2.1 dX4_readUnit_106 (lv_at hl 0 rfl) ?_
      refine lv_iconst (v := (-1 : Int32)) C.1.1 C.1.2.1 dX4_readUnit_108 rfl ?_
      refine lv_icmp_eq (tgt := 121) C.1.1 C.1.2.1 dX4_readUnit_109 (by decide) (fun c7 => ?_) (fun c7 => ?_)
      · have hf := o_t hf c7
        refine lv_aload_n C.1.1 C.1.2.1 dX4_readUnit_121 rfl (lv_at hl 3 rfl) ?_
        refine x_ldcS C (i := 4) (tx := "least") (List.mem_of_getElem? (i := 4) rfl) dX4_readUnit_122 ?_
        obtain ⟨q8, h8, hf⟩ := o_bind hf
        refine aft_i hw (run_VX C hw clX4_98 (As := [.ref (gK G 4)]) (rest := []) oX_1 (c_X7_is (by decide) h8) rfl hl.1 rfl ⟨(by show 6 + 1 ≤ 11 + 10 * d; omega), (by show 8 + (3 + 11) + 181 ≤ 296 + 272 * d; omega)⟩ ⟨Nat.zero_le _, Nat.zero_le _⟩ rfl (Nat.le_of_ble_eq_true rfl) dX4_readUnit_124) (fun H locs hw => ?_)
        refine lv_if_eq (tgt := 135) C.1.1 C.1.2.1 dX4_readUnit_127 (by decide) (fun c9 => ?_) (fun c9 => ?_)
        · have hf := o_t hf c9
          refine lv_bipush (v := (-17 : Int32)) C.1.1 C.1.2.1 dX4_readUnit_135 rfl ?_
          refine lv_istore (lv' := [(5, .int (-17 : Int32)), (4, .int q6), (3, .int q1.2), (0, .ref (gA G 23)), (1, .ref (gA G 1)), (2, .int x2)]) C.1.1 C.1.2.1 dX4_readUnit_137 hl (by decide) rfl (fun ls hl => ?_)
          refine lv_iload C.1.1 C.1.2.1 dX4_readUnit_139 (lv_at hl 0 rfl) ?_
          refine lv_bipush (v := (-17 : Int32)) C.1.1 C.1.2.1 dX4_readUnit_141 rfl ?_
          refine lv_icmp_ne (tgt := 165) C.1.1 C.1.2.1 dX4_readUnit_143 (by decide) (fun z => absurd (by decide) z) (fun _ => ?_)
          refine lv_aload_n C.1.1 C.1.2.1 dX4_readUnit_146 rfl (lv_at hl 4 rfl) ?_
          refine x_ldcS C (i := 6) (tx := "most") (List.mem_of_getElem? (i := 5) rfl) dX4_readUnit_147 ?_
          obtain ⟨q10, h10, hf⟩ := o_bind hf
          refine aft_i hw (run_VX C hw clX4_98 (As := [.ref (gK G 6)]) (rest := []) oX_1 (c_X7_is (by decide) h10) rfl hl.1 rfl ⟨(by show 6 + 1 ≤ 11 + 10 * d; omega), (by show 8 + (3 + 11) + 181 ≤ 296 + 272 * d; omega)⟩ ⟨Nat.zero_le _, Nat.zero_le _⟩ rfl (Nat.le_of_ble_eq_true rfl) dX4_readUnit_149) (fun H locs hw => ?_)
          refine lv_if_ne (tgt := 165) C.1.1 C.1.2.1 dX4_readUnit_152 (by decide) (fun c11 => ?_) (fun c11 => ?_)
          · have hf := o_f hf c11
            exact wB_X4_readUnit_165 hrec C hr hlk q5 M L x2 (-17 : Int32) _ _ _ hw (lv_sub hl [3, 4, 5, 0] rfl) hf
          · have hf := o_t hf c11
            refine lv_aload_n C.1.1 C.1.2.1 dX4_readUnit_155 rfl (lv_at hl 4 rfl) ?_
            refine lv_iconst (v := (1 : Int32)) C.1.1 C.1.2.1 dX4_readUnit_156 rfl ?_
            refine lv_aload_n C.1.1 C.1.2.1 dX4_readUnit_157 rfl (lv_at hl 4 rfl) ?_
            refine x_get C hw iX_1_4 flX4_104 dX4_readUnit_158 ?_
            obtain ⟨q27, h27, hf⟩ := o_bind hf
            refine aft_i hw (run_VX C hw clX4_63 (As := [.int (1 : Int32), .int (q5 1 4)]) (rest := []) oX_1 (c_X7_fail h27) rfl hl.1 rfl ⟨(by show 0 + 1 ≤ 11 + 10 * d; omega), (by show 8 + (3 + 11) + 0 ≤ 296 + 272 * d; omega)⟩ ⟨Nat.zero_le _, Nat.zero_le _⟩ rfl (Nat.le_of_ble_eq_true rfl) dX4_readUnit_161) (fun H locs hw => ?_)
            have g28 := (o_g hf).1
            have hf := (o_g hf).2
            obtain rfl := Option.some.inj hf
            exact ret_z (r := q27.2) C hr hlk hw (nar_z g28) dX4_readUnit_164
        · have hf := o_f hf c9
          refine lv_bipush (v := (-16 : Int32)) C.1.1 C.1.2.1 dX4_readUnit_130 rfl ?_
          refine lv_goto (tgt := 137) C.1.1 C.1.2.1 dX4_readUnit_132 (by decide) ?_
          refine lv_istore (lv' := [(5, .int (-16 : Int32)), (4, .int q6), (3, .int q1.2), (0, .ref (gA G 23)), (1, .ref (gA G 1)), (2, .int x2)]) C.1.1 C.1.2.1 dX4_readUnit_137 hl (by decide) rfl (fun ls hl => ?_)
          refine lv_iload C.1.1 C.1.2.1 dX4_readUnit_139 (lv_at hl 0 rfl) ?_
          refine lv_bipush (v := (-17 : Int32)) C.1.1 C.1.2.1 dX4_readUnit_141 rfl ?_
          refine lv_icmp_ne (tgt := 165) C.1.1 C.1.2.1 dX4_readUnit_143 (by decide) (fun _ => ?_) (fun z => absurd z (by decide))
          exact wB_X4_readUnit_165 hrec C hr hlk q5 M L x2 (-16 : Int32) _ _ _ hw (lv_sub hl [3, 4, 5, 0] rfl) hf
      · have hf := o_f hf c7
        refine lv_aload_n C.1.1 C.1.2.1 dX4_readUnit_112 rfl (lv_at hl 2 rfl) ?_
        refine lv_iconst (v := (-1 : Int32)) C.1.1 C.1.2.1 dX4_readUnit_113 rfl ?_
        refine lv_iload C.1.1 C.1.2.1 dX4_readUnit_114 (lv_at hl 0 rfl) ?_
        refine lv_isub C.1.1 C.1.2.1 dX4_readUnit_116 ?_
        obtain ⟨q29, h29, hf⟩ := o_bind hf
        refine aft_i hw (run_VX C hw clX4_74 (As := [.int ((-1 : Int32) - q6)]) (rest := []) oX_23 (c_X4_add h29) rfl hl.1 rfl ⟨(by show 1 + 1 ≤ 11 + 10 * d; omega), (by show 8 + (2 + 11) + 22 ≤ 296 + 272 * d; omega)⟩ ⟨Nat.zero_le _, Nat.zero_le _⟩ rfl (Nat.le_of_ble_eq_true rfl) dX4_readUnit_117) (fun H locs hw => ?_)
        have g30 := (o_g hf).1
        have hf := (o_g hf).2
        obtain rfl := Option.some.inj hf
        exact ret_z (r := q29.2) C hr hlk hw (nar_z g30) dX4_readUnit_120
    · have hf := o_t hf c4
      refine lv_iload_n C.1.1 C.1.2.1 dX4_readUnit_45 rfl (lv_at hl 3 rfl) ?_
      refine lv_bipush (v := (6 : Int32)) C.1.1 C.1.2.1 dX4_readUnit_46 rfl ?_
      refine lv_icmp_lt (tgt := 61) C.1.1 C.1.2.1 dX4_readUnit_48 (by decide) (fun c31 => ?_) (fun c31 => ?_)
      · have hf := o_t hf c31
        refine lv_aload_n C.1.1 C.1.2.1 dX4_readUnit_61 rfl (lv_at hl 2 rfl) ?_
        refine lv_bipush (v := (40 : Int32)) C.1.1 C.1.2.1 dX4_readUnit_62 rfl ?_
        obtain ⟨q32, h32, hf⟩ := o_bind hf
        refine aft_i hw (run_VX C hw clX4_70 (As := [.int (40 : Int32)]) (rest := []) oX_1 (c_X7_sign h32) rfl hl.1 rfl ⟨(by show 2 + 1 ≤ 11 + 10 * d; omega), (by show 8 + (2 + 11) + 41 ≤ 296 + 272 * d; omega)⟩ ⟨Nat.zero_le _, Nat.zero_le _⟩ rfl (Nat.le_of_ble_eq_true rfl) dX4_readUnit_64) (fun H locs hw => ?_)
        refine lv_if_eq (tgt := 94) C.1.1 C.1.2.1 dX4_readUnit_67 (by decide) (fun c33 => ?_) (fun c33 => ?_)
        · have hf := o_t hf c33
          refine lv_iconst (v := (0 : Int32)) C.1.1 C.1.2.1 dX4_readUnit_94 rfl ?_
          obtain rfl := Option.some.inj hf
          exact ret_z (r := (0 : Int32)) C hr hlk hw rfl dX4_readUnit_95
        · have hf := o_f hf c33
          refine lv_aload_n C.1.1 C.1.2.1 dX4_readUnit_70 rfl (lv_at hl 1 rfl) ?_
          refine lv_aload_n C.1.1 C.1.2.1 dX4_readUnit_71 rfl (lv_at hl 2 rfl) ?_
          refine lv_iload_n C.1.1 C.1.2.1 dX4_readUnit_72 rfl (lv_at hl 3 rfl) ?_
          refine lv_iconst (v := (1 : Int32)) C.1.1 C.1.2.1 dX4_readUnit_73 rfl ?_
          refine lv_iadd C.1.1 C.1.2.1 dX4_readUnit_74 ?_
          obtain ⟨q34, h34, hf⟩ := o_bind hf
          refine aft_i hw (run_VX C hw clX4_50 (As := [.ref (gA G 1), .int (x2 + (1 : Int32))]) (rest := []) oX_23 (hrec h34) rfl hl.1 rfl ⟨(by show (10 + 10 * d) + 1 ≤ 11 + 10 * d; omega), (by show 8 + (5 + 11) + (272 + 272 * d) ≤ 296 + 272 * d; omega)⟩ ⟨Nat.zero_le _, Nat.zero_le _⟩ rfl (Nat.le_of_ble_eq_true rfl) dX4_readUnit_75) (fun H locs hw => ?_)
          refine lv_if_eq (tgt := 94) C.1.1 C.1.2.1 dX4_readUnit_78 (by decide) (fun c35 => ?_) (fun c35 => ?_)
          · have hf := o_t hf c35
            refine lv_iconst (v := (0 : Int32)) C.1.1 C.1.2.1 dX4_readUnit_94 rfl ?_
            obtain rfl := Option.some.inj hf
            exact ret_z (r := (0 : Int32)) C hr hlk hw rfl dX4_readUnit_95
          · have hf := o_f hf c35
            refine lv_aload_n C.1.1 C.1.2.1 dX4_readUnit_81 rfl (lv_at hl 2 rfl) ?_
            refine lv_bipush (v := (41 : Int32)) C.1.1 C.1.2.1 dX4_readUnit_82 rfl ?_
            obtain ⟨q36, h36, hf⟩ := o_bind hf
            refine aft_i hw (run_VX C hw clX4_70 (As := [.int (41 : Int32)]) (rest := []) oX_1 (c_X7_sign h36) rfl hl.1 rfl ⟨(by show 2 + 1 ≤ 11 + 10 * d; omega), (by show 8 + (2 + 11) + 41 ≤ 296 + 272 * d; omega)⟩ ⟨Nat.zero_le _, Nat.zero_le _⟩ rfl (Nat.le_of_ble_eq_true rfl) dX4_readUnit_84) (fun H locs hw => ?_)
            refine lv_if_eq (tgt := 94) C.1.1 C.1.2.1 dX4_readUnit_87 (by decide) (fun c37 => ?_) (fun c37 => ?_)
            · have hf := o_t hf c37
              refine lv_iconst (v := (0 : Int32)) C.1.1 C.1.2.1 dX4_readUnit_94 rfl ?_
              obtain rfl := Option.some.inj hf
              exact ret_z (r := (0 : Int32)) C hr hlk hw rfl dX4_readUnit_95
            · have hf := o_f hf c37
              refine lv_iconst (v := (1 : Int32)) C.1.1 C.1.2.1 dX4_readUnit_90 rfl ?_
              refine lv_goto (tgt := 95) C.1.1 C.1.2.1 dX4_readUnit_91 (by decide) ?_
              obtain rfl := Option.some.inj hf
              exact ret_z (r := (1 : Int32)) C hr hlk hw rfl dX4_readUnit_95
      · have hf := o_f hf c31
        refine lv_aload_n C.1.1 C.1.2.1 dX4_readUnit_51 rfl (lv_at hl 2 rfl) ?_
        refine lv_iconst (v := (3 : Int32)) C.1.1 C.1.2.1 dX4_readUnit_52 rfl ?_
        refine lv_aload_n C.1.1 C.1.2.1 dX4_readUnit_53 rfl (lv_at hl 2 rfl) ?_
        refine x_get C hw iX_1_3 flX4_60 dX4_readUnit_54 ?_
        obtain ⟨q38, h38, hf⟩ := o_bind hf
        refine aft_i hw (run_VX C hw clX4_63 (As := [.int (3 : Int32), .int (q1.1 1 3)]) (rest := []) oX_1 (c_X7_fail h38) rfl hl.1 rfl ⟨(by show 0 + 1 ≤ 11 + 10 * d; omega), (by show 8 + (3 + 11) + 0 ≤ 296 + 272 * d; omega)⟩ ⟨Nat.zero_le _, Nat.zero_le _⟩ rfl (Nat.le_of_ble_eq_true rfl) dX4_readUnit_57) (fun H locs hw => ?_)
        have g39 := (o_g hf).1
        have hf := (o_g hf).2
        obtain rfl := Option.some.inj hf
        exact ret_z (r := q38.2) C hr hlk hw (nar_z g39) dX4_readUnit_60
  · have hf := o_f hf c3
    refine lv_aload_n C.1.1 C.1.2.1 dX4_readUnit_12 rfl (lv_at hl 2 rfl) ?_
    refine lv_sipush (v := (999 : Int32)) C.1.1 C.1.2.1 dX4_readUnit_13 rfl ?_
    obtain ⟨q40, h40, hf⟩ := o_bind hf
    refine aft_i hw (run_VX C hw clX4_83 (As := [.int (999 : Int32)]) (rest := []) oX_1 (c_X7_number h40) rfl hl.1 rfl ⟨(by show 2 + 1 ≤ 11 + 10 * d; omega), (by show 8 + (2 + 11) + 41 ≤ 296 + 272 * d; omega)⟩ ⟨Nat.zero_le _, Nat.zero_le _⟩ rfl (Nat.le_of_ble_eq_true rfl) dX4_readUnit_16) (fun H locs hw => ?_)
    refine lv_if_eq (tgt := 37) C.1.1 C.1.2.1 dX4_readUnit_19 (by decide) (fun c41 => ?_) (fun c41 => ?_)
    · have hf := o_t hf c41
      refine lv_iconst (v := (0 : Int32)) C.1.1 C.1.2.1 dX4_readUnit_37 rfl ?_
      obtain rfl := Option.some.inj hf
      exact ret_z (r := (0 : Int32)) C hr hlk hw rfl dX4_readUnit_38
    · have hf := o_f hf c41
      refine lv_aload_n C.1.1 C.1.2.1 dX4_readUnit_22 rfl (lv_at hl 1 rfl) ?_
      refine lv_aload_n C.1.1 C.1.2.1 dX4_readUnit_23 rfl (lv_at hl 2 rfl) ?_
      refine x_get C hw iX_1_5 flX4_86 dX4_readUnit_24 ?_
      obtain ⟨q42, h42, hf⟩ := o_bind hf
      refine aft_i hw (run_VX C hw clX4_74 (As := [.int (q40.1 1 5)]) (rest := []) oX_23 (c_X4_add h42) rfl hl.1 rfl ⟨(by show 1 + 1 ≤ 11 + 10 * d; omega), (by show 8 + (2 + 11) + 22 ≤ 296 + 272 * d; omega)⟩ ⟨Nat.zero_le _, Nat.zero_le _⟩ rfl (Nat.le_of_ble_eq_true rfl) dX4_readUnit_27) (fun H locs hw => ?_)
      refine lv_if_eq (tgt := 37) C.1.1 C.1.2.1 dX4_readUnit_30 (by decide) (fun c43 => ?_) (fun c43 => ?_)
      · have hf := o_t hf c43
        refine lv_iconst (v := (0 : Int32)) C.1.1 C.1.2.1 dX4_readUnit_37 rfl ?_
        obtain rfl := Option.some.inj hf
        exact ret_z (r := (0 : Int32)) C hr hlk hw rfl dX4_readUnit_38
      · have hf := o_f hf c43
        refine lv_iconst (v := (1 : Int32)) C.1.1 C.1.2.1 dX4_readUnit_33 rfl ?_
        refine lv_goto (tgt := 38) C.1.1 C.1.2.1 dX4_readUnit_34 (by decide) ?_
        obtain rfl := Option.some.inj hf
        exact ret_z (r := (1 : Int32)) C hr hlk hw rfl dX4_readUnit_38
end
/-! WinnerDraws$Law.readProduct(LWinnerDraws$Text;I)Z (('o', 'X', 23) ('o', 'X', 1) ('i',)) -/
def B_X4_readProduct_49 (rec : TX → Int32 → Option (TX × Int32)) (k_13 : TX → Int32 → Int32 → Option (TX × Int32)) (X : TX) (x2 : Int32) (x3 : Int32) (x4 : Int32) : Option (TX × Int32) := (f_X7_sign X x4).bind fun q6 => if q6.2 = 0 then (some (q6.1, (0 : Int32))) else ((f_X4_readUnit rec q6.1 x2).bind fun q8 => if q8.2 = 0 then (some (q8.1, (0 : Int32))) else (if x4 = (42 : Int32) then ((f_X4_add q8.1 (-13 : Int32)).bind fun q14 => k_13 q14.1 x2 (x3 + (1 : Int32))) else (if x4 = (47 : Int32) then ((f_X4_add q8.1 (-14 : Int32)).bind fun q13 => k_13 q13.1 x2 (x3 + (1 : Int32))) else ((f_X4_add q8.1 (-15 : Int32)).bind fun q12 => k_13 q12.1 x2 (x3 + (1 : Int32))))))
def L_X4_readProduct_13 (rec : TX → Int32 → Option (TX × Int32)) : Nat → TX → Int32 → Int32 → Option (TX × Int32)
  | 0 => fun _ _ _ => none
  | n + 1 => fun X x2 x3 => if (150 : Int32) ≤ x3 then (some (X, (1 : Int32))) else ((f_X7_ahead X).bind fun q4 => if q4.2 = (42 : Int32) then (B_X4_readProduct_49 rec (L_X4_readProduct_13 rec n) q4.1 x2 x3 q4.2) else (if q4.2 = (47 : Int32) then (B_X4_readProduct_49 rec (L_X4_readProduct_13 rec n) q4.1 x2 x3 q4.2) else (if q4.2 = (37 : Int32) then (B_X4_readProduct_49 rec (L_X4_readProduct_13 rec n) q4.1 x2 x3 q4.2) else (some (q4.1, (1 : Int32))))))
def f_X4_readProduct (rec : TX → Int32 → Option (TX × Int32)) (X : TX) (x2 : Int32) : Option (TX × Int32) := (f_X4_readUnit rec X x2).bind fun q1 => if q1.2 = 0 then (some (q1.1, (0 : Int32))) else (L_X4_readProduct_13 rec FU q1.1 x2 (0 : Int32))
section
variable {G : GP} {l : Launch}
set_option maxRecDepth 20000 in
set_option maxHeartbeats 2000000 in
theorem wB_X4_readProduct_49 {rec : TX → Int32 → Option (TX × Int32)} {d : Nat} (hrec : ∀ {X M : TX} {L : TL} {x2 : Int32} {ro : TX × Int32}, rec X x2 = some ro → CTi G l yX4_readSum cX4_readSum 5 (some .boolean) (10 + 10 * d) (272 + 272 * d) [.ref (gA G 23), .ref (gA G 1), .int x2] X M L ro.1 M L ro.2) {p : Program} {e : Env} {s : State} {m : MethodId} {args : Array Value} {below : List Frame} {meth : Method} {c : Code} (C : Cx G p s m args c cX4_readProduct 5 RX4) (hr : meth.sig.returnType = (some .boolean)) (hlk : meth.locks = false) {ro : TX × Int32} {k_13 : TX → Int32 → Int32 → Option (TX × Int32)} (hk_13 : ∀ (X : TX) (M : TX) (L : TL) (x2 : Int32) (x3 : Int32) (H : Heap) (locs : List Loc) (ls : Array Slot), Wh G s X M L H locs → lv_has ls 5 [(0, .ref (gA G 23)), (1, .ref (gA G 1)), (2, .int x2), (3, .int x3)] → k_13 X x2 x3 = some ro → W p l e (rz (12 + 10 * d) (321 + 272 * d)) s m args below meth c H locs 0 0 (MQ below (Di G ro.1 M L ro.2) args s 0 0 (AB G)) (F0 m 13 ls [])) : ∀ (X : TX) (M : TX) (L : TL) (x2 : Int32) (x3 : Int32) (x4 : Int32) (H : Heap) (locs : List Loc) (ls : Array Slot), Wh G s X M L H locs → lv_has ls 5 [(0, .ref (gA G 23)), (1, .ref (gA G 1)), (2, .int x2), (3, .int x3), (4, .int x4)] → B_X4_readProduct_49 rec k_13 X x2 x3 x4 = some ro → W p l e (rz (12 + 10 * d) (321 + 272 * d)) s m args below meth c H locs 0 0 (MQ below (Di G ro.1 M L ro.2) args s 0 0 (AB G)) (F0 m 49 ls []) := by
  intro X M L x2 x3 x4 H locs ls hw hl hf
  unfold B_X4_readProduct_49 at hf
  refine lv_aload_n C.1.1 C.1.2.1 dX4_readProduct_49 rfl (lv_at hl 1 rfl) ?_
  refine lv_iload C.1.1 C.1.2.1 dX4_readProduct_50 (lv_at hl 4 rfl) ?_
  obtain ⟨q6, h6, hf⟩ := o_bind hf
  refine aft_i hw (run_VX C hw clX4_70 (As := [.int x4]) (rest := []) oX_1 (c_X7_sign h6) rfl hl.1 rfl ⟨(by show 2 + 1 ≤ 12 + 10 * d; omega), (by show 8 + (2 + 11) + 41 ≤ 321 + 272 * d; omega)⟩ ⟨Nat.zero_le _, Nat.zero_le _⟩ rfl (Nat.le_of_ble_eq_true rfl) dX4_readProduct_52) (fun H locs hw => ?_)
  refine lv_if_eq (tgt := 67) C.1.1 C.1.2.1 dX4_readProduct_55 (by decide) (fun c7 => ?_) (fun c7 => ?_)
  · have hf := o_t hf c7
    refine lv_iconst (v := (0 : Int32)) C.1.1 C.1.2.1 dX4_readProduct_67 rfl ?_
    obtain rfl := Option.some.inj hf
    exact ret_z (r := (0 : Int32)) C hr hlk hw rfl dX4_readProduct_68
  · have hf := o_f hf c7
    refine lv_aload_n C.1.1 C.1.2.1 dX4_readProduct_58 rfl (lv_at hl 0 rfl) ?_
    refine lv_aload_n C.1.1 C.1.2.1 dX4_readProduct_59 rfl (lv_at hl 1 rfl) ?_
    refine lv_iload_n C.1.1 C.1.2.1 dX4_readProduct_60 rfl (lv_at hl 2 rfl) ?_
    obtain ⟨q8, h8, hf⟩ := o_bind hf
    refine aft_i hw (run_VX C hw clX4_77 (As := [.ref (gA G 1), .int x2]) (rest := []) oX_23 (c_X4_readUnit hrec h8) rfl hl.1 rfl ⟨(by show (11 + 10 * d) + 1 ≤ 12 + 10 * d; omega), (by show 8 + (6 + 11) + (296 + 272 * d) ≤ 321 + 272 * d; omega)⟩ ⟨Nat.zero_le _, Nat.zero_le _⟩ rfl (Nat.le_of_ble_eq_true rfl) dX4_readProduct_61) (fun H locs hw => ?_)
    refine lv_if_ne (tgt := 69) C.1.1 C.1.2.1 dX4_readProduct_64 (by decide) (fun c9 => ?_) (fun c9 => ?_)
    · have hf := o_f hf c9
      refine lv_aload_n C.1.1 C.1.2.1 dX4_readProduct_69 rfl (lv_at hl 0 rfl) ?_
      refine lv_iload C.1.1 C.1.2.1 dX4_readProduct_70 (lv_at hl 4 rfl) ?_
      refine lv_bipush (v := (42 : Int32)) C.1.1 C.1.2.1 dX4_readProduct_72 rfl ?_
      refine lv_icmp_ne (tgt := 82) C.1.1 C.1.2.1 dX4_readProduct_74 (by decide) (fun c10 => ?_) (fun c10 => ?_)
      · have hf := o_f hf c10
        refine lv_iload C.1.1 C.1.2.1 dX4_readProduct_82 (lv_at hl 4 rfl) ?_
        refine lv_bipush (v := (47 : Int32)) C.1.1 C.1.2.1 dX4_readProduct_84 rfl ?_
        refine lv_icmp_ne (tgt := 94) C.1.1 C.1.2.1 dX4_readProduct_86 (by decide) (fun c11 => ?_) (fun c11 => ?_)
        · have hf := o_f hf c11
          refine lv_bipush (v := (-15 : Int32)) C.1.1 C.1.2.1 dX4_readProduct_94 rfl ?_
          obtain ⟨q12, h12, hf⟩ := o_bind hf
          refine aft_i hw (run_VX C hw clX4_74 (As := [.int (-15 : Int32)]) (rest := []) oX_23 (c_X4_add h12) rfl hl.1 rfl ⟨(by show 1 + 1 ≤ 12 + 10 * d; omega), (by show 8 + (2 + 11) + 22 ≤ 321 + 272 * d; omega)⟩ ⟨Nat.zero_le _, Nat.zero_le _⟩ rfl (Nat.le_of_ble_eq_true rfl) dX4_readProduct_96) (fun H locs hw => ?_)
          refine lv_pop C.1.1 C.1.2.1 dX4_readProduct_99 rfl ?_
          refine lv_iinc (v := (x3 + (1 : Int32))) (lv' := [(3, .int (x3 + (1 : Int32))), (0, .ref (gA G 23)), (1, .ref (gA G 1)), (2, .int x2), (4, .int x4)]) C.1.1 C.1.2.1 dX4_readProduct_100 hl (k := 3) rfl rfl (by decide) rfl (fun ls hl => ?_)
          refine lv_goto (tgt := 13) C.1.1 C.1.2.1 dX4_readProduct_103 (by decide) ?_
          exact hk_13 q12.1 M L x2 (x3 + (1 : Int32)) _ _ _ hw (lv_sub hl [1, 2, 3, 0] rfl) hf
        · have hf := o_t hf c11
          refine lv_bipush (v := (-14 : Int32)) C.1.1 C.1.2.1 dX4_readProduct_89 rfl ?_
          refine lv_goto (tgt := 96) C.1.1 C.1.2.1 dX4_readProduct_91 (by decide) ?_
          obtain ⟨q13, h13, hf⟩ := o_bind hf
          refine aft_i hw (run_VX C hw clX4_74 (As := [.int (-14 : Int32)]) (rest := []) oX_23 (c_X4_add h13) rfl hl.1 rfl ⟨(by show 1 + 1 ≤ 12 + 10 * d; omega), (by show 8 + (2 + 11) + 22 ≤ 321 + 272 * d; omega)⟩ ⟨Nat.zero_le _, Nat.zero_le _⟩ rfl (Nat.le_of_ble_eq_true rfl) dX4_readProduct_96) (fun H locs hw => ?_)
          refine lv_pop C.1.1 C.1.2.1 dX4_readProduct_99 rfl ?_
          refine lv_iinc (v := (x3 + (1 : Int32))) (lv' := [(3, .int (x3 + (1 : Int32))), (0, .ref (gA G 23)), (1, .ref (gA G 1)), (2, .int x2), (4, .int x4)]) C.1.1 C.1.2.1 dX4_readProduct_100 hl (k := 3) rfl rfl (by decide) rfl (fun ls hl => ?_)
          refine lv_goto (tgt := 13) C.1.1 C.1.2.1 dX4_readProduct_103 (by decide) ?_
          exact hk_13 q13.1 M L x2 (x3 + (1 : Int32)) _ _ _ hw (lv_sub hl [1, 2, 3, 0] rfl) hf
      · have hf := o_t hf c10
        refine lv_bipush (v := (-13 : Int32)) C.1.1 C.1.2.1 dX4_readProduct_77 rfl ?_
        refine lv_goto (tgt := 96) C.1.1 C.1.2.1 dX4_readProduct_79 (by decide) ?_
        obtain ⟨q14, h14, hf⟩ := o_bind hf
        refine aft_i hw (run_VX C hw clX4_74 (As := [.int (-13 : Int32)]) (rest := []) oX_23 (c_X4_add h14) rfl hl.1 rfl ⟨(by show 1 + 1 ≤ 12 + 10 * d; omega), (by show 8 + (2 + 11) + 22 ≤ 321 + 272 * d; omega)⟩ ⟨Nat.zero_le _, Nat.zero_le _⟩ rfl (Nat.le_of_ble_eq_true rfl) dX4_readProduct_96) (fun H locs hw => ?_)
        refine lv_pop C.1.1 C.1.2.1 dX4_readProduct_99 rfl ?_
        refine lv_iinc (v := (x3 + (1 : Int32))) (lv' := [(3, .int (x3 + (1 : Int32))), (0, .ref (gA G 23)), (1, .ref (gA G 1)), (2, .int x2), (4, .int x4)]) C.1.1 C.1.2.1 dX4_readProduct_100 hl (k := 3) rfl rfl (by decide) rfl (fun ls hl => ?_)
        refine lv_goto (tgt := 13) C.1.1 C.1.2.1 dX4_readProduct_103 (by decide) ?_
        exact hk_13 q14.1 M L x2 (x3 + (1 : Int32)) _ _ _ hw (lv_sub hl [1, 2, 3, 0] rfl) hf
    · have hf := o_t hf c9
      refine lv_iconst (v := (0 : Int32)) C.1.1 C.1.2.1 dX4_readProduct_67 rfl ?_
      obtain rfl := Option.some.inj hf
      exact ret_z (r := (0 : Int32)) C hr hlk hw rfl dX4_readProduct_68
set_option maxRecDepth 20000 in
set_option maxHeartbeats 2000000 in
theorem wL_X4_readProduct_13 {rec : TX → Int32 → Option (TX × Int32)} {d : Nat} (hrec : ∀ {X M : TX} {L : TL} {x2 : Int32} {ro : TX × Int32}, rec X x2 = some ro → CTi G l yX4_readSum cX4_readSum 5 (some .boolean) (10 + 10 * d) (272 + 272 * d) [.ref (gA G 23), .ref (gA G 1), .int x2] X M L ro.1 M L ro.2) {p : Program} {e : Env} {s : State} {m : MethodId} {args : Array Value} {below : List Frame} {meth : Method} {c : Code} (C : Cx G p s m args c cX4_readProduct 5 RX4) (hr : meth.sig.returnType = (some .boolean)) (hlk : meth.locks = false) {ro : TX × Int32} : ∀ (n : Nat), ∀ (X : TX) (M : TX) (L : TL) (x2 : Int32) (x3 : Int32) (H : Heap) (locs : List Loc) (ls : Array Slot), Wh G s X M L H locs → lv_has ls 5 [(0, .ref (gA G 23)), (1, .ref (gA G 1)), (2, .int x2), (3, .int x3)] → L_X4_readProduct_13 rec n X x2 x3 = some ro → W p l e (rz (12 + 10 * d) (321 + 272 * d)) s m args below meth c H locs 0 0 (MQ below (Di G ro.1 M L ro.2) args s 0 0 (AB G)) (F0 m 13 ls []) := by
  intro n
  induction n with
  | zero =>
    intro X M L x2 x3 H locs ls hw hl hf
    cases hf
  | succ n hk_13 =>
    intro X M L x2 x3 H locs ls hw hl hf
    rw [L_X4_readProduct_13] at hf
    refine lv_iload_n C.1.1 C.1.2.1 dX4_readProduct_13 rfl (lv_at hl 3 rfl) ?_
    refine lv_sipush (v := (150 : Int32)) C.1.1 C.1.2.1 dX4_readProduct_14 rfl ?_
    refine lv_icmp_ge (tgt := 106) C.1.1 C.1.2.1 dX4_readProduct_17 (by decide) (fun c3 => ?_) (fun c3 => ?_)
    · have hf := o_t hf c3
      refine lv_iconst (v := (1 : Int32)) C.1.1 C.1.2.1 dX4_readProduct_106 rfl ?_
      obtain rfl := Option.some.inj hf
      exact ret_z (r := (1 : Int32)) C hr hlk hw rfl dX4_readProduct_107
    · have hf := o_f hf c3
      refine lv_aload_n C.1.1 C.1.2.1 dX4_readProduct_20 rfl (lv_at hl 1 rfl) ?_
      obtain ⟨q4, h4, hf⟩ := o_bind hf
      refine aft_i hw (run_VX C hw clX4_54 (As := []) (rest := []) oX_1 (c_X7_ahead h4) rfl hl.1 rfl ⟨(by show 1 + 1 ≤ 12 + 10 * d; omega), (by show 8 + (1 + 11) + 21 ≤ 321 + 272 * d; omega)⟩ ⟨Nat.zero_le _, Nat.zero_le _⟩ rfl (Nat.le_of_ble_eq_true rfl) dX4_readProduct_21) (fun H locs hw => ?_)
      refine lv_istore (lv' := [(4, .int q4.2), (0, .ref (gA G 23)), (1, .ref (gA G 1)), (2, .int x2), (3, .int x3)]) C.1.1 C.1.2.1 dX4_readProduct_24 hl (by decide) rfl (fun ls hl => ?_)
      refine lv_iload C.1.1 C.1.2.1 dX4_readProduct_26 (lv_at hl 0 rfl) ?_
      refine lv_bipush (v := (42 : Int32)) C.1.1 C.1.2.1 dX4_readProduct_28 rfl ?_
      refine lv_icmp_eq (tgt := 49) C.1.1 C.1.2.1 dX4_readProduct_30 (by decide) (fun c5 => ?_) (fun c5 => ?_)
      · have hf := o_t hf c5
        exact wB_X4_readProduct_49 hrec C hr hlk hk_13 q4.1 M L x2 x3 q4.2 _ _ _ hw (lv_sub hl [1, 2, 3, 4, 0] rfl) hf
      · have hf := o_f hf c5
        refine lv_iload C.1.1 C.1.2.1 dX4_readProduct_33 (lv_at hl 0 rfl) ?_
        refine lv_bipush (v := (47 : Int32)) C.1.1 C.1.2.1 dX4_readProduct_35 rfl ?_
        refine lv_icmp_eq (tgt := 49) C.1.1 C.1.2.1 dX4_readProduct_37 (by decide) (fun c15 => ?_) (fun c15 => ?_)
        · have hf := o_t hf c15
          exact wB_X4_readProduct_49 hrec C hr hlk hk_13 q4.1 M L x2 x3 q4.2 _ _ _ hw (lv_sub hl [1, 2, 3, 4, 0] rfl) hf
        · have hf := o_f hf c15
          refine lv_iload C.1.1 C.1.2.1 dX4_readProduct_40 (lv_at hl 0 rfl) ?_
          refine lv_bipush (v := (37 : Int32)) C.1.1 C.1.2.1 dX4_readProduct_42 rfl ?_
          refine lv_icmp_eq (tgt := 49) C.1.1 C.1.2.1 dX4_readProduct_44 (by decide) (fun c16 => ?_) (fun c16 => ?_)
          · have hf := o_t hf c16
            exact wB_X4_readProduct_49 hrec C hr hlk hk_13 q4.1 M L x2 x3 q4.2 _ _ _ hw (lv_sub hl [1, 2, 3, 4, 0] rfl) hf
          · have hf := o_f hf c16
            refine lv_iconst (v := (1 : Int32)) C.1.1 C.1.2.1 dX4_readProduct_47 rfl ?_
            obtain rfl := Option.some.inj hf
            exact ret_z (r := (1 : Int32)) C hr hlk hw rfl dX4_readProduct_48
set_option maxRecDepth 20000 in
set_option maxHeartbeats 2000000 in
theorem c_X4_readProduct {rec : TX → Int32 → Option (TX × Int32)} {d : Nat} (hrec : ∀ {X M : TX} {L : TL} {x2 : Int32} {ro : TX × Int32}, rec X x2 = some ro → CTi G l yX4_readSum cX4_readSum 5 (some .boolean) (10 + 10 * d) (272 + 272 * d) [.ref (gA G 23), .ref (gA G 1), .int x2] X M L ro.1 M L ro.2)  {X M : TX} {L : TL} {x2 : Int32} {ro : TX × Int32} (hf : f_X4_readProduct rec X x2 = some ro) : CTi G l yX4_readProduct cX4_readProduct 5 (some .boolean) (12 + 10 * d) (321 + 272 * d) [.ref (gA G 23), .ref (gA G 1), .int x2] X M L ro.1 M L ro.2 := by
  unfold f_X4_readProduct at hf
  refine ct_of (by decide +kernel) (Nat.le_of_ble_eq_true rfl) (fun p e s m args below meth c H locs ls C hr hlk hw hl => ?_)
  have C : Cx G p s m args c cX4_readProduct 5 RX4 := C
  have hl : lv_has ls 5 [(0, .ref (gA G 23)), (1, .ref (gA G 1)), (2, .int x2)] := hl
  refine lv_aload_n C.1.1 C.1.2.1 dX4_readProduct_0 rfl (lv_at hl 0 rfl) ?_
  refine lv_aload_n C.1.1 C.1.2.1 dX4_readProduct_1 rfl (lv_at hl 1 rfl) ?_
  refine lv_iload_n C.1.1 C.1.2.1 dX4_readProduct_2 rfl (lv_at hl 2 rfl) ?_
  obtain ⟨q1, h1, hf⟩ := o_bind hf
  refine aft_i hw (run_VX C hw clX4_77 (As := [.ref (gA G 1), .int x2]) (rest := []) oX_23 (c_X4_readUnit hrec h1) rfl hl.1 rfl ⟨(by show (11 + 10 * d) + 1 ≤ 12 + 10 * d; omega), (by show 8 + (6 + 11) + (296 + 272 * d) ≤ 321 + 272 * d; omega)⟩ ⟨Nat.zero_le _, Nat.zero_le _⟩ rfl (Nat.le_of_ble_eq_true rfl) dX4_readProduct_3) (fun H locs hw => ?_)
  refine lv_if_ne (tgt := 11) C.1.1 C.1.2.1 dX4_readProduct_6 (by decide) (fun c2 => ?_) (fun c2 => ?_)
  · have hf := o_f hf c2
    refine lv_iconst (v := (0 : Int32)) C.1.1 C.1.2.1 dX4_readProduct_11 rfl ?_
    refine lv_istore_n (lv' := [(3, .int (0 : Int32)), (0, .ref (gA G 23)), (1, .ref (gA G 1)), (2, .int x2)]) C.1.1 C.1.2.1 dX4_readProduct_12 rfl hl (by decide) rfl (fun ls hl => ?_)
    exact wL_X4_readProduct_13 hrec C hr hlk FU q1.1 M L x2 (0 : Int32) _ _ _ hw (lv_sub hl [1, 2, 3, 0] rfl) hf
  · have hf := o_t hf c2
    refine lv_iconst (v := (0 : Int32)) C.1.1 C.1.2.1 dX4_readProduct_9 rfl ?_
    obtain rfl := Option.some.inj hf
    exact ret_z (r := (0 : Int32)) C hr hlk hw rfl dX4_readProduct_10
end
/-! WinnerDraws$Law.readSum(LWinnerDraws$Text;I)Z (('o', 'X', 23) ('o', 'X', 1) ('i',)) -/
def B_X4_readSum_42 (rec : TX → Int32 → Option (TX × Int32)) (k_13 : TX → Int32 → Int32 → Option (TX × Int32)) (X : TX) (x2 : Int32) (x3 : Int32) (x4 : Int32) : Option (TX × Int32) := (f_X7_sign X x4).bind fun q6 => if q6.2 = 0 then (some (q6.1, (0 : Int32))) else ((f_X4_readProduct rec q6.1 x2).bind fun q8 => if q8.2 = 0 then (some (q8.1, (0 : Int32))) else (if x4 = (43 : Int32) then ((f_X4_add q8.1 (-11 : Int32)).bind fun q12 => k_13 q12.1 x2 (x3 + (1 : Int32))) else ((f_X4_add q8.1 (-12 : Int32)).bind fun q11 => k_13 q11.1 x2 (x3 + (1 : Int32)))))
def L_X4_readSum_13 (rec : TX → Int32 → Option (TX × Int32)) : Nat → TX → Int32 → Int32 → Option (TX × Int32)
  | 0 => fun _ _ _ => none
  | n + 1 => fun X x2 x3 => if (150 : Int32) ≤ x3 then (some (X, (1 : Int32))) else ((f_X7_ahead X).bind fun q4 => if q4.2 = (43 : Int32) then (B_X4_readSum_42 rec (L_X4_readSum_13 rec n) q4.1 x2 x3 q4.2) else (if q4.2 = (45 : Int32) then (B_X4_readSum_42 rec (L_X4_readSum_13 rec n) q4.1 x2 x3 q4.2) else (some (q4.1, (1 : Int32)))))
def f_X4_readSum : Nat → TX → Int32 → Option (TX × Int32)
  | 0 => fun _ _ => none
  | d + 1 => fun X x2 => (f_X4_readProduct (f_X4_readSum d) X x2).bind fun q1 => if q1.2 = 0 then (some (q1.1, (0 : Int32))) else (L_X4_readSum_13 (f_X4_readSum d) FU q1.1 x2 (0 : Int32))
section
variable {G : GP} {l : Launch}
set_option maxRecDepth 20000 in
set_option maxHeartbeats 2000000 in
theorem wB_X4_readSum_42 {rec : TX → Int32 → Option (TX × Int32)} {d : Nat} (hrec : ∀ {X M : TX} {L : TL} {x2 : Int32} {ro : TX × Int32}, rec X x2 = some ro → CTi G l yX4_readSum cX4_readSum 5 (some .boolean) (10 + 10 * d) (272 + 272 * d) [.ref (gA G 23), .ref (gA G 1), .int x2] X M L ro.1 M L ro.2) {p : Program} {e : Env} {s : State} {m : MethodId} {args : Array Value} {below : List Frame} {meth : Method} {c : Code} (C : Cx G p s m args c cX4_readSum 5 RX4) (hr : meth.sig.returnType = (some .boolean)) (hlk : meth.locks = false) {ro : TX × Int32} {k_13 : TX → Int32 → Int32 → Option (TX × Int32)} (hk_13 : ∀ (X : TX) (M : TX) (L : TL) (x2 : Int32) (x3 : Int32) (H : Heap) (locs : List Loc) (ls : Array Slot), Wh G s X M L H locs → lv_has ls 5 [(0, .ref (gA G 23)), (1, .ref (gA G 1)), (2, .int x2), (3, .int x3)] → k_13 X x2 x3 = some ro → W p l e (rz (10 + 10 * (d + 1)) (272 + 272 * (d + 1))) s m args below meth c H locs 0 0 (MQ below (Di G ro.1 M L ro.2) args s 0 0 (AB G)) (F0 m 13 ls [])) : ∀ (X : TX) (M : TX) (L : TL) (x2 : Int32) (x3 : Int32) (x4 : Int32) (H : Heap) (locs : List Loc) (ls : Array Slot), Wh G s X M L H locs → lv_has ls 5 [(0, .ref (gA G 23)), (1, .ref (gA G 1)), (2, .int x2), (3, .int x3), (4, .int x4)] → B_X4_readSum_42 rec k_13 X x2 x3 x4 = some ro → W p l e (rz (10 + 10 * (d + 1)) (272 + 272 * (d + 1))) s m args below meth c H locs 0 0 (MQ below (Di G ro.1 M L ro.2) args s 0 0 (AB G)) (F0 m 42 ls []) := by
  intro X M L x2 x3 x4 H locs ls hw hl hf
  unfold B_X4_readSum_42 at hf
  refine lv_aload_n C.1.1 C.1.2.1 dX4_readSum_42 rfl (lv_at hl 1 rfl) ?_
  refine lv_iload C.1.1 C.1.2.1 dX4_readSum_43 (lv_at hl 4 rfl) ?_
  obtain ⟨q6, h6, hf⟩ := o_bind hf
  refine aft_i hw (run_VX C hw clX4_70 (As := [.int x4]) (rest := []) oX_1 (c_X7_sign h6) rfl hl.1 rfl ⟨(by show 2 + 1 ≤ 10 + 10 * (d + 1); omega), (by show 8 + (2 + 11) + 41 ≤ 272 + 272 * (d + 1); omega)⟩ ⟨Nat.zero_le _, Nat.zero_le _⟩ rfl (Nat.le_of_ble_eq_true rfl) dX4_readSum_45) (fun H locs hw => ?_)
  refine lv_if_eq (tgt := 60) C.1.1 C.1.2.1 dX4_readSum_48 (by decide) (fun c7 => ?_) (fun c7 => ?_)
  · have hf := o_t hf c7
    refine lv_iconst (v := (0 : Int32)) C.1.1 C.1.2.1 dX4_readSum_60 rfl ?_
    obtain rfl := Option.some.inj hf
    exact ret_z (r := (0 : Int32)) C hr hlk hw rfl dX4_readSum_61
  · have hf := o_f hf c7
    refine lv_aload_n C.1.1 C.1.2.1 dX4_readSum_51 rfl (lv_at hl 0 rfl) ?_
    refine lv_aload_n C.1.1 C.1.2.1 dX4_readSum_52 rfl (lv_at hl 1 rfl) ?_
    refine lv_iload_n C.1.1 C.1.2.1 dX4_readSum_53 rfl (lv_at hl 2 rfl) ?_
    obtain ⟨q8, h8, hf⟩ := o_bind hf
    refine aft_i hw (run_VX C hw clX4_67 (As := [.ref (gA G 1), .int x2]) (rest := []) oX_23 (c_X4_readProduct hrec h8) rfl hl.1 rfl ⟨(by show (12 + 10 * d) + 1 ≤ 10 + 10 * (d + 1); omega), (by show 8 + (5 + 11) + (321 + 272 * d) ≤ 272 + 272 * (d + 1); omega)⟩ ⟨Nat.zero_le _, Nat.zero_le _⟩ rfl (Nat.le_of_ble_eq_true rfl) dX4_readSum_54) (fun H locs hw => ?_)
    refine lv_if_ne (tgt := 62) C.1.1 C.1.2.1 dX4_readSum_57 (by decide) (fun c9 => ?_) (fun c9 => ?_)
    · have hf := o_f hf c9
      refine lv_aload_n C.1.1 C.1.2.1 dX4_readSum_62 rfl (lv_at hl 0 rfl) ?_
      refine lv_iload C.1.1 C.1.2.1 dX4_readSum_63 (lv_at hl 4 rfl) ?_
      refine lv_bipush (v := (43 : Int32)) C.1.1 C.1.2.1 dX4_readSum_65 rfl ?_
      refine lv_icmp_ne (tgt := 75) C.1.1 C.1.2.1 dX4_readSum_67 (by decide) (fun c10 => ?_) (fun c10 => ?_)
      · have hf := o_f hf c10
        refine lv_bipush (v := (-12 : Int32)) C.1.1 C.1.2.1 dX4_readSum_75 rfl ?_
        obtain ⟨q11, h11, hf⟩ := o_bind hf
        refine aft_i hw (run_VX C hw clX4_74 (As := [.int (-12 : Int32)]) (rest := []) oX_23 (c_X4_add h11) rfl hl.1 rfl ⟨(by show 1 + 1 ≤ 10 + 10 * (d + 1); omega), (by show 8 + (2 + 11) + 22 ≤ 272 + 272 * (d + 1); omega)⟩ ⟨Nat.zero_le _, Nat.zero_le _⟩ rfl (Nat.le_of_ble_eq_true rfl) dX4_readSum_77) (fun H locs hw => ?_)
        refine lv_pop C.1.1 C.1.2.1 dX4_readSum_80 rfl ?_
        refine lv_iinc (v := (x3 + (1 : Int32))) (lv' := [(3, .int (x3 + (1 : Int32))), (0, .ref (gA G 23)), (1, .ref (gA G 1)), (2, .int x2), (4, .int x4)]) C.1.1 C.1.2.1 dX4_readSum_81 hl (k := 3) rfl rfl (by decide) rfl (fun ls hl => ?_)
        refine lv_goto (tgt := 13) C.1.1 C.1.2.1 dX4_readSum_84 (by decide) ?_
        exact hk_13 q11.1 M L x2 (x3 + (1 : Int32)) _ _ _ hw (lv_sub hl [1, 2, 3, 0] rfl) hf
      · have hf := o_t hf c10
        refine lv_bipush (v := (-11 : Int32)) C.1.1 C.1.2.1 dX4_readSum_70 rfl ?_
        refine lv_goto (tgt := 77) C.1.1 C.1.2.1 dX4_readSum_72 (by decide) ?_
        obtain ⟨q12, h12, hf⟩ := o_bind hf
        refine aft_i hw (run_VX C hw clX4_74 (As := [.int (-11 : Int32)]) (rest := []) oX_23 (c_X4_add h12) rfl hl.1 rfl ⟨(by show 1 + 1 ≤ 10 + 10 * (d + 1); omega), (by show 8 + (2 + 11) + 22 ≤ 272 + 272 * (d + 1); omega)⟩ ⟨Nat.zero_le _, Nat.zero_le _⟩ rfl (Nat.le_of_ble_eq_true rfl) dX4_readSum_77) (fun H locs hw => ?_)
        refine lv_pop C.1.1 C.1.2.1 dX4_readSum_80 rfl ?_
        refine lv_iinc (v := (x3 + (1 : Int32))) (lv' := [(3, .int (x3 + (1 : Int32))), (0, .ref (gA G 23)), (1, .ref (gA G 1)), (2, .int x2), (4, .int x4)]) C.1.1 C.1.2.1 dX4_readSum_81 hl (k := 3) rfl rfl (by decide) rfl (fun ls hl => ?_)
        refine lv_goto (tgt := 13) C.1.1 C.1.2.1 dX4_readSum_84 (by decide) ?_
        exact hk_13 q12.1 M L x2 (x3 + (1 : Int32)) _ _ _ hw (lv_sub hl [1, 2, 3, 0] rfl) hf
    · have hf := o_t hf c9
      refine lv_iconst (v := (0 : Int32)) C.1.1 C.1.2.1 dX4_readSum_60 rfl ?_
      obtain rfl := Option.some.inj hf
      exact ret_z (r := (0 : Int32)) C hr hlk hw rfl dX4_readSum_61
set_option maxRecDepth 20000 in
set_option maxHeartbeats 2000000 in
theorem wL_X4_readSum_13 {rec : TX → Int32 → Option (TX × Int32)} {d : Nat} (hrec : ∀ {X M : TX} {L : TL} {x2 : Int32} {ro : TX × Int32}, rec X x2 = some ro → CTi G l yX4_readSum cX4_readSum 5 (some .boolean) (10 + 10 * d) (272 + 272 * d) [.ref (gA G 23), .ref (gA G 1), .int x2] X M L ro.1 M L ro.2) {p : Program} {e : Env} {s : State} {m : MethodId} {args : Array Value} {below : List Frame} {meth : Method} {c : Code} (C : Cx G p s m args c cX4_readSum 5 RX4) (hr : meth.sig.returnType = (some .boolean)) (hlk : meth.locks = false) {ro : TX × Int32} : ∀ (n : Nat), ∀ (X : TX) (M : TX) (L : TL) (x2 : Int32) (x3 : Int32) (H : Heap) (locs : List Loc) (ls : Array Slot), Wh G s X M L H locs → lv_has ls 5 [(0, .ref (gA G 23)), (1, .ref (gA G 1)), (2, .int x2), (3, .int x3)] → L_X4_readSum_13 rec n X x2 x3 = some ro → W p l e (rz (10 + 10 * (d + 1)) (272 + 272 * (d + 1))) s m args below meth c H locs 0 0 (MQ below (Di G ro.1 M L ro.2) args s 0 0 (AB G)) (F0 m 13 ls []) := by
  intro n
  induction n with
  | zero =>
    intro X M L x2 x3 H locs ls hw hl hf
    cases hf
  | succ n hk_13 =>
    intro X M L x2 x3 H locs ls hw hl hf
    rw [L_X4_readSum_13] at hf
    refine lv_iload_n C.1.1 C.1.2.1 dX4_readSum_13 rfl (lv_at hl 3 rfl) ?_
    refine lv_sipush (v := (150 : Int32)) C.1.1 C.1.2.1 dX4_readSum_14 rfl ?_
    refine lv_icmp_ge (tgt := 87) C.1.1 C.1.2.1 dX4_readSum_17 (by decide) (fun c3 => ?_) (fun c3 => ?_)
    · have hf := o_t hf c3
      refine lv_iconst (v := (1 : Int32)) C.1.1 C.1.2.1 dX4_readSum_87 rfl ?_
      obtain rfl := Option.some.inj hf
      exact ret_z (r := (1 : Int32)) C hr hlk hw rfl dX4_readSum_88
    · have hf := o_f hf c3
      refine lv_aload_n C.1.1 C.1.2.1 dX4_readSum_20 rfl (lv_at hl 1 rfl) ?_
      obtain ⟨q4, h4, hf⟩ := o_bind hf
      refine aft_i hw (run_VX C hw clX4_54 (As := []) (rest := []) oX_1 (c_X7_ahead h4) rfl hl.1 rfl ⟨(by show 1 + 1 ≤ 10 + 10 * (d + 1); omega), (by show 8 + (1 + 11) + 21 ≤ 272 + 272 * (d + 1); omega)⟩ ⟨Nat.zero_le _, Nat.zero_le _⟩ rfl (Nat.le_of_ble_eq_true rfl) dX4_readSum_21) (fun H locs hw => ?_)
      refine lv_istore (lv' := [(4, .int q4.2), (0, .ref (gA G 23)), (1, .ref (gA G 1)), (2, .int x2), (3, .int x3)]) C.1.1 C.1.2.1 dX4_readSum_24 hl (by decide) rfl (fun ls hl => ?_)
      refine lv_iload C.1.1 C.1.2.1 dX4_readSum_26 (lv_at hl 0 rfl) ?_
      refine lv_bipush (v := (43 : Int32)) C.1.1 C.1.2.1 dX4_readSum_28 rfl ?_
      refine lv_icmp_eq (tgt := 42) C.1.1 C.1.2.1 dX4_readSum_30 (by decide) (fun c5 => ?_) (fun c5 => ?_)
      · have hf := o_t hf c5
        exact wB_X4_readSum_42 hrec C hr hlk hk_13 q4.1 M L x2 x3 q4.2 _ _ _ hw (lv_sub hl [1, 2, 3, 4, 0] rfl) hf
      · have hf := o_f hf c5
        refine lv_iload C.1.1 C.1.2.1 dX4_readSum_33 (lv_at hl 0 rfl) ?_
        refine lv_bipush (v := (45 : Int32)) C.1.1 C.1.2.1 dX4_readSum_35 rfl ?_
        refine lv_icmp_eq (tgt := 42) C.1.1 C.1.2.1 dX4_readSum_37 (by decide) (fun c13 => ?_) (fun c13 => ?_)
        · have hf := o_t hf c13
          exact wB_X4_readSum_42 hrec C hr hlk hk_13 q4.1 M L x2 x3 q4.2 _ _ _ hw (lv_sub hl [1, 2, 3, 4, 0] rfl) hf
        · have hf := o_f hf c13
          refine lv_iconst (v := (1 : Int32)) C.1.1 C.1.2.1 dX4_readSum_40 rfl ?_
          obtain rfl := Option.some.inj hf
          exact ret_z (r := (1 : Int32)) C hr hlk hw rfl dX4_readSum_41
set_option maxRecDepth 20000 in
set_option maxHeartbeats 2000000 in
theorem c_X4_readSum : ∀ (d : Nat), ∀ {X M : TX} {L : TL} {x2 : Int32} {ro : TX × Int32}, f_X4_readSum d X x2 = some ro → CTi G l yX4_readSum cX4_readSum 5 (some .boolean) (10 + 10 * d) (272 + 272 * d) [.ref (gA G 23), .ref (gA G 1), .int x2] X M L ro.1 M L ro.2 := by
  intro d
  induction d with
  | zero =>
    intro X M L x2 ro hf
    cases hf
  | succ d hrec =>
    intro X M L x2 ro hf
    rw [f_X4_readSum] at hf
    refine ct_of (by decide +kernel) (Nat.le_of_ble_eq_true rfl) (fun p e s m args below meth c H locs ls C hr hlk hw hl => ?_)
    have C : Cx G p s m args c cX4_readSum 5 RX4 := C
    have hl : lv_has ls 5 [(0, .ref (gA G 23)), (1, .ref (gA G 1)), (2, .int x2)] := hl
    refine lv_aload_n C.1.1 C.1.2.1 dX4_readSum_0 rfl (lv_at hl 0 rfl) ?_
    refine lv_aload_n C.1.1 C.1.2.1 dX4_readSum_1 rfl (lv_at hl 1 rfl) ?_
    refine lv_iload_n C.1.1 C.1.2.1 dX4_readSum_2 rfl (lv_at hl 2 rfl) ?_
    obtain ⟨q1, h1, hf⟩ := o_bind hf
    refine aft_i hw (run_VX C hw clX4_67 (As := [.ref (gA G 1), .int x2]) (rest := []) oX_23 (c_X4_readProduct hrec h1) rfl hl.1 rfl ⟨(by show (12 + 10 * d) + 1 ≤ 10 + 10 * (d + 1); omega), (by show 8 + (5 + 11) + (321 + 272 * d) ≤ 272 + 272 * (d + 1); omega)⟩ ⟨Nat.zero_le _, Nat.zero_le _⟩ rfl (Nat.le_of_ble_eq_true rfl) dX4_readSum_3) (fun H locs hw => ?_)
    refine lv_if_ne (tgt := 11) C.1.1 C.1.2.1 dX4_readSum_6 (by decide) (fun c2 => ?_) (fun c2 => ?_)
    · have hf := o_f hf c2
      refine lv_iconst (v := (0 : Int32)) C.1.1 C.1.2.1 dX4_readSum_11 rfl ?_
      refine lv_istore_n (lv' := [(3, .int (0 : Int32)), (0, .ref (gA G 23)), (1, .ref (gA G 1)), (2, .int x2)]) C.1.1 C.1.2.1 dX4_readSum_12 rfl hl (by decide) rfl (fun ls hl => ?_)
      exact wL_X4_readSum_13 hrec C hr hlk FU q1.1 M L x2 (0 : Int32) _ _ _ hw (lv_sub hl [1, 2, 3, 0] rfl) hf
    · have hf := o_t hf c2
      refine lv_iconst (v := (0 : Int32)) C.1.1 C.1.2.1 dX4_readSum_9 rfl ?_
      obtain rfl := Option.some.inj hf
      exact ret_z (r := (0 : Int32)) C hr hlk hw rfl dX4_readSum_10
end
/-! WinnerDraws$Law.read(LWinnerDraws$Text;)Z (('o', 'X', 23) ('o', 'X', 1)) -/
def f_X4_read (X : TX) : Option (TX × Int32) := (f_X4_readSum 8 (u2 X 23 3 (0 : Int32)) (0 : Int32)).bind fun q1 => if q1.2 = 0 then (some (q1.1, (0 : Int32))) else ((f_X7_ahead q1.1).bind fun q3 => if q3.2 = (-1 : Int32) then (some (q3.1, (1 : Int32))) else ((f_X7_fail q3.1 (1 : Int32) (q3.1 1 3)).bind fun q5 => if q5.2 = 0 then (some (q5.1, (0 : Int32))) else (some (q5.1, (1 : Int32)))))
section
variable {G : GP} {l : Launch}
set_option maxRecDepth 20000 in
set_option maxHeartbeats 2000000 in
theorem c_X4_read   {X M : TX} {L : TL}  {ro : TX × Int32} (hf : f_X4_read X = some ro) : CTi G l yX4_read cX4_read 2 (some .boolean) 91 2472 [.ref (gA G 23), .ref (gA G 1)] X M L ro.1 M L ro.2 := by
  unfold f_X4_read at hf
  refine ct_of (by decide +kernel) (Nat.le_of_ble_eq_true rfl) (fun p e s m args below meth c H locs ls C hr hlk hw hl => ?_)
  have C : Cx G p s m args c cX4_read 2 RX4 := C
  have hl : lv_has ls 2 [(0, .ref (gA G 23)), (1, .ref (gA G 1))] := hl
  refine lv_aload_n C.1.1 C.1.2.1 dX4_read_0 rfl (lv_at hl 0 rfl) ?_
  refine lv_iconst (v := (0 : Int32)) C.1.1 C.1.2.1 dX4_read_1 rfl ?_
  refine x_put C hw iX_23_3 flX4_21 dX4_read_2 (fun H locs hw => ?_)
  refine lv_aload_n C.1.1 C.1.2.1 dX4_read_5 rfl (lv_at hl 0 rfl) ?_
  refine lv_aload_n C.1.1 C.1.2.1 dX4_read_6 rfl (lv_at hl 1 rfl) ?_
  refine lv_iconst (v := (0 : Int32)) C.1.1 C.1.2.1 dX4_read_7 rfl ?_
  obtain ⟨q1, h1, hf⟩ := o_bind hf
  refine aft_i hw (run_VX C hw clX4_50 (As := [.ref (gA G 1), .int (0 : Int32)]) (rest := []) oX_23 (c_X4_readSum 8 h1) rfl hl.1 rfl ⟨(Nat.le_of_ble_eq_true rfl), (Nat.le_of_ble_eq_true rfl)⟩ ⟨Nat.zero_le _, Nat.zero_le _⟩ rfl (Nat.le_of_ble_eq_true rfl) dX4_read_8) (fun H locs hw => ?_)
  refine lv_if_ne (tgt := 16) C.1.1 C.1.2.1 dX4_read_11 (by decide) (fun c2 => ?_) (fun c2 => ?_)
  · have hf := o_f hf c2
    refine lv_aload_n C.1.1 C.1.2.1 dX4_read_16 rfl (lv_at hl 1 rfl) ?_
    obtain ⟨q3, h3, hf⟩ := o_bind hf
    refine aft_i hw (run_VX C hw clX4_54 (As := []) (rest := []) oX_1 (c_X7_ahead h3) rfl hl.1 rfl ⟨(Nat.le_of_ble_eq_true rfl), (Nat.le_of_ble_eq_true rfl)⟩ ⟨Nat.zero_le _, Nat.zero_le _⟩ rfl (Nat.le_of_ble_eq_true rfl) dX4_read_17) (fun H locs hw => ?_)
    refine lv_iconst (v := (-1 : Int32)) C.1.1 C.1.2.1 dX4_read_20 rfl ?_
    refine lv_icmp_eq (tgt := 36) C.1.1 C.1.2.1 dX4_read_21 (by decide) (fun c4 => ?_) (fun c4 => ?_)
    · have hf := o_t hf c4
      refine lv_iconst (v := (1 : Int32)) C.1.1 C.1.2.1 dX4_read_36 rfl ?_
      refine lv_goto (tgt := 41) C.1.1 C.1.2.1 dX4_read_37 (by decide) ?_
      obtain rfl := Option.some.inj hf
      exact ret_z (r := (1 : Int32)) C hr hlk hw rfl dX4_read_41
    · have hf := o_f hf c4
      refine lv_aload_n C.1.1 C.1.2.1 dX4_read_24 rfl (lv_at hl 1 rfl) ?_
      refine lv_iconst (v := (1 : Int32)) C.1.1 C.1.2.1 dX4_read_25 rfl ?_
      refine lv_aload_n C.1.1 C.1.2.1 dX4_read_26 rfl (lv_at hl 1 rfl) ?_
      refine x_get C hw iX_1_3 flX4_60 dX4_read_27 ?_
      obtain ⟨q5, h5, hf⟩ := o_bind hf
      refine aft_i hw (run_VX C hw clX4_63 (As := [.int (1 : Int32), .int (q3.1 1 3)]) (rest := []) oX_1 (c_X7_fail h5) rfl hl.1 rfl ⟨(Nat.le_of_ble_eq_true rfl), (Nat.le_of_ble_eq_true rfl)⟩ ⟨Nat.zero_le _, Nat.zero_le _⟩ rfl (Nat.le_of_ble_eq_true rfl) dX4_read_30) (fun H locs hw => ?_)
      refine lv_if_eq (tgt := 40) C.1.1 C.1.2.1 dX4_read_33 (by decide) (fun c6 => ?_) (fun c6 => ?_)
      · have hf := o_t hf c6
        refine lv_iconst (v := (0 : Int32)) C.1.1 C.1.2.1 dX4_read_40 rfl ?_
        obtain rfl := Option.some.inj hf
        exact ret_z (r := (0 : Int32)) C hr hlk hw rfl dX4_read_41
      · have hf := o_f hf c6
        refine lv_iconst (v := (1 : Int32)) C.1.1 C.1.2.1 dX4_read_36 rfl ?_
        refine lv_goto (tgt := 41) C.1.1 C.1.2.1 dX4_read_37 (by decide) ?_
        obtain rfl := Option.some.inj hf
        exact ret_z (r := (1 : Int32)) C hr hlk hw rfl dX4_read_41
  · have hf := o_t hf c2
    refine lv_iconst (v := (0 : Int32)) C.1.1 C.1.2.1 dX4_read_14 rfl ?_
    obtain rfl := Option.some.inj hf
    exact ret_z (r := (0 : Int32)) C hr hlk hw rfl dX4_read_15
end
/-! WinnerDraws$Law.copyFrom(LWinnerDraws$Law;)V (('o', 'X', 19) ('o', 'X', 23)) -/
def f_X4_copyFrom (X : TX) : Option (TX) := (f_X8_copy 24 20 X (0 : Int32) (0 : Int32) (X 23 3)).bind fun q1 => some (u2 q1 19 3 (q1 23 3))
section
variable {G : GP} {l : Launch}
set_option maxRecDepth 20000 in
set_option maxHeartbeats 2000000 in
theorem c_X4_copyFrom   {X M : TX} {L : TL}  {ro : TX} (hf : f_X4_copyFrom X = some ro) : CTv G l yX4_copyFrom cX4_copyFrom 2 none 2 47 [.ref (gA G 19), .ref (gA G 23)] X M L ro M L := by
  unfold f_X4_copyFrom at hf
  refine ct_of (by decide +kernel) (Nat.le_of_ble_eq_true rfl) (fun p e s m args below meth c H locs ls C hr hlk hw hl => ?_)
  have C : Cx G p s m args c cX4_copyFrom 2 RX4 := C
  have hl : lv_has ls 2 [(0, .ref (gA G 19)), (1, .ref (gA G 23))] := hl
  refine lv_aload_n C.1.1 C.1.2.1 dX4_copyFrom_0 rfl (lv_at hl 1 rfl) ?_
  refine x_ref C hw fX_23_0 flX4_9 dX4_copyFrom_1 ?_
  refine lv_iconst (v := (0 : Int32)) C.1.1 C.1.2.1 dX4_copyFrom_4 rfl ?_
  refine lv_aload_n C.1.1 C.1.2.1 dX4_copyFrom_5 rfl (lv_at hl 0 rfl) ?_
  refine x_ref C hw fX_19_0 flX4_9 dX4_copyFrom_6 ?_
  refine lv_iconst (v := (0 : Int32)) C.1.1 C.1.2.1 dX4_copyFrom_9 rfl ?_
  refine lv_aload_n C.1.1 C.1.2.1 dX4_copyFrom_10 rfl (lv_at hl 1 rfl) ?_
  refine x_get C hw iX_23_3 flX4_21 dX4_copyFrom_11 ?_
  obtain ⟨q1, h1, hf⟩ := o_bind hf
  refine aft_v hw (run_S C hw clX4_25 (As := [.ref (gA G 24), .int (0 : Int32), .ref (gA G 20), .int (0 : Int32), .int (X 23 3)]) (rest := []) (c_X8_copy aX_24 aX_20 h1) hl.1 rfl ⟨(Nat.le_of_ble_eq_true rfl), (Nat.le_of_ble_eq_true rfl)⟩ ⟨Nat.zero_le _, Nat.zero_le _⟩ rfl (Nat.le_of_ble_eq_true rfl) dX4_copyFrom_14) (fun H locs hw => ?_)
  refine lv_aload_n C.1.1 C.1.2.1 dX4_copyFrom_17 rfl (lv_at hl 0 rfl) ?_
  refine lv_aload_n C.1.1 C.1.2.1 dX4_copyFrom_18 rfl (lv_at hl 1 rfl) ?_
  refine x_get C hw iX_23_3 flX4_21 dX4_copyFrom_19 ?_
  refine x_put C hw iX_19_3 flX4_21 dX4_copyFrom_22 (fun H locs hw => ?_)
  obtain rfl := Option.some.inj hf
  exact ret_v C hr hlk hw dX4_copyFrom_25
end
/-! WinnerDraws.law(I)I (('o', 'X', 0) ('i',)) -/
def f_X8_law (X : TX) (x1 : Int32) : Option (TX × (Int32 ⊕ Nat)) := (f_X8_needText X x1 (150 : Int32)).bind fun q1 => xb q1 (fun _ _ => (f_X7_open q1.1 x1).bind fun q2 => (f_X4_read q2).bind fun q3 => if q3.2 = 0 then (some (q3.1, .inl ((q3.1 1 6) - (10 : Int32)))) else ((f_X4_copyFrom q3.1).bind fun q5 => some (q5, .inl (1 : Int32))))
section
variable {G : GP} {l : Launch}
set_option maxRecDepth 20000 in
set_option maxHeartbeats 2000000 in
theorem c_X8_law (hst : l.stackTraces = false)  {X M : TX} {L : TL} {x1 : Int32} {ro : TX × (Int32 ⊕ Nat)} (hf : f_X8_law X x1 = some ro) : CXi G l yX8_law cX8_law 2 (some .int) 92 2493 1 [.ref (gA G 0), .int x1] X M L ro := by
  unfold f_X8_law at hf
  refine cx_of (by decide +kernel) (Nat.le_of_ble_eq_true rfl) (fun p e s m args below meth c H locs ls C hr hlk hnt hw hl => ?_)
  have C : Cx G p s m args c cX8_law 2 RX8 := C
  have hl : lv_has ls 2 [(0, .ref (gA G 0)), (1, .int x1)] := hl
  refine lv_aload_n C.1.1 C.1.2.1 dX8_law_0 rfl (lv_at hl 0 rfl) ?_
  refine lv_iload_n C.1.1 C.1.2.1 dX8_law_1 rfl (lv_at hl 1 rfl) ?_
  refine lv_sipush (v := (150 : Int32)) C.1.1 C.1.2.1 dX8_law_2 rfl ?_
  obtain ⟨q1, h1, hf⟩ := o_bind hf
  refine aftx_v hw (runx_VX C hw clX8_86 (tb2 208 rfl rfl) (As := [.int x1, .int (150 : Int32)]) (rest := []) oX_0 (c_X8_needText hst h1) rfl hl.1 rfl ⟨(Nat.le_of_ble_eq_true rfl), (Nat.le_of_ble_eq_true rfl)⟩ ⟨Nat.le_of_ble_eq_true rfl, Nat.le_of_ble_eq_true rfl⟩ rfl (Nat.le_of_ble_eq_true rfl) dX8_law_5) hf hnt hlk (Nat.le_of_ble_eq_true rfl) (Nat.le_of_ble_eq_true rfl) (fun hf H locs hw => ?_)
  refine lv_aload_n C.1.1 C.1.2.1 dX8_law_8 rfl (lv_at hl 0 rfl) ?_
  refine x_ref C hw fX_0_0 flX8_12 dX8_law_9 ?_
  refine lv_iload_n C.1.1 C.1.2.1 dX8_law_12 rfl (lv_at hl 1 rfl) ?_
  obtain ⟨q2, h2, hf⟩ := o_bind hf
  refine aft_v hw (run_VX C hw clX8_90 (As := [.int x1]) (rest := []) oX_1 (c_X7_open h2) rfl hl.1 rfl ⟨(Nat.le_of_ble_eq_true rfl), (Nat.le_of_ble_eq_true rfl)⟩ ⟨Nat.le_of_ble_eq_true rfl, Nat.le_of_ble_eq_true rfl⟩ rfl (Nat.le_of_ble_eq_true rfl) dX8_law_13) (fun H locs hw => ?_)
  refine lv_aload_n C.1.1 C.1.2.1 dX8_law_16 rfl (lv_at hl 0 rfl) ?_
  refine x_ref C hw fX_0_4 flX8_33 dX8_law_17 ?_
  refine lv_aload_n C.1.1 C.1.2.1 dX8_law_20 rfl (lv_at hl 0 rfl) ?_
  refine x_ref C hw fX_0_0 flX8_12 dX8_law_21 ?_
  obtain ⟨q3, h3, hf⟩ := o_bind hf
  refine aft_i hw (run_VX C hw clX8_115 (As := [.ref (gA G 1)]) (rest := []) oX_23 (c_X4_read h3) rfl hl.1 rfl ⟨(Nat.le_of_ble_eq_true rfl), (Nat.le_of_ble_eq_true rfl)⟩ ⟨Nat.le_of_ble_eq_true rfl, Nat.le_of_ble_eq_true rfl⟩ rfl (Nat.le_of_ble_eq_true rfl) dX8_law_24) (fun H locs hw => ?_)
  refine lv_if_ne (tgt := 41) C.1.1 C.1.2.1 dX8_law_27 (by decide) (fun c4 => ?_) (fun c4 => ?_)
  · have hf := o_f hf c4
    refine lv_aload_n C.1.1 C.1.2.1 dX8_law_41 rfl (lv_at hl 0 rfl) ?_
    refine x_ref C hw fX_0_3 flX8_29 dX8_law_42 ?_
    refine lv_aload_n C.1.1 C.1.2.1 dX8_law_45 rfl (lv_at hl 0 rfl) ?_
    refine x_ref C hw fX_0_4 flX8_33 dX8_law_46 ?_
    obtain ⟨q5, h5, hf⟩ := o_bind hf
    refine aft_v hw (run_VX C hw clX8_116 (As := [.ref (gA G 23)]) (rest := []) oX_19 (c_X4_copyFrom h5) rfl hl.1 rfl ⟨(Nat.le_of_ble_eq_true rfl), (Nat.le_of_ble_eq_true rfl)⟩ ⟨Nat.le_of_ble_eq_true rfl, Nat.le_of_ble_eq_true rfl⟩ rfl (Nat.le_of_ble_eq_true rfl) dX8_law_49) (fun H locs hw => ?_)
    refine lv_iconst (v := (1 : Int32)) C.1.1 C.1.2.1 dX8_law_52 rfl ?_
    exact retx_i C hr hlk hw (Option.some.inj hf).symm (Nat.le_of_ble_eq_true rfl) (Nat.le_of_ble_eq_true rfl) dX8_law_53
  · have hf := o_t hf c4
    refine lv_aload_n C.1.1 C.1.2.1 dX8_law_30 rfl (lv_at hl 0 rfl) ?_
    refine x_ref C hw fX_0_0 flX8_12 dX8_law_31 ?_
    refine x_get C hw iX_1_6 flX8_97 dX8_law_34 ?_
    refine lv_bipush (v := (10 : Int32)) C.1.1 C.1.2.1 dX8_law_37 rfl ?_
    refine lv_isub C.1.1 C.1.2.1 dX8_law_39 ?_
    exact retx_i C hr hlk hw (Option.some.inj hf).symm (Nat.le_of_ble_eq_true rfl) (Nat.le_of_ble_eq_true rfl) dX8_law_40
end
/-! WinnerDraws$Plan.clear(I)V (('o', 'X', 31) ('i',)) -/
def f_X6_clear (X : TX) (x1 : Int32) : Option (TX) := some (u2 (u2 (u2 (u2 (u2 X 31 1 (0 : Int32)) 31 3 (0 : Int32)) 31 4 (0 : Int32)) 31 5 (0 : Int32)) 31 2 x1)
section
variable {G : GP} {l : Launch}
set_option maxRecDepth 20000 in
set_option maxHeartbeats 2000000 in
theorem c_X6_clear   {X M : TX} {L : TL} {x1 : Int32} {ro : TX} (hf : f_X6_clear X x1 = some ro) : CTv G l yX6_clear cX6_clear 2 none 0 0 [.ref (gA G 31), .int x1] X M L ro M L := by
  unfold f_X6_clear at hf
  refine ct_of (by decide +kernel) (Nat.le_of_ble_eq_true rfl) (fun p e s m args below meth c H locs ls C hr hlk hw hl => ?_)
  have C : Cx G p s m args c cX6_clear 2 RX6 := C
  have hl : lv_has ls 2 [(0, .ref (gA G 31)), (1, .int x1)] := hl
  refine lv_aload_n C.1.1 C.1.2.1 dX6_clear_0 rfl (lv_at hl 0 rfl) ?_
  refine lv_iconst (v := (0 : Int32)) C.1.1 C.1.2.1 dX6_clear_1 rfl ?_
  refine x_put C hw iX_31_1 flX6_15 dX6_clear_2 (fun H locs hw => ?_)
  refine lv_aload_n C.1.1 C.1.2.1 dX6_clear_5 rfl (lv_at hl 0 rfl) ?_
  refine lv_iconst (v := (0 : Int32)) C.1.1 C.1.2.1 dX6_clear_6 rfl ?_
  refine x_put C hw iX_31_3 flX6_19 dX6_clear_7 (fun H locs hw => ?_)
  refine lv_aload_n C.1.1 C.1.2.1 dX6_clear_10 rfl (lv_at hl 0 rfl) ?_
  refine lv_iconst (v := (0 : Int32)) C.1.1 C.1.2.1 dX6_clear_11 rfl ?_
  refine x_put C hw iX_31_4 flX6_22 dX6_clear_12 (fun H locs hw => ?_)
  refine lv_aload_n C.1.1 C.1.2.1 dX6_clear_15 rfl (lv_at hl 0 rfl) ?_
  refine lv_iconst (v := (0 : Int32)) C.1.1 C.1.2.1 dX6_clear_16 rfl ?_
  refine x_put C hw iX_31_5 flX6_25 dX6_clear_17 (fun H locs hw => ?_)
  refine lv_aload_n C.1.1 C.1.2.1 dX6_clear_20 rfl (lv_at hl 0 rfl) ?_
  refine lv_iload_n C.1.1 C.1.2.1 dX6_clear_21 rfl (lv_at hl 1 rfl) ?_
  refine x_put C hw iX_31_2 flX6_28 dX6_clear_22 (fun H locs hw => ?_)
  obtain rfl := Option.some.inj hf
  exact ret_v C hr hlk hw dX6_clear_25
end
/-! WinnerDraws$Plan.readNumber(LWinnerDraws$Text;II)Z (('o', 'X', 31) ('o', 'X', 1) ('i',) ('i',)) -/
def f_X6_readNumber (X : TX) (x2 : Int32) (x3 : Int32) : Option (TX × Int32) := (f_X7_number X x2).bind fun q1 => if q1.2 = 0 then (some (q1.1, (0 : Int32))) else ((f_X8_put 32 q1.1 x3 (q1.1 1 5)).bind fun q3 => some (q3, (1 : Int32)))
section
variable {G : GP} {l : Launch}
set_option maxRecDepth 20000 in
set_option maxHeartbeats 2000000 in
theorem c_X6_readNumber   {X M : TX} {L : TL} {x2 : Int32} {x3 : Int32} {ro : TX × Int32} (hf : f_X6_readNumber X x2 x3 = some ro) : CTi G l yX6_readNumber cX6_readNumber 4 (some .boolean) 3 62 [.ref (gA G 31), .ref (gA G 1), .int x2, .int x3] X M L ro.1 M L ro.2 := by
  unfold f_X6_readNumber at hf
  refine ct_of (by decide +kernel) (Nat.le_of_ble_eq_true rfl) (fun p e s m args below meth c H locs ls C hr hlk hw hl => ?_)
  have C : Cx G p s m args c cX6_readNumber 4 RX6 := C
  have hl : lv_has ls 4 [(0, .ref (gA G 31)), (1, .ref (gA G 1)), (2, .int x2), (3, .int x3)] := hl
  refine lv_aload_n C.1.1 C.1.2.1 dX6_readNumber_0 rfl (lv_at hl 1 rfl) ?_
  refine lv_iload_n C.1.1 C.1.2.1 dX6_readNumber_1 rfl (lv_at hl 2 rfl) ?_
  obtain ⟨q1, h1, hf⟩ := o_bind hf
  refine aft_i hw (run_VX C hw clX6_83 (As := [.int x2]) (rest := []) oX_1 (c_X7_number h1) rfl hl.1 rfl ⟨(Nat.le_of_ble_eq_true rfl), (Nat.le_of_ble_eq_true rfl)⟩ ⟨Nat.zero_le _, Nat.zero_le _⟩ rfl (Nat.le_of_ble_eq_true rfl) dX6_readNumber_2) (fun H locs hw => ?_)
  refine lv_if_ne (tgt := 10) C.1.1 C.1.2.1 dX6_readNumber_5 (by decide) (fun c2 => ?_) (fun c2 => ?_)
  · have hf := o_f hf c2
    refine lv_aload_n C.1.1 C.1.2.1 dX6_readNumber_10 rfl (lv_at hl 0 rfl) ?_
    refine x_ref C hw fX_31_0 flX6_9 dX6_readNumber_11 ?_
    refine lv_iload_n C.1.1 C.1.2.1 dX6_readNumber_14 rfl (lv_at hl 3 rfl) ?_
    refine lv_aload_n C.1.1 C.1.2.1 dX6_readNumber_15 rfl (lv_at hl 1 rfl) ?_
    refine x_get C hw iX_1_5 flX6_86 dX6_readNumber_16 ?_
    obtain ⟨q3, h3, hf⟩ := o_bind hf
    refine aft_v hw (run_S C hw clX6_59 (As := [.ref (gA G 32), .int x3, .int (q1.1 1 5)]) (rest := []) (c_X8_put aX_32 h3) hl.1 rfl ⟨(Nat.le_of_ble_eq_true rfl), (Nat.le_of_ble_eq_true rfl)⟩ ⟨Nat.zero_le _, Nat.zero_le _⟩ rfl (Nat.le_of_ble_eq_true rfl) dX6_readNumber_19) (fun H locs hw => ?_)
    refine lv_iconst (v := (1 : Int32)) C.1.1 C.1.2.1 dX6_readNumber_22 rfl ?_
    obtain rfl := Option.some.inj hf
    exact ret_z (r := (1 : Int32)) C hr hlk hw rfl dX6_readNumber_23
  · have hf := o_t hf c2
    refine lv_iconst (v := (0 : Int32)) C.1.1 C.1.2.1 dX6_readNumber_8 rfl ?_
    obtain rfl := Option.some.inj hf
    exact ret_z (r := (0 : Int32)) C hr hlk hw rfl dX6_readNumber_9
end
