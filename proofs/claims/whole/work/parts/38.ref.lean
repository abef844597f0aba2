/-! WinnerDrawsModel.would(IIIIIIII)I (('o', 'M', 0) ('i',) ('i',) ('i',) ('i',) ('i',) ('i',) ('i',) ('i',)) -/
def f_X9_would (M : TX) (x1 : Int32) (x2 : Int32) (x3 : Int32) (x4 : Int32) (x5 : Int32) (x6 : Int32) (x7 : Int32) (x8 : Int32) : Option (TX × Int32) := (f_X9_within x1 (0 : Int32) (198 : Int32)).bind fun q1 => if q1 = 0 then ((f_X9_lets (u2 M 0 0 (0 : Int32)) (0 : Int32) (1 : Int32) (1 : Int32)).bind fun q3 => if q3.2 = 0 then (some (q3.1, (0 : Int32))) else ((f_X9_costOf q3.1 x1 x2 x3 x4 x5 x6 x7 x8).bind fun q5 => some (q5.1, q5.2))) else ((f_X9_within x2 (-99 : Int32) (99 : Int32)).bind fun q6 => if q6 = 0 then ((f_X9_lets (u2 M 0 0 (0 : Int32)) (0 : Int32) (1 : Int32) (1 : Int32)).bind fun q8 => if q8.2 = 0 then (some (q8.1, (0 : Int32))) else ((f_X9_costOf q8.1 x1 x2 x3 x4 x5 x6 x7 x8).bind fun q10 => some (q10.1, q10.2))) else ((f_X9_within x3 (0 : Int32) (10 : Int32)).bind fun q11 => if q11 = 0 then ((f_X9_lets (u2 M 0 0 (0 : Int32)) (0 : Int32) (1 : Int32) (1 : Int32)).bind fun q13 => if q13.2 = 0 then (some (q13.1, (0 : Int32))) else ((f_X9_costOf q13.1 x1 x2 x3 x4 x5 x6 x7 x8).bind fun q15 => some (q15.1, q15.2))) else ((f_X9_within x4 (0 : Int32) (10 : Int32)).bind fun q16 => if q16 = 0 then ((f_X9_lets (u2 M 0 0 (0 : Int32)) (0 : Int32) (1 : Int32) (1 : Int32)).bind fun q18 => if q18.2 = 0 then (some (q18.1, (0 : Int32))) else ((f_X9_costOf q18.1 x1 x2 x3 x4 x5 x6 x7 x8).bind fun q20 => some (q20.1, q20.2))) else ((f_X9_within x5 (0 : Int32) (60 : Int32)).bind fun q21 => if q21 = 0 then ((f_X9_lets (u2 M 0 0 (0 : Int32)) (0 : Int32) (1 : Int32) (1 : Int32)).bind fun q23 => if q23.2 = 0 then (some (q23.1, (0 : Int32))) else ((f_X9_costOf q23.1 x1 x2 x3 x4 x5 x6 x7 x8).bind fun q25 => some (q25.1, q25.2))) else ((f_X9_within x6 (0 : Int32) (400 : Int32)).bind fun q26 => if q26 = 0 then ((f_X9_lets (u2 M 0 0 (0 : Int32)) (0 : Int32) (1 : Int32) (1 : Int32)).bind fun q28 => if q28.2 = 0 then (some (q28.1, (0 : Int32))) else ((f_X9_costOf q28.1 x1 x2 x3 x4 x5 x6 x7 x8).bind fun q30 => some (q30.1, q30.2))) else ((f_X9_within x7 (0 : Int32) (400 : Int32)).bind fun q31 => if q31 = 0 then ((f_X9_lets (u2 M 0 0 (0 : Int32)) (0 : Int32) (1 : Int32) (1 : Int32)).bind fun q33 => if q33.2 = 0 then (some (q33.1, (0 : Int32))) else ((f_X9_costOf q33.1 x1 x2 x3 x4 x5 x6 x7 x8).bind fun q35 => some (q35.1, q35.2))) else ((f_X9_within x8 (0 : Int32) (9 : Int32)).bind fun q36 => if q36 = 0 then ((f_X9_lets (u2 M 0 0 (0 : Int32)) (0 : Int32) (1 : Int32) (1 : Int32)).bind fun q38 => if q38.2 = 0 then (some (q38.1, (0 : Int32))) else ((f_X9_costOf q38.1 x1 x2 x3 x4 x5 x6 x7 x8).bind fun q40 => some (q40.1, q40.2))) else ((f_X9_lets (u2 M 0 0 (0 : Int32)) (1 : Int32) (1 : Int32) (1 : Int32)).bind fun q41 => if q41.2 = 0 then (some (q41.1, (0 : Int32))) else ((f_X9_costOf q41.1 x1 x2 x3 x4 x5 x6 x7 x8).bind fun q43 => some (q43.1, q43.2))))))))))
section
variable {G : GP} {l : Launch}
set_option maxRecDepth 20000 in
set_option maxHeartbeats 2000000 in
theorem c_X9_would   {X M : TX} {L : TL} {x1 : Int32} {x2 : Int32} {x3 : Int32} {x4 : Int32} {x5 : Int32} {x6 : Int32} {x7 : Int32} {x8 : Int32} {ro : TX × Int32} (hf : f_X9_would M x1 x2 x3 x4 x5 x6 x7 x8 = some ro) : CTi G l yX9_would cX9_would 9 (some .int) 4 94 [.ref (gA G (41 + 0)), .int x1, .int x2, .int x3, .int x4, .int x5, .int x6, .int x7, .int x8] X M L X ro.1 L ro.2 := by
  unfold f_X9_would at hf
  refine ct_of (by decide +kernel) (Nat.le_of_ble_eq_true rfl) (fun p e s m args below meth c H locs ls C hr hlk hw hl => ?_)
  have C : Cx G p s m args c cX9_would 9 RX9 := C
  have hl : lv_has ls 9 [(0, .ref (gA G (41 + 0))), (1, .int x1), (2, .int x2), (3, .int x3), (4, .int x4), (5, .int x5), (6, .int x6), (7, .int x7), (8, .int x8)] := hl
  refine lv_aload_n C.1.1 C.1.2.1 dX9_would_0 rfl (lv_at hl 0 rfl) ?_
  refine lv_iconst (v := (0 : Int32)) C.1.1 C.1.2.1 dX9_would_1 rfl ?_
  refine m_put C hw iM_0_0 flX9_3 dX9_would_2 (fun H locs hw => ?_)
  refine lv_aload_n C.1.1 C.1.2.1 dX9_would_5 rfl (lv_at hl 0 rfl) ?_
  refine lv_iload_n C.1.1 C.1.2.1 dX9_would_6 rfl (lv_at hl 1 rfl) ?_
  refine lv_iconst (v := (0 : Int32)) C.1.1 C.1.2.1 dX9_would_7 rfl ?_
  refine lv_sipush (v := (198 : Int32)) C.1.1 C.1.2.1 dX9_would_8 rfl ?_
  obtain ⟨q1, h1, hf⟩ := o_bind hf
  refine aft_i hw (run_S C hw clX9_385 (As := [.int x1, .int (0 : Int32), .int (198 : Int32)]) (rest := [.ref (gA G (41 + 0))]) (c_X9_within h1) hl.1 rfl ⟨(Nat.le_of_ble_eq_true rfl), (Nat.le_of_ble_eq_true rfl)⟩ ⟨Nat.zero_le _, Nat.zero_le _⟩ rfl (Nat.le_of_ble_eq_true rfl) dX9_would_11) (fun H locs hw => ?_)
  refine lv_if_eq (tgt := 99) C.1.1 C.1.2.1 dX9_would_14 (by decide) (fun c2 => ?_) (fun c2 => ?_)
  · have hf := o_t hf c2
    refine lv_iconst (v := (0 : Int32)) C.1.1 C.1.2.1 dX9_would_99 rfl ?_
    refine lv_iconst (v := (1 : Int32)) C.1.1 C.1.2.1 dX9_would_100 rfl ?_
    refine lv_iconst (v := (1 : Int32)) C.1.1 C.1.2.1 dX9_would_101 rfl ?_
    obtain ⟨q3, h3, hf⟩ := o_bind hf
    refine aft_i hw (run_VM C hw clX9_200 (As := [.int (0 : Int32), .int (1 : Int32), .int (1 : Int32)]) (rest := []) oM_0 (c_X9_lets h3) rfl hl.1 rfl ⟨(Nat.le_of_ble_eq_true rfl), (Nat.le_of_ble_eq_true rfl)⟩ ⟨Nat.zero_le _, Nat.zero_le _⟩ rfl (Nat.le_of_ble_eq_true rfl) dX9_would_102) (fun H locs hw => ?_)
    refine lv_if_ne (tgt := 110) C.1.1 C.1.2.1 dX9_would_105 (by decide) (fun c4 => ?_) (fun c4 => ?_)
    · have hf := o_f hf c4
      refine lv_aload_n C.1.1 C.1.2.1 dX9_would_110 rfl (lv_at hl 0 rfl) ?_
      refine lv_iload_n C.1.1 C.1.2.1 dX9_would_111 rfl (lv_at hl 1 rfl) ?_
      refine lv_iload_n C.1.1 C.1.2.1 dX9_would_112 rfl (lv_at hl 2 rfl) ?_
      refine lv_iload_n C.1.1 C.1.2.1 dX9_would_113 rfl (lv_at hl 3 rfl) ?_
      refine lv_iload C.1.1 C.1.2.1 dX9_would_114 (lv_at hl 4 rfl) ?_
      refine lv_iload C.1.1 C.1.2.1 dX9_would_116 (lv_at hl 5 rfl) ?_
      refine lv_iload C.1.1 C.1.2.1 dX9_would_118 (lv_at hl 6 rfl) ?_
      refine lv_iload C.1.1 C.1.2.1 dX9_would_120 (lv_at hl 7 rfl) ?_
      refine lv_iload C.1.1 C.1.2.1 dX9_would_122 (lv_at hl 8 rfl) ?_
      obtain ⟨q5, h5, hf⟩ := o_bind hf
      refine aft_i hw (run_VM C hw clX9_350 (As := [.int x1, .int x2, .int x3, .int x4, .int x5, .int x6, .int x7, .int x8]) (rest := []) oM_0 (c_X9_costOf h5) rfl hl.1 rfl ⟨(Nat.le_of_ble_eq_true rfl), (Nat.le_of_ble_eq_true rfl)⟩ ⟨Nat.zero_le _, Nat.zero_le _⟩ rfl (Nat.le_of_ble_eq_true rfl) dX9_would_124) (fun H locs hw => ?_)
      obtain rfl := Option.some.inj hf
      exact ret_i C hr hlk hw dX9_would_127
    · have hf := o_t hf c4
      refine lv_iconst (v := (0 : Int32)) C.1.1 C.1.2.1 dX9_would_108 rfl ?_
      obtain rfl := Option.some.inj hf
      exact ret_i C hr hlk hw dX9_would_109
  · have hf := o_f hf c2
    refine lv_iload_n C.1.1 C.1.2.1 dX9_would_17 rfl (lv_at hl 2 rfl) ?_
    refine lv_bipush (v := (-99 : Int32)) C.1.1 C.1.2.1 dX9_would_18 rfl ?_
    refine lv_bipush (v := (99 : Int32)) C.1.1 C.1.2.1 dX9_would_20 rfl ?_
    obtain ⟨q6, h6, hf⟩ := o_bind hf
    refine aft_i hw (run_S C hw clX9_385 (As := [.int x2, .int (-99 : Int32), .int (99 : Int32)]) (rest := [.ref (gA G (41 + 0))]) (c_X9_within h6) hl.1 rfl ⟨(Nat.le_of_ble_eq_true rfl), (Nat.le_of_ble_eq_true rfl)⟩ ⟨Nat.zero_le _, Nat.zero_le _⟩ rfl (Nat.le_of_ble_eq_true rfl) dX9_would_22) (fun H locs hw => ?_)
    refine lv_if_eq (tgt := 99) C.1.1 C.1.2.1 dX9_would_25 (by decide) (fun c7 => ?_) (fun c7 => ?_)
    · have hf := o_t hf c7
      refine lv_iconst (v := (0 : Int32)) C.1.1 C.1.2.1 dX9_would_99 rfl ?_
      refine lv_iconst (v := (1 : Int32)) C.1.1 C.1.2.1 dX9_would_100 rfl ?_
      refine lv_iconst (v := (1 : Int32)) C.1.1 C.1.2.1 dX9_would_101 rfl ?_
      obtain ⟨q8, h8, hf⟩ := o_bind hf
      refine aft_i hw (run_VM C hw clX9_200 (As := [.int (0 : Int32), .int (1 : Int32), .int (1 : Int32)]) (rest := []) oM_0 (c_X9_lets h8) rfl hl.1 rfl ⟨(Nat.le_of_ble_eq_true rfl), (Nat.le_of_ble_eq_true rfl)⟩ ⟨Nat.zero_le _, Nat.zero_le _⟩ rfl (Nat.le_of_ble_eq_true rfl) dX9_would_102) (fun H locs hw => ?_)
      refine lv_if_ne (tgt := 110) C.1.1 C.1.2.1 dX9_would_105 (by decide) (fun c9 => ?_) (fun c9 => ?_)
      · have hf := o_f hf c9
        refine lv_aload_n C.1.1 C.1.2.1 dX9_would_110 rfl (lv_at hl 0 rfl) ?_
        refine lv_iload_n C.1.1 C.1.2.1 dX9_would_111 rfl (lv_at hl 1 rfl) ?_
        refine lv_iload_n C.1.1 C.1.2.1 dX9_would_112 rfl (lv_at hl 2 rfl) ?_
        refine lv_iload_n C.1.1 C.1.2.1 dX9_would_113 rfl (lv_at hl 3 rfl) ?_
        refine lv_iload C.1.1 C.1.2.1 dX9_would_114 (lv_at hl 4 rfl) ?_
        refine lv_iload C.1.1 C.1.2.1 dX9_would_116 (lv_at hl 5 rfl) ?_
        refine lv_iload C.1.1 C.1.2.1 dX9_would_118 (lv_at hl 6 rfl) ?_
        refine lv_iload C.1.1 C.1.2.1 dX9_would_120 (lv_at hl 7 rfl) ?_
        refine lv_iload C.1.1 C.1.2.1 dX9_would_122 (lv_at hl 8 rfl) ?_
        obtain ⟨q10, h10, hf⟩ := o_bind hf
        refine aft_i hw (run_VM C hw clX9_350 (As := [.int x1, .int x2, .int x3, .int x4, .int x5, .int x6, .int x7, .int x8]) (rest := []) oM_0 (c_X9_costOf h10) rfl hl.1 rfl ⟨(Nat.le_of_ble_eq_true rfl), (Nat.le_of_ble_eq_true rfl)⟩ ⟨Nat.zero_le _, Nat.zero_le _⟩ rfl (Nat.le_of_ble_eq_true rfl) dX9_would_124) (fun H locs hw => ?_)
        obtain rfl := Option.some.inj hf
        exact ret_i C hr hlk hw dX9_would_127
      · have hf := o_t hf c9
        refine lv_iconst (v := (0 : Int32)) C.1.1 C.1.2.1 dX9_would_108 rfl ?_
        obtain rfl := Option.some.inj hf
        exact ret_i C hr hlk hw dX9_would_109
    · have hf := o_f hf c7
      refine lv_iload_n C.1.1 C.1.2.1 dX9_would_28 rfl (lv_at hl 3 rfl) ?_
      refine lv_iconst (v := (0 : Int32)) C.1.1 C.1.2.1 dX9_would_29 rfl ?_
      refine lv_bipush (v := (10 : Int32)) C.1.1 C.1.2.1 dX9_would_30 rfl ?_
      obtain ⟨q11, h11, hf⟩ := o_bind hf
      refine aft_i hw (run_S C hw clX9_385 (As := [.int x3, .int (0 : Int32), .int (10 : Int32)]) (rest := [.ref (gA G (41 + 0))]) (c_X9_within h11) hl.1 rfl ⟨(Nat.le_of_ble_eq_true rfl), (Nat.le_of_ble_eq_true rfl)⟩ ⟨Nat.zero_le _, Nat.zero_le _⟩ rfl (Nat.le_of_ble_eq_true rfl) dX9_would_32) (fun H locs hw => ?_)
      refine lv_if_eq (tgt := 99) C.1.1 C.1.2.1 dX9_would_35 (by decide) (fun c12 => ?_) (fun c12 => ?_)
      · have hf := o_t hf c12
        refine lv_iconst (v := (0 : Int32)) C.1.1 C.1.2.1 dX9_would_99 rfl ?_
        refine lv_iconst (v := (1 : Int32)) C.1.1 C.1.2.1 dX9_would_100 rfl ?_
        refine lv_iconst (v := (1 : Int32)) C.1.1 C.1.2.1 dX9_would_101 rfl ?_
        obtain ⟨q13, h13, hf⟩ := o_bind hf
        refine aft_i hw (run_VM C hw clX9_200 (As := [.int (0 : Int32), .int (1 : Int32), .int (1 : Int32)]) (rest := []) oM_0 (c_X9_lets h13) rfl hl.1 rfl ⟨(Nat.le_of_ble_eq_true rfl), (Nat.le_of_ble_eq_true rfl)⟩ ⟨Nat.zero_le _, Nat.zero_le _⟩ rfl (Nat.le_of_ble_eq_true rfl) dX9_would_102) (fun H locs hw => ?_)
        refine lv_if_ne (tgt := 110) C.1.1 C.1.2.1 dX9_would_105 (by decide) (fun c14 => ?_) (fun c14 => ?_)
        · have hf := o_f hf c14
          refine lv_aload_n C.1.1 C.1.2.1 dX9_would_110 rfl (lv_at hl 0 rfl) ?_
          refine lv_iload_n C.1.1 C.1.2.1 dX9_would_111 rfl (lv_at hl 1 rfl) ?_
          refine lv_iload_n C.1.1 C.1.2.1 dX9_would_112 rfl (lv_at hl 2 rfl) ?_
          refine lv_iload_n C.1.1 C.1.2.1 dX9_would_113 rfl (lv_at hl 3 rfl) ?_
          refine lv_iload C.1.1 C.1.2.1 dX9_would_114 (lv_at hl 4 rfl) ?_
          refine lv_iload C.1.1 C.1.2.1 dX9_would_116 (lv_at hl 5 rfl) ?_
          refine lv_iload C.1.1 C.1.2.1 dX9_would_118 (lv_at hl 6 rfl) ?_
          refine lv_iload C.1.1 C.1.2.1 dX9_would_120 (lv_at hl 7 rfl) ?_
          refine lv_iload C.1.1 C.1.2.1 dX9_would_122 (lv_at hl 8 rfl) ?_
          obtain ⟨q15, h15, hf⟩ := o_bind hf
          refine aft_i hw (run_VM C hw clX9_350 (As := [.int x1, .int x2, .int x3, .int x4, .int x5, .int x6, .int x7, .int x8]) (rest := []) oM_0 (c_X9_costOf h15) rfl hl.1 rfl ⟨(Nat.le_of_ble_eq_true rfl), (Nat.le_of_ble_eq_true rfl)⟩ ⟨Nat.zero_le _, Nat.zero_le _⟩ rfl (Nat.le_of_ble_eq_true rfl) dX9_would_124) (fun H locs hw => ?_)
          obtain rfl := Option.some.inj hf
          exact ret_i C hr hlk hw dX9_would_127
        · have hf := o_t hf c14
          refine lv_iconst (v := (0 : Int32)) C.1.1 C.1.2.1 dX9_would_108 rfl ?_
          obtain rfl := Option.some.inj hf
          exact ret_i C hr hlk hw dX9_would_109
      · have hf := o_f hf c12
        refine lv_iload C.1.1 C.1.2.1 dX9_would_38 (lv_at hl 4 rfl) ?_
        refine lv_iconst (v := (0 : Int32)) C.1.1 C.1.2.1 dX9_would_40 rfl ?_
        refine lv_bipush (v := (10 : Int32)) C.1.1 C.1.2.1 dX9_would_41 rfl ?_
        obtain ⟨q16, h16, hf⟩ := o_bind hf
        refine aft_i hw (run_S C hw clX9_385 (As := [.int x4, .int (0 : Int32), .int (10 : Int32)]) (rest := [.ref (gA G (41 + 0))]) (c_X9_within h16) hl.1 rfl ⟨(Nat.le_of_ble_eq_true rfl), (Nat.le_of_ble_eq_true rfl)⟩ ⟨Nat.zero_le _, Nat.zero_le _⟩ rfl (Nat.le_of_ble_eq_true rfl) dX9_would_43) (fun H locs hw => ?_)
        refine lv_if_eq (tgt := 99) C.1.1 C.1.2.1 dX9_would_46 (by decide) (fun c17 => ?_) (fun c17 => ?_)
        · have hf := o_t hf c17
          refine lv_iconst (v := (0 : Int32)) C.1.1 C.1.2.1 dX9_would_99 rfl ?_
          refine lv_iconst (v := (1 : Int32)) C.1.1 C.1.2.1 dX9_would_100 rfl ?_
          refine lv_iconst (v := (1 : Int32)) C.1.1 C.1.2.1 dX9_would_101 rfl ?_
          obtain ⟨q18, h18, hf⟩ := o_bind hf
          refine aft_i hw (run_VM C hw clX9_200 (As := [.int (0 : Int32), .int (1 : Int32), .int (1 : Int32)]) (rest := []) oM_0 (c_X9_lets h18) rfl hl.1 rfl ⟨(Nat.le_of_ble_eq_true rfl), (Nat.le_of_ble_eq_true rfl)⟩ ⟨Nat.zero_le _, Nat.zero_le _⟩ rfl (Nat.le_of_ble_eq_true rfl) dX9_would_102) (fun H locs hw => ?_)
          refine lv_if_ne (tgt := 110) C.1.1 C.1.2.1 dX9_would_105 (by decide) (fun c19 => ?_) (fun c19 => ?_)
          · have hf := o_f hf c19
            refine lv_aload_n C.1.1 C.1.2.1 dX9_would_110 rfl (lv_at hl 0 rfl) ?_
            refine lv_iload_n C.1.1 C.1.2.1 dX9_would_111 rfl (lv_at hl 1 rfl) ?_
            refine lv_iload_n C.1.1 C.1.2.1 dX9_would_112 rfl (lv_at hl 2 rfl) ?_
            refine lv_iload_n C.1.1 C.1.2.1 dX9_would_113 rfl (lv_at hl 3 rfl) ?_
            refine lv_iload C.1.1 C.1.2.1 dX9_would_114 (lv_at hl 4 rfl) ?_
            refine lv_iload C.1.1 C.1.2.1 dX9_would_116 (lv_at hl 5 rfl) ?_
            refine lv_iload C.1.1 C.1.2.1 dX9_would_118 (lv_at hl 6 rfl) ?_
            refine lv_iload C.1.1 C.1.2.1 dX9_would_120 (lv_at hl 7 rfl) ?_
            refine lv_iload C.1.1 C.1.2.1 dX9_would_122 (lv_at hl 8 rfl) ?_
            obtain ⟨q20, h20, hf⟩ := o_bind hf
            refine aft_i hw (run_VM C hw clX9_350 (As := [.int x1, .int x2, .int x3, .int x4, .int x5, .int x6, .int x7, .int x8]) (rest := []) oM_0 (c_X9_costOf h20) rfl hl.1 rfl ⟨(Nat.le_of_ble_eq_true rfl), (Nat.le_of_ble_eq_true rfl)⟩ ⟨Nat.zero_le _, Nat.zero_le _⟩ rfl (Nat.le_of_ble_eq_true rfl) dX9_would_124) (fun H locs hw => ?_)
            obtain rfl := Option.some.inj hf
            exact ret_i C hr hlk hw dX9_would_127
          · have hf := o_t hf c19
            refine lv_iconst (v := (0 : Int32)) C.1.1 C.1.2.1 dX9_would_108 rfl ?_
            obtain rfl := Option.some.inj hf
            exact ret_i C hr hlk hw dX9_would_109
        · have hf := o_f hf c17
          refine lv_iload C.1.1 C.1.2.1 dX9_would_49 (lv_at hl 5 rfl) ?_
          refine lv_iconst (v := (0 : Int32)) C.1.1 C.1.2.1 dX9_would_51 rfl ?_
          refine lv_bipush (v := (60 : Int32)) C.1.1 C.1.2.1 dX9_would_52 rfl ?_
          obtain ⟨q21, h21, hf⟩ := o_bind hf
          refine aft_i hw (run_S C hw clX9_385 (As := [.int x5, .int (0 : Int32), .int (60 : Int32)]) (rest := [.ref (gA G (41 + 0))]) (c_X9_within h21) hl.1 rfl ⟨(Nat.le_of_ble_eq_true rfl), (Nat.le_of_ble_eq_true rfl)⟩ ⟨Nat.zero_le _, Nat.zero_le _⟩ rfl (Nat.le_of_ble_eq_true rfl) dX9_would_54) (fun H locs hw => ?_)
          refine lv_if_eq (tgt := 99) C.1.1 C.1.2.1 dX9_would_57 (by decide) (fun c22 => ?_) (fun c22 => ?_)
          · have hf := o_t hf c22
            refine lv_iconst (v := (0 : Int32)) C.1.1 C.1.2.1 dX9_would_99 rfl ?_
            refine lv_iconst (v := (1 : Int32)) C.1.1 C.1.2.1 dX9_would_100 rfl ?_
            refine lv_iconst (v := (1 : Int32)) C.1.1 C.1.2.1 dX9_would_101 rfl ?_
            obtain ⟨q23, h23, hf⟩ := o_bind hf
            refine aft_i hw (run_VM C hw clX9_200 (As := [.int (0 : Int32), .int (1 : Int32), .int (1 : Int32)]) (rest := []) oM_0 (c_X9_lets h23) rfl hl.1 rfl ⟨(Nat.le_of_ble_eq_true rfl), (Nat.le_of_ble_eq_true rfl)⟩ ⟨Nat.zero_le _, Nat.zero_le _⟩ rfl (Nat.le_of_ble_eq_true rfl) dX9_would_102) (fun H locs hw => ?_)
            refine lv_if_ne (tgt := 110) C.1.1 C.1.2.1 dX9_would_105 (by decide) (fun c24 => ?_) (fun c24 => ?_)
            · have hf := o_f hf c24
              refine lv_aload_n C.1.1 C.1.2.1 dX9_would_110 rfl (lv_at hl 0 rfl) ?_
              refine lv_iload_n C.1.1 C.1.2.1 dX9_would_111 rfl (lv_at hl 1 rfl) ?_
              refine lv_iload_n C.1.1 C.1.2.1 dX9_would_112 rfl (lv_at hl 2 rfl) ?_
              refine lv_iload_n C.1.1 C.1.2.1 dX9_would_113 rfl (lv_at hl 3 rfl) ?_
              refine lv_iload C.1.1 C.1.2.1 dX9_would_114 (lv_at hl 4 rfl) ?_
              refine lv_iload C.1.1 C.1.2.1 dX9_would_116 (lv_at hl 5 rfl) ?_
              refine lv_iload C.1.1 C.1.2.1 dX9_would_118 (lv_at hl 6 rfl) ?_
              refine lv_iload C.1.1 C.1.2.1 dX9_would_120 (lv_at hl 7 rfl) ?_
              refine lv_iload C.1.1 C.1.2.1 dX9_would_122 (lv_at hl 8 rfl) ?_
              obtain ⟨q25, h25, hf⟩ := o_bind hf
              refine aft_i hw (run_VM C hw clX9_350 (As := [.int x1, .int x2, .int x3, .int x4, .int x5, .int x6, .int x7, .int x8]) (rest := []) oM_0 (c_X9_costOf h25) rfl hl.1 rfl ⟨(Nat.le_of_ble_eq_true rfl), (Nat.le_of_ble_eq_true rfl)⟩ ⟨Nat.zero_le _, Nat.zero_le _⟩ rfl (Nat.le_of_ble_eq_true rfl) dX9_would_124) (fun H locs hw => ?_)
              obtain rfl := Option.some.inj hf
              exact ret_i C hr hlk hw dX9_would_127
            · have hf := o_t hf c24
              refine lv_iconst (v := (0 : Int32)) C.1.1 C.1.2.1 dX9_would_108 rfl ?_
              obtain rfl := Option.some.inj hf
              exact ret_i C hr hlk hw dX9_would_109
          · have hf := o_f hf c22
            refine lv_iload C.1.1 C.1.2.1 dX9_would_60 (lv_at hl 6 rfl) ?_
            refine lv_iconst (v := (0 : Int32)) C.1.1 C.1.2.1 dX9_would_62 rfl ?_
            refine lv_sipush (v := (400 : Int32)) C.1.1 C.1.2.1 dX9_would_63 rfl ?_
            obtain ⟨q26, h26, hf⟩ := o_bind hf
            refine aft_i hw (run_S C hw clX9_385 (As := [.int x6, .int (0 : Int32), .int (400 : Int32)]) (rest := [.ref (gA G (41 + 0))]) (c_X9_within h26) hl.1 rfl ⟨(Nat.le_of_ble_eq_true rfl), (Nat.le_of_ble_eq_true rfl)⟩ ⟨Nat.zero_le _, Nat.zero_le _⟩ rfl (Nat.le_of_ble_eq_true rfl) dX9_would_66) (fun H locs hw => ?_)
            refine lv_if_eq (tgt := 99) C.1.1 C.1.2.1 dX9_would_69 (by decide) (fun c27 => ?_) (fun c27 => ?_)
            · have hf := o_t hf c27
              refine lv_iconst (v := (0 : Int32)) C.1.1 C.1.2.1 dX9_would_99 rfl ?_
              refine lv_iconst (v := (1 : Int32)) C.1.1 C.1.2.1 dX9_would_100 rfl ?_
              refine lv_iconst (v := (1 : Int32)) C.1.1 C.1.2.1 dX9_would_101 rfl ?_
              obtain ⟨q28, h28, hf⟩ := o_bind hf
              refine aft_i hw (run_VM C hw clX9_200 (As := [.int (0 : Int32), .int (1 : Int32), .int (1 : Int32)]) (rest := []) oM_0 (c_X9_lets h28) rfl hl.1 rfl ⟨(Nat.le_of_ble_eq_true rfl), (Nat.le_of_ble_eq_true rfl)⟩ ⟨Nat.zero_le _, Nat.zero_le _⟩ rfl (Nat.le_of_ble_eq_true rfl) dX9_would_102) (fun H locs hw => ?_)
              refine lv_if_ne (tgt := 110) C.1.1 C.1.2.1 dX9_would_105 (by decide) (fun c29 => ?_) (fun c29 => ?_)
              · have hf := o_f hf c29
                refine lv_aload_n C.1.1 C.1.2.1 dX9_would_110 rfl (lv_at hl 0 rfl) ?_
                refine lv_iload_n C.1.1 C.1.2.1 dX9_would_111 rfl (lv_at hl 1 rfl) ?_
                refine lv_iload_n C.1.1 C.1.2.1 dX9_would_112 rfl (lv_at hl 2 rfl) ?_
                refine lv_iload_n C.1.1 C.1.2.1 dX9_would_113 rfl (lv_at hl 3 rfl) ?_
                refine lv_iload C.1.1 C.1.2.1 dX9_would_114 (lv_at hl 4 rfl) ?_
                refine lv_iload C.1.1 C.1.2.1 dX9_would_116 (lv_at hl 5 rfl) ?_
                refine lv_iload C.1.1 C.1.2.1 dX9_would_118 (lv_at hl 6 rfl) ?_
                refine lv_iload C.1.1 C.1.2.1 dX9_would_120 (lv_at hl 7 rfl) ?_
                refine lv_iload C.1.1 C.1.2.1 dX9_would_122 (lv_at hl 8 rfl) ?_
                obtain ⟨q30, h30, hf⟩ := o_bind hf
                refine aft_i hw (run_VM C hw clX9_350 (As := [.int x1, .int x2, .int x3, .int x4, .int x5, .int x6, .int x7, .int x8]) (rest := []) oM_0 (c_X9_costOf h30) rfl hl.1 rfl ⟨(Nat.le_of_ble_eq_true rfl), (Nat.le_of_ble_eq_true rfl)⟩ ⟨Nat.zero_le _, Nat.zero_le _⟩ rfl (Nat.le_of_ble_eq_true rfl) dX9_would_124) (fun H locs hw => ?_)
                obtain rfl := Option.some.inj hf
                exact ret_i C hr hlk hw dX9_would_127
              · have hf := o_t hf c29
                refine lv_iconst (v := (0 : Int32)) C.1.1 C.1.2.1 dX9_would_108 rfl ?_
                obtain rfl := Option.some.inj hf
                exact ret_i C hr hlk hw dX9_would_109
            · have hf := o_f hf c27
              refine lv_iload C.1.1 C.1.2.1 dX9_would_72 (lv_at hl 7 rfl) ?_
              refine lv_iconst (v := (0 : Int32)) C.1.1 C.1.2.1 dX9_would_74 rfl ?_
              refine lv_sipush (v := (400 : Int32)) C.1.1 C.1.2.1 dX9_would_75 rfl ?_
              obtain ⟨q31, h31, hf⟩ := o_bind hf
              refine aft_i hw (run_S C hw clX9_385 (As := [.int x7, .int (0 : Int32), .int (400 : Int32)]) (rest := [.ref (gA G (41 + 0))]) (c_X9_within h31) hl.1 rfl ⟨(Nat.le_of_ble_eq_true rfl), (Nat.le_of_ble_eq_true rfl)⟩ ⟨Nat.zero_le _, Nat.zero_le _⟩ rfl (Nat.le_of_ble_eq_true rfl) dX9_would_78) (fun H locs hw => ?_)
              refine lv_if_eq (tgt := 99) C.1.1 C.1.2.1 dX9_would_81 (by decide) (fun c32 => ?_) (fun c32 => ?_)
              · have hf := o_t hf c32
                refine lv_iconst (v := (0 : Int32)) C.1.1 C.1.2.1 dX9_would_99 rfl ?_
                refine lv_iconst (v := (1 : Int32)) C.1.1 C.1.2.1 dX9_would_100 rfl ?_
                refine lv_iconst (v := (1 : Int32)) C.1.1 C.1.2.1 dX9_would_101 rfl ?_
                obtain ⟨q33, h33, hf⟩ := o_bind hf
                refine aft_i hw (run_VM C hw clX9_200 (As := [.int (0 : Int32), .int (1 : Int32), .int (1 : Int32)]) (rest := []) oM_0 (c_X9_lets h33) rfl hl.1 rfl ⟨(Nat.le_of_ble_eq_true rfl), (Nat.le_of_ble_eq_true rfl)⟩ ⟨Nat.zero_le _, Nat.zero_le _⟩ rfl (Nat.le_of_ble_eq_true rfl) dX9_would_102) (fun H locs hw => ?_)
                refine lv_if_ne (tgt := 110) C.1.1 C.1.2.1 dX9_would_105 (by decide) (fun c34 => ?_) (fun c34 => ?_)
                · have hf := o_f hf c34
                  refine lv_aload_n C.1.1 C.1.2.1 dX9_would_110 rfl (lv_at hl 0 rfl) ?_
                  refine lv_iload_n C.1.1 C.1.2.1 dX9_would_111 rfl (lv_at hl 1 rfl) ?_
                  refine lv_iload_n C.1.1 C.1.2.1 dX9_would_112 rfl (lv_at hl 2 rfl) ?_
                  refine lv_iload_n C.1.1 C.1.2.1 dX9_would_113 rfl (lv_at hl 3 rfl) ?_
                  refine lv_iload C.1.1 C.1.2.1 dX9_would_114 (lv_at hl 4 rfl) ?_
                  refine lv_iload C.1.1 C.1.2.1 dX9_would_116 (lv_at hl 5 rfl) ?_
                  refine lv_iload C.1.1 C.1.2.1 dX9_would_118 (lv_at hl 6 rfl) ?_
                  refine lv_iload C.1.1 C.1.2.1 dX9_would_120 (lv_at hl 7 rfl) ?_
                  refine lv_iload C.1.1 C.1.2.1 dX9_would_122 (lv_at hl 8 rfl) ?_
                  obtain ⟨q35, h35, hf⟩ := o_bind hf
                  refine aft_i hw (run_VM C hw clX9_350 (As := [.int x1, .int x2, .int x3, .int x4, .int x5, .int x6, .int x7, .int x8]) (rest := []) oM_0 (c_X9_costOf h35) rfl hl.1 rfl ⟨(Nat.le_of_ble_eq_true rfl), (Nat.le_of_ble_eq_true rfl)⟩ ⟨Nat.zero_le _, Nat.zero_le _⟩ rfl (Nat.le_of_ble_eq_true rfl) dX9_would_124) (fun H locs hw => ?_)
                  obtain rfl := Option.some.inj hf
                  exact ret_i C hr hlk hw dX9_would_127
                · have hf := o_t hf c34
                  refine lv_iconst (v := (0 : Int32)) C.1.1 C.1.2.1 dX9_would_108 rfl ?_
                  obtain rfl := Option.some.inj hf
                  exact ret_i C hr hlk hw dX9_would_109
              · have hf := o_f hf c32
                refine lv_iload C.1.1 C.1.2.1 dX9_would_84 (lv_at hl 8 rfl) ?_
                refine lv_iconst (v := (0 : Int32)) C.1.1 C.1.2.1 dX9_would_86 rfl ?_
                refine lv_bipush (v := (9 : Int32)) C.1.1 C.1.2.1 dX9_would_87 rfl ?_
                obtain ⟨q36, h36, hf⟩ := o_bind hf
                refine aft_i hw (run_S C hw clX9_385 (As := [.int x8, .int (0 : Int32), .int (9 : Int32)]) (rest := [.ref (gA G (41 + 0))]) (c_X9_within h36) hl.1 rfl ⟨(Nat.le_of_ble_eq_true rfl), (Nat.le_of_ble_eq_true rfl)⟩ ⟨Nat.zero_le _, Nat.zero_le _⟩ rfl (Nat.le_of_ble_eq_true rfl) dX9_would_89) (fun H locs hw => ?_)
                refine lv_if_eq (tgt := 99) C.1.1 C.1.2.1 dX9_would_92 (by decide) (fun c37 => ?_) (fun c37 => ?_)
                · have hf := o_t hf c37
                  refine lv_iconst (v := (0 : Int32)) C.1.1 C.1.2.1 dX9_would_99 rfl ?_
                  refine lv_iconst (v := (1 : Int32)) C.1.1 C.1.2.1 dX9_would_100 rfl ?_
                  refine lv_iconst (v := (1 : Int32)) C.1.1 C.1.2.1 dX9_would_101 rfl ?_
                  obtain ⟨q38, h38, hf⟩ := o_bind hf
                  refine aft_i hw (run_VM C hw clX9_200 (As := [.int (0 : Int32), .int (1 : Int32), .int (1 : Int32)]) (rest := []) oM_0 (c_X9_lets h38) rfl hl.1 rfl ⟨(Nat.le_of_ble_eq_true rfl), (Nat.le_of_ble_eq_true rfl)⟩ ⟨Nat.zero_le _, Nat.zero_le _⟩ rfl (Nat.le_of_ble_eq_true rfl) dX9_would_102) (fun H locs hw => ?_)
                  refine lv_if_ne (tgt := 110) C.1.1 C.1.2.1 dX9_would_105 (by decide) (fun c39 => ?_) (fun c39 => ?_)
                  · have hf := o_f hf c39
                    refine lv_aload_n C.1.1 C.1.2.1 dX9_would_110 rfl (lv_at hl 0 rfl) ?_
                    refine lv_iload_n C.1.1 C.1.2.1 dX9_would_111 rfl (lv_at hl 1 rfl) ?_
                    refine lv_iload_n C.1.1 C.1.2.1 dX9_would_112 rfl (lv_at hl 2 rfl) ?_
                    refine lv_iload_n C.1.1 C.1.2.1 dX9_would_113 rfl (lv_at hl 3 rfl) ?_
                    refine lv_iload C.1.1 C.1.2.1 dX9_would_114 (lv_at hl 4 rfl) ?_
                    refine lv_iload C.1.1 C.1.2.1 dX9_would_116 (lv_at hl 5 rfl) ?_
                    refine lv_iload C.1.1 C.1.2.1 dX9_would_118 (lv_at hl 6 rfl) ?_
                    refine lv_iload C.1.1 C.1.2.1 dX9_would_120 (lv_at hl 7 rfl) ?_
                    refine lv_iload C.1.1 C.1.2.1 dX9_would_122 (lv_at hl 8 rfl) ?_
                    obtain ⟨q40, h40, hf⟩ := o_bind hf
                    refine aft_i hw (run_VM C hw clX9_350 (As := [.int x1, .int x2, .int x3, .int x4, .int x5, .int x6, .int x7, .int x8]) (rest := []) oM_0 (c_X9_costOf h40) rfl hl.1 rfl ⟨(Nat.le_of_ble_eq_true rfl), (Nat.le_of_ble_eq_true rfl)⟩ ⟨Nat.zero_le _, Nat.zero_le _⟩ rfl (Nat.le_of_ble_eq_true rfl) dX9_would_124) (fun H locs hw => ?_)
                    obtain rfl := Option.some.inj hf
                    exact ret_i C hr hlk hw dX9_would_127
                  · have hf := o_t hf c39
                    refine lv_iconst (v := (0 : Int32)) C.1.1 C.1.2.1 dX9_would_108 rfl ?_
                    obtain rfl := Option.some.inj hf
                    exact ret_i C hr hlk hw dX9_would_109
                · have hf := o_f hf c37
                  refine lv_iconst (v := (1 : Int32)) C.1.1 C.1.2.1 dX9_would_95 rfl ?_
                  refine lv_goto (tgt := 100) C.1.1 C.1.2.1 dX9_would_96 (by decide) ?_
                  refine lv_iconst (v := (1 : Int32)) C.1.1 C.1.2.1 dX9_would_100 rfl ?_
                  refine lv_iconst (v := (1 : Int32)) C.1.1 C.1.2.1 dX9_would_101 rfl ?_
                  obtain ⟨q41, h41, hf⟩ := o_bind hf
                  refine aft_i hw (run_VM C hw clX9_200 (As := [.int (1 : Int32), .int (1 : Int32), .int (1 : Int32)]) (rest := []) oM_0 (c_X9_lets h41) rfl hl.1 rfl ⟨(Nat.le_of_ble_eq_true rfl), (Nat.le_of_ble_eq_true rfl)⟩ ⟨Nat.zero_le _, Nat.zero_le _⟩ rfl (Nat.le_of_ble_eq_true rfl) dX9_would_102) (fun H locs hw => ?_)
                  refine lv_if_ne (tgt := 110) C.1.1 C.1.2.1 dX9_would_105 (by decide) (fun c42 => ?_) (fun c42 => ?_)
                  · have hf := o_f hf c42
                    refine lv_aload_n C.1.1 C.1.2.1 dX9_would_110 rfl (lv_at hl 0 rfl) ?_
                    refine lv_iload_n C.1.1 C.1.2.1 dX9_would_111 rfl (lv_at hl 1 rfl) ?_
                    refine lv_iload_n C.1.1 C.1.2.1 dX9_would_112 rfl (lv_at hl 2 rfl) ?_
                    refine lv_iload_n C.1.1 C.1.2.1 dX9_would_113 rfl (lv_at hl 3 rfl) ?_
                    refine lv_iload C.1.1 C.1.2.1 dX9_would_114 (lv_at hl 4 rfl) ?_
                    refine lv_iload C.1.1 C.1.2.1 dX9_would_116 (lv_at hl 5 rfl) ?_
                    refine lv_iload C.1.1 C.1.2.1 dX9_would_118 (lv_at hl 6 rfl) ?_
                    refine lv_iload C.1.1 C.1.2.1 dX9_would_120 (lv_at hl 7 rfl) ?_
                    refine lv_iload C.1.1 C.1.2.1 dX9_would_122 (lv_at hl 8 rfl) ?_
                    obtain ⟨q43, h43, hf⟩ := o_bind hf
                    refine aft_i hw (run_VM C hw clX9_350 (As := [.int x1, .int x2, .int x3, .int x4, .int x5, .int x6, .int x7, .int x8]) (rest := []) oM_0 (c_X9_costOf h43) rfl hl.1 rfl ⟨(Nat.le_of_ble_eq_true rfl), (Nat.le_of_ble_eq_true rfl)⟩ ⟨Nat.zero_le _, Nat.zero_le _⟩ rfl (Nat.le_of_ble_eq_true rfl) dX9_would_124) (fun H locs hw => ?_)
                    obtain rfl := Option.some.inj hf
                    exact ret_i C hr hlk hw dX9_would_127
                  · have hf := o_t hf c42
                    refine lv_iconst (v := (0 : Int32)) C.1.1 C.1.2.1 dX9_would_108 rfl ?_
                    obtain rfl := Option.some.inj hf
                    exact ret_i C hr hlk hw dX9_would_109
end
/-! WinnerDrawsModel.may(I)I (('o', 'M', 0) ('i',)) -/
def L_X9_may_27 : Nat → TX → Int32 → Int32 → Int32 → Option (TX × Int32)
  | 0 => fun _ _ _ _ => none
  | n + 1 => fun M x1 x2 x3 => if (4 : Int32) ≤ x3 then (some (M, x2)) else ((f_X9_mayCome M x1 x3).bind fun q5 => if q5 = 0 then ((L_X9_may_27 n) M x1 (x2 ||| (0 : Int32)) (x3 + (1 : Int32))) else ((L_X9_may_27 n) M x1 (x2 ||| ((1 : Int32) <<< (x3 &&& 31))) (x3 + (1 : Int32))))
def f_X9_may (M : TX) (x1 : Int32) : Option (TX × Int32) := (f_X9_isThere (u2 M 0 0 (0 : Int32)) x1 ((u2 M 0 0 (0 : Int32)) 0 19)).bind fun q1 => if q1.2 = 0 then (some (q1.1, (0 : Int32))) else ((f_X9_take q1.1).bind fun q3 => L_X9_may_27 FU q3 x1 (0 : Int32) (0 : Int32))
section
variable {G : GP} {l : Launch}
set_option maxRecDepth 20000 in
set_option maxHeartbeats 2000000 in
theorem wL_X9_may_27 {p : Program} {e : Env} {s : State} {m : MethodId} {args : Array Value} {below : List Frame} {meth : Method} {c : Code} (C : Cx G p s m args c cX9_may 4 RX9) (hr : meth.sig.returnType = (some .int)) (hlk : meth.locks = false) {ro : TX × Int32} : ∀ (n : Nat), ∀ (X : TX) (M : TX) (L : TL) (x1 : Int32) (x2 : Int32) (x3 : Int32) (H : Heap) (locs : List Loc) (ls : Array Slot), Wh G s X M L H locs → lv_has ls 4 [(0, .ref (gA G (41 + 0))), (1, .int x1), (2, .int x2), (3, .int x3)] → L_X9_may_27 n M x1 x2 x3 = some ro → W p l e (rz 2 47) s m args below meth c H locs 0 0 (MQ below (Di G X ro.1 L ro.2) args s 0 0 (AB G)) (F0 m 27 ls []) := by
  intro n
  induction n with
  | zero =>
    intro X M L x1 x2 x3 H locs ls hw hl hf
    cases hf
  | succ n hk_27 =>
    intro X M L x1 x2 x3 H locs ls hw hl hf
    rw [L_X9_may_27] at hf
    refine lv_iload_n C.1.1 C.1.2.1 dX9_may_27 rfl (lv_at hl 3 rfl) ?_
    refine lv_iconst (v := (4 : Int32)) C.1.1 C.1.2.1 dX9_may_28 rfl ?_
    refine lv_icmp_ge (tgt := 57) C.1.1 C.1.2.1 dX9_may_29 (by decide) (fun c4 => ?_) (fun c4 => ?_)
    · have hf := o_t hf c4
      refine lv_iload_n C.1.1 C.1.2.1 dX9_may_57 rfl (lv_at hl 2 rfl) ?_
      obtain rfl := Option.some.inj hf
      exact ret_i C hr hlk hw dX9_may_58
    · have hf := o_f hf c4
      refine lv_iload_n C.1.1 C.1.2.1 dX9_may_32 rfl (lv_at hl 2 rfl) ?_
      refine lv_aload_n C.1.1 C.1.2.1 dX9_may_33 rfl (lv_at hl 0 rfl) ?_
      refine lv_iload_n C.1.1 C.1.2.1 dX9_may_34 rfl (lv_at hl 1 rfl) ?_
      refine lv_iload_n C.1.1 C.1.2.1 dX9_may_35 rfl (lv_at hl 3 rfl) ?_
      obtain ⟨q5, h5, hf⟩ := o_bind hf
      refine aft_i hw (run_VM C hw clX9_357 (As := [.int x1, .int x3]) (rest := [.int x2]) oM_0 (c_X9_mayCome h5) rfl hl.1 rfl ⟨(Nat.le_of_ble_eq_true rfl), (Nat.le_of_ble_eq_true rfl)⟩ ⟨Nat.zero_le _, Nat.zero_le _⟩ rfl (Nat.le_of_ble_eq_true rfl) dX9_may_36) (fun H locs hw => ?_)
      refine lv_if_eq (tgt := 48) C.1.1 C.1.2.1 dX9_may_39 (by decide) (fun c6 => ?_) (fun c6 => ?_)
      · have hf := o_t hf c6
        refine lv_iconst (v := (0 : Int32)) C.1.1 C.1.2.1 dX9_may_48 rfl ?_
        refine lv_ior C.1.1 C.1.2.1 dX9_may_49 ?_
        refine lv_istore_n (lv' := [(2, .int (x2 ||| (0 : Int32))), (0, .ref (gA G (41 + 0))), (1, .int x1), (3, .int x3)]) C.1.1 C.1.2.1 dX9_may_50 rfl hl (by decide) rfl (fun ls hl => ?_)
        refine lv_iinc (v := (x3 + (1 : Int32))) (lv' := [(3, .int (x3 + (1 : Int32))), (2, .int (x2 ||| (0 : Int32))), (0, .ref (gA G (41 + 0))), (1, .int x1)]) C.1.1 C.1.2.1 dX9_may_51 hl (k := 3) rfl rfl (by decide) rfl (fun ls hl => ?_)
        refine lv_goto (tgt := 27) C.1.1 C.1.2.1 dX9_may_54 (by decide) ?_
        exact hk_27 X M L x1 (x2 ||| (0 : Int32)) (x3 + (1 : Int32)) _ _ _ hw (lv_sub hl [2, 3, 1, 0] rfl) hf
      · have hf := o_f hf c6
        refine lv_iconst (v := (1 : Int32)) C.1.1 C.1.2.1 dX9_may_42 rfl ?_
        refine lv_iload_n C.1.1 C.1.2.1 dX9_may_43 rfl (lv_at hl 3 rfl) ?_
        refine lv_ishl C.1.1 C.1.2.1 dX9_may_44 ?_
        refine lv_goto (tgt := 49) C.1.1 C.1.2.1 dX9_may_45 (by decide) ?_
        refine lv_ior C.1.1 C.1.2.1 dX9_may_49 ?_
        refine lv_istore_n (lv' := [(2, .int (x2 ||| ((1 : Int32) <<< (x3 &&& 31)))), (0, .ref (gA G (41 + 0))), (1, .int x1), (3, .int x3)]) C.1.1 C.1.2.1 dX9_may_50 rfl hl (by decide) rfl (fun ls hl => ?_)
        refine lv_iinc (v := (x3 + (1 : Int32))) (lv' := [(3, .int (x3 + (1 : Int32))), (2, .int (x2 ||| ((1 : Int32) <<< (x3 &&& 31)))), (0, .ref (gA G (41 + 0))), (1, .int x1)]) C.1.1 C.1.2.1 dX9_may_51 hl (k := 3) rfl rfl (by decide) rfl (fun ls hl => ?_)
        refine lv_goto (tgt := 27) C.1.1 C.1.2.1 dX9_may_54 (by decide) ?_
        exact hk_27 X M L x1 (x2 ||| ((1 : Int32) <<< (x3 &&& 31))) (x3 + (1 : Int32)) _ _ _ hw (lv_sub hl [2, 3, 1, 0] rfl) hf
set_option maxRecDepth 20000 in
set_option maxHeartbeats 2000000 in
theorem c_X9_may   {X M : TX} {L : TL} {x1 : Int32} {ro : TX × Int32} (hf : f_X9_may M x1 = some ro) : CTi G l yX9_may cX9_may 4 (some .int) 2 47 [.ref (gA G (41 + 0)), .int x1] X M L X ro.1 L ro.2 := by
  unfold f_X9_may at hf
  refine ct_of (by decide +kernel) (Nat.le_of_ble_eq_true rfl) (fun p e s m args below meth c H locs ls C hr hlk hw hl => ?_)
  have C : Cx G p s m args c cX9_may 4 RX9 := C
  have hl : lv_has ls 4 [(0, .ref (gA G (41 + 0))), (1, .int x1)] := hl
  refine lv_aload_n C.1.1 C.1.2.1 dX9_may_0 rfl (lv_at hl 0 rfl) ?_
  refine lv_iconst (v := (0 : Int32)) C.1.1 C.1.2.1 dX9_may_1 rfl ?_
  refine m_put C hw iM_0_0 flX9_3 dX9_may_2 (fun H locs hw => ?_)
  refine lv_aload_n C.1.1 C.1.2.1 dX9_may_5 rfl (lv_at hl 0 rfl) ?_
  refine lv_iload_n C.1.1 C.1.2.1 dX9_may_6 rfl (lv_at hl 1 rfl) ?_
  refine lv_aload_n C.1.1 C.1.2.1 dX9_may_7 rfl (lv_at hl 0 rfl) ?_
  refine m_get C hw iM_0_19 flX9_157 dX9_may_8 ?_
  obtain ⟨q1, h1, hf⟩ := o_bind hf
  refine aft_i hw (run_VM C hw clX9_389 (As := [.int x1, .int ((u2 M 0 0 (0 : Int32)) 0 19)]) (rest := []) oM_0 (c_X9_isThere h1) rfl hl.1 rfl ⟨(Nat.le_of_ble_eq_true rfl), (Nat.le_of_ble_eq_true rfl)⟩ ⟨Nat.zero_le _, Nat.zero_le _⟩ rfl (Nat.le_of_ble_eq_true rfl) dX9_may_11) (fun H locs hw => ?_)
  refine lv_if_ne (tgt := 19) C.1.1 C.1.2.1 dX9_may_14 (by decide) (fun c2 => ?_) (fun c2 => ?_)
  · have hf := o_f hf c2
    refine lv_aload_n C.1.1 C.1.2.1 dX9_may_19 rfl (lv_at hl 0 rfl) ?_
    obtain ⟨q3, h3, hf⟩ := o_bind hf
    refine aft_v hw (run_VM C hw clX9_307 (As := []) (rest := []) oM_0 (c_X9_take h3) rfl hl.1 rfl ⟨(Nat.le_of_ble_eq_true rfl), (Nat.le_of_ble_eq_true rfl)⟩ ⟨Nat.zero_le _, Nat.zero_le _⟩ rfl (Nat.le_of_ble_eq_true rfl) dX9_may_20) (fun H locs hw => ?_)
    refine lv_iconst (v := (0 : Int32)) C.1.1 C.1.2.1 dX9_may_23 rfl ?_
    refine lv_istore_n (lv' := [(2, .int (0 : Int32)), (0, .ref (gA G (41 + 0))), (1, .int x1)]) C.1.1 C.1.2.1 dX9_may_24 rfl hl (by decide) rfl (fun ls hl => ?_)
    refine lv_iconst (v := (0 : Int32)) C.1.1 C.1.2.1 dX9_may_25 rfl ?_
    refine lv_istore_n (lv' := [(3, .int (0 : Int32)), (2, .int (0 : Int32)), (0, .ref (gA G (41 + 0))), (1, .int x1)]) C.1.1 C.1.2.1 dX9_may_26 rfl hl (by decide) rfl (fun ls hl => ?_)
    exact wL_X9_may_27 C hr hlk FU X q3 L x1 (0 : Int32) (0 : Int32) _ _ _ hw (lv_sub hl [2, 3, 1, 0] rfl) hf
  · have hf := o_t hf c2
    refine lv_iconst (v := (0 : Int32)) C.1.1 C.1.2.1 dX9_may_17 rfl ?_
    obtain rfl := Option.some.inj hf
    exact ret_i C hr hlk hw dX9_may_18
end
/-! WinnerDrawsModel.best(II)I (('o', 'M', 0) ('i',) ('i',)) -/
def f_X9_best (M : TX) (x1 : Int32) (x2 : Int32) : Option (TX × Int32) := (f_X9_isThere (u2 M 0 0 (0 : Int32)) x1 (2 : Int32)).bind fun q1 => if q1.2 = 0 then (some (q1.1, (0 : Int32))) else ((f_X9_within x2 (0 : Int32) (2 : Int32)).bind fun q3 => (f_X9_lets q1.1 q3 (2 : Int32) (1 : Int32)).bind fun q4 => if q4.2 = 0 then (some (q4.1, (0 : Int32))) else ((f_X9_take q4.1).bind fun q6 => (f_X9_bestOf q6 x1).bind fun q7 => if q7.2 = (-1 : Int32) then (some (q7.1, (-1 : Int32))) else (if inb ((0 : Int32) + (q7.2 / (10 : Int32))) 34 = true then (if x2 = 0 then (some ((u2 q7.1 20 (Int32.toNatClampNeg ((0 : Int32) + (q7.2 / (10 : Int32)))) (q7.2 - q7.2 / (10 : Int32) * (10 : Int32))), (q7.2 / (10 : Int32)))) else (if x2 = (1 : Int32) then (some ((u2 q7.1 20 (Int32.toNatClampNeg ((0 : Int32) + (q7.2 / (10 : Int32)))) (q7.2 - q7.2 / (10 : Int32) * (10 : Int32))), (q7.2 - q7.2 / (10 : Int32) * (10 : Int32)))) else ((f_X9_marginOf (u2 q7.1 20 (Int32.toNatClampNeg ((0 : Int32) + (q7.2 / (10 : Int32)))) (q7.2 - q7.2 / (10 : Int32) * (10 : Int32))) x1).bind fun q12 => some ((u2 q7.1 20 (Int32.toNatClampNeg ((0 : Int32) + (q7.2 / (10 : Int32)))) (q7.2 - q7.2 / (10 : Int32) * (10 : Int32))), q12)))) else none)))
section
variable {G : GP} {l : Launch}
set_option maxRecDepth 20000 in
set_option maxHeartbeats 2000000 in
theorem c_X9_best   {X M : TX} {L : TL} {x1 : Int32} {x2 : Int32} {ro : TX × Int32} (hf : f_X9_best M x1 x2 = some ro) : CTi G l yX9_best cX9_best 4 (some .int) 6 147 [.ref (gA G (41 + 0)), .int x1, .int x2] X M L X ro.1 L ro.2 := by
  unfold f_X9_best at hf
  refine ct_of (by decide +kernel) (Nat.le_of_ble_eq_true rfl) (fun p e s m args below meth c H locs ls C hr hlk hw hl => ?_)
  have C : Cx G p s m args c cX9_best 4 RX9 := C
  have hl : lv_has ls 4 [(0, .ref (gA G (41 + 0))), (1, .int x1), (2, .int x2)] := hl
  refine lv_aload_n C.1.1 C.1.2.1 dX9_best_0 rfl (lv_at hl 0 rfl) ?_
  refine lv_iconst (v := (0 : Int32)) C.1.1 C.1.2.1 dX9_best_1 rfl ?_
  refine m_put C hw iM_0_0 flX9_3 dX9_best_2 (fun H locs hw => ?_)
  refine lv_aload_n C.1.1 C.1.2.1 dX9_best_5 rfl (lv_at hl 0 rfl) ?_
  refine lv_iload_n C.1.1 C.1.2.1 dX9_best_6 rfl (lv_at hl 1 rfl) ?_
  refine lv_iconst (v := (2 : Int32)) C.1.1 C.1.2.1 dX9_best_7 rfl ?_
  obtain ⟨q1, h1, hf⟩ := o_bind hf
  refine aft_i hw (run_VM C hw clX9_389 (As := [.int x1, .int (2 : Int32)]) (rest := []) oM_0 (c_X9_isThere h1) rfl hl.1 rfl ⟨(Nat.le_of_ble_eq_true rfl), (Nat.le_of_ble_eq_true rfl)⟩ ⟨Nat.zero_le _, Nat.zero_le _⟩ rfl (Nat.le_of_ble_eq_true rfl) dX9_best_8) (fun H locs hw => ?_)
  refine lv_if_eq (tgt := 29) C.1.1 C.1.2.1 dX9_best_11 (by decide) (fun c2 => ?_) (fun c2 => ?_)
  · have hf := o_t hf c2
    refine lv_iconst (v := (0 : Int32)) C.1.1 C.1.2.1 dX9_best_29 rfl ?_
    obtain rfl := Option.some.inj hf
    exact ret_i C hr hlk hw dX9_best_30
  · have hf := o_f hf c2
    refine lv_aload_n C.1.1 C.1.2.1 dX9_best_14 rfl (lv_at hl 0 rfl) ?_
    refine lv_iload_n C.1.1 C.1.2.1 dX9_best_15 rfl (lv_at hl 2 rfl) ?_
    refine lv_iconst (v := (0 : Int32)) C.1.1 C.1.2.1 dX9_best_16 rfl ?_
    refine lv_iconst (v := (2 : Int32)) C.1.1 C.1.2.1 dX9_best_17 rfl ?_
    obtain ⟨q3, h3, hf⟩ := o_bind hf
    refine aft_i hw (run_S C hw clX9_385 (As := [.int x2, .int (0 : Int32), .int (2 : Int32)]) (rest := [.ref (gA G (41 + 0))]) (c_X9_within h3) hl.1 rfl ⟨(Nat.le_of_ble_eq_true rfl), (Nat.le_of_ble_eq_true rfl)⟩ ⟨Nat.zero_le _, Nat.zero_le _⟩ rfl (Nat.le_of_ble_eq_true rfl) dX9_best_18) (fun H locs hw => ?_)
    refine lv_iconst (v := (2 : Int32)) C.1.1 C.1.2.1 dX9_best_21 rfl ?_
    refine lv_iconst (v := (1 : Int32)) C.1.1 C.1.2.1 dX9_best_22 rfl ?_
    obtain ⟨q4, h4, hf⟩ := o_bind hf
    refine aft_i hw (run_VM C hw clX9_200 (As := [.int q3, .int (2 : Int32), .int (1 : Int32)]) (rest := []) oM_0 (c_X9_lets h4) rfl hl.1 rfl ⟨(Nat.le_of_ble_eq_true rfl), (Nat.le_of_ble_eq_true rfl)⟩ ⟨Nat.zero_le _, Nat.zero_le _⟩ rfl (Nat.le_of_ble_eq_true rfl) dX9_best_23) (fun H locs hw => ?_)
    refine lv_if_ne (tgt := 31) C.1.1 C.1.2.1 dX9_best_26 (by decide) (fun c5 => ?_) (fun c5 => ?_)
    · have hf := o_f hf c5
      refine lv_aload_n C.1.1 C.1.2.1 dX9_best_31 rfl (lv_at hl 0 rfl) ?_
      obtain ⟨q6, h6, hf⟩ := o_bind hf
      refine aft_v hw (run_VM C hw clX9_307 (As := []) (rest := []) oM_0 (c_X9_take h6) rfl hl.1 rfl ⟨(Nat.le_of_ble_eq_true rfl), (Nat.le_of_ble_eq_true rfl)⟩ ⟨Nat.zero_le _, Nat.zero_le _⟩ rfl (Nat.le_of_ble_eq_true rfl) dX9_best_32) (fun H locs hw => ?_)
      refine lv_aload_n C.1.1 C.1.2.1 dX9_best_35 rfl (lv_at hl 0 rfl) ?_
      refine lv_iload_n C.1.1 C.1.2.1 dX9_best_36 rfl (lv_at hl 1 rfl) ?_
      obtain ⟨q7, h7, hf⟩ := o_bind hf
      refine aft_i hw (run_VM C hw clX9_367 (As := [.int x1]) (rest := []) oM_0 (c_X9_bestOf h7) rfl hl.1 rfl ⟨(Nat.le_of_ble_eq_true rfl), (Nat.le_of_ble_eq_true rfl)⟩ ⟨Nat.zero_le _, Nat.zero_le _⟩ rfl (Nat.le_of_ble_eq_true rfl) dX9_best_37) (fun H locs hw => ?_)
      refine lv_istore_n (lv' := [(3, .int q7.2), (0, .ref (gA G (41 + 0))), (1, .int x1), (2, .int x2)]) C.1.1 C.1.2.1 dX9_best_40 rfl hl (by decide) rfl (fun ls hl => ?_)
      refine lv_iload_n C.1.1 C.1.2.1 dX9_best_41 rfl (lv_at hl 0 rfl) ?_
      refine lv_iconst (v := (-1 : Int32)) C.1.1 C.1.2.1 dX9_best_42 rfl ?_
      refine lv_icmp_ne (tgt := 48) C.1.1 C.1.2.1 dX9_best_43 (by decide) (fun c8 => ?_) (fun c8 => ?_)
      · have hf := o_f hf c8
        refine lv_aload_n C.1.1 C.1.2.1 dX9_best_48 rfl (lv_at hl 1 rfl) ?_
        refine m_ref C hw fM_0_42 flX9_74 dX9_best_49 ?_
        refine lv_iconst (v := (0 : Int32)) C.1.1 C.1.2.1 dX9_best_52 rfl ?_
        refine lv_iload_n C.1.1 C.1.2.1 dX9_best_53 rfl (lv_at hl 0 rfl) ?_
        refine lv_bipush (v := (10 : Int32)) C.1.1 C.1.2.1 dX9_best_54 rfl ?_
        refine lv_idiv C.1.1 C.1.2.1 dX9_best_56 (by decide) ?_
        refine lv_iadd C.1.1 C.1.2.1 dX9_best_57 ?_
        refine lv_iload_n C.1.1 C.1.2.1 dX9_best_58 rfl (lv_at hl 0 rfl) ?_
        refine lv_bipush (v := (10 : Int32)) C.1.1 C.1.2.1 dX9_best_59 rfl ?_
        refine lv_irem C.1.1 C.1.2.1 dX9_best_61 (by decide) ?_
        have g9 := inb_in (o_g hf).1
        have hf := (o_g hf).2
        refine m_ast C hw aM_20 g9 dX9_best_62 (fun H locs hw => ?_)
        refine lv_iload_n C.1.1 C.1.2.1 dX9_best_63 rfl (lv_at hl 3 rfl) ?_
        refine lv_if_ne (tgt := 74) C.1.1 C.1.2.1 dX9_best_64 (by decide) (fun c10 => ?_) (fun c10 => ?_)
        · have hf := o_f hf c10
          refine lv_iload_n C.1.1 C.1.2.1 dX9_best_74 rfl (lv_at hl 3 rfl) ?_
          refine lv_iconst (v := (1 : Int32)) C.1.1 C.1.2.1 dX9_best_75 rfl ?_
          refine lv_icmp_ne (tgt := 86) C.1.1 C.1.2.1 dX9_best_76 (by decide) (fun c11 => ?_) (fun c11 => ?_)
          · have hf := o_f hf c11
            refine lv_aload_n C.1.1 C.1.2.1 dX9_best_86 rfl (lv_at hl 1 rfl) ?_
            refine lv_iload_n C.1.1 C.1.2.1 dX9_best_87 rfl (lv_at hl 2 rfl) ?_
            obtain ⟨q12, h12, hf⟩ := o_bind hf
            refine aft_i hw (run_VM C hw clX9_364 (As := [.int x1]) (rest := []) oM_0 (c_X9_marginOf h12) rfl hl.1 rfl ⟨(Nat.le_of_ble_eq_true rfl), (Nat.le_of_ble_eq_true rfl)⟩ ⟨Nat.zero_le _, Nat.zero_le _⟩ rfl (Nat.le_of_ble_eq_true rfl) dX9_best_88) (fun H locs hw => ?_)
            obtain rfl := Option.some.inj hf
            exact ret_i C hr hlk hw dX9_best_91
          · have hf := o_t hf c11
            refine lv_iload_n C.1.1 C.1.2.1 dX9_best_79 rfl (lv_at hl 0 rfl) ?_
            refine lv_bipush (v := (10 : Int32)) C.1.1 C.1.2.1 dX9_best_80 rfl ?_
            refine lv_irem C.1.1 C.1.2.1 dX9_best_82 (by decide) ?_
            refine lv_goto (tgt := 91) C.1.1 C.1.2.1 dX9_best_83 (by decide) ?_
            obtain rfl := Option.some.inj hf
            exact ret_i C hr hlk hw dX9_best_91
        · have hf := o_t hf c10
          refine lv_iload_n C.1.1 C.1.2.1 dX9_best_67 rfl (lv_at hl 0 rfl) ?_
          refine lv_bipush (v := (10 : Int32)) C.1.1 C.1.2.1 dX9_best_68 rfl ?_
          refine lv_idiv C.1.1 C.1.2.1 dX9_best_70 (by decide) ?_
          refine lv_goto (tgt := 91) C.1.1 C.1.2.1 dX9_best_71 (by decide) ?_
          obtain rfl := Option.some.inj hf
          exact ret_i C hr hlk hw dX9_best_91
      · have hf := o_t hf c8
        refine lv_iconst (v := (-1 : Int32)) C.1.1 C.1.2.1 dX9_best_46 rfl ?_
        obtain rfl := Option.some.inj hf
        exact ret_i C hr hlk hw dX9_best_47
    · have hf := o_t hf c5
      refine lv_iconst (v := (0 : Int32)) C.1.1 C.1.2.1 dX9_best_29 rfl ?_
      obtain rfl := Option.some.inj hf
      exact ret_i C hr hlk hw dX9_best_30
end
/-! WinnerDrawsModel.mostBy(II)I (('o', 'M', 0) ('i',) ('i',)) -/
def L_X9_mostBy_9 (rec : TX → Int32 → Int32 → Option (TX × Int32)) : Nat → TX → Int32 → Int32 → Int32 → Int32 → Option (TX × Int32)
  | 0 => fun _ _ _ _ _ => none
  | n + 1 => fun M x1 x2 x3 x4 => if ((4 : Int32) * (M 0 19)) ≤ x4 then (some (M, x3)) else (if x2 ≤ 0 then (some (M, x3)) else ((f_X9_mayCome M (x4 / (4 : Int32)) (x4 - x4 / (4 : Int32) * (4 : Int32))).bind fun q4 => if q4 = 0 then ((L_X9_mostBy_9 rec n) M x1 x2 x3 (x4 + (1 : Int32))) else (if inb ((0 : Int32) + (x4 / (4 : Int32))) 34 = true then (if inb ((0 : Int32) + (x4 / (4 : Int32))) 34 = true then ((rec (u2 M 20 (Int32.toNatClampNeg ((0 : Int32) + (x4 / (4 : Int32)))) (x4 - x4 / (4 : Int32) * (4 : Int32))) x1 (x2 - (1 : Int32))).bind fun q8 => if q8.2 ≤ x3 then (if inb ((0 : Int32) + (x4 / (4 : Int32))) 34 = true then ((L_X9_mostBy_9 rec n) (u2 q8.1 20 (Int32.toNatClampNeg ((0 : Int32) + (x4 / (4 : Int32)))) (M 20 (Int32.toNatClampNeg ((0 : Int32) + (x4 / (4 : Int32)))))) x1 x2 x3 (x4 + (1 : Int32))) else none) else (if inb ((0 : Int32) + (x4 / (4 : Int32))) 34 = true then ((L_X9_mostBy_9 rec n) (u2 q8.1 20 (Int32.toNatClampNeg ((0 : Int32) + (x4 / (4 : Int32)))) (M 20 (Int32.toNatClampNeg ((0 : Int32) + (x4 / (4 : Int32)))))) x1 x2 q8.2 (x4 + (1 : Int32))) else none)) else none) else none)))
def f_X9_mostBy : Nat → TX → Int32 → Int32 → Option (TX × Int32)
  | 0 => fun _ _ _ => none
  | d + 1 => fun M x1 x2 => (f_X9_marginOf M x1).bind fun q1 => L_X9_mostBy_9 (f_X9_mostBy d) FU M x1 x2 q1 (0 : Int32)
section
variable {G : GP} {l : Launch}
set_option maxRecDepth 20000 in
set_option maxHeartbeats 2000000 in
theorem wL_X9_mostBy_9 {rec : TX → Int32 → Int32 → Option (TX × Int32)} {d : Nat} (hrec : ∀ {X M : TX} {L : TL} {x1 : Int32} {x2 : Int32} {ro : TX × Int32}, rec M x1 x2 = some ro → CTi G l yX9_mostBy cX9_mostBy 8 (some .int) (5 + 5 * d) (113 + 113 * d) [.ref (gA G (41 + 0)), .int x1, .int x2] X M L X ro.1 L ro.2) {p : Program} {e : Env} {s : State} {m : MethodId} {args : Array Value} {below : List Frame} {meth : Method} {c : Code} (C : Cx G p s m args c cX9_mostBy 8 RX9) (hr : meth.sig.returnType = (some .int)) (hlk : meth.locks = false) {ro : TX × Int32} : ∀ (n : Nat), ∀ (X : TX) (M : TX) (L : TL) (x1 : Int32) (x2 : Int32) (x3 : Int32) (x4 : Int32) (H : Heap) (locs : List Loc) (ls : Array Slot), Wh G s X M L H locs → lv_has ls 8 [(0, .ref (gA G (41 + 0))), (1, .int x1), (2, .int x2), (3, .int x3), (4, .int x4)] → L_X9_mostBy_9 rec n M x1 x2 x3 x4 = some ro → W p l e (rz (5 + 5 * (d + 1)) (113 + 113 * (d + 1))) s m args below meth c H locs 0 0 (MQ below (Di G X ro.1 L ro.2) args s 0 0 (AB G)) (F0 m 9 ls []) := by
  intro n
  induction n with
  | zero =>
    intro X M L x1 x2 x3 x4 H locs ls hw hl hf
    cases hf
  | succ n hk_9 =>
    intro X M L x1 x2 x3 x4 H locs ls hw hl hf
    rw [L_X9_mostBy_9] at hf
    refine lv_iload C.1.1 C.1.2.1 dX9_mostBy_9 (lv_at hl 4 rfl) ?_
    refine lv_iconst (v := (4 : Int32)) C.1.1 C.1.2.1 dX9_mostBy_11 rfl ?_
    refine lv_aload_n C.1.1 C.1.2.1 dX9_mostBy_12 rfl (lv_at hl 0 rfl) ?_
    refine m_get C hw iM_0_19 flX9_157 dX9_mostBy_13 ?_
    refine lv_imul C.1.1 C.1.2.1 dX9_mostBy_16 ?_
    refine lv_icmp_ge (tgt := 110) C.1.1 C.1.2.1 dX9_mostBy_17 (by decide) (fun c2 => ?_) (fun c2 => ?_)
    · have hf := o_t hf c2
      refine lv_iload_n C.1.1 C.1.2.1 dX9_mostBy_110 rfl (lv_at hl 3 rfl) ?_
      obtain rfl := Option.some.inj hf
      exact ret_i C hr hlk hw dX9_mostBy_111
    · have hf := o_f hf c2
      refine lv_iload_n C.1.1 C.1.2.1 dX9_mostBy_20 rfl (lv_at hl 2 rfl) ?_
      refine lv_if_le (tgt := 110) C.1.1 C.1.2.1 dX9_mostBy_21 (by decide) (fun c3 => ?_) (fun c3 => ?_)
      · have hf := o_t hf c3
        refine lv_iload_n C.1.1 C.1.2.1 dX9_mostBy_110 rfl (lv_at hl 3 rfl) ?_
        obtain rfl := Option.some.inj hf
        exact ret_i C hr hlk hw dX9_mostBy_111
      · have hf := o_f hf c3
        refine lv_iload C.1.1 C.1.2.1 dX9_mostBy_24 (lv_at hl 4 rfl) ?_
        refine lv_iconst (v := (4 : Int32)) C.1.1 C.1.2.1 dX9_mostBy_26 rfl ?_
        refine lv_idiv C.1.1 C.1.2.1 dX9_mostBy_27 (by decide) ?_
        refine lv_istore (lv' := [(5, .int (x4 / (4 : Int32))), (0, .ref (gA G (41 + 0))), (1, .int x1), (2, .int x2), (3, .int x3), (4, .int x4)]) C.1.1 C.1.2.1 dX9_mostBy_28 hl (by decide) rfl (fun ls hl => ?_)
        refine lv_aload_n C.1.1 C.1.2.1 dX9_mostBy_30 rfl (lv_at hl 1 rfl) ?_
        refine lv_iload C.1.1 C.1.2.1 dX9_mostBy_31 (lv_at hl 0 rfl) ?_
        refine lv_iload C.1.1 C.1.2.1 dX9_mostBy_33 (lv_at hl 5 rfl) ?_
        refine lv_iconst (v := (4 : Int32)) C.1.1 C.1.2.1 dX9_mostBy_35 rfl ?_
        refine lv_irem C.1.1 C.1.2.1 dX9_mostBy_36 (by decide) ?_
        obtain ⟨q4, h4, hf⟩ := o_bind hf
        refine aft_i hw (run_VM C hw clX9_357 (As := [.int (x4 / (4 : Int32)), .int (x4 - x4 / (4 : Int32) * (4 : Int32))]) (rest := []) oM_0 (c_X9_mayCome h4) rfl hl.1 rfl ⟨(by show 1 + 1 ≤ 5 + 5 * (d + 1); omega), (by show 8 + (4 + 11) + 24 ≤ 113 + 113 * (d + 1); omega)⟩ ⟨Nat.zero_le _, Nat.zero_le _⟩ rfl (Nat.le_of_ble_eq_true rfl) dX9_mostBy_37) (fun H locs hw => ?_)
        refine lv_if_ne (tgt := 46) C.1.1 C.1.2.1 dX9_mostBy_40 (by decide) (fun c5 => ?_) (fun c5 => ?_)
        · have hf := o_f hf c5
          refine lv_aload_n C.1.1 C.1.2.1 dX9_mostBy_46 rfl (lv_at hl 1 rfl) ?_
          refine m_ref C hw fM_0_42 flX9_74 dX9_mostBy_47 ?_
          refine lv_iconst (v := (0 : Int32)) C.1.1 C.1.2.1 dX9_mostBy_50 rfl ?_
          refine lv_iload C.1.1 C.1.2.1 dX9_mostBy_51 (lv_at hl 0 rfl) ?_
          refine lv_iadd C.1.1 C.1.2.1 dX9_mostBy_53 ?_
          have g6 := inb_in (o_g hf).1
          have hf := (o_g hf).2
          refine m_ald C hw aM_20 g6 dX9_mostBy_54 ?_
          refine lv_istore (lv' := [(6, .int (M 20 (Int32.toNatClampNeg ((0 : Int32) + (x4 / (4 : Int32)))))), (5, .int (x4 / (4 : Int32))), (0, .ref (gA G (41 + 0))), (1, .int x1), (2, .int x2), (3, .int x3), (4, .int x4)]) C.1.1 C.1.2.1 dX9_mostBy_55 hl (by decide) rfl (fun ls hl => ?_)
          refine lv_aload_n C.1.1 C.1.2.1 dX9_mostBy_57 rfl (lv_at hl 2 rfl) ?_
          refine m_ref C hw fM_0_42 flX9_74 dX9_mostBy_58 ?_
          refine lv_iconst (v := (0 : Int32)) C.1.1 C.1.2.1 dX9_mostBy_61 rfl ?_
          refine lv_iload C.1.1 C.1.2.1 dX9_mostBy_62 (lv_at hl 1 rfl) ?_
          refine lv_iadd C.1.1 C.1.2.1 dX9_mostBy_64 ?_
          refine lv_iload C.1.1 C.1.2.1 dX9_mostBy_65 (lv_at hl 6 rfl) ?_
          refine lv_iconst (v := (4 : Int32)) C.1.1 C.1.2.1 dX9_mostBy_67 rfl ?_
          refine lv_irem C.1.1 C.1.2.1 dX9_mostBy_68 (by decide) ?_
          have g7 := inb_in (o_g hf).1
          have hf := (o_g hf).2
          refine m_ast C hw aM_20 g7 dX9_mostBy_69 (fun H locs hw => ?_)
          refine lv_aload_n C.1.1 C.1.2.1 dX9_mostBy_70 rfl (lv_at hl 2 rfl) ?_
          refine lv_iload_n C.1.1 C.1.2.1 dX9_mostBy_71 rfl (lv_at hl 3 rfl) ?_
          refine lv_iload_n C.1.1 C.1.2.1 dX9_mostBy_72 rfl (lv_at hl 4 rfl) ?_
          refine lv_iconst (v := (1 : Int32)) C.1.1 C.1.2.1 dX9_mostBy_73 rfl ?_
          refine lv_isub C.1.1 C.1.2.1 dX9_mostBy_74 ?_
          obtain ⟨q8, h8, hf⟩ := o_bind hf
          refine aft_i hw (run_VM C hw clX9_392 (As := [.int x1, .int (x2 - (1 : Int32))]) (rest := []) oM_0 (hrec h8) rfl hl.1 rfl ⟨(by show (5 + 5 * d) + 1 ≤ 5 + 5 * (d + 1); omega), (by show 8 + (8 + 11) + (113 + 113 * d) ≤ 113 + 113 * (d + 1); omega)⟩ ⟨Nat.zero_le _, Nat.zero_le _⟩ rfl (Nat.le_of_ble_eq_true rfl) dX9_mostBy_75) (fun H locs hw => ?_)
          refine lv_istore (lv' := [(7, .int q8.2), (6, .int (M 20 (Int32.toNatClampNeg ((0 : Int32) + (x4 / (4 : Int32)))))), (5, .int (x4 / (4 : Int32))), (0, .ref (gA G (41 + 0))), (1, .int x1), (2, .int x2), (3, .int x3), (4, .int x4)]) C.1.1 C.1.2.1 dX9_mostBy_78 hl (by decide) rfl (fun ls hl => ?_)
          refine lv_iload C.1.1 C.1.2.1 dX9_mostBy_80 (lv_at hl 0 rfl) ?_
          refine lv_iload_n C.1.1 C.1.2.1 dX9_mostBy_82 rfl (lv_at hl 6 rfl) ?_
          refine lv_icmp_le (tgt := 91) C.1.1 C.1.2.1 dX9_mostBy_83 (by decide) (fun c9 => ?_) (fun c9 => ?_)
          · have hf := o_t hf c9
            refine lv_iload_n C.1.1 C.1.2.1 dX9_mostBy_91 rfl (lv_at hl 6 rfl) ?_
            refine lv_istore_n (lv' := [(3, .int x3), (7, .int q8.2), (6, .int (M 20 (Int32.toNatClampNeg ((0 : Int32) + (x4 / (4 : Int32)))))), (5, .int (x4 / (4 : Int32))), (0, .ref (gA G (41 + 0))), (1, .int x1), (2, .int x2), (4, .int x4)]) C.1.1 C.1.2.1 dX9_mostBy_92 rfl hl (by decide) rfl (fun ls hl => ?_)
            refine lv_aload_n C.1.1 C.1.2.1 dX9_mostBy_93 rfl (lv_at hl 4 rfl) ?_
            refine m_ref C hw fM_0_42 flX9_74 dX9_mostBy_94 ?_
            refine lv_iconst (v := (0 : Int32)) C.1.1 C.1.2.1 dX9_mostBy_97 rfl ?_
            refine lv_iload C.1.1 C.1.2.1 dX9_mostBy_98 (lv_at hl 3 rfl) ?_
            refine lv_iadd C.1.1 C.1.2.1 dX9_mostBy_100 ?_
            refine lv_iload C.1.1 C.1.2.1 dX9_mostBy_101 (lv_at hl 2 rfl) ?_
            have g10 := inb_in (o_g hf).1
            have hf := (o_g hf).2
            refine m_ast C hw aM_20 g10 dX9_mostBy_103 (fun H locs hw => ?_)
            refine lv_iinc (v := (x4 + (1 : Int32))) (lv' := [(4, .int (x4 + (1 : Int32))), (3, .int x3), (7, .int q8.2), (6, .int (M 20 (Int32.toNatClampNeg ((0 : Int32) + (x4 / (4 : Int32)))))), (5, .int (x4 / (4 : Int32))), (0, .ref (gA G (41 + 0))), (1, .int x1), (2, .int x2)]) C.1.1 C.1.2.1 dX9_mostBy_104 hl (k := 7) rfl rfl (by decide) rfl (fun ls hl => ?_)
            refine lv_goto (tgt := 9) C.1.1 C.1.2.1 dX9_mostBy_107 (by decide) ?_
            exact hk_9 X (u2 q8.1 20 (Int32.toNatClampNeg ((0 : Int32) + (x4 / (4 : Int32)))) (M 20 (Int32.toNatClampNeg ((0 : Int32) + (x4 / (4 : Int32)))))) L x1 x2 x3 (x4 + (1 : Int32)) _ _ _ hw (lv_sub hl [5, 6, 7, 1, 0] rfl) hf
          · have hf := o_f hf c9
            refine lv_iload C.1.1 C.1.2.1 dX9_mostBy_86 (lv_at hl 0 rfl) ?_
            refine lv_goto (tgt := 92) C.1.1 C.1.2.1 dX9_mostBy_88 (by decide) ?_
            refine lv_istore_n (lv' := [(3, .int q8.2), (7, .int q8.2), (6, .int (M 20 (Int32.toNatClampNeg ((0 : Int32) + (x4 / (4 : Int32)))))), (5, .int (x4 / (4 : Int32))), (0, .ref (gA G (41 + 0))), (1, .int x1), (2, .int x2), (4, .int x4)]) C.1.1 C.1.2.1 dX9_mostBy_92 rfl hl (by decide) rfl (fun ls hl => ?_)
            refine lv_aload_n C.1.1 C.1.2.1 dX9_mostBy_93 rfl (lv_at hl 4 rfl) ?_
            refine m_ref C hw fM_0_42 flX9_74 dX9_mostBy_94 ?_
            refine lv_iconst (v := (0 : Int32)) C.1.1 C.1.2.1 dX9_mostBy_97 rfl ?_
            refine lv_iload C.1.1 C.1.2.1 dX9_mostBy_98 (lv_at hl 3 rfl) ?_
            refine lv_iadd C.1.1 C.1.2.1 dX9_mostBy_100 ?_
            refine lv_iload C.1.1 C.1.2.1 dX9_mostBy_101 (lv_at hl 2 rfl) ?_
            have g11 := inb_in (o_g hf).1
            have hf := (o_g hf).2
            refine m_ast C hw aM_20 g11 dX9_mostBy_103 (fun H locs hw => ?_)
            refine lv_iinc (v := (x4 + (1 : Int32))) (lv' := [(4, .int (x4 + (1 : Int32))), (3, .int q8.2), (7, .int q8.2), (6, .int (M 20 (Int32.toNatClampNeg ((0 : Int32) + (x4 / (4 : Int32)))))), (5, .int (x4 / (4 : Int32))), (0, .ref (gA G (41 + 0))), (1, .int x1), (2, .int x2)]) C.1.1 C.1.2.1 dX9_mostBy_104 hl (k := 7) rfl rfl (by decide) rfl (fun ls hl => ?_)
            refine lv_goto (tgt := 9) C.1.1 C.1.2.1 dX9_mostBy_107 (by decide) ?_
            exact hk_9 X (u2 q8.1 20 (Int32.toNatClampNeg ((0 : Int32) + (x4 / (4 : Int32)))) (M 20 (Int32.toNatClampNeg ((0 : Int32) + (x4 / (4 : Int32)))))) L x1 x2 q8.2 (x4 + (1 : Int32)) _ _ _ hw (lv_sub hl [5, 6, 7, 1, 0] rfl) hf
        · have hf := o_t hf c5
          refine lv_goto (tgt := 104) C.1.1 C.1.2.1 dX9_mostBy_43 (by decide) ?_
          refine lv_iinc (v := (x4 + (1 : Int32))) (lv' := [(4, .int (x4 + (1 : Int32))), (5, .int (x4 / (4 : Int32))), (0, .ref (gA G (41 + 0))), (1, .int x1), (2, .int x2), (3, .int x3)]) C.1.1 C.1.2.1 dX9_mostBy_104 hl (k := 5) rfl rfl (by decide) rfl (fun ls hl => ?_)
          refine lv_goto (tgt := 9) C.1.1 C.1.2.1 dX9_mostBy_107 (by decide) ?_
          exact hk_9 X M L x1 x2 x3 (x4 + (1 : Int32)) _ _ _ hw (lv_sub hl [2, 3, 4, 5, 0] rfl) hf
set_option maxRecDepth 20000 in
set_option maxHeartbeats 2000000 in
theorem c_X9_mostBy : ∀ (d : Nat), ∀ {X M : TX} {L : TL} {x1 : Int32} {x2 : Int32} {ro : TX × Int32}, f_X9_mostBy d M x1 x2 = some ro → CTi G l yX9_mostBy cX9_mostBy 8 (some .int) (5 + 5 * d) (113 + 113 * d) [.ref (gA G (41 + 0)), .int x1, .int x2] X M L X ro.1 L ro.2 := by
  intro d
  induction d with
  | zero =>
    intro X M L x1 x2 ro hf
    cases hf
  | succ d hrec =>
    intro X M L x1 x2 ro hf
    rw [f_X9_mostBy] at hf
    refine ct_of (by decide +kernel) (Nat.le_of_ble_eq_true rfl) (fun p e s m args below meth c H locs ls C hr hlk hw hl => ?_)
    have C : Cx G p s m args c cX9_mostBy 8 RX9 := C
    have hl : lv_has ls 8 [(0, .ref (gA G (41 + 0))), (1, .int x1), (2, .int x2)] := hl
    refine lv_aload_n C.1.1 C.1.2.1 dX9_mostBy_0 rfl (lv_at hl 0 rfl) ?_
    refine lv_iload_n C.1.1 C.1.2.1 dX9_mostBy_1 rfl (lv_at hl 1 rfl) ?_
    obtain ⟨q1, h1, hf⟩ := o_bind hf
    refine aft_i hw (run_VM C hw clX9_364 (As := [.int x1]) (rest := []) oM_0 (c_X9_marginOf h1) rfl hl.1 rfl ⟨(by show 4 + 1 ≤ 5 + 5 * (d + 1); omega), (by show 8 + (2 + 11) + 92 ≤ 113 + 113 * (d + 1); omega)⟩ ⟨Nat.zero_le _, Nat.zero_le _⟩ rfl (Nat.le_of_ble_eq_true rfl) dX9_mostBy_2) (fun H locs hw => ?_)
    refine lv_istore_n (lv' := [(3, .int q1), (0, .ref (gA G (41 + 0))), (1, .int x1), (2, .int x2)]) C.1.1 C.1.2.1 dX9_mostBy_5 rfl hl (by decide) rfl (fun ls hl => ?_)
    refine lv_iconst (v := (0 : Int32)) C.1.1 C.1.2.1 dX9_mostBy_6 rfl ?_
    refine lv_istore (lv' := [(4, .int (0 : Int32)), (3, .int q1), (0, .ref (gA G (41 + 0))), (1, .int x1), (2, .int x2)]) C.1.1 C.1.2.1 dX9_mostBy_7 hl (by decide) rfl (fun ls hl => ?_)
    exact wL_X9_mostBy_9 hrec C hr hlk FU X M L x1 x2 q1 (0 : Int32) _ _ _ hw (lv_sub hl [2, 3, 4, 1, 0] rfl) hf
end
/-! WinnerDrawsModel.redrawn(II)I (('o', 'M', 0) ('i',) ('i',)) -/
def f_X9_redrawn (M : TX) (x1 : Int32) (x2 : Int32) : Option (TX × Int32) := (f_X9_isThere (u2 M 0 0 (0 : Int32)) x1 (2 : Int32)).bind fun q1 => if q1.2 = 0 then (some (q1.1, (0 : Int32))) else ((f_X9_within x2 (0 : Int32) (3 : Int32)).bind fun q3 => (f_X9_lets q1.1 q3 (2 : Int32) (1 : Int32)).bind fun q4 => if q4.2 = 0 then (some (q4.1, (0 : Int32))) else ((f_X9_take q4.1).bind fun q6 => (f_X9_mostBy 5 q6 x1 x2).bind fun q7 => some (q7.1, q7.2)))
section
variable {G : GP} {l : Launch}
set_option maxRecDepth 20000 in
set_option maxHeartbeats 2000000 in
theorem c_X9_redrawn   {X M : TX} {L : TL} {x1 : Int32} {x2 : Int32} {ro : TX × Int32} (hf : f_X9_redrawn M x1 x2 = some ro) : CTi G l yX9_redrawn cX9_redrawn 3 (some .int) 31 705 [.ref (gA G (41 + 0)), .int x1, .int x2] X M L X ro.1 L ro.2 := by
  unfold f_X9_redrawn at hf
  refine ct_of (by decide +kernel) (Nat.le_of_ble_eq_true rfl) (fun p e s m args below meth c H locs ls C hr hlk hw hl => ?_)
  have C : Cx G p s m args c cX9_redrawn 3 RX9 := C
  have hl : lv_has ls 3 [(0, .ref (gA G (41 + 0))), (1, .int x1), (2, .int x2)] := hl
  refine lv_aload_n C.1.1 C.1.2.1 dX9_redrawn_0 rfl (lv_at hl 0 rfl) ?_
  refine lv_iconst (v := (0 : Int32)) C.1.1 C.1.2.1 dX9_redrawn_1 rfl ?_
  refine m_put C hw iM_0_0 flX9_3 dX9_redrawn_2 (fun H locs hw => ?_)
  refine lv_aload_n C.1.1 C.1.2.1 dX9_redrawn_5 rfl (lv_at hl 0 rfl) ?_
  refine lv_iload_n C.1.1 C.1.2.1 dX9_redrawn_6 rfl (lv_at hl 1 rfl) ?_
  refine lv_iconst (v := (2 : Int32)) C.1.1 C.1.2.1 dX9_redrawn_7 rfl ?_
  obtain ⟨q1, h1, hf⟩ := o_bind hf
  refine aft_i hw (run_VM C hw clX9_389 (As := [.int x1, .int (2 : Int32)]) (rest := []) oM_0 (c_X9_isThere h1) rfl hl.1 rfl ⟨(Nat.le_of_ble_eq_true rfl), (Nat.le_of_ble_eq_true rfl)⟩ ⟨Nat.zero_le _, Nat.zero_le _⟩ rfl (Nat.le_of_ble_eq_true rfl) dX9_redrawn_8) (fun H locs hw => ?_)
  refine lv_if_eq (tgt := 29) C.1.1 C.1.2.1 dX9_redrawn_11 (by decide) (fun c2 => ?_) (fun c2 => ?_)
  · have hf := o_t hf c2
    refine lv_iconst (v := (0 : Int32)) C.1.1 C.1.2.1 dX9_redrawn_29 rfl ?_
    obtain rfl := Option.some.inj hf
    exact ret_i C hr hlk hw dX9_redrawn_30
  · have hf := o_f hf c2
    refine lv_aload_n C.1.1 C.1.2.1 dX9_redrawn_14 rfl (lv_at hl 0 rfl) ?_
    refine lv_iload_n C.1.1 C.1.2.1 dX9_redrawn_15 rfl (lv_at hl 2 rfl) ?_
    refine lv_iconst (v := (0 : Int32)) C.1.1 C.1.2.1 dX9_redrawn_16 rfl ?_
    refine lv_iconst (v := (3 : Int32)) C.1.1 C.1.2.1 dX9_redrawn_17 rfl ?_
    obtain ⟨q3, h3, hf⟩ := o_bind hf
    refine aft_i hw (run_S C hw clX9_385 (As := [.int x2, .int (0 : Int32), .int (3 : Int32)]) (rest := [.ref (gA G (41 + 0))]) (c_X9_within h3) hl.1 rfl ⟨(Nat.le_of_ble_eq_true rfl), (Nat.le_of_ble_eq_true rfl)⟩ ⟨Nat.zero_le _, Nat.zero_le _⟩ rfl (Nat.le_of_ble_eq_true rfl) dX9_redrawn_18) (fun H locs hw => ?_)
    refine lv_iconst (v := (2 : Int32)) C.1.1 C.1.2.1 dX9_redrawn_21 rfl ?_
    refine lv_iconst (v := (1 : Int32)) C.1.1 C.1.2.1 dX9_redrawn_22 rfl ?_
    obtain ⟨q4, h4, hf⟩ := o_bind hf
    refine aft_i hw (run_VM C hw clX9_200 (As := [.int q3, .int (2 : Int32), .int (1 : Int32)]) (rest := []) oM_0 (c_X9_lets h4) rfl hl.1 rfl ⟨(Nat.le_of_ble_eq_true rfl), (Nat.le_of_ble_eq_true rfl)⟩ ⟨Nat.zero_le _, Nat.zero_le _⟩ rfl (Nat.le_of_ble_eq_true rfl) dX9_redrawn_23) (fun H locs hw => ?_)
    refine lv_if_ne (tgt := 31) C.1.1 C.1.2.1 dX9_redrawn_26 (by decide) (fun c5 => ?_) (fun c5 => ?_)
    · have hf := o_f hf c5
      refine lv_aload_n C.1.1 C.1.2.1 dX9_redrawn_31 rfl (lv_at hl 0 rfl) ?_
      obtain ⟨q6, h6, hf⟩ := o_bind hf
      refine aft_v hw (run_VM C hw clX9_307 (As := []) (rest := []) oM_0 (c_X9_take h6) rfl hl.1 rfl ⟨(Nat.le_of_ble_eq_true rfl), (Nat.le_of_ble_eq_true rfl)⟩ ⟨Nat.zero_le _, Nat.zero_le _⟩ rfl (Nat.le_of_ble_eq_true rfl) dX9_redrawn_32) (fun H locs hw => ?_)
      refine lv_aload_n C.1.1 C.1.2.1 dX9_redrawn_35 rfl (lv_at hl 0 rfl) ?_
      refine lv_iload_n C.1.1 C.1.2.1 dX9_redrawn_36 rfl (lv_at hl 1 rfl) ?_
      refine lv_iload_n C.1.1 C.1.2.1 dX9_redrawn_37 rfl (lv_at hl 2 rfl) ?_
      obtain ⟨q7, h7, hf⟩ := o_bind hf
      refine aft_i hw (run_VM C hw clX9_392 (As := [.int x1, .int x2]) (rest := []) oM_0 (c_X9_mostBy 5 h7) rfl hl.1 rfl ⟨(Nat.le_of_ble_eq_true rfl), (Nat.le_of_ble_eq_true rfl)⟩ ⟨Nat.zero_le _, Nat.zero_le _⟩ rfl (Nat.le_of_ble_eq_true rfl) dX9_redrawn_38) (fun H locs hw => ?_)
      obtain rfl := Option.some.inj hf
      exact ret_i C hr hlk hw dX9_redrawn_41
    · have hf := o_t hf c5
      refine lv_iconst (v := (0 : Int32)) C.1.1 C.1.2.1 dX9_redrawn_29 rfl ?_
      obtain rfl := Option.some.inj hf
      exact ret_i C hr hlk hw dX9_redrawn_30
end
/-! WinnerDrawsModel.turnsBy(II)I (('o', 'M', 0) ('i',) ('i',)) -/
def L_X9_turnsBy_24 (rec : TX → Int32 → Int32 → Option (TX × Int32)) : Nat → TX → Int32 → Int32 → Int32 → Int32 → Option (TX × Int32)
  | 0 => fun _ _ _ _ _ => none
  | n + 1 => fun M x1 x2 x3 x4 => if ((4 : Int32) * (M 0 19)) ≤ x4 then (some (M, x3)) else ((f_X9_mayCome M (x4 / (4 : Int32)) (x4 - x4 / (4 : Int32) * (4 : Int32))).bind fun q4 => if q4 = 0 then ((L_X9_turnsBy_24 rec n) M x1 x2 x3 (x4 + (1 : Int32))) else (if inb ((0 : Int32) + (x4 / (4 : Int32))) 34 = true then (if inb ((0 : Int32) + (x4 / (4 : Int32))) 34 = true then ((rec (u2 M 20 (Int32.toNatClampNeg ((0 : Int32) + (x4 / (4 : Int32)))) (x4 - x4 / (4 : Int32) * (4 : Int32))) ((1 : Int32) - x1) (x2 - (1 : Int32))).bind fun q8 => if x1 = 0 then (if q8.2 ≤ x3 then (if inb ((0 : Int32) + (x4 / (4 : Int32))) 34 = true then ((L_X9_turnsBy_24 rec n) (u2 q8.1 20 (Int32.toNatClampNeg ((0 : Int32) + (x4 / (4 : Int32)))) (M 20 (Int32.toNatClampNeg ((0 : Int32) + (x4 / (4 : Int32)))))) x1 x2 x3 (x4 + (1 : Int32))) else none) else (if inb ((0 : Int32) + (x4 / (4 : Int32))) 34 = true then ((L_X9_turnsBy_24 rec n) (u2 q8.1 20 (Int32.toNatClampNeg ((0 : Int32) + (x4 / (4 : Int32)))) (M 20 (Int32.toNatClampNeg ((0 : Int32) + (x4 / (4 : Int32)))))) x1 x2 q8.2 (x4 + (1 : Int32))) else none)) else (if x3 ≤ q8.2 then (if inb ((0 : Int32) + (x4 / (4 : Int32))) 34 = true then ((L_X9_turnsBy_24 rec n) (u2 q8.1 20 (Int32.toNatClampNeg ((0 : Int32) + (x4 / (4 : Int32)))) (M 20 (Int32.toNatClampNeg ((0 : Int32) + (x4 / (4 : Int32)))))) x1 x2 x3 (x4 + (1 : Int32))) else none) else (if inb ((0 : Int32) + (x4 / (4 : Int32))) 34 = true then ((L_X9_turnsBy_24 rec n) (u2 q8.1 20 (Int32.toNatClampNeg ((0 : Int32) + (x4 / (4 : Int32)))) (M 20 (Int32.toNatClampNeg ((0 : Int32) + (x4 / (4 : Int32)))))) x1 x2 q8.2 (x4 + (1 : Int32))) else none))) else none) else none))
def f_X9_turnsBy : Nat → TX → Int32 → Int32 → Option (TX × Int32)
  | 0 => fun _ _ _ => none
  | d + 1 => fun M x1 x2 => if x2 = 0 then ((f_X9_marginOf M (0 : Int32)).bind fun q16 => some (M, q16)) else (((f_X9_turnsBy d) M ((1 : Int32) - x1) (x2 - (1 : Int32))).bind fun q2 => L_X9_turnsBy_24 (f_X9_turnsBy d) FU q2.1 x1 x2 q2.2 (0 : Int32))
section
variable {G : GP} {l : Launch}
set_option maxRecDepth 20000 in
set_option maxHeartbeats 2000000 in
theorem wL_X9_turnsBy_24 {rec : TX → Int32 → Int32 → Option (TX × Int32)} {d : Nat} (hrec : ∀ {X M : TX} {L : TL} {x1 : Int32} {x2 : Int32} {ro : TX × Int32}, rec M x1 x2 = some ro → CTi G l yX9_turnsBy cX9_turnsBy 8 (some .int) (5 + 5 * d) (113 + 113 * d) [.ref (gA G (41 + 0)), .int x1, .int x2] X M L X ro.1 L ro.2) {p : Program} {e : Env} {s : State} {m : MethodId} {args : Array Value} {below : List Frame} {meth : Method} {c : Code} (C : Cx G p s m args c cX9_turnsBy 8 RX9) (hr : meth.sig.returnType = (some .int)) (hlk : meth.locks = false) {ro : TX × Int32} : ∀ (n : Nat), ∀ (X : TX) (M : TX) (L : TL) (x1 : Int32) (x2 : Int32) (x3 : Int32) (x4 : Int32) (H : Heap) (locs : List Loc) (ls : Array Slot), Wh G s X M L H locs → lv_has ls 8 [(0, .ref (gA G (41 + 0))), (1, .int x1), (2, .int x2), (3, .int x3), (4, .int x4)] → L_X9_turnsBy_24 rec n M x1 x2 x3 x4 = some ro → W p l e (rz (5 + 5 * (d + 1)) (113 + 113 * (d + 1))) s m args below meth c H locs 0 0 (MQ below (Di G X ro.1 L ro.2) args s 0 0 (AB G)) (F0 m 24 ls []) := by
  intro n
  induction n with
  | zero =>
    intro X M L x1 x2 x3 x4 H locs ls hw hl hf
    cases hf
  | succ n hk_24 =>
    intro X M L x1 x2 x3 x4 H locs ls hw hl hf
    rw [L_X9_turnsBy_24] at hf
    refine lv_iload C.1.1 C.1.2.1 dX9_turnsBy_24 (lv_at hl 4 rfl) ?_
    refine lv_iconst (v := (4 : Int32)) C.1.1 C.1.2.1 dX9_turnsBy_26 rfl ?_
    refine lv_aload_n C.1.1 C.1.2.1 dX9_turnsBy_27 rfl (lv_at hl 0 rfl) ?_
    refine m_get C hw iM_0_19 flX9_157 dX9_turnsBy_28 ?_
    refine lv_imul C.1.1 C.1.2.1 dX9_turnsBy_31 ?_
    refine lv_icmp_ge (tgt := 142) C.1.1 C.1.2.1 dX9_turnsBy_32 (by decide) (fun c3 => ?_) (fun c3 => ?_)
    · have hf := o_t hf c3
      refine lv_iload_n C.1.1 C.1.2.1 dX9_turnsBy_142 rfl (lv_at hl 3 rfl) ?_
      obtain rfl := Option.some.inj hf
      exact ret_i C hr hlk hw dX9_turnsBy_143
    · have hf := o_f hf c3
      refine lv_iload C.1.1 C.1.2.1 dX9_turnsBy_35 (lv_at hl 4 rfl) ?_
      refine lv_iconst (v := (4 : Int32)) C.1.1 C.1.2.1 dX9_turnsBy_37 rfl ?_
      refine lv_idiv C.1.1 C.1.2.1 dX9_turnsBy_38 (by decide) ?_
      refine lv_istore (lv' := [(5, .int (x4 / (4 : Int32))), (0, .ref (gA G (41 + 0))), (1, .int x1), (2, .int x2), (3, .int x3), (4, .int x4)]) C.1.1 C.1.2.1 dX9_turnsBy_39 hl (by decide) rfl (fun ls hl => ?_)
      refine lv_aload_n C.1.1 C.1.2.1 dX9_turnsBy_41 rfl (lv_at hl 1 rfl) ?_
      refine lv_iload C.1.1 C.1.2.1 dX9_turnsBy_42 (lv_at hl 0 rfl) ?_
      refine lv_iload C.1.1 C.1.2.1 dX9_turnsBy_44 (lv_at hl 5 rfl) ?_
      refine lv_iconst (v := (4 : Int32)) C.1.1 C.1.2.1 dX9_turnsBy_46 rfl ?_
      refine lv_irem C.1.1 C.1.2.1 dX9_turnsBy_47 (by decide) ?_
      obtain ⟨q4, h4, hf⟩ := o_bind hf
      refine aft_i hw (run_VM C hw clX9_357 (As := [.int (x4 / (4 : Int32)), .int (x4 - x4 / (4 : Int32) * (4 : Int32))]) (rest := []) oM_0 (c_X9_mayCome h4) rfl hl.1 rfl ⟨(by show 1 + 1 ≤ 5 + 5 * (d + 1); omega), (by show 8 + (4 + 11) + 24 ≤ 113 + 113 * (d + 1); omega)⟩ ⟨Nat.zero_le _, Nat.zero_le _⟩ rfl (Nat.le_of_ble_eq_true rfl) dX9_turnsBy_48) (fun H locs hw => ?_)
      refine lv_if_ne (tgt := 57) C.1.1 C.1.2.1 dX9_turnsBy_51 (by decide) (fun c5 => ?_) (fun c5 => ?_)
      · have hf := o_f hf c5
        refine lv_aload_n C.1.1 C.1.2.1 dX9_turnsBy_57 rfl (lv_at hl 1 rfl) ?_
        refine m_ref C hw fM_0_42 flX9_74 dX9_turnsBy_58 ?_
        refine lv_iconst (v := (0 : Int32)) C.1.1 C.1.2.1 dX9_turnsBy_61 rfl ?_
        refine lv_iload C.1.1 C.1.2.1 dX9_turnsBy_62 (lv_at hl 0 rfl) ?_
        refine lv_iadd C.1.1 C.1.2.1 dX9_turnsBy_64 ?_
        have g6 := inb_in (o_g hf).1
        have hf := (o_g hf).2
        refine m_ald C hw aM_20 g6 dX9_turnsBy_65 ?_
        refine lv_istore (lv' := [(6, .int (M 20 (Int32.toNatClampNeg ((0 : Int32) + (x4 / (4 : Int32)))))), (5, .int (x4 / (4 : Int32))), (0, .ref (gA G (41 + 0))), (1, .int x1), (2, .int x2), (3, .int x3), (4, .int x4)]) C.1.1 C.1.2.1 dX9_turnsBy_66 hl (by decide) rfl (fun ls hl => ?_)
        refine lv_aload_n C.1.1 C.1.2.1 dX9_turnsBy_68 rfl (lv_at hl 2 rfl) ?_
        refine m_ref C hw fM_0_42 flX9_74 dX9_turnsBy_69 ?_
        refine lv_iconst (v := (0 : Int32)) C.1.1 C.1.2.1 dX9_turnsBy_72 rfl ?_
        refine lv_iload C.1.1 C.1.2.1 dX9_turnsBy_73 (lv_at hl 1 rfl) ?_
        refine lv_iadd C.1.1 C.1.2.1 dX9_turnsBy_75 ?_
        refine lv_iload C.1.1 C.1.2.1 dX9_turnsBy_76 (lv_at hl 6 rfl) ?_
        refine lv_iconst (v := (4 : Int32)) C.1.1 C.1.2.1 dX9_turnsBy_78 rfl ?_
        refine lv_irem C.1.1 C.1.2.1 dX9_turnsBy_79 (by decide) ?_
        have g7 := inb_in (o_g hf).1
        have hf := (o_g hf).2
        refine m_ast C hw aM_20 g7 dX9_turnsBy_80 (fun H locs hw => ?_)
        refine lv_aload_n C.1.1 C.1.2.1 dX9_turnsBy_81 rfl (lv_at hl 2 rfl) ?_
        refine lv_iconst (v := (1 : Int32)) C.1.1 C.1.2.1 dX9_turnsBy_82 rfl ?_
        refine lv_iload_n C.1.1 C.1.2.1 dX9_turnsBy_83 rfl (lv_at hl 3 rfl) ?_
        refine lv_isub C.1.1 C.1.2.1 dX9_turnsBy_84 ?_
        refine lv_iload_n C.1.1 C.1.2.1 dX9_turnsBy_85 rfl (lv_at hl 4 rfl) ?_
        refine lv_iconst (v := (1 : Int32)) C.1.1 C.1.2.1 dX9_turnsBy_86 rfl ?_
        refine lv_isub C.1.1 C.1.2.1 dX9_turnsBy_87 ?_
        obtain ⟨q8, h8, hf⟩ := o_bind hf
        refine aft_i hw (run_VM C hw clX9_395 (As := [.int ((1 : Int32) - x1), .int (x2 - (1 : Int32))]) (rest := []) oM_0 (hrec h8) rfl hl.1 rfl ⟨(by show (5 + 5 * d) + 1 ≤ 5 + 5 * (d + 1); omega), (by show 8 + (8 + 11) + (113 + 113 * d) ≤ 113 + 113 * (d + 1); omega)⟩ ⟨Nat.zero_le _, Nat.zero_le _⟩ rfl (Nat.le_of_ble_eq_true rfl) dX9_turnsBy_88) (fun H locs hw => ?_)
        refine lv_istore (lv' := [(7, .int q8.2), (6, .int (M 20 (Int32.toNatClampNeg ((0 : Int32) + (x4 / (4 : Int32)))))), (5, .int (x4 / (4 : Int32))), (0, .ref (gA G (41 + 0))), (1, .int x1), (2, .int x2), (3, .int x3), (4, .int x4)]) C.1.1 C.1.2.1 dX9_turnsBy_91 hl (by decide) rfl (fun ls hl => ?_)
        refine lv_iload_n C.1.1 C.1.2.1 dX9_turnsBy_93 rfl (lv_at hl 4 rfl) ?_
        refine lv_if_ne (tgt := 112) C.1.1 C.1.2.1 dX9_turnsBy_94 (by decide) (fun c9 => ?_) (fun c9 => ?_)
        · have hf := o_f hf c9
          refine lv_iload C.1.1 C.1.2.1 dX9_turnsBy_112 (lv_at hl 0 rfl) ?_
          refine lv_iload_n C.1.1 C.1.2.1 dX9_turnsBy_114 rfl (lv_at hl 6 rfl) ?_
          refine lv_icmp_ge (tgt := 123) C.1.1 C.1.2.1 dX9_turnsBy_115 (by decide) (fun c10 => ?_) (fun c10 => ?_)
          · have hf := o_t hf c10
            refine lv_iload_n C.1.1 C.1.2.1 dX9_turnsBy_123 rfl (lv_at hl 6 rfl) ?_
            refine lv_istore_n (lv' := [(3, .int x3), (7, .int q8.2), (6, .int (M 20 (Int32.toNatClampNeg ((0 : Int32) + (x4 / (4 : Int32)))))), (5, .int (x4 / (4 : Int32))), (0, .ref (gA G (41 + 0))), (1, .int x1), (2, .int x2), (4, .int x4)]) C.1.1 C.1.2.1 dX9_turnsBy_124 rfl hl (by decide) rfl (fun ls hl => ?_)
            refine lv_aload_n C.1.1 C.1.2.1 dX9_turnsBy_125 rfl (lv_at hl 4 rfl) ?_
            refine m_ref C hw fM_0_42 flX9_74 dX9_turnsBy_126 ?_
            refine lv_iconst (v := (0 : Int32)) C.1.1 C.1.2.1 dX9_turnsBy_129 rfl ?_
            refine lv_iload C.1.1 C.1.2.1 dX9_turnsBy_130 (lv_at hl 3 rfl) ?_
            refine lv_iadd C.1.1 C.1.2.1 dX9_turnsBy_132 ?_
            refine lv_iload C.1.1 C.1.2.1 dX9_turnsBy_133 (lv_at hl 2 rfl) ?_
            have g11 := inb_in (o_g hf).1
            have hf := (o_g hf).2
            refine m_ast C hw aM_20 g11 dX9_turnsBy_135 (fun H locs hw => ?_)
            refine lv_iinc (v := (x4 + (1 : Int32))) (lv' := [(4, .int (x4 + (1 : Int32))), (3, .int x3), (7, .int q8.2), (6, .int (M 20 (Int32.toNatClampNeg ((0 : Int32) + (x4 / (4 : Int32)))))), (5, .int (x4 / (4 : Int32))), (0, .ref (gA G (41 + 0))), (1, .int x1), (2, .int x2)]) C.1.1 C.1.2.1 dX9_turnsBy_136 hl (k := 7) rfl rfl (by decide) rfl (fun ls hl => ?_)
            refine lv_goto (tgt := 24) C.1.1 C.1.2.1 dX9_turnsBy_139 (by decide) ?_
            exact hk_24 X (u2 q8.1 20 (Int32.toNatClampNeg ((0 : Int32) + (x4 / (4 : Int32)))) (M 20 (Int32.toNatClampNeg ((0 : Int32) + (x4 / (4 : Int32)))))) L x1 x2 x3 (x4 + (1 : Int32)) _ _ _ hw (lv_sub hl [5, 6, 7, 1, 0] rfl) hf
          · have hf := o_f hf c10
            refine lv_iload C.1.1 C.1.2.1 dX9_turnsBy_118 (lv_at hl 0 rfl) ?_
            refine lv_goto (tgt := 124) C.1.1 C.1.2.1 dX9_turnsBy_120 (by decide) ?_
            refine lv_istore_n (lv' := [(3, .int q8.2), (7, .int q8.2), (6, .int (M 20 (Int32.toNatClampNeg ((0 : Int32) + (x4 / (4 : Int32)))))), (5, .int (x4 / (4 : Int32))), (0, .ref (gA G (41 + 0))), (1, .int x1), (2, .int x2), (4, .int x4)]) C.1.1 C.1.2.1 dX9_turnsBy_124 rfl hl (by decide) rfl (fun ls hl => ?_)
            refine lv_aload_n C.1.1 C.1.2.1 dX9_turnsBy_125 rfl (lv_at hl 4 rfl) ?_
            refine m_ref C hw fM_0_42 flX9_74 dX9_turnsBy_126 ?_
            refine lv_iconst (v := (0 : Int32)) C.1.1 C.1.2.1 dX9_turnsBy_129 rfl ?_
            refine lv_iload C.1.1 C.1.2.1 dX9_turnsBy_130 (lv_at hl 3 rfl) ?_
            refine lv_iadd C.1.1 C.1.2.1 dX9_turnsBy_132 ?_
            refine lv_iload C.1.1 C.1.2.1 dX9_turnsBy_133 (lv_at hl 2 rfl) ?_
            have g12 := inb_in (o_g hf).1
            have hf := (o_g hf).2
            refine m_ast C hw aM_20 g12 dX9_turnsBy_135 (fun H locs hw => ?_)
            refine lv_iinc (v := (x4 + (1 : Int32))) (lv' := [(4, .int (x4 + (1 : Int32))), (3, .int q8.2), (7, .int q8.2), (6, .int (M 20 (Int32.toNatClampNeg ((0 : Int32) + (x4 / (4 : Int32)))))), (5, .int (x4 / (4 : Int32))), (0, .ref (gA G (41 + 0))), (1, .int x1), (2, .int x2)]) C.1.1 C.1.2.1 dX9_turnsBy_136 hl (k := 7) rfl rfl (by decide) rfl (fun ls hl => ?_)
            refine lv_goto (tgt := 24) C.1.1 C.1.2.1 dX9_turnsBy_139 (by decide) ?_
            exact hk_24 X (u2 q8.1 20 (Int32.toNatClampNeg ((0 : Int32) + (x4 / (4 : Int32)))) (M 20 (Int32.toNatClampNeg ((0 : Int32) + (x4 / (4 : Int32)))))) L x1 x2 q8.2 (x4 + (1 : Int32)) _ _ _ hw (lv_sub hl [5, 6, 7, 1, 0] rfl) hf
        · have hf := o_t hf c9
          refine lv_iload C.1.1 C.1.2.1 dX9_turnsBy_97 (lv_at hl 0 rfl) ?_
          refine lv_iload_n C.1.1 C.1.2.1 dX9_turnsBy_99 rfl (lv_at hl 6 rfl) ?_
          refine lv_icmp_le (tgt := 108) C.1.1 C.1.2.1 dX9_turnsBy_100 (by decide) (fun c13 => ?_) (fun c13 => ?_)
          · have hf := o_t hf c13
            refine lv_iload_n C.1.1 C.1.2.1 dX9_turnsBy_108 rfl (lv_at hl 6 rfl) ?_
            refine lv_goto (tgt := 124) C.1.1 C.1.2.1 dX9_turnsBy_109 (by decide) ?_
            refine lv_istore_n (lv' := [(3, .int x3), (7, .int q8.2), (6, .int (M 20 (Int32.toNatClampNeg ((0 : Int32) + (x4 / (4 : Int32)))))), (5, .int (x4 / (4 : Int32))), (0, .ref (gA G (41 + 0))), (1, .int x1), (2, .int x2), (4, .int x4)]) C.1.1 C.1.2.1 dX9_turnsBy_124 rfl hl (by decide) rfl (fun ls hl => ?_)
            refine lv_aload_n C.1.1 C.1.2.1 dX9_turnsBy_125 rfl (lv_at hl 4 rfl) ?_
            refine m_ref C hw fM_0_42 flX9_74 dX9_turnsBy_126 ?_
            refine lv_iconst (v := (0 : Int32)) C.1.1 C.1.2.1 dX9_turnsBy_129 rfl ?_
            refine lv_iload C.1.1 C.1.2.1 dX9_turnsBy_130 (lv_at hl 3 rfl) ?_
            refine lv_iadd C.1.1 C.1.2.1 dX9_turnsBy_132 ?_
            refine lv_iload C.1.1 C.1.2.1 dX9_turnsBy_133 (lv_at hl 2 rfl) ?_
            have g14 := inb_in (o_g hf).1
            have hf := (o_g hf).2
            refine m_ast C hw aM_20 g14 dX9_turnsBy_135 (fun H locs hw => ?_)
            refine lv_iinc (v := (x4 + (1 : Int32))) (lv' := [(4, .int (x4 + (1 : Int32))), (3, .int x3), (7, .int q8.2), (6, .int (M 20 (Int32.toNatClampNeg ((0 : Int32) + (x4 / (4 : Int32)))))), (5, .int (x4 / (4 : Int32))), (0, .ref (gA G (41 + 0))), (1, .int x1), (2, .int x2)]) C.1.1 C.1.2.1 dX9_turnsBy_136 hl (k := 7) rfl rfl (by decide) rfl (fun ls hl => ?_)
            refine lv_goto (tgt := 24) C.1.1 C.1.2.1 dX9_turnsBy_139 (by decide) ?_
            exact hk_24 X (u2 q8.1 20 (Int32.toNatClampNeg ((0 : Int32) + (x4 / (4 : Int32)))) (M 20 (Int32.toNatClampNeg ((0 : Int32) + (x4 / (4 : Int32)))))) L x1 x2 x3 (x4 + (1 : Int32)) _ _ _ hw (lv_sub hl [5, 6, 7, 1, 0] rfl) hf
          · have hf := o_f hf c13
            refine lv_iload C.1.1 C.1.2.1 dX9_turnsBy_103 (lv_at hl 0 rfl) ?_
            refine lv_goto (tgt := 124) C.1.1 C.1.2.1 dX9_turnsBy_105 (by decide) ?_
            refine lv_istore_n (lv' := [(3, .int q8.2), (7, .int q8.2), (6, .int (M 20 (Int32.toNatClampNeg ((0 : Int32) + (x4 / (4 : Int32)))))), (5, .int (x4 / (4 : Int32))), (0, .ref (gA G (41 + 0))), (1, .int x1), (2, .int x2), (4, .int x4)]) C.1.1 C.1.2.1 dX9_turnsBy_124 rfl hl (by decide) rfl (fun ls hl => ?_)
            refine lv_aload_n C.1.1 C.1.2.1 dX9_turnsBy_125 rfl (lv_at hl 4 rfl) ?_
            refine m_ref C hw fM_0_42 flX9_74 dX9_turnsBy_126 ?_
            refine lv_iconst (v := (0 : Int32)) C.1.1 C.1.2.1 dX9_turnsBy_129 rfl ?_
            refine lv_iload C.1.1 C.1.2.1 dX9_turnsBy_130 (lv_at hl 3 rfl) ?_
            refine lv_iadd C.1.1 C.1.2.1 dX9_turnsBy_132 ?_
            refine lv_iload C.1.1 C.1.2.1 dX9_turnsBy_133 (lv_at hl 2 rfl) ?_
            have g15 := inb_in (o_g hf).1
            have hf := (o_g hf).2
            refine m_ast C hw aM_20 g15 dX9_turnsBy_135 (fun H locs hw => ?_)
            refine lv_iinc (v := (x4 + (1 : Int32))) (lv' := [(4, .int (x4 + (1 : Int32))), (3, .int q8.2), (7, .int q8.2), (6, .int (M 20 (Int32.toNatClampNeg ((0 : Int32) + (x4 / (4 : Int32)))))), (5, .int (x4 / (4 : Int32))), (0, .ref (gA G (41 + 0))), (1, .int x1), (2, .int x2)]) C.1.1 C.1.2.1 dX9_turnsBy_136 hl (k := 7) rfl rfl (by decide) rfl (fun ls hl => ?_)
            refine lv_goto (tgt := 24) C.1.1 C.1.2.1 dX9_turnsBy_139 (by decide) ?_
            exact hk_24 X (u2 q8.1 20 (Int32.toNatClampNeg ((0 : Int32) + (x4 / (4 : Int32)))) (M 20 (Int32.toNatClampNeg ((0 : Int32) + (x4 / (4 : Int32)))))) L x1 x2 q8.2 (x4 + (1 : Int32)) _ _ _ hw (lv_sub hl [5, 6, 7, 1, 0] rfl) hf
      · have hf := o_t hf c5
        refine lv_goto (tgt := 136) C.1.1 C.1.2.1 dX9_turnsBy_54 (by decide) ?_
        refine lv_iinc (v := (x4 + (1 : Int32))) (lv' := [(4, .int (x4 + (1 : Int32))), (5, .int (x4 / (4 : Int32))), (0, .ref (gA G (41 + 0))), (1, .int x1), (2, .int x2), (3, .int x3)]) C.1.1 C.1.2.1 dX9_turnsBy_136 hl (k := 5) rfl rfl (by decide) rfl (fun ls hl => ?_)
        refine lv_goto (tgt := 24) C.1.1 C.1.2.1 dX9_turnsBy_139 (by decide) ?_
        exact hk_24 X M L x1 x2 x3 (x4 + (1 : Int32)) _ _ _ hw (lv_sub hl [2, 3, 4, 5, 0] rfl) hf
set_option maxRecDepth 20000 in
set_option maxHeartbeats 2000000 in
theorem c_X9_turnsBy : ∀ (d : Nat), ∀ {X M : TX} {L : TL} {x1 : Int32} {x2 : Int32} {ro : TX × Int32}, f_X9_turnsBy d M x1 x2 = some ro → CTi G l yX9_turnsBy cX9_turnsBy 8 (some .int) (5 + 5 * d) (113 + 113 * d) [.ref (gA G (41 + 0)), .int x1, .int x2] X M L X ro.1 L ro.2 := by
  intro d
  induction d with
  | zero =>
    intro X M L x1 x2 ro hf
    cases hf
  | succ d hrec =>
    intro X M L x1 x2 ro hf
    rw [f_X9_turnsBy] at hf
    refine ct_of (by decide +kernel) (Nat.le_of_ble_eq_true rfl) (fun p e s m args below meth c H locs ls C hr hlk hw hl => ?_)
    have C : Cx G p s m args c cX9_turnsBy 8 RX9 := C
    have hl : lv_has ls 8 [(0, .ref (gA G (41 + 0))), (1, .int x1), (2, .int x2)] := hl
    refine lv_iload_n C.1.1 C.1.2.1 dX9_turnsBy_0 rfl (lv_at hl 2 rfl) ?_
    refine lv_if_ne (tgt := 10) C.1.1 C.1.2.1 dX9_turnsBy_1 (by decide) (fun c1 => ?_) (fun c1 => ?_)
    · have hf := o_f hf c1
      refine lv_aload_n C.1.1 C.1.2.1 dX9_turnsBy_10 rfl (lv_at hl 0 rfl) ?_
      refine lv_iconst (v := (1 : Int32)) C.1.1 C.1.2.1 dX9_turnsBy_11 rfl ?_
      refine lv_iload_n C.1.1 C.1.2.1 dX9_turnsBy_12 rfl (lv_at hl 1 rfl) ?_
      refine lv_isub C.1.1 C.1.2.1 dX9_turnsBy_13 ?_
      refine lv_iload_n C.1.1 C.1.2.1 dX9_turnsBy_14 rfl (lv_at hl 2 rfl) ?_
      refine lv_iconst (v := (1 : Int32)) C.1.1 C.1.2.1 dX9_turnsBy_15 rfl ?_
      refine lv_isub C.1.1 C.1.2.1 dX9_turnsBy_16 ?_
      obtain ⟨q2, h2, hf⟩ := o_bind hf
      refine aft_i hw (run_VM C hw clX9_395 (As := [.int ((1 : Int32) - x1), .int (x2 - (1 : Int32))]) (rest := []) oM_0 (hrec h2) rfl hl.1 rfl ⟨(by show (5 + 5 * d) + 1 ≤ 5 + 5 * (d + 1); omega), (by show 8 + (8 + 11) + (113 + 113 * d) ≤ 113 + 113 * (d + 1); omega)⟩ ⟨Nat.zero_le _, Nat.zero_le _⟩ rfl (Nat.le_of_ble_eq_true rfl) dX9_turnsBy_17) (fun H locs hw => ?_)
      refine lv_istore_n (lv' := [(3, .int q2.2), (0, .ref (gA G (41 + 0))), (1, .int x1), (2, .int x2)]) C.1.1 C.1.2.1 dX9_turnsBy_20 rfl hl (by decide) rfl (fun ls hl => ?_)
      refine lv_iconst (v := (0 : Int32)) C.1.1 C.1.2.1 dX9_turnsBy_21 rfl ?_
      refine lv_istore (lv' := [(4, .int (0 : Int32)), (3, .int q2.2), (0, .ref (gA G (41 + 0))), (1, .int x1), (2, .int x2)]) C.1.1 C.1.2.1 dX9_turnsBy_22 hl (by decide) rfl (fun ls hl => ?_)
      exact wL_X9_turnsBy_24 hrec C hr hlk FU X q2.1 L x1 x2 q2.2 (0 : Int32) _ _ _ hw (lv_sub hl [2, 3, 4, 1, 0] rfl) hf
    · have hf := o_t hf c1
      refine lv_aload_n C.1.1 C.1.2.1 dX9_turnsBy_4 rfl (lv_at hl 0 rfl) ?_
      refine lv_iconst (v := (0 : Int32)) C.1.1 C.1.2.1 dX9_turnsBy_5 rfl ?_
      obtain ⟨q16, h16, hf⟩ := o_bind hf
      refine aft_i hw (run_VM C hw clX9_364 (As := [.int (0 : Int32)]) (rest := []) oM_0 (c_X9_marginOf h16) rfl hl.1 rfl ⟨(by show 4 + 1 ≤ 5 + 5 * (d + 1); omega), (by show 8 + (2 + 11) + 92 ≤ 113 + 113 * (d + 1); omega)⟩ ⟨Nat.zero_le _, Nat.zero_le _⟩ rfl (Nat.le_of_ble_eq_true rfl) dX9_turnsBy_6) (fun H locs hw => ?_)
      obtain rfl := Option.some.inj hf
      exact ret_i C hr hlk hw dX9_turnsBy_9
end
/-! WinnerDrawsModel.turned(I)I (('o', 'M', 0) ('i',)) -/
def f_X9_turned (M : TX) (x1 : Int32) : Option (TX × Int32) := (f_X9_within x1 (0 : Int32) (3 : Int32)).bind fun q1 => (f_X9_lets (u2 M 0 0 (0 : Int32)) q1 (1 : Int32) (1 : Int32)).bind fun q2 => if q2.2 = 0 then (some (q2.1, (0 : Int32))) else ((f_X9_take q2.1).bind fun q4 => (f_X9_turnsBy 5 q4 (0 : Int32) x1).bind fun q5 => some (q5.1, q5.2))
section
variable {G : GP} {l : Launch}
set_option maxRecDepth 20000 in
set_option maxHeartbeats 2000000 in
theorem c_X9_turned   {X M : TX} {L : TL} {x1 : Int32} {ro : TX × Int32} (hf : f_X9_turned M x1 = some ro) : CTi G l yX9_turned cX9_turned 2 (some .int) 31 705 [.ref (gA G (41 + 0)), .int x1] X M L X ro.1 L ro.2 := by
  unfold f_X9_turned at hf
  refine ct_of (by decide +kernel) (Nat.le_of_ble_eq_true rfl) (fun p e s m args below meth c H locs ls C hr hlk hw hl => ?_)
  have C : Cx G p s m args c cX9_turned 2 RX9 := C
  have hl : lv_has ls 2 [(0, .ref (gA G (41 + 0))), (1, .int x1)] := hl
  refine lv_aload_n C.1.1 C.1.2.1 dX9_turned_0 rfl (lv_at hl 0 rfl) ?_
  refine lv_iconst (v := (0 : Int32)) C.1.1 C.1.2.1 dX9_turned_1 rfl ?_
  refine m_put C hw iM_0_0 flX9_3 dX9_turned_2 (fun H locs hw => ?_)
  refine lv_aload_n C.1.1 C.1.2.1 dX9_turned_5 rfl (lv_at hl 0 rfl) ?_
  refine lv_iload_n C.1.1 C.1.2.1 dX9_turned_6 rfl (lv_at hl 1 rfl) ?_
  refine lv_iconst (v := (0 : Int32)) C.1.1 C.1.2.1 dX9_turned_7 rfl ?_
  refine lv_iconst (v := (3 : Int32)) C.1.1 C.1.2.1 dX9_turned_8 rfl ?_
  obtain ⟨q1, h1, hf⟩ := o_bind hf
  refine aft_i hw (run_S C hw clX9_385 (As := [.int x1, .int (0 : Int32), .int (3 : Int32)]) (rest := [.ref (gA G (41 + 0))]) (c_X9_within h1) hl.1 rfl ⟨(Nat.le_of_ble_eq_true rfl), (Nat.le_of_ble_eq_true rfl)⟩ ⟨Nat.zero_le _, Nat.zero_le _⟩ rfl (Nat.le_of_ble_eq_true rfl) dX9_turned_9) (fun H locs hw => ?_)
  refine lv_iconst (v := (1 : Int32)) C.1.1 C.1.2.1 dX9_turned_12 rfl ?_
  refine lv_iconst (v := (1 : Int32)) C.1.1 C.1.2.1 dX9_turned_13 rfl ?_
  obtain ⟨q2, h2, hf⟩ := o_bind hf
  refine aft_i hw (run_VM C hw clX9_200 (As := [.int q1, .int (1 : Int32), .int (1 : Int32)]) (rest := []) oM_0 (c_X9_lets h2) rfl hl.1 rfl ⟨(Nat.le_of_ble_eq_true rfl), (Nat.le_of_ble_eq_true rfl)⟩ ⟨Nat.zero_le _, Nat.zero_le _⟩ rfl (Nat.le_of_ble_eq_true rfl) dX9_turned_14) (fun H locs hw => ?_)
  refine lv_if_ne (tgt := 22) C.1.1 C.1.2.1 dX9_turned_17 (by decide) (fun c3 => ?_) (fun c3 => ?_)
  · have hf := o_f hf c3
    refine lv_aload_n C.1.1 C.1.2.1 dX9_turned_22 rfl (lv_at hl 0 rfl) ?_
    obtain ⟨q4, h4, hf⟩ := o_bind hf
    refine aft_v hw (run_VM C hw clX9_307 (As := []) (rest := []) oM_0 (c_X9_take h4) rfl hl.1 rfl ⟨(Nat.le_of_ble_eq_true rfl), (Nat.le_of_ble_eq_true rfl)⟩ ⟨Nat.zero_le _, Nat.zero_le _⟩ rfl (Nat.le_of_ble_eq_true rfl) dX9_turned_23) (fun H locs hw => ?_)
    refine lv_aload_n C.1.1 C.1.2.1 dX9_turned_26 rfl (lv_at hl 0 rfl) ?_
    refine lv_iconst (v := (0 : Int32)) C.1.1 C.1.2.1 dX9_turned_27 rfl ?_
    refine lv_iload_n C.1.1 C.1.2.1 dX9_turned_28 rfl (lv_at hl 1 rfl) ?_
    obtain ⟨q5, h5, hf⟩ := o_bind hf
    refine aft_i hw (run_VM C hw clX9_395 (As := [.int (0 : Int32), .int x1]) (rest := []) oM_0 (c_X9_turnsBy 5 h5) rfl hl.1 rfl ⟨(Nat.le_of_ble_eq_true rfl), (Nat.le_of_ble_eq_true rfl)⟩ ⟨Nat.zero_le _, Nat.zero_le _⟩ rfl (Nat.le_of_ble_eq_true rfl) dX9_turned_29) (fun H locs hw => ?_)
    obtain rfl := Option.some.inj hf
    exact ret_i C hr hlk hw dX9_turned_32
  · have hf := o_t hf c3
    refine lv_iconst (v := (0 : Int32)) C.1.1 C.1.2.1 dX9_turned_20 rfl ?_
    obtain rfl := Option.some.inj hf
    exact ret_i C hr hlk hw dX9_turned_21
end
