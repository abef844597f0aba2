/-! WinnerDrawsModel.reigns(II)I (('o', 'M', 0) ('i',) ('i',)) -/
def L_X9_reigns_49 : Nat → TX → Int32 → Int32 → Int32 → Int32 → Option (TX × Int32)
  | 0 => fun _ _ _ _ _ => none
  | n + 1 => fun M x1 x2 x3 x4 => if x1 ≤ x4 then (if x2 = 0 then (if inb (30 : Int32) 34 = true then (some (M, (M 20 (Int32.toNatClampNeg (30 : Int32))))) else none) else (some (M, x3))) else (if inb (30 : Int32) 34 = true then ((f_X9_votes M).bind fun q10 => if inb (30 : Int32) 34 = true then (if (q10 20 (Int32.toNatClampNeg (30 : Int32))) = (M 20 (Int32.toNatClampNeg (30 : Int32))) then ((f_X9_isDrawn q10).bind fun q14 => (L_X9_reigns_49 n) q14.1 x1 x2 (x3 + (0 : Int32)) (x4 + (1 : Int32))) else ((f_X9_isDrawn q10).bind fun q13 => (L_X9_reigns_49 n) q13.1 x1 x2 (x3 + (1 : Int32)) (x4 + (1 : Int32)))) else none) else none)
def f_X9_reigns (M : TX) (x1 : Int32) (x2 : Int32) : Option (TX × Int32) := (f_X9_within x1 (0 : Int32) (60 : Int32)).bind fun q1 => if q1 = 0 then ((f_X9_lets (u2 M 0 0 (0 : Int32)) (0 : Int32) (1 : Int32) (1 : Int32)).bind fun q3 => if q3.2 = 0 then (some (q3.1, (0 : Int32))) else ((f_X9_take q3.1).bind fun q5 => L_X9_reigns_49 FU q5 x1 x2 (0 : Int32) (0 : Int32))) else ((f_X9_within x2 (0 : Int32) (1 : Int32)).bind fun q15 => if q15 = 0 then ((f_X9_lets (u2 M 0 0 (0 : Int32)) (0 : Int32) (1 : Int32) (1 : Int32)).bind fun q17 => if q17.2 = 0 then (some (q17.1, (0 : Int32))) else ((f_X9_take q17.1).bind fun q19 => L_X9_reigns_49 FU q19 x1 x2 (0 : Int32) (0 : Int32))) else ((f_X9_lets (u2 M 0 0 (0 : Int32)) (1 : Int32) (1 : Int32) (1 : Int32)).bind fun q20 => if q20.2 = 0 then (some (q20.1, (0 : Int32))) else ((f_X9_take q20.1).bind fun q22 => L_X9_reigns_49 FU q22 x1 x2 (0 : Int32) (0 : Int32))))
section
variable {G : GP} {l : Launch}
set_option maxRecDepth 20000 in
set_option maxHeartbeats 2000000 in
theorem wL_X9_reigns_49 {p : Program} {e : Env} {s : State} {m : MethodId} {args : Array Value} {below : List Frame} {meth : Method} {c : Code} (C : Cx G p s m args c cX9_reigns 6 RX9) (hr : meth.sig.returnType = (some .int)) (hlk : meth.locks = false) {ro : TX × Int32} : ∀ (n : Nat), ∀ (X : TX) (M : TX) (L : TL) (x1 : Int32) (x2 : Int32) (x3 : Int32) (x4 : Int32) (H : Heap) (locs : List Loc) (ls : Array Slot), Wh G s X M L H locs → lv_has ls 6 [(0, .ref (gA G (41 + 0))), (1, .int x1), (2, .int x2), (3, .int x3), (4, .int x4)] → L_X9_reigns_49 n M x1 x2 x3 x4 = some ro → W p l e (rz 7 168) s m args below meth c H locs 0 0 (MQ below (Di G X ro.1 L ro.2) args s 0 0 (AB G)) (F0 m 49 ls []) := by
  intro n
  induction n with
  | zero =>
    intro X M L x1 x2 x3 x4 H locs ls hw hl hf
    cases hf
  | succ n hk_49 =>
    intro X M L x1 x2 x3 x4 H locs ls hw hl hf
    rw [L_X9_reigns_49] at hf
    refine lv_iload C.1.1 C.1.2.1 dX9_reigns_49 (lv_at hl 4 rfl) ?_
    refine lv_iload_n C.1.1 C.1.2.1 dX9_reigns_51 rfl (lv_at hl 1 rfl) ?_
    refine lv_icmp_ge (tgt := 99) C.1.1 C.1.2.1 dX9_reigns_52 (by decide) (fun c6 => ?_) (fun c6 => ?_)
    · have hf := o_t hf c6
      refine lv_iload_n C.1.1 C.1.2.1 dX9_reigns_99 rfl (lv_at hl 2 rfl) ?_
      refine lv_if_ne (tgt := 113) C.1.1 C.1.2.1 dX9_reigns_100 (by decide) (fun c7 => ?_) (fun c7 => ?_)
      · have hf := o_f hf c7
        refine lv_iload_n C.1.1 C.1.2.1 dX9_reigns_113 rfl (lv_at hl 3 rfl) ?_
        obtain rfl := Option.some.inj hf
        exact ret_i C hr hlk hw dX9_reigns_114
      · have hf := o_t hf c7
        refine lv_aload_n C.1.1 C.1.2.1 dX9_reigns_103 rfl (lv_at hl 0 rfl) ?_
        refine m_ref C hw fM_0_42 flX9_74 dX9_reigns_104 ?_
        refine lv_bipush (v := (30 : Int32)) C.1.1 C.1.2.1 dX9_reigns_107 rfl ?_
        have g8 := inb_in (o_g hf).1
        have hf := (o_g hf).2
        refine m_ald C hw aM_20 g8 dX9_reigns_109 ?_
        refine lv_goto (tgt := 114) C.1.1 C.1.2.1 dX9_reigns_110 (by decide) ?_
        obtain rfl := Option.some.inj hf
        exact ret_i C hr hlk hw dX9_reigns_114
    · have hf := o_f hf c6
      refine lv_aload_n C.1.1 C.1.2.1 dX9_reigns_55 rfl (lv_at hl 0 rfl) ?_
      refine m_ref C hw fM_0_42 flX9_74 dX9_reigns_56 ?_
      refine lv_bipush (v := (30 : Int32)) C.1.1 C.1.2.1 dX9_reigns_59 rfl ?_
      have g9 := inb_in (o_g hf).1
      have hf := (o_g hf).2
      refine m_ald C hw aM_20 g9 dX9_reigns_61 ?_
      refine lv_istore (lv' := [(5, .int (M 20 (Int32.toNatClampNeg (30 : Int32)))), (0, .ref (gA G (41 + 0))), (1, .int x1), (2, .int x2), (3, .int x3), (4, .int x4)]) C.1.1 C.1.2.1 dX9_reigns_62 hl (by decide) rfl (fun ls hl => ?_)
      refine lv_aload_n C.1.1 C.1.2.1 dX9_reigns_64 rfl (lv_at hl 1 rfl) ?_
      obtain ⟨q10, h10, hf⟩ := o_bind hf
      refine aft_v hw (run_VM C hw clX9_382 (As := []) (rest := []) oM_0 (c_X9_votes h10) rfl hl.1 rfl ⟨(Nat.le_of_ble_eq_true rfl), (Nat.le_of_ble_eq_true rfl)⟩ ⟨Nat.zero_le _, Nat.zero_le _⟩ rfl (Nat.le_of_ble_eq_true rfl) dX9_reigns_65) (fun H locs hw => ?_)
      refine lv_iload_n C.1.1 C.1.2.1 dX9_reigns_68 rfl (lv_at hl 4 rfl) ?_
      refine lv_aload_n C.1.1 C.1.2.1 dX9_reigns_69 rfl (lv_at hl 1 rfl) ?_
      refine m_ref C hw fM_0_42 flX9_74 dX9_reigns_70 ?_
      refine lv_bipush (v := (30 : Int32)) C.1.1 C.1.2.1 dX9_reigns_73 rfl ?_
      have g11 := inb_in (o_g hf).1
      have hf := (o_g hf).2
      refine m_ald C hw aM_20 g11 dX9_reigns_75 ?_
      refine lv_iload C.1.1 C.1.2.1 dX9_reigns_76 (lv_at hl 0 rfl) ?_
      refine lv_icmp_ne (tgt := 85) C.1.1 C.1.2.1 dX9_reigns_78 (by decide) (fun c12 => ?_) (fun c12 => ?_)
      · have hf := o_f hf c12
        refine lv_iconst (v := (1 : Int32)) C.1.1 C.1.2.1 dX9_reigns_85 rfl ?_
        refine lv_iadd C.1.1 C.1.2.1 dX9_reigns_86 ?_
        refine lv_istore_n (lv' := [(3, .int (x3 + (1 : Int32))), (5, .int (M 20 (Int32.toNatClampNeg (30 : Int32)))), (0, .ref (gA G (41 + 0))), (1, .int x1), (2, .int x2), (4, .int x4)]) C.1.1 C.1.2.1 dX9_reigns_87 rfl hl (by decide) rfl (fun ls hl => ?_)
        refine lv_aload_n C.1.1 C.1.2.1 dX9_reigns_88 rfl (lv_at hl 2 rfl) ?_
        obtain ⟨q13, h13, hf⟩ := o_bind hf
        refine aft_i hw (run_VM C hw clX9_379 (As := []) (rest := []) oM_0 (c_X9_isDrawn h13) rfl hl.1 rfl ⟨(Nat.le_of_ble_eq_true rfl), (Nat.le_of_ble_eq_true rfl)⟩ ⟨Nat.zero_le _, Nat.zero_le _⟩ rfl (Nat.le_of_ble_eq_true rfl) dX9_reigns_89) (fun H locs hw => ?_)
        refine lv_pop C.1.1 C.1.2.1 dX9_reigns_92 rfl ?_
        refine lv_iinc (v := (x4 + (1 : Int32))) (lv' := [(4, .int (x4 + (1 : Int32))), (3, .int (x3 + (1 : Int32))), (5, .int (M 20 (Int32.toNatClampNeg (30 : Int32)))), (0, .ref (gA G (41 + 0))), (1, .int x1), (2, .int x2)]) C.1.1 C.1.2.1 dX9_reigns_93 hl (k := 5) rfl rfl (by decide) rfl (fun ls hl => ?_)
        refine lv_goto (tgt := 49) C.1.1 C.1.2.1 dX9_reigns_96 (by decide) ?_
        exact hk_49 X q13.1 L x1 x2 (x3 + (1 : Int32)) (x4 + (1 : Int32)) _ _ _ hw (lv_sub hl [3, 4, 5, 1, 0] rfl) hf
      · have hf := o_t hf c12
        refine lv_iconst (v := (0 : Int32)) C.1.1 C.1.2.1 dX9_reigns_81 rfl ?_
        refine lv_goto (tgt := 86) C.1.1 C.1.2.1 dX9_reigns_82 (by decide) ?_
        refine lv_iadd C.1.1 C.1.2.1 dX9_reigns_86 ?_
        refine lv_istore_n (lv' := [(3, .int (x3 + (0 : Int32))), (5, .int (M 20 (Int32.toNatClampNeg (30 : Int32)))), (0, .ref (gA G (41 + 0))), (1, .int x1), (2, .int x2), (4, .int x4)]) C.1.1 C.1.2.1 dX9_reigns_87 rfl hl (by decide) rfl (fun ls hl => ?_)
        refine lv_aload_n C.1.1 C.1.2.1 dX9_reigns_88 rfl (lv_at hl 2 rfl) ?_
        obtain ⟨q14, h14, hf⟩ := o_bind hf
        refine aft_i hw (run_VM C hw clX9_379 (As := []) (rest := []) oM_0 (c_X9_isDrawn h14) rfl hl.1 rfl ⟨(Nat.le_of_ble_eq_true rfl), (Nat.le_of_ble_eq_true rfl)⟩ ⟨Nat.zero_le _, Nat.zero_le _⟩ rfl (Nat.le_of_ble_eq_true rfl) dX9_reigns_89) (fun H locs hw => ?_)
        refine lv_pop C.1.1 C.1.2.1 dX9_reigns_92 rfl ?_
        refine lv_iinc (v := (x4 + (1 : Int32))) (lv' := [(4, .int (x4 + (1 : Int32))), (3, .int (x3 + (0 : Int32))), (5, .int (M 20 (Int32.toNatClampNeg (30 : Int32)))), (0, .ref (gA G (41 + 0))), (1, .int x1), (2, .int x2)]) C.1.1 C.1.2.1 dX9_reigns_93 hl (k := 5) rfl rfl (by decide) rfl (fun ls hl => ?_)
        refine lv_goto (tgt := 49) C.1.1 C.1.2.1 dX9_reigns_96 (by decide) ?_
        exact hk_49 X q14.1 L x1 x2 (x3 + (0 : Int32)) (x4 + (1 : Int32)) _ _ _ hw (lv_sub hl [3, 4, 5, 1, 0] rfl) hf
set_option maxRecDepth 20000 in
set_option maxHeartbeats 2000000 in
theorem c_X9_reigns   {X M : TX} {L : TL} {x1 : Int32} {x2 : Int32} {ro : TX × Int32} (hf : f_X9_reigns M x1 x2 = some ro) : CTi G l yX9_reigns cX9_reigns 6 (some .int) 7 168 [.ref (gA G (41 + 0)), .int x1, .int x2] X M L X ro.1 L ro.2 := by
  unfold f_X9_reigns at hf
  refine ct_of (by decide +kernel) (Nat.le_of_ble_eq_true rfl) (fun p e s m args below meth c H locs ls C hr hlk hw hl => ?_)
  have C : Cx G p s m args c cX9_reigns 6 RX9 := C
  have hl : lv_has ls 6 [(0, .ref (gA G (41 + 0))), (1, .int x1), (2, .int x2)] := hl
  refine lv_aload_n C.1.1 C.1.2.1 dX9_reigns_0 rfl (lv_at hl 0 rfl) ?_
  refine lv_iconst (v := (0 : Int32)) C.1.1 C.1.2.1 dX9_reigns_1 rfl ?_
  refine m_put C hw iM_0_0 flX9_3 dX9_reigns_2 (fun H locs hw => ?_)
  refine lv_aload_n C.1.1 C.1.2.1 dX9_reigns_5 rfl (lv_at hl 0 rfl) ?_
  refine lv_iload_n C.1.1 C.1.2.1 dX9_reigns_6 rfl (lv_at hl 1 rfl) ?_
  refine lv_iconst (v := (0 : Int32)) C.1.1 C.1.2.1 dX9_reigns_7 rfl ?_
  refine lv_bipush (v := (60 : Int32)) C.1.1 C.1.2.1 dX9_reigns_8 rfl ?_
  obtain ⟨q1, h1, hf⟩ := o_bind hf
  refine aft_i hw (run_S C hw clX9_385 (As := [.int x1, .int (0 : Int32), .int (60 : Int32)]) (rest := [.ref (gA G (41 + 0))]) (c_X9_within h1) hl.1 rfl ⟨(Nat.le_of_ble_eq_true rfl), (Nat.le_of_ble_eq_true rfl)⟩ ⟨Nat.zero_le _, Nat.zero_le _⟩ rfl (Nat.le_of_ble_eq_true rfl) dX9_reigns_10) (fun H locs hw => ?_)
  refine lv_if_eq (tgt := 29) C.1.1 C.1.2.1 dX9_reigns_13 (by decide) (fun c2 => ?_) (fun c2 => ?_)
  · have hf := o_t hf c2
    refine lv_iconst (v := (0 : Int32)) C.1.1 C.1.2.1 dX9_reigns_29 rfl ?_
    refine lv_iconst (v := (1 : Int32)) C.1.1 C.1.2.1 dX9_reigns_30 rfl ?_
    refine lv_iconst (v := (1 : Int32)) C.1.1 C.1.2.1 dX9_reigns_31 rfl ?_
    obtain ⟨q3, h3, hf⟩ := o_bind hf
    refine aft_i hw (run_VM C hw clX9_200 (As := [.int (0 : Int32), .int (1 : Int32), .int (1 : Int32)]) (rest := []) oM_0 (c_X9_lets h3) rfl hl.1 rfl ⟨(Nat.le_of_ble_eq_true rfl), (Nat.le_of_ble_eq_true rfl)⟩ ⟨Nat.zero_le _, Nat.zero_le _⟩ rfl (Nat.le_of_ble_eq_true rfl) dX9_reigns_32) (fun H locs hw => ?_)
    refine lv_if_ne (tgt := 40) C.1.1 C.1.2.1 dX9_reigns_35 (by decide) (fun c4 => ?_) (fun c4 => ?_)
    · have hf := o_f hf c4
      refine lv_aload_n C.1.1 C.1.2.1 dX9_reigns_40 rfl (lv_at hl 0 rfl) ?_
      obtain ⟨q5, h5, hf⟩ := o_bind hf
      refine aft_v hw (run_VM C hw clX9_307 (As := []) (rest := []) oM_0 (c_X9_take h5) rfl hl.1 rfl ⟨(Nat.le_of_ble_eq_true rfl), (Nat.le_of_ble_eq_true rfl)⟩ ⟨Nat.zero_le _, Nat.zero_le _⟩ rfl (Nat.le_of_ble_eq_true rfl) dX9_reigns_41) (fun H locs hw => ?_)
      refine lv_iconst (v := (0 : Int32)) C.1.1 C.1.2.1 dX9_reigns_44 rfl ?_
      refine lv_istore_n (lv' := [(3, .int (0 : Int32)), (0, .ref (gA G (41 + 0))), (1, .int x1), (2, .int x2)]) C.1.1 C.1.2.1 dX9_reigns_45 rfl hl (by decide) rfl (fun ls hl => ?_)
      refine lv_iconst (v := (0 : Int32)) C.1.1 C.1.2.1 dX9_reigns_46 rfl ?_
      refine lv_istore (lv' := [(4, .int (0 : Int32)), (3, .int (0 : Int32)), (0, .ref (gA G (41 + 0))), (1, .int x1), (2, .int x2)]) C.1.1 C.1.2.1 dX9_reigns_47 hl (by decide) rfl (fun ls hl => ?_)
      exact wL_X9_reigns_49 C hr hlk FU X q5 L x1 x2 (0 : Int32) (0 : Int32) _ _ _ hw (lv_sub hl [2, 3, 4, 1, 0] rfl) hf
    · have hf := o_t hf c4
      refine lv_iconst (v := (0 : Int32)) C.1.1 C.1.2.1 dX9_reigns_38 rfl ?_
      obtain rfl := Option.some.inj hf
      exact ret_i C hr hlk hw dX9_reigns_39
  · have hf := o_f hf c2
    refine lv_iload_n C.1.1 C.1.2.1 dX9_reigns_16 rfl (lv_at hl 2 rfl) ?_
    refine lv_iconst (v := (0 : Int32)) C.1.1 C.1.2.1 dX9_reigns_17 rfl ?_
    refine lv_iconst (v := (1 : Int32)) C.1.1 C.1.2.1 dX9_reigns_18 rfl ?_
    obtain ⟨q15, h15, hf⟩ := o_bind hf
    refine aft_i hw (run_S C hw clX9_385 (As := [.int x2, .int (0 : Int32), .int (1 : Int32)]) (rest := [.ref (gA G (41 + 0))]) (c_X9_within h15) hl.1 rfl ⟨(Nat.le_of_ble_eq_true rfl), (Nat.le_of_ble_eq_true rfl)⟩ ⟨Nat.zero_le _, Nat.zero_le _⟩ rfl (Nat.le_of_ble_eq_true rfl) dX9_reigns_19) (fun H locs hw => ?_)
    refine lv_if_eq (tgt := 29) C.1.1 C.1.2.1 dX9_reigns_22 (by decide) (fun c16 => ?_) (fun c16 => ?_)
    · have hf := o_t hf c16
      refine lv_iconst (v := (0 : Int32)) C.1.1 C.1.2.1 dX9_reigns_29 rfl ?_
      refine lv_iconst (v := (1 : Int32)) C.1.1 C.1.2.1 dX9_reigns_30 rfl ?_
      refine lv_iconst (v := (1 : Int32)) C.1.1 C.1.2.1 dX9_reigns_31 rfl ?_
      obtain ⟨q17, h17, hf⟩ := o_bind hf
      refine aft_i hw (run_VM C hw clX9_200 (As := [.int (0 : Int32), .int (1 : Int32), .int (1 : Int32)]) (rest := []) oM_0 (c_X9_lets h17) rfl hl.1 rfl ⟨(Nat.le_of_ble_eq_true rfl), (Nat.le_of_ble_eq_true rfl)⟩ ⟨Nat.zero_le _, Nat.zero_le _⟩ rfl (Nat.le_of_ble_eq_true rfl) dX9_reigns_32) (fun H locs hw => ?_)
      refine lv_if_ne (tgt := 40) C.1.1 C.1.2.1 dX9_reigns_35 (by decide) (fun c18 => ?_) (fun c18 => ?_)
      · have hf := o_f hf c18
        refine lv_aload_n C.1.1 C.1.2.1 dX9_reigns_40 rfl (lv_at hl 0 rfl) ?_
        obtain ⟨q19, h19, hf⟩ := o_bind hf
        refine aft_v hw (run_VM C hw clX9_307 (As := []) (rest := []) oM_0 (c_X9_take h19) rfl hl.1 rfl ⟨(Nat.le_of_ble_eq_true rfl), (Nat.le_of_ble_eq_true rfl)⟩ ⟨Nat.zero_le _, Nat.zero_le _⟩ rfl (Nat.le_of_ble_eq_true rfl) dX9_reigns_41) (fun H locs hw => ?_)
        refine lv_iconst (v := (0 : Int32)) C.1.1 C.1.2.1 dX9_reigns_44 rfl ?_
        refine lv_istore_n (lv' := [(3, .int (0 : Int32)), (0, .ref (gA G (41 + 0))), (1, .int x1), (2, .int x2)]) C.1.1 C.1.2.1 dX9_reigns_45 rfl hl (by decide) rfl (fun ls hl => ?_)
        refine lv_iconst (v := (0 : Int32)) C.1.1 C.1.2.1 dX9_reigns_46 rfl ?_
        refine lv_istore (lv' := [(4, .int (0 : Int32)), (3, .int (0 : Int32)), (0, .ref (gA G (41 + 0))), (1, .int x1), (2, .int x2)]) C.1.1 C.1.2.1 dX9_reigns_47 hl (by decide) rfl (fun ls hl => ?_)
        exact wL_X9_reigns_49 C hr hlk FU X q19 L x1 x2 (0 : Int32) (0 : Int32) _ _ _ hw (lv_sub hl [2, 3, 4, 1, 0] rfl) hf
      · have hf := o_t hf c18
        refine lv_iconst (v := (0 : Int32)) C.1.1 C.1.2.1 dX9_reigns_38 rfl ?_
        obtain rfl := Option.some.inj hf
        exact ret_i C hr hlk hw dX9_reigns_39
    · have hf := o_f hf c16
      refine lv_iconst (v := (1 : Int32)) C.1.1 C.1.2.1 dX9_reigns_25 rfl ?_
      refine lv_goto (tgt := 30) C.1.1 C.1.2.1 dX9_reigns_26 (by decide) ?_
      refine lv_iconst (v := (1 : Int32)) C.1.1 C.1.2.1 dX9_reigns_30 rfl ?_
      refine lv_iconst (v := (1 : Int32)) C.1.1 C.1.2.1 dX9_reigns_31 rfl ?_
      obtain ⟨q20, h20, hf⟩ := o_bind hf
      refine aft_i hw (run_VM C hw clX9_200 (As := [.int (1 : Int32), .int (1 : Int32), .int (1 : Int32)]) (rest := []) oM_0 (c_X9_lets h20) rfl hl.1 rfl ⟨(Nat.le_of_ble_eq_true rfl), (Nat.le_of_ble_eq_true rfl)⟩ ⟨Nat.zero_le _, Nat.zero_le _⟩ rfl (Nat.le_of_ble_eq_true rfl) dX9_reigns_32) (fun H locs hw => ?_)
      refine lv_if_ne (tgt := 40) C.1.1 C.1.2.1 dX9_reigns_35 (by decide) (fun c21 => ?_) (fun c21 => ?_)
      · have hf := o_f hf c21
        refine lv_aload_n C.1.1 C.1.2.1 dX9_reigns_40 rfl (lv_at hl 0 rfl) ?_
        obtain ⟨q22, h22, hf⟩ := o_bind hf
        refine aft_v hw (run_VM C hw clX9_307 (As := []) (rest := []) oM_0 (c_X9_take h22) rfl hl.1 rfl ⟨(Nat.le_of_ble_eq_true rfl), (Nat.le_of_ble_eq_true rfl)⟩ ⟨Nat.zero_le _, Nat.zero_le _⟩ rfl (Nat.le_of_ble_eq_true rfl) dX9_reigns_41) (fun H locs hw => ?_)
        refine lv_iconst (v := (0 : Int32)) C.1.1 C.1.2.1 dX9_reigns_44 rfl ?_
        refine lv_istore_n (lv' := [(3, .int (0 : Int32)), (0, .ref (gA G (41 + 0))), (1, .int x1), (2, .int x2)]) C.1.1 C.1.2.1 dX9_reigns_45 rfl hl (by decide) rfl (fun ls hl => ?_)
        refine lv_iconst (v := (0 : Int32)) C.1.1 C.1.2.1 dX9_reigns_46 rfl ?_
        refine lv_istore (lv' := [(4, .int (0 : Int32)), (3, .int (0 : Int32)), (0, .ref (gA G (41 + 0))), (1, .int x1), (2, .int x2)]) C.1.1 C.1.2.1 dX9_reigns_47 hl (by decide) rfl (fun ls hl => ?_)
        exact wL_X9_reigns_49 C hr hlk FU X q22 L x1 x2 (0 : Int32) (0 : Int32) _ _ _ hw (lv_sub hl [2, 3, 4, 1, 0] rfl) hf
      · have hf := o_t hf c21
        refine lv_iconst (v := (0 : Int32)) C.1.1 C.1.2.1 dX9_reigns_38 rfl ?_
        obtain rfl := Option.some.inj hf
        exact ret_i C hr hlk hw dX9_reigns_39
end
/-! WinnerDrawsModel.areAlike(II)Z (('o', 'M', 0) ('i',) ('i',)) -/
def L_X9_areAlike_2 : Nat → TX → Int32 → Int32 → Int32 → Option (Int32)
  | 0 => fun _ _ _ _ => none
  | n + 1 => fun M x1 x2 x3 => if (32 : Int32) ≤ x3 then (some (1 : Int32)) else (if inb (((32 : Int32) * x1) + x3) 1952 = true then (if inb (((32 : Int32) * x2) + x3) 1952 = true then (if (M 22 (Int32.toNatClampNeg (((32 : Int32) * x1) + x3))) = (M 22 (Int32.toNatClampNeg (((32 : Int32) * x2) + x3))) then ((L_X9_areAlike_2 n) M x1 x2 (x3 + (1 : Int32))) else (some (0 : Int32))) else none) else none)
def f_X9_areAlike (M : TX) (x1 : Int32) (x2 : Int32) : Option (Int32) := L_X9_areAlike_2 FU M x1 x2 (0 : Int32)
section
variable {G : GP} {l : Launch}
set_option maxRecDepth 20000 in
set_option maxHeartbeats 2000000 in
theorem wL_X9_areAlike_2 {p : Program} {e : Env} {s : State} {m : MethodId} {args : Array Value} {below : List Frame} {meth : Method} {c : Code} (C : Cx G p s m args c cX9_areAlike 4 RX9) (hr : meth.sig.returnType = (some .boolean)) (hlk : meth.locks = false) {ro : Int32} : ∀ (n : Nat), ∀ (X : TX) (M : TX) (L : TL) (x1 : Int32) (x2 : Int32) (x3 : Int32) (H : Heap) (locs : List Loc) (ls : Array Slot), Wh G s X M L H locs → lv_has ls 4 [(0, .ref (gA G (41 + 0))), (1, .int x1), (2, .int x2), (3, .int x3)] → L_X9_areAlike_2 n M x1 x2 x3 = some ro → W p l e (rz 0 0) s m args below meth c H locs 0 0 (MQ below (Di G X M L ro) args s 0 0 (AB G)) (F0 m 2 ls []) := by
  intro n
  induction n with
  | zero =>
    intro X M L x1 x2 x3 H locs ls hw hl hf
    cases hf
  | succ n hk_2 =>
    intro X M L x1 x2 x3 H locs ls hw hl hf
    rw [L_X9_areAlike_2] at hf
    refine lv_iload_n C.1.1 C.1.2.1 dX9_areAlike_2 rfl (lv_at hl 3 rfl) ?_
    refine lv_bipush (v := (32 : Int32)) C.1.1 C.1.2.1 dX9_areAlike_3 rfl ?_
    refine lv_icmp_ge (tgt := 41) C.1.1 C.1.2.1 dX9_areAlike_5 (by decide) (fun c1 => ?_) (fun c1 => ?_)
    · have hf := o_t hf c1
      refine lv_iconst (v := (1 : Int32)) C.1.1 C.1.2.1 dX9_areAlike_41 rfl ?_
      obtain rfl := Option.some.inj hf
      exact ret_z (r := (1 : Int32)) C hr hlk hw rfl dX9_areAlike_42
    · have hf := o_f hf c1
      refine lv_aload_n C.1.1 C.1.2.1 dX9_areAlike_8 rfl (lv_at hl 0 rfl) ?_
      refine m_ref C hw fM_0_44 flX9_80 dX9_areAlike_9 ?_
      refine lv_bipush (v := (32 : Int32)) C.1.1 C.1.2.1 dX9_areAlike_12 rfl ?_
      refine lv_iload_n C.1.1 C.1.2.1 dX9_areAlike_14 rfl (lv_at hl 1 rfl) ?_
      refine lv_imul C.1.1 C.1.2.1 dX9_areAlike_15 ?_
      refine lv_iload_n C.1.1 C.1.2.1 dX9_areAlike_16 rfl (lv_at hl 3 rfl) ?_
      refine lv_iadd C.1.1 C.1.2.1 dX9_areAlike_17 ?_
      have g2 := inb_in (o_g hf).1
      have hf := (o_g hf).2
      refine m_ald C hw aM_22 g2 dX9_areAlike_18 ?_
      refine lv_aload_n C.1.1 C.1.2.1 dX9_areAlike_19 rfl (lv_at hl 0 rfl) ?_
      refine m_ref C hw fM_0_44 flX9_80 dX9_areAlike_20 ?_
      refine lv_bipush (v := (32 : Int32)) C.1.1 C.1.2.1 dX9_areAlike_23 rfl ?_
      refine lv_iload_n C.1.1 C.1.2.1 dX9_areAlike_25 rfl (lv_at hl 2 rfl) ?_
      refine lv_imul C.1.1 C.1.2.1 dX9_areAlike_26 ?_
      refine lv_iload_n C.1.1 C.1.2.1 dX9_areAlike_27 rfl (lv_at hl 3 rfl) ?_
      refine lv_iadd C.1.1 C.1.2.1 dX9_areAlike_28 ?_
      have g3 := inb_in (o_g hf).1
      have hf := (o_g hf).2
      refine m_ald C hw aM_22 g3 dX9_areAlike_29 ?_
      refine lv_icmp_eq (tgt := 35) C.1.1 C.1.2.1 dX9_areAlike_30 (by decide) (fun c4 => ?_) (fun c4 => ?_)
      · have hf := o_t hf c4
        refine lv_iinc (v := (x3 + (1 : Int32))) (lv' := [(3, .int (x3 + (1 : Int32))), (0, .ref (gA G (41 + 0))), (1, .int x1), (2, .int x2)]) C.1.1 C.1.2.1 dX9_areAlike_35 hl (k := 3) rfl rfl (by decide) rfl (fun ls hl => ?_)
        refine lv_goto (tgt := 2) C.1.1 C.1.2.1 dX9_areAlike_38 (by decide) ?_
        exact hk_2 X M L x1 x2 (x3 + (1 : Int32)) _ _ _ hw (lv_sub hl [1, 2, 3, 0] rfl) hf
      · have hf := o_f hf c4
        refine lv_iconst (v := (0 : Int32)) C.1.1 C.1.2.1 dX9_areAlike_33 rfl ?_
        obtain rfl := Option.some.inj hf
        exact ret_z (r := (0 : Int32)) C hr hlk hw rfl dX9_areAlike_34
set_option maxRecDepth 20000 in
set_option maxHeartbeats 2000000 in
theorem c_X9_areAlike   {X M : TX} {L : TL} {x1 : Int32} {x2 : Int32} {ro : Int32} (hf : f_X9_areAlike M x1 x2 = some ro) : CTi G l yX9_areAlike cX9_areAlike 4 (some .boolean) 0 0 [.ref (gA G (41 + 0)), .int x1, .int x2] X M L X M L ro := by
  unfold f_X9_areAlike at hf
  refine ct_of (by decide +kernel) (Nat.le_of_ble_eq_true rfl) (fun p e s m args below meth c H locs ls C hr hlk hw hl => ?_)
  have C : Cx G p s m args c cX9_areAlike 4 RX9 := C
  have hl : lv_has ls 4 [(0, .ref (gA G (41 + 0))), (1, .int x1), (2, .int x2)] := hl
  refine lv_iconst (v := (0 : Int32)) C.1.1 C.1.2.1 dX9_areAlike_0 rfl ?_
  refine lv_istore_n (lv' := [(3, .int (0 : Int32)), (0, .ref (gA G (41 + 0))), (1, .int x1), (2, .int x2)]) C.1.1 C.1.2.1 dX9_areAlike_1 rfl hl (by decide) rfl (fun ls hl => ?_)
  exact wL_X9_areAlike_2 C hr hlk FU X M L x1 x2 (0 : Int32) _ _ _ hw (lv_sub hl [1, 2, 3, 0] rfl) hf
end
/-! WinnerDrawsModel.round(I)I (('o', 'M', 0) ('i',)) -/
def L_X9_round_127 (k_119 : TX → Int32 → Int32 → Option (TX × Int32)) : Nat → TX → Int32 → Int32 → Int32 → Option (TX × Int32)
  | 0 => fun _ _ _ _ => none
  | n + 1 => fun M x1 x2 x3 => if (60 : Int32) < (x2 + x3) then (k_119 M x1 (x2 + (1 : Int32))) else ((f_X9_areAlike M x2 (x2 + x3)).bind fun q8 => if q8 = 0 then ((L_X9_round_127 k_119 n) M x1 x2 (x3 + (1 : Int32))) else (if x1 = 0 then (some (M, x2)) else (some (M, x3))))
def L_X9_round_119 : Nat → TX → Int32 → Int32 → Option (TX × Int32)
  | 0 => fun _ _ _ => none
  | n + 1 => fun M x1 x2 => if (60 : Int32) ≤ x2 then (some (M, (-1 : Int32))) else (L_X9_round_127 (L_X9_round_119 n) FU M x1 x2 (1 : Int32))
def L_X9_round_36 (k_28 : TX → Int32 → Int32 → Option (TX × Int32)) : Nat → TX → Int32 → Int32 → Int32 → Option (TX × Int32)
  | 0 => fun _ _ _ _ => none
  | n + 1 => fun M x1 x2 x3 => if (30 : Int32) < x3 then (if (M 0 20) = 0 then (if inb ((((32 : Int32) * x2) + (30 : Int32)) + (1 : Int32)) 1952 = true then ((f_X9_votes (u2 M 22 (Int32.toNatClampNeg ((((32 : Int32) * x2) + (30 : Int32)) + (1 : Int32))) (0 : Int32))).bind fun q19 => (f_X9_isDrawn q19).bind fun q20 => k_28 q20.1 x1 (x2 + (1 : Int32))) else none) else (if inb (32 : Int32) 34 = true then (if (M 0 20) = 0 then none else (if inb ((((32 : Int32) * x2) + (30 : Int32)) + (1 : Int32)) 1952 = true then ((f_X9_votes (u2 M 22 (Int32.toNatClampNeg ((((32 : Int32) * x2) + (30 : Int32)) + (1 : Int32))) ((M 20 (Int32.toNatClampNeg (32 : Int32))) - (M 20 (Int32.toNatClampNeg (32 : Int32))) / (M 0 20) * (M 0 20)))).bind fun q16 => (f_X9_isDrawn q16).bind fun q17 => k_28 q17.1 x1 (x2 + (1 : Int32))) else none)) else none)) else (if inb x3 34 = true then (if inb (((32 : Int32) * x2) + x3) 1952 = true then ((L_X9_round_36 k_28 n) (u2 M 22 (Int32.toNatClampNeg (((32 : Int32) * x2) + x3)) (M 20 (Int32.toNatClampNeg x3))) x1 x2 (x3 + (1 : Int32))) else none) else none)
def L_X9_round_28 : Nat → TX → Int32 → Int32 → Option (TX × Int32)
  | 0 => fun _ _ _ => none
  | n + 1 => fun M x1 x2 => if (60 : Int32) < x2 then (L_X9_round_119 FU M x1 (0 : Int32)) else (L_X9_round_36 (L_X9_round_28 n) FU M x1 x2 (0 : Int32))
def f_X9_round (M : TX) (x1 : Int32) : Option (TX × Int32) := (f_X9_within x1 (0 : Int32) (1 : Int32)).bind fun q1 => (f_X9_lets (u2 M 0 0 (0 : Int32)) q1 (1 : Int32) (1 : Int32)).bind fun q2 => if q2.2 = 0 then (some (q2.1, (0 : Int32))) else ((f_X9_take q2.1).bind fun q4 => L_X9_round_28 FU q4 x1 (0 : Int32))
section
variable {G : GP} {l : Launch}
set_option maxRecDepth 20000 in
set_option maxHeartbeats 2000000 in
theorem wL_X9_round_127 {p : Program} {e : Env} {s : State} {m : MethodId} {args : Array Value} {below : List Frame} {meth : Method} {c : Code} (C : Cx G p s m args c cX9_round 4 RX9) (hr : meth.sig.returnType = (some .int)) (hlk : meth.locks = false) {ro : TX × Int32} {k_119 : TX → Int32 → Int32 → Option (TX × Int32)} (hk_119 : ∀ (X : TX) (M : TX) (L : TL) (x1 : Int32) (x2 : Int32) (H : Heap) (locs : List Loc) (ls : Array Slot), Wh G s X M L H locs → lv_has ls 4 [(0, .ref (gA G (41 + 0))), (1, .int x1), (2, .int x2)] → k_119 M x1 x2 = some ro → W p l e (rz 7 168) s m args below meth c H locs 0 0 (MQ below (Di G X ro.1 L ro.2) args s 0 0 (AB G)) (F0 m 119 ls [])) : ∀ (n : Nat), ∀ (X : TX) (M : TX) (L : TL) (x1 : Int32) (x2 : Int32) (x3 : Int32) (H : Heap) (locs : List Loc) (ls : Array Slot), Wh G s X M L H locs → lv_has ls 4 [(0, .ref (gA G (41 + 0))), (1, .int x1), (2, .int x2), (3, .int x3)] → L_X9_round_127 k_119 n M x1 x2 x3 = some ro → W p l e (rz 7 168) s m args below meth c H locs 0 0 (MQ below (Di G X ro.1 L ro.2) args s 0 0 (AB G)) (F0 m 127 ls []) := by
  intro n
  induction n with
  | zero =>
    intro X M L x1 x2 x3 H locs ls hw hl hf
    cases hf
  | succ n hk_127 =>
    intro X M L x1 x2 x3 H locs ls hw hl hf
    rw [L_X9_round_127] at hf
    refine lv_iload_n C.1.1 C.1.2.1 dX9_round_127 rfl (lv_at hl 2 rfl) ?_
    refine lv_iload_n C.1.1 C.1.2.1 dX9_round_128 rfl (lv_at hl 3 rfl) ?_
    refine lv_iadd C.1.1 C.1.2.1 dX9_round_129 ?_
    refine lv_bipush (v := (60 : Int32)) C.1.1 C.1.2.1 dX9_round_130 rfl ?_
    refine lv_icmp_gt (tgt := 162) C.1.1 C.1.2.1 dX9_round_132 (by decide) (fun c7 => ?_) (fun c7 => ?_)
    · have hf := o_t hf c7
      refine lv_iinc (v := (x2 + (1 : Int32))) (lv' := [(2, .int (x2 + (1 : Int32))), (0, .ref (gA G (41 + 0))), (1, .int x1), (3, .int x3)]) C.1.1 C.1.2.1 dX9_round_162 hl (k := 2) rfl rfl (by decide) rfl (fun ls hl => ?_)
      refine lv_goto (tgt := 119) C.1.1 C.1.2.1 dX9_round_165 (by decide) ?_
      exact hk_119 X M L x1 (x2 + (1 : Int32)) _ _ _ hw (lv_sub hl [1, 2, 0] rfl) hf
    · have hf := o_f hf c7
      refine lv_aload_n C.1.1 C.1.2.1 dX9_round_135 rfl (lv_at hl 0 rfl) ?_
      refine lv_iload_n C.1.1 C.1.2.1 dX9_round_136 rfl (lv_at hl 2 rfl) ?_
      refine lv_iload_n C.1.1 C.1.2.1 dX9_round_137 rfl (lv_at hl 2 rfl) ?_
      refine lv_iload_n C.1.1 C.1.2.1 dX9_round_138 rfl (lv_at hl 3 rfl) ?_
      refine lv_iadd C.1.1 C.1.2.1 dX9_round_139 ?_
      obtain ⟨q8, h8, hf⟩ := o_bind hf
      refine aft_i hw (run_VM C hw clX9_398 (As := [.int x2, .int (x2 + x3)]) (rest := []) oM_0 (c_X9_areAlike h8) rfl hl.1 rfl ⟨(Nat.le_of_ble_eq_true rfl), (Nat.le_of_ble_eq_true rfl)⟩ ⟨Nat.zero_le _, Nat.zero_le _⟩ rfl (Nat.le_of_ble_eq_true rfl) dX9_round_140) (fun H locs hw => ?_)
      refine lv_if_eq (tgt := 156) C.1.1 C.1.2.1 dX9_round_143 (by decide) (fun c9 => ?_) (fun c9 => ?_)
      · have hf := o_t hf c9
        refine lv_iinc (v := (x3 + (1 : Int32))) (lv' := [(3, .int (x3 + (1 : Int32))), (0, .ref (gA G (41 + 0))), (1, .int x1), (2, .int x2)]) C.1.1 C.1.2.1 dX9_round_156 hl (k := 3) rfl rfl (by decide) rfl (fun ls hl => ?_)
        refine lv_goto (tgt := 127) C.1.1 C.1.2.1 dX9_round_159 (by decide) ?_
        exact hk_127 X M L x1 x2 (x3 + (1 : Int32)) _ _ _ hw (lv_sub hl [1, 2, 3, 0] rfl) hf
      · have hf := o_f hf c9
        refine lv_iload_n C.1.1 C.1.2.1 dX9_round_146 rfl (lv_at hl 1 rfl) ?_
        refine lv_if_ne (tgt := 154) C.1.1 C.1.2.1 dX9_round_147 (by decide) (fun c10 => ?_) (fun c10 => ?_)
        · have hf := o_f hf c10
          refine lv_iload_n C.1.1 C.1.2.1 dX9_round_154 rfl (lv_at hl 3 rfl) ?_
          obtain rfl := Option.some.inj hf
          exact ret_i C hr hlk hw dX9_round_155
        · have hf := o_t hf c10
          refine lv_iload_n C.1.1 C.1.2.1 dX9_round_150 rfl (lv_at hl 2 rfl) ?_
          refine lv_goto (tgt := 155) C.1.1 C.1.2.1 dX9_round_151 (by decide) ?_
          obtain rfl := Option.some.inj hf
          exact ret_i C hr hlk hw dX9_round_155
set_option maxRecDepth 20000 in
set_option maxHeartbeats 2000000 in
theorem wL_X9_round_119 {p : Program} {e : Env} {s : State} {m : MethodId} {args : Array Value} {below : List Frame} {meth : Method} {c : Code} (C : Cx G p s m args c cX9_round 4 RX9) (hr : meth.sig.returnType = (some .int)) (hlk : meth.locks = false) {ro : TX × Int32} : ∀ (n : Nat), ∀ (X : TX) (M : TX) (L : TL) (x1 : Int32) (x2 : Int32) (H : Heap) (locs : List Loc) (ls : Array Slot), Wh G s X M L H locs → lv_has ls 4 [(0, .ref (gA G (41 + 0))), (1, .int x1), (2, .int x2)] → L_X9_round_119 n M x1 x2 = some ro → W p l e (rz 7 168) s m args below meth c H locs 0 0 (MQ below (Di G X ro.1 L ro.2) args s 0 0 (AB G)) (F0 m 119 ls []) := by
  intro n
  induction n with
  | zero =>
    intro X M L x1 x2 H locs ls hw hl hf
    cases hf
  | succ n hk_119 =>
    intro X M L x1 x2 H locs ls hw hl hf
    rw [L_X9_round_119] at hf
    refine lv_iload_n C.1.1 C.1.2.1 dX9_round_119 rfl (lv_at hl 2 rfl) ?_
    refine lv_bipush (v := (60 : Int32)) C.1.1 C.1.2.1 dX9_round_120 rfl ?_
    refine lv_icmp_ge (tgt := 168) C.1.1 C.1.2.1 dX9_round_122 (by decide) (fun c6 => ?_) (fun c6 => ?_)
    · have hf := o_t hf c6
      refine lv_iconst (v := (-1 : Int32)) C.1.1 C.1.2.1 dX9_round_168 rfl ?_
      obtain rfl := Option.some.inj hf
      exact ret_i C hr hlk hw dX9_round_169
    · have hf := o_f hf c6
      refine lv_iconst (v := (1 : Int32)) C.1.1 C.1.2.1 dX9_round_125 rfl ?_
      refine lv_istore_n (lv' := [(3, .int (1 : Int32)), (0, .ref (gA G (41 + 0))), (1, .int x1), (2, .int x2)]) C.1.1 C.1.2.1 dX9_round_126 rfl hl (by decide) rfl (fun ls hl => ?_)
      exact wL_X9_round_127 C hr hlk hk_119 FU X M L x1 x2 (1 : Int32) _ _ _ hw (lv_sub hl [1, 2, 3, 0] rfl) hf
set_option maxRecDepth 20000 in
set_option maxHeartbeats 2000000 in
theorem wL_X9_round_36 {p : Program} {e : Env} {s : State} {m : MethodId} {args : Array Value} {below : List Frame} {meth : Method} {c : Code} (C : Cx G p s m args c cX9_round 4 RX9) (hr : meth.sig.returnType = (some .int)) (hlk : meth.locks = false) {ro : TX × Int32} {k_28 : TX → Int32 → Int32 → Option (TX × Int32)} (hk_28 : ∀ (X : TX) (M : TX) (L : TL) (x1 : Int32) (x2 : Int32) (H : Heap) (locs : List Loc) (ls : Array Slot), Wh G s X M L H locs → lv_has ls 4 [(0, .ref (gA G (41 + 0))), (1, .int x1), (2, .int x2)] → k_28 M x1 x2 = some ro → W p l e (rz 7 168) s m args below meth c H locs 0 0 (MQ below (Di G X ro.1 L ro.2) args s 0 0 (AB G)) (F0 m 28 ls [])) : ∀ (n : Nat), ∀ (X : TX) (M : TX) (L : TL) (x1 : Int32) (x2 : Int32) (x3 : Int32) (H : Heap) (locs : List Loc) (ls : Array Slot), Wh G s X M L H locs → lv_has ls 4 [(0, .ref (gA G (41 + 0))), (1, .int x1), (2, .int x2), (3, .int x3)] → L_X9_round_36 k_28 n M x1 x2 x3 = some ro → W p l e (rz 7 168) s m args below meth c H locs 0 0 (MQ below (Di G X ro.1 L ro.2) args s 0 0 (AB G)) (F0 m 36 ls []) := by
  intro n
  induction n with
  | zero =>
    intro X M L x1 x2 x3 H locs ls hw hl hf
    cases hf
  | succ n hk_36 =>
    intro X M L x1 x2 x3 H locs ls hw hl hf
    rw [L_X9_round_36] at hf
    refine lv_iload_n C.1.1 C.1.2.1 dX9_round_36 rfl (lv_at hl 3 rfl) ?_
    refine lv_bipush (v := (30 : Int32)) C.1.1 C.1.2.1 dX9_round_37 rfl ?_
    refine lv_icmp_gt (tgt := 65) C.1.1 C.1.2.1 dX9_round_39 (by decide) (fun c11 => ?_) (fun c11 => ?_)
    · have hf := o_t hf c11
      refine lv_aload_n C.1.1 C.1.2.1 dX9_round_65 rfl (lv_at hl 0 rfl) ?_
      refine m_ref C hw fM_0_44 flX9_80 dX9_round_66 ?_
      refine lv_bipush (v := (32 : Int32)) C.1.1 C.1.2.1 dX9_round_69 rfl ?_
      refine lv_iload_n C.1.1 C.1.2.1 dX9_round_71 rfl (lv_at hl 2 rfl) ?_
      refine lv_imul C.1.1 C.1.2.1 dX9_round_72 ?_
      refine lv_bipush (v := (30 : Int32)) C.1.1 C.1.2.1 dX9_round_73 rfl ?_
      refine lv_iadd C.1.1 C.1.2.1 dX9_round_75 ?_
      refine lv_iconst (v := (1 : Int32)) C.1.1 C.1.2.1 dX9_round_76 rfl ?_
      refine lv_iadd C.1.1 C.1.2.1 dX9_round_77 ?_
      refine lv_aload_n C.1.1 C.1.2.1 dX9_round_78 rfl (lv_at hl 0 rfl) ?_
      refine m_get C hw iM_0_20 flX9_160 dX9_round_79 ?_
      refine lv_if_ne (tgt := 89) C.1.1 C.1.2.1 dX9_round_82 (by decide) (fun c12 => ?_) (fun c12 => ?_)
      · have hf := o_f hf c12
        refine lv_aload_n C.1.1 C.1.2.1 dX9_round_89 rfl (lv_at hl 0 rfl) ?_
        refine m_ref C hw fM_0_42 flX9_74 dX9_round_90 ?_
        refine lv_bipush (v := (32 : Int32)) C.1.1 C.1.2.1 dX9_round_93 rfl ?_
        have g13 := inb_in (o_g hf).1
        have hf := (o_g hf).2
        refine m_ald C hw aM_20 g13 dX9_round_95 ?_
        refine lv_aload_n C.1.1 C.1.2.1 dX9_round_96 rfl (lv_at hl 0 rfl) ?_
        refine m_get C hw iM_0_20 flX9_160 dX9_round_97 ?_
        have g14 := o_n1 hf
        have hf := o_n2 hf
        refine lv_irem C.1.1 C.1.2.1 dX9_round_100 g14 ?_
        have g15 := inb_in (o_g hf).1
        have hf := (o_g hf).2
        refine m_ast C hw aM_22 g15 dX9_round_101 (fun H locs hw => ?_)
        refine lv_aload_n C.1.1 C.1.2.1 dX9_round_102 rfl (lv_at hl 0 rfl) ?_
        obtain ⟨q16, h16, hf⟩ := o_bind hf
        refine aft_v hw (run_VM C hw clX9_382 (As := []) (rest := []) oM_0 (c_X9_votes h16) rfl hl.1 rfl ⟨(Nat.le_of_ble_eq_true rfl), (Nat.le_of_ble_eq_true rfl)⟩ ⟨Nat.zero_le _, Nat.zero_le _⟩ rfl (Nat.le_of_ble_eq_true rfl) dX9_round_103) (fun H locs hw => ?_)
        refine lv_aload_n C.1.1 C.1.2.1 dX9_round_106 rfl (lv_at hl 0 rfl) ?_
        obtain ⟨q17, h17, hf⟩ := o_bind hf
        refine aft_i hw (run_VM C hw clX9_379 (As := []) (rest := []) oM_0 (c_X9_isDrawn h17) rfl hl.1 rfl ⟨(Nat.le_of_ble_eq_true rfl), (Nat.le_of_ble_eq_true rfl)⟩ ⟨Nat.zero_le _, Nat.zero_le _⟩ rfl (Nat.le_of_ble_eq_true rfl) dX9_round_107) (fun H locs hw => ?_)
        refine lv_pop C.1.1 C.1.2.1 dX9_round_110 rfl ?_
        refine lv_iinc (v := (x2 + (1 : Int32))) (lv' := [(2, .int (x2 + (1 : Int32))), (0, .ref (gA G (41 + 0))), (1, .int x1), (3, .int x3)]) C.1.1 C.1.2.1 dX9_round_111 hl (k := 2) rfl rfl (by decide) rfl (fun ls hl => ?_)
        refine lv_goto (tgt := 28) C.1.1 C.1.2.1 dX9_round_114 (by decide) ?_
        exact hk_28 X q17.1 L x1 (x2 + (1 : Int32)) _ _ _ hw (lv_sub hl [1, 2, 0] rfl) hf
      · have hf := o_t hf c12
        refine lv_iconst (v := (0 : Int32)) C.1.1 C.1.2.1 dX9_round_85 rfl ?_
        refine lv_goto (tgt := 101) C.1.1 C.1.2.1 dX9_round_86 (by decide) ?_
        have g18 := inb_in (o_g hf).1
        have hf := (o_g hf).2
        refine m_ast C hw aM_22 g18 dX9_round_101 (fun H locs hw => ?_)
        refine lv_aload_n C.1.1 C.1.2.1 dX9_round_102 rfl (lv_at hl 0 rfl) ?_
        obtain ⟨q19, h19, hf⟩ := o_bind hf
        refine aft_v hw (run_VM C hw clX9_382 (As := []) (rest := []) oM_0 (c_X9_votes h19) rfl hl.1 rfl ⟨(Nat.le_of_ble_eq_true rfl), (Nat.le_of_ble_eq_true rfl)⟩ ⟨Nat.zero_le _, Nat.zero_le _⟩ rfl (Nat.le_of_ble_eq_true rfl) dX9_round_103) (fun H locs hw => ?_)
        refine lv_aload_n C.1.1 C.1.2.1 dX9_round_106 rfl (lv_at hl 0 rfl) ?_
        obtain ⟨q20, h20, hf⟩ := o_bind hf
        refine aft_i hw (run_VM C hw clX9_379 (As := []) (rest := []) oM_0 (c_X9_isDrawn h20) rfl hl.1 rfl ⟨(Nat.le_of_ble_eq_true rfl), (Nat.le_of_ble_eq_true rfl)⟩ ⟨Nat.zero_le _, Nat.zero_le _⟩ rfl (Nat.le_of_ble_eq_true rfl) dX9_round_107) (fun H locs hw => ?_)
        refine lv_pop C.1.1 C.1.2.1 dX9_round_110 rfl ?_
        refine lv_iinc (v := (x2 + (1 : Int32))) (lv' := [(2, .int (x2 + (1 : Int32))), (0, .ref (gA G (41 + 0))), (1, .int x1), (3, .int x3)]) C.1.1 C.1.2.1 dX9_round_111 hl (k := 2) rfl rfl (by decide) rfl (fun ls hl => ?_)
        refine lv_goto (tgt := 28) C.1.1 C.1.2.1 dX9_round_114 (by decide) ?_
        exact hk_28 X q20.1 L x1 (x2 + (1 : Int32)) _ _ _ hw (lv_sub hl [1, 2, 0] rfl) hf
    · have hf := o_f hf c11
      refine lv_aload_n C.1.1 C.1.2.1 dX9_round_42 rfl (lv_at hl 0 rfl) ?_
      refine m_ref C hw fM_0_44 flX9_80 dX9_round_43 ?_
      refine lv_bipush (v := (32 : Int32)) C.1.1 C.1.2.1 dX9_round_46 rfl ?_
      refine lv_iload_n C.1.1 C.1.2.1 dX9_round_48 rfl (lv_at hl 2 rfl) ?_
      refine lv_imul C.1.1 C.1.2.1 dX9_round_49 ?_
      refine lv_iload_n C.1.1 C.1.2.1 dX9_round_50 rfl (lv_at hl 3 rfl) ?_
      refine lv_iadd C.1.1 C.1.2.1 dX9_round_51 ?_
      refine lv_aload_n C.1.1 C.1.2.1 dX9_round_52 rfl (lv_at hl 0 rfl) ?_
      refine m_ref C hw fM_0_42 flX9_74 dX9_round_53 ?_
      refine lv_iload_n C.1.1 C.1.2.1 dX9_round_56 rfl (lv_at hl 3 rfl) ?_
      have g21 := inb_in (o_g hf).1
      have hf := (o_g hf).2
      refine m_ald C hw aM_20 g21 dX9_round_57 ?_
      have g22 := inb_in (o_g hf).1
      have hf := (o_g hf).2
      refine m_ast C hw aM_22 g22 dX9_round_58 (fun H locs hw => ?_)
      refine lv_iinc (v := (x3 + (1 : Int32))) (lv' := [(3, .int (x3 + (1 : Int32))), (0, .ref (gA G (41 + 0))), (1, .int x1), (2, .int x2)]) C.1.1 C.1.2.1 dX9_round_59 hl (k := 3) rfl rfl (by decide) rfl (fun ls hl => ?_)
      refine lv_goto (tgt := 36) C.1.1 C.1.2.1 dX9_round_62 (by decide) ?_
      exact hk_36 X (u2 M 22 (Int32.toNatClampNeg (((32 : Int32) * x2) + x3)) (M 20 (Int32.toNatClampNeg x3))) L x1 x2 (x3 + (1 : Int32)) _ _ _ hw (lv_sub hl [1, 2, 3, 0] rfl) hf
set_option maxRecDepth 20000 in
set_option maxHeartbeats 2000000 in
theorem wL_X9_round_28 {p : Program} {e : Env} {s : State} {m : MethodId} {args : Array Value} {below : List Frame} {meth : Method} {c : Code} (C : Cx G p s m args c cX9_round 4 RX9) (hr : meth.sig.returnType = (some .int)) (hlk : meth.locks = false) {ro : TX × Int32} : ∀ (n : Nat), ∀ (X : TX) (M : TX) (L : TL) (x1 : Int32) (x2 : Int32) (H : Heap) (locs : List Loc) (ls : Array Slot), Wh G s X M L H locs → lv_has ls 4 [(0, .ref (gA G (41 + 0))), (1, .int x1), (2, .int x2)] → L_X9_round_28 n M x1 x2 = some ro → W p l e (rz 7 168) s m args below meth c H locs 0 0 (MQ below (Di G X ro.1 L ro.2) args s 0 0 (AB G)) (F0 m 28 ls []) := by
  intro n
  induction n with
  | zero =>
    intro X M L x1 x2 H locs ls hw hl hf
    cases hf
  | succ n hk_28 =>
    intro X M L x1 x2 H locs ls hw hl hf
    rw [L_X9_round_28] at hf
    refine lv_iload_n C.1.1 C.1.2.1 dX9_round_28 rfl (lv_at hl 2 rfl) ?_
    refine lv_bipush (v := (60 : Int32)) C.1.1 C.1.2.1 dX9_round_29 rfl ?_
    refine lv_icmp_gt (tgt := 117) C.1.1 C.1.2.1 dX9_round_31 (by decide) (fun c5 => ?_) (fun c5 => ?_)
    · have hf := o_t hf c5
      refine lv_iconst (v := (0 : Int32)) C.1.1 C.1.2.1 dX9_round_117 rfl ?_
      refine lv_istore_n (lv' := [(2, .int (0 : Int32)), (0, .ref (gA G (41 + 0))), (1, .int x1)]) C.1.1 C.1.2.1 dX9_round_118 rfl hl (by decide) rfl (fun ls hl => ?_)
      exact wL_X9_round_119 C hr hlk FU X M L x1 (0 : Int32) _ _ _ hw (lv_sub hl [1, 2, 0] rfl) hf
    · have hf := o_f hf c5
      refine lv_iconst (v := (0 : Int32)) C.1.1 C.1.2.1 dX9_round_34 rfl ?_
      refine lv_istore_n (lv' := [(3, .int (0 : Int32)), (0, .ref (gA G (41 + 0))), (1, .int x1), (2, .int x2)]) C.1.1 C.1.2.1 dX9_round_35 rfl hl (by decide) rfl (fun ls hl => ?_)
      exact wL_X9_round_36 C hr hlk hk_28 FU X M L x1 x2 (0 : Int32) _ _ _ hw (lv_sub hl [1, 2, 3, 0] rfl) hf
set_option maxRecDepth 20000 in
set_option maxHeartbeats 2000000 in
theorem c_X9_round   {X M : TX} {L : TL} {x1 : Int32} {ro : TX × Int32} (hf : f_X9_round M x1 = some ro) : CTi G l yX9_round cX9_round 4 (some .int) 7 168 [.ref (gA G (41 + 0)), .int x1] X M L X ro.1 L ro.2 := by
  unfold f_X9_round at hf
  refine ct_of (by decide +kernel) (Nat.le_of_ble_eq_true rfl) (fun p e s m args below meth c H locs ls C hr hlk hw hl => ?_)
  have C : Cx G p s m args c cX9_round 4 RX9 := C
  have hl : lv_has ls 4 [(0, .ref (gA G (41 + 0))), (1, .int x1)] := hl
  refine lv_aload_n C.1.1 C.1.2.1 dX9_round_0 rfl (lv_at hl 0 rfl) ?_
  refine lv_iconst (v := (0 : Int32)) C.1.1 C.1.2.1 dX9_round_1 rfl ?_
  refine m_put C hw iM_0_0 flX9_3 dX9_round_2 (fun H locs hw => ?_)
  refine lv_aload_n C.1.1 C.1.2.1 dX9_round_5 rfl (lv_at hl 0 rfl) ?_
  refine lv_iload_n C.1.1 C.1.2.1 dX9_round_6 rfl (lv_at hl 1 rfl) ?_
  refine lv_iconst (v := (0 : Int32)) C.1.1 C.1.2.1 dX9_round_7 rfl ?_
  refine lv_iconst (v := (1 : Int32)) C.1.1 C.1.2.1 dX9_round_8 rfl ?_
  obtain ⟨q1, h1, hf⟩ := o_bind hf
  refine aft_i hw (run_S C hw clX9_385 (As := [.int x1, .int (0 : Int32), .int (1 : Int32)]) (rest := [.ref (gA G (41 + 0))]) (c_X9_within h1) hl.1 rfl ⟨(Nat.le_of_ble_eq_true rfl), (Nat.le_of_ble_eq_true rfl)⟩ ⟨Nat.zero_le _, Nat.zero_le _⟩ rfl (Nat.le_of_ble_eq_true rfl) dX9_round_9) (fun H locs hw => ?_)
  refine lv_iconst (v := (1 : Int32)) C.1.1 C.1.2.1 dX9_round_12 rfl ?_
  refine lv_iconst (v := (1 : Int32)) C.1.1 C.1.2.1 dX9_round_13 rfl ?_
  obtain ⟨q2, h2, hf⟩ := o_bind hf
  refine aft_i hw (run_VM C hw clX9_200 (As := [.int q1, .int (1 : Int32), .int (1 : Int32)]) (rest := []) oM_0 (c_X9_lets h2) rfl hl.1 rfl ⟨(Nat.le_of_ble_eq_true rfl), (Nat.le_of_ble_eq_true rfl)⟩ ⟨Nat.zero_le _, Nat.zero_le _⟩ rfl (Nat.le_of_ble_eq_true rfl) dX9_round_14) (fun H locs hw => ?_)
  refine lv_if_ne (tgt := 22) C.1.1 C.1.2.1 dX9_round_17 (by decide) (fun c3 => ?_) (fun c3 => ?_)
  · have hf := o_f hf c3
    refine lv_aload_n C.1.1 C.1.2.1 dX9_round_22 rfl (lv_at hl 0 rfl) ?_
    obtain ⟨q4, h4, hf⟩ := o_bind hf
    refine aft_v hw (run_VM C hw clX9_307 (As := []) (rest := []) oM_0 (c_X9_take h4) rfl hl.1 rfl ⟨(Nat.le_of_ble_eq_true rfl), (Nat.le_of_ble_eq_true rfl)⟩ ⟨Nat.zero_le _, Nat.zero_le _⟩ rfl (Nat.le_of_ble_eq_true rfl) dX9_round_23) (fun H locs hw => ?_)
    refine lv_iconst (v := (0 : Int32)) C.1.1 C.1.2.1 dX9_round_26 rfl ?_
    refine lv_istore_n (lv' := [(2, .int (0 : Int32)), (0, .ref (gA G (41 + 0))), (1, .int x1)]) C.1.1 C.1.2.1 dX9_round_27 rfl hl (by decide) rfl (fun ls hl => ?_)
    exact wL_X9_round_28 C hr hlk FU X q4 L x1 (0 : Int32) _ _ _ hw (lv_sub hl [1, 2, 0] rfl) hf
  · have hf := o_t hf c3
    refine lv_iconst (v := (0 : Int32)) C.1.1 C.1.2.1 dX9_round_20 rfl ?_
    obtain rfl := Option.some.inj hf
    exact ret_i C hr hlk hw dX9_round_21
end
/-! WinnerDrawsModel.swing(I)I (('o', 'M', 0) ('i',)) -/
def L_X9_swing_18 : Nat → TX → Int32 → Int32 → Option (TX × Int32)
  | 0 => fun _ _ _ => none
  | n + 1 => fun M x1 x2 => if (100 : Int32) < x2 then (some (M, (-1 : Int32))) else ((f_X9_take M).bind fun q4 => (f_X9_comesOver q4 x1 x2).bind fun q5 => (f_X9_marginOf q5 x1).bind fun q6 => if q6 ≤ 0 then ((L_X9_swing_18 n) q5 x1 (x2 + (1 : Int32))) else (some (q5, x2)))
def f_X9_swing (M : TX) (x1 : Int32) : Option (TX × Int32) := (f_X9_isThere (u2 M 0 0 (0 : Int32)) x1 (2 : Int32)).bind fun q1 => if q1.2 = 0 then (some (q1.1, (0 : Int32))) else (L_X9_swing_18 FU q1.1 x1 (0 : Int32))
section
variable {G : GP} {l : Launch}
set_option maxRecDepth 20000 in
set_option maxHeartbeats 2000000 in
theorem wL_X9_swing_18 {p : Program} {e : Env} {s : State} {m : MethodId} {args : Array Value} {below : List Frame} {meth : Method} {c : Code} (C : Cx G p s m args c cX9_swing 3 RX9) (hr : meth.sig.returnType = (some .int)) (hlk : meth.locks = false) {ro : TX × Int32} : ∀ (n : Nat), ∀ (X : TX) (M : TX) (L : TL) (x1 : Int32) (x2 : Int32) (H : Heap) (locs : List Loc) (ls : Array Slot), Wh G s X M L H locs → lv_has ls 3 [(0, .ref (gA G (41 + 0))), (1, .int x1), (2, .int x2)] → L_X9_swing_18 n M x1 x2 = some ro → W p l e (rz 5 113) s m args below meth c H locs 0 0 (MQ below (Di G X ro.1 L ro.2) args s 0 0 (AB G)) (F0 m 18 ls []) := by
  intro n
  induction n with
  | zero =>
    intro X M L x1 x2 H locs ls hw hl hf
    cases hf
  | succ n hk_18 =>
    intro X M L x1 x2 H locs ls hw hl hf
    rw [L_X9_swing_18] at hf
    refine lv_iload_n C.1.1 C.1.2.1 dX9_swing_18 rfl (lv_at hl 2 rfl) ?_
    refine lv_bipush (v := (100 : Int32)) C.1.1 C.1.2.1 dX9_swing_19 rfl ?_
    refine lv_icmp_gt (tgt := 50) C.1.1 C.1.2.1 dX9_swing_21 (by decide) (fun c3 => ?_) (fun c3 => ?_)
    · have hf := o_t hf c3
      refine lv_iconst (v := (-1 : Int32)) C.1.1 C.1.2.1 dX9_swing_50 rfl ?_
      obtain rfl := Option.some.inj hf
      exact ret_i C hr hlk hw dX9_swing_51
    · have hf := o_f hf c3
      refine lv_aload_n C.1.1 C.1.2.1 dX9_swing_24 rfl (lv_at hl 0 rfl) ?_
      obtain ⟨q4, h4, hf⟩ := o_bind hf
      refine aft_v hw (run_VM C hw clX9_307 (As := []) (rest := []) oM_0 (c_X9_take h4) rfl hl.1 rfl ⟨(Nat.le_of_ble_eq_true rfl), (Nat.le_of_ble_eq_true rfl)⟩ ⟨Nat.zero_le _, Nat.zero_le _⟩ rfl (Nat.le_of_ble_eq_true rfl) dX9_swing_25) (fun H locs hw => ?_)
      refine lv_aload_n C.1.1 C.1.2.1 dX9_swing_28 rfl (lv_at hl 0 rfl) ?_
      refine lv_iload_n C.1.1 C.1.2.1 dX9_swing_29 rfl (lv_at hl 1 rfl) ?_
      refine lv_iload_n C.1.1 C.1.2.1 dX9_swing_30 rfl (lv_at hl 2 rfl) ?_
      obtain ⟨q5, h5, hf⟩ := o_bind hf
      refine aft_v hw (run_VM C hw clX9_373 (As := [.int x1, .int x2]) (rest := []) oM_0 (c_X9_comesOver h5) rfl hl.1 rfl ⟨(Nat.le_of_ble_eq_true rfl), (Nat.le_of_ble_eq_true rfl)⟩ ⟨Nat.zero_le _, Nat.zero_le _⟩ rfl (Nat.le_of_ble_eq_true rfl) dX9_swing_31) (fun H locs hw => ?_)
      refine lv_aload_n C.1.1 C.1.2.1 dX9_swing_34 rfl (lv_at hl 0 rfl) ?_
      refine lv_iload_n C.1.1 C.1.2.1 dX9_swing_35 rfl (lv_at hl 1 rfl) ?_
      obtain ⟨q6, h6, hf⟩ := o_bind hf
      refine aft_i hw (run_VM C hw clX9_364 (As := [.int x1]) (rest := []) oM_0 (c_X9_marginOf h6) rfl hl.1 rfl ⟨(Nat.le_of_ble_eq_true rfl), (Nat.le_of_ble_eq_true rfl)⟩ ⟨Nat.zero_le _, Nat.zero_le _⟩ rfl (Nat.le_of_ble_eq_true rfl) dX9_swing_36) (fun H locs hw => ?_)
      refine lv_if_le (tgt := 44) C.1.1 C.1.2.1 dX9_swing_39 (by decide) (fun c7 => ?_) (fun c7 => ?_)
      · have hf := o_t hf c7
        refine lv_iinc (v := (x2 + (1 : Int32))) (lv' := [(2, .int (x2 + (1 : Int32))), (0, .ref (gA G (41 + 0))), (1, .int x1)]) C.1.1 C.1.2.1 dX9_swing_44 hl (k := 2) rfl rfl (by decide) rfl (fun ls hl => ?_)
        refine lv_goto (tgt := 18) C.1.1 C.1.2.1 dX9_swing_47 (by decide) ?_
        exact hk_18 X q5 L x1 (x2 + (1 : Int32)) _ _ _ hw (lv_sub hl [1, 2, 0] rfl) hf
      · have hf := o_f hf c7
        refine lv_iload_n C.1.1 C.1.2.1 dX9_swing_42 rfl (lv_at hl 2 rfl) ?_
        obtain rfl := Option.some.inj hf
        exact ret_i C hr hlk hw dX9_swing_43
set_option maxRecDepth 20000 in
set_option maxHeartbeats 2000000 in
theorem c_X9_swing   {X M : TX} {L : TL} {x1 : Int32} {ro : TX × Int32} (hf : f_X9_swing M x1 = some ro) : CTi G l yX9_swing cX9_swing 3 (some .int) 5 113 [.ref (gA G (41 + 0)), .int x1] X M L X ro.1 L ro.2 := by
  unfold f_X9_swing at hf
  refine ct_of (by decide +kernel) (Nat.le_of_ble_eq_true rfl) (fun p e s m args below meth c H locs ls C hr hlk hw hl => ?_)
  have C : Cx G p s m args c cX9_swing 3 RX9 := C
  have hl : lv_has ls 3 [(0, .ref (gA G (41 + 0))), (1, .int x1)] := hl
  refine lv_aload_n C.1.1 C.1.2.1 dX9_swing_0 rfl (lv_at hl 0 rfl) ?_
  refine lv_iconst (v := (0 : Int32)) C.1.1 C.1.2.1 dX9_swing_1 rfl ?_
  refine m_put C hw iM_0_0 flX9_3 dX9_swing_2 (fun H locs hw => ?_)
  refine lv_aload_n C.1.1 C.1.2.1 dX9_swing_5 rfl (lv_at hl 0 rfl) ?_
  refine lv_iload_n C.1.1 C.1.2.1 dX9_swing_6 rfl (lv_at hl 1 rfl) ?_
  refine lv_iconst (v := (2 : Int32)) C.1.1 C.1.2.1 dX9_swing_7 rfl ?_
  obtain ⟨q1, h1, hf⟩ := o_bind hf
  refine aft_i hw (run_VM C hw clX9_389 (As := [.int x1, .int (2 : Int32)]) (rest := []) oM_0 (c_X9_isThere h1) rfl hl.1 rfl ⟨(Nat.le_of_ble_eq_true rfl), (Nat.le_of_ble_eq_true rfl)⟩ ⟨Nat.zero_le _, Nat.zero_le _⟩ rfl (Nat.le_of_ble_eq_true rfl) dX9_swing_8) (fun H locs hw => ?_)
  refine lv_if_ne (tgt := 16) C.1.1 C.1.2.1 dX9_swing_11 (by decide) (fun c2 => ?_) (fun c2 => ?_)
  · have hf := o_f hf c2
    refine lv_iconst (v := (0 : Int32)) C.1.1 C.1.2.1 dX9_swing_16 rfl ?_
    refine lv_istore_n (lv' := [(2, .int (0 : Int32)), (0, .ref (gA G (41 + 0))), (1, .int x1)]) C.1.1 C.1.2.1 dX9_swing_17 rfl hl (by decide) rfl (fun ls hl => ?_)
    exact wL_X9_swing_18 C hr hlk FU X q1.1 L x1 (0 : Int32) _ _ _ hw (lv_sub hl [1, 2, 0] rfl) hf
  · have hf := o_t hf c2
    refine lv_iconst (v := (0 : Int32)) C.1.1 C.1.2.1 dX9_swing_14 rfl ?_
    obtain rfl := Option.some.inj hf
    exact ret_i C hr hlk hw dX9_swing_15
end
/-! WinnerDrawsModel.least(JJI)J (('l',) ('l',) ('i',)) -/
def L_X9_least_6 : Nat → Int64 → Int64 → Int32 → Int64 → Int64 → Option (Int64)
  | 0 => fun _ _ _ _ _ => none
  | n + 1 => fun x0 x2 x4 x5 x7 => if (lg_cmp x7 (0 : Int64)) = 0 then (if x4 = 0 then (if x5 = 0 then none else (some (x0 / x5))) else (if x5 = 0 then none else (some (x2 / x5)))) else (if x7 = 0 then none else ((L_X9_least_6 n) x0 x2 x4 x7 (x5 - x5 / x7 * x7)))
def f_X9_least (x0 : Int64) (x2 : Int64) (x4 : Int32) : Option (Int64) := L_X9_least_6 FU x0 x2 x4 x0 x2
section
variable {G : GP} {l : Launch}
set_option maxRecDepth 20000 in
set_option maxHeartbeats 2000000 in
theorem wL_X9_least_6 {p : Program} {e : Env} {s : State} {m : MethodId} {args : Array Value} {below : List Frame} {meth : Method} {c : Code} (C : Cx G p s m args c cX9_least 11 RX9) (hr : meth.sig.returnType = (some .long)) (hlk : meth.locks = false) {ro : Int64} : ∀ (n : Nat), ∀ (X : TX) (M : TX) (L : TL) (x0 : Int64) (x2 : Int64) (x4 : Int32) (x5 : Int64) (x7 : Int64) (H : Heap) (locs : List Loc) (ls : Array Slot), Wh G s X M L H locs → lv_has ls 11 [(0, .long x0), (2, .long x2), (4, .int x4), (5, .long x5), (7, .long x7)] → L_X9_least_6 n x0 x2 x4 x5 x7 = some ro → W p l e (rz 0 0) s m args below meth c H locs 0 0 (MQ below (Dl G X M L ro) args s 0 0 (AB G)) (F0 m 6 ls []) := by
  intro n
  induction n with
  | zero =>
    intro X M L x0 x2 x4 x5 x7 H locs ls hw hl hf
    cases hf
  | succ n hk_6 =>
    intro X M L x0 x2 x4 x5 x7 H locs ls hw hl hf
    rw [L_X9_least_6] at hf
    refine lv_lload C.1.1 C.1.2.1 dX9_least_6 (lv_at hl 4 rfl) ?_
    refine lv_lconst (v := (0 : Int64)) C.1.1 C.1.2.1 dX9_least_8 rfl ?_
    refine W.lcmp C.1.1 C.1.2.1 dX9_least_9 ?_
    refine lv_if_eq (tgt := 31) C.1.1 C.1.2.1 dX9_least_10 (by decide) (fun c1 => ?_) (fun c1 => ?_)
    · have hf := o_t hf c1
      refine lv_iload C.1.1 C.1.2.1 dX9_least_31 (lv_at hl 2 rfl) ?_
      refine lv_if_ne (tgt := 40) C.1.1 C.1.2.1 dX9_least_33 (by decide) (fun c2 => ?_) (fun c2 => ?_)
      · have hf := o_f hf c2
        refine lv_lload_n C.1.1 C.1.2.1 dX9_least_40 rfl (lv_at hl 1 rfl) ?_
        refine lv_lload C.1.1 C.1.2.1 dX9_least_41 (lv_at hl 3 rfl) ?_
        have g3 := o_n1 hf
        have hf := o_n2 hf
        refine lv_ldiv C.1.1 C.1.2.1 dX9_least_43 g3 ?_
        obtain rfl := Option.some.inj hf
        exact ret_l C hr hlk hw dX9_least_44
      · have hf := o_t hf c2
        refine lv_lload_n C.1.1 C.1.2.1 dX9_least_36 rfl (lv_at hl 0 rfl) ?_
        refine lv_goto (tgt := 41) C.1.1 C.1.2.1 dX9_least_37 (by decide) ?_
        refine lv_lload C.1.1 C.1.2.1 dX9_least_41 (lv_at hl 3 rfl) ?_
        have g4 := o_n1 hf
        have hf := o_n2 hf
        refine lv_ldiv C.1.1 C.1.2.1 dX9_least_43 g4 ?_
        obtain rfl := Option.some.inj hf
        exact ret_l C hr hlk hw dX9_least_44
    · have hf := o_f hf c1
      refine lv_lload C.1.1 C.1.2.1 dX9_least_13 (lv_at hl 3 rfl) ?_
      refine lv_lload C.1.1 C.1.2.1 dX9_least_15 (lv_at hl 4 rfl) ?_
      have g5 := o_n1 hf
      have hf := o_n2 hf
      refine lv_lrem C.1.1 C.1.2.1 dX9_least_17 g5 ?_
      refine lv_lstore (lv' := [(9, .long (x5 - x5 / x7 * x7)), (0, .long x0), (2, .long x2), (4, .int x4), (5, .long x5), (7, .long x7)]) C.1.1 C.1.2.1 dX9_least_18 hl (by decide) rfl (fun ls hl => ?_)
      refine lv_lload C.1.1 C.1.2.1 dX9_least_20 (lv_at hl 5 rfl) ?_
      refine lv_lstore (lv' := [(5, .long x7), (9, .long (x5 - x5 / x7 * x7)), (0, .long x0), (2, .long x2), (4, .int x4), (7, .long x7)]) C.1.1 C.1.2.1 dX9_least_22 hl (by decide) rfl (fun ls hl => ?_)
      refine lv_lload C.1.1 C.1.2.1 dX9_least_24 (lv_at hl 1 rfl) ?_
      refine lv_lstore (lv' := [(7, .long (x5 - x5 / x7 * x7)), (5, .long x7), (9, .long (x5 - x5 / x7 * x7)), (0, .long x0), (2, .long x2), (4, .int x4)]) C.1.1 C.1.2.1 dX9_least_26 hl (by decide) rfl (fun ls hl => ?_)
      refine lv_goto (tgt := 6) C.1.1 C.1.2.1 dX9_least_28 (by decide) ?_
      exact hk_6 X M L x0 x2 x4 x7 (x5 - x5 / x7 * x7) _ _ _ hw (lv_sub hl [3, 4, 5, 1, 0] rfl) hf
set_option maxRecDepth 20000 in
set_option maxHeartbeats 2000000 in
theorem c_X9_least   {X M : TX} {L : TL} {x0 : Int64} {x2 : Int64} {x4 : Int32} {ro : Int64} (hf : f_X9_least x0 x2 x4 = some ro) : CTl G l yX9_least cX9_least 11 (some .long) 0 0 [.long x0, .long x2, .int x4] X M L X M L ro := by
  unfold f_X9_least at hf
  refine ct_of (by decide +kernel) (Nat.le_of_ble_eq_true rfl) (fun p e s m args below meth c H locs ls C hr hlk hw hl => ?_)
  have C : Cx G p s m args c cX9_least 11 RX9 := C
  have hl : lv_has ls 11 [(0, .long x0), (2, .long x2), (4, .int x4)] := hl
  refine lv_lload_n C.1.1 C.1.2.1 dX9_least_0 rfl (lv_at hl 0 rfl) ?_
  refine lv_lstore (lv' := [(5, .long x0), (0, .long x0), (2, .long x2), (4, .int x4)]) C.1.1 C.1.2.1 dX9_least_1 hl (by decide) rfl (fun ls hl => ?_)
  refine lv_lload_n C.1.1 C.1.2.1 dX9_least_3 rfl (lv_at hl 2 rfl) ?_
  refine lv_lstore (lv' := [(7, .long x2), (5, .long x0), (0, .long x0), (2, .long x2), (4, .int x4)]) C.1.1 C.1.2.1 dX9_least_4 hl (by decide) rfl (fun ls hl => ?_)
  exact wL_X9_least_6 C hr hlk FU X M L x0 x2 x4 x0 x2 _ _ _ hw (lv_sub hl [2, 3, 4, 1, 0] rfl) hf
end
/-! WinnerDrawsModel.waste(II)I (('o', 'M', 0) ('i',) ('i',)) -/
def L_X9_waste_67 : Nat → TX → Int32 → Int32 → Int32 → Int32 → Int32 → Option (TX × Int32)
  | 0 => fun _ _ _ _ _ _ => none
  | n + 1 => fun M x1 x2 x3 x4 x5 => if (4 : Int32) ≤ x5 then ((f_X9_least (Int32.toInt64 x4) (Int32.toInt64 x3) x2).bind fun q13 => some (M, (Int64.toInt32 q13))) else ((f_X9_setOf M x5).bind fun q14 => (f_X9_votesIn M q14 x1).bind fun q15 => (f_X9_winnerOf M x5).bind fun q16 => if q16 = x1 then ((f_X9_setOf M x5).bind fun q18 => (f_X9_votesIn M q18 ((1 : Int32) - x1)).bind fun q19 => (L_X9_waste_67 n) M x1 x2 x3 (x4 + ((q15 - q19) - (1 : Int32))) (x5 + (1 : Int32))) else ((L_X9_waste_67 n) M x1 x2 x3 (x4 + q15) (x5 + (1 : Int32))))
def f_X9_waste (M : TX) (x1 : Int32) (x2 : Int32) : Option (TX × Int32) := (f_X9_isThere (u2 M 0 0 (0 : Int32)) x1 (2 : Int32)).bind fun q1 => if q1.2 = 0 then (some (q1.1, (0 : Int32))) else ((f_X9_within x2 (0 : Int32) (1 : Int32)).bind fun q3 => (f_X9_lets q1.1 q3 (2 : Int32) (1 : Int32)).bind fun q4 => if q4.2 = 0 then (some (q4.1, (0 : Int32))) else ((f_X9_take q4.1).bind fun q6 => (f_X9_everybody q6).bind fun q7 => (f_X9_votesIn q6 q7 (0 : Int32)).bind fun q8 => (f_X9_everybody q6).bind fun q9 => (f_X9_votesIn q6 q9 (1 : Int32)).bind fun q10 => if (q8 + q10) = 0 then (some (q6, x2)) else (L_X9_waste_67 FU q6 x1 x2 (q8 + q10) (0 : Int32) (0 : Int32))))
section
variable {G : GP} {l : Launch}
set_option maxRecDepth 20000 in
set_option maxHeartbeats 2000000 in
theorem wL_X9_waste_67 {p : Program} {e : Env} {s : State} {m : MethodId} {args : Array Value} {below : List Frame} {meth : Method} {c : Code} (C : Cx G p s m args c cX9_waste 7 RX9) (hr : meth.sig.returnType = (some .int)) (hlk : meth.locks = false) {ro : TX × Int32} : ∀ (n : Nat), ∀ (X : TX) (M : TX) (L : TL) (x1 : Int32) (x2 : Int32) (x3 : Int32) (x4 : Int32) (x5 : Int32) (H : Heap) (locs : List Loc) (ls : Array Slot), Wh G s X M L H locs → lv_has ls 7 [(0, .ref (gA G (41 + 0))), (1, .int x1), (2, .int x2), (3, .int x3), (4, .int x4), (5, .int x5)] → L_X9_waste_67 n M x1 x2 x3 x4 x5 = some ro → W p l e (rz 3 69) s m args below meth c H locs 0 0 (MQ below (Di G X ro.1 L ro.2) args s 0 0 (AB G)) (F0 m 67 ls []) := by
  intro n
  induction n with
  | zero =>
    intro X M L x1 x2 x3 x4 x5 H locs ls hw hl hf
    cases hf
  | succ n hk_67 =>
    intro X M L x1 x2 x3 x4 x5 H locs ls hw hl hf
    rw [L_X9_waste_67] at hf
    refine lv_iload C.1.1 C.1.2.1 dX9_waste_67 (lv_at hl 5 rfl) ?_
    refine lv_iconst (v := (4 : Int32)) C.1.1 C.1.2.1 dX9_waste_69 rfl ?_
    refine lv_icmp_ge (tgt := 130) C.1.1 C.1.2.1 dX9_waste_70 (by decide) (fun c12 => ?_) (fun c12 => ?_)
    · have hf := o_t hf c12
      refine lv_iload C.1.1 C.1.2.1 dX9_waste_130 (lv_at hl 4 rfl) ?_
      refine lv_i2l (v := (Int32.toInt64 x4)) C.1.1 C.1.2.1 dX9_waste_132 rfl ?_
      refine lv_iload_n C.1.1 C.1.2.1 dX9_waste_133 rfl (lv_at hl 3 rfl) ?_
      refine lv_i2l (v := (Int32.toInt64 x3)) C.1.1 C.1.2.1 dX9_waste_134 rfl ?_
      refine lv_iload_n C.1.1 C.1.2.1 dX9_waste_135 rfl (lv_at hl 2 rfl) ?_
      obtain ⟨q13, h13, hf⟩ := o_bind hf
      refine aft_l hw (run_S C hw clX9_401 (As := [.long (Int32.toInt64 x4), .long (Int32.toInt64 x3), .int x2]) (rest := []) (c_X9_least h13) hl.1 rfl ⟨(Nat.le_of_ble_eq_true rfl), (Nat.le_of_ble_eq_true rfl)⟩ ⟨Nat.zero_le _, Nat.zero_le _⟩ rfl (Nat.le_of_ble_eq_true rfl) dX9_waste_136) (fun H locs hw => ?_)
      refine lv_l2i (v := (Int64.toInt32 q13)) C.1.1 C.1.2.1 dX9_waste_139 rfl ?_
      obtain rfl := Option.some.inj hf
      exact ret_i C hr hlk hw dX9_waste_140
    · have hf := o_f hf c12
      refine lv_aload_n C.1.1 C.1.2.1 dX9_waste_73 rfl (lv_at hl 0 rfl) ?_
      refine lv_aload_n C.1.1 C.1.2.1 dX9_waste_74 rfl (lv_at hl 0 rfl) ?_
      refine lv_iload C.1.1 C.1.2.1 dX9_waste_75 (lv_at hl 5 rfl) ?_
      obtain ⟨q14, h14, hf⟩ := o_bind hf
      refine aft_i hw (run_VM C hw clX9_329 (As := [.int x5]) (rest := [.ref (gA G (41 + 0))]) oM_0 (c_X9_setOf h14) rfl hl.1 rfl ⟨(Nat.le_of_ble_eq_true rfl), (Nat.le_of_ble_eq_true rfl)⟩ ⟨Nat.zero_le _, Nat.zero_le _⟩ rfl (Nat.le_of_ble_eq_true rfl) dX9_waste_77) (fun H locs hw => ?_)
      refine lv_iload_n C.1.1 C.1.2.1 dX9_waste_80 rfl (lv_at hl 1 rfl) ?_
      obtain ⟨q15, h15, hf⟩ := o_bind hf
      refine aft_i hw (run_VM C hw clX9_332 (As := [.int q14, .int x1]) (rest := []) oM_0 (c_X9_votesIn h15) rfl hl.1 rfl ⟨(Nat.le_of_ble_eq_true rfl), (Nat.le_of_ble_eq_true rfl)⟩ ⟨Nat.zero_le _, Nat.zero_le _⟩ rfl (Nat.le_of_ble_eq_true rfl) dX9_waste_81) (fun H locs hw => ?_)
      refine lv_istore (lv' := [(6, .int q15), (0, .ref (gA G (41 + 0))), (1, .int x1), (2, .int x2), (3, .int x3), (4, .int x4), (5, .int x5)]) C.1.1 C.1.2.1 dX9_waste_84 hl (by decide) rfl (fun ls hl => ?_)
      refine lv_iload C.1.1 C.1.2.1 dX9_waste_86 (lv_at hl 5 rfl) ?_
      refine lv_aload_n C.1.1 C.1.2.1 dX9_waste_88 rfl (lv_at hl 1 rfl) ?_
      refine lv_iload C.1.1 C.1.2.1 dX9_waste_89 (lv_at hl 6 rfl) ?_
      obtain ⟨q16, h16, hf⟩ := o_bind hf
      refine aft_i hw (run_VM C hw clX9_335 (As := [.int x5]) (rest := [.int x4]) oM_0 (c_X9_winnerOf h16) rfl hl.1 rfl ⟨(Nat.le_of_ble_eq_true rfl), (Nat.le_of_ble_eq_true rfl)⟩ ⟨Nat.zero_le _, Nat.zero_le _⟩ rfl (Nat.le_of_ble_eq_true rfl) dX9_waste_91) (fun H locs hw => ?_)
      refine lv_iload_n C.1.1 C.1.2.1 dX9_waste_94 rfl (lv_at hl 2 rfl) ?_
      refine lv_icmp_ne (tgt := 119) C.1.1 C.1.2.1 dX9_waste_95 (by decide) (fun c17 => ?_) (fun c17 => ?_)
      · have hf := o_f hf c17
        refine lv_iload C.1.1 C.1.2.1 dX9_waste_119 (lv_at hl 0 rfl) ?_
        refine lv_iadd C.1.1 C.1.2.1 dX9_waste_121 ?_
        refine lv_istore (lv' := [(4, .int (x4 + q15)), (6, .int q15), (0, .ref (gA G (41 + 0))), (1, .int x1), (2, .int x2), (3, .int x3), (5, .int x5)]) C.1.1 C.1.2.1 dX9_waste_122 hl (by decide) rfl (fun ls hl => ?_)
        refine lv_iinc (v := (x5 + (1 : Int32))) (lv' := [(5, .int (x5 + (1 : Int32))), (4, .int (x4 + q15)), (6, .int q15), (0, .ref (gA G (41 + 0))), (1, .int x1), (2, .int x2), (3, .int x3)]) C.1.1 C.1.2.1 dX9_waste_124 hl (k := 6) rfl rfl (by decide) rfl (fun ls hl => ?_)
        refine lv_goto (tgt := 67) C.1.1 C.1.2.1 dX9_waste_127 (by decide) ?_
        exact hk_67 X M L x1 x2 x3 (x4 + q15) (x5 + (1 : Int32)) _ _ _ hw (lv_sub hl [3, 4, 5, 6, 1, 0] rfl) hf
      · have hf := o_t hf c17
        refine lv_iload C.1.1 C.1.2.1 dX9_waste_98 (lv_at hl 0 rfl) ?_
        refine lv_aload_n C.1.1 C.1.2.1 dX9_waste_100 rfl (lv_at hl 1 rfl) ?_
        refine lv_aload_n C.1.1 C.1.2.1 dX9_waste_101 rfl (lv_at hl 1 rfl) ?_
        refine lv_iload C.1.1 C.1.2.1 dX9_waste_102 (lv_at hl 6 rfl) ?_
        obtain ⟨q18, h18, hf⟩ := o_bind hf
        refine aft_i hw (run_VM C hw clX9_329 (As := [.int x5]) (rest := [.ref (gA G (41 + 0)), .int q15, .int x4]) oM_0 (c_X9_setOf h18) rfl hl.1 rfl ⟨(Nat.le_of_ble_eq_true rfl), (Nat.le_of_ble_eq_true rfl)⟩ ⟨Nat.zero_le _, Nat.zero_le _⟩ rfl (Nat.le_of_ble_eq_true rfl) dX9_waste_104) (fun H locs hw => ?_)
        refine lv_iconst (v := (1 : Int32)) C.1.1 C.1.2.1 dX9_waste_107 rfl ?_
        refine lv_iload_n C.1.1 C.1.2.1 dX9_waste_108 rfl (lv_at hl 2 rfl) ?_
        refine lv_isub C.1.1 C.1.2.1 dX9_waste_109 ?_
        obtain ⟨q19, h19, hf⟩ := o_bind hf
        refine aft_i hw (run_VM C hw clX9_332 (As := [.int q18, .int ((1 : Int32) - x1)]) (rest := [.int q15, .int x4]) oM_0 (c_X9_votesIn h19) rfl hl.1 rfl ⟨(Nat.le_of_ble_eq_true rfl), (Nat.le_of_ble_eq_true rfl)⟩ ⟨Nat.zero_le _, Nat.zero_le _⟩ rfl (Nat.le_of_ble_eq_true rfl) dX9_waste_110) (fun H locs hw => ?_)
        refine lv_isub C.1.1 C.1.2.1 dX9_waste_113 ?_
        refine lv_iconst (v := (1 : Int32)) C.1.1 C.1.2.1 dX9_waste_114 rfl ?_
        refine lv_isub C.1.1 C.1.2.1 dX9_waste_115 ?_
        refine lv_goto (tgt := 121) C.1.1 C.1.2.1 dX9_waste_116 (by decide) ?_
        refine lv_iadd C.1.1 C.1.2.1 dX9_waste_121 ?_
        refine lv_istore (lv' := [(4, .int (x4 + ((q15 - q19) - (1 : Int32)))), (6, .int q15), (0, .ref (gA G (41 + 0))), (1, .int x1), (2, .int x2), (3, .int x3), (5, .int x5)]) C.1.1 C.1.2.1 dX9_waste_122 hl (by decide) rfl (fun ls hl => ?_)
        refine lv_iinc (v := (x5 + (1 : Int32))) (lv' := [(5, .int (x5 + (1 : Int32))), (4, .int (x4 + ((q15 - q19) - (1 : Int32)))), (6, .int q15), (0, .ref (gA G (41 + 0))), (1, .int x1), (2, .int x2), (3, .int x3)]) C.1.1 C.1.2.1 dX9_waste_124 hl (k := 6) rfl rfl (by decide) rfl (fun ls hl => ?_)
        refine lv_goto (tgt := 67) C.1.1 C.1.2.1 dX9_waste_127 (by decide) ?_
        exact hk_67 X M L x1 x2 x3 (x4 + ((q15 - q19) - (1 : Int32))) (x5 + (1 : Int32)) _ _ _ hw (lv_sub hl [3, 4, 5, 6, 1, 0] rfl) hf
set_option maxRecDepth 20000 in
set_option maxHeartbeats 2000000 in
theorem c_X9_waste   {X M : TX} {L : TL} {x1 : Int32} {x2 : Int32} {ro : TX × Int32} (hf : f_X9_waste M x1 x2 = some ro) : CTi G l yX9_waste cX9_waste 7 (some .int) 3 69 [.ref (gA G (41 + 0)), .int x1, .int x2] X M L X ro.1 L ro.2 := by
  unfold f_X9_waste at hf
  refine ct_of (by decide +kernel) (Nat.le_of_ble_eq_true rfl) (fun p e s m args below meth c H locs ls C hr hlk hw hl => ?_)
  have C : Cx G p s m args c cX9_waste 7 RX9 := C
  have hl : lv_has ls 7 [(0, .ref (gA G (41 + 0))), (1, .int x1), (2, .int x2)] := hl
  refine lv_aload_n C.1.1 C.1.2.1 dX9_waste_0 rfl (lv_at hl 0 rfl) ?_
  refine lv_iconst (v := (0 : Int32)) C.1.1 C.1.2.1 dX9_waste_1 rfl ?_
  refine m_put C hw iM_0_0 flX9_3 dX9_waste_2 (fun H locs hw => ?_)
  refine lv_aload_n C.1.1 C.1.2.1 dX9_waste_5 rfl (lv_at hl 0 rfl) ?_
  refine lv_iload_n C.1.1 C.1.2.1 dX9_waste_6 rfl (lv_at hl 1 rfl) ?_
  refine lv_iconst (v := (2 : Int32)) C.1.1 C.1.2.1 dX9_waste_7 rfl ?_
  obtain ⟨q1, h1, hf⟩ := o_bind hf
  refine aft_i hw (run_VM C hw clX9_389 (As := [.int x1, .int (2 : Int32)]) (rest := []) oM_0 (c_X9_isThere h1) rfl hl.1 rfl ⟨(Nat.le_of_ble_eq_true rfl), (Nat.le_of_ble_eq_true rfl)⟩ ⟨Nat.zero_le _, Nat.zero_le _⟩ rfl (Nat.le_of_ble_eq_true rfl) dX9_waste_8) (fun H locs hw => ?_)
  refine lv_if_eq (tgt := 29) C.1.1 C.1.2.1 dX9_waste_11 (by decide) (fun c2 => ?_) (fun c2 => ?_)
  · have hf := o_t hf c2
    refine lv_iconst (v := (0 : Int32)) C.1.1 C.1.2.1 dX9_waste_29 rfl ?_
    obtain rfl := Option.some.inj hf
    exact ret_i C hr hlk hw dX9_waste_30
  · have hf := o_f hf c2
    refine lv_aload_n C.1.1 C.1.2.1 dX9_waste_14 rfl (lv_at hl 0 rfl) ?_
    refine lv_iload_n C.1.1 C.1.2.1 dX9_waste_15 rfl (lv_at hl 2 rfl) ?_
    refine lv_iconst (v := (0 : Int32)) C.1.1 C.1.2.1 dX9_waste_16 rfl ?_
    refine lv_iconst (v := (1 : Int32)) C.1.1 C.1.2.1 dX9_waste_17 rfl ?_
    obtain ⟨q3, h3, hf⟩ := o_bind hf
    refine aft_i hw (run_S C hw clX9_385 (As := [.int x2, .int (0 : Int32), .int (1 : Int32)]) (rest := [.ref (gA G (41 + 0))]) (c_X9_within h3) hl.1 rfl ⟨(Nat.le_of_ble_eq_true rfl), (Nat.le_of_ble_eq_true rfl)⟩ ⟨Nat.zero_le _, Nat.zero_le _⟩ rfl (Nat.le_of_ble_eq_true rfl) dX9_waste_18) (fun H locs hw => ?_)
    refine lv_iconst (v := (2 : Int32)) C.1.1 C.1.2.1 dX9_waste_21 rfl ?_
    refine lv_iconst (v := (1 : Int32)) C.1.1 C.1.2.1 dX9_waste_22 rfl ?_
    obtain ⟨q4, h4, hf⟩ := o_bind hf
    refine aft_i hw (run_VM C hw clX9_200 (As := [.int q3, .int (2 : Int32), .int (1 : Int32)]) (rest := []) oM_0 (c_X9_lets h4) rfl hl.1 rfl ⟨(Nat.le_of_ble_eq_true rfl), (Nat.le_of_ble_eq_true rfl)⟩ ⟨Nat.zero_le _, Nat.zero_le _⟩ rfl (Nat.le_of_ble_eq_true rfl) dX9_waste_23) (fun H locs hw => ?_)
    refine lv_if_ne (tgt := 31) C.1.1 C.1.2.1 dX9_waste_26 (by decide) (fun c5 => ?_) (fun c5 => ?_)
    · have hf := o_f hf c5
      refine lv_aload_n C.1.1 C.1.2.1 dX9_waste_31 rfl (lv_at hl 0 rfl) ?_
      obtain ⟨q6, h6, hf⟩ := o_bind hf
      refine aft_v hw (run_VM C hw clX9_307 (As := []) (rest := []) oM_0 (c_X9_take h6) rfl hl.1 rfl ⟨(Nat.le_of_ble_eq_true rfl), (Nat.le_of_ble_eq_true rfl)⟩ ⟨Nat.zero_le _, Nat.zero_le _⟩ rfl (Nat.le_of_ble_eq_true rfl) dX9_waste_32) (fun H locs hw => ?_)
      refine lv_aload_n C.1.1 C.1.2.1 dX9_waste_35 rfl (lv_at hl 0 rfl) ?_
      refine lv_aload_n C.1.1 C.1.2.1 dX9_waste_36 rfl (lv_at hl 0 rfl) ?_
      obtain ⟨q7, h7, hf⟩ := o_bind hf
      refine aft_i hw (run_VM C hw clX9_376 (As := []) (rest := [.ref (gA G (41 + 0))]) oM_0 (c_X9_everybody h7) rfl hl.1 rfl ⟨(Nat.le_of_ble_eq_true rfl), (Nat.le_of_ble_eq_true rfl)⟩ ⟨Nat.zero_le _, Nat.zero_le _⟩ rfl (Nat.le_of_ble_eq_true rfl) dX9_waste_37) (fun H locs hw => ?_)
      refine lv_iconst (v := (0 : Int32)) C.1.1 C.1.2.1 dX9_waste_40 rfl ?_
      obtain ⟨q8, h8, hf⟩ := o_bind hf
      refine aft_i hw (run_VM C hw clX9_332 (As := [.int q7, .int (0 : Int32)]) (rest := []) oM_0 (c_X9_votesIn h8) rfl hl.1 rfl ⟨(Nat.le_of_ble_eq_true rfl), (Nat.le_of_ble_eq_true rfl)⟩ ⟨Nat.zero_le _, Nat.zero_le _⟩ rfl (Nat.le_of_ble_eq_true rfl) dX9_waste_41) (fun H locs hw => ?_)
      refine lv_aload_n C.1.1 C.1.2.1 dX9_waste_44 rfl (lv_at hl 0 rfl) ?_
      refine lv_aload_n C.1.1 C.1.2.1 dX9_waste_45 rfl (lv_at hl 0 rfl) ?_
      obtain ⟨q9, h9, hf⟩ := o_bind hf
      refine aft_i hw (run_VM C hw clX9_376 (As := []) (rest := [.ref (gA G (41 + 0)), .int q8]) oM_0 (c_X9_everybody h9) rfl hl.1 rfl ⟨(Nat.le_of_ble_eq_true rfl), (Nat.le_of_ble_eq_true rfl)⟩ ⟨Nat.zero_le _, Nat.zero_le _⟩ rfl (Nat.le_of_ble_eq_true rfl) dX9_waste_46) (fun H locs hw => ?_)
      refine lv_iconst (v := (1 : Int32)) C.1.1 C.1.2.1 dX9_waste_49 rfl ?_
      obtain ⟨q10, h10, hf⟩ := o_bind hf
      refine aft_i hw (run_VM C hw clX9_332 (As := [.int q9, .int (1 : Int32)]) (rest := [.int q8]) oM_0 (c_X9_votesIn h10) rfl hl.1 rfl ⟨(Nat.le_of_ble_eq_true rfl), (Nat.le_of_ble_eq_true rfl)⟩ ⟨Nat.zero_le _, Nat.zero_le _⟩ rfl (Nat.le_of_ble_eq_true rfl) dX9_waste_50) (fun H locs hw => ?_)
      refine lv_iadd C.1.1 C.1.2.1 dX9_waste_53 ?_
      refine lv_istore_n (lv' := [(3, .int (q8 + q10)), (0, .ref (gA G (41 + 0))), (1, .int x1), (2, .int x2)]) C.1.1 C.1.2.1 dX9_waste_54 rfl hl (by decide) rfl (fun ls hl => ?_)
      refine lv_iload_n C.1.1 C.1.2.1 dX9_waste_55 rfl (lv_at hl 0 rfl) ?_
      refine lv_if_ne (tgt := 61) C.1.1 C.1.2.1 dX9_waste_56 (by decide) (fun c11 => ?_) (fun c11 => ?_)
      · have hf := o_f hf c11
        refine lv_iconst (v := (0 : Int32)) C.1.1 C.1.2.1 dX9_waste_61 rfl ?_
        refine lv_istore (lv' := [(4, .int (0 : Int32)), (3, .int (q8 + q10)), (0, .ref (gA G (41 + 0))), (1, .int x1), (2, .int x2)]) C.1.1 C.1.2.1 dX9_waste_62 hl (by decide) rfl (fun ls hl => ?_)
        refine lv_iconst (v := (0 : Int32)) C.1.1 C.1.2.1 dX9_waste_64 rfl ?_
        refine lv_istore (lv' := [(5, .int (0 : Int32)), (4, .int (0 : Int32)), (3, .int (q8 + q10)), (0, .ref (gA G (41 + 0))), (1, .int x1), (2, .int x2)]) C.1.1 C.1.2.1 dX9_waste_65 hl (by decide) rfl (fun ls hl => ?_)
        exact wL_X9_waste_67 C hr hlk FU X q6 L x1 x2 (q8 + q10) (0 : Int32) (0 : Int32) _ _ _ hw (lv_sub hl [3, 4, 5, 2, 1, 0] rfl) hf
      · have hf := o_t hf c11
        refine lv_iload_n C.1.1 C.1.2.1 dX9_waste_59 rfl (lv_at hl 3 rfl) ?_
        obtain rfl := Option.some.inj hf
        exact ret_i C hr hlk hw dX9_waste_60
    · have hf := o_t hf c5
      refine lv_iconst (v := (0 : Int32)) C.1.1 C.1.2.1 dX9_waste_29 rfl ?_
      obtain rfl := Option.some.inj hf
      exact ret_i C hr hlk hw dX9_waste_30
end
/-! WinnerDrawsModel.laysWon()V (('o', 'M', 0)) -/
def L_X9_laysWon_31 (k_2 : TX → Int32 → Option (TX)) : Nat → TX → Int32 → Int32 → Option (TX)
  | 0 => fun _ _ _ => none
  | n + 1 => fun M x1 x2 => if (4 : Int32) ≤ x2 then (k_2 M (x1 + (1 : Int32))) else ((f_X9_winnerOf M x2).bind fun q6 => if q6 = (-1 : Int32) then (if inb (((4 : Int32) * x1) + x2) 160 = true then ((L_X9_laysWon_31 k_2 n) (u2 M 23 (Int32.toNatClampNeg (((4 : Int32) * x1) + x2)) (2 : Int32)) x1 (x2 + (1 : Int32))) else none) else ((f_X9_winnerOf M x2).bind fun q8 => if inb (((4 : Int32) * x1) + x2) 160 = true then ((L_X9_laysWon_31 k_2 n) (u2 M 23 (Int32.toNatClampNeg (((4 : Int32) * x1) + x2)) q8) x1 (x2 + (1 : Int32))) else none))
def L_X9_laysWon_2 : Nat → TX → Int32 → Option (TX)
  | 0 => fun _ _ => none
  | n + 1 => fun M x1 => if ((4 : Int32) * (M 0 19)) ≤ x1 then ((f_X9_take M).bind fun q2 => some q2) else ((f_X9_take M).bind fun q3 => if inb ((0 : Int32) + (x1 / (4 : Int32))) 34 = true then (L_X9_laysWon_31 (L_X9_laysWon_2 n) FU (u2 q3 20 (Int32.toNatClampNeg ((0 : Int32) + (x1 / (4 : Int32)))) (x1 - x1 / (4 : Int32) * (4 : Int32))) x1 (0 : Int32)) else none)
def f_X9_laysWon (M : TX) : Option (TX) := L_X9_laysWon_2 FU M (0 : Int32)
section
variable {G : GP} {l : Launch}
set_option maxRecDepth 20000 in
set_option maxHeartbeats 2000000 in
theorem wL_X9_laysWon_31 {p : Program} {e : Env} {s : State} {m : MethodId} {args : Array Value} {below : List Frame} {meth : Method} {c : Code} (C : Cx G p s m args c cX9_laysWon 3 RX9) (hr : meth.sig.returnType = none) (hlk : meth.locks = false) {ro : TX} {k_2 : TX → Int32 → Option (TX)} (hk_2 : ∀ (X : TX) (M : TX) (L : TL) (x1 : Int32) (H : Heap) (locs : List Loc) (ls : Array Slot), Wh G s X M L H locs → lv_has ls 3 [(0, .ref (gA G (41 + 0))), (1, .int x1)] → k_2 M x1 = some ro → W p l e (rz 3 69) s m args below meth c H locs 0 0 (MQ below (Dv G X ro L) args s 0 0 (AB G)) (F0 m 2 ls [])) : ∀ (n : Nat), ∀ (X : TX) (M : TX) (L : TL) (x1 : Int32) (x2 : Int32) (H : Heap) (locs : List Loc) (ls : Array Slot), Wh G s X M L H locs → lv_has ls 3 [(0, .ref (gA G (41 + 0))), (1, .int x1), (2, .int x2)] → L_X9_laysWon_31 k_2 n M x1 x2 = some ro → W p l e (rz 3 69) s m args below meth c H locs 0 0 (MQ below (Dv G X ro L) args s 0 0 (AB G)) (F0 m 31 ls []) := by
  intro n
  induction n with
  | zero =>
    intro X M L x1 x2 H locs ls hw hl hf
    cases hf
  | succ n hk_31 =>
    intro X M L x1 x2 H locs ls hw hl hf
    rw [L_X9_laysWon_31] at hf
    refine lv_iload_n C.1.1 C.1.2.1 dX9_laysWon_31 rfl (lv_at hl 2 rfl) ?_
    refine lv_iconst (v := (4 : Int32)) C.1.1 C.1.2.1 dX9_laysWon_32 rfl ?_
    refine lv_icmp_ge (tgt := 70) C.1.1 C.1.2.1 dX9_laysWon_33 (by decide) (fun c5 => ?_) (fun c5 => ?_)
    · have hf := o_t hf c5
      refine lv_iinc (v := (x1 + (1 : Int32))) (lv' := [(1, .int (x1 + (1 : Int32))), (0, .ref (gA G (41 + 0))), (2, .int x2)]) C.1.1 C.1.2.1 dX9_laysWon_70 hl (k := 1) rfl rfl (by decide) rfl (fun ls hl => ?_)
      refine lv_goto (tgt := 2) C.1.1 C.1.2.1 dX9_laysWon_73 (by decide) ?_
      exact hk_2 X M L (x1 + (1 : Int32)) _ _ _ hw (lv_sub hl [1, 0] rfl) hf
    · have hf := o_f hf c5
      refine lv_aload_n C.1.1 C.1.2.1 dX9_laysWon_36 rfl (lv_at hl 0 rfl) ?_
      refine m_ref C hw fM_0_45 flX9_83 dX9_laysWon_37 ?_
      refine lv_iconst (v := (4 : Int32)) C.1.1 C.1.2.1 dX9_laysWon_40 rfl ?_
      refine lv_iload_n C.1.1 C.1.2.1 dX9_laysWon_41 rfl (lv_at hl 1 rfl) ?_
      refine lv_imul C.1.1 C.1.2.1 dX9_laysWon_42 ?_
      refine lv_iload_n C.1.1 C.1.2.1 dX9_laysWon_43 rfl (lv_at hl 2 rfl) ?_
      refine lv_iadd C.1.1 C.1.2.1 dX9_laysWon_44 ?_
      refine lv_aload_n C.1.1 C.1.2.1 dX9_laysWon_45 rfl (lv_at hl 0 rfl) ?_
      refine lv_iload_n C.1.1 C.1.2.1 dX9_laysWon_46 rfl (lv_at hl 2 rfl) ?_
      obtain ⟨q6, h6, hf⟩ := o_bind hf
      refine aft_i hw (run_VM C hw clX9_335 (As := [.int x2]) (rest := [.int (((4 : Int32) * x1) + x2), .ref (gA G (41 + 23))]) oM_0 (c_X9_winnerOf h6) rfl hl.1 rfl ⟨(Nat.le_of_ble_eq_true rfl), (Nat.le_of_ble_eq_true rfl)⟩ ⟨Nat.zero_le _, Nat.zero_le _⟩ rfl (Nat.le_of_ble_eq_true rfl) dX9_laysWon_47) (fun H locs hw => ?_)
      refine lv_iconst (v := (-1 : Int32)) C.1.1 C.1.2.1 dX9_laysWon_50 rfl ?_
      refine lv_icmp_ne (tgt := 58) C.1.1 C.1.2.1 dX9_laysWon_51 (by decide) (fun c7 => ?_) (fun c7 => ?_)
      · have hf := o_f hf c7
        refine lv_aload_n C.1.1 C.1.2.1 dX9_laysWon_58 rfl (lv_at hl 0 rfl) ?_
        refine lv_iload_n C.1.1 C.1.2.1 dX9_laysWon_59 rfl (lv_at hl 2 rfl) ?_
        obtain ⟨q8, h8, hf⟩ := o_bind hf
        refine aft_i hw (run_VM C hw clX9_335 (As := [.int x2]) (rest := [.int (((4 : Int32) * x1) + x2), .ref (gA G (41 + 23))]) oM_0 (c_X9_winnerOf h8) rfl hl.1 rfl ⟨(Nat.le_of_ble_eq_true rfl), (Nat.le_of_ble_eq_true rfl)⟩ ⟨Nat.zero_le _, Nat.zero_le _⟩ rfl (Nat.le_of_ble_eq_true rfl) dX9_laysWon_60) (fun H locs hw => ?_)
        have g9 := inb_in (o_g hf).1
        have hf := (o_g hf).2
        refine m_ast C hw aM_23 g9 dX9_laysWon_63 (fun H locs hw => ?_)
        refine lv_iinc (v := (x2 + (1 : Int32))) (lv' := [(2, .int (x2 + (1 : Int32))), (0, .ref (gA G (41 + 0))), (1, .int x1)]) C.1.1 C.1.2.1 dX9_laysWon_64 hl (k := 2) rfl rfl (by decide) rfl (fun ls hl => ?_)
        refine lv_goto (tgt := 31) C.1.1 C.1.2.1 dX9_laysWon_67 (by decide) ?_
        exact hk_31 X (u2 M 23 (Int32.toNatClampNeg (((4 : Int32) * x1) + x2)) q8) L x1 (x2 + (1 : Int32)) _ _ _ hw (lv_sub hl [1, 2, 0] rfl) hf
      · have hf := o_t hf c7
        refine lv_iconst (v := (2 : Int32)) C.1.1 C.1.2.1 dX9_laysWon_54 rfl ?_
        refine lv_goto (tgt := 63) C.1.1 C.1.2.1 dX9_laysWon_55 (by decide) ?_
        have g10 := inb_in (o_g hf).1
        have hf := (o_g hf).2
        refine m_ast C hw aM_23 g10 dX9_laysWon_63 (fun H locs hw => ?_)
        refine lv_iinc (v := (x2 + (1 : Int32))) (lv' := [(2, .int (x2 + (1 : Int32))), (0, .ref (gA G (41 + 0))), (1, .int x1)]) C.1.1 C.1.2.1 dX9_laysWon_64 hl (k := 2) rfl rfl (by decide) rfl (fun ls hl => ?_)
        refine lv_goto (tgt := 31) C.1.1 C.1.2.1 dX9_laysWon_67 (by decide) ?_
        exact hk_31 X (u2 M 23 (Int32.toNatClampNeg (((4 : Int32) * x1) + x2)) (2 : Int32)) L x1 (x2 + (1 : Int32)) _ _ _ hw (lv_sub hl [1, 2, 0] rfl) hf
set_option maxRecDepth 20000 in
set_option maxHeartbeats 2000000 in
theorem wL_X9_laysWon_2 {p : Program} {e : Env} {s : State} {m : MethodId} {args : Array Value} {below : List Frame} {meth : Method} {c : Code} (C : Cx G p s m args c cX9_laysWon 3 RX9) (hr : meth.sig.returnType = none) (hlk : meth.locks = false) {ro : TX} : ∀ (n : Nat), ∀ (X : TX) (M : TX) (L : TL) (x1 : Int32) (H : Heap) (locs : List Loc) (ls : Array Slot), Wh G s X M L H locs → lv_has ls 3 [(0, .ref (gA G (41 + 0))), (1, .int x1)] → L_X9_laysWon_2 n M x1 = some ro → W p l e (rz 3 69) s m args below meth c H locs 0 0 (MQ below (Dv G X ro L) args s 0 0 (AB G)) (F0 m 2 ls []) := by
  intro n
  induction n with
  | zero =>
    intro X M L x1 H locs ls hw hl hf
    cases hf
  | succ n hk_2 =>
    intro X M L x1 H locs ls hw hl hf
    rw [L_X9_laysWon_2] at hf
    refine lv_iload_n C.1.1 C.1.2.1 dX9_laysWon_2 rfl (lv_at hl 1 rfl) ?_
    refine lv_iconst (v := (4 : Int32)) C.1.1 C.1.2.1 dX9_laysWon_3 rfl ?_
    refine lv_aload_n C.1.1 C.1.2.1 dX9_laysWon_4 rfl (lv_at hl 0 rfl) ?_
    refine m_get C hw iM_0_19 flX9_157 dX9_laysWon_5 ?_
    refine lv_imul C.1.1 C.1.2.1 dX9_laysWon_8 ?_
    refine lv_icmp_ge (tgt := 76) C.1.1 C.1.2.1 dX9_laysWon_9 (by decide) (fun c1 => ?_) (fun c1 => ?_)
    · have hf := o_t hf c1
      refine lv_aload_n C.1.1 C.1.2.1 dX9_laysWon_76 rfl (lv_at hl 0 rfl) ?_
      obtain ⟨q2, h2, hf⟩ := o_bind hf
      refine aft_v hw (run_VM C hw clX9_307 (As := []) (rest := []) oM_0 (c_X9_take h2) rfl hl.1 rfl ⟨(Nat.le_of_ble_eq_true rfl), (Nat.le_of_ble_eq_true rfl)⟩ ⟨Nat.zero_le _, Nat.zero_le _⟩ rfl (Nat.le_of_ble_eq_true rfl) dX9_laysWon_77) (fun H locs hw => ?_)
      obtain rfl := Option.some.inj hf
      exact ret_v C hr hlk hw dX9_laysWon_80
    · have hf := o_f hf c1
      refine lv_aload_n C.1.1 C.1.2.1 dX9_laysWon_12 rfl (lv_at hl 0 rfl) ?_
      obtain ⟨q3, h3, hf⟩ := o_bind hf
      refine aft_v hw (run_VM C hw clX9_307 (As := []) (rest := []) oM_0 (c_X9_take h3) rfl hl.1 rfl ⟨(Nat.le_of_ble_eq_true rfl), (Nat.le_of_ble_eq_true rfl)⟩ ⟨Nat.zero_le _, Nat.zero_le _⟩ rfl (Nat.le_of_ble_eq_true rfl) dX9_laysWon_13) (fun H locs hw => ?_)
      refine lv_aload_n C.1.1 C.1.2.1 dX9_laysWon_16 rfl (lv_at hl 0 rfl) ?_
      refine m_ref C hw fM_0_42 flX9_74 dX9_laysWon_17 ?_
      refine lv_iconst (v := (0 : Int32)) C.1.1 C.1.2.1 dX9_laysWon_20 rfl ?_
      refine lv_iload_n C.1.1 C.1.2.1 dX9_laysWon_21 rfl (lv_at hl 1 rfl) ?_
      refine lv_iconst (v := (4 : Int32)) C.1.1 C.1.2.1 dX9_laysWon_22 rfl ?_
      refine lv_idiv C.1.1 C.1.2.1 dX9_laysWon_23 (by decide) ?_
      refine lv_iadd C.1.1 C.1.2.1 dX9_laysWon_24 ?_
      refine lv_iload_n C.1.1 C.1.2.1 dX9_laysWon_25 rfl (lv_at hl 1 rfl) ?_
      refine lv_iconst (v := (4 : Int32)) C.1.1 C.1.2.1 dX9_laysWon_26 rfl ?_
      refine lv_irem C.1.1 C.1.2.1 dX9_laysWon_27 (by decide) ?_
      have g4 := inb_in (o_g hf).1
      have hf := (o_g hf).2
      refine m_ast C hw aM_20 g4 dX9_laysWon_28 (fun H locs hw => ?_)
      refine lv_iconst (v := (0 : Int32)) C.1.1 C.1.2.1 dX9_laysWon_29 rfl ?_
      refine lv_istore_n (lv' := [(2, .int (0 : Int32)), (0, .ref (gA G (41 + 0))), (1, .int x1)]) C.1.1 C.1.2.1 dX9_laysWon_30 rfl hl (by decide) rfl (fun ls hl => ?_)
      exact wL_X9_laysWon_31 C hr hlk hk_2 FU X (u2 q3 20 (Int32.toNatClampNeg ((0 : Int32) + (x1 / (4 : Int32)))) (x1 - x1 / (4 : Int32) * (4 : Int32))) L x1 (0 : Int32) _ _ _ hw (lv_sub hl [1, 2, 0] rfl) hf
set_option maxRecDepth 20000 in
set_option maxHeartbeats 2000000 in
theorem c_X9_laysWon   {X M : TX} {L : TL}  {ro : TX} (hf : f_X9_laysWon M = some ro) : CTv G l yX9_laysWon cX9_laysWon 3 none 3 69 [.ref (gA G (41 + 0))] X M L X ro L := by
  unfold f_X9_laysWon at hf
  refine ct_of (by decide +kernel) (Nat.le_of_ble_eq_true rfl) (fun p e s m args below meth c H locs ls C hr hlk hw hl => ?_)
  have C : Cx G p s m args c cX9_laysWon 3 RX9 := C
  have hl : lv_has ls 3 [(0, .ref (gA G (41 + 0)))] := hl
  refine lv_iconst (v := (0 : Int32)) C.1.1 C.1.2.1 dX9_laysWon_0 rfl ?_
  refine lv_istore_n (lv' := [(1, .int (0 : Int32)), (0, .ref (gA G (41 + 0)))]) C.1.1 C.1.2.1 dX9_laysWon_1 rfl hl (by decide) rfl (fun ls hl => ?_)
  exact wL_X9_laysWon_2 C hr hlk FU X M L (0 : Int32) _ _ _ hw (lv_sub hl [1, 0] rfl) hf
end
