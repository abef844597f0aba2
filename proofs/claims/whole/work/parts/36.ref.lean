/-! WinnerDrawsModel.isDone(IIII)Z (('o', 'M', 0) ('i',) ('i',) ('i',) ('i',)) -/
def f_X9_isDone (M : TX) (x1 : Int32) (x2 : Int32) (x3 : Int32) (x4 : Int32) : Option (TX × Int32) := if x1 = (1 : Int32) then ((f_X9_isDrawn M).bind fun q17 => if q17.2 &&& 1 = q17.2 then (some (q17.1, q17.2)) else none) else (if x1 = (2 : Int32) then ((f_X9_isMoved M x2 x3).bind fun q15 => if q15.2 &&& 1 = q15.2 then (some (q15.1, q15.2)) else none) else (if x1 = 0 then (if inb (32 : Int32) 34 = true then (if (M 20 (Int32.toNatClampNeg (32 : Int32))) < (400 : Int32) then ((f_X9_votes M).bind fun q14 => some (q14, (1 : Int32))) else (some (M, (0 : Int32)))) else none) else ((f_X9_votesOf M x2 (0 : Int32)).bind fun q4 => if q4 = x3 then ((f_X9_votesOf M x2 (1 : Int32)).bind fun q8 => if q8 = x4 then (some (M, (0 : Int32))) else (if inb ((10 : Int32) + x2) 34 = true then (if inb ((20 : Int32) + x2) 34 = true then (some ((u2 (u2 M 20 (Int32.toNatClampNeg ((10 : Int32) + x2)) x3) 20 (Int32.toNatClampNeg ((20 : Int32) + x2)) x4), (1 : Int32))) else none) else none)) else (if inb ((10 : Int32) + x2) 34 = true then (if inb ((20 : Int32) + x2) 34 = true then (some ((u2 (u2 M 20 (Int32.toNatClampNeg ((10 : Int32) + x2)) x3) 20 (Int32.toNatClampNeg ((20 : Int32) + x2)) x4), (1 : Int32))) else none) else none))))
section
variable {G : GP} {l : Launch}
set_option maxRecDepth 20000 in
set_option maxHeartbeats 2000000 in
theorem c_X9_isDone   {X M : TX} {L : TL} {x1 : Int32} {x2 : Int32} {x3 : Int32} {x4 : Int32} {ro : TX × Int32} (hf : f_X9_isDone M x1 x2 x3 x4 = some ro) : CTi G l yX9_isDone cX9_isDone 5 (some .boolean) 7 168 [.ref (gA G (41 + 0)), .int x1, .int x2, .int x3, .int x4] X M L X ro.1 L ro.2 := by
  unfold f_X9_isDone at hf
  refine ct_of (by decide +kernel) (Nat.le_of_ble_eq_true rfl) (fun p e s m args below meth c H locs ls C hr hlk hw hl => ?_)
  have C : Cx G p s m args c cX9_isDone 5 RX9 := C
  have hl : lv_has ls 5 [(0, .ref (gA G (41 + 0))), (1, .int x1), (2, .int x2), (3, .int x3), (4, .int x4)] := hl
  refine lv_iload_n C.1.1 C.1.2.1 dX9_isDone_0 rfl (lv_at hl 1 rfl) ?_
  refine lv_iconst (v := (1 : Int32)) C.1.1 C.1.2.1 dX9_isDone_1 rfl ?_
  refine lv_icmp_ne (tgt := 10) C.1.1 C.1.2.1 dX9_isDone_2 (by decide) (fun c1 => ?_) (fun c1 => ?_)
  · have hf := o_f hf c1
    refine lv_iload_n C.1.1 C.1.2.1 dX9_isDone_10 rfl (lv_at hl 1 rfl) ?_
    refine lv_iconst (v := (2 : Int32)) C.1.1 C.1.2.1 dX9_isDone_11 rfl ?_
    refine lv_icmp_ne (tgt := 22) C.1.1 C.1.2.1 dX9_isDone_12 (by decide) (fun c2 => ?_) (fun c2 => ?_)
    · have hf := o_f hf c2
      refine lv_iload_n C.1.1 C.1.2.1 dX9_isDone_22 rfl (lv_at hl 1 rfl) ?_
      refine lv_if_ne (tgt := 47) C.1.1 C.1.2.1 dX9_isDone_23 (by decide) (fun c3 => ?_) (fun c3 => ?_)
      · have hf := o_f hf c3
        refine lv_aload_n C.1.1 C.1.2.1 dX9_isDone_47 rfl (lv_at hl 0 rfl) ?_
        refine lv_iload_n C.1.1 C.1.2.1 dX9_isDone_48 rfl (lv_at hl 2 rfl) ?_
        refine lv_iconst (v := (0 : Int32)) C.1.1 C.1.2.1 dX9_isDone_49 rfl ?_
        obtain ⟨q4, h4, hf⟩ := o_bind hf
        refine aft_i hw (run_VM C hw clX9_326 (As := [.int x2, .int (0 : Int32)]) (rest := []) oM_0 (c_X9_votesOf h4) rfl hl.1 rfl ⟨(Nat.le_of_ble_eq_true rfl), (Nat.le_of_ble_eq_true rfl)⟩ ⟨Nat.zero_le _, Nat.zero_le _⟩ rfl (Nat.le_of_ble_eq_true rfl) dX9_isDone_50) (fun H locs hw => ?_)
        refine lv_iload_n C.1.1 C.1.2.1 dX9_isDone_53 rfl (lv_at hl 3 rfl) ?_
        refine lv_icmp_ne (tgt := 70) C.1.1 C.1.2.1 dX9_isDone_54 (by decide) (fun c5 => ?_) (fun c5 => ?_)
        · have hf := o_f hf c5
          refine lv_aload_n C.1.1 C.1.2.1 dX9_isDone_70 rfl (lv_at hl 0 rfl) ?_
          refine m_ref C hw fM_0_42 flX9_74 dX9_isDone_71 ?_
          refine lv_bipush (v := (10 : Int32)) C.1.1 C.1.2.1 dX9_isDone_74 rfl ?_
          refine lv_iload_n C.1.1 C.1.2.1 dX9_isDone_76 rfl (lv_at hl 2 rfl) ?_
          refine lv_iadd C.1.1 C.1.2.1 dX9_isDone_77 ?_
          refine lv_iload_n C.1.1 C.1.2.1 dX9_isDone_78 rfl (lv_at hl 3 rfl) ?_
          have g6 := inb_in (o_g hf).1
          have hf := (o_g hf).2
          refine m_ast C hw aM_20 g6 dX9_isDone_79 (fun H locs hw => ?_)
          refine lv_aload_n C.1.1 C.1.2.1 dX9_isDone_80 rfl (lv_at hl 0 rfl) ?_
          refine m_ref C hw fM_0_42 flX9_74 dX9_isDone_81 ?_
          refine lv_bipush (v := (20 : Int32)) C.1.1 C.1.2.1 dX9_isDone_84 rfl ?_
          refine lv_iload_n C.1.1 C.1.2.1 dX9_isDone_86 rfl (lv_at hl 2 rfl) ?_
          refine lv_iadd C.1.1 C.1.2.1 dX9_isDone_87 ?_
          refine lv_iload C.1.1 C.1.2.1 dX9_isDone_88 (lv_at hl 4 rfl) ?_
          have g7 := inb_in (o_g hf).1
          have hf := (o_g hf).2
          refine m_ast C hw aM_20 g7 dX9_isDone_90 (fun H locs hw => ?_)
          refine lv_iconst (v := (1 : Int32)) C.1.1 C.1.2.1 dX9_isDone_91 rfl ?_
          obtain rfl := Option.some.inj hf
          exact ret_z (r := (1 : Int32)) C hr hlk hw rfl dX9_isDone_92
        · have hf := o_t hf c5
          refine lv_aload_n C.1.1 C.1.2.1 dX9_isDone_57 rfl (lv_at hl 0 rfl) ?_
          refine lv_iload_n C.1.1 C.1.2.1 dX9_isDone_58 rfl (lv_at hl 2 rfl) ?_
          refine lv_iconst (v := (1 : Int32)) C.1.1 C.1.2.1 dX9_isDone_59 rfl ?_
          obtain ⟨q8, h8, hf⟩ := o_bind hf
          refine aft_i hw (run_VM C hw clX9_326 (As := [.int x2, .int (1 : Int32)]) (rest := []) oM_0 (c_X9_votesOf h8) rfl hl.1 rfl ⟨(Nat.le_of_ble_eq_true rfl), (Nat.le_of_ble_eq_true rfl)⟩ ⟨Nat.zero_le _, Nat.zero_le _⟩ rfl (Nat.le_of_ble_eq_true rfl) dX9_isDone_60) (fun H locs hw => ?_)
          refine lv_iload C.1.1 C.1.2.1 dX9_isDone_63 (lv_at hl 4 rfl) ?_
          refine lv_icmp_ne (tgt := 70) C.1.1 C.1.2.1 dX9_isDone_65 (by decide) (fun c9 => ?_) (fun c9 => ?_)
          · have hf := o_f hf c9
            refine lv_aload_n C.1.1 C.1.2.1 dX9_isDone_70 rfl (lv_at hl 0 rfl) ?_
            refine m_ref C hw fM_0_42 flX9_74 dX9_isDone_71 ?_
            refine lv_bipush (v := (10 : Int32)) C.1.1 C.1.2.1 dX9_isDone_74 rfl ?_
            refine lv_iload_n C.1.1 C.1.2.1 dX9_isDone_76 rfl (lv_at hl 2 rfl) ?_
            refine lv_iadd C.1.1 C.1.2.1 dX9_isDone_77 ?_
            refine lv_iload_n C.1.1 C.1.2.1 dX9_isDone_78 rfl (lv_at hl 3 rfl) ?_
            have g10 := inb_in (o_g hf).1
            have hf := (o_g hf).2
            refine m_ast C hw aM_20 g10 dX9_isDone_79 (fun H locs hw => ?_)
            refine lv_aload_n C.1.1 C.1.2.1 dX9_isDone_80 rfl (lv_at hl 0 rfl) ?_
            refine m_ref C hw fM_0_42 flX9_74 dX9_isDone_81 ?_
            refine lv_bipush (v := (20 : Int32)) C.1.1 C.1.2.1 dX9_isDone_84 rfl ?_
            refine lv_iload_n C.1.1 C.1.2.1 dX9_isDone_86 rfl (lv_at hl 2 rfl) ?_
            refine lv_iadd C.1.1 C.1.2.1 dX9_isDone_87 ?_
            refine lv_iload C.1.1 C.1.2.1 dX9_isDone_88 (lv_at hl 4 rfl) ?_
            have g11 := inb_in (o_g hf).1
            have hf := (o_g hf).2
            refine m_ast C hw aM_20 g11 dX9_isDone_90 (fun H locs hw => ?_)
            refine lv_iconst (v := (1 : Int32)) C.1.1 C.1.2.1 dX9_isDone_91 rfl ?_
            obtain rfl := Option.some.inj hf
            exact ret_z (r := (1 : Int32)) C hr hlk hw rfl dX9_isDone_92
          · have hf := o_t hf c9
            refine lv_iconst (v := (0 : Int32)) C.1.1 C.1.2.1 dX9_isDone_68 rfl ?_
            obtain rfl := Option.some.inj hf
            exact ret_z (r := (0 : Int32)) C hr hlk hw rfl dX9_isDone_69
      · have hf := o_t hf c3
        refine lv_aload_n C.1.1 C.1.2.1 dX9_isDone_26 rfl (lv_at hl 0 rfl) ?_
        refine m_ref C hw fM_0_42 flX9_74 dX9_isDone_27 ?_
        refine lv_bipush (v := (32 : Int32)) C.1.1 C.1.2.1 dX9_isDone_30 rfl ?_
        have g12 := inb_in (o_g hf).1
        have hf := (o_g hf).2
        refine m_ald C hw aM_20 g12 dX9_isDone_32 ?_
        refine lv_sipush (v := (400 : Int32)) C.1.1 C.1.2.1 dX9_isDone_33 rfl ?_
        refine lv_icmp_lt (tgt := 41) C.1.1 C.1.2.1 dX9_isDone_36 (by decide) (fun c13 => ?_) (fun c13 => ?_)
        · have hf := o_t hf c13
          refine lv_aload_n C.1.1 C.1.2.1 dX9_isDone_41 rfl (lv_at hl 0 rfl) ?_
          obtain ⟨q14, h14, hf⟩ := o_bind hf
          refine aft_v hw (run_VM C hw clX9_382 (As := []) (rest := []) oM_0 (c_X9_votes h14) rfl hl.1 rfl ⟨(Nat.le_of_ble_eq_true rfl), (Nat.le_of_ble_eq_true rfl)⟩ ⟨Nat.zero_le _, Nat.zero_le _⟩ rfl (Nat.le_of_ble_eq_true rfl) dX9_isDone_42) (fun H locs hw => ?_)
          refine lv_iconst (v := (1 : Int32)) C.1.1 C.1.2.1 dX9_isDone_45 rfl ?_
          obtain rfl := Option.some.inj hf
          exact ret_z (r := (1 : Int32)) C hr hlk hw rfl dX9_isDone_46
        · have hf := o_f hf c13
          refine lv_iconst (v := (0 : Int32)) C.1.1 C.1.2.1 dX9_isDone_39 rfl ?_
          obtain rfl := Option.some.inj hf
          exact ret_z (r := (0 : Int32)) C hr hlk hw rfl dX9_isDone_40
    · have hf := o_t hf c2
      refine lv_aload_n C.1.1 C.1.2.1 dX9_isDone_15 rfl (lv_at hl 0 rfl) ?_
      refine lv_iload_n C.1.1 C.1.2.1 dX9_isDone_16 rfl (lv_at hl 2 rfl) ?_
      refine lv_iload_n C.1.1 C.1.2.1 dX9_isDone_17 rfl (lv_at hl 3 rfl) ?_
      obtain ⟨q15, h15, hf⟩ := o_bind hf
      refine aft_i hw (run_VM C hw clX9_370 (As := [.int x2, .int x3]) (rest := []) oM_0 (c_X9_isMoved h15) rfl hl.1 rfl ⟨(Nat.le_of_ble_eq_true rfl), (Nat.le_of_ble_eq_true rfl)⟩ ⟨Nat.zero_le _, Nat.zero_le _⟩ rfl (Nat.le_of_ble_eq_true rfl) dX9_isDone_18) (fun H locs hw => ?_)
      have g16 := (o_g hf).1
      have hf := (o_g hf).2
      obtain rfl := Option.some.inj hf
      exact ret_z (r := q15.2) C hr hlk hw (nar_z g16) dX9_isDone_21
  · have hf := o_t hf c1
    refine lv_aload_n C.1.1 C.1.2.1 dX9_isDone_5 rfl (lv_at hl 0 rfl) ?_
    obtain ⟨q17, h17, hf⟩ := o_bind hf
    refine aft_i hw (run_VM C hw clX9_379 (As := []) (rest := []) oM_0 (c_X9_isDrawn h17) rfl hl.1 rfl ⟨(Nat.le_of_ble_eq_true rfl), (Nat.le_of_ble_eq_true rfl)⟩ ⟨Nat.zero_le _, Nat.zero_le _⟩ rfl (Nat.le_of_ble_eq_true rfl) dX9_isDone_6) (fun H locs hw => ?_)
    have g18 := (o_g hf).1
    have hf := (o_g hf).2
    obtain rfl := Option.some.inj hf
    exact ret_z (r := q17.2) C hr hlk hw (nar_z g18) dX9_isDone_9
end
/-! WinnerDrawsModel.goesSteps(II)V (('o', 'M', 0) ('i',) ('i',)) -/
def L_X9_goesSteps_50 (rec : TX → Int32 → Int32 → Option (TX)) (k_2 : TX → Int32 → Int32 → Option (TX)) : Nat → TX → Int32 → Int32 → Int32 → Int32 → Option (TX)
  | 0 => fun _ _ _ _ _ => none
  | n + 1 => fun M x2 x3 x4 x5 => if inb (x3 + (1 : Int32)) 200 = true then (if (M 16 (Int32.toNatClampNeg (x3 + (1 : Int32)))) ≤ x5 then (k_2 M x2 x4) else (if (200 : Int32) ≤ (M 0 35) then (k_2 M x2 x4) else ((rec M (x3 + (4 : Int32)) x4).bind fun q15 => (L_X9_goesSteps_50 rec k_2 n) q15 x2 x3 x4 (x5 + (1 : Int32))))) else none
def L_X9_goesSteps_2 (rec : TX → Int32 → Int32 → Option (TX)) : Nat → TX → Int32 → Int32 → Option (TX)
  | 0 => fun _ _ _ => none
  | n + 1 => fun M x2 x3 => if x2 ≤ x3 then (some M) else (if (200 : Int32) ≤ (M 0 35) then (some M) else (if inb x3 200 = true then (if ((u2 M 0 35 ((M 0 35) + (1 : Int32))) 16 (Int32.toNatClampNeg x3)) = (4 : Int32) then (if inb (x3 + (2 : Int32)) 200 = true then (L_X9_goesSteps_50 rec (L_X9_goesSteps_2 rec n) FU (u2 M 0 35 ((M 0 35) + (1 : Int32))) x2 x3 ((u2 M 0 35 ((M 0 35) + (1 : Int32))) 16 (Int32.toNatClampNeg (x3 + (2 : Int32)))) (0 : Int32)) else none) else (if inb x3 200 = true then (if inb (x3 + (1 : Int32)) 200 = true then (if inb (x3 + (2 : Int32)) 200 = true then (if inb (x3 + (3 : Int32)) 200 = true then ((f_X9_isDone (u2 M 0 35 ((M 0 35) + (1 : Int32))) ((u2 M 0 35 ((M 0 35) + (1 : Int32))) 16 (Int32.toNatClampNeg x3)) ((u2 M 0 35 ((M 0 35) + (1 : Int32))) 16 (Int32.toNatClampNeg (x3 + (1 : Int32)))) ((u2 M 0 35 ((M 0 35) + (1 : Int32))) 16 (Int32.toNatClampNeg (x3 + (2 : Int32)))) ((u2 M 0 35 ((M 0 35) + (1 : Int32))) 16 (Int32.toNatClampNeg (x3 + (3 : Int32))))).bind fun q9 => if q9.2 = 0 then ((L_X9_goesSteps_2 rec n) (u2 q9.1 0 37 ((q9.1 0 37) + (1 : Int32))) x2 (x3 + (4 : Int32))) else ((L_X9_goesSteps_2 rec n) (u2 q9.1 0 36 ((q9.1 0 36) + (1 : Int32))) x2 (x3 + (4 : Int32)))) else none) else none) else none) else none)) else none))
def f_X9_goesSteps : Nat → TX → Int32 → Int32 → Option (TX)
  | 0 => fun _ _ _ => none
  | d + 1 => fun M x1 x2 => L_X9_goesSteps_2 (f_X9_goesSteps d) FU M x2 x1
section
variable {G : GP} {l : Launch}
set_option maxRecDepth 20000 in
set_option maxHeartbeats 2000000 in
theorem wL_X9_goesSteps_50 {rec : TX → Int32 → Int32 → Option (TX)} {d : Nat} (hrec : ∀ {X M : TX} {L : TL} {x1 : Int32} {x2 : Int32} {ro : TX}, rec M x1 x2 = some ro → CTv G l yX9_goesSteps cX9_goesSteps 6 none (8 + 8 * d) (192 + 192 * d) [.ref (gA G (41 + 0)), .int x1, .int x2] X M L X ro L) {p : Program} {e : Env} {s : State} {m : MethodId} {args : Array Value} {below : List Frame} {meth : Method} {c : Code} (C : Cx G p s m args c cX9_goesSteps 6 RX9) (hr : meth.sig.returnType = none) (hlk : meth.locks = false) {ro : TX} {k_2 : TX → Int32 → Int32 → Option (TX)} (hk_2 : ∀ (X : TX) (M : TX) (L : TL) (x2 : Int32) (x3 : Int32) (H : Heap) (locs : List Loc) (ls : Array Slot), Wh G s X M L H locs → lv_has ls 6 [(0, .ref (gA G (41 + 0))), (2, .int x2), (3, .int x3)] → k_2 M x2 x3 = some ro → W p l e (rz (8 + 8 * (d + 1)) (192 + 192 * (d + 1))) s m args below meth c H locs 0 0 (MQ below (Dv G X ro L) args s 0 0 (AB G)) (F0 m 2 ls [])) : ∀ (n : Nat), ∀ (X : TX) (M : TX) (L : TL) (x2 : Int32) (x3 : Int32) (x4 : Int32) (x5 : Int32) (H : Heap) (locs : List Loc) (ls : Array Slot), Wh G s X M L H locs → lv_has ls 6 [(0, .ref (gA G (41 + 0))), (2, .int x2), (3, .int x3), (4, .int x4), (5, .int x5)] → L_X9_goesSteps_50 rec k_2 n M x2 x3 x4 x5 = some ro → W p l e (rz (8 + 8 * (d + 1)) (192 + 192 * (d + 1))) s m args below meth c H locs 0 0 (MQ below (Dv G X ro L) args s 0 0 (AB G)) (F0 m 50 ls []) := by
  intro n
  induction n with
  | zero =>
    intro X M L x2 x3 x4 x5 H locs ls hw hl hf
    cases hf
  | succ n hk_50 =>
    intro X M L x2 x3 x4 x5 H locs ls hw hl hf
    rw [L_X9_goesSteps_50] at hf
    refine lv_iload C.1.1 C.1.2.1 dX9_goesSteps_50 (lv_at hl 4 rfl) ?_
    refine lv_aload_n C.1.1 C.1.2.1 dX9_goesSteps_52 rfl (lv_at hl 0 rfl) ?_
    refine m_ref C hw fM_0_31 flX9_62 dX9_goesSteps_53 ?_
    refine lv_iload_n C.1.1 C.1.2.1 dX9_goesSteps_56 rfl (lv_at hl 2 rfl) ?_
    refine lv_iconst (v := (1 : Int32)) C.1.1 C.1.2.1 dX9_goesSteps_57 rfl ?_
    refine lv_iadd C.1.1 C.1.2.1 dX9_goesSteps_58 ?_
    have g12 := inb_in (o_g hf).1
    have hf := (o_g hf).2
    refine m_ald C hw aM_16 g12 dX9_goesSteps_59 ?_
    refine lv_icmp_ge (tgt := 88) C.1.1 C.1.2.1 dX9_goesSteps_60 (by decide) (fun c13 => ?_) (fun c13 => ?_)
    · have hf := o_t hf c13
      refine lv_iload C.1.1 C.1.2.1 dX9_goesSteps_88 (lv_at hl 3 rfl) ?_
      refine lv_istore_n (lv' := [(3, .int x4), (0, .ref (gA G (41 + 0))), (2, .int x2), (4, .int x4), (5, .int x5)]) C.1.1 C.1.2.1 dX9_goesSteps_90 rfl hl (by decide) rfl (fun ls hl => ?_)
      refine lv_goto (tgt := 2) C.1.1 C.1.2.1 dX9_goesSteps_91 (by decide) ?_
      exact hk_2 X M L x2 x4 _ _ _ hw (lv_sub hl [1, 2, 0] rfl) hf
    · have hf := o_f hf c13
      refine lv_aload_n C.1.1 C.1.2.1 dX9_goesSteps_63 rfl (lv_at hl 0 rfl) ?_
      refine m_get C hw iM_0_35 flX9_310 dX9_goesSteps_64 ?_
      refine lv_sipush (v := (200 : Int32)) C.1.1 C.1.2.1 dX9_goesSteps_67 rfl ?_
      refine lv_icmp_ge (tgt := 88) C.1.1 C.1.2.1 dX9_goesSteps_70 (by decide) (fun c14 => ?_) (fun c14 => ?_)
      · have hf := o_t hf c14
        refine lv_iload C.1.1 C.1.2.1 dX9_goesSteps_88 (lv_at hl 3 rfl) ?_
        refine lv_istore_n (lv' := [(3, .int x4), (0, .ref (gA G (41 + 0))), (2, .int x2), (4, .int x4), (5, .int x5)]) C.1.1 C.1.2.1 dX9_goesSteps_90 rfl hl (by decide) rfl (fun ls hl => ?_)
        refine lv_goto (tgt := 2) C.1.1 C.1.2.1 dX9_goesSteps_91 (by decide) ?_
        exact hk_2 X M L x2 x4 _ _ _ hw (lv_sub hl [1, 2, 0] rfl) hf
      · have hf := o_f hf c14
        refine lv_aload_n C.1.1 C.1.2.1 dX9_goesSteps_73 rfl (lv_at hl 0 rfl) ?_
        refine lv_iload_n C.1.1 C.1.2.1 dX9_goesSteps_74 rfl (lv_at hl 2 rfl) ?_
        refine lv_iconst (v := (4 : Int32)) C.1.1 C.1.2.1 dX9_goesSteps_75 rfl ?_
        refine lv_iadd C.1.1 C.1.2.1 dX9_goesSteps_76 ?_
        refine lv_iload C.1.1 C.1.2.1 dX9_goesSteps_77 (lv_at hl 3 rfl) ?_
        obtain ⟨q15, h15, hf⟩ := o_bind hf
        refine aft_v hw (run_VM C hw clX9_319 (As := [.int (x3 + (4 : Int32)), .int x4]) (rest := []) oM_0 (hrec h15) rfl hl.1 rfl ⟨(by show (8 + 8 * d) + 1 ≤ 8 + 8 * (d + 1); omega), (by show 8 + (6 + 11) + (192 + 192 * d) ≤ 192 + 192 * (d + 1); omega)⟩ ⟨Nat.zero_le _, Nat.zero_le _⟩ rfl (Nat.le_of_ble_eq_true rfl) dX9_goesSteps_79) (fun H locs hw => ?_)
        refine lv_iinc (v := (x5 + (1 : Int32))) (lv' := [(5, .int (x5 + (1 : Int32))), (0, .ref (gA G (41 + 0))), (2, .int x2), (3, .int x3), (4, .int x4)]) C.1.1 C.1.2.1 dX9_goesSteps_82 hl (k := 4) rfl rfl (by decide) rfl (fun ls hl => ?_)
        refine lv_goto (tgt := 50) C.1.1 C.1.2.1 dX9_goesSteps_85 (by decide) ?_
        exact hk_50 X q15 L x2 x3 x4 (x5 + (1 : Int32)) _ _ _ hw (lv_sub hl [1, 2, 3, 4, 0] rfl) hf
set_option maxRecDepth 20000 in
set_option maxHeartbeats 2000000 in
theorem wL_X9_goesSteps_2 {rec : TX → Int32 → Int32 → Option (TX)} {d : Nat} (hrec : ∀ {X M : TX} {L : TL} {x1 : Int32} {x2 : Int32} {ro : TX}, rec M x1 x2 = some ro → CTv G l yX9_goesSteps cX9_goesSteps 6 none (8 + 8 * d) (192 + 192 * d) [.ref (gA G (41 + 0)), .int x1, .int x2] X M L X ro L) {p : Program} {e : Env} {s : State} {m : MethodId} {args : Array Value} {below : List Frame} {meth : Method} {c : Code} (C : Cx G p s m args c cX9_goesSteps 6 RX9) (hr : meth.sig.returnType = none) (hlk : meth.locks = false) {ro : TX} : ∀ (n : Nat), ∀ (X : TX) (M : TX) (L : TL) (x2 : Int32) (x3 : Int32) (H : Heap) (locs : List Loc) (ls : Array Slot), Wh G s X M L H locs → lv_has ls 6 [(0, .ref (gA G (41 + 0))), (2, .int x2), (3, .int x3)] → L_X9_goesSteps_2 rec n M x2 x3 = some ro → W p l e (rz (8 + 8 * (d + 1)) (192 + 192 * (d + 1))) s m args below meth c H locs 0 0 (MQ below (Dv G X ro L) args s 0 0 (AB G)) (F0 m 2 ls []) := by
  intro n
  induction n with
  | zero =>
    intro X M L x2 x3 H locs ls hw hl hf
    cases hf
  | succ n hk_2 =>
    intro X M L x2 x3 H locs ls hw hl hf
    rw [L_X9_goesSteps_2] at hf
    refine lv_iload_n C.1.1 C.1.2.1 dX9_goesSteps_2 rfl (lv_at hl 2 rfl) ?_
    refine lv_iload_n C.1.1 C.1.2.1 dX9_goesSteps_3 rfl (lv_at hl 1 rfl) ?_
    refine lv_icmp_ge (tgt := 160) C.1.1 C.1.2.1 dX9_goesSteps_4 (by decide) (fun c1 => ?_) (fun c1 => ?_)
    · have hf := o_t hf c1
      obtain rfl := Option.some.inj hf
      exact ret_v C hr hlk hw dX9_goesSteps_160
    · have hf := o_f hf c1
      refine lv_aload_n C.1.1 C.1.2.1 dX9_goesSteps_7 rfl (lv_at hl 0 rfl) ?_
      refine m_get C hw iM_0_35 flX9_310 dX9_goesSteps_8 ?_
      refine lv_sipush (v := (200 : Int32)) C.1.1 C.1.2.1 dX9_goesSteps_11 rfl ?_
      refine lv_icmp_ge (tgt := 160) C.1.1 C.1.2.1 dX9_goesSteps_14 (by decide) (fun c2 => ?_) (fun c2 => ?_)
      · have hf := o_t hf c2
        obtain rfl := Option.some.inj hf
        exact ret_v C hr hlk hw dX9_goesSteps_160
      · have hf := o_f hf c2
        refine lv_aload_n C.1.1 C.1.2.1 dX9_goesSteps_17 rfl (lv_at hl 0 rfl) ?_
        refine lv_dup C.1.1 C.1.2.1 dX9_goesSteps_18 rfl ?_
        refine m_get C hw iM_0_35 flX9_310 dX9_goesSteps_19 ?_
        refine lv_iconst (v := (1 : Int32)) C.1.1 C.1.2.1 dX9_goesSteps_22 rfl ?_
        refine lv_iadd C.1.1 C.1.2.1 dX9_goesSteps_23 ?_
        refine m_put C hw iM_0_35 flX9_310 dX9_goesSteps_24 (fun H locs hw => ?_)
        refine lv_aload_n C.1.1 C.1.2.1 dX9_goesSteps_27 rfl (lv_at hl 0 rfl) ?_
        refine m_ref C hw fM_0_31 flX9_62 dX9_goesSteps_28 ?_
        refine lv_iload_n C.1.1 C.1.2.1 dX9_goesSteps_31 rfl (lv_at hl 2 rfl) ?_
        have g3 := inb_in (o_g hf).1
        have hf := (o_g hf).2
        refine m_ald C hw aM_16 g3 dX9_goesSteps_32 ?_
        refine lv_iconst (v := (4 : Int32)) C.1.1 C.1.2.1 dX9_goesSteps_33 rfl ?_
        refine lv_icmp_ne (tgt := 94) C.1.1 C.1.2.1 dX9_goesSteps_34 (by decide) (fun c4 => ?_) (fun c4 => ?_)
        · have hf := o_f hf c4
          refine lv_aload_n C.1.1 C.1.2.1 dX9_goesSteps_94 rfl (lv_at hl 0 rfl) ?_
          refine lv_aload_n C.1.1 C.1.2.1 dX9_goesSteps_95 rfl (lv_at hl 0 rfl) ?_
          refine m_ref C hw fM_0_31 flX9_62 dX9_goesSteps_96 ?_
          refine lv_iload_n C.1.1 C.1.2.1 dX9_goesSteps_99 rfl (lv_at hl 2 rfl) ?_
          have g5 := inb_in (o_g hf).1
          have hf := (o_g hf).2
          refine m_ald C hw aM_16 g5 dX9_goesSteps_100 ?_
          refine lv_aload_n C.1.1 C.1.2.1 dX9_goesSteps_101 rfl (lv_at hl 0 rfl) ?_
          refine m_ref C hw fM_0_31 flX9_62 dX9_goesSteps_102 ?_
          refine lv_iload_n C.1.1 C.1.2.1 dX9_goesSteps_105 rfl (lv_at hl 2 rfl) ?_
          refine lv_iconst (v := (1 : Int32)) C.1.1 C.1.2.1 dX9_goesSteps_106 rfl ?_
          refine lv_iadd C.1.1 C.1.2.1 dX9_goesSteps_107 ?_
          have g6 := inb_in (o_g hf).1
          have hf := (o_g hf).2
          refine m_ald C hw aM_16 g6 dX9_goesSteps_108 ?_
          refine lv_aload_n C.1.1 C.1.2.1 dX9_goesSteps_109 rfl (lv_at hl 0 rfl) ?_
          refine m_ref C hw fM_0_31 flX9_62 dX9_goesSteps_110 ?_
          refine lv_iload_n C.1.1 C.1.2.1 dX9_goesSteps_113 rfl (lv_at hl 2 rfl) ?_
          refine lv_iconst (v := (2 : Int32)) C.1.1 C.1.2.1 dX9_goesSteps_114 rfl ?_
          refine lv_iadd C.1.1 C.1.2.1 dX9_goesSteps_115 ?_
          have g7 := inb_in (o_g hf).1
          have hf := (o_g hf).2
          refine m_ald C hw aM_16 g7 dX9_goesSteps_116 ?_
          refine lv_aload_n C.1.1 C.1.2.1 dX9_goesSteps_117 rfl (lv_at hl 0 rfl) ?_
          refine m_ref C hw fM_0_31 flX9_62 dX9_goesSteps_118 ?_
          refine lv_iload_n C.1.1 C.1.2.1 dX9_goesSteps_121 rfl (lv_at hl 2 rfl) ?_
          refine lv_iconst (v := (3 : Int32)) C.1.1 C.1.2.1 dX9_goesSteps_122 rfl ?_
          refine lv_iadd C.1.1 C.1.2.1 dX9_goesSteps_123 ?_
          have g8 := inb_in (o_g hf).1
          have hf := (o_g hf).2
          refine m_ald C hw aM_16 g8 dX9_goesSteps_124 ?_
          obtain ⟨q9, h9, hf⟩ := o_bind hf
          refine aft_i hw (run_VM C hw clX9_322 (As := [.int ((u2 M 0 35 ((M 0 35) + (1 : Int32))) 16 (Int32.toNatClampNeg x3)), .int ((u2 M 0 35 ((M 0 35) + (1 : Int32))) 16 (Int32.toNatClampNeg (x3 + (1 : Int32)))), .int ((u2 M 0 35 ((M 0 35) + (1 : Int32))) 16 (Int32.toNatClampNeg (x3 + (2 : Int32)))), .int ((u2 M 0 35 ((M 0 35) + (1 : Int32))) 16 (Int32.toNatClampNeg (x3 + (3 : Int32))))]) (rest := []) oM_0 (c_X9_isDone h9) rfl hl.1 rfl ⟨(by show 7 + 1 ≤ 8 + 8 * (d + 1); omega), (by show 8 + (5 + 11) + 168 ≤ 192 + 192 * (d + 1); omega)⟩ ⟨Nat.zero_le _, Nat.zero_le _⟩ rfl (Nat.le_of_ble_eq_true rfl) dX9_goesSteps_125) (fun H locs hw => ?_)
          refine lv_if_eq (tgt := 144) C.1.1 C.1.2.1 dX9_goesSteps_128 (by decide) (fun c10 => ?_) (fun c10 => ?_)
          · have hf := o_t hf c10
            refine lv_aload_n C.1.1 C.1.2.1 dX9_goesSteps_144 rfl (lv_at hl 0 rfl) ?_
            refine lv_dup C.1.1 C.1.2.1 dX9_goesSteps_145 rfl ?_
            refine m_get C hw iM_0_37 flX9_316 dX9_goesSteps_146 ?_
            refine lv_iconst (v := (1 : Int32)) C.1.1 C.1.2.1 dX9_goesSteps_149 rfl ?_
            refine lv_iadd C.1.1 C.1.2.1 dX9_goesSteps_150 ?_
            refine m_put C hw iM_0_37 flX9_316 dX9_goesSteps_151 (fun H locs hw => ?_)
            refine lv_iinc (v := (x3 + (4 : Int32))) (lv' := [(3, .int (x3 + (4 : Int32))), (0, .ref (gA G (41 + 0))), (2, .int x2)]) C.1.1 C.1.2.1 dX9_goesSteps_154 hl (k := 2) rfl rfl (by decide) rfl (fun ls hl => ?_)
            refine lv_goto (tgt := 2) C.1.1 C.1.2.1 dX9_goesSteps_157 (by decide) ?_
            exact hk_2 X (u2 q9.1 0 37 ((q9.1 0 37) + (1 : Int32))) L x2 (x3 + (4 : Int32)) _ _ _ hw (lv_sub hl [1, 2, 0] rfl) hf
          · have hf := o_f hf c10
            refine lv_aload_n C.1.1 C.1.2.1 dX9_goesSteps_131 rfl (lv_at hl 0 rfl) ?_
            refine lv_dup C.1.1 C.1.2.1 dX9_goesSteps_132 rfl ?_
            refine m_get C hw iM_0_36 flX9_313 dX9_goesSteps_133 ?_
            refine lv_iconst (v := (1 : Int32)) C.1.1 C.1.2.1 dX9_goesSteps_136 rfl ?_
            refine lv_iadd C.1.1 C.1.2.1 dX9_goesSteps_137 ?_
            refine m_put C hw iM_0_36 flX9_313 dX9_goesSteps_138 (fun H locs hw => ?_)
            refine lv_goto (tgt := 154) C.1.1 C.1.2.1 dX9_goesSteps_141 (by decide) ?_
            refine lv_iinc (v := (x3 + (4 : Int32))) (lv' := [(3, .int (x3 + (4 : Int32))), (0, .ref (gA G (41 + 0))), (2, .int x2)]) C.1.1 C.1.2.1 dX9_goesSteps_154 hl (k := 2) rfl rfl (by decide) rfl (fun ls hl => ?_)
            refine lv_goto (tgt := 2) C.1.1 C.1.2.1 dX9_goesSteps_157 (by decide) ?_
            exact hk_2 X (u2 q9.1 0 36 ((q9.1 0 36) + (1 : Int32))) L x2 (x3 + (4 : Int32)) _ _ _ hw (lv_sub hl [1, 2, 0] rfl) hf
        · have hf := o_t hf c4
          refine lv_aload_n C.1.1 C.1.2.1 dX9_goesSteps_37 rfl (lv_at hl 0 rfl) ?_
          refine m_ref C hw fM_0_31 flX9_62 dX9_goesSteps_38 ?_
          refine lv_iload_n C.1.1 C.1.2.1 dX9_goesSteps_41 rfl (lv_at hl 2 rfl) ?_
          refine lv_iconst (v := (2 : Int32)) C.1.1 C.1.2.1 dX9_goesSteps_42 rfl ?_
          refine lv_iadd C.1.1 C.1.2.1 dX9_goesSteps_43 ?_
          have g11 := inb_in (o_g hf).1
          have hf := (o_g hf).2
          refine m_ald C hw aM_16 g11 dX9_goesSteps_44 ?_
          refine lv_istore (lv' := [(4, .int ((u2 M 0 35 ((M 0 35) + (1 : Int32))) 16 (Int32.toNatClampNeg (x3 + (2 : Int32))))), (0, .ref (gA G (41 + 0))), (2, .int x2), (3, .int x3)]) C.1.1 C.1.2.1 dX9_goesSteps_45 hl (by decide) rfl (fun ls hl => ?_)
          refine lv_iconst (v := (0 : Int32)) C.1.1 C.1.2.1 dX9_goesSteps_47 rfl ?_
          refine lv_istore (lv' := [(5, .int (0 : Int32)), (4, .int ((u2 M 0 35 ((M 0 35) + (1 : Int32))) 16 (Int32.toNatClampNeg (x3 + (2 : Int32))))), (0, .ref (gA G (41 + 0))), (2, .int x2), (3, .int x3)]) C.1.1 C.1.2.1 dX9_goesSteps_48 hl (by decide) rfl (fun ls hl => ?_)
          exact wL_X9_goesSteps_50 hrec C hr hlk hk_2 FU X (u2 M 0 35 ((M 0 35) + (1 : Int32))) L x2 x3 ((u2 M 0 35 ((M 0 35) + (1 : Int32))) 16 (Int32.toNatClampNeg (x3 + (2 : Int32)))) (0 : Int32) _ _ _ hw (lv_sub hl [2, 3, 4, 1, 0] rfl) hf
set_option maxRecDepth 20000 in
set_option maxHeartbeats 2000000 in
theorem c_X9_goesSteps : ∀ (d : Nat), ∀ {X M : TX} {L : TL} {x1 : Int32} {x2 : Int32} {ro : TX}, f_X9_goesSteps d M x1 x2 = some ro → CTv G l yX9_goesSteps cX9_goesSteps 6 none (8 + 8 * d) (192 + 192 * d) [.ref (gA G (41 + 0)), .int x1, .int x2] X M L X ro L := by
  intro d
  induction d with
  | zero =>
    intro X M L x1 x2 ro hf
    cases hf
  | succ d hrec =>
    intro X M L x1 x2 ro hf
    rw [f_X9_goesSteps] at hf
    refine ct_of (by decide +kernel) (Nat.le_of_ble_eq_true rfl) (fun p e s m args below meth c H locs ls C hr hlk hw hl => ?_)
    have C : Cx G p s m args c cX9_goesSteps 6 RX9 := C
    have hl : lv_has ls 6 [(0, .ref (gA G (41 + 0))), (1, .int x1), (2, .int x2)] := hl
    refine lv_iload_n C.1.1 C.1.2.1 dX9_goesSteps_0 rfl (lv_at hl 1 rfl) ?_
    refine lv_istore_n (lv' := [(3, .int x1), (0, .ref (gA G (41 + 0))), (1, .int x1), (2, .int x2)]) C.1.1 C.1.2.1 dX9_goesSteps_1 rfl hl (by decide) rfl (fun ls hl => ?_)
    exact wL_X9_goesSteps_2 hrec C hr hlk FU X M L x2 x1 _ _ _ hw (lv_sub hl [1, 3, 0] rfl) hf
end
/-! WinnerDrawsModel.work(I)I (('o', 'M', 0) ('i',)) -/
def L_X9_work_123 : Nat → TX → Int32 → Option (TX × Int32)
  | 0 => fun _ _ => none
  | n + 1 => fun M x3 => if (34 : Int32) ≤ x3 then ((f_X9_take (u2 M 0 33 ((M 0 33) + (1 : Int32)))).bind fun q12 => (f_X9_goesSteps 8 (u2 (u2 (u2 q12 0 35 (0 : Int32)) 0 36 (0 : Int32)) 0 37 (0 : Int32)) (0 : Int32) ((u2 (u2 (u2 q12 0 35 (0 : Int32)) 0 36 (0 : Int32)) 0 37 (0 : Int32)) 0 32)).bind fun q13 => (f_X9_copies 20 19 q13 (34 : Int32)).bind fun q14 => some ((u2 q14 0 34 (q14 0 37)), ((u2 q14 0 34 (q14 0 37)) 0 36))) else (if inb x3 34 = true then (if inb (((34 : Int32) * (M 0 33)) + x3) 544 = true then ((L_X9_work_123 n) (u2 M 21 (Int32.toNatClampNeg (((34 : Int32) * (M 0 33)) + x3)) (M 19 (Int32.toNatClampNeg x3))) (x3 + (1 : Int32))) else none) else none)
def L_X9_work_68 : Nat → TX → Option (TX × Int32)
  | 0 => fun _ => none
  | n + 1 => fun M => (f_X9_fine M).bind fun q6 => if q6 = 0 then ((f_X9_result M (0 : Int32)).bind fun q8 => if (q8.1 0 5) = (-1 : Int32) then ((f_X9_copies 15 16 q8.1 (q8.1 0 32)).bind fun q10 => L_X9_work_123 FU q10 (0 : Int32)) else (some (q8.1, q8.2))) else ((f_X9_isMore M).bind fun q17 => if q17.2 = 0 then ((f_X9_result q17.1 (0 : Int32)).bind fun q19 => if (q19.1 0 5) = (-1 : Int32) then ((f_X9_copies 15 16 q19.1 (q19.1 0 32)).bind fun q21 => L_X9_work_123 FU q21 (0 : Int32)) else (some (q19.1, q19.2))) else ((f_X9_readStep 8 q17.1).bind fun q22 => (L_X9_work_68 n) q22))
def B_X9_work_30 (M : TX) (x1 : Int32) (t0 : Int32) : Option (TX × Int32) := (f_X9_lets M t0 (1 : Int32) (1 : Int32)).bind fun q2 => if q2.2 = 0 then (some (q2.1, (0 : Int32))) else ((f_X9_begins q2.1 x1).bind fun q4 => if (q4 0 33) = (16 : Int32) then ((f_X9_result q4 (0 : Int32)).bind fun q23 => some (q23.1, (-20 : Int32))) else (L_X9_work_68 FU (u2 q4 0 32 (0 : Int32))))
def f_X9_work (M : TX) (x1 : Int32) : Option (TX × Int32) := if x1 < 0 then (B_X9_work_30 (u2 M 0 0 (0 : Int32)) x1 (0 : Int32)) else (if ((u2 M 0 0 (0 : Int32)) 0 2) < x1 then (B_X9_work_30 (u2 M 0 0 (0 : Int32)) x1 (0 : Int32)) else (if (150 : Int32) < x1 then (B_X9_work_30 (u2 M 0 0 (0 : Int32)) x1 (0 : Int32)) else (B_X9_work_30 (u2 M 0 0 (0 : Int32)) x1 (1 : Int32))))
section
variable {G : GP} {l : Launch}
set_option maxRecDepth 20000 in
set_option maxHeartbeats 2000000 in
theorem wL_X9_work_123 {p : Program} {e : Env} {s : State} {m : MethodId} {args : Array Value} {below : List Frame} {meth : Method} {c : Code} (C : Cx G p s m args c cX9_work 4 RX9) (hr : meth.sig.returnType = (some .int)) (hlk : meth.locks = false) {ro : TX × Int32} : ∀ (n : Nat), ∀ (X : TX) (M : TX) (L : TL) (x3 : Int32) (H : Heap) (locs : List Loc) (ls : Array Slot), Wh G s X M L H locs → lv_has ls 4 [(0, .ref (gA G (41 + 0))), (3, .int x3)] → L_X9_work_123 n M x3 = some ro → W p l e (rz 73 2030) s m args below meth c H locs 0 0 (MQ below (Di G X ro.1 L ro.2) args s 0 0 (AB G)) (F0 m 123 ls []) := by
  intro n
  induction n with
  | zero =>
    intro X M L x3 H locs ls hw hl hf
    cases hf
  | succ n hk_123 =>
    intro X M L x3 H locs ls hw hl hf
    rw [L_X9_work_123] at hf
    refine lv_iload_n C.1.1 C.1.2.1 dX9_work_123 rfl (lv_at hl 1 rfl) ?_
    refine lv_bipush (v := (34 : Int32)) C.1.1 C.1.2.1 dX9_work_124 rfl ?_
    refine lv_icmp_ge (tgt := 155) C.1.1 C.1.2.1 dX9_work_126 (by decide) (fun c11 => ?_) (fun c11 => ?_)
    · have hf := o_t hf c11
      refine lv_aload_n C.1.1 C.1.2.1 dX9_work_155 rfl (lv_at hl 0 rfl) ?_
      refine lv_dup C.1.1 C.1.2.1 dX9_work_156 rfl ?_
      refine m_get C hw iM_0_33 flX9_176 dX9_work_157 ?_
      refine lv_iconst (v := (1 : Int32)) C.1.1 C.1.2.1 dX9_work_160 rfl ?_
      refine lv_iadd C.1.1 C.1.2.1 dX9_work_161 ?_
      refine m_put C hw iM_0_33 flX9_176 dX9_work_162 (fun H locs hw => ?_)
      refine lv_aload_n C.1.1 C.1.2.1 dX9_work_165 rfl (lv_at hl 0 rfl) ?_
      obtain ⟨q12, h12, hf⟩ := o_bind hf
      refine aft_v hw (run_VM C hw clX9_307 (As := []) (rest := []) oM_0 (c_X9_take h12) rfl hl.1 rfl ⟨(Nat.le_of_ble_eq_true rfl), (Nat.le_of_ble_eq_true rfl)⟩ ⟨Nat.zero_le _, Nat.zero_le _⟩ rfl (Nat.le_of_ble_eq_true rfl) dX9_work_166) (fun H locs hw => ?_)
      refine lv_aload_n C.1.1 C.1.2.1 dX9_work_169 rfl (lv_at hl 0 rfl) ?_
      refine lv_iconst (v := (0 : Int32)) C.1.1 C.1.2.1 dX9_work_170 rfl ?_
      refine m_put C hw iM_0_35 flX9_310 dX9_work_171 (fun H locs hw => ?_)
      refine lv_aload_n C.1.1 C.1.2.1 dX9_work_174 rfl (lv_at hl 0 rfl) ?_
      refine lv_iconst (v := (0 : Int32)) C.1.1 C.1.2.1 dX9_work_175 rfl ?_
      refine m_put C hw iM_0_36 flX9_313 dX9_work_176 (fun H locs hw => ?_)
      refine lv_aload_n C.1.1 C.1.2.1 dX9_work_179 rfl (lv_at hl 0 rfl) ?_
      refine lv_iconst (v := (0 : Int32)) C.1.1 C.1.2.1 dX9_work_180 rfl ?_
      refine m_put C hw iM_0_37 flX9_316 dX9_work_181 (fun H locs hw => ?_)
      refine lv_aload_n C.1.1 C.1.2.1 dX9_work_184 rfl (lv_at hl 0 rfl) ?_
      refine lv_iconst (v := (0 : Int32)) C.1.1 C.1.2.1 dX9_work_185 rfl ?_
      refine lv_aload_n C.1.1 C.1.2.1 dX9_work_186 rfl (lv_at hl 0 rfl) ?_
      refine m_get C hw iM_0_32 flX9_281 dX9_work_187 ?_
      obtain ⟨q13, h13, hf⟩ := o_bind hf
      refine aft_v hw (run_VM C hw clX9_319 (As := [.int (0 : Int32), .int ((u2 (u2 (u2 q12 0 35 (0 : Int32)) 0 36 (0 : Int32)) 0 37 (0 : Int32)) 0 32)]) (rest := []) oM_0 (c_X9_goesSteps 8 h13) rfl hl.1 rfl ⟨(Nat.le_of_ble_eq_true rfl), (Nat.le_of_ble_eq_true rfl)⟩ ⟨Nat.zero_le _, Nat.zero_le _⟩ rfl (Nat.le_of_ble_eq_true rfl) dX9_work_190) (fun H locs hw => ?_)
      refine lv_aload_n C.1.1 C.1.2.1 dX9_work_193 rfl (lv_at hl 0 rfl) ?_
      refine lv_aload_n C.1.1 C.1.2.1 dX9_work_194 rfl (lv_at hl 0 rfl) ?_
      refine m_ref C hw fM_0_42 flX9_74 dX9_work_195 ?_
      refine lv_aload_n C.1.1 C.1.2.1 dX9_work_198 rfl (lv_at hl 0 rfl) ?_
      refine m_ref C hw fM_0_41 flX9_71 dX9_work_199 ?_
      refine lv_bipush (v := (34 : Int32)) C.1.1 C.1.2.1 dX9_work_202 rfl ?_
      obtain ⟨q14, h14, hf⟩ := o_bind hf
      refine aft_v hw (run_VM C hw clX9_166 (As := [.ref (gA G (41 + 20)), .ref (gA G (41 + 19)), .int (34 : Int32)]) (rest := []) oM_0 (c_X9_copies aM_20 aM_19 h14) rfl hl.1 rfl ⟨(Nat.le_of_ble_eq_true rfl), (Nat.le_of_ble_eq_true rfl)⟩ ⟨Nat.zero_le _, Nat.zero_le _⟩ rfl (Nat.le_of_ble_eq_true rfl) dX9_work_204) (fun H locs hw => ?_)
      refine lv_aload_n C.1.1 C.1.2.1 dX9_work_207 rfl (lv_at hl 0 rfl) ?_
      refine lv_aload_n C.1.1 C.1.2.1 dX9_work_208 rfl (lv_at hl 0 rfl) ?_
      refine m_get C hw iM_0_37 flX9_316 dX9_work_209 ?_
      refine m_put C hw iM_0_34 flX9_182 dX9_work_212 (fun H locs hw => ?_)
      refine lv_aload_n C.1.1 C.1.2.1 dX9_work_215 rfl (lv_at hl 0 rfl) ?_
      refine m_get C hw iM_0_36 flX9_313 dX9_work_216 ?_
      obtain rfl := Option.some.inj hf
      exact ret_i C hr hlk hw dX9_work_219
    · have hf := o_f hf c11
      refine lv_aload_n C.1.1 C.1.2.1 dX9_work_129 rfl (lv_at hl 0 rfl) ?_
      refine m_ref C hw fM_0_43 flX9_77 dX9_work_130 ?_
      refine lv_bipush (v := (34 : Int32)) C.1.1 C.1.2.1 dX9_work_133 rfl ?_
      refine lv_aload_n C.1.1 C.1.2.1 dX9_work_135 rfl (lv_at hl 0 rfl) ?_
      refine m_get C hw iM_0_33 flX9_176 dX9_work_136 ?_
      refine lv_imul C.1.1 C.1.2.1 dX9_work_139 ?_
      refine lv_iload_n C.1.1 C.1.2.1 dX9_work_140 rfl (lv_at hl 1 rfl) ?_
      refine lv_iadd C.1.1 C.1.2.1 dX9_work_141 ?_
      refine lv_aload_n C.1.1 C.1.2.1 dX9_work_142 rfl (lv_at hl 0 rfl) ?_
      refine m_ref C hw fM_0_41 flX9_71 dX9_work_143 ?_
      refine lv_iload_n C.1.1 C.1.2.1 dX9_work_146 rfl (lv_at hl 1 rfl) ?_
      have g15 := inb_in (o_g hf).1
      have hf := (o_g hf).2
      refine m_ald C hw aM_19 g15 dX9_work_147 ?_
      have g16 := inb_in (o_g hf).1
      have hf := (o_g hf).2
      refine m_ast C hw aM_21 g16 dX9_work_148 (fun H locs hw => ?_)
      refine lv_iinc (v := (x3 + (1 : Int32))) (lv' := [(3, .int (x3 + (1 : Int32))), (0, .ref (gA G (41 + 0)))]) C.1.1 C.1.2.1 dX9_work_149 hl (k := 1) rfl rfl (by decide) rfl (fun ls hl => ?_)
      refine lv_goto (tgt := 123) C.1.1 C.1.2.1 dX9_work_152 (by decide) ?_
      exact hk_123 X (u2 M 21 (Int32.toNatClampNeg (((34 : Int32) * (M 0 33)) + x3)) (M 19 (Int32.toNatClampNeg x3))) L (x3 + (1 : Int32)) _ _ _ hw (lv_sub hl [1, 0] rfl) hf
set_option maxRecDepth 20000 in
set_option maxHeartbeats 2000000 in
theorem wL_X9_work_68 {p : Program} {e : Env} {s : State} {m : MethodId} {args : Array Value} {below : List Frame} {meth : Method} {c : Code} (C : Cx G p s m args c cX9_work 4 RX9) (hr : meth.sig.returnType = (some .int)) (hlk : meth.locks = false) {ro : TX × Int32} : ∀ (n : Nat), ∀ (X : TX) (M : TX) (L : TL)  (H : Heap) (locs : List Loc) (ls : Array Slot), Wh G s X M L H locs → lv_has ls 4 [(0, .ref (gA G (41 + 0)))] → L_X9_work_68 n M = some ro → W p l e (rz 73 2030) s m args below meth c H locs 0 0 (MQ below (Di G X ro.1 L ro.2) args s 0 0 (AB G)) (F0 m 68 ls []) := by
  intro n
  induction n with
  | zero =>
    intro X M L H locs ls hw hl hf
    cases hf
  | succ n hk_68 =>
    intro X M L H locs ls hw hl hf
    rw [L_X9_work_68] at hf
    refine lv_aload_n C.1.1 C.1.2.1 dX9_work_68 rfl (lv_at hl 0 rfl) ?_
    obtain ⟨q6, h6, hf⟩ := o_bind hf
    refine aft_i hw (run_VM C hw clX9_134 (As := []) (rest := []) oM_0 (c_X9_fine h6) rfl hl.1 rfl ⟨(Nat.le_of_ble_eq_true rfl), (Nat.le_of_ble_eq_true rfl)⟩ ⟨Nat.zero_le _, Nat.zero_le _⟩ rfl (Nat.le_of_ble_eq_true rfl) dX9_work_69) (fun H locs hw => ?_)
    refine lv_if_eq (tgt := 89) C.1.1 C.1.2.1 dX9_work_72 (by decide) (fun c7 => ?_) (fun c7 => ?_)
    · have hf := o_t hf c7
      refine lv_aload_n C.1.1 C.1.2.1 dX9_work_89 rfl (lv_at hl 0 rfl) ?_
      refine lv_iconst (v := (0 : Int32)) C.1.1 C.1.2.1 dX9_work_90 rfl ?_
      obtain ⟨q8, h8, hf⟩ := o_bind hf
      refine aft_i hw (run_VM C hw clX9_229 (As := [.int (0 : Int32)]) (rest := []) oM_0 (c_X9_result h8) rfl hl.1 rfl ⟨(Nat.le_of_ble_eq_true rfl), (Nat.le_of_ble_eq_true rfl)⟩ ⟨Nat.zero_le _, Nat.zero_le _⟩ rfl (Nat.le_of_ble_eq_true rfl) dX9_work_91) (fun H locs hw => ?_)
      refine lv_istore_n (lv' := [(2, .int q8.2), (0, .ref (gA G (41 + 0)))]) C.1.1 C.1.2.1 dX9_work_94 rfl hl (by decide) rfl (fun ls hl => ?_)
      refine lv_aload_n C.1.1 C.1.2.1 dX9_work_95 rfl (lv_at hl 1 rfl) ?_
      refine m_get C hw iM_0_5 flX9_105 dX9_work_96 ?_
      refine lv_iconst (v := (-1 : Int32)) C.1.1 C.1.2.1 dX9_work_99 rfl ?_
      refine lv_icmp_eq (tgt := 105) C.1.1 C.1.2.1 dX9_work_100 (by decide) (fun c9 => ?_) (fun c9 => ?_)
      · have hf := o_t hf c9
        refine lv_aload_n C.1.1 C.1.2.1 dX9_work_105 rfl (lv_at hl 1 rfl) ?_
        refine lv_aload_n C.1.1 C.1.2.1 dX9_work_106 rfl (lv_at hl 1 rfl) ?_
        refine m_ref C hw fM_0_30 flX9_59 dX9_work_107 ?_
        refine lv_aload_n C.1.1 C.1.2.1 dX9_work_110 rfl (lv_at hl 1 rfl) ?_
        refine m_ref C hw fM_0_31 flX9_62 dX9_work_111 ?_
        refine lv_aload_n C.1.1 C.1.2.1 dX9_work_114 rfl (lv_at hl 1 rfl) ?_
        refine m_get C hw iM_0_32 flX9_281 dX9_work_115 ?_
        obtain ⟨q10, h10, hf⟩ := o_bind hf
        refine aft_v hw (run_VM C hw clX9_166 (As := [.ref (gA G (41 + 15)), .ref (gA G (41 + 16)), .int (q8.1 0 32)]) (rest := []) oM_0 (c_X9_copies aM_15 aM_16 h10) rfl hl.1 rfl ⟨(Nat.le_of_ble_eq_true rfl), (Nat.le_of_ble_eq_true rfl)⟩ ⟨Nat.zero_le _, Nat.zero_le _⟩ rfl (Nat.le_of_ble_eq_true rfl) dX9_work_118) (fun H locs hw => ?_)
        refine lv_iconst (v := (0 : Int32)) C.1.1 C.1.2.1 dX9_work_121 rfl ?_
        refine lv_istore_n (lv' := [(3, .int (0 : Int32)), (2, .int q8.2), (0, .ref (gA G (41 + 0)))]) C.1.1 C.1.2.1 dX9_work_122 rfl hl (by decide) rfl (fun ls hl => ?_)
        exact wL_X9_work_123 C hr hlk FU X q10 L (0 : Int32) _ _ _ hw (lv_sub hl [2, 0] rfl) hf
      · have hf := o_f hf c9
        refine lv_iload_n C.1.1 C.1.2.1 dX9_work_103 rfl (lv_at hl 0 rfl) ?_
        obtain rfl := Option.some.inj hf
        exact ret_i C hr hlk hw dX9_work_104
    · have hf := o_f hf c7
      refine lv_aload_n C.1.1 C.1.2.1 dX9_work_75 rfl (lv_at hl 0 rfl) ?_
      obtain ⟨q17, h17, hf⟩ := o_bind hf
      refine aft_i hw (run_VM C hw clX9_208 (As := []) (rest := []) oM_0 (c_X9_isMore h17) rfl hl.1 rfl ⟨(Nat.le_of_ble_eq_true rfl), (Nat.le_of_ble_eq_true rfl)⟩ ⟨Nat.zero_le _, Nat.zero_le _⟩ rfl (Nat.le_of_ble_eq_true rfl) dX9_work_76) (fun H locs hw => ?_)
      refine lv_if_eq (tgt := 89) C.1.1 C.1.2.1 dX9_work_79 (by decide) (fun c18 => ?_) (fun c18 => ?_)
      · have hf := o_t hf c18
        refine lv_aload_n C.1.1 C.1.2.1 dX9_work_89 rfl (lv_at hl 0 rfl) ?_
        refine lv_iconst (v := (0 : Int32)) C.1.1 C.1.2.1 dX9_work_90 rfl ?_
        obtain ⟨q19, h19, hf⟩ := o_bind hf
        refine aft_i hw (run_VM C hw clX9_229 (As := [.int (0 : Int32)]) (rest := []) oM_0 (c_X9_result h19) rfl hl.1 rfl ⟨(Nat.le_of_ble_eq_true rfl), (Nat.le_of_ble_eq_true rfl)⟩ ⟨Nat.zero_le _, Nat.zero_le _⟩ rfl (Nat.le_of_ble_eq_true rfl) dX9_work_91) (fun H locs hw => ?_)
        refine lv_istore_n (lv' := [(2, .int q19.2), (0, .ref (gA G (41 + 0)))]) C.1.1 C.1.2.1 dX9_work_94 rfl hl (by decide) rfl (fun ls hl => ?_)
        refine lv_aload_n C.1.1 C.1.2.1 dX9_work_95 rfl (lv_at hl 1 rfl) ?_
        refine m_get C hw iM_0_5 flX9_105 dX9_work_96 ?_
        refine lv_iconst (v := (-1 : Int32)) C.1.1 C.1.2.1 dX9_work_99 rfl ?_
        refine lv_icmp_eq (tgt := 105) C.1.1 C.1.2.1 dX9_work_100 (by decide) (fun c20 => ?_) (fun c20 => ?_)
        · have hf := o_t hf c20
          refine lv_aload_n C.1.1 C.1.2.1 dX9_work_105 rfl (lv_at hl 1 rfl) ?_
          refine lv_aload_n C.1.1 C.1.2.1 dX9_work_106 rfl (lv_at hl 1 rfl) ?_
          refine m_ref C hw fM_0_30 flX9_59 dX9_work_107 ?_
          refine lv_aload_n C.1.1 C.1.2.1 dX9_work_110 rfl (lv_at hl 1 rfl) ?_
          refine m_ref C hw fM_0_31 flX9_62 dX9_work_111 ?_
          refine lv_aload_n C.1.1 C.1.2.1 dX9_work_114 rfl (lv_at hl 1 rfl) ?_
          refine m_get C hw iM_0_32 flX9_281 dX9_work_115 ?_
          obtain ⟨q21, h21, hf⟩ := o_bind hf
          refine aft_v hw (run_VM C hw clX9_166 (As := [.ref (gA G (41 + 15)), .ref (gA G (41 + 16)), .int (q19.1 0 32)]) (rest := []) oM_0 (c_X9_copies aM_15 aM_16 h21) rfl hl.1 rfl ⟨(Nat.le_of_ble_eq_true rfl), (Nat.le_of_ble_eq_true rfl)⟩ ⟨Nat.zero_le _, Nat.zero_le _⟩ rfl (Nat.le_of_ble_eq_true rfl) dX9_work_118) (fun H locs hw => ?_)
          refine lv_iconst (v := (0 : Int32)) C.1.1 C.1.2.1 dX9_work_121 rfl ?_
          refine lv_istore_n (lv' := [(3, .int (0 : Int32)), (2, .int q19.2), (0, .ref (gA G (41 + 0)))]) C.1.1 C.1.2.1 dX9_work_122 rfl hl (by decide) rfl (fun ls hl => ?_)
          exact wL_X9_work_123 C hr hlk FU X q21 L (0 : Int32) _ _ _ hw (lv_sub hl [2, 0] rfl) hf
        · have hf := o_f hf c20
          refine lv_iload_n C.1.1 C.1.2.1 dX9_work_103 rfl (lv_at hl 0 rfl) ?_
          obtain rfl := Option.some.inj hf
          exact ret_i C hr hlk hw dX9_work_104
      · have hf := o_f hf c18
        refine lv_aload_n C.1.1 C.1.2.1 dX9_work_82 rfl (lv_at hl 0 rfl) ?_
        obtain ⟨q22, h22, hf⟩ := o_bind hf
        refine aft_v hw (run_VM C hw clX9_298 (As := []) (rest := []) oM_0 (c_X9_readStep 8 h22) rfl hl.1 rfl ⟨(Nat.le_of_ble_eq_true rfl), (Nat.le_of_ble_eq_true rfl)⟩ ⟨Nat.zero_le _, Nat.zero_le _⟩ rfl (Nat.le_of_ble_eq_true rfl) dX9_work_83) (fun H locs hw => ?_)
        refine lv_goto (tgt := 68) C.1.1 C.1.2.1 dX9_work_86 (by decide) ?_
        exact hk_68 X q22 L _ _ _ hw (lv_sub hl [0] rfl) hf
set_option maxRecDepth 20000 in
set_option maxHeartbeats 2000000 in
theorem wB_X9_work_30 {p : Program} {e : Env} {s : State} {m : MethodId} {args : Array Value} {below : List Frame} {meth : Method} {c : Code} (C : Cx G p s m args c cX9_work 4 RX9) (hr : meth.sig.returnType = (some .int)) (hlk : meth.locks = false) {ro : TX × Int32} : ∀ (X : TX) (M : TX) (L : TL) (x1 : Int32) (t0 : Int32) (H : Heap) (locs : List Loc) (ls : Array Slot), Wh G s X M L H locs → lv_has ls 4 [(0, .ref (gA G (41 + 0))), (1, .int x1)] → B_X9_work_30 M x1 t0 = some ro → W p l e (rz 73 2030) s m args below meth c H locs 0 0 (MQ below (Di G X ro.1 L ro.2) args s 0 0 (AB G)) (F0 m 30 ls [.int t0, .ref (gA G (41 + 0))]) := by
  intro X M L x1 t0 H locs ls hw hl hf
  unfold B_X9_work_30 at hf
  refine lv_iconst (v := (1 : Int32)) C.1.1 C.1.2.1 dX9_work_30 rfl ?_
  refine lv_iconst (v := (1 : Int32)) C.1.1 C.1.2.1 dX9_work_31 rfl ?_
  obtain ⟨q2, h2, hf⟩ := o_bind hf
  refine aft_i hw (run_VM C hw clX9_200 (As := [.int t0, .int (1 : Int32), .int (1 : Int32)]) (rest := []) oM_0 (c_X9_lets h2) rfl hl.1 rfl ⟨(Nat.le_of_ble_eq_true rfl), (Nat.le_of_ble_eq_true rfl)⟩ ⟨Nat.zero_le _, Nat.zero_le _⟩ rfl (Nat.le_of_ble_eq_true rfl) dX9_work_32) (fun H locs hw => ?_)
  refine lv_if_ne (tgt := 40) C.1.1 C.1.2.1 dX9_work_35 (by decide) (fun c3 => ?_) (fun c3 => ?_)
  · have hf := o_f hf c3
    refine lv_aload_n C.1.1 C.1.2.1 dX9_work_40 rfl (lv_at hl 0 rfl) ?_
    refine lv_iload_n C.1.1 C.1.2.1 dX9_work_41 rfl (lv_at hl 1 rfl) ?_
    obtain ⟨q4, h4, hf⟩ := o_bind hf
    refine aft_v hw (run_VM C hw clX9_204 (As := [.int x1]) (rest := []) oM_0 (c_X9_begins h4) rfl hl.1 rfl ⟨(Nat.le_of_ble_eq_true rfl), (Nat.le_of_ble_eq_true rfl)⟩ ⟨Nat.zero_le _, Nat.zero_le _⟩ rfl (Nat.le_of_ble_eq_true rfl) dX9_work_42) (fun H locs hw => ?_)
    refine lv_aload_n C.1.1 C.1.2.1 dX9_work_45 rfl (lv_at hl 0 rfl) ?_
    refine m_get C hw iM_0_33 flX9_176 dX9_work_46 ?_
    refine lv_bipush (v := (16 : Int32)) C.1.1 C.1.2.1 dX9_work_49 rfl ?_
    refine lv_icmp_ne (tgt := 63) C.1.1 C.1.2.1 dX9_work_51 (by decide) (fun c5 => ?_) (fun c5 => ?_)
    · have hf := o_f hf c5
      refine lv_aload_n C.1.1 C.1.2.1 dX9_work_63 rfl (lv_at hl 0 rfl) ?_
      refine lv_iconst (v := (0 : Int32)) C.1.1 C.1.2.1 dX9_work_64 rfl ?_
      refine m_put C hw iM_0_32 flX9_281 dX9_work_65 (fun H locs hw => ?_)
      exact wL_X9_work_68 C hr hlk FU X (u2 q4 0 32 (0 : Int32)) L _ _ _ hw (lv_sub hl [0] rfl) hf
    · have hf := o_t hf c5
      refine lv_aload_n C.1.1 C.1.2.1 dX9_work_54 rfl (lv_at hl 0 rfl) ?_
      refine lv_iconst (v := (0 : Int32)) C.1.1 C.1.2.1 dX9_work_55 rfl ?_
      obtain ⟨q23, h23, hf⟩ := o_bind hf
      refine aft_i hw (run_VM C hw clX9_229 (As := [.int (0 : Int32)]) (rest := []) oM_0 (c_X9_result h23) rfl hl.1 rfl ⟨(Nat.le_of_ble_eq_true rfl), (Nat.le_of_ble_eq_true rfl)⟩ ⟨Nat.zero_le _, Nat.zero_le _⟩ rfl (Nat.le_of_ble_eq_true rfl) dX9_work_56) (fun H locs hw => ?_)
      refine lv_pop C.1.1 C.1.2.1 dX9_work_59 rfl ?_
      refine lv_bipush (v := (-20 : Int32)) C.1.1 C.1.2.1 dX9_work_60 rfl ?_
      obtain rfl := Option.some.inj hf
      exact ret_i C hr hlk hw dX9_work_62
  · have hf := o_t hf c3
    refine lv_iconst (v := (0 : Int32)) C.1.1 C.1.2.1 dX9_work_38 rfl ?_
    obtain rfl := Option.some.inj hf
    exact ret_i C hr hlk hw dX9_work_39
set_option maxRecDepth 20000 in
set_option maxHeartbeats 2000000 in
theorem c_X9_work   {X M : TX} {L : TL} {x1 : Int32} {ro : TX × Int32} (hf : f_X9_work M x1 = some ro) : CTi G l yX9_work cX9_work 4 (some .int) 73 2030 [.ref (gA G (41 + 0)), .int x1] X M L X ro.1 L ro.2 := by
  unfold f_X9_work at hf
  refine ct_of (by decide +kernel) (Nat.le_of_ble_eq_true rfl) (fun p e s m args below meth c H locs ls C hr hlk hw hl => ?_)
  have C : Cx G p s m args c cX9_work 4 RX9 := C
  have hl : lv_has ls 4 [(0, .ref (gA G (41 + 0))), (1, .int x1)] := hl
  refine lv_aload_n C.1.1 C.1.2.1 dX9_work_0 rfl (lv_at hl 0 rfl) ?_
  refine lv_iconst (v := (0 : Int32)) C.1.1 C.1.2.1 dX9_work_1 rfl ?_
  refine m_put C hw iM_0_0 flX9_3 dX9_work_2 (fun H locs hw => ?_)
  refine lv_aload_n C.1.1 C.1.2.1 dX9_work_5 rfl (lv_at hl 0 rfl) ?_
  refine lv_iload_n C.1.1 C.1.2.1 dX9_work_6 rfl (lv_at hl 1 rfl) ?_
  refine lv_if_lt (tgt := 29) C.1.1 C.1.2.1 dX9_work_7 (by decide) (fun c1 => ?_) (fun c1 => ?_)
  · have hf := o_t hf c1
    refine lv_iconst (v := (0 : Int32)) C.1.1 C.1.2.1 dX9_work_29 rfl ?_
    exact wB_X9_work_30 C hr hlk X (u2 M 0 0 (0 : Int32)) L x1 (0 : Int32) _ _ _ hw (lv_sub hl [0, 1] rfl) hf
  · have hf := o_f hf c1
    refine lv_iload_n C.1.1 C.1.2.1 dX9_work_10 rfl (lv_at hl 1 rfl) ?_
    refine lv_aload_n C.1.1 C.1.2.1 dX9_work_11 rfl (lv_at hl 0 rfl) ?_
    refine m_get C hw iM_0_2 flX9_102 dX9_work_12 ?_
    refine lv_icmp_gt (tgt := 29) C.1.1 C.1.2.1 dX9_work_15 (by decide) (fun c24 => ?_) (fun c24 => ?_)
    · have hf := o_t hf c24
      refine lv_iconst (v := (0 : Int32)) C.1.1 C.1.2.1 dX9_work_29 rfl ?_
      exact wB_X9_work_30 C hr hlk X (u2 M 0 0 (0 : Int32)) L x1 (0 : Int32) _ _ _ hw (lv_sub hl [0, 1] rfl) hf
    · have hf := o_f hf c24
      refine lv_iload_n C.1.1 C.1.2.1 dX9_work_18 rfl (lv_at hl 1 rfl) ?_
      refine lv_sipush (v := (150 : Int32)) C.1.1 C.1.2.1 dX9_work_19 rfl ?_
      refine lv_icmp_gt (tgt := 29) C.1.1 C.1.2.1 dX9_work_22 (by decide) (fun c25 => ?_) (fun c25 => ?_)
      · have hf := o_t hf c25
        refine lv_iconst (v := (0 : Int32)) C.1.1 C.1.2.1 dX9_work_29 rfl ?_
        exact wB_X9_work_30 C hr hlk X (u2 M 0 0 (0 : Int32)) L x1 (0 : Int32) _ _ _ hw (lv_sub hl [0, 1] rfl) hf
      · have hf := o_f hf c25
        refine lv_iconst (v := (1 : Int32)) C.1.1 C.1.2.1 dX9_work_25 rfl ?_
        refine lv_goto (tgt := 30) C.1.1 C.1.2.1 dX9_work_26 (by decide) ?_
        exact wB_X9_work_30 C hr hlk X (u2 M 0 0 (0 : Int32)) L x1 (1 : Int32) _ _ _ hw (lv_sub hl [0, 1] rfl) hf
end
/-! WinnerDrawsModel.book(I)I (('o', 'M', 0) ('i',)) -/
def B_X9_book_117 (k_66 : TX → Int32 → Option (TX × Int32)) (M : TX) (x2 : Int32) (x4 : Int32) : Option (TX × Int32) := (f_X9_readNumber M (0 : Int32) (2 : Int32)).bind fun q19 => (f_X9_sign q19.1 (59 : Int32)).bind fun q20 => (f_X9_fine q20).bind fun q21 => if q21 = 0 then ((f_X9_result q20 x2).bind fun q24 => if (q24.1 0 5) = (-1 : Int32) then ((f_X9_copies 17 18 (u2 q24.1 0 40 x2) (4 : Int32)).bind fun q26 => some (q26, q24.2)) else (some (q24.1, q24.2))) else (if inb x4 4 = true then (k_66 (u2 q20 17 (Int32.toNatClampNeg x4) q19.2) (x2 + (1 : Int32))) else none)
def L_X9_book_66 : Nat → TX → Int32 → Option (TX × Int32)
  | 0 => fun _ _ => none
  | n + 1 => fun M x2 => (f_X9_fine M).bind fun q6 => if q6 = 0 then ((f_X9_result M x2).bind fun q8 => if (q8.1 0 5) = (-1 : Int32) then ((f_X9_copies 17 18 (u2 q8.1 0 40 x2) (4 : Int32)).bind fun q10 => some (q10, q8.2)) else (some (q8.1, q8.2))) else ((f_X9_isMore M).bind fun q11 => if q11.2 = 0 then ((f_X9_result q11.1 x2).bind fun q13 => if (q13.1 0 5) = (-1 : Int32) then ((f_X9_copies 17 18 (u2 q13.1 0 40 x2) (4 : Int32)).bind fun q15 => some (q15, q13.2)) else (some (q13.1, q13.2))) else ((f_X9_readNumber q11.1 (0 : Int32) (3 : Int32)).bind fun q16 => (f_X9_fine q16.1).bind fun q17 => if q17 = 0 then (B_X9_book_117 (L_X9_book_66 n) q16.1 x2 q16.2) else (if inb q16.2 4 = true then (if (q16.1 17 (Int32.toNatClampNeg q16.2)) = (-1 : Int32) then (B_X9_book_117 (L_X9_book_66 n) q16.1 x2 q16.2) else ((f_X9_wrong q16.1 (2 : Int32) (q11.1 0 4)).bind fun q29 => B_X9_book_117 (L_X9_book_66 n) q29 x2 q16.2)) else none)))
def L_X9_book_46 : Nat → TX → Int32 → Option (TX × Int32)
  | 0 => fun _ _ => none
  | n + 1 => fun M x2 => if (4 : Int32) ≤ x2 then (L_X9_book_66 FU M (0 : Int32)) else (if inb x2 4 = true then ((L_X9_book_46 n) (u2 M 17 (Int32.toNatClampNeg x2) (-1 : Int32)) (x2 + (1 : Int32))) else none)
def f_X9_book (M : TX) (x1 : Int32) : Option (TX × Int32) := if x1 < 0 then ((f_X9_lets (u2 M 0 0 (0 : Int32)) (0 : Int32) (1 : Int32) (1 : Int32)).bind fun q2 => if q2.2 = 0 then (some (q2.1, (0 : Int32))) else ((f_X9_begins q2.1 x1).bind fun q4 => L_X9_book_46 FU q4 (0 : Int32))) else (if ((u2 M 0 0 (0 : Int32)) 0 2) < x1 then ((f_X9_lets (u2 M 0 0 (0 : Int32)) (0 : Int32) (1 : Int32) (1 : Int32)).bind fun q32 => if q32.2 = 0 then (some (q32.1, (0 : Int32))) else ((f_X9_begins q32.1 x1).bind fun q34 => L_X9_book_46 FU q34 (0 : Int32))) else (if (60 : Int32) < x1 then ((f_X9_lets (u2 M 0 0 (0 : Int32)) (0 : Int32) (1 : Int32) (1 : Int32)).bind fun q36 => if q36.2 = 0 then (some (q36.1, (0 : Int32))) else ((f_X9_begins q36.1 x1).bind fun q38 => L_X9_book_46 FU q38 (0 : Int32))) else ((f_X9_lets (u2 M 0 0 (0 : Int32)) (1 : Int32) (1 : Int32) (1 : Int32)).bind fun q39 => if q39.2 = 0 then (some (q39.1, (0 : Int32))) else ((f_X9_begins q39.1 x1).bind fun q41 => L_X9_book_46 FU q41 (0 : Int32)))))
section
variable {G : GP} {l : Launch}
set_option maxRecDepth 20000 in
set_option maxHeartbeats 2000000 in
theorem wB_X9_book_117 {p : Program} {e : Env} {s : State} {m : MethodId} {args : Array Value} {below : List Frame} {meth : Method} {c : Code} (C : Cx G p s m args c cX9_book 6 RX9) (hr : meth.sig.returnType = (some .int)) (hlk : meth.locks = false) {ro : TX × Int32} {k_66 : TX → Int32 → Option (TX × Int32)} (hk_66 : ∀ (X : TX) (M : TX) (L : TL) (x2 : Int32) (H : Heap) (locs : List Loc) (ls : Array Slot), Wh G s X M L H locs → lv_has ls 6 [(0, .ref (gA G (41 + 0))), (2, .int x2)] → k_66 M x2 = some ro → W p l e (rz 2 47) s m args below meth c H locs 0 0 (MQ below (Di G X ro.1 L ro.2) args s 0 0 (AB G)) (F0 m 66 ls [])) : ∀ (X : TX) (M : TX) (L : TL) (x2 : Int32) (x4 : Int32) (H : Heap) (locs : List Loc) (ls : Array Slot), Wh G s X M L H locs → lv_has ls 6 [(0, .ref (gA G (41 + 0))), (2, .int x2), (4, .int x4)] → B_X9_book_117 k_66 M x2 x4 = some ro → W p l e (rz 2 47) s m args below meth c H locs 0 0 (MQ below (Di G X ro.1 L ro.2) args s 0 0 (AB G)) (F0 m 117 ls []) := by
  intro X M L x2 x4 H locs ls hw hl hf
  unfold B_X9_book_117 at hf
  refine lv_aload_n C.1.1 C.1.2.1 dX9_book_117 rfl (lv_at hl 0 rfl) ?_
  refine lv_iconst (v := (0 : Int32)) C.1.1 C.1.2.1 dX9_book_118 rfl ?_
  refine lv_iconst (v := (2 : Int32)) C.1.1 C.1.2.1 dX9_book_119 rfl ?_
  obtain ⟨q19, h19, hf⟩ := o_bind hf
  refine aft_i hw (run_VM C hw clX9_193 (As := [.int (0 : Int32), .int (2 : Int32)]) (rest := []) oM_0 (c_X9_readNumber h19) rfl hl.1 rfl ⟨(Nat.le_of_ble_eq_true rfl), (Nat.le_of_ble_eq_true rfl)⟩ ⟨Nat.zero_le _, Nat.zero_le _⟩ rfl (Nat.le_of_ble_eq_true rfl) dX9_book_120) (fun H locs hw => ?_)
  refine lv_istore (lv' := [(5, .int q19.2), (0, .ref (gA G (41 + 0))), (2, .int x2), (4, .int x4)]) C.1.1 C.1.2.1 dX9_book_123 hl (by decide) rfl (fun ls hl => ?_)
  refine lv_aload_n C.1.1 C.1.2.1 dX9_book_125 rfl (lv_at hl 1 rfl) ?_
  refine lv_bipush (v := (59 : Int32)) C.1.1 C.1.2.1 dX9_book_126 rfl ?_
  obtain ⟨q20, h20, hf⟩ := o_bind hf
  refine aft_v hw (run_VM C hw clX9_226 (As := [.int (59 : Int32)]) (rest := []) oM_0 (c_X9_sign h20) rfl hl.1 rfl ⟨(Nat.le_of_ble_eq_true rfl), (Nat.le_of_ble_eq_true rfl)⟩ ⟨Nat.zero_le _, Nat.zero_le _⟩ rfl (Nat.le_of_ble_eq_true rfl) dX9_book_128) (fun H locs hw => ?_)
  refine lv_aload_n C.1.1 C.1.2.1 dX9_book_131 rfl (lv_at hl 1 rfl) ?_
  obtain ⟨q21, h21, hf⟩ := o_bind hf
  refine aft_i hw (run_VM C hw clX9_134 (As := []) (rest := []) oM_0 (c_X9_fine h21) rfl hl.1 rfl ⟨(Nat.le_of_ble_eq_true rfl), (Nat.le_of_ble_eq_true rfl)⟩ ⟨Nat.zero_le _, Nat.zero_le _⟩ rfl (Nat.le_of_ble_eq_true rfl) dX9_book_132) (fun H locs hw => ?_)
  refine lv_if_ne (tgt := 141) C.1.1 C.1.2.1 dX9_book_135 (by decide) (fun c22 => ?_) (fun c22 => ?_)
  · have hf := o_f hf c22
    refine lv_aload_n C.1.1 C.1.2.1 dX9_book_141 rfl (lv_at hl 1 rfl) ?_
    refine m_ref C hw fM_0_38 flX9_65 dX9_book_142 ?_
    refine lv_iload C.1.1 C.1.2.1 dX9_book_145 (lv_at hl 3 rfl) ?_
    refine lv_iload C.1.1 C.1.2.1 dX9_book_147 (lv_at hl 0 rfl) ?_
    have g23 := inb_in (o_g hf).1
    have hf := (o_g hf).2
    refine m_ast C hw aM_17 g23 dX9_book_149 (fun H locs hw => ?_)
    refine lv_iinc (v := (x2 + (1 : Int32))) (lv' := [(2, .int (x2 + (1 : Int32))), (5, .int q19.2), (0, .ref (gA G (41 + 0))), (4, .int x4)]) C.1.1 C.1.2.1 dX9_book_150 hl (k := 2) rfl rfl (by decide) rfl (fun ls hl => ?_)
    refine lv_goto (tgt := 66) C.1.1 C.1.2.1 dX9_book_153 (by decide) ?_
    exact hk_66 X (u2 q20 17 (Int32.toNatClampNeg x4) q19.2) L (x2 + (1 : Int32)) _ _ _ hw (lv_sub hl [2, 0] rfl) hf
  · have hf := o_t hf c22
    refine lv_goto (tgt := 156) C.1.1 C.1.2.1 dX9_book_138 (by decide) ?_
    refine lv_aload_n C.1.1 C.1.2.1 dX9_book_156 rfl (lv_at hl 1 rfl) ?_
    refine lv_iload_n C.1.1 C.1.2.1 dX9_book_157 rfl (lv_at hl 2 rfl) ?_
    obtain ⟨q24, h24, hf⟩ := o_bind hf
    refine aft_i hw (run_VM C hw clX9_229 (As := [.int x2]) (rest := []) oM_0 (c_X9_result h24) rfl hl.1 rfl ⟨(Nat.le_of_ble_eq_true rfl), (Nat.le_of_ble_eq_true rfl)⟩ ⟨Nat.zero_le _, Nat.zero_le _⟩ rfl (Nat.le_of_ble_eq_true rfl) dX9_book_158) (fun H locs hw => ?_)
    refine lv_istore_n (lv' := [(3, .int q24.2), (5, .int q19.2), (0, .ref (gA G (41 + 0))), (2, .int x2), (4, .int x4)]) C.1.1 C.1.2.1 dX9_book_161 rfl hl (by decide) rfl (fun ls hl => ?_)
    refine lv_aload_n C.1.1 C.1.2.1 dX9_book_162 rfl (lv_at hl 2 rfl) ?_
    refine m_get C hw iM_0_5 flX9_105 dX9_book_163 ?_
    refine lv_iconst (v := (-1 : Int32)) C.1.1 C.1.2.1 dX9_book_166 rfl ?_
    refine lv_icmp_eq (tgt := 172) C.1.1 C.1.2.1 dX9_book_167 (by decide) (fun c25 => ?_) (fun c25 => ?_)
    · have hf := o_t hf c25
      refine lv_aload_n C.1.1 C.1.2.1 dX9_book_172 rfl (lv_at hl 2 rfl) ?_
      refine lv_iload_n C.1.1 C.1.2.1 dX9_book_173 rfl (lv_at hl 3 rfl) ?_
      refine m_put C hw iM_0_40 flX9_173 dX9_book_174 (fun H locs hw => ?_)
      refine lv_aload_n C.1.1 C.1.2.1 dX9_book_177 rfl (lv_at hl 2 rfl) ?_
      refine lv_aload_n C.1.1 C.1.2.1 dX9_book_178 rfl (lv_at hl 2 rfl) ?_
      refine m_ref C hw fM_0_38 flX9_65 dX9_book_179 ?_
      refine lv_aload_n C.1.1 C.1.2.1 dX9_book_182 rfl (lv_at hl 2 rfl) ?_
      refine m_ref C hw fM_0_39 flX9_68 dX9_book_183 ?_
      refine lv_iconst (v := (4 : Int32)) C.1.1 C.1.2.1 dX9_book_186 rfl ?_
      obtain ⟨q26, h26, hf⟩ := o_bind hf
      refine aft_v hw (run_VM C hw clX9_166 (As := [.ref (gA G (41 + 17)), .ref (gA G (41 + 18)), .int (4 : Int32)]) (rest := []) oM_0 (c_X9_copies aM_17 aM_18 h26) rfl hl.1 rfl ⟨(Nat.le_of_ble_eq_true rfl), (Nat.le_of_ble_eq_true rfl)⟩ ⟨Nat.zero_le _, Nat.zero_le _⟩ rfl (Nat.le_of_ble_eq_true rfl) dX9_book_187) (fun H locs hw => ?_)
      refine lv_iload_n C.1.1 C.1.2.1 dX9_book_190 rfl (lv_at hl 0 rfl) ?_
      obtain rfl := Option.some.inj hf
      exact ret_i C hr hlk hw dX9_book_191
    · have hf := o_f hf c25
      refine lv_iload_n C.1.1 C.1.2.1 dX9_book_170 rfl (lv_at hl 0 rfl) ?_
      obtain rfl := Option.some.inj hf
      exact ret_i C hr hlk hw dX9_book_171
set_option maxRecDepth 20000 in
set_option maxHeartbeats 2000000 in
theorem wL_X9_book_66 {p : Program} {e : Env} {s : State} {m : MethodId} {args : Array Value} {below : List Frame} {meth : Method} {c : Code} (C : Cx G p s m args c cX9_book 6 RX9) (hr : meth.sig.returnType = (some .int)) (hlk : meth.locks = false) {ro : TX × Int32} : ∀ (n : Nat), ∀ (X : TX) (M : TX) (L : TL) (x2 : Int32) (H : Heap) (locs : List Loc) (ls : Array Slot), Wh G s X M L H locs → lv_has ls 6 [(0, .ref (gA G (41 + 0))), (2, .int x2)] → L_X9_book_66 n M x2 = some ro → W p l e (rz 2 47) s m args below meth c H locs 0 0 (MQ below (Di G X ro.1 L ro.2) args s 0 0 (AB G)) (F0 m 66 ls []) := by
  intro n
  induction n with
  | zero =>
    intro X M L x2 H locs ls hw hl hf
    cases hf
  | succ n hk_66 =>
    intro X M L x2 H locs ls hw hl hf
    rw [L_X9_book_66] at hf
    refine lv_aload_n C.1.1 C.1.2.1 dX9_book_66 rfl (lv_at hl 0 rfl) ?_
    obtain ⟨q6, h6, hf⟩ := o_bind hf
    refine aft_i hw (run_VM C hw clX9_134 (As := []) (rest := []) oM_0 (c_X9_fine h6) rfl hl.1 rfl ⟨(Nat.le_of_ble_eq_true rfl), (Nat.le_of_ble_eq_true rfl)⟩ ⟨Nat.zero_le _, Nat.zero_le _⟩ rfl (Nat.le_of_ble_eq_true rfl) dX9_book_67) (fun H locs hw => ?_)
    refine lv_if_eq (tgt := 156) C.1.1 C.1.2.1 dX9_book_70 (by decide) (fun c7 => ?_) (fun c7 => ?_)
    · have hf := o_t hf c7
      refine lv_aload_n C.1.1 C.1.2.1 dX9_book_156 rfl (lv_at hl 0 rfl) ?_
      refine lv_iload_n C.1.1 C.1.2.1 dX9_book_157 rfl (lv_at hl 1 rfl) ?_
      obtain ⟨q8, h8, hf⟩ := o_bind hf
      refine aft_i hw (run_VM C hw clX9_229 (As := [.int x2]) (rest := []) oM_0 (c_X9_result h8) rfl hl.1 rfl ⟨(Nat.le_of_ble_eq_true rfl), (Nat.le_of_ble_eq_true rfl)⟩ ⟨Nat.zero_le _, Nat.zero_le _⟩ rfl (Nat.le_of_ble_eq_true rfl) dX9_book_158) (fun H locs hw => ?_)
      refine lv_istore_n (lv' := [(3, .int q8.2), (0, .ref (gA G (41 + 0))), (2, .int x2)]) C.1.1 C.1.2.1 dX9_book_161 rfl hl (by decide) rfl (fun ls hl => ?_)
      refine lv_aload_n C.1.1 C.1.2.1 dX9_book_162 rfl (lv_at hl 1 rfl) ?_
      refine m_get C hw iM_0_5 flX9_105 dX9_book_163 ?_
      refine lv_iconst (v := (-1 : Int32)) C.1.1 C.1.2.1 dX9_book_166 rfl ?_
      refine lv_icmp_eq (tgt := 172) C.1.1 C.1.2.1 dX9_book_167 (by decide) (fun c9 => ?_) (fun c9 => ?_)
      · have hf := o_t hf c9
        refine lv_aload_n C.1.1 C.1.2.1 dX9_book_172 rfl (lv_at hl 1 rfl) ?_
        refine lv_iload_n C.1.1 C.1.2.1 dX9_book_173 rfl (lv_at hl 2 rfl) ?_
        refine m_put C hw iM_0_40 flX9_173 dX9_book_174 (fun H locs hw => ?_)
        refine lv_aload_n C.1.1 C.1.2.1 dX9_book_177 rfl (lv_at hl 1 rfl) ?_
        refine lv_aload_n C.1.1 C.1.2.1 dX9_book_178 rfl (lv_at hl 1 rfl) ?_
        refine m_ref C hw fM_0_38 flX9_65 dX9_book_179 ?_
        refine lv_aload_n C.1.1 C.1.2.1 dX9_book_182 rfl (lv_at hl 1 rfl) ?_
        refine m_ref C hw fM_0_39 flX9_68 dX9_book_183 ?_
        refine lv_iconst (v := (4 : Int32)) C.1.1 C.1.2.1 dX9_book_186 rfl ?_
        obtain ⟨q10, h10, hf⟩ := o_bind hf
        refine aft_v hw (run_VM C hw clX9_166 (As := [.ref (gA G (41 + 17)), .ref (gA G (41 + 18)), .int (4 : Int32)]) (rest := []) oM_0 (c_X9_copies aM_17 aM_18 h10) rfl hl.1 rfl ⟨(Nat.le_of_ble_eq_true rfl), (Nat.le_of_ble_eq_true rfl)⟩ ⟨Nat.zero_le _, Nat.zero_le _⟩ rfl (Nat.le_of_ble_eq_true rfl) dX9_book_187) (fun H locs hw => ?_)
        refine lv_iload_n C.1.1 C.1.2.1 dX9_book_190 rfl (lv_at hl 0 rfl) ?_
        obtain rfl := Option.some.inj hf
        exact ret_i C hr hlk hw dX9_book_191
      · have hf := o_f hf c9
        refine lv_iload_n C.1.1 C.1.2.1 dX9_book_170 rfl (lv_at hl 0 rfl) ?_
        obtain rfl := Option.some.inj hf
        exact ret_i C hr hlk hw dX9_book_171
    · have hf := o_f hf c7
      refine lv_aload_n C.1.1 C.1.2.1 dX9_book_73 rfl (lv_at hl 0 rfl) ?_
      obtain ⟨q11, h11, hf⟩ := o_bind hf
      refine aft_i hw (run_VM C hw clX9_208 (As := []) (rest := []) oM_0 (c_X9_isMore h11) rfl hl.1 rfl ⟨(Nat.le_of_ble_eq_true rfl), (Nat.le_of_ble_eq_true rfl)⟩ ⟨Nat.zero_le _, Nat.zero_le _⟩ rfl (Nat.le_of_ble_eq_true rfl) dX9_book_74) (fun H locs hw => ?_)
      refine lv_if_eq (tgt := 156) C.1.1 C.1.2.1 dX9_book_77 (by decide) (fun c12 => ?_) (fun c12 => ?_)
      · have hf := o_t hf c12
        refine lv_aload_n C.1.1 C.1.2.1 dX9_book_156 rfl (lv_at hl 0 rfl) ?_
        refine lv_iload_n C.1.1 C.1.2.1 dX9_book_157 rfl (lv_at hl 1 rfl) ?_
        obtain ⟨q13, h13, hf⟩ := o_bind hf
        refine aft_i hw (run_VM C hw clX9_229 (As := [.int x2]) (rest := []) oM_0 (c_X9_result h13) rfl hl.1 rfl ⟨(Nat.le_of_ble_eq_true rfl), (Nat.le_of_ble_eq_true rfl)⟩ ⟨Nat.zero_le _, Nat.zero_le _⟩ rfl (Nat.le_of_ble_eq_true rfl) dX9_book_158) (fun H locs hw => ?_)
        refine lv_istore_n (lv' := [(3, .int q13.2), (0, .ref (gA G (41 + 0))), (2, .int x2)]) C.1.1 C.1.2.1 dX9_book_161 rfl hl (by decide) rfl (fun ls hl => ?_)
        refine lv_aload_n C.1.1 C.1.2.1 dX9_book_162 rfl (lv_at hl 1 rfl) ?_
        refine m_get C hw iM_0_5 flX9_105 dX9_book_163 ?_
        refine lv_iconst (v := (-1 : Int32)) C.1.1 C.1.2.1 dX9_book_166 rfl ?_
        refine lv_icmp_eq (tgt := 172) C.1.1 C.1.2.1 dX9_book_167 (by decide) (fun c14 => ?_) (fun c14 => ?_)
        · have hf := o_t hf c14
          refine lv_aload_n C.1.1 C.1.2.1 dX9_book_172 rfl (lv_at hl 1 rfl) ?_
          refine lv_iload_n C.1.1 C.1.2.1 dX9_book_173 rfl (lv_at hl 2 rfl) ?_
          refine m_put C hw iM_0_40 flX9_173 dX9_book_174 (fun H locs hw => ?_)
          refine lv_aload_n C.1.1 C.1.2.1 dX9_book_177 rfl (lv_at hl 1 rfl) ?_
          refine lv_aload_n C.1.1 C.1.2.1 dX9_book_178 rfl (lv_at hl 1 rfl) ?_
          refine m_ref C hw fM_0_38 flX9_65 dX9_book_179 ?_
          refine lv_aload_n C.1.1 C.1.2.1 dX9_book_182 rfl (lv_at hl 1 rfl) ?_
          refine m_ref C hw fM_0_39 flX9_68 dX9_book_183 ?_
          refine lv_iconst (v := (4 : Int32)) C.1.1 C.1.2.1 dX9_book_186 rfl ?_
          obtain ⟨q15, h15, hf⟩ := o_bind hf
          refine aft_v hw (run_VM C hw clX9_166 (As := [.ref (gA G (41 + 17)), .ref (gA G (41 + 18)), .int (4 : Int32)]) (rest := []) oM_0 (c_X9_copies aM_17 aM_18 h15) rfl hl.1 rfl ⟨(Nat.le_of_ble_eq_true rfl), (Nat.le_of_ble_eq_true rfl)⟩ ⟨Nat.zero_le _, Nat.zero_le _⟩ rfl (Nat.le_of_ble_eq_true rfl) dX9_book_187) (fun H locs hw => ?_)
          refine lv_iload_n C.1.1 C.1.2.1 dX9_book_190 rfl (lv_at hl 0 rfl) ?_
          obtain rfl := Option.some.inj hf
          exact ret_i C hr hlk hw dX9_book_191
        · have hf := o_f hf c14
          refine lv_iload_n C.1.1 C.1.2.1 dX9_book_170 rfl (lv_at hl 0 rfl) ?_
          obtain rfl := Option.some.inj hf
          exact ret_i C hr hlk hw dX9_book_171
      · have hf := o_f hf c12
        refine lv_aload_n C.1.1 C.1.2.1 dX9_book_80 rfl (lv_at hl 0 rfl) ?_
        refine m_get C hw iM_0_4 flX9_111 dX9_book_81 ?_
        refine lv_istore_n (lv' := [(3, .int (q11.1 0 4)), (0, .ref (gA G (41 + 0))), (2, .int x2)]) C.1.1 C.1.2.1 dX9_book_84 rfl hl (by decide) rfl (fun ls hl => ?_)
        refine lv_aload_n C.1.1 C.1.2.1 dX9_book_85 rfl (lv_at hl 1 rfl) ?_
        refine lv_iconst (v := (0 : Int32)) C.1.1 C.1.2.1 dX9_book_86 rfl ?_
        refine lv_iconst (v := (3 : Int32)) C.1.1 C.1.2.1 dX9_book_87 rfl ?_
        obtain ⟨q16, h16, hf⟩ := o_bind hf
        refine aft_i hw (run_VM C hw clX9_193 (As := [.int (0 : Int32), .int (3 : Int32)]) (rest := []) oM_0 (c_X9_readNumber h16) rfl hl.1 rfl ⟨(Nat.le_of_ble_eq_true rfl), (Nat.le_of_ble_eq_true rfl)⟩ ⟨Nat.zero_le _, Nat.zero_le _⟩ rfl (Nat.le_of_ble_eq_true rfl) dX9_book_88) (fun H locs hw => ?_)
        refine lv_istore (lv' := [(4, .int q16.2), (3, .int (q11.1 0 4)), (0, .ref (gA G (41 + 0))), (2, .int x2)]) C.1.1 C.1.2.1 dX9_book_91 hl (by decide) rfl (fun ls hl => ?_)
        refine lv_aload_n C.1.1 C.1.2.1 dX9_book_93 rfl (lv_at hl 2 rfl) ?_
        obtain ⟨q17, h17, hf⟩ := o_bind hf
        refine aft_i hw (run_VM C hw clX9_134 (As := []) (rest := []) oM_0 (c_X9_fine h17) rfl hl.1 rfl ⟨(Nat.le_of_ble_eq_true rfl), (Nat.le_of_ble_eq_true rfl)⟩ ⟨Nat.zero_le _, Nat.zero_le _⟩ rfl (Nat.le_of_ble_eq_true rfl) dX9_book_94) (fun H locs hw => ?_)
        refine lv_if_eq (tgt := 117) C.1.1 C.1.2.1 dX9_book_97 (by decide) (fun c18 => ?_) (fun c18 => ?_)
        · have hf := o_t hf c18
          exact wB_X9_book_117 C hr hlk hk_66 X q16.1 L x2 q16.2 _ _ _ hw (lv_sub hl [2, 3, 0] rfl) hf
        · have hf := o_f hf c18
          refine lv_aload_n C.1.1 C.1.2.1 dX9_book_100 rfl (lv_at hl 2 rfl) ?_
          refine m_ref C hw fM_0_38 flX9_65 dX9_book_101 ?_
          refine lv_iload C.1.1 C.1.2.1 dX9_book_104 (lv_at hl 0 rfl) ?_
          have g27 := inb_in (o_g hf).1
          have hf := (o_g hf).2
          refine m_ald C hw aM_17 g27 dX9_book_106 ?_
          refine lv_iconst (v := (-1 : Int32)) C.1.1 C.1.2.1 dX9_book_107 rfl ?_
          refine lv_icmp_eq (tgt := 117) C.1.1 C.1.2.1 dX9_book_108 (by decide) (fun c28 => ?_) (fun c28 => ?_)
          · have hf := o_t hf c28
            exact wB_X9_book_117 C hr hlk hk_66 X q16.1 L x2 q16.2 _ _ _ hw (lv_sub hl [2, 3, 0] rfl) hf
          · have hf := o_f hf c28
            refine lv_aload_n C.1.1 C.1.2.1 dX9_book_111 rfl (lv_at hl 2 rfl) ?_
            refine lv_iconst (v := (2 : Int32)) C.1.1 C.1.2.1 dX9_book_112 rfl ?_
            refine lv_iload_n C.1.1 C.1.2.1 dX9_book_113 rfl (lv_at hl 1 rfl) ?_
            obtain ⟨q29, h29, hf⟩ := o_bind hf
            refine aft_v hw (run_VM C hw clX9_141 (As := [.int (2 : Int32), .int (q11.1 0 4)]) (rest := []) oM_0 (c_X9_wrong h29) rfl hl.1 rfl ⟨(Nat.le_of_ble_eq_true rfl), (Nat.le_of_ble_eq_true rfl)⟩ ⟨Nat.zero_le _, Nat.zero_le _⟩ rfl (Nat.le_of_ble_eq_true rfl) dX9_book_114) (fun H locs hw => ?_)
            exact wB_X9_book_117 C hr hlk hk_66 X q29 L x2 q16.2 _ _ _ hw (lv_sub hl [2, 3, 0] rfl) hf
set_option maxRecDepth 20000 in
set_option maxHeartbeats 2000000 in
theorem wL_X9_book_46 {p : Program} {e : Env} {s : State} {m : MethodId} {args : Array Value} {below : List Frame} {meth : Method} {c : Code} (C : Cx G p s m args c cX9_book 6 RX9) (hr : meth.sig.returnType = (some .int)) (hlk : meth.locks = false) {ro : TX × Int32} : ∀ (n : Nat), ∀ (X : TX) (M : TX) (L : TL) (x2 : Int32) (H : Heap) (locs : List Loc) (ls : Array Slot), Wh G s X M L H locs → lv_has ls 6 [(0, .ref (gA G (41 + 0))), (2, .int x2)] → L_X9_book_46 n M x2 = some ro → W p l e (rz 2 47) s m args below meth c H locs 0 0 (MQ below (Di G X ro.1 L ro.2) args s 0 0 (AB G)) (F0 m 46 ls []) := by
  intro n
  induction n with
  | zero =>
    intro X M L x2 H locs ls hw hl hf
    cases hf
  | succ n hk_46 =>
    intro X M L x2 H locs ls hw hl hf
    rw [L_X9_book_46] at hf
    refine lv_iload_n C.1.1 C.1.2.1 dX9_book_46 rfl (lv_at hl 1 rfl) ?_
    refine lv_iconst (v := (4 : Int32)) C.1.1 C.1.2.1 dX9_book_47 rfl ?_
    refine lv_icmp_ge (tgt := 64) C.1.1 C.1.2.1 dX9_book_48 (by decide) (fun c5 => ?_) (fun c5 => ?_)
    · have hf := o_t hf c5
      refine lv_iconst (v := (0 : Int32)) C.1.1 C.1.2.1 dX9_book_64 rfl ?_
      refine lv_istore_n (lv' := [(2, .int (0 : Int32)), (0, .ref (gA G (41 + 0)))]) C.1.1 C.1.2.1 dX9_book_65 rfl hl (by decide) rfl (fun ls hl => ?_)
      exact wL_X9_book_66 C hr hlk FU X M L (0 : Int32) _ _ _ hw (lv_sub hl [1, 0] rfl) hf
    · have hf := o_f hf c5
      refine lv_aload_n C.1.1 C.1.2.1 dX9_book_51 rfl (lv_at hl 0 rfl) ?_
      refine m_ref C hw fM_0_38 flX9_65 dX9_book_52 ?_
      refine lv_iload_n C.1.1 C.1.2.1 dX9_book_55 rfl (lv_at hl 1 rfl) ?_
      refine lv_iconst (v := (-1 : Int32)) C.1.1 C.1.2.1 dX9_book_56 rfl ?_
      have g30 := inb_in (o_g hf).1
      have hf := (o_g hf).2
      refine m_ast C hw aM_17 g30 dX9_book_57 (fun H locs hw => ?_)
      refine lv_iinc (v := (x2 + (1 : Int32))) (lv' := [(2, .int (x2 + (1 : Int32))), (0, .ref (gA G (41 + 0)))]) C.1.1 C.1.2.1 dX9_book_58 hl (k := 1) rfl rfl (by decide) rfl (fun ls hl => ?_)
      refine lv_goto (tgt := 46) C.1.1 C.1.2.1 dX9_book_61 (by decide) ?_
      exact hk_46 X (u2 M 17 (Int32.toNatClampNeg x2) (-1 : Int32)) L (x2 + (1 : Int32)) _ _ _ hw (lv_sub hl [1, 0] rfl) hf
set_option maxRecDepth 20000 in
set_option maxHeartbeats 2000000 in
theorem c_X9_book   {X M : TX} {L : TL} {x1 : Int32} {ro : TX × Int32} (hf : f_X9_book M x1 = some ro) : CTi G l yX9_book cX9_book 6 (some .int) 2 47 [.ref (gA G (41 + 0)), .int x1] X M L X ro.1 L ro.2 := by
  unfold f_X9_book at hf
  refine ct_of (by decide +kernel) (Nat.le_of_ble_eq_true rfl) (fun p e s m args below meth c H locs ls C hr hlk hw hl => ?_)
  have C : Cx G p s m args c cX9_book 6 RX9 := C
  have hl : lv_has ls 6 [(0, .ref (gA G (41 + 0))), (1, .int x1)] := hl
  refine lv_aload_n C.1.1 C.1.2.1 dX9_book_0 rfl (lv_at hl 0 rfl) ?_
  refine lv_iconst (v := (0 : Int32)) C.1.1 C.1.2.1 dX9_book_1 rfl ?_
  refine m_put C hw iM_0_0 flX9_3 dX9_book_2 (fun H locs hw => ?_)
  refine lv_aload_n C.1.1 C.1.2.1 dX9_book_5 rfl (lv_at hl 0 rfl) ?_
  refine lv_iload_n C.1.1 C.1.2.1 dX9_book_6 rfl (lv_at hl 1 rfl) ?_
  refine lv_if_lt (tgt := 28) C.1.1 C.1.2.1 dX9_book_7 (by decide) (fun c1 => ?_) (fun c1 => ?_)
  · have hf := o_t hf c1
    refine lv_iconst (v := (0 : Int32)) C.1.1 C.1.2.1 dX9_book_28 rfl ?_
    refine lv_iconst (v := (1 : Int32)) C.1.1 C.1.2.1 dX9_book_29 rfl ?_
    refine lv_iconst (v := (1 : Int32)) C.1.1 C.1.2.1 dX9_book_30 rfl ?_
    obtain ⟨q2, h2, hf⟩ := o_bind hf
    refine aft_i hw (run_VM C hw clX9_200 (As := [.int (0 : Int32), .int (1 : Int32), .int (1 : Int32)]) (rest := []) oM_0 (c_X9_lets h2) rfl hl.1 rfl ⟨(Nat.le_of_ble_eq_true rfl), (Nat.le_of_ble_eq_true rfl)⟩ ⟨Nat.zero_le _, Nat.zero_le _⟩ rfl (Nat.le_of_ble_eq_true rfl) dX9_book_31) (fun H locs hw => ?_)
    refine lv_if_ne (tgt := 39) C.1.1 C.1.2.1 dX9_book_34 (by decide) (fun c3 => ?_) (fun c3 => ?_)
    · have hf := o_f hf c3
      refine lv_aload_n C.1.1 C.1.2.1 dX9_book_39 rfl (lv_at hl 0 rfl) ?_
      refine lv_iload_n C.1.1 C.1.2.1 dX9_book_40 rfl (lv_at hl 1 rfl) ?_
      obtain ⟨q4, h4, hf⟩ := o_bind hf
      refine aft_v hw (run_VM C hw clX9_204 (As := [.int x1]) (rest := []) oM_0 (c_X9_begins h4) rfl hl.1 rfl ⟨(Nat.le_of_ble_eq_true rfl), (Nat.le_of_ble_eq_true rfl)⟩ ⟨Nat.zero_le _, Nat.zero_le _⟩ rfl (Nat.le_of_ble_eq_true rfl) dX9_book_41) (fun H locs hw => ?_)
      refine lv_iconst (v := (0 : Int32)) C.1.1 C.1.2.1 dX9_book_44 rfl ?_
      refine lv_istore_n (lv' := [(2, .int (0 : Int32)), (0, .ref (gA G (41 + 0))), (1, .int x1)]) C.1.1 C.1.2.1 dX9_book_45 rfl hl (by decide) rfl (fun ls hl => ?_)
      exact wL_X9_book_46 C hr hlk FU X q4 L (0 : Int32) _ _ _ hw (lv_sub hl [1, 0] rfl) hf
    · have hf := o_t hf c3
      refine lv_iconst (v := (0 : Int32)) C.1.1 C.1.2.1 dX9_book_37 rfl ?_
      obtain rfl := Option.some.inj hf
      exact ret_i C hr hlk hw dX9_book_38
  · have hf := o_f hf c1
    refine lv_iload_n C.1.1 C.1.2.1 dX9_book_10 rfl (lv_at hl 1 rfl) ?_
    refine lv_aload_n C.1.1 C.1.2.1 dX9_book_11 rfl (lv_at hl 0 rfl) ?_
    refine m_get C hw iM_0_2 flX9_102 dX9_book_12 ?_
    refine lv_icmp_gt (tgt := 28) C.1.1 C.1.2.1 dX9_book_15 (by decide) (fun c31 => ?_) (fun c31 => ?_)
    · have hf := o_t hf c31
      refine lv_iconst (v := (0 : Int32)) C.1.1 C.1.2.1 dX9_book_28 rfl ?_
      refine lv_iconst (v := (1 : Int32)) C.1.1 C.1.2.1 dX9_book_29 rfl ?_
      refine lv_iconst (v := (1 : Int32)) C.1.1 C.1.2.1 dX9_book_30 rfl ?_
      obtain ⟨q32, h32, hf⟩ := o_bind hf
      refine aft_i hw (run_VM C hw clX9_200 (As := [.int (0 : Int32), .int (1 : Int32), .int (1 : Int32)]) (rest := []) oM_0 (c_X9_lets h32) rfl hl.1 rfl ⟨(Nat.le_of_ble_eq_true rfl), (Nat.le_of_ble_eq_true rfl)⟩ ⟨Nat.zero_le _, Nat.zero_le _⟩ rfl (Nat.le_of_ble_eq_true rfl) dX9_book_31) (fun H locs hw => ?_)
      refine lv_if_ne (tgt := 39) C.1.1 C.1.2.1 dX9_book_34 (by decide) (fun c33 => ?_) (fun c33 => ?_)
      · have hf := o_f hf c33
        refine lv_aload_n C.1.1 C.1.2.1 dX9_book_39 rfl (lv_at hl 0 rfl) ?_
        refine lv_iload_n C.1.1 C.1.2.1 dX9_book_40 rfl (lv_at hl 1 rfl) ?_
        obtain ⟨q34, h34, hf⟩ := o_bind hf
        refine aft_v hw (run_VM C hw clX9_204 (As := [.int x1]) (rest := []) oM_0 (c_X9_begins h34) rfl hl.1 rfl ⟨(Nat.le_of_ble_eq_true rfl), (Nat.le_of_ble_eq_true rfl)⟩ ⟨Nat.zero_le _, Nat.zero_le _⟩ rfl (Nat.le_of_ble_eq_true rfl) dX9_book_41) (fun H locs hw => ?_)
        refine lv_iconst (v := (0 : Int32)) C.1.1 C.1.2.1 dX9_book_44 rfl ?_
        refine lv_istore_n (lv' := [(2, .int (0 : Int32)), (0, .ref (gA G (41 + 0))), (1, .int x1)]) C.1.1 C.1.2.1 dX9_book_45 rfl hl (by decide) rfl (fun ls hl => ?_)
        exact wL_X9_book_46 C hr hlk FU X q34 L (0 : Int32) _ _ _ hw (lv_sub hl [1, 0] rfl) hf
      · have hf := o_t hf c33
        refine lv_iconst (v := (0 : Int32)) C.1.1 C.1.2.1 dX9_book_37 rfl ?_
        obtain rfl := Option.some.inj hf
        exact ret_i C hr hlk hw dX9_book_38
    · have hf := o_f hf c31
      refine lv_iload_n C.1.1 C.1.2.1 dX9_book_18 rfl (lv_at hl 1 rfl) ?_
      refine lv_bipush (v := (60 : Int32)) C.1.1 C.1.2.1 dX9_book_19 rfl ?_
      refine lv_icmp_gt (tgt := 28) C.1.1 C.1.2.1 dX9_book_21 (by decide) (fun c35 => ?_) (fun c35 => ?_)
      · have hf := o_t hf c35
        refine lv_iconst (v := (0 : Int32)) C.1.1 C.1.2.1 dX9_book_28 rfl ?_
        refine lv_iconst (v := (1 : Int32)) C.1.1 C.1.2.1 dX9_book_29 rfl ?_
        refine lv_iconst (v := (1 : Int32)) C.1.1 C.1.2.1 dX9_book_30 rfl ?_
        obtain ⟨q36, h36, hf⟩ := o_bind hf
        refine aft_i hw (run_VM C hw clX9_200 (As := [.int (0 : Int32), .int (1 : Int32), .int (1 : Int32)]) (rest := []) oM_0 (c_X9_lets h36) rfl hl.1 rfl ⟨(Nat.le_of_ble_eq_true rfl), (Nat.le_of_ble_eq_true rfl)⟩ ⟨Nat.zero_le _, Nat.zero_le _⟩ rfl (Nat.le_of_ble_eq_true rfl) dX9_book_31) (fun H locs hw => ?_)
        refine lv_if_ne (tgt := 39) C.1.1 C.1.2.1 dX9_book_34 (by decide) (fun c37 => ?_) (fun c37 => ?_)
        · have hf := o_f hf c37
          refine lv_aload_n C.1.1 C.1.2.1 dX9_book_39 rfl (lv_at hl 0 rfl) ?_
          refine lv_iload_n C.1.1 C.1.2.1 dX9_book_40 rfl (lv_at hl 1 rfl) ?_
          obtain ⟨q38, h38, hf⟩ := o_bind hf
          refine aft_v hw (run_VM C hw clX9_204 (As := [.int x1]) (rest := []) oM_0 (c_X9_begins h38) rfl hl.1 rfl ⟨(Nat.le_of_ble_eq_true rfl), (Nat.le_of_ble_eq_true rfl)⟩ ⟨Nat.zero_le _, Nat.zero_le _⟩ rfl (Nat.le_of_ble_eq_true rfl) dX9_book_41) (fun H locs hw => ?_)
          refine lv_iconst (v := (0 : Int32)) C.1.1 C.1.2.1 dX9_book_44 rfl ?_
          refine lv_istore_n (lv' := [(2, .int (0 : Int32)), (0, .ref (gA G (41 + 0))), (1, .int x1)]) C.1.1 C.1.2.1 dX9_book_45 rfl hl (by decide) rfl (fun ls hl => ?_)
          exact wL_X9_book_46 C hr hlk FU X q38 L (0 : Int32) _ _ _ hw (lv_sub hl [1, 0] rfl) hf
        · have hf := o_t hf c37
          refine lv_iconst (v := (0 : Int32)) C.1.1 C.1.2.1 dX9_book_37 rfl ?_
          obtain rfl := Option.some.inj hf
          exact ret_i C hr hlk hw dX9_book_38
      · have hf := o_f hf c35
        refine lv_iconst (v := (1 : Int32)) C.1.1 C.1.2.1 dX9_book_24 rfl ?_
        refine lv_goto (tgt := 29) C.1.1 C.1.2.1 dX9_book_25 (by decide) ?_
        refine lv_iconst (v := (1 : Int32)) C.1.1 C.1.2.1 dX9_book_29 rfl ?_
        refine lv_iconst (v := (1 : Int32)) C.1.1 C.1.2.1 dX9_book_30 rfl ?_
        obtain ⟨q39, h39, hf⟩ := o_bind hf
        refine aft_i hw (run_VM C hw clX9_200 (As := [.int (1 : Int32), .int (1 : Int32), .int (1 : Int32)]) (rest := []) oM_0 (c_X9_lets h39) rfl hl.1 rfl ⟨(Nat.le_of_ble_eq_true rfl), (Nat.le_of_ble_eq_true rfl)⟩ ⟨Nat.zero_le _, Nat.zero_le _⟩ rfl (Nat.le_of_ble_eq_true rfl) dX9_book_31) (fun H locs hw => ?_)
        refine lv_if_ne (tgt := 39) C.1.1 C.1.2.1 dX9_book_34 (by decide) (fun c40 => ?_) (fun c40 => ?_)
        · have hf := o_f hf c40
          refine lv_aload_n C.1.1 C.1.2.1 dX9_book_39 rfl (lv_at hl 0 rfl) ?_
          refine lv_iload_n C.1.1 C.1.2.1 dX9_book_40 rfl (lv_at hl 1 rfl) ?_
          obtain ⟨q41, h41, hf⟩ := o_bind hf
          refine aft_v hw (run_VM C hw clX9_204 (As := [.int x1]) (rest := []) oM_0 (c_X9_begins h41) rfl hl.1 rfl ⟨(Nat.le_of_ble_eq_true rfl), (Nat.le_of_ble_eq_true rfl)⟩ ⟨Nat.zero_le _, Nat.zero_le _⟩ rfl (Nat.le_of_ble_eq_true rfl) dX9_book_41) (fun H locs hw => ?_)
          refine lv_iconst (v := (0 : Int32)) C.1.1 C.1.2.1 dX9_book_44 rfl ?_
          refine lv_istore_n (lv' := [(2, .int (0 : Int32)), (0, .ref (gA G (41 + 0))), (1, .int x1)]) C.1.1 C.1.2.1 dX9_book_45 rfl hl (by decide) rfl (fun ls hl => ?_)
          exact wL_X9_book_46 C hr hlk FU X q41 L (0 : Int32) _ _ _ hw (lv_sub hl [1, 0] rfl) hf
        · have hf := o_t hf c40
          refine lv_iconst (v := (0 : Int32)) C.1.1 C.1.2.1 dX9_book_37 rfl ?_
          obtain rfl := Option.some.inj hf
          exact ret_i C hr hlk hw dX9_book_38
end
