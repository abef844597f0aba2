/-! WinnerDrawsModel.isFit(I)Z (('o', 'M', 0) ('i',)) -/
def L_X9_isFit_13 : Nat → TX → Int32 → Int32 → Int32 → Option (Int32)
  | 0 => fun _ _ _ _ => none
  | n + 1 => fun M x1 x2 x3 => if (4 : Int32) ≤ x3 then (if x2 &&& 1 = x2 then (some x2) else none) else (if x2 = 0 then ((L_X9_isFit_13 n) M x1 (0 : Int32) (x3 + (1 : Int32))) else (if inb x3 4 = true then (if (M 18 (Int32.toNatClampNeg x3)) = (-1 : Int32) then ((L_X9_isFit_13 n) M x1 (1 : Int32) (x3 + (1 : Int32))) else (if inb (((4 : Int32) * x1) + x3) 160 = true then (if inb x3 4 = true then (if (M 23 (Int32.toNatClampNeg (((4 : Int32) * x1) + x3))) = (M 18 (Int32.toNatClampNeg x3)) then ((L_X9_isFit_13 n) M x1 (1 : Int32) (x3 + (1 : Int32))) else ((L_X9_isFit_13 n) M x1 (0 : Int32) (x3 + (1 : Int32)))) else none) else none)) else none))
def f_X9_isFit (M : TX) (x1 : Int32) : Option (Int32) := (f_X9_mayCome M (x1 / (4 : Int32)) (x1 - x1 / (4 : Int32) * (4 : Int32))).bind fun q1 => L_X9_isFit_13 FU M x1 q1 (0 : Int32)
section
variable {G : GP} {l : Launch}
set_option maxRecDepth 20000 in
set_option maxHeartbeats 2000000 in
theorem wL_X9_isFit_13 {p : Program} {e : Env} {s : State} {m : MethodId} {args : Array Value} {below : List Frame} {meth : Method} {c : Code} (C : Cx G p s m args c cX9_isFit 4 RX9) (hr : meth.sig.returnType = (some .boolean)) (hlk : meth.locks = false) {ro : Int32} : ∀ (n : Nat), ∀ (X : TX) (M : TX) (L : TL) (x1 : Int32) (x2 : Int32) (x3 : Int32) (H : Heap) (locs : List Loc) (ls : Array Slot), Wh G s X M L H locs → lv_has ls 4 [(0, .ref (gA G (41 + 0))), (1, .int x1), (2, .int x2), (3, .int x3)] → L_X9_isFit_13 n M x1 x2 x3 = some ro → W p l e (rz 2 47) s m args below meth c H locs 0 0 (MQ below (Di G X M L ro) args s 0 0 (AB G)) (F0 m 13 ls []) := by
  intro n
  induction n with
  | zero =>
    intro X M L x1 x2 x3 H locs ls hw hl hf
    cases hf
  | succ n hk_13 =>
    intro X M L x1 x2 x3 H locs ls hw hl hf
    rw [L_X9_isFit_13] at hf
    refine lv_iload_n C.1.1 C.1.2.1 dX9_isFit_13 rfl (lv_at hl 3 rfl) ?_
    refine lv_iconst (v := (4 : Int32)) C.1.1 C.1.2.1 dX9_isFit_14 rfl ?_
    refine lv_icmp_ge (tgt := 63) C.1.1 C.1.2.1 dX9_isFit_15 (by decide) (fun c2 => ?_) (fun c2 => ?_)
    · have hf := o_t hf c2
      refine lv_iload_n C.1.1 C.1.2.1 dX9_isFit_63 rfl (lv_at hl 2 rfl) ?_
      have g3 := (o_g hf).1
      have hf := (o_g hf).2
      obtain rfl := Option.some.inj hf
      exact ret_z (r := x2) C hr hlk hw (nar_z g3) dX9_isFit_64
    · have hf := o_f hf c2
      refine lv_iload_n C.1.1 C.1.2.1 dX9_isFit_18 rfl (lv_at hl 2 rfl) ?_
      refine lv_if_eq (tgt := 55) C.1.1 C.1.2.1 dX9_isFit_19 (by decide) (fun c4 => ?_) (fun c4 => ?_)
      · have hf := o_t hf c4
        refine lv_iconst (v := (0 : Int32)) C.1.1 C.1.2.1 dX9_isFit_55 rfl ?_
        refine lv_istore_n (lv' := [(2, .int (0 : Int32)), (0, .ref (gA G (41 + 0))), (1, .int x1), (3, .int x3)]) C.1.1 C.1.2.1 dX9_isFit_56 rfl hl (by decide) rfl (fun ls hl => ?_)
        refine lv_iinc (v := (x3 + (1 : Int32))) (lv' := [(3, .int (x3 + (1 : Int32))), (2, .int (0 : Int32)), (0, .ref (gA G (41 + 0))), (1, .int x1)]) C.1.1 C.1.2.1 dX9_isFit_57 hl (k := 3) rfl rfl (by decide) rfl (fun ls hl => ?_)
        refine lv_goto (tgt := 13) C.1.1 C.1.2.1 dX9_isFit_60 (by decide) ?_
        exact hk_13 X M L x1 (0 : Int32) (x3 + (1 : Int32)) _ _ _ hw (lv_sub hl [2, 3, 1, 0] rfl) hf
      · have hf := o_f hf c4
        refine lv_aload_n C.1.1 C.1.2.1 dX9_isFit_22 rfl (lv_at hl 0 rfl) ?_
        refine m_ref C hw fM_0_39 flX9_68 dX9_isFit_23 ?_
        refine lv_iload_n C.1.1 C.1.2.1 dX9_isFit_26 rfl (lv_at hl 3 rfl) ?_
        have g5 := inb_in (o_g hf).1
        have hf := (o_g hf).2
        refine m_ald C hw aM_18 g5 dX9_isFit_27 ?_
        refine lv_iconst (v := (-1 : Int32)) C.1.1 C.1.2.1 dX9_isFit_28 rfl ?_
        refine lv_icmp_eq (tgt := 51) C.1.1 C.1.2.1 dX9_isFit_29 (by decide) (fun c6 => ?_) (fun c6 => ?_)
        · have hf := o_t hf c6
          refine lv_iconst (v := (1 : Int32)) C.1.1 C.1.2.1 dX9_isFit_51 rfl ?_
          refine lv_goto (tgt := 56) C.1.1 C.1.2.1 dX9_isFit_52 (by decide) ?_
          refine lv_istore_n (lv' := [(2, .int (1 : Int32)), (0, .ref (gA G (41 + 0))), (1, .int x1), (3, .int x3)]) C.1.1 C.1.2.1 dX9_isFit_56 rfl hl (by decide) rfl (fun ls hl => ?_)
          refine lv_iinc (v := (x3 + (1 : Int32))) (lv' := [(3, .int (x3 + (1 : Int32))), (2, .int (1 : Int32)), (0, .ref (gA G (41 + 0))), (1, .int x1)]) C.1.1 C.1.2.1 dX9_isFit_57 hl (k := 3) rfl rfl (by decide) rfl (fun ls hl => ?_)
          refine lv_goto (tgt := 13) C.1.1 C.1.2.1 dX9_isFit_60 (by decide) ?_
          exact hk_13 X M L x1 (1 : Int32) (x3 + (1 : Int32)) _ _ _ hw (lv_sub hl [2, 3, 1, 0] rfl) hf
        · have hf := o_f hf c6
          refine lv_aload_n C.1.1 C.1.2.1 dX9_isFit_32 rfl (lv_at hl 0 rfl) ?_
          refine m_ref C hw fM_0_45 flX9_83 dX9_isFit_33 ?_
          refine lv_iconst (v := (4 : Int32)) C.1.1 C.1.2.1 dX9_isFit_36 rfl ?_
          refine lv_iload_n C.1.1 C.1.2.1 dX9_isFit_37 rfl (lv_at hl 1 rfl) ?_
          refine lv_imul C.1.1 C.1.2.1 dX9_isFit_38 ?_
          refine lv_iload_n C.1.1 C.1.2.1 dX9_isFit_39 rfl (lv_at hl 3 rfl) ?_
          refine lv_iadd C.1.1 C.1.2.1 dX9_isFit_40 ?_
          have g7 := inb_in (o_g hf).1
          have hf := (o_g hf).2
          refine m_ald C hw aM_23 g7 dX9_isFit_41 ?_
          refine lv_aload_n C.1.1 C.1.2.1 dX9_isFit_42 rfl (lv_at hl 0 rfl) ?_
          refine m_ref C hw fM_0_39 flX9_68 dX9_isFit_43 ?_
          refine lv_iload_n C.1.1 C.1.2.1 dX9_isFit_46 rfl (lv_at hl 3 rfl) ?_
          have g8 := inb_in (o_g hf).1
          have hf := (o_g hf).2
          refine m_ald C hw aM_18 g8 dX9_isFit_47 ?_
          refine lv_icmp_ne (tgt := 55) C.1.1 C.1.2.1 dX9_isFit_48 (by decide) (fun c9 => ?_) (fun c9 => ?_)
          · have hf := o_f hf c9
            refine lv_iconst (v := (0 : Int32)) C.1.1 C.1.2.1 dX9_isFit_55 rfl ?_
            refine lv_istore_n (lv' := [(2, .int (0 : Int32)), (0, .ref (gA G (41 + 0))), (1, .int x1), (3, .int x3)]) C.1.1 C.1.2.1 dX9_isFit_56 rfl hl (by decide) rfl (fun ls hl => ?_)
            refine lv_iinc (v := (x3 + (1 : Int32))) (lv' := [(3, .int (x3 + (1 : Int32))), (2, .int (0 : Int32)), (0, .ref (gA G (41 + 0))), (1, .int x1)]) C.1.1 C.1.2.1 dX9_isFit_57 hl (k := 3) rfl rfl (by decide) rfl (fun ls hl => ?_)
            refine lv_goto (tgt := 13) C.1.1 C.1.2.1 dX9_isFit_60 (by decide) ?_
            exact hk_13 X M L x1 (0 : Int32) (x3 + (1 : Int32)) _ _ _ hw (lv_sub hl [2, 3, 1, 0] rfl) hf
          · have hf := o_t hf c9
            refine lv_iconst (v := (1 : Int32)) C.1.1 C.1.2.1 dX9_isFit_51 rfl ?_
            refine lv_goto (tgt := 56) C.1.1 C.1.2.1 dX9_isFit_52 (by decide) ?_
            refine lv_istore_n (lv' := [(2, .int (1 : Int32)), (0, .ref (gA G (41 + 0))), (1, .int x1), (3, .int x3)]) C.1.1 C.1.2.1 dX9_isFit_56 rfl hl (by decide) rfl (fun ls hl => ?_)
            refine lv_iinc (v := (x3 + (1 : Int32))) (lv' := [(3, .int (x3 + (1 : Int32))), (2, .int (1 : Int32)), (0, .ref (gA G (41 + 0))), (1, .int x1)]) C.1.1 C.1.2.1 dX9_isFit_57 hl (k := 3) rfl rfl (by decide) rfl (fun ls hl => ?_)
            refine lv_goto (tgt := 13) C.1.1 C.1.2.1 dX9_isFit_60 (by decide) ?_
            exact hk_13 X M L x1 (1 : Int32) (x3 + (1 : Int32)) _ _ _ hw (lv_sub hl [2, 3, 1, 0] rfl) hf
set_option maxRecDepth 20000 in
set_option maxHeartbeats 2000000 in
theorem c_X9_isFit   {X M : TX} {L : TL} {x1 : Int32} {ro : Int32} (hf : f_X9_isFit M x1 = some ro) : CTi G l yX9_isFit cX9_isFit 4 (some .boolean) 2 47 [.ref (gA G (41 + 0)), .int x1] X M L X M L ro := by
  unfold f_X9_isFit at hf
  refine ct_of (by decide +kernel) (Nat.le_of_ble_eq_true rfl) (fun p e s m args below meth c H locs ls C hr hlk hw hl => ?_)
  have C : Cx G p s m args c cX9_isFit 4 RX9 := C
  have hl : lv_has ls 4 [(0, .ref (gA G (41 + 0))), (1, .int x1)] := hl
  refine lv_aload_n C.1.1 C.1.2.1 dX9_isFit_0 rfl (lv_at hl 0 rfl) ?_
  refine lv_iload_n C.1.1 C.1.2.1 dX9_isFit_1 rfl (lv_at hl 1 rfl) ?_
  refine lv_iconst (v := (4 : Int32)) C.1.1 C.1.2.1 dX9_isFit_2 rfl ?_
  refine lv_idiv C.1.1 C.1.2.1 dX9_isFit_3 (by decide) ?_
  refine lv_iload_n C.1.1 C.1.2.1 dX9_isFit_4 rfl (lv_at hl 1 rfl) ?_
  refine lv_iconst (v := (4 : Int32)) C.1.1 C.1.2.1 dX9_isFit_5 rfl ?_
  refine lv_irem C.1.1 C.1.2.1 dX9_isFit_6 (by decide) ?_
  obtain ⟨q1, h1, hf⟩ := o_bind hf
  refine aft_i hw (run_VM C hw clX9_357 (As := [.int (x1 / (4 : Int32)), .int (x1 - x1 / (4 : Int32) * (4 : Int32))]) (rest := []) oM_0 (c_X9_mayCome h1) rfl hl.1 rfl ⟨(Nat.le_of_ble_eq_true rfl), (Nat.le_of_ble_eq_true rfl)⟩ ⟨Nat.zero_le _, Nat.zero_le _⟩ rfl (Nat.le_of_ble_eq_true rfl) dX9_isFit_7) (fun H locs hw => ?_)
  refine lv_istore_n (lv' := [(2, .int q1), (0, .ref (gA G (41 + 0))), (1, .int x1)]) C.1.1 C.1.2.1 dX9_isFit_10 rfl hl (by decide) rfl (fun ls hl => ?_)
  refine lv_iconst (v := (0 : Int32)) C.1.1 C.1.2.1 dX9_isFit_11 rfl ?_
  refine lv_istore_n (lv' := [(3, .int (0 : Int32)), (2, .int q1), (0, .ref (gA G (41 + 0))), (1, .int x1)]) C.1.1 C.1.2.1 dX9_isFit_12 rfl hl (by decide) rfl (fun ls hl => ?_)
  exact wL_X9_isFit_13 C hr hlk FU X M L x1 q1 (0 : Int32) _ _ _ hw (lv_sub hl [2, 3, 1, 0] rfl) hf
end
/-! WinnerDrawsModel.fits(I)I (('o', 'M', 0) ('i',)) -/
def L_X9_fits_33 : Nat → TX → Int32 → Int32 → Int32 → Int32 → Option (TX × Int32)
  | 0 => fun _ _ _ _ _ => none
  | n + 1 => fun M x1 x2 x3 x4 => if ((4 : Int32) * (M 0 19)) ≤ x4 then (if x1 = 0 then (some (M, x2)) else (some (M, x3))) else ((f_X9_isFit M x4).bind fun q7 => if q7 = 0 then ((L_X9_fits_33 n) M x1 x2 x3 (x4 + (1 : Int32))) else (if x3 = (-1 : Int32) then ((L_X9_fits_33 n) M x1 (x2 + (1 : Int32)) (((10 : Int32) * (x4 / (4 : Int32))) + (x4 - x4 / (4 : Int32) * (4 : Int32))) (x4 + (1 : Int32))) else ((L_X9_fits_33 n) M x1 (x2 + (1 : Int32)) x3 (x4 + (1 : Int32)))))
def f_X9_fits (M : TX) (x1 : Int32) : Option (TX × Int32) := (f_X9_within x1 (0 : Int32) (1 : Int32)).bind fun q1 => (f_X9_lets (u2 M 0 0 (0 : Int32)) q1 (1 : Int32) (1 : Int32)).bind fun q2 => if q2.2 = 0 then (some (q2.1, (0 : Int32))) else ((f_X9_laysWon q2.1).bind fun q4 => L_X9_fits_33 FU q4 x1 (0 : Int32) (-1 : Int32) (0 : Int32))
section
variable {G : GP} {l : Launch}
set_option maxRecDepth 20000 in
set_option maxHeartbeats 2000000 in
theorem wL_X9_fits_33 {p : Program} {e : Env} {s : State} {m : MethodId} {args : Array Value} {below : List Frame} {meth : Method} {c : Code} (C : Cx G p s m args c cX9_fits 5 RX9) (hr : meth.sig.returnType = (some .int)) (hlk : meth.locks = false) {ro : TX × Int32} : ∀ (n : Nat), ∀ (X : TX) (M : TX) (L : TL) (x1 : Int32) (x2 : Int32) (x3 : Int32) (x4 : Int32) (H : Heap) (locs : List Loc) (ls : Array Slot), Wh G s X M L H locs → lv_has ls 5 [(0, .ref (gA G (41 + 0))), (1, .int x1), (2, .int x2), (3, .int x3), (4, .int x4)] → L_X9_fits_33 n M x1 x2 x3 x4 = some ro → W p l e (rz 4 91) s m args below meth c H locs 0 0 (MQ below (Di G X ro.1 L ro.2) args s 0 0 (AB G)) (F0 m 33 ls []) := by
  intro n
  induction n with
  | zero =>
    intro X M L x1 x2 x3 x4 H locs ls hw hl hf
    cases hf
  | succ n hk_33 =>
    intro X M L x1 x2 x3 x4 H locs ls hw hl hf
    rw [L_X9_fits_33] at hf
    refine lv_iload C.1.1 C.1.2.1 dX9_fits_33 (lv_at hl 4 rfl) ?_
    refine lv_iconst (v := (4 : Int32)) C.1.1 C.1.2.1 dX9_fits_35 rfl ?_
    refine lv_aload_n C.1.1 C.1.2.1 dX9_fits_36 rfl (lv_at hl 0 rfl) ?_
    refine m_get C hw iM_0_19 flX9_157 dX9_fits_37 ?_
    refine lv_imul C.1.1 C.1.2.1 dX9_fits_40 ?_
    refine lv_icmp_ge (tgt := 87) C.1.1 C.1.2.1 dX9_fits_41 (by decide) (fun c5 => ?_) (fun c5 => ?_)
    · have hf := o_t hf c5
      refine lv_iload_n C.1.1 C.1.2.1 dX9_fits_87 rfl (lv_at hl 1 rfl) ?_
      refine lv_if_ne (tgt := 95) C.1.1 C.1.2.1 dX9_fits_88 (by decide) (fun c6 => ?_) (fun c6 => ?_)
      · have hf := o_f hf c6
        refine lv_iload_n C.1.1 C.1.2.1 dX9_fits_95 rfl (lv_at hl 3 rfl) ?_
        obtain rfl := Option.some.inj hf
        exact ret_i C hr hlk hw dX9_fits_96
      · have hf := o_t hf c6
        refine lv_iload_n C.1.1 C.1.2.1 dX9_fits_91 rfl (lv_at hl 2 rfl) ?_
        refine lv_goto (tgt := 96) C.1.1 C.1.2.1 dX9_fits_92 (by decide) ?_
        obtain rfl := Option.some.inj hf
        exact ret_i C hr hlk hw dX9_fits_96
    · have hf := o_f hf c5
      refine lv_aload_n C.1.1 C.1.2.1 dX9_fits_44 rfl (lv_at hl 0 rfl) ?_
      refine lv_iload C.1.1 C.1.2.1 dX9_fits_45 (lv_at hl 4 rfl) ?_
      obtain ⟨q7, h7, hf⟩ := o_bind hf
      refine aft_i hw (run_VM C hw clX9_407 (As := [.int x4]) (rest := []) oM_0 (c_X9_isFit h7) rfl hl.1 rfl ⟨(Nat.le_of_ble_eq_true rfl), (Nat.le_of_ble_eq_true rfl)⟩ ⟨Nat.zero_le _, Nat.zero_le _⟩ rfl (Nat.le_of_ble_eq_true rfl) dX9_fits_47) (fun H locs hw => ?_)
      refine lv_if_ne (tgt := 56) C.1.1 C.1.2.1 dX9_fits_50 (by decide) (fun c8 => ?_) (fun c8 => ?_)
      · have hf := o_f hf c8
        refine lv_iinc (v := (x2 + (1 : Int32))) (lv' := [(2, .int (x2 + (1 : Int32))), (0, .ref (gA G (41 + 0))), (1, .int x1), (3, .int x3), (4, .int x4)]) C.1.1 C.1.2.1 dX9_fits_56 hl (k := 2) rfl rfl (by decide) rfl (fun ls hl => ?_)
        refine lv_iload_n C.1.1 C.1.2.1 dX9_fits_59 rfl (lv_at hl 3 rfl) ?_
        refine lv_iconst (v := (-1 : Int32)) C.1.1 C.1.2.1 dX9_fits_60 rfl ?_
        refine lv_icmp_ne (tgt := 79) C.1.1 C.1.2.1 dX9_fits_61 (by decide) (fun c9 => ?_) (fun c9 => ?_)
        · have hf := o_f hf c9
          refine lv_iload_n C.1.1 C.1.2.1 dX9_fits_79 rfl (lv_at hl 3 rfl) ?_
          refine lv_istore_n (lv' := [(3, .int x3), (2, .int (x2 + (1 : Int32))), (0, .ref (gA G (41 + 0))), (1, .int x1), (4, .int x4)]) C.1.1 C.1.2.1 dX9_fits_80 rfl hl (by decide) rfl (fun ls hl => ?_)
          refine lv_iinc (v := (x4 + (1 : Int32))) (lv' := [(4, .int (x4 + (1 : Int32))), (3, .int x3), (2, .int (x2 + (1 : Int32))), (0, .ref (gA G (41 + 0))), (1, .int x1)]) C.1.1 C.1.2.1 dX9_fits_81 hl (k := 4) rfl rfl (by decide) rfl (fun ls hl => ?_)
          refine lv_goto (tgt := 33) C.1.1 C.1.2.1 dX9_fits_84 (by decide) ?_
          exact hk_33 X M L x1 (x2 + (1 : Int32)) x3 (x4 + (1 : Int32)) _ _ _ hw (lv_sub hl [3, 4, 2, 1, 0] rfl) hf
        · have hf := o_t hf c9
          refine lv_bipush (v := (10 : Int32)) C.1.1 C.1.2.1 dX9_fits_64 rfl ?_
          refine lv_iload C.1.1 C.1.2.1 dX9_fits_66 (lv_at hl 4 rfl) ?_
          refine lv_iconst (v := (4 : Int32)) C.1.1 C.1.2.1 dX9_fits_68 rfl ?_
          refine lv_idiv C.1.1 C.1.2.1 dX9_fits_69 (by decide) ?_
          refine lv_imul C.1.1 C.1.2.1 dX9_fits_70 ?_
          refine lv_iload C.1.1 C.1.2.1 dX9_fits_71 (lv_at hl 4 rfl) ?_
          refine lv_iconst (v := (4 : Int32)) C.1.1 C.1.2.1 dX9_fits_73 rfl ?_
          refine lv_irem C.1.1 C.1.2.1 dX9_fits_74 (by decide) ?_
          refine lv_iadd C.1.1 C.1.2.1 dX9_fits_75 ?_
          refine lv_goto (tgt := 80) C.1.1 C.1.2.1 dX9_fits_76 (by decide) ?_
          refine lv_istore_n (lv' := [(3, .int (((10 : Int32) * (x4 / (4 : Int32))) + (x4 - x4 / (4 : Int32) * (4 : Int32)))), (2, .int (x2 + (1 : Int32))), (0, .ref (gA G (41 + 0))), (1, .int x1), (4, .int x4)]) C.1.1 C.1.2.1 dX9_fits_80 rfl hl (by decide) rfl (fun ls hl => ?_)
          refine lv_iinc (v := (x4 + (1 : Int32))) (lv' := [(4, .int (x4 + (1 : Int32))), (3, .int (((10 : Int32) * (x4 / (4 : Int32))) + (x4 - x4 / (4 : Int32) * (4 : Int32)))), (2, .int (x2 + (1 : Int32))), (0, .ref (gA G (41 + 0))), (1, .int x1)]) C.1.1 C.1.2.1 dX9_fits_81 hl (k := 4) rfl rfl (by decide) rfl (fun ls hl => ?_)
          refine lv_goto (tgt := 33) C.1.1 C.1.2.1 dX9_fits_84 (by decide) ?_
          exact hk_33 X M L x1 (x2 + (1 : Int32)) (((10 : Int32) * (x4 / (4 : Int32))) + (x4 - x4 / (4 : Int32) * (4 : Int32))) (x4 + (1 : Int32)) _ _ _ hw (lv_sub hl [3, 4, 2, 1, 0] rfl) hf
      · have hf := o_t hf c8
        refine lv_goto (tgt := 81) C.1.1 C.1.2.1 dX9_fits_53 (by decide) ?_
        refine lv_iinc (v := (x4 + (1 : Int32))) (lv' := [(4, .int (x4 + (1 : Int32))), (0, .ref (gA G (41 + 0))), (1, .int x1), (2, .int x2), (3, .int x3)]) C.1.1 C.1.2.1 dX9_fits_81 hl (k := 4) rfl rfl (by decide) rfl (fun ls hl => ?_)
        refine lv_goto (tgt := 33) C.1.1 C.1.2.1 dX9_fits_84 (by decide) ?_
        exact hk_33 X M L x1 x2 x3 (x4 + (1 : Int32)) _ _ _ hw (lv_sub hl [1, 2, 3, 4, 0] rfl) hf
set_option maxRecDepth 20000 in
set_option maxHeartbeats 2000000 in
theorem c_X9_fits   {X M : TX} {L : TL} {x1 : Int32} {ro : TX × Int32} (hf : f_X9_fits M x1 = some ro) : CTi G l yX9_fits cX9_fits 5 (some .int) 4 91 [.ref (gA G (41 + 0)), .int x1] X M L X ro.1 L ro.2 := by
  unfold f_X9_fits at hf
  refine ct_of (by decide +kernel) (Nat.le_of_ble_eq_true rfl) (fun p e s m args below meth c H locs ls C hr hlk hw hl => ?_)
  have C : Cx G p s m args c cX9_fits 5 RX9 := C
  have hl : lv_has ls 5 [(0, .ref (gA G (41 + 0))), (1, .int x1)] := hl
  refine lv_aload_n C.1.1 C.1.2.1 dX9_fits_0 rfl (lv_at hl 0 rfl) ?_
  refine lv_iconst (v := (0 : Int32)) C.1.1 C.1.2.1 dX9_fits_1 rfl ?_
  refine m_put C hw iM_0_0 flX9_3 dX9_fits_2 (fun H locs hw => ?_)
  refine lv_aload_n C.1.1 C.1.2.1 dX9_fits_5 rfl (lv_at hl 0 rfl) ?_
  refine lv_iload_n C.1.1 C.1.2.1 dX9_fits_6 rfl (lv_at hl 1 rfl) ?_
  refine lv_iconst (v := (0 : Int32)) C.1.1 C.1.2.1 dX9_fits_7 rfl ?_
  refine lv_iconst (v := (1 : Int32)) C.1.1 C.1.2.1 dX9_fits_8 rfl ?_
  obtain ⟨q1, h1, hf⟩ := o_bind hf
  refine aft_i hw (run_S C hw clX9_385 (As := [.int x1, .int (0 : Int32), .int (1 : Int32)]) (rest := [.ref (gA G (41 + 0))]) (c_X9_within h1) hl.1 rfl ⟨(Nat.le_of_ble_eq_true rfl), (Nat.le_of_ble_eq_true rfl)⟩ ⟨Nat.zero_le _, Nat.zero_le _⟩ rfl (Nat.le_of_ble_eq_true rfl) dX9_fits_9) (fun H locs hw => ?_)
  refine lv_iconst (v := (1 : Int32)) C.1.1 C.1.2.1 dX9_fits_12 rfl ?_
  refine lv_iconst (v := (1 : Int32)) C.1.1 C.1.2.1 dX9_fits_13 rfl ?_
  obtain ⟨q2, h2, hf⟩ := o_bind hf
  refine aft_i hw (run_VM C hw clX9_200 (As := [.int q1, .int (1 : Int32), .int (1 : Int32)]) (rest := []) oM_0 (c_X9_lets h2) rfl hl.1 rfl ⟨(Nat.le_of_ble_eq_true rfl), (Nat.le_of_ble_eq_true rfl)⟩ ⟨Nat.zero_le _, Nat.zero_le _⟩ rfl (Nat.le_of_ble_eq_true rfl) dX9_fits_14) (fun H locs hw => ?_)
  refine lv_if_ne (tgt := 22) C.1.1 C.1.2.1 dX9_fits_17 (by decide) (fun c3 => ?_) (fun c3 => ?_)
  · have hf := o_f hf c3
    refine lv_aload_n C.1.1 C.1.2.1 dX9_fits_22 rfl (lv_at hl 0 rfl) ?_
    obtain ⟨q4, h4, hf⟩ := o_bind hf
    refine aft_v hw (run_VM C hw clX9_404 (As := []) (rest := []) oM_0 (c_X9_laysWon h4) rfl hl.1 rfl ⟨(Nat.le_of_ble_eq_true rfl), (Nat.le_of_ble_eq_true rfl)⟩ ⟨Nat.zero_le _, Nat.zero_le _⟩ rfl (Nat.le_of_ble_eq_true rfl) dX9_fits_23) (fun H locs hw => ?_)
    refine lv_iconst (v := (0 : Int32)) C.1.1 C.1.2.1 dX9_fits_26 rfl ?_
    refine lv_istore_n (lv' := [(2, .int (0 : Int32)), (0, .ref (gA G (41 + 0))), (1, .int x1)]) C.1.1 C.1.2.1 dX9_fits_27 rfl hl (by decide) rfl (fun ls hl => ?_)
    refine lv_iconst (v := (-1 : Int32)) C.1.1 C.1.2.1 dX9_fits_28 rfl ?_
    refine lv_istore_n (lv' := [(3, .int (-1 : Int32)), (2, .int (0 : Int32)), (0, .ref (gA G (41 + 0))), (1, .int x1)]) C.1.1 C.1.2.1 dX9_fits_29 rfl hl (by decide) rfl (fun ls hl => ?_)
    refine lv_iconst (v := (0 : Int32)) C.1.1 C.1.2.1 dX9_fits_30 rfl ?_
    refine lv_istore (lv' := [(4, .int (0 : Int32)), (3, .int (-1 : Int32)), (2, .int (0 : Int32)), (0, .ref (gA G (41 + 0))), (1, .int x1)]) C.1.1 C.1.2.1 dX9_fits_31 hl (by decide) rfl (fun ls hl => ?_)
    exact wL_X9_fits_33 C hr hlk FU X q4 L x1 (0 : Int32) (-1 : Int32) (0 : Int32) _ _ _ hw (lv_sub hl [3, 4, 2, 1, 0] rfl) hf
  · have hf := o_t hf c3
    refine lv_iconst (v := (0 : Int32)) C.1.1 C.1.2.1 dX9_fits_20 rfl ?_
    obtain rfl := Option.some.inj hf
    exact ret_i C hr hlk hw dX9_fits_21
end
/-! WinnerDrawsModel.worstOf(I)I (('o', 'M', 0) ('i',)) -/
def L_X9_worstOf_24 : Nat → TX → Int32 → Int32 → Int32 → Option (TX × Int32)
  | 0 => fun _ _ _ _ => none
  | n + 1 => fun M x1 x2 x3 => if ((4 : Int32) * (M 0 19)) ≤ x3 then (some (M, x2)) else ((f_X9_isFit M x3).bind fun q3 => if q3 = 0 then ((L_X9_worstOf_24 n) M x1 x2 (x3 + (1 : Int32))) else (if inb (((4 : Int32) * x3) + x1) 160 = true then (if inb (M 23 (Int32.toNatClampNeg (((4 : Int32) * x3) + x1))) 3 = true then (if inb (M 23 (Int32.toNatClampNeg (((4 : Int32) * x3) + x1))) 3 = true then (if inb (M 23 (Int32.toNatClampNeg (((4 : Int32) * x3) + x1))) 3 = true then (if ((u2 M 24 (Int32.toNatClampNeg (M 23 (Int32.toNatClampNeg (((4 : Int32) * x3) + x1)))) ((M 24 (Int32.toNatClampNeg (M 23 (Int32.toNatClampNeg (((4 : Int32) * x3) + x1))))) + (1 : Int32))) 24 (Int32.toNatClampNeg (M 23 (Int32.toNatClampNeg (((4 : Int32) * x3) + x1))))) ≤ x2 then ((L_X9_worstOf_24 n) (u2 M 24 (Int32.toNatClampNeg (M 23 (Int32.toNatClampNeg (((4 : Int32) * x3) + x1)))) ((M 24 (Int32.toNatClampNeg (M 23 (Int32.toNatClampNeg (((4 : Int32) * x3) + x1))))) + (1 : Int32))) x1 x2 (x3 + (1 : Int32))) else (if inb (M 23 (Int32.toNatClampNeg (((4 : Int32) * x3) + x1))) 3 = true then ((L_X9_worstOf_24 n) (u2 M 24 (Int32.toNatClampNeg (M 23 (Int32.toNatClampNeg (((4 : Int32) * x3) + x1)))) ((M 24 (Int32.toNatClampNeg (M 23 (Int32.toNatClampNeg (((4 : Int32) * x3) + x1))))) + (1 : Int32))) x1 ((u2 M 24 (Int32.toNatClampNeg (M 23 (Int32.toNatClampNeg (((4 : Int32) * x3) + x1)))) ((M 24 (Int32.toNatClampNeg (M 23 (Int32.toNatClampNeg (((4 : Int32) * x3) + x1))))) + (1 : Int32))) 24 (Int32.toNatClampNeg (M 23 (Int32.toNatClampNeg (((4 : Int32) * x3) + x1))))) (x3 + (1 : Int32))) else none)) else none) else none) else none) else none))
def L_X9_worstOf_2 : Nat → TX → Int32 → Int32 → Option (TX × Int32)
  | 0 => fun _ _ _ => none
  | n + 1 => fun M x1 x2 => if (3 : Int32) ≤ x2 then (L_X9_worstOf_24 FU M x1 (0 : Int32) (0 : Int32)) else (if inb x2 3 = true then ((L_X9_worstOf_2 n) (u2 M 24 (Int32.toNatClampNeg x2) (0 : Int32)) x1 (x2 + (1 : Int32))) else none)
def f_X9_worstOf (M : TX) (x1 : Int32) : Option (TX × Int32) := L_X9_worstOf_2 FU M x1 (0 : Int32)
section
variable {G : GP} {l : Launch}
set_option maxRecDepth 20000 in
set_option maxHeartbeats 2000000 in
theorem wL_X9_worstOf_24 {p : Program} {e : Env} {s : State} {m : MethodId} {args : Array Value} {below : List Frame} {meth : Method} {c : Code} (C : Cx G p s m args c cX9_worstOf 5 RX9) (hr : meth.sig.returnType = (some .int)) (hlk : meth.locks = false) {ro : TX × Int32} : ∀ (n : Nat), ∀ (X : TX) (M : TX) (L : TL) (x1 : Int32) (x2 : Int32) (x3 : Int32) (H : Heap) (locs : List Loc) (ls : Array Slot), Wh G s X M L H locs → lv_has ls 5 [(0, .ref (gA G (41 + 0))), (1, .int x1), (2, .int x2), (3, .int x3)] → L_X9_worstOf_24 n M x1 x2 x3 = some ro → W p l e (rz 3 70) s m args below meth c H locs 0 0 (MQ below (Di G X ro.1 L ro.2) args s 0 0 (AB G)) (F0 m 24 ls []) := by
  intro n
  induction n with
  | zero =>
    intro X M L x1 x2 x3 H locs ls hw hl hf
    cases hf
  | succ n hk_24 =>
    intro X M L x1 x2 x3 H locs ls hw hl hf
    rw [L_X9_worstOf_24] at hf
    refine lv_iload_n C.1.1 C.1.2.1 dX9_worstOf_24 rfl (lv_at hl 3 rfl) ?_
    refine lv_iconst (v := (4 : Int32)) C.1.1 C.1.2.1 dX9_worstOf_25 rfl ?_
    refine lv_aload_n C.1.1 C.1.2.1 dX9_worstOf_26 rfl (lv_at hl 0 rfl) ?_
    refine m_get C hw iM_0_19 flX9_157 dX9_worstOf_27 ?_
    refine lv_imul C.1.1 C.1.2.1 dX9_worstOf_30 ?_
    refine lv_icmp_ge (tgt := 97) C.1.1 C.1.2.1 dX9_worstOf_31 (by decide) (fun c2 => ?_) (fun c2 => ?_)
    · have hf := o_t hf c2
      refine lv_iload_n C.1.1 C.1.2.1 dX9_worstOf_97 rfl (lv_at hl 2 rfl) ?_
      obtain rfl := Option.some.inj hf
      exact ret_i C hr hlk hw dX9_worstOf_98
    · have hf := o_f hf c2
      refine lv_aload_n C.1.1 C.1.2.1 dX9_worstOf_34 rfl (lv_at hl 0 rfl) ?_
      refine lv_iload_n C.1.1 C.1.2.1 dX9_worstOf_35 rfl (lv_at hl 3 rfl) ?_
      obtain ⟨q3, h3, hf⟩ := o_bind hf
      refine aft_i hw (run_VM C hw clX9_407 (As := [.int x3]) (rest := []) oM_0 (c_X9_isFit h3) rfl hl.1 rfl ⟨(Nat.le_of_ble_eq_true rfl), (Nat.le_of_ble_eq_true rfl)⟩ ⟨Nat.zero_le _, Nat.zero_le _⟩ rfl (Nat.le_of_ble_eq_true rfl) dX9_worstOf_36) (fun H locs hw => ?_)
      refine lv_if_ne (tgt := 45) C.1.1 C.1.2.1 dX9_worstOf_39 (by decide) (fun c4 => ?_) (fun c4 => ?_)
      · have hf := o_f hf c4
        refine lv_aload_n C.1.1 C.1.2.1 dX9_worstOf_45 rfl (lv_at hl 0 rfl) ?_
        refine m_ref C hw fM_0_45 flX9_83 dX9_worstOf_46 ?_
        refine lv_iconst (v := (4 : Int32)) C.1.1 C.1.2.1 dX9_worstOf_49 rfl ?_
        refine lv_iload_n C.1.1 C.1.2.1 dX9_worstOf_50 rfl (lv_at hl 3 rfl) ?_
        refine lv_imul C.1.1 C.1.2.1 dX9_worstOf_51 ?_
        refine lv_iload_n C.1.1 C.1.2.1 dX9_worstOf_52 rfl (lv_at hl 1 rfl) ?_
        refine lv_iadd C.1.1 C.1.2.1 dX9_worstOf_53 ?_
        have g5 := inb_in (o_g hf).1
        have hf := (o_g hf).2
        refine m_ald C hw aM_23 g5 dX9_worstOf_54 ?_
        refine lv_istore (lv' := [(4, .int (M 23 (Int32.toNatClampNeg (((4 : Int32) * x3) + x1)))), (0, .ref (gA G (41 + 0))), (1, .int x1), (2, .int x2), (3, .int x3)]) C.1.1 C.1.2.1 dX9_worstOf_55 hl (by decide) rfl (fun ls hl => ?_)
        refine lv_aload_n C.1.1 C.1.2.1 dX9_worstOf_57 rfl (lv_at hl 1 rfl) ?_
        refine m_ref C hw fM_0_46 flX9_86 dX9_worstOf_58 ?_
        refine lv_iload C.1.1 C.1.2.1 dX9_worstOf_61 (lv_at hl 0 rfl) ?_
        refine lv_dup2_11 C.1.1 C.1.2.1 dX9_worstOf_63 rfl rfl ?_
        have g6 := inb_in (o_g hf).1
        have hf := (o_g hf).2
        refine m_ald C hw aM_24 g6 dX9_worstOf_64 ?_
        refine lv_iconst (v := (1 : Int32)) C.1.1 C.1.2.1 dX9_worstOf_65 rfl ?_
        refine lv_iadd C.1.1 C.1.2.1 dX9_worstOf_66 ?_
        have g7 := inb_in (o_g hf).1
        have hf := (o_g hf).2
        refine m_ast C hw aM_24 g7 dX9_worstOf_67 (fun H locs hw => ?_)
        refine lv_aload_n C.1.1 C.1.2.1 dX9_worstOf_68 rfl (lv_at hl 1 rfl) ?_
        refine m_ref C hw fM_0_46 flX9_86 dX9_worstOf_69 ?_
        refine lv_iload C.1.1 C.1.2.1 dX9_worstOf_72 (lv_at hl 0 rfl) ?_
        have g8 := inb_in (o_g hf).1
        have hf := (o_g hf).2
        refine m_ald C hw aM_24 g8 dX9_worstOf_74 ?_
        refine lv_iload_n C.1.1 C.1.2.1 dX9_worstOf_75 rfl (lv_at hl 3 rfl) ?_
        refine lv_icmp_le (tgt := 89) C.1.1 C.1.2.1 dX9_worstOf_76 (by decide) (fun c9 => ?_) (fun c9 => ?_)
        · have hf := o_t hf c9
          refine lv_iload_n C.1.1 C.1.2.1 dX9_worstOf_89 rfl (lv_at hl 3 rfl) ?_
          refine lv_istore_n (lv' := [(2, .int x2), (4, .int (M 23 (Int32.toNatClampNeg (((4 : Int32) * x3) + x1)))), (0, .ref (gA G (41 + 0))), (1, .int x1), (3, .int x3)]) C.1.1 C.1.2.1 dX9_worstOf_90 rfl hl (by decide) rfl (fun ls hl => ?_)
          refine lv_iinc (v := (x3 + (1 : Int32))) (lv' := [(3, .int (x3 + (1 : Int32))), (2, .int x2), (4, .int (M 23 (Int32.toNatClampNeg (((4 : Int32) * x3) + x1)))), (0, .ref (gA G (41 + 0))), (1, .int x1)]) C.1.1 C.1.2.1 dX9_worstOf_91 hl (k := 4) rfl rfl (by decide) rfl (fun ls hl => ?_)
          refine lv_goto (tgt := 24) C.1.1 C.1.2.1 dX9_worstOf_94 (by decide) ?_
          exact hk_24 X (u2 M 24 (Int32.toNatClampNeg (M 23 (Int32.toNatClampNeg (((4 : Int32) * x3) + x1)))) ((M 24 (Int32.toNatClampNeg (M 23 (Int32.toNatClampNeg (((4 : Int32) * x3) + x1))))) + (1 : Int32))) L x1 x2 (x3 + (1 : Int32)) _ _ _ hw (lv_sub hl [3, 4, 1, 0] rfl) hf
        · have hf := o_f hf c9
          refine lv_aload_n C.1.1 C.1.2.1 dX9_worstOf_79 rfl (lv_at hl 1 rfl) ?_
          refine m_ref C hw fM_0_46 flX9_86 dX9_worstOf_80 ?_
          refine lv_iload C.1.1 C.1.2.1 dX9_worstOf_83 (lv_at hl 0 rfl) ?_
          have g10 := inb_in (o_g hf).1
          have hf := (o_g hf).2
          refine m_ald C hw aM_24 g10 dX9_worstOf_85 ?_
          refine lv_goto (tgt := 90) C.1.1 C.1.2.1 dX9_worstOf_86 (by decide) ?_
          refine lv_istore_n (lv' := [(2, .int ((u2 M 24 (Int32.toNatClampNeg (M 23 (Int32.toNatClampNeg (((4 : Int32) * x3) + x1)))) ((M 24 (Int32.toNatClampNeg (M 23 (Int32.toNatClampNeg (((4 : Int32) * x3) + x1))))) + (1 : Int32))) 24 (Int32.toNatClampNeg (M 23 (Int32.toNatClampNeg (((4 : Int32) * x3) + x1)))))), (4, .int (M 23 (Int32.toNatClampNeg (((4 : Int32) * x3) + x1)))), (0, .ref (gA G (41 + 0))), (1, .int x1), (3, .int x3)]) C.1.1 C.1.2.1 dX9_worstOf_90 rfl hl (by decide) rfl (fun ls hl => ?_)
          refine lv_iinc (v := (x3 + (1 : Int32))) (lv' := [(3, .int (x3 + (1 : Int32))), (2, .int ((u2 M 24 (Int32.toNatClampNeg (M 23 (Int32.toNatClampNeg (((4 : Int32) * x3) + x1)))) ((M 24 (Int32.toNatClampNeg (M 23 (Int32.toNatClampNeg (((4 : Int32) * x3) + x1))))) + (1 : Int32))) 24 (Int32.toNatClampNeg (M 23 (Int32.toNatClampNeg (((4 : Int32) * x3) + x1)))))), (4, .int (M 23 (Int32.toNatClampNeg (((4 : Int32) * x3) + x1)))), (0, .ref (gA G (41 + 0))), (1, .int x1)]) C.1.1 C.1.2.1 dX9_worstOf_91 hl (k := 4) rfl rfl (by decide) rfl (fun ls hl => ?_)
          refine lv_goto (tgt := 24) C.1.1 C.1.2.1 dX9_worstOf_94 (by decide) ?_
          exact hk_24 X (u2 M 24 (Int32.toNatClampNeg (M 23 (Int32.toNatClampNeg (((4 : Int32) * x3) + x1)))) ((M 24 (Int32.toNatClampNeg (M 23 (Int32.toNatClampNeg (((4 : Int32) * x3) + x1))))) + (1 : Int32))) L x1 ((u2 M 24 (Int32.toNatClampNeg (M 23 (Int32.toNatClampNeg (((4 : Int32) * x3) + x1)))) ((M 24 (Int32.toNatClampNeg (M 23 (Int32.toNatClampNeg (((4 : Int32) * x3) + x1))))) + (1 : Int32))) 24 (Int32.toNatClampNeg (M 23 (Int32.toNatClampNeg (((4 : Int32) * x3) + x1))))) (x3 + (1 : Int32)) _ _ _ hw (lv_sub hl [3, 4, 1, 0] rfl) hf
      · have hf := o_t hf c4
        refine lv_goto (tgt := 91) C.1.1 C.1.2.1 dX9_worstOf_42 (by decide) ?_
        refine lv_iinc (v := (x3 + (1 : Int32))) (lv' := [(3, .int (x3 + (1 : Int32))), (0, .ref (gA G (41 + 0))), (1, .int x1), (2, .int x2)]) C.1.1 C.1.2.1 dX9_worstOf_91 hl (k := 3) rfl rfl (by decide) rfl (fun ls hl => ?_)
        refine lv_goto (tgt := 24) C.1.1 C.1.2.1 dX9_worstOf_94 (by decide) ?_
        exact hk_24 X M L x1 x2 (x3 + (1 : Int32)) _ _ _ hw (lv_sub hl [1, 2, 3, 0] rfl) hf
set_option maxRecDepth 20000 in
set_option maxHeartbeats 2000000 in
theorem wL_X9_worstOf_2 {p : Program} {e : Env} {s : State} {m : MethodId} {args : Array Value} {below : List Frame} {meth : Method} {c : Code} (C : Cx G p s m args c cX9_worstOf 5 RX9) (hr : meth.sig.returnType = (some .int)) (hlk : meth.locks = false) {ro : TX × Int32} : ∀ (n : Nat), ∀ (X : TX) (M : TX) (L : TL) (x1 : Int32) (x2 : Int32) (H : Heap) (locs : List Loc) (ls : Array Slot), Wh G s X M L H locs → lv_has ls 5 [(0, .ref (gA G (41 + 0))), (1, .int x1), (2, .int x2)] → L_X9_worstOf_2 n M x1 x2 = some ro → W p l e (rz 3 70) s m args below meth c H locs 0 0 (MQ below (Di G X ro.1 L ro.2) args s 0 0 (AB G)) (F0 m 2 ls []) := by
  intro n
  induction n with
  | zero =>
    intro X M L x1 x2 H locs ls hw hl hf
    cases hf
  | succ n hk_2 =>
    intro X M L x1 x2 H locs ls hw hl hf
    rw [L_X9_worstOf_2] at hf
    refine lv_iload_n C.1.1 C.1.2.1 dX9_worstOf_2 rfl (lv_at hl 2 rfl) ?_
    refine lv_iconst (v := (3 : Int32)) C.1.1 C.1.2.1 dX9_worstOf_3 rfl ?_
    refine lv_icmp_ge (tgt := 20) C.1.1 C.1.2.1 dX9_worstOf_4 (by decide) (fun c1 => ?_) (fun c1 => ?_)
    · have hf := o_t hf c1
      refine lv_iconst (v := (0 : Int32)) C.1.1 C.1.2.1 dX9_worstOf_20 rfl ?_
      refine lv_istore_n (lv' := [(2, .int (0 : Int32)), (0, .ref (gA G (41 + 0))), (1, .int x1)]) C.1.1 C.1.2.1 dX9_worstOf_21 rfl hl (by decide) rfl (fun ls hl => ?_)
      refine lv_iconst (v := (0 : Int32)) C.1.1 C.1.2.1 dX9_worstOf_22 rfl ?_
      refine lv_istore_n (lv' := [(3, .int (0 : Int32)), (2, .int (0 : Int32)), (0, .ref (gA G (41 + 0))), (1, .int x1)]) C.1.1 C.1.2.1 dX9_worstOf_23 rfl hl (by decide) rfl (fun ls hl => ?_)
      exact wL_X9_worstOf_24 C hr hlk FU X M L x1 (0 : Int32) (0 : Int32) _ _ _ hw (lv_sub hl [2, 3, 1, 0] rfl) hf
    · have hf := o_f hf c1
      refine lv_aload_n C.1.1 C.1.2.1 dX9_worstOf_7 rfl (lv_at hl 0 rfl) ?_
      refine m_ref C hw fM_0_46 flX9_86 dX9_worstOf_8 ?_
      refine lv_iload_n C.1.1 C.1.2.1 dX9_worstOf_11 rfl (lv_at hl 2 rfl) ?_
      refine lv_iconst (v := (0 : Int32)) C.1.1 C.1.2.1 dX9_worstOf_12 rfl ?_
      have g11 := inb_in (o_g hf).1
      have hf := (o_g hf).2
      refine m_ast C hw aM_24 g11 dX9_worstOf_13 (fun H locs hw => ?_)
      refine lv_iinc (v := (x2 + (1 : Int32))) (lv' := [(2, .int (x2 + (1 : Int32))), (0, .ref (gA G (41 + 0))), (1, .int x1)]) C.1.1 C.1.2.1 dX9_worstOf_14 hl (k := 2) rfl rfl (by decide) rfl (fun ls hl => ?_)
      refine lv_goto (tgt := 2) C.1.1 C.1.2.1 dX9_worstOf_17 (by decide) ?_
      exact hk_2 X (u2 M 24 (Int32.toNatClampNeg x2) (0 : Int32)) L x1 (x2 + (1 : Int32)) _ _ _ hw (lv_sub hl [1, 2, 0] rfl) hf
set_option maxRecDepth 20000 in
set_option maxHeartbeats 2000000 in
theorem c_X9_worstOf   {X M : TX} {L : TL} {x1 : Int32} {ro : TX × Int32} (hf : f_X9_worstOf M x1 = some ro) : CTi G l yX9_worstOf cX9_worstOf 5 (some .int) 3 70 [.ref (gA G (41 + 0)), .int x1] X M L X ro.1 L ro.2 := by
  unfold f_X9_worstOf at hf
  refine ct_of (by decide +kernel) (Nat.le_of_ble_eq_true rfl) (fun p e s m args below meth c H locs ls C hr hlk hw hl => ?_)
  have C : Cx G p s m args c cX9_worstOf 5 RX9 := C
  have hl : lv_has ls 5 [(0, .ref (gA G (41 + 0))), (1, .int x1)] := hl
  refine lv_iconst (v := (0 : Int32)) C.1.1 C.1.2.1 dX9_worstOf_0 rfl ?_
  refine lv_istore_n (lv' := [(2, .int (0 : Int32)), (0, .ref (gA G (41 + 0))), (1, .int x1)]) C.1.1 C.1.2.1 dX9_worstOf_1 rfl hl (by decide) rfl (fun ls hl => ?_)
  exact wL_X9_worstOf_2 C hr hlk FU X M L x1 (0 : Int32) _ _ _ hw (lv_sub hl [1, 2, 0] rfl) hf
end
/-! WinnerDrawsModel.look(I)I (('o', 'M', 0) ('i',)) -/
def L_X9_look_33 : Nat → TX → Int32 → Int32 → Int32 → Int32 → Option (TX × Int32)
  | 0 => fun _ _ _ _ _ => none
  | n + 1 => fun M x1 x2 x3 x4 => if (4 : Int32) ≤ x4 then (if x1 = 0 then (some (M, x2)) else (some (M, x3))) else (if inb x4 4 = true then (if (M 18 (Int32.toNatClampNeg x4)) = (-1 : Int32) then ((f_X9_worstOf M x4).bind fun q9 => if x2 = (-1 : Int32) then ((L_X9_look_33 n) q9.1 x1 x4 q9.2 (x4 + (1 : Int32))) else (if q9.2 < x3 then ((L_X9_look_33 n) q9.1 x1 x4 q9.2 (x4 + (1 : Int32))) else ((L_X9_look_33 n) q9.1 x1 x2 x3 (x4 + (1 : Int32))))) else ((L_X9_look_33 n) M x1 x2 x3 (x4 + (1 : Int32)))) else none)
def f_X9_look (M : TX) (x1 : Int32) : Option (TX × Int32) := (f_X9_within x1 (0 : Int32) (1 : Int32)).bind fun q1 => (f_X9_lets (u2 M 0 0 (0 : Int32)) q1 (1 : Int32) (1 : Int32)).bind fun q2 => if q2.2 = 0 then (some (q2.1, (0 : Int32))) else ((f_X9_laysWon q2.1).bind fun q4 => L_X9_look_33 FU q4 x1 (-1 : Int32) (-1 : Int32) (0 : Int32))
section
variable {G : GP} {l : Launch}
set_option maxRecDepth 20000 in
set_option maxHeartbeats 2000000 in
theorem wL_X9_look_33 {p : Program} {e : Env} {s : State} {m : MethodId} {args : Array Value} {below : List Frame} {meth : Method} {c : Code} (C : Cx G p s m args c cX9_look 6 RX9) (hr : meth.sig.returnType = (some .int)) (hlk : meth.locks = false) {ro : TX × Int32} : ∀ (n : Nat), ∀ (X : TX) (M : TX) (L : TL) (x1 : Int32) (x2 : Int32) (x3 : Int32) (x4 : Int32) (H : Heap) (locs : List Loc) (ls : Array Slot), Wh G s X M L H locs → lv_has ls 6 [(0, .ref (gA G (41 + 0))), (1, .int x1), (2, .int x2), (3, .int x3), (4, .int x4)] → L_X9_look_33 n M x1 x2 x3 x4 = some ro → W p l e (rz 4 94) s m args below meth c H locs 0 0 (MQ below (Di G X ro.1 L ro.2) args s 0 0 (AB G)) (F0 m 33 ls []) := by
  intro n
  induction n with
  | zero =>
    intro X M L x1 x2 x3 x4 H locs ls hw hl hf
    cases hf
  | succ n hk_33 =>
    intro X M L x1 x2 x3 x4 H locs ls hw hl hf
    rw [L_X9_look_33] at hf
    refine lv_iload C.1.1 C.1.2.1 dX9_look_33 (lv_at hl 4 rfl) ?_
    refine lv_iconst (v := (4 : Int32)) C.1.1 C.1.2.1 dX9_look_35 rfl ?_
    refine lv_icmp_ge (tgt := 87) C.1.1 C.1.2.1 dX9_look_36 (by decide) (fun c5 => ?_) (fun c5 => ?_)
    · have hf := o_t hf c5
      refine lv_iload_n C.1.1 C.1.2.1 dX9_look_87 rfl (lv_at hl 1 rfl) ?_
      refine lv_if_ne (tgt := 95) C.1.1 C.1.2.1 dX9_look_88 (by decide) (fun c6 => ?_) (fun c6 => ?_)
      · have hf := o_f hf c6
        refine lv_iload_n C.1.1 C.1.2.1 dX9_look_95 rfl (lv_at hl 3 rfl) ?_
        obtain rfl := Option.some.inj hf
        exact ret_i C hr hlk hw dX9_look_96
      · have hf := o_t hf c6
        refine lv_iload_n C.1.1 C.1.2.1 dX9_look_91 rfl (lv_at hl 2 rfl) ?_
        refine lv_goto (tgt := 96) C.1.1 C.1.2.1 dX9_look_92 (by decide) ?_
        obtain rfl := Option.some.inj hf
        exact ret_i C hr hlk hw dX9_look_96
    · have hf := o_f hf c5
      refine lv_aload_n C.1.1 C.1.2.1 dX9_look_39 rfl (lv_at hl 0 rfl) ?_
      refine m_ref C hw fM_0_39 flX9_68 dX9_look_40 ?_
      refine lv_iload C.1.1 C.1.2.1 dX9_look_43 (lv_at hl 4 rfl) ?_
      have g7 := inb_in (o_g hf).1
      have hf := (o_g hf).2
      refine m_ald C hw aM_18 g7 dX9_look_45 ?_
      refine lv_iconst (v := (-1 : Int32)) C.1.1 C.1.2.1 dX9_look_46 rfl ?_
      refine lv_icmp_eq (tgt := 53) C.1.1 C.1.2.1 dX9_look_47 (by decide) (fun c8 => ?_) (fun c8 => ?_)
      · have hf := o_t hf c8
        refine lv_aload_n C.1.1 C.1.2.1 dX9_look_53 rfl (lv_at hl 0 rfl) ?_
        refine lv_iload C.1.1 C.1.2.1 dX9_look_54 (lv_at hl 4 rfl) ?_
        obtain ⟨q9, h9, hf⟩ := o_bind hf
        refine aft_i hw (run_VM C hw clX9_410 (As := [.int x4]) (rest := []) oM_0 (c_X9_worstOf h9) rfl hl.1 rfl ⟨(Nat.le_of_ble_eq_true rfl), (Nat.le_of_ble_eq_true rfl)⟩ ⟨Nat.zero_le _, Nat.zero_le _⟩ rfl (Nat.le_of_ble_eq_true rfl) dX9_look_56) (fun H locs hw => ?_)
        refine lv_istore (lv' := [(5, .int q9.2), (0, .ref (gA G (41 + 0))), (1, .int x1), (2, .int x2), (3, .int x3), (4, .int x4)]) C.1.1 C.1.2.1 dX9_look_59 hl (by decide) rfl (fun ls hl => ?_)
        refine lv_iload_n C.1.1 C.1.2.1 dX9_look_61 rfl (lv_at hl 3 rfl) ?_
        refine lv_iconst (v := (-1 : Int32)) C.1.1 C.1.2.1 dX9_look_62 rfl ?_
        refine lv_icmp_eq (tgt := 75) C.1.1 C.1.2.1 dX9_look_63 (by decide) (fun c10 => ?_) (fun c10 => ?_)
        · have hf := o_t hf c10
          refine lv_iload C.1.1 C.1.2.1 dX9_look_75 (lv_at hl 5 rfl) ?_
          refine lv_istore_n (lv' := [(2, .int x4), (5, .int q9.2), (0, .ref (gA G (41 + 0))), (1, .int x1), (3, .int x3), (4, .int x4)]) C.1.1 C.1.2.1 dX9_look_77 rfl hl (by decide) rfl (fun ls hl => ?_)
          refine lv_iload C.1.1 C.1.2.1 dX9_look_78 (lv_at hl 1 rfl) ?_
          refine lv_istore_n (lv' := [(3, .int q9.2), (2, .int x4), (5, .int q9.2), (0, .ref (gA G (41 + 0))), (1, .int x1), (4, .int x4)]) C.1.1 C.1.2.1 dX9_look_80 rfl hl (by decide) rfl (fun ls hl => ?_)
          refine lv_iinc (v := (x4 + (1 : Int32))) (lv' := [(4, .int (x4 + (1 : Int32))), (3, .int q9.2), (2, .int x4), (5, .int q9.2), (0, .ref (gA G (41 + 0))), (1, .int x1)]) C.1.1 C.1.2.1 dX9_look_81 hl (k := 5) rfl rfl (by decide) rfl (fun ls hl => ?_)
          refine lv_goto (tgt := 33) C.1.1 C.1.2.1 dX9_look_84 (by decide) ?_
          exact hk_33 X q9.1 L x1 x4 q9.2 (x4 + (1 : Int32)) _ _ _ hw (lv_sub hl [4, 5, 2, 1, 0] rfl) hf
        · have hf := o_f hf c10
          refine lv_iload C.1.1 C.1.2.1 dX9_look_66 (lv_at hl 0 rfl) ?_
          refine lv_iload_n C.1.1 C.1.2.1 dX9_look_68 rfl (lv_at hl 4 rfl) ?_
          refine lv_icmp_lt (tgt := 75) C.1.1 C.1.2.1 dX9_look_69 (by decide) (fun c11 => ?_) (fun c11 => ?_)
          · have hf := o_t hf c11
            refine lv_iload C.1.1 C.1.2.1 dX9_look_75 (lv_at hl 5 rfl) ?_
            refine lv_istore_n (lv' := [(2, .int x4), (5, .int q9.2), (0, .ref (gA G (41 + 0))), (1, .int x1), (3, .int x3), (4, .int x4)]) C.1.1 C.1.2.1 dX9_look_77 rfl hl (by decide) rfl (fun ls hl => ?_)
            refine lv_iload C.1.1 C.1.2.1 dX9_look_78 (lv_at hl 1 rfl) ?_
            refine lv_istore_n (lv' := [(3, .int q9.2), (2, .int x4), (5, .int q9.2), (0, .ref (gA G (41 + 0))), (1, .int x1), (4, .int x4)]) C.1.1 C.1.2.1 dX9_look_80 rfl hl (by decide) rfl (fun ls hl => ?_)
            refine lv_iinc (v := (x4 + (1 : Int32))) (lv' := [(4, .int (x4 + (1 : Int32))), (3, .int q9.2), (2, .int x4), (5, .int q9.2), (0, .ref (gA G (41 + 0))), (1, .int x1)]) C.1.1 C.1.2.1 dX9_look_81 hl (k := 5) rfl rfl (by decide) rfl (fun ls hl => ?_)
            refine lv_goto (tgt := 33) C.1.1 C.1.2.1 dX9_look_84 (by decide) ?_
            exact hk_33 X q9.1 L x1 x4 q9.2 (x4 + (1 : Int32)) _ _ _ hw (lv_sub hl [4, 5, 2, 1, 0] rfl) hf
          · have hf := o_f hf c11
            refine lv_goto (tgt := 81) C.1.1 C.1.2.1 dX9_look_72 (by decide) ?_
            refine lv_iinc (v := (x4 + (1 : Int32))) (lv' := [(4, .int (x4 + (1 : Int32))), (5, .int q9.2), (0, .ref (gA G (41 + 0))), (1, .int x1), (2, .int x2), (3, .int x3)]) C.1.1 C.1.2.1 dX9_look_81 hl (k := 5) rfl rfl (by decide) rfl (fun ls hl => ?_)
            refine lv_goto (tgt := 33) C.1.1 C.1.2.1 dX9_look_84 (by decide) ?_
            exact hk_33 X q9.1 L x1 x2 x3 (x4 + (1 : Int32)) _ _ _ hw (lv_sub hl [2, 3, 4, 5, 0] rfl) hf
      · have hf := o_f hf c8
        refine lv_goto (tgt := 81) C.1.1 C.1.2.1 dX9_look_50 (by decide) ?_
        refine lv_iinc (v := (x4 + (1 : Int32))) (lv' := [(4, .int (x4 + (1 : Int32))), (0, .ref (gA G (41 + 0))), (1, .int x1), (2, .int x2), (3, .int x3)]) C.1.1 C.1.2.1 dX9_look_81 hl (k := 4) rfl rfl (by decide) rfl (fun ls hl => ?_)
        refine lv_goto (tgt := 33) C.1.1 C.1.2.1 dX9_look_84 (by decide) ?_
        exact hk_33 X M L x1 x2 x3 (x4 + (1 : Int32)) _ _ _ hw (lv_sub hl [1, 2, 3, 4, 0] rfl) hf
set_option maxRecDepth 20000 in
set_option maxHeartbeats 2000000 in
theorem c_X9_look   {X M : TX} {L : TL} {x1 : Int32} {ro : TX × Int32} (hf : f_X9_look M x1 = some ro) : CTi G l yX9_look cX9_look 6 (some .int) 4 94 [.ref (gA G (41 + 0)), .int x1] X M L X ro.1 L ro.2 := by
  unfold f_X9_look at hf
  refine ct_of (by decide +kernel) (Nat.le_of_ble_eq_true rfl) (fun p e s m args below meth c H locs ls C hr hlk hw hl => ?_)
  have C : Cx G p s m args c cX9_look 6 RX9 := C
  have hl : lv_has ls 6 [(0, .ref (gA G (41 + 0))), (1, .int x1)] := hl
  refine lv_aload_n C.1.1 C.1.2.1 dX9_look_0 rfl (lv_at hl 0 rfl) ?_
  refine lv_iconst (v := (0 : Int32)) C.1.1 C.1.2.1 dX9_look_1 rfl ?_
  refine m_put C hw iM_0_0 flX9_3 dX9_look_2 (fun H locs hw => ?_)
  refine lv_aload_n C.1.1 C.1.2.1 dX9_look_5 rfl (lv_at hl 0 rfl) ?_
  refine lv_iload_n C.1.1 C.1.2.1 dX9_look_6 rfl (lv_at hl 1 rfl) ?_
  refine lv_iconst (v := (0 : Int32)) C.1.1 C.1.2.1 dX9_look_7 rfl ?_
  refine lv_iconst (v := (1 : Int32)) C.1.1 C.1.2.1 dX9_look_8 rfl ?_
  obtain ⟨q1, h1, hf⟩ := o_bind hf
  refine aft_i hw (run_S C hw clX9_385 (As := [.int x1, .int (0 : Int32), .int (1 : Int32)]) (rest := [.ref (gA G (41 + 0))]) (c_X9_within h1) hl.1 rfl ⟨(Nat.le_of_ble_eq_true rfl), (Nat.le_of_ble_eq_true rfl)⟩ ⟨Nat.zero_le _, Nat.zero_le _⟩ rfl (Nat.le_of_ble_eq_true rfl) dX9_look_9) (fun H locs hw => ?_)
  refine lv_iconst (v := (1 : Int32)) C.1.1 C.1.2.1 dX9_look_12 rfl ?_
  refine lv_iconst (v := (1 : Int32)) C.1.1 C.1.2.1 dX9_look_13 rfl ?_
  obtain ⟨q2, h2, hf⟩ := o_bind hf
  refine aft_i hw (run_VM C hw clX9_200 (As := [.int q1, .int (1 : Int32), .int (1 : Int32)]) (rest := []) oM_0 (c_X9_lets h2) rfl hl.1 rfl ⟨(Nat.le_of_ble_eq_true rfl), (Nat.le_of_ble_eq_true rfl)⟩ ⟨Nat.zero_le _, Nat.zero_le _⟩ rfl (Nat.le_of_ble_eq_true rfl) dX9_look_14) (fun H locs hw => ?_)
  refine lv_if_ne (tgt := 22) C.1.1 C.1.2.1 dX9_look_17 (by decide) (fun c3 => ?_) (fun c3 => ?_)
  · have hf := o_f hf c3
    refine lv_aload_n C.1.1 C.1.2.1 dX9_look_22 rfl (lv_at hl 0 rfl) ?_
    obtain ⟨q4, h4, hf⟩ := o_bind hf
    refine aft_v hw (run_VM C hw clX9_404 (As := []) (rest := []) oM_0 (c_X9_laysWon h4) rfl hl.1 rfl ⟨(Nat.le_of_ble_eq_true rfl), (Nat.le_of_ble_eq_true rfl)⟩ ⟨Nat.zero_le _, Nat.zero_le _⟩ rfl (Nat.le_of_ble_eq_true rfl) dX9_look_23) (fun H locs hw => ?_)
    refine lv_iconst (v := (-1 : Int32)) C.1.1 C.1.2.1 dX9_look_26 rfl ?_
    refine lv_istore_n (lv' := [(2, .int (-1 : Int32)), (0, .ref (gA G (41 + 0))), (1, .int x1)]) C.1.1 C.1.2.1 dX9_look_27 rfl hl (by decide) rfl (fun ls hl => ?_)
    refine lv_iconst (v := (-1 : Int32)) C.1.1 C.1.2.1 dX9_look_28 rfl ?_
    refine lv_istore_n (lv' := [(3, .int (-1 : Int32)), (2, .int (-1 : Int32)), (0, .ref (gA G (41 + 0))), (1, .int x1)]) C.1.1 C.1.2.1 dX9_look_29 rfl hl (by decide) rfl (fun ls hl => ?_)
    refine lv_iconst (v := (0 : Int32)) C.1.1 C.1.2.1 dX9_look_30 rfl ?_
    refine lv_istore (lv' := [(4, .int (0 : Int32)), (3, .int (-1 : Int32)), (2, .int (-1 : Int32)), (0, .ref (gA G (41 + 0))), (1, .int x1)]) C.1.1 C.1.2.1 dX9_look_31 hl (by decide) rfl (fun ls hl => ?_)
    exact wL_X9_look_33 C hr hlk FU X q4 L x1 (-1 : Int32) (-1 : Int32) (0 : Int32) _ _ _ hw (lv_sub hl [3, 4, 2, 1, 0] rfl) hf
  · have hf := o_t hf c3
    refine lv_iconst (v := (0 : Int32)) C.1.1 C.1.2.1 dX9_look_20 rfl ?_
    obtain rfl := Option.some.inj hf
    exact ret_i C hr hlk hw dX9_look_21
end
/-! WinnerDrawsModel.recount(IIII)J (('o', 'M', 0) ('i',) ('i',) ('i',) ('i',)) -/
def L_X9_recount_183 : Nat → TX → TL → Int32 → Int64 → Int64 → Int32 → Option (TX × TL × Int64)
  | 0 => fun _ _ _ _ _ _ => none
  | n + 1 => fun M L x4 x5 x7 x9 => if (14 : Int32) ≤ x9 then ((f_X9_least x7 x5 x4).bind fun q8 => some (M, L, q8)) else (if inb x9 14 = true then ((L_X9_recount_183 n) M L x4 x5 (x7 + (L 25 (Int32.toNatClampNeg x9))) (x9 + (1 : Int32))) else none)
def L_X9_recount_110 (k_100 : TX → TL → Int32 → Int32 → Int32 → Int32 → Int64 → Int32 → Option (TX × TL × Int64)) : Nat → TX → TL → Int32 → Int32 → Int32 → Int32 → Int64 → Int32 → Int32 → Option (TX × TL × Int64)
  | 0 => fun _ _ _ _ _ _ _ _ _ => none
  | n + 1 => fun M L x1 x2 x3 x4 x5 x7 x8 => if x8 < 0 then (k_100 M L x1 x2 x3 x4 (x5 * (16 : Int64)) (x7 + (1 : Int32))) else (if inb x8 14 = true then (if x8 ≤ 0 then (if inb x8 14 = true then ((L_X9_recount_110 k_100 n) M (u2L L 25 (Int32.toNatClampNeg x8) (((L 25 (Int32.toNatClampNeg x8)) * (Int32.toInt64 ((16 : Int32) - x3))) + (0 : Int64))) x1 x2 x3 x4 x5 x7 (x8 + (-1 : Int32))) else none) else (if inb (x8 - (1 : Int32)) 14 = true then (if inb x8 14 = true then ((L_X9_recount_110 k_100 n) M (u2L L 25 (Int32.toNatClampNeg x8) (((L 25 (Int32.toNatClampNeg x8)) * (Int32.toInt64 ((16 : Int32) - x3))) + ((L 25 (Int32.toNatClampNeg (x8 - (1 : Int32)))) * (Int32.toInt64 x3)))) x1 x2 x3 x4 x5 x7 (x8 + (-1 : Int32))) else none) else none)) else none)
def L_X9_recount_100 : Nat → TX → TL → Int32 → Int32 → Int32 → Int32 → Int64 → Int32 → Option (TX × TL × Int64)
  | 0 => fun _ _ _ _ _ _ _ _ => none
  | n + 1 => fun M L x1 x2 x3 x4 x5 x7 => if x1 ≤ x7 then (L_X9_recount_183 FU M L x4 x5 (0 : Int64) x2) else (L_X9_recount_110 (L_X9_recount_100 n) FU M L x1 x2 x3 x4 x5 x7 (13 : Int32))
def L_X9_recount_64 : Nat → TX → TL → Int32 → Int32 → Int32 → Int32 → Int32 → Option (TX × TL × Int64)
  | 0 => fun _ _ _ _ _ _ _ => none
  | n + 1 => fun M L x1 x2 x3 x4 x5 => if (14 : Int32) ≤ x5 then (L_X9_recount_100 FU M L x1 x2 x3 x4 (1 : Int64) (0 : Int32)) else (if x5 = 0 then (if inb x5 14 = true then ((L_X9_recount_64 n) M (u2L L 25 (Int32.toNatClampNeg x5) (1 : Int64)) x1 x2 x3 x4 (x5 + (1 : Int32))) else none) else (if inb x5 14 = true then ((L_X9_recount_64 n) M (u2L L 25 (Int32.toNatClampNeg x5) (0 : Int64)) x1 x2 x3 x4 (x5 + (1 : Int32))) else none))
def f_X9_recount (M : TX) (L : TL) (x1 : Int32) (x2 : Int32) (x3 : Int32) (x4 : Int32) : Option (TX × TL × Int64) := (f_X9_within x1 (0 : Int32) (12 : Int32)).bind fun q1 => if q1 = 0 then ((f_X9_lets (u2 M 0 0 (0 : Int32)) (0 : Int32) (1 : Int32) (1 : Int32)).bind fun q3 => if q3.2 = 0 then (some (q3.1, L, (0 : Int64))) else (L_X9_recount_64 FU q3.1 L x1 x2 x3 x4 (0 : Int32))) else ((f_X9_within x2 (0 : Int32) (13 : Int32)).bind fun q19 => if q19 = 0 then ((f_X9_lets (u2 M 0 0 (0 : Int32)) (0 : Int32) (1 : Int32) (1 : Int32)).bind fun q21 => if q21.2 = 0 then (some (q21.1, L, (0 : Int64))) else (L_X9_recount_64 FU q21.1 L x1 x2 x3 x4 (0 : Int32))) else ((f_X9_within x3 (0 : Int32) (16 : Int32)).bind fun q23 => if q23 = 0 then ((f_X9_lets (u2 M 0 0 (0 : Int32)) (0 : Int32) (1 : Int32) (1 : Int32)).bind fun q25 => if q25.2 = 0 then (some (q25.1, L, (0 : Int64))) else (L_X9_recount_64 FU q25.1 L x1 x2 x3 x4 (0 : Int32))) else ((f_X9_within x4 (0 : Int32) (1 : Int32)).bind fun q27 => if q27 = 0 then ((f_X9_lets (u2 M 0 0 (0 : Int32)) (0 : Int32) (1 : Int32) (1 : Int32)).bind fun q29 => if q29.2 = 0 then (some (q29.1, L, (0 : Int64))) else (L_X9_recount_64 FU q29.1 L x1 x2 x3 x4 (0 : Int32))) else ((f_X9_lets (u2 M 0 0 (0 : Int32)) (1 : Int32) (1 : Int32) (1 : Int32)).bind fun q31 => if q31.2 = 0 then (some (q31.1, L, (0 : Int64))) else (L_X9_recount_64 FU q31.1 L x1 x2 x3 x4 (0 : Int32))))))
section
variable {G : GP} {l : Launch}
set_option maxRecDepth 20000 in
set_option maxHeartbeats 2000000 in
theorem wL_X9_recount_183 {p : Program} {e : Env} {s : State} {m : MethodId} {args : Array Value} {below : List Frame} {meth : Method} {c : Code} (C : Cx G p s m args c cX9_recount 10 RX9) (hr : meth.sig.returnType = (some .long)) (hlk : meth.locks = false) {ro : TX × TL × Int64} : ∀ (n : Nat), ∀ (X : TX) (M : TX) (L : TL) (x4 : Int32) (x5 : Int64) (x7 : Int64) (x9 : Int32) (H : Heap) (locs : List Loc) (ls : Array Slot), Wh G s X M L H locs → lv_has ls 10 [(0, .ref (gA G (41 + 0))), (4, .int x4), (5, .long x5), (7, .long x7), (9, .int x9)] → L_X9_recount_183 n M L x4 x5 x7 x9 = some ro → W p l e (rz 1 30) s m args below meth c H locs 0 0 (MQ below (Dl G X ro.1 ro.2.1 ro.2.2) args s 0 0 (AB G)) (F0 m 183 ls []) := by
  intro n
  induction n with
  | zero =>
    intro X M L x4 x5 x7 x9 H locs ls hw hl hf
    cases hf
  | succ n hk_183 =>
    intro X M L x4 x5 x7 x9 H locs ls hw hl hf
    rw [L_X9_recount_183] at hf
    refine lv_iload C.1.1 C.1.2.1 dX9_recount_183 (lv_at hl 4 rfl) ?_
    refine lv_bipush (v := (14 : Int32)) C.1.1 C.1.2.1 dX9_recount_185 rfl ?_
    refine lv_icmp_ge (tgt := 208) C.1.1 C.1.2.1 dX9_recount_187 (by decide) (fun c7 => ?_) (fun c7 => ?_)
    · have hf := o_t hf c7
      refine lv_lload C.1.1 C.1.2.1 dX9_recount_208 (lv_at hl 3 rfl) ?_
      refine lv_lload C.1.1 C.1.2.1 dX9_recount_210 (lv_at hl 2 rfl) ?_
      refine lv_iload C.1.1 C.1.2.1 dX9_recount_212 (lv_at hl 1 rfl) ?_
      obtain ⟨q8, h8, hf⟩ := o_bind hf
      refine aft_l hw (run_S C hw clX9_401 (As := [.long x7, .long x5, .int x4]) (rest := []) (c_X9_least h8) hl.1 rfl ⟨(Nat.le_of_ble_eq_true rfl), (Nat.le_of_ble_eq_true rfl)⟩ ⟨Nat.zero_le _, Nat.zero_le _⟩ rfl (Nat.le_of_ble_eq_true rfl) dX9_recount_214) (fun H locs hw => ?_)
      obtain rfl := Option.some.inj hf
      exact ret_l C hr hlk hw dX9_recount_217
    · have hf := o_f hf c7
      refine lv_lload C.1.1 C.1.2.1 dX9_recount_190 (lv_at hl 3 rfl) ?_
      refine lv_aload_n C.1.1 C.1.2.1 dX9_recount_192 rfl (lv_at hl 0 rfl) ?_
      refine m_ref C hw fM_0_47 flX9_89 dX9_recount_193 ?_
      refine lv_iload C.1.1 C.1.2.1 dX9_recount_196 (lv_at hl 4 rfl) ?_
      have g9 := inb_in (o_g hf).1
      have hf := (o_g hf).2
      refine l_ald C hw lM_25 (by have := C.2.n; omega) g9 dX9_recount_198 ?_
      refine lv_ladd C.1.1 C.1.2.1 dX9_recount_199 ?_
      refine lv_lstore (lv' := [(7, .long (x7 + (L 25 (Int32.toNatClampNeg x9)))), (0, .ref (gA G (41 + 0))), (4, .int x4), (5, .long x5), (9, .int x9)]) C.1.1 C.1.2.1 dX9_recount_200 hl (by decide) rfl (fun ls hl => ?_)
      refine lv_iinc (v := (x9 + (1 : Int32))) (lv' := [(9, .int (x9 + (1 : Int32))), (7, .long (x7 + (L 25 (Int32.toNatClampNeg x9)))), (0, .ref (gA G (41 + 0))), (4, .int x4), (5, .long x5)]) C.1.1 C.1.2.1 dX9_recount_202 hl (k := 4) rfl rfl (by decide) rfl (fun ls hl => ?_)
      refine lv_goto (tgt := 183) C.1.1 C.1.2.1 dX9_recount_205 (by decide) ?_
      exact hk_183 X M L x4 x5 (x7 + (L 25 (Int32.toNatClampNeg x9))) (x9 + (1 : Int32)) _ _ _ hw (lv_sub hl [2, 3, 4, 1, 0] rfl) hf
set_option maxRecDepth 20000 in
set_option maxHeartbeats 2000000 in
theorem wL_X9_recount_110 {p : Program} {e : Env} {s : State} {m : MethodId} {args : Array Value} {below : List Frame} {meth : Method} {c : Code} (C : Cx G p s m args c cX9_recount 10 RX9) (hr : meth.sig.returnType = (some .long)) (hlk : meth.locks = false) {ro : TX × TL × Int64} {k_100 : TX → TL → Int32 → Int32 → Int32 → Int32 → Int64 → Int32 → Option (TX × TL × Int64)} (hk_100 : ∀ (X : TX) (M : TX) (L : TL) (x1 : Int32) (x2 : Int32) (x3 : Int32) (x4 : Int32) (x5 : Int64) (x7 : Int32) (H : Heap) (locs : List Loc) (ls : Array Slot), Wh G s X M L H locs → lv_has ls 10 [(0, .ref (gA G (41 + 0))), (1, .int x1), (2, .int x2), (3, .int x3), (4, .int x4), (5, .long x5), (7, .int x7)] → k_100 M L x1 x2 x3 x4 x5 x7 = some ro → W p l e (rz 1 30) s m args below meth c H locs 0 0 (MQ below (Dl G X ro.1 ro.2.1 ro.2.2) args s 0 0 (AB G)) (F0 m 100 ls [])) : ∀ (n : Nat), ∀ (X : TX) (M : TX) (L : TL) (x1 : Int32) (x2 : Int32) (x3 : Int32) (x4 : Int32) (x5 : Int64) (x7 : Int32) (x8 : Int32) (H : Heap) (locs : List Loc) (ls : Array Slot), Wh G s X M L H locs → lv_has ls 10 [(0, .ref (gA G (41 + 0))), (1, .int x1), (2, .int x2), (3, .int x3), (4, .int x4), (5, .long x5), (7, .int x7), (8, .int x8)] → L_X9_recount_110 k_100 n M L x1 x2 x3 x4 x5 x7 x8 = some ro → W p l e (rz 1 30) s m args below meth c H locs 0 0 (MQ below (Dl G X ro.1 ro.2.1 ro.2.2) args s 0 0 (AB G)) (F0 m 110 ls []) := by
  intro n
  induction n with
  | zero =>
    intro X M L x1 x2 x3 x4 x5 x7 x8 H locs ls hw hl hf
    cases hf
  | succ n hk_110 =>
    intro X M L x1 x2 x3 x4 x5 x7 x8 H locs ls hw hl hf
    rw [L_X9_recount_110] at hf
    refine lv_iload C.1.1 C.1.2.1 dX9_recount_110 (lv_at hl 7 rfl) ?_
    refine lv_if_lt (tgt := 163) C.1.1 C.1.2.1 dX9_recount_112 (by decide) (fun c10 => ?_) (fun c10 => ?_)
    · have hf := o_t hf c10
      refine lv_lload C.1.1 C.1.2.1 dX9_recount_163 (lv_at hl 5 rfl) ?_
      refine lv_ldc2 (v := (16 : Int64)) C.1.1 C.1.2.1 C.1.2.2.2.1 (C.1.2.2.2.2 _ (tb8 118 rfl rfl)) dX9_recount_165 ?_
      refine lv_lmul C.1.1 C.1.2.1 dX9_recount_168 ?_
      refine lv_lstore (lv' := [(5, .long (x5 * (16 : Int64))), (0, .ref (gA G (41 + 0))), (1, .int x1), (2, .int x2), (3, .int x3), (4, .int x4), (7, .int x7), (8, .int x8)]) C.1.1 C.1.2.1 dX9_recount_169 hl (by decide) rfl (fun ls hl => ?_)
      refine lv_iinc (v := (x7 + (1 : Int32))) (lv' := [(7, .int (x7 + (1 : Int32))), (5, .long (x5 * (16 : Int64))), (0, .ref (gA G (41 + 0))), (1, .int x1), (2, .int x2), (3, .int x3), (4, .int x4), (8, .int x8)]) C.1.1 C.1.2.1 dX9_recount_171 hl (k := 6) rfl rfl (by decide) rfl (fun ls hl => ?_)
      refine lv_goto (tgt := 100) C.1.1 C.1.2.1 dX9_recount_174 (by decide) ?_
      exact hk_100 X M L x1 x2 x3 x4 (x5 * (16 : Int64)) (x7 + (1 : Int32)) _ _ _ hw (lv_sub hl [2, 3, 4, 5, 6, 1, 0] rfl) hf
    · have hf := o_f hf c10
      refine lv_aload_n C.1.1 C.1.2.1 dX9_recount_115 rfl (lv_at hl 0 rfl) ?_
      refine m_ref C hw fM_0_47 flX9_89 dX9_recount_116 ?_
      refine lv_iload C.1.1 C.1.2.1 dX9_recount_119 (lv_at hl 7 rfl) ?_
      refine lv_aload_n C.1.1 C.1.2.1 dX9_recount_121 rfl (lv_at hl 0 rfl) ?_
      refine m_ref C hw fM_0_47 flX9_89 dX9_recount_122 ?_
      refine lv_iload C.1.1 C.1.2.1 dX9_recount_125 (lv_at hl 7 rfl) ?_
      have g11 := inb_in (o_g hf).1
      have hf := (o_g hf).2
      refine l_ald C hw lM_25 (by have := C.2.n; omega) g11 dX9_recount_127 ?_
      refine lv_bipush (v := (16 : Int32)) C.1.1 C.1.2.1 dX9_recount_128 rfl ?_
      refine lv_iload_n C.1.1 C.1.2.1 dX9_recount_130 rfl (lv_at hl 3 rfl) ?_
      refine lv_isub C.1.1 C.1.2.1 dX9_recount_131 ?_
      refine lv_i2l (v := (Int32.toInt64 ((16 : Int32) - x3))) C.1.1 C.1.2.1 dX9_recount_132 rfl ?_
      refine lv_lmul C.1.1 C.1.2.1 dX9_recount_133 ?_
      refine lv_iload C.1.1 C.1.2.1 dX9_recount_134 (lv_at hl 7 rfl) ?_
      refine lv_if_le (tgt := 154) C.1.1 C.1.2.1 dX9_recount_136 (by decide) (fun c12 => ?_) (fun c12 => ?_)
      · have hf := o_t hf c12
        refine lv_lconst (v := (0 : Int64)) C.1.1 C.1.2.1 dX9_recount_154 rfl ?_
        refine lv_ladd C.1.1 C.1.2.1 dX9_recount_155 ?_
        have g13 := inb_in (o_g hf).1
        have hf := (o_g hf).2
        refine l_ast C hw lM_25 (by have := C.2.n; omega) g13 dX9_recount_156 (fun H locs hw => ?_)
        refine lv_iinc (v := (x8 + (-1 : Int32))) (lv' := [(8, .int (x8 + (-1 : Int32))), (0, .ref (gA G (41 + 0))), (1, .int x1), (2, .int x2), (3, .int x3), (4, .int x4), (5, .long x5), (7, .int x7)]) C.1.1 C.1.2.1 dX9_recount_157 hl (k := 7) rfl rfl (by decide) rfl (fun ls hl => ?_)
        refine lv_goto (tgt := 110) C.1.1 C.1.2.1 dX9_recount_160 (by decide) ?_
        exact hk_110 X M (u2L L 25 (Int32.toNatClampNeg x8) (((L 25 (Int32.toNatClampNeg x8)) * (Int32.toInt64 ((16 : Int32) - x3))) + (0 : Int64))) x1 x2 x3 x4 x5 x7 (x8 + (-1 : Int32)) _ _ _ hw (lv_sub hl [1, 2, 3, 4, 5, 6, 7, 0] rfl) hf
      · have hf := o_f hf c12
        refine lv_aload_n C.1.1 C.1.2.1 dX9_recount_139 rfl (lv_at hl 0 rfl) ?_
        refine m_ref C hw fM_0_47 flX9_89 dX9_recount_140 ?_
        refine lv_iload C.1.1 C.1.2.1 dX9_recount_143 (lv_at hl 7 rfl) ?_
        refine lv_iconst (v := (1 : Int32)) C.1.1 C.1.2.1 dX9_recount_145 rfl ?_
        refine lv_isub C.1.1 C.1.2.1 dX9_recount_146 ?_
        have g14 := inb_in (o_g hf).1
        have hf := (o_g hf).2
        refine l_ald C hw lM_25 (by have := C.2.n; omega) g14 dX9_recount_147 ?_
        refine lv_iload_n C.1.1 C.1.2.1 dX9_recount_148 rfl (lv_at hl 3 rfl) ?_
        refine lv_i2l (v := (Int32.toInt64 x3)) C.1.1 C.1.2.1 dX9_recount_149 rfl ?_
        refine lv_lmul C.1.1 C.1.2.1 dX9_recount_150 ?_
        refine lv_goto (tgt := 155) C.1.1 C.1.2.1 dX9_recount_151 (by decide) ?_
        refine lv_ladd C.1.1 C.1.2.1 dX9_recount_155 ?_
        have g15 := inb_in (o_g hf).1
        have hf := (o_g hf).2
        refine l_ast C hw lM_25 (by have := C.2.n; omega) g15 dX9_recount_156 (fun H locs hw => ?_)
        refine lv_iinc (v := (x8 + (-1 : Int32))) (lv' := [(8, .int (x8 + (-1 : Int32))), (0, .ref (gA G (41 + 0))), (1, .int x1), (2, .int x2), (3, .int x3), (4, .int x4), (5, .long x5), (7, .int x7)]) C.1.1 C.1.2.1 dX9_recount_157 hl (k := 7) rfl rfl (by decide) rfl (fun ls hl => ?_)
        refine lv_goto (tgt := 110) C.1.1 C.1.2.1 dX9_recount_160 (by decide) ?_
        exact hk_110 X M (u2L L 25 (Int32.toNatClampNeg x8) (((L 25 (Int32.toNatClampNeg x8)) * (Int32.toInt64 ((16 : Int32) - x3))) + ((L 25 (Int32.toNatClampNeg (x8 - (1 : Int32)))) * (Int32.toInt64 x3)))) x1 x2 x3 x4 x5 x7 (x8 + (-1 : Int32)) _ _ _ hw (lv_sub hl [1, 2, 3, 4, 5, 6, 7, 0] rfl) hf
set_option maxRecDepth 20000 in
set_option maxHeartbeats 2000000 in
theorem wL_X9_recount_100 {p : Program} {e : Env} {s : State} {m : MethodId} {args : Array Value} {below : List Frame} {meth : Method} {c : Code} (C : Cx G p s m args c cX9_recount 10 RX9) (hr : meth.sig.returnType = (some .long)) (hlk : meth.locks = false) {ro : TX × TL × Int64} : ∀ (n : Nat), ∀ (X : TX) (M : TX) (L : TL) (x1 : Int32) (x2 : Int32) (x3 : Int32) (x4 : Int32) (x5 : Int64) (x7 : Int32) (H : Heap) (locs : List Loc) (ls : Array Slot), Wh G s X M L H locs → lv_has ls 10 [(0, .ref (gA G (41 + 0))), (1, .int x1), (2, .int x2), (3, .int x3), (4, .int x4), (5, .long x5), (7, .int x7)] → L_X9_recount_100 n M L x1 x2 x3 x4 x5 x7 = some ro → W p l e (rz 1 30) s m args below meth c H locs 0 0 (MQ below (Dl G X ro.1 ro.2.1 ro.2.2) args s 0 0 (AB G)) (F0 m 100 ls []) := by
  intro n
  induction n with
  | zero =>
    intro X M L x1 x2 x3 x4 x5 x7 H locs ls hw hl hf
    cases hf
  | succ n hk_100 =>
    intro X M L x1 x2 x3 x4 x5 x7 H locs ls hw hl hf
    rw [L_X9_recount_100] at hf
    refine lv_iload C.1.1 C.1.2.1 dX9_recount_100 (lv_at hl 6 rfl) ?_
    refine lv_iload_n C.1.1 C.1.2.1 dX9_recount_102 rfl (lv_at hl 1 rfl) ?_
    refine lv_icmp_ge (tgt := 177) C.1.1 C.1.2.1 dX9_recount_103 (by decide) (fun c6 => ?_) (fun c6 => ?_)
    · have hf := o_t hf c6
      refine lv_lconst (v := (0 : Int64)) C.1.1 C.1.2.1 dX9_recount_177 rfl ?_
      refine lv_lstore (lv' := [(7, .long (0 : Int64)), (0, .ref (gA G (41 + 0))), (1, .int x1), (2, .int x2), (3, .int x3), (4, .int x4), (5, .long x5)]) C.1.1 C.1.2.1 dX9_recount_178 hl (by decide) rfl (fun ls hl => ?_)
      refine lv_iload_n C.1.1 C.1.2.1 dX9_recount_180 rfl (lv_at hl 3 rfl) ?_
      refine lv_istore (lv' := [(9, .int x2), (7, .long (0 : Int64)), (0, .ref (gA G (41 + 0))), (1, .int x1), (2, .int x2), (3, .int x3), (4, .int x4), (5, .long x5)]) C.1.1 C.1.2.1 dX9_recount_181 hl (by decide) rfl (fun ls hl => ?_)
      exact wL_X9_recount_183 C hr hlk FU X M L x4 x5 (0 : Int64) x2 _ _ _ hw (lv_sub hl [2, 6, 7, 1, 0] rfl) hf
    · have hf := o_f hf c6
      refine lv_bipush (v := (13 : Int32)) C.1.1 C.1.2.1 dX9_recount_106 rfl ?_
      refine lv_istore (lv' := [(8, .int (13 : Int32)), (0, .ref (gA G (41 + 0))), (1, .int x1), (2, .int x2), (3, .int x3), (4, .int x4), (5, .long x5), (7, .int x7)]) C.1.1 C.1.2.1 dX9_recount_108 hl (by decide) rfl (fun ls hl => ?_)
      exact wL_X9_recount_110 C hr hlk hk_100 FU X M L x1 x2 x3 x4 x5 x7 (13 : Int32) _ _ _ hw (lv_sub hl [1, 2, 3, 4, 5, 6, 7, 0] rfl) hf
set_option maxRecDepth 20000 in
set_option maxHeartbeats 2000000 in
theorem wL_X9_recount_64 {p : Program} {e : Env} {s : State} {m : MethodId} {args : Array Value} {below : List Frame} {meth : Method} {c : Code} (C : Cx G p s m args c cX9_recount 10 RX9) (hr : meth.sig.returnType = (some .long)) (hlk : meth.locks = false) {ro : TX × TL × Int64} : ∀ (n : Nat), ∀ (X : TX) (M : TX) (L : TL) (x1 : Int32) (x2 : Int32) (x3 : Int32) (x4 : Int32) (x5 : Int32) (H : Heap) (locs : List Loc) (ls : Array Slot), Wh G s X M L H locs → lv_has ls 10 [(0, .ref (gA G (41 + 0))), (1, .int x1), (2, .int x2), (3, .int x3), (4, .int x4), (5, .int x5)] → L_X9_recount_64 n M L x1 x2 x3 x4 x5 = some ro → W p l e (rz 1 30) s m args below meth c H locs 0 0 (MQ below (Dl G X ro.1 ro.2.1 ro.2.2) args s 0 0 (AB G)) (F0 m 64 ls []) := by
  intro n
  induction n with
  | zero =>
    intro X M L x1 x2 x3 x4 x5 H locs ls hw hl hf
    cases hf
  | succ n hk_64 =>
    intro X M L x1 x2 x3 x4 x5 H locs ls hw hl hf
    rw [L_X9_recount_64] at hf
    refine lv_iload C.1.1 C.1.2.1 dX9_recount_64 (lv_at hl 5 rfl) ?_
    refine lv_bipush (v := (14 : Int32)) C.1.1 C.1.2.1 dX9_recount_66 rfl ?_
    refine lv_icmp_ge (tgt := 94) C.1.1 C.1.2.1 dX9_recount_68 (by decide) (fun c5 => ?_) (fun c5 => ?_)
    · have hf := o_t hf c5
      refine lv_lconst (v := (1 : Int64)) C.1.1 C.1.2.1 dX9_recount_94 rfl ?_
      refine lv_lstore (lv' := [(5, .long (1 : Int64)), (0, .ref (gA G (41 + 0))), (1, .int x1), (2, .int x2), (3, .int x3), (4, .int x4)]) C.1.1 C.1.2.1 dX9_recount_95 hl (by decide) rfl (fun ls hl => ?_)
      refine lv_iconst (v := (0 : Int32)) C.1.1 C.1.2.1 dX9_recount_97 rfl ?_
      refine lv_istore (lv' := [(7, .int (0 : Int32)), (5, .long (1 : Int64)), (0, .ref (gA G (41 + 0))), (1, .int x1), (2, .int x2), (3, .int x3), (4, .int x4)]) C.1.1 C.1.2.1 dX9_recount_98 hl (by decide) rfl (fun ls hl => ?_)
      exact wL_X9_recount_100 C hr hlk FU X M L x1 x2 x3 x4 (1 : Int64) (0 : Int32) _ _ _ hw (lv_sub hl [2, 3, 4, 5, 6, 1, 0] rfl) hf
    · have hf := o_f hf c5
      refine lv_aload_n C.1.1 C.1.2.1 dX9_recount_71 rfl (lv_at hl 0 rfl) ?_
      refine m_ref C hw fM_0_47 flX9_89 dX9_recount_72 ?_
      refine lv_iload C.1.1 C.1.2.1 dX9_recount_75 (lv_at hl 5 rfl) ?_
      refine lv_iload C.1.1 C.1.2.1 dX9_recount_77 (lv_at hl 5 rfl) ?_
      refine lv_if_ne (tgt := 86) C.1.1 C.1.2.1 dX9_recount_79 (by decide) (fun c16 => ?_) (fun c16 => ?_)
      · have hf := o_f hf c16
        refine lv_lconst (v := (0 : Int64)) C.1.1 C.1.2.1 dX9_recount_86 rfl ?_
        have g17 := inb_in (o_g hf).1
        have hf := (o_g hf).2
        refine l_ast C hw lM_25 (by have := C.2.n; omega) g17 dX9_recount_87 (fun H locs hw => ?_)
        refine lv_iinc (v := (x5 + (1 : Int32))) (lv' := [(5, .int (x5 + (1 : Int32))), (0, .ref (gA G (41 + 0))), (1, .int x1), (2, .int x2), (3, .int x3), (4, .int x4)]) C.1.1 C.1.2.1 dX9_recount_88 hl (k := 5) rfl rfl (by decide) rfl (fun ls hl => ?_)
        refine lv_goto (tgt := 64) C.1.1 C.1.2.1 dX9_recount_91 (by decide) ?_
        exact hk_64 X M (u2L L 25 (Int32.toNatClampNeg x5) (0 : Int64)) x1 x2 x3 x4 (x5 + (1 : Int32)) _ _ _ hw (lv_sub hl [1, 2, 3, 4, 5, 0] rfl) hf
      · have hf := o_t hf c16
        refine lv_lconst (v := (1 : Int64)) C.1.1 C.1.2.1 dX9_recount_82 rfl ?_
        refine lv_goto (tgt := 87) C.1.1 C.1.2.1 dX9_recount_83 (by decide) ?_
        have g18 := inb_in (o_g hf).1
        have hf := (o_g hf).2
        refine l_ast C hw lM_25 (by have := C.2.n; omega) g18 dX9_recount_87 (fun H locs hw => ?_)
        refine lv_iinc (v := (x5 + (1 : Int32))) (lv' := [(5, .int (x5 + (1 : Int32))), (0, .ref (gA G (41 + 0))), (1, .int x1), (2, .int x2), (3, .int x3), (4, .int x4)]) C.1.1 C.1.2.1 dX9_recount_88 hl (k := 5) rfl rfl (by decide) rfl (fun ls hl => ?_)
        refine lv_goto (tgt := 64) C.1.1 C.1.2.1 dX9_recount_91 (by decide) ?_
        exact hk_64 X M (u2L L 25 (Int32.toNatClampNeg x5) (1 : Int64)) x1 x2 x3 x4 (x5 + (1 : Int32)) _ _ _ hw (lv_sub hl [1, 2, 3, 4, 5, 0] rfl) hf
set_option maxRecDepth 20000 in
set_option maxHeartbeats 2000000 in
theorem c_X9_recount   {X M : TX} {L : TL} {x1 : Int32} {x2 : Int32} {x3 : Int32} {x4 : Int32} {ro : TX × TL × Int64} (hf : f_X9_recount M L x1 x2 x3 x4 = some ro) : CTl G l yX9_recount cX9_recount 10 (some .long) 1 30 [.ref (gA G (41 + 0)), .int x1, .int x2, .int x3, .int x4] X M L X ro.1 ro.2.1 ro.2.2 := by
  unfold f_X9_recount at hf
  refine ct_of (by decide +kernel) (Nat.le_of_ble_eq_true rfl) (fun p e s m args below meth c H locs ls C hr hlk hw hl => ?_)
  have C : Cx G p s m args c cX9_recount 10 RX9 := C
  have hl : lv_has ls 10 [(0, .ref (gA G (41 + 0))), (1, .int x1), (2, .int x2), (3, .int x3), (4, .int x4)] := hl
  refine lv_aload_n C.1.1 C.1.2.1 dX9_recount_0 rfl (lv_at hl 0 rfl) ?_
  refine lv_iconst (v := (0 : Int32)) C.1.1 C.1.2.1 dX9_recount_1 rfl ?_
  refine m_put C hw iM_0_0 flX9_3 dX9_recount_2 (fun H locs hw => ?_)
  refine lv_aload_n C.1.1 C.1.2.1 dX9_recount_5 rfl (lv_at hl 0 rfl) ?_
  refine lv_iload_n C.1.1 C.1.2.1 dX9_recount_6 rfl (lv_at hl 1 rfl) ?_
  refine lv_iconst (v := (0 : Int32)) C.1.1 C.1.2.1 dX9_recount_7 rfl ?_
  refine lv_bipush (v := (12 : Int32)) C.1.1 C.1.2.1 dX9_recount_8 rfl ?_
  obtain ⟨q1, h1, hf⟩ := o_bind hf
  refine aft_i hw (run_S C hw clX9_385 (As := [.int x1, .int (0 : Int32), .int (12 : Int32)]) (rest := [.ref (gA G (41 + 0))]) (c_X9_within h1) hl.1 rfl ⟨(Nat.le_of_ble_eq_true rfl), (Nat.le_of_ble_eq_true rfl)⟩ ⟨Nat.zero_le _, Nat.zero_le _⟩ rfl (Nat.le_of_ble_eq_true rfl) dX9_recount_10) (fun H locs hw => ?_)
  refine lv_if_eq (tgt := 50) C.1.1 C.1.2.1 dX9_recount_13 (by decide) (fun c2 => ?_) (fun c2 => ?_)
  · have hf := o_t hf c2
    refine lv_iconst (v := (0 : Int32)) C.1.1 C.1.2.1 dX9_recount_50 rfl ?_
    refine lv_iconst (v := (1 : Int32)) C.1.1 C.1.2.1 dX9_recount_51 rfl ?_
    refine lv_iconst (v := (1 : Int32)) C.1.1 C.1.2.1 dX9_recount_52 rfl ?_
    obtain ⟨q3, h3, hf⟩ := o_bind hf
    refine aft_i hw (run_VM C hw clX9_200 (As := [.int (0 : Int32), .int (1 : Int32), .int (1 : Int32)]) (rest := []) oM_0 (c_X9_lets h3) rfl hl.1 rfl ⟨(Nat.le_of_ble_eq_true rfl), (Nat.le_of_ble_eq_true rfl)⟩ ⟨Nat.zero_le _, Nat.zero_le _⟩ rfl (Nat.le_of_ble_eq_true rfl) dX9_recount_53) (fun H locs hw => ?_)
    refine lv_if_ne (tgt := 61) C.1.1 C.1.2.1 dX9_recount_56 (by decide) (fun c4 => ?_) (fun c4 => ?_)
    · have hf := o_f hf c4
      refine lv_iconst (v := (0 : Int32)) C.1.1 C.1.2.1 dX9_recount_61 rfl ?_
      refine lv_istore (lv' := [(5, .int (0 : Int32)), (0, .ref (gA G (41 + 0))), (1, .int x1), (2, .int x2), (3, .int x3), (4, .int x4)]) C.1.1 C.1.2.1 dX9_recount_62 hl (by decide) rfl (fun ls hl => ?_)
      exact wL_X9_recount_64 C hr hlk FU X q3.1 L x1 x2 x3 x4 (0 : Int32) _ _ _ hw (lv_sub hl [1, 2, 3, 4, 5, 0] rfl) hf
    · have hf := o_t hf c4
      refine lv_lconst (v := (0 : Int64)) C.1.1 C.1.2.1 dX9_recount_59 rfl ?_
      obtain rfl := Option.some.inj hf
      exact ret_l C hr hlk hw dX9_recount_60
  · have hf := o_f hf c2
    refine lv_iload_n C.1.1 C.1.2.1 dX9_recount_16 rfl (lv_at hl 2 rfl) ?_
    refine lv_iconst (v := (0 : Int32)) C.1.1 C.1.2.1 dX9_recount_17 rfl ?_
    refine lv_bipush (v := (13 : Int32)) C.1.1 C.1.2.1 dX9_recount_18 rfl ?_
    obtain ⟨q19, h19, hf⟩ := o_bind hf
    refine aft_i hw (run_S C hw clX9_385 (As := [.int x2, .int (0 : Int32), .int (13 : Int32)]) (rest := [.ref (gA G (41 + 0))]) (c_X9_within h19) hl.1 rfl ⟨(Nat.le_of_ble_eq_true rfl), (Nat.le_of_ble_eq_true rfl)⟩ ⟨Nat.zero_le _, Nat.zero_le _⟩ rfl (Nat.le_of_ble_eq_true rfl) dX9_recount_20) (fun H locs hw => ?_)
    refine lv_if_eq (tgt := 50) C.1.1 C.1.2.1 dX9_recount_23 (by decide) (fun c20 => ?_) (fun c20 => ?_)
    · have hf := o_t hf c20
      refine lv_iconst (v := (0 : Int32)) C.1.1 C.1.2.1 dX9_recount_50 rfl ?_
      refine lv_iconst (v := (1 : Int32)) C.1.1 C.1.2.1 dX9_recount_51 rfl ?_
      refine lv_iconst (v := (1 : Int32)) C.1.1 C.1.2.1 dX9_recount_52 rfl ?_
      obtain ⟨q21, h21, hf⟩ := o_bind hf
      refine aft_i hw (run_VM C hw clX9_200 (As := [.int (0 : Int32), .int (1 : Int32), .int (1 : Int32)]) (rest := []) oM_0 (c_X9_lets h21) rfl hl.1 rfl ⟨(Nat.le_of_ble_eq_true rfl), (Nat.le_of_ble_eq_true rfl)⟩ ⟨Nat.zero_le _, Nat.zero_le _⟩ rfl (Nat.le_of_ble_eq_true rfl) dX9_recount_53) (fun H locs hw => ?_)
      refine lv_if_ne (tgt := 61) C.1.1 C.1.2.1 dX9_recount_56 (by decide) (fun c22 => ?_) (fun c22 => ?_)
      · have hf := o_f hf c22
        refine lv_iconst (v := (0 : Int32)) C.1.1 C.1.2.1 dX9_recount_61 rfl ?_
        refine lv_istore (lv' := [(5, .int (0 : Int32)), (0, .ref (gA G (41 + 0))), (1, .int x1), (2, .int x2), (3, .int x3), (4, .int x4)]) C.1.1 C.1.2.1 dX9_recount_62 hl (by decide) rfl (fun ls hl => ?_)
        exact wL_X9_recount_64 C hr hlk FU X q21.1 L x1 x2 x3 x4 (0 : Int32) _ _ _ hw (lv_sub hl [1, 2, 3, 4, 5, 0] rfl) hf
      · have hf := o_t hf c22
        refine lv_lconst (v := (0 : Int64)) C.1.1 C.1.2.1 dX9_recount_59 rfl ?_
        obtain rfl := Option.some.inj hf
        exact ret_l C hr hlk hw dX9_recount_60
    · have hf := o_f hf c20
      refine lv_iload_n C.1.1 C.1.2.1 dX9_recount_26 rfl (lv_at hl 3 rfl) ?_
      refine lv_iconst (v := (0 : Int32)) C.1.1 C.1.2.1 dX9_recount_27 rfl ?_
      refine lv_bipush (v := (16 : Int32)) C.1.1 C.1.2.1 dX9_recount_28 rfl ?_
      obtain ⟨q23, h23, hf⟩ := o_bind hf
      refine aft_i hw (run_S C hw clX9_385 (As := [.int x3, .int (0 : Int32), .int (16 : Int32)]) (rest := [.ref (gA G (41 + 0))]) (c_X9_within h23) hl.1 rfl ⟨(Nat.le_of_ble_eq_true rfl), (Nat.le_of_ble_eq_true rfl)⟩ ⟨Nat.zero_le _, Nat.zero_le _⟩ rfl (Nat.le_of_ble_eq_true rfl) dX9_recount_30) (fun H locs hw => ?_)
      refine lv_if_eq (tgt := 50) C.1.1 C.1.2.1 dX9_recount_33 (by decide) (fun c24 => ?_) (fun c24 => ?_)
      · have hf := o_t hf c24
        refine lv_iconst (v := (0 : Int32)) C.1.1 C.1.2.1 dX9_recount_50 rfl ?_
        refine lv_iconst (v := (1 : Int32)) C.1.1 C.1.2.1 dX9_recount_51 rfl ?_
        refine lv_iconst (v := (1 : Int32)) C.1.1 C.1.2.1 dX9_recount_52 rfl ?_
        obtain ⟨q25, h25, hf⟩ := o_bind hf
        refine aft_i hw (run_VM C hw clX9_200 (As := [.int (0 : Int32), .int (1 : Int32), .int (1 : Int32)]) (rest := []) oM_0 (c_X9_lets h25) rfl hl.1 rfl ⟨(Nat.le_of_ble_eq_true rfl), (Nat.le_of_ble_eq_true rfl)⟩ ⟨Nat.zero_le _, Nat.zero_le _⟩ rfl (Nat.le_of_ble_eq_true rfl) dX9_recount_53) (fun H locs hw => ?_)
        refine lv_if_ne (tgt := 61) C.1.1 C.1.2.1 dX9_recount_56 (by decide) (fun c26 => ?_) (fun c26 => ?_)
        · have hf := o_f hf c26
          refine lv_iconst (v := (0 : Int32)) C.1.1 C.1.2.1 dX9_recount_61 rfl ?_
          refine lv_istore (lv' := [(5, .int (0 : Int32)), (0, .ref (gA G (41 + 0))), (1, .int x1), (2, .int x2), (3, .int x3), (4, .int x4)]) C.1.1 C.1.2.1 dX9_recount_62 hl (by decide) rfl (fun ls hl => ?_)
          exact wL_X9_recount_64 C hr hlk FU X q25.1 L x1 x2 x3 x4 (0 : Int32) _ _ _ hw (lv_sub hl [1, 2, 3, 4, 5, 0] rfl) hf
        · have hf := o_t hf c26
          refine lv_lconst (v := (0 : Int64)) C.1.1 C.1.2.1 dX9_recount_59 rfl ?_
          obtain rfl := Option.some.inj hf
          exact ret_l C hr hlk hw dX9_recount_60
      · have hf := o_f hf c24
        refine lv_iload C.1.1 C.1.2.1 dX9_recount_36 (lv_at hl 4 rfl) ?_
        refine lv_iconst (v := (0 : Int32)) C.1.1 C.1.2.1 dX9_recount_38 rfl ?_
        refine lv_iconst (v := (1 : Int32)) C.1.1 C.1.2.1 dX9_recount_39 rfl ?_
        obtain ⟨q27, h27, hf⟩ := o_bind hf
        refine aft_i hw (run_S C hw clX9_385 (As := [.int x4, .int (0 : Int32), .int (1 : Int32)]) (rest := [.ref (gA G (41 + 0))]) (c_X9_within h27) hl.1 rfl ⟨(Nat.le_of_ble_eq_true rfl), (Nat.le_of_ble_eq_true rfl)⟩ ⟨Nat.zero_le _, Nat.zero_le _⟩ rfl (Nat.le_of_ble_eq_true rfl) dX9_recount_40) (fun H locs hw => ?_)
        refine lv_if_eq (tgt := 50) C.1.1 C.1.2.1 dX9_recount_43 (by decide) (fun c28 => ?_) (fun c28 => ?_)
        · have hf := o_t hf c28
          refine lv_iconst (v := (0 : Int32)) C.1.1 C.1.2.1 dX9_recount_50 rfl ?_
          refine lv_iconst (v := (1 : Int32)) C.1.1 C.1.2.1 dX9_recount_51 rfl ?_
          refine lv_iconst (v := (1 : Int32)) C.1.1 C.1.2.1 dX9_recount_52 rfl ?_
          obtain ⟨q29, h29, hf⟩ := o_bind hf
          refine aft_i hw (run_VM C hw clX9_200 (As := [.int (0 : Int32), .int (1 : Int32), .int (1 : Int32)]) (rest := []) oM_0 (c_X9_lets h29) rfl hl.1 rfl ⟨(Nat.le_of_ble_eq_true rfl), (Nat.le_of_ble_eq_true rfl)⟩ ⟨Nat.zero_le _, Nat.zero_le _⟩ rfl (Nat.le_of_ble_eq_true rfl) dX9_recount_53) (fun H locs hw => ?_)
          refine lv_if_ne (tgt := 61) C.1.1 C.1.2.1 dX9_recount_56 (by decide) (fun c30 => ?_) (fun c30 => ?_)
          · have hf := o_f hf c30
            refine lv_iconst (v := (0 : Int32)) C.1.1 C.1.2.1 dX9_recount_61 rfl ?_
            refine lv_istore (lv' := [(5, .int (0 : Int32)), (0, .ref (gA G (41 + 0))), (1, .int x1), (2, .int x2), (3, .int x3), (4, .int x4)]) C.1.1 C.1.2.1 dX9_recount_62 hl (by decide) rfl (fun ls hl => ?_)
            exact wL_X9_recount_64 C hr hlk FU X q29.1 L x1 x2 x3 x4 (0 : Int32) _ _ _ hw (lv_sub hl [1, 2, 3, 4, 5, 0] rfl) hf
          · have hf := o_t hf c30
            refine lv_lconst (v := (0 : Int64)) C.1.1 C.1.2.1 dX9_recount_59 rfl ?_
            obtain rfl := Option.some.inj hf
            exact ret_l C hr hlk hw dX9_recount_60
        · have hf := o_f hf c28
          refine lv_iconst (v := (1 : Int32)) C.1.1 C.1.2.1 dX9_recount_46 rfl ?_
          refine lv_goto (tgt := 51) C.1.1 C.1.2.1 dX9_recount_47 (by decide) ?_
          refine lv_iconst (v := (1 : Int32)) C.1.1 C.1.2.1 dX9_recount_51 rfl ?_
          refine lv_iconst (v := (1 : Int32)) C.1.1 C.1.2.1 dX9_recount_52 rfl ?_
          obtain ⟨q31, h31, hf⟩ := o_bind hf
          refine aft_i hw (run_VM C hw clX9_200 (As := [.int (1 : Int32), .int (1 : Int32), .int (1 : Int32)]) (rest := []) oM_0 (c_X9_lets h31) rfl hl.1 rfl ⟨(Nat.le_of_ble_eq_true rfl), (Nat.le_of_ble_eq_true rfl)⟩ ⟨Nat.zero_le _, Nat.zero_le _⟩ rfl (Nat.le_of_ble_eq_true rfl) dX9_recount_53) (fun H locs hw => ?_)
          refine lv_if_ne (tgt := 61) C.1.1 C.1.2.1 dX9_recount_56 (by decide) (fun c32 => ?_) (fun c32 => ?_)
          · have hf := o_f hf c32
            refine lv_iconst (v := (0 : Int32)) C.1.1 C.1.2.1 dX9_recount_61 rfl ?_
            refine lv_istore (lv' := [(5, .int (0 : Int32)), (0, .ref (gA G (41 + 0))), (1, .int x1), (2, .int x2), (3, .int x3), (4, .int x4)]) C.1.1 C.1.2.1 dX9_recount_62 hl (by decide) rfl (fun ls hl => ?_)
            exact wL_X9_recount_64 C hr hlk FU X q31.1 L x1 x2 x3 x4 (0 : Int32) _ _ _ hw (lv_sub hl [1, 2, 3, 4, 5, 0] rfl) hf
          · have hf := o_t hf c32
            refine lv_lconst (v := (0 : Int64)) C.1.1 C.1.2.1 dX9_recount_59 rfl ?_
            obtain rfl := Option.some.inj hf
            exact ret_l C hr hlk hw dX9_recount_60
end
/-! WinnerDrawsModel.votersOf(I)I (('o', 'M', 0) ('i',)) -/
def f_X9_votersOf (M : TX) (x1 : Int32) : Option (Int32) := (f_X9_setOf M x1).bind fun q1 => (f_X9_votesIn M q1 (0 : Int32)).bind fun q2 => (f_X9_setOf M x1).bind fun q3 => (f_X9_votesIn M q3 (1 : Int32)).bind fun q4 => some (q2 + q4)
section
variable {G : GP} {l : Launch}
set_option maxRecDepth 20000 in
set_option maxHeartbeats 2000000 in
theorem c_X9_votersOf   {X M : TX} {L : TL} {x1 : Int32} {ro : Int32} (hf : f_X9_votersOf M x1 = some ro) : CTi G l yX9_votersOf cX9_votersOf 2 (some .int) 2 46 [.ref (gA G (41 + 0)), .int x1] X M L X M L ro := by
  unfold f_X9_votersOf at hf
  refine ct_of (by decide +kernel) (Nat.le_of_ble_eq_true rfl) (fun p e s m args below meth c H locs ls C hr hlk hw hl => ?_)
  have C : Cx G p s m args c cX9_votersOf 2 RX9 := C
  have hl : lv_has ls 2 [(0, .ref (gA G (41 + 0))), (1, .int x1)] := hl
  refine lv_aload_n C.1.1 C.1.2.1 dX9_votersOf_0 rfl (lv_at hl 0 rfl) ?_
  refine lv_aload_n C.1.1 C.1.2.1 dX9_votersOf_1 rfl (lv_at hl 0 rfl) ?_
  refine lv_iload_n C.1.1 C.1.2.1 dX9_votersOf_2 rfl (lv_at hl 1 rfl) ?_
  obtain ⟨q1, h1, hf⟩ := o_bind hf
  refine aft_i hw (run_VM C hw clX9_329 (As := [.int x1]) (rest := [.ref (gA G (41 + 0))]) oM_0 (c_X9_setOf h1) rfl hl.1 rfl ⟨(Nat.le_of_ble_eq_true rfl), (Nat.le_of_ble_eq_true rfl)⟩ ⟨Nat.zero_le _, Nat.zero_le _⟩ rfl (Nat.le_of_ble_eq_true rfl) dX9_votersOf_3) (fun H locs hw => ?_)
  refine lv_iconst (v := (0 : Int32)) C.1.1 C.1.2.1 dX9_votersOf_6 rfl ?_
  obtain ⟨q2, h2, hf⟩ := o_bind hf
  refine aft_i hw (run_VM C hw clX9_332 (As := [.int q1, .int (0 : Int32)]) (rest := []) oM_0 (c_X9_votesIn h2) rfl hl.1 rfl ⟨(Nat.le_of_ble_eq_true rfl), (Nat.le_of_ble_eq_true rfl)⟩ ⟨Nat.zero_le _, Nat.zero_le _⟩ rfl (Nat.le_of_ble_eq_true rfl) dX9_votersOf_7) (fun H locs hw => ?_)
  refine lv_aload_n C.1.1 C.1.2.1 dX9_votersOf_10 rfl (lv_at hl 0 rfl) ?_
  refine lv_aload_n C.1.1 C.1.2.1 dX9_votersOf_11 rfl (lv_at hl 0 rfl) ?_
  refine lv_iload_n C.1.1 C.1.2.1 dX9_votersOf_12 rfl (lv_at hl 1 rfl) ?_
  obtain ⟨q3, h3, hf⟩ := o_bind hf
  refine aft_i hw (run_VM C hw clX9_329 (As := [.int x1]) (rest := [.ref (gA G (41 + 0)), .int q2]) oM_0 (c_X9_setOf h3) rfl hl.1 rfl ⟨(Nat.le_of_ble_eq_true rfl), (Nat.le_of_ble_eq_true rfl)⟩ ⟨Nat.zero_le _, Nat.zero_le _⟩ rfl (Nat.le_of_ble_eq_true rfl) dX9_votersOf_13) (fun H locs hw => ?_)
  refine lv_iconst (v := (1 : Int32)) C.1.1 C.1.2.1 dX9_votersOf_16 rfl ?_
  obtain ⟨q4, h4, hf⟩ := o_bind hf
  refine aft_i hw (run_VM C hw clX9_332 (As := [.int q3, .int (1 : Int32)]) (rest := [.int q2]) oM_0 (c_X9_votesIn h4) rfl hl.1 rfl ⟨(Nat.le_of_ble_eq_true rfl), (Nat.le_of_ble_eq_true rfl)⟩ ⟨Nat.zero_le _, Nat.zero_le _⟩ rfl (Nat.le_of_ble_eq_true rfl) dX9_votersOf_17) (fun H locs hw => ?_)
  refine lv_iadd C.1.1 C.1.2.1 dX9_votersOf_20 ?_
  obtain rfl := Option.some.inj hf
  exact ret_i C hr hlk hw dX9_votersOf_21
end
