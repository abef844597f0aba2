/-! WinnerDraws$Book.fitting(LWinnerDraws$County;II)I (('o', 'X', 27) ('o', 'X', 3) ('i',) ('i',)) -/
def B_X1_fitting_85 (k_11 : TX → Int32 → Int32 → Int32 → Int32 → Option (TX × Int32)) (k_39 : TX → Int32 → Int32 → Int32 → Int32 → Int32 → Int32 → Int32 → Option (TX × Int32)) (X : TX) (x2 : Int32) (x3 : Int32) (x4 : Int32) (x5 : Int32) (x6 : Int32) (x7 : Int32) (x8 : Int32) : Option (TX × Int32) := if x4 = 0 then ((f_X3_place (u2 X 27 2 (((10 : Int32) * x5) + x8)) x5 x7).bind fun q14 => k_39 q14 x2 x3 (x4 + (1 : Int32)) x5 x6 x7 (x8 + (1 : Int32))) else ((f_X3_place (u2 X 27 2 (X 27 2)) x5 x7).bind fun q13 => k_39 q13 x2 x3 (x4 + (1 : Int32)) x5 x6 x7 (x8 + (1 : Int32)))
def L_X1_fitting_39 (k_11 : TX → Int32 → Int32 → Int32 → Int32 → Option (TX × Int32)) : Nat → TX → Int32 → Int32 → Int32 → Int32 → Int32 → Int32 → Int32 → Option (TX × Int32)
  | 0 => fun _ _ _ _ _ _ _ _ => none
  | n + 1 => fun X x2 x3 x4 x5 x6 x7 x8 => if (4 : Int32) ≤ x8 then (k_11 X x2 x3 x4 (x5 + (1 : Int32))) else ((f_X8_has x6 x8).bind fun q5 => if q5 = 0 then ((L_X1_fitting_39 k_11 n) X x2 x3 x4 x5 x6 x7 (x8 + (1 : Int32))) else ((f_X3_place X x5 x8).bind fun q7 => (f_X1_isRight q7).bind fun q8 => if q8 = 0 then ((f_X3_place q7 x5 x7).bind fun q10 => (L_X1_fitting_39 k_11 n) q10 x2 x3 x4 x5 x6 x7 (x8 + (1 : Int32))) else (if x2 = (-1 : Int32) then (B_X1_fitting_85 k_11 (L_X1_fitting_39 k_11 n) q7 x2 x3 x4 x5 x6 x7 x8) else ((f_X3_winner q7 x2).bind fun q15 => if q15 = x3 then (B_X1_fitting_85 k_11 (L_X1_fitting_39 k_11 n) q7 x2 x3 x4 x5 x6 x7 x8) else ((f_X3_place q7 x5 x7).bind fun q17 => (L_X1_fitting_39 k_11 n) q17 x2 x3 x4 x5 x6 x7 (x8 + (1 : Int32)))))))
def L_X1_fitting_11 : Nat → TX → Int32 → Int32 → Int32 → Int32 → Option (TX × Int32)
  | 0 => fun _ _ _ _ _ => none
  | n + 1 => fun X x2 x3 x4 x5 => if (X 3 5) ≤ x5 then (some (X, x4)) else ((f_X3_openWards X x5).bind fun q2 => (f_X3_wardOf X x5).bind fun q3 => L_X1_fitting_39 (L_X1_fitting_11 n) FU X x2 x3 x4 x5 q2 q3 (0 : Int32))
def f_X1_fitting (X : TX) (x2 : Int32) (x3 : Int32) : Option (TX × Int32) := L_X1_fitting_11 FU (u2 X 27 2 (-1 : Int32)) x2 x3 (0 : Int32) (0 : Int32)
section
variable {G : GP} {l : Launch}
set_option maxRecDepth 20000 in
set_option maxHeartbeats 2000000 in
theorem wB_X1_fitting_85 {p : Program} {e : Env} {s : State} {m : MethodId} {args : Array Value} {below : List Frame} {meth : Method} {c : Code} (C : Cx G p s m args c cX1_fitting 9 RX1) (hr : meth.sig.returnType = (some .int)) (hlk : meth.locks = false) {ro : TX × Int32} {k_11 : TX → Int32 → Int32 → Int32 → Int32 → Option (TX × Int32)} (hk_11 : ∀ (X : TX) (M : TX) (L : TL) (x2 : Int32) (x3 : Int32) (x4 : Int32) (x5 : Int32) (H : Heap) (locs : List Loc) (ls : Array Slot), Wh G s X M L H locs → lv_has ls 9 [(0, .ref (gA G 27)), (1, .ref (gA G 3)), (2, .int x2), (3, .int x3), (4, .int x4), (5, .int x5)] → k_11 X x2 x3 x4 x5 = some ro → W p l e (rz 3 72) s m args below meth c H locs 0 0 (MQ below (Di G ro.1 M L ro.2) args s 0 0 (AB G)) (F0 m 11 ls [])) {k_39 : TX → Int32 → Int32 → Int32 → Int32 → Int32 → Int32 → Int32 → Option (TX × Int32)} (hk_39 : ∀ (X : TX) (M : TX) (L : TL) (x2 : Int32) (x3 : Int32) (x4 : Int32) (x5 : Int32) (x6 : Int32) (x7 : Int32) (x8 : Int32) (H : Heap) (locs : List Loc) (ls : Array Slot), Wh G s X M L H locs → lv_has ls 9 [(0, .ref (gA G 27)), (1, .ref (gA G 3)), (2, .int x2), (3, .int x3), (4, .int x4), (5, .int x5), (6, .int x6), (7, .int x7), (8, .int x8)] → k_39 X x2 x3 x4 x5 x6 x7 x8 = some ro → W p l e (rz 3 72) s m args below meth c H locs 0 0 (MQ below (Di G ro.1 M L ro.2) args s 0 0 (AB G)) (F0 m 39 ls [])) : ∀ (X : TX) (M : TX) (L : TL) (x2 : Int32) (x3 : Int32) (x4 : Int32) (x5 : Int32) (x6 : Int32) (x7 : Int32) (x8 : Int32) (H : Heap) (locs : List Loc) (ls : Array Slot), Wh G s X M L H locs → lv_has ls 9 [(0, .ref (gA G 27)), (1, .ref (gA G 3)), (2, .int x2), (3, .int x3), (4, .int x4), (5, .int x5), (6, .int x6), (7, .int x7), (8, .int x8)] → B_X1_fitting_85 k_11 k_39 X x2 x3 x4 x5 x6 x7 x8 = some ro → W p l e (rz 3 72) s m args below meth c H locs 0 0 (MQ below (Di G ro.1 M L ro.2) args s 0 0 (AB G)) (F0 m 85 ls []) := by
  intro X M L x2 x3 x4 x5 x6 x7 x8 H locs ls hw hl hf
  unfold B_X1_fitting_85 at hf
  refine lv_aload_n C.1.1 C.1.2.1 dX1_fitting_85 rfl (lv_at hl 0 rfl) ?_
  refine lv_iload C.1.1 C.1.2.1 dX1_fitting_86 (lv_at hl 4 rfl) ?_
  refine lv_if_ne (tgt := 102) C.1.1 C.1.2.1 dX1_fitting_88 (by decide) (fun c12 => ?_) (fun c12 => ?_)
  · have hf := o_f hf c12
    refine lv_aload_n C.1.1 C.1.2.1 dX1_fitting_102 rfl (lv_at hl 0 rfl) ?_
    refine x_get C hw iX_27_2 flX1_15 dX1_fitting_103 ?_
    refine x_put C hw iX_27_2 flX1_15 dX1_fitting_106 (fun H locs hw => ?_)
    refine lv_iinc (v := (x4 + (1 : Int32))) (lv' := [(4, .int (x4 + (1 : Int32))), (0, .ref (gA G 27)), (1, .ref (gA G 3)), (2, .int x2), (3, .int x3), (5, .int x5), (6, .int x6), (7, .int x7), (8, .int x8)]) C.1.1 C.1.2.1 dX1_fitting_109 hl (k := 4) rfl rfl (by decide) rfl (fun ls hl => ?_)
    refine lv_aload_n C.1.1 C.1.2.1 dX1_fitting_112 rfl (lv_at hl 2 rfl) ?_
    refine lv_iload C.1.1 C.1.2.1 dX1_fitting_113 (lv_at hl 5 rfl) ?_
    refine lv_iload C.1.1 C.1.2.1 dX1_fitting_115 (lv_at hl 7 rfl) ?_
    obtain ⟨q13, h13, hf⟩ := o_bind hf
    refine aft_v hw (run_VX C hw clX1_87 (As := [.int x5, .int x7]) (rest := []) oX_3 (c_X3_place h13) rfl hl.1 rfl ⟨(Nat.le_of_ble_eq_true rfl), (Nat.le_of_ble_eq_true rfl)⟩ ⟨Nat.zero_le _, Nat.zero_le _⟩ rfl (Nat.le_of_ble_eq_true rfl) dX1_fitting_117) (fun H locs hw => ?_)
    refine lv_iinc (v := (x8 + (1 : Int32))) (lv' := [(8, .int (x8 + (1 : Int32))), (4, .int (x4 + (1 : Int32))), (0, .ref (gA G 27)), (1, .ref (gA G 3)), (2, .int x2), (3, .int x3), (5, .int x5), (6, .int x6), (7, .int x7)]) C.1.1 C.1.2.1 dX1_fitting_120 hl (k := 8) rfl rfl (by decide) rfl (fun ls hl => ?_)
    refine lv_goto (tgt := 39) C.1.1 C.1.2.1 dX1_fitting_123 (by decide) ?_
    exact hk_39 q13 M L x2 x3 (x4 + (1 : Int32)) x5 x6 x7 (x8 + (1 : Int32)) _ _ _ hw (lv_sub hl [2, 3, 4, 5, 1, 6, 7, 8, 0] rfl) hf
  · have hf := o_t hf c12
    refine lv_bipush (v := (10 : Int32)) C.1.1 C.1.2.1 dX1_fitting_91 rfl ?_
    refine lv_iload C.1.1 C.1.2.1 dX1_fitting_93 (lv_at hl 5 rfl) ?_
    refine lv_imul C.1.1 C.1.2.1 dX1_fitting_95 ?_
    refine lv_iload C.1.1 C.1.2.1 dX1_fitting_96 (lv_at hl 8 rfl) ?_
    refine lv_iadd C.1.1 C.1.2.1 dX1_fitting_98 ?_
    refine lv_goto (tgt := 106) C.1.1 C.1.2.1 dX1_fitting_99 (by decide) ?_
    refine x_put C hw iX_27_2 flX1_15 dX1_fitting_106 (fun H locs hw => ?_)
    refine lv_iinc (v := (x4 + (1 : Int32))) (lv' := [(4, .int (x4 + (1 : Int32))), (0, .ref (gA G 27)), (1, .ref (gA G 3)), (2, .int x2), (3, .int x3), (5, .int x5), (6, .int x6), (7, .int x7), (8, .int x8)]) C.1.1 C.1.2.1 dX1_fitting_109 hl (k := 4) rfl rfl (by decide) rfl (fun ls hl => ?_)
    refine lv_aload_n C.1.1 C.1.2.1 dX1_fitting_112 rfl (lv_at hl 2 rfl) ?_
    refine lv_iload C.1.1 C.1.2.1 dX1_fitting_113 (lv_at hl 5 rfl) ?_
    refine lv_iload C.1.1 C.1.2.1 dX1_fitting_115 (lv_at hl 7 rfl) ?_
    obtain ⟨q14, h14, hf⟩ := o_bind hf
    refine aft_v hw (run_VX C hw clX1_87 (As := [.int x5, .int x7]) (rest := []) oX_3 (c_X3_place h14) rfl hl.1 rfl ⟨(Nat.le_of_ble_eq_true rfl), (Nat.le_of_ble_eq_true rfl)⟩ ⟨Nat.zero_le _, Nat.zero_le _⟩ rfl (Nat.le_of_ble_eq_true rfl) dX1_fitting_117) (fun H locs hw => ?_)
    refine lv_iinc (v := (x8 + (1 : Int32))) (lv' := [(8, .int (x8 + (1 : Int32))), (4, .int (x4 + (1 : Int32))), (0, .ref (gA G 27)), (1, .ref (gA G 3)), (2, .int x2), (3, .int x3), (5, .int x5), (6, .int x6), (7, .int x7)]) C.1.1 C.1.2.1 dX1_fitting_120 hl (k := 8) rfl rfl (by decide) rfl (fun ls hl => ?_)
    refine lv_goto (tgt := 39) C.1.1 C.1.2.1 dX1_fitting_123 (by decide) ?_
    exact hk_39 q14 M L x2 x3 (x4 + (1 : Int32)) x5 x6 x7 (x8 + (1 : Int32)) _ _ _ hw (lv_sub hl [2, 3, 4, 5, 1, 6, 7, 8, 0] rfl) hf
set_option maxRecDepth 20000 in
set_option maxHeartbeats 2000000 in
theorem wL_X1_fitting_39 {p : Program} {e : Env} {s : State} {m : MethodId} {args : Array Value} {below : List Frame} {meth : Method} {c : Code} (C : Cx G p s m args c cX1_fitting 9 RX1) (hr : meth.sig.returnType = (some .int)) (hlk : meth.locks = false) {ro : TX × Int32} {k_11 : TX → Int32 → Int32 → Int32 → Int32 → Option (TX × Int32)} (hk_11 : ∀ (X : TX) (M : TX) (L : TL) (x2 : Int32) (x3 : Int32) (x4 : Int32) (x5 : Int32) (H : Heap) (locs : List Loc) (ls : Array Slot), Wh G s X M L H locs → lv_has ls 9 [(0, .ref (gA G 27)), (1, .ref (gA G 3)), (2, .int x2), (3, .int x3), (4, .int x4), (5, .int x5)] → k_11 X x2 x3 x4 x5 = some ro → W p l e (rz 3 72) s m args below meth c H locs 0 0 (MQ below (Di G ro.1 M L ro.2) args s 0 0 (AB G)) (F0 m 11 ls [])) : ∀ (n : Nat), ∀ (X : TX) (M : TX) (L : TL) (x2 : Int32) (x3 : Int32) (x4 : Int32) (x5 : Int32) (x6 : Int32) (x7 : Int32) (x8 : Int32) (H : Heap) (locs : List Loc) (ls : Array Slot), Wh G s X M L H locs → lv_has ls 9 [(0, .ref (gA G 27)), (1, .ref (gA G 3)), (2, .int x2), (3, .int x3), (4, .int x4), (5, .int x5), (6, .int x6), (7, .int x7), (8, .int x8)] → L_X1_fitting_39 k_11 n X x2 x3 x4 x5 x6 x7 x8 = some ro → W p l e (rz 3 72) s m args below meth c H locs 0 0 (MQ below (Di G ro.1 M L ro.2) args s 0 0 (AB G)) (F0 m 39 ls []) := by
  intro n
  induction n with
  | zero =>
    intro X M L x2 x3 x4 x5 x6 x7 x8 H locs ls hw hl hf
    cases hf
  | succ n hk_39 =>
    intro X M L x2 x3 x4 x5 x6 x7 x8 H locs ls hw hl hf
    rw [L_X1_fitting_39] at hf
    refine lv_iload C.1.1 C.1.2.1 dX1_fitting_39 (lv_at hl 8 rfl) ?_
    refine lv_iconst (v := (4 : Int32)) C.1.1 C.1.2.1 dX1_fitting_41 rfl ?_
    refine lv_icmp_ge (tgt := 126) C.1.1 C.1.2.1 dX1_fitting_42 (by decide) (fun c4 => ?_) (fun c4 => ?_)
    · have hf := o_t hf c4
      refine lv_iinc (v := (x5 + (1 : Int32))) (lv' := [(5, .int (x5 + (1 : Int32))), (0, .ref (gA G 27)), (1, .ref (gA G 3)), (2, .int x2), (3, .int x3), (4, .int x4), (6, .int x6), (7, .int x7), (8, .int x8)]) C.1.1 C.1.2.1 dX1_fitting_126 hl (k := 5) rfl rfl (by decide) rfl (fun ls hl => ?_)
      refine lv_goto (tgt := 11) C.1.1 C.1.2.1 dX1_fitting_129 (by decide) ?_
      exact hk_11 X M L x2 x3 x4 (x5 + (1 : Int32)) _ _ _ hw (lv_sub hl [1, 2, 3, 4, 5, 0] rfl) hf
    · have hf := o_f hf c4
      refine lv_iload C.1.1 C.1.2.1 dX1_fitting_45 (lv_at hl 6 rfl) ?_
      refine lv_iload C.1.1 C.1.2.1 dX1_fitting_47 (lv_at hl 8 rfl) ?_
      obtain ⟨q5, h5, hf⟩ := o_bind hf
      refine aft_i hw (run_S C hw clX1_66 (As := [.int x6, .int x8]) (rest := []) (c_X8_has h5) hl.1 rfl ⟨(Nat.le_of_ble_eq_true rfl), (Nat.le_of_ble_eq_true rfl)⟩ ⟨Nat.zero_le _, Nat.zero_le _⟩ rfl (Nat.le_of_ble_eq_true rfl) dX1_fitting_49) (fun H locs hw => ?_)
      refine lv_if_eq (tgt := 120) C.1.1 C.1.2.1 dX1_fitting_52 (by decide) (fun c6 => ?_) (fun c6 => ?_)
      · have hf := o_t hf c6
        refine lv_iinc (v := (x8 + (1 : Int32))) (lv' := [(8, .int (x8 + (1 : Int32))), (0, .ref (gA G 27)), (1, .ref (gA G 3)), (2, .int x2), (3, .int x3), (4, .int x4), (5, .int x5), (6, .int x6), (7, .int x7)]) C.1.1 C.1.2.1 dX1_fitting_120 hl (k := 8) rfl rfl (by decide) rfl (fun ls hl => ?_)
        refine lv_goto (tgt := 39) C.1.1 C.1.2.1 dX1_fitting_123 (by decide) ?_
        exact hk_39 X M L x2 x3 x4 x5 x6 x7 (x8 + (1 : Int32)) _ _ _ hw (lv_sub hl [1, 2, 3, 4, 5, 6, 7, 8, 0] rfl) hf
      · have hf := o_f hf c6
        refine lv_aload_n C.1.1 C.1.2.1 dX1_fitting_55 rfl (lv_at hl 1 rfl) ?_
        refine lv_iload C.1.1 C.1.2.1 dX1_fitting_56 (lv_at hl 5 rfl) ?_
        refine lv_iload C.1.1 C.1.2.1 dX1_fitting_58 (lv_at hl 8 rfl) ?_
        obtain ⟨q7, h7, hf⟩ := o_bind hf
        refine aft_v hw (run_VX C hw clX1_87 (As := [.int x5, .int x8]) (rest := []) oX_3 (c_X3_place h7) rfl hl.1 rfl ⟨(Nat.le_of_ble_eq_true rfl), (Nat.le_of_ble_eq_true rfl)⟩ ⟨Nat.zero_le _, Nat.zero_le _⟩ rfl (Nat.le_of_ble_eq_true rfl) dX1_fitting_60) (fun H locs hw => ?_)
        refine lv_aload_n C.1.1 C.1.2.1 dX1_fitting_63 rfl (lv_at hl 0 rfl) ?_
        refine lv_aload_n C.1.1 C.1.2.1 dX1_fitting_64 rfl (lv_at hl 1 rfl) ?_
        obtain ⟨q8, h8, hf⟩ := o_bind hf
        refine aft_i hw (run_VX C hw clX1_91 (As := [.ref (gA G 3)]) (rest := []) oX_27 (c_X1_isRight h8) rfl hl.1 rfl ⟨(Nat.le_of_ble_eq_true rfl), (Nat.le_of_ble_eq_true rfl)⟩ ⟨Nat.zero_le _, Nat.zero_le _⟩ rfl (Nat.le_of_ble_eq_true rfl) dX1_fitting_65) (fun H locs hw => ?_)
        refine lv_if_eq (tgt := 112) C.1.1 C.1.2.1 dX1_fitting_68 (by decide) (fun c9 => ?_) (fun c9 => ?_)
        · have hf := o_t hf c9
          refine lv_aload_n C.1.1 C.1.2.1 dX1_fitting_112 rfl (lv_at hl 1 rfl) ?_
          refine lv_iload C.1.1 C.1.2.1 dX1_fitting_113 (lv_at hl 5 rfl) ?_
          refine lv_iload C.1.1 C.1.2.1 dX1_fitting_115 (lv_at hl 7 rfl) ?_
          obtain ⟨q10, h10, hf⟩ := o_bind hf
          refine aft_v hw (run_VX C hw clX1_87 (As := [.int x5, .int x7]) (rest := []) oX_3 (c_X3_place h10) rfl hl.1 rfl ⟨(Nat.le_of_ble_eq_true rfl), (Nat.le_of_ble_eq_true rfl)⟩ ⟨Nat.zero_le _, Nat.zero_le _⟩ rfl (Nat.le_of_ble_eq_true rfl) dX1_fitting_117) (fun H locs hw => ?_)
          refine lv_iinc (v := (x8 + (1 : Int32))) (lv' := [(8, .int (x8 + (1 : Int32))), (0, .ref (gA G 27)), (1, .ref (gA G 3)), (2, .int x2), (3, .int x3), (4, .int x4), (5, .int x5), (6, .int x6), (7, .int x7)]) C.1.1 C.1.2.1 dX1_fitting_120 hl (k := 8) rfl rfl (by decide) rfl (fun ls hl => ?_)
          refine lv_goto (tgt := 39) C.1.1 C.1.2.1 dX1_fitting_123 (by decide) ?_
          exact hk_39 q10 M L x2 x3 x4 x5 x6 x7 (x8 + (1 : Int32)) _ _ _ hw (lv_sub hl [1, 2, 3, 4, 5, 6, 7, 8, 0] rfl) hf
        · have hf := o_f hf c9
          refine lv_iload_n C.1.1 C.1.2.1 dX1_fitting_71 rfl (lv_at hl 2 rfl) ?_
          refine lv_iconst (v := (-1 : Int32)) C.1.1 C.1.2.1 dX1_fitting_72 rfl ?_
          refine lv_icmp_eq (tgt := 85) C.1.1 C.1.2.1 dX1_fitting_73 (by decide) (fun c11 => ?_) (fun c11 => ?_)
          · have hf := o_t hf c11
            exact wB_X1_fitting_85 C hr hlk hk_11 hk_39 q7 M L x2 x3 x4 x5 x6 x7 x8 _ _ _ hw (lv_sub hl [0, 1, 2, 3, 4, 5, 6, 7, 8] rfl) hf
          · have hf := o_f hf c11
            refine lv_aload_n C.1.1 C.1.2.1 dX1_fitting_76 rfl (lv_at hl 1 rfl) ?_
            refine lv_iload_n C.1.1 C.1.2.1 dX1_fitting_77 rfl (lv_at hl 2 rfl) ?_
            obtain ⟨q15, h15, hf⟩ := o_bind hf
            refine aft_i hw (run_VX C hw clX1_69 (As := [.int x2]) (rest := []) oX_3 (c_X3_winner h15) rfl hl.1 rfl ⟨(Nat.le_of_ble_eq_true rfl), (Nat.le_of_ble_eq_true rfl)⟩ ⟨Nat.zero_le _, Nat.zero_le _⟩ rfl (Nat.le_of_ble_eq_true rfl) dX1_fitting_78) (fun H locs hw => ?_)
            refine lv_iload_n C.1.1 C.1.2.1 dX1_fitting_81 rfl (lv_at hl 3 rfl) ?_
            refine lv_icmp_ne (tgt := 112) C.1.1 C.1.2.1 dX1_fitting_82 (by decide) (fun c16 => ?_) (fun c16 => ?_)
            · have hf := o_f hf c16
              refine lv_aload_n C.1.1 C.1.2.1 dX1_fitting_112 rfl (lv_at hl 1 rfl) ?_
              refine lv_iload C.1.1 C.1.2.1 dX1_fitting_113 (lv_at hl 5 rfl) ?_
              refine lv_iload C.1.1 C.1.2.1 dX1_fitting_115 (lv_at hl 7 rfl) ?_
              obtain ⟨q17, h17, hf⟩ := o_bind hf
              refine aft_v hw (run_VX C hw clX1_87 (As := [.int x5, .int x7]) (rest := []) oX_3 (c_X3_place h17) rfl hl.1 rfl ⟨(Nat.le_of_ble_eq_true rfl), (Nat.le_of_ble_eq_true rfl)⟩ ⟨Nat.zero_le _, Nat.zero_le _⟩ rfl (Nat.le_of_ble_eq_true rfl) dX1_fitting_117) (fun H locs hw => ?_)
              refine lv_iinc (v := (x8 + (1 : Int32))) (lv' := [(8, .int (x8 + (1 : Int32))), (0, .ref (gA G 27)), (1, .ref (gA G 3)), (2, .int x2), (3, .int x3), (4, .int x4), (5, .int x5), (6, .int x6), (7, .int x7)]) C.1.1 C.1.2.1 dX1_fitting_120 hl (k := 8) rfl rfl (by decide) rfl (fun ls hl => ?_)
              refine lv_goto (tgt := 39) C.1.1 C.1.2.1 dX1_fitting_123 (by decide) ?_
              exact hk_39 q17 M L x2 x3 x4 x5 x6 x7 (x8 + (1 : Int32)) _ _ _ hw (lv_sub hl [1, 2, 3, 4, 5, 6, 7, 8, 0] rfl) hf
            · have hf := o_t hf c16
              exact wB_X1_fitting_85 C hr hlk hk_11 hk_39 q7 M L x2 x3 x4 x5 x6 x7 x8 _ _ _ hw (lv_sub hl [0, 1, 2, 3, 4, 5, 6, 7, 8] rfl) hf
set_option maxRecDepth 20000 in
set_option maxHeartbeats 2000000 in
theorem wL_X1_fitting_11 {p : Program} {e : Env} {s : State} {m : MethodId} {args : Array Value} {below : List Frame} {meth : Method} {c : Code} (C : Cx G p s m args c cX1_fitting 9 RX1) (hr : meth.sig.returnType = (some .int)) (hlk : meth.locks = false) {ro : TX × Int32} : ∀ (n : Nat), ∀ (X : TX) (M : TX) (L : TL) (x2 : Int32) (x3 : Int32) (x4 : Int32) (x5 : Int32) (H : Heap) (locs : List Loc) (ls : Array Slot), Wh G s X M L H locs → lv_has ls 9 [(0, .ref (gA G 27)), (1, .ref (gA G 3)), (2, .int x2), (3, .int x3), (4, .int x4), (5, .int x5)] → L_X1_fitting_11 n X x2 x3 x4 x5 = some ro → W p l e (rz 3 72) s m args below meth c H locs 0 0 (MQ below (Di G ro.1 M L ro.2) args s 0 0 (AB G)) (F0 m 11 ls []) := by
  intro n
  induction n with
  | zero =>
    intro X M L x2 x3 x4 x5 H locs ls hw hl hf
    cases hf
  | succ n hk_11 =>
    intro X M L x2 x3 x4 x5 H locs ls hw hl hf
    rw [L_X1_fitting_11] at hf
    refine lv_iload C.1.1 C.1.2.1 dX1_fitting_11 (lv_at hl 5 rfl) ?_
    refine lv_aload_n C.1.1 C.1.2.1 dX1_fitting_13 rfl (lv_at hl 1 rfl) ?_
    refine x_get C hw iX_3_5 flX1_78 dX1_fitting_14 ?_
    refine lv_icmp_ge (tgt := 132) C.1.1 C.1.2.1 dX1_fitting_17 (by decide) (fun c1 => ?_) (fun c1 => ?_)
    · have hf := o_t hf c1
      refine lv_iload C.1.1 C.1.2.1 dX1_fitting_132 (lv_at hl 4 rfl) ?_
      obtain rfl := Option.some.inj hf
      exact ret_i C hr hlk hw dX1_fitting_134
    · have hf := o_f hf c1
      refine lv_aload_n C.1.1 C.1.2.1 dX1_fitting_20 rfl (lv_at hl 1 rfl) ?_
      refine lv_iload C.1.1 C.1.2.1 dX1_fitting_21 (lv_at hl 5 rfl) ?_
      obtain ⟨q2, h2, hf⟩ := o_bind hf
      refine aft_i hw (run_VX C hw clX1_81 (As := [.int x5]) (rest := []) oX_3 (c_X3_openWards h2) rfl hl.1 rfl ⟨(Nat.le_of_ble_eq_true rfl), (Nat.le_of_ble_eq_true rfl)⟩ ⟨Nat.zero_le _, Nat.zero_le _⟩ rfl (Nat.le_of_ble_eq_true rfl) dX1_fitting_23) (fun H locs hw => ?_)
      refine lv_istore (lv' := [(6, .int q2), (0, .ref (gA G 27)), (1, .ref (gA G 3)), (2, .int x2), (3, .int x3), (4, .int x4), (5, .int x5)]) C.1.1 C.1.2.1 dX1_fitting_26 hl (by decide) rfl (fun ls hl => ?_)
      refine lv_aload_n C.1.1 C.1.2.1 dX1_fitting_28 rfl (lv_at hl 2 rfl) ?_
      refine lv_iload C.1.1 C.1.2.1 dX1_fitting_29 (lv_at hl 6 rfl) ?_
      obtain ⟨q3, h3, hf⟩ := o_bind hf
      refine aft_i hw (run_VX C hw clX1_84 (As := [.int x5]) (rest := []) oX_3 (c_X3_wardOf h3) rfl hl.1 rfl ⟨(Nat.le_of_ble_eq_true rfl), (Nat.le_of_ble_eq_true rfl)⟩ ⟨Nat.zero_le _, Nat.zero_le _⟩ rfl (Nat.le_of_ble_eq_true rfl) dX1_fitting_31) (fun H locs hw => ?_)
      refine lv_istore (lv' := [(7, .int q3), (6, .int q2), (0, .ref (gA G 27)), (1, .ref (gA G 3)), (2, .int x2), (3, .int x3), (4, .int x4), (5, .int x5)]) C.1.1 C.1.2.1 dX1_fitting_34 hl (by decide) rfl (fun ls hl => ?_)
      refine lv_iconst (v := (0 : Int32)) C.1.1 C.1.2.1 dX1_fitting_36 rfl ?_
      refine lv_istore (lv' := [(8, .int (0 : Int32)), (7, .int q3), (6, .int q2), (0, .ref (gA G 27)), (1, .ref (gA G 3)), (2, .int x2), (3, .int x3), (4, .int x4), (5, .int x5)]) C.1.1 C.1.2.1 dX1_fitting_37 hl (by decide) rfl (fun ls hl => ?_)
      exact wL_X1_fitting_39 C hr hlk hk_11 FU X M L x2 x3 x4 x5 q2 q3 (0 : Int32) _ _ _ hw (lv_sub hl [3, 4, 5, 6, 7, 8, 2, 1, 0] rfl) hf
set_option maxRecDepth 20000 in
set_option maxHeartbeats 2000000 in
theorem c_X1_fitting   {X M : TX} {L : TL} {x2 : Int32} {x3 : Int32} {ro : TX × Int32} (hf : f_X1_fitting X x2 x3 = some ro) : CTi G l yX1_fitting cX1_fitting 9 (some .int) 3 72 [.ref (gA G 27), .ref (gA G 3), .int x2, .int x3] X M L ro.1 M L ro.2 := by
  unfold f_X1_fitting at hf
  refine ct_of (by decide +kernel) (Nat.le_of_ble_eq_true rfl) (fun p e s m args below meth c H locs ls C hr hlk hw hl => ?_)
  have C : Cx G p s m args c cX1_fitting 9 RX1 := C
  have hl : lv_has ls 9 [(0, .ref (gA G 27)), (1, .ref (gA G 3)), (2, .int x2), (3, .int x3)] := hl
  refine lv_iconst (v := (0 : Int32)) C.1.1 C.1.2.1 dX1_fitting_0 rfl ?_
  refine lv_istore (lv' := [(4, .int (0 : Int32)), (0, .ref (gA G 27)), (1, .ref (gA G 3)), (2, .int x2), (3, .int x3)]) C.1.1 C.1.2.1 dX1_fitting_1 hl (by decide) rfl (fun ls hl => ?_)
  refine lv_aload_n C.1.1 C.1.2.1 dX1_fitting_3 rfl (lv_at hl 1 rfl) ?_
  refine lv_iconst (v := (-1 : Int32)) C.1.1 C.1.2.1 dX1_fitting_4 rfl ?_
  refine x_put C hw iX_27_2 flX1_15 dX1_fitting_5 (fun H locs hw => ?_)
  refine lv_iconst (v := (0 : Int32)) C.1.1 C.1.2.1 dX1_fitting_8 rfl ?_
  refine lv_istore (lv' := [(5, .int (0 : Int32)), (4, .int (0 : Int32)), (0, .ref (gA G 27)), (1, .ref (gA G 3)), (2, .int x2), (3, .int x3)]) C.1.1 C.1.2.1 dX1_fitting_9 hl (by decide) rfl (fun ls hl => ?_)
  exact wL_X1_fitting_11 C hr hlk FU (u2 X 27 2 (-1 : Int32)) M L x2 x3 (0 : Int32) (0 : Int32) _ _ _ hw (lv_sub hl [2, 3, 4, 5, 1, 0] rfl) hf
end
/-! WinnerDraws.fits(I)I (('o', 'X', 0) ('i',)) -/
def f_X8_fits (X : TX) (x1 : Int32) : Option (TX × (Int32 ⊕ Nat)) := (f_X8_isHalf x1).bind fun q1 => (f_X8_need X q1).bind fun q2 => xb q2 (fun _ _ => (f_X1_fitting q2.1 (-1 : Int32) (-1 : Int32)).bind fun q3 => if x1 = 0 then (some (q3.1, .inl q3.2)) else (some (q3.1, .inl (q3.1 27 2))))
section
variable {G : GP} {l : Launch}
set_option maxRecDepth 20000 in
set_option maxHeartbeats 2000000 in
theorem c_X8_fits (hst : l.stackTraces = false)  {X M : TX} {L : TL} {x1 : Int32} {ro : TX × (Int32 ⊕ Nat)} (hf : f_X8_fits X x1 = some ro) : CXi G l yX8_fits cX8_fits 3 (some .int) 7 141 1 [.ref (gA G 0), .int x1] X M L ro := by
  unfold f_X8_fits at hf
  refine cx_of (by decide +kernel) (Nat.le_of_ble_eq_true rfl) (fun p e s m args below meth c H locs ls C hr hlk hnt hw hl => ?_)
  have C : Cx G p s m args c cX8_fits 3 RX8 := C
  have hl : lv_has ls 3 [(0, .ref (gA G 0)), (1, .int x1)] := hl
  refine lv_aload_n C.1.1 C.1.2.1 dX8_fits_0 rfl (lv_at hl 0 rfl) ?_
  refine lv_iload_n C.1.1 C.1.2.1 dX8_fits_1 rfl (lv_at hl 1 rfl) ?_
  obtain ⟨q1, h1, hf⟩ := o_bind hf
  refine aft_i hw (run_S C hw clX8_262 (As := [.int x1]) (rest := [.ref (gA G 0)]) (c_X8_isHalf h1) hl.1 rfl ⟨(Nat.le_of_ble_eq_true rfl), (Nat.le_of_ble_eq_true rfl)⟩ ⟨Nat.le_of_ble_eq_true rfl, Nat.le_of_ble_eq_true rfl⟩ rfl (Nat.le_of_ble_eq_true rfl) dX8_fits_2) (fun H locs hw => ?_)
  obtain ⟨q2, h2, hf⟩ := o_bind hf
  refine aftx_v hw (runx_VX C hw clX8_158 (tb2 212 rfl rfl) (As := [.int q1]) (rest := []) oX_0 (c_X8_need hst h2) rfl hl.1 rfl ⟨(Nat.le_of_ble_eq_true rfl), (Nat.le_of_ble_eq_true rfl)⟩ ⟨Nat.le_of_ble_eq_true rfl, Nat.le_of_ble_eq_true rfl⟩ rfl (Nat.le_of_ble_eq_true rfl) dX8_fits_5) hf hnt hlk (Nat.le_of_ble_eq_true rfl) (Nat.le_of_ble_eq_true rfl) (fun hf H locs hw => ?_)
  refine lv_aload_n C.1.1 C.1.2.1 dX8_fits_8 rfl (lv_at hl 0 rfl) ?_
  refine x_ref C hw fX_0_5 flX8_39 dX8_fits_9 ?_
  refine lv_aload_n C.1.1 C.1.2.1 dX8_fits_12 rfl (lv_at hl 0 rfl) ?_
  refine x_ref C hw fX_0_1 flX8_19 dX8_fits_13 ?_
  refine lv_iconst (v := (-1 : Int32)) C.1.1 C.1.2.1 dX8_fits_16 rfl ?_
  refine lv_iconst (v := (-1 : Int32)) C.1.1 C.1.2.1 dX8_fits_17 rfl ?_
  obtain ⟨q3, h3, hf⟩ := o_bind hf
  refine aft_i hw (run_VX C hw clX8_293 (As := [.ref (gA G 3), .int (-1 : Int32), .int (-1 : Int32)]) (rest := []) oX_27 (c_X1_fitting h3) rfl hl.1 rfl ⟨(Nat.le_of_ble_eq_true rfl), (Nat.le_of_ble_eq_true rfl)⟩ ⟨Nat.le_of_ble_eq_true rfl, Nat.le_of_ble_eq_true rfl⟩ rfl (Nat.le_of_ble_eq_true rfl) dX8_fits_18) (fun H locs hw => ?_)
  refine lv_istore_n (lv' := [(2, .int q3.2), (0, .ref (gA G 0)), (1, .int x1)]) C.1.1 C.1.2.1 dX8_fits_21 rfl hl (by decide) rfl (fun ls hl => ?_)
  refine lv_iload_n C.1.1 C.1.2.1 dX8_fits_22 rfl (lv_at hl 2 rfl) ?_
  refine lv_if_ne (tgt := 30) C.1.1 C.1.2.1 dX8_fits_23 (by decide) (fun c4 => ?_) (fun c4 => ?_)
  · have hf := o_f hf c4
    refine lv_aload_n C.1.1 C.1.2.1 dX8_fits_30 rfl (lv_at hl 1 rfl) ?_
    refine x_ref C hw fX_0_5 flX8_39 dX8_fits_31 ?_
    refine x_get C hw iX_27_2 flX8_297 dX8_fits_34 ?_
    exact retx_i C hr hlk hw (Option.some.inj hf).symm (Nat.le_of_ble_eq_true rfl) (Nat.le_of_ble_eq_true rfl) dX8_fits_37
  · have hf := o_t hf c4
    refine lv_iload_n C.1.1 C.1.2.1 dX8_fits_26 rfl (lv_at hl 0 rfl) ?_
    refine lv_goto (tgt := 37) C.1.1 C.1.2.1 dX8_fits_27 (by decide) ?_
    exact retx_i C hr hlk hw (Option.some.inj hf).symm (Nat.le_of_ble_eq_true rfl) (Nat.le_of_ble_eq_true rfl) dX8_fits_37
end
/-! WinnerDraws$Book.worstFitting(LWinnerDraws$County;I)I (('o', 'X', 27) ('o', 'X', 3) ('i',)) -/
def L_X1_worstFitting_11 : Nat → TX → Int32 → Int32 → Int32 → Option (TX × Int32)
  | 0 => fun _ _ _ _ => none
  | n + 1 => fun X x2 x3 x4 => if (2 : Int32) ≤ x4 then (some (X, x3)) else ((f_X1_fitting X x2 x4).bind fun q3 => (L_X1_worstFitting_11 n) q3.1 x2 (if x3 < q3.2 then q3.2 else x3) (x4 + (1 : Int32)))
def f_X1_worstFitting (X : TX) (x2 : Int32) : Option (TX × Int32) := (f_X1_fitting X x2 (-1 : Int32)).bind fun q1 => L_X1_worstFitting_11 FU q1.1 x2 q1.2 (0 : Int32)
section
variable {G : GP} {l : Launch}
set_option maxRecDepth 20000 in
set_option maxHeartbeats 2000000 in
theorem wL_X1_worstFitting_11 {p : Program} {e : Env} {s : State} {m : MethodId} {args : Array Value} {below : List Frame} {meth : Method} {c : Code} (C : Cx G p s m args c cX1_worstFitting 5 RX1) (hr : meth.sig.returnType = (some .int)) (hlk : meth.locks = false) {ro : TX × Int32} : ∀ (n : Nat), ∀ (X : TX) (M : TX) (L : TL) (x2 : Int32) (x3 : Int32) (x4 : Int32) (H : Heap) (locs : List Loc) (ls : Array Slot), Wh G s X M L H locs → lv_has ls 5 [(0, .ref (gA G 27)), (1, .ref (gA G 3)), (2, .int x2), (3, .int x3), (4, .int x4)] → L_X1_worstFitting_11 n X x2 x3 x4 = some ro → W p l e (rz 4 100) s m args below meth c H locs 0 0 (MQ below (Di G ro.1 M L ro.2) args s 0 0 (AB G)) (F0 m 11 ls []) := by
  intro n
  induction n with
  | zero =>
    intro X M L x2 x3 x4 H locs ls hw hl hf
    cases hf
  | succ n hk_11 =>
    intro X M L x2 x3 x4 H locs ls hw hl hf
    rw [L_X1_worstFitting_11] at hf
    refine lv_iload C.1.1 C.1.2.1 dX1_worstFitting_11 (lv_at hl 4 rfl) ?_
    refine lv_iconst (v := (2 : Int32)) C.1.1 C.1.2.1 dX1_worstFitting_13 rfl ?_
    refine lv_icmp_ge (tgt := 36) C.1.1 C.1.2.1 dX1_worstFitting_14 (by decide) (fun c2 => ?_) (fun c2 => ?_)
    · have hf := o_t hf c2
      refine lv_iload_n C.1.1 C.1.2.1 dX1_worstFitting_36 rfl (lv_at hl 3 rfl) ?_
      obtain rfl := Option.some.inj hf
      exact ret_i C hr hlk hw dX1_worstFitting_37
    · have hf := o_f hf c2
      refine lv_iload_n C.1.1 C.1.2.1 dX1_worstFitting_17 rfl (lv_at hl 3 rfl) ?_
      refine lv_aload_n C.1.1 C.1.2.1 dX1_worstFitting_18 rfl (lv_at hl 0 rfl) ?_
      refine lv_aload_n C.1.1 C.1.2.1 dX1_worstFitting_19 rfl (lv_at hl 1 rfl) ?_
      refine lv_iload_n C.1.1 C.1.2.1 dX1_worstFitting_20 rfl (lv_at hl 2 rfl) ?_
      refine lv_iload C.1.1 C.1.2.1 dX1_worstFitting_21 (lv_at hl 4 rfl) ?_
      obtain ⟨q3, h3, hf⟩ := o_bind hf
      refine aft_i hw (run_VX C hw clX1_95 (As := [.ref (gA G 3), .int x2, .int x4]) (rest := [.int x3]) oX_27 (c_X1_fitting h3) rfl hl.1 rfl ⟨(Nat.le_of_ble_eq_true rfl), (Nat.le_of_ble_eq_true rfl)⟩ ⟨Nat.zero_le _, Nat.zero_le _⟩ rfl (Nat.le_of_ble_eq_true rfl) dX1_worstFitting_23) (fun H locs hw => ?_)
      refine x_max C clX1_99 (tb5 213 rfl rfl) hl.1 ⟨(Nat.le_of_ble_eq_true rfl), (Nat.le_of_ble_eq_true rfl)⟩ ⟨Nat.zero_le _, Nat.zero_le _⟩ dX1_worstFitting_26 ?_
      refine lv_istore_n (lv' := [(3, .int (if x3 < q3.2 then q3.2 else x3)), (0, .ref (gA G 27)), (1, .ref (gA G 3)), (2, .int x2), (4, .int x4)]) C.1.1 C.1.2.1 dX1_worstFitting_29 rfl hl (by decide) rfl (fun ls hl => ?_)
      refine lv_iinc (v := (x4 + (1 : Int32))) (lv' := [(4, .int (x4 + (1 : Int32))), (3, .int (if x3 < q3.2 then q3.2 else x3)), (0, .ref (gA G 27)), (1, .ref (gA G 3)), (2, .int x2)]) C.1.1 C.1.2.1 dX1_worstFitting_30 hl (k := 4) rfl rfl (by decide) rfl (fun ls hl => ?_)
      refine lv_goto (tgt := 11) C.1.1 C.1.2.1 dX1_worstFitting_33 (by decide) ?_
      exact hk_11 q3.1 M L x2 (if x3 < q3.2 then q3.2 else x3) (x4 + (1 : Int32)) _ _ _ hw (lv_sub hl [2, 3, 4, 1, 0] rfl) hf
set_option maxRecDepth 20000 in
set_option maxHeartbeats 2000000 in
theorem c_X1_worstFitting   {X M : TX} {L : TL} {x2 : Int32} {ro : TX × Int32} (hf : f_X1_worstFitting X x2 = some ro) : CTi G l yX1_worstFitting cX1_worstFitting 5 (some .int) 4 100 [.ref (gA G 27), .ref (gA G 3), .int x2] X M L ro.1 M L ro.2 := by
  unfold f_X1_worstFitting at hf
  refine ct_of (by decide +kernel) (Nat.le_of_ble_eq_true rfl) (fun p e s m args below meth c H locs ls C hr hlk hw hl => ?_)
  have C : Cx G p s m args c cX1_worstFitting 5 RX1 := C
  have hl : lv_has ls 5 [(0, .ref (gA G 27)), (1, .ref (gA G 3)), (2, .int x2)] := hl
  refine lv_aload_n C.1.1 C.1.2.1 dX1_worstFitting_0 rfl (lv_at hl 0 rfl) ?_
  refine lv_aload_n C.1.1 C.1.2.1 dX1_worstFitting_1 rfl (lv_at hl 1 rfl) ?_
  refine lv_iload_n C.1.1 C.1.2.1 dX1_worstFitting_2 rfl (lv_at hl 2 rfl) ?_
  refine lv_iconst (v := (-1 : Int32)) C.1.1 C.1.2.1 dX1_worstFitting_3 rfl ?_
  obtain ⟨q1, h1, hf⟩ := o_bind hf
  refine aft_i hw (run_VX C hw clX1_95 (As := [.ref (gA G 3), .int x2, .int (-1 : Int32)]) (rest := []) oX_27 (c_X1_fitting h1) rfl hl.1 rfl ⟨(Nat.le_of_ble_eq_true rfl), (Nat.le_of_ble_eq_true rfl)⟩ ⟨Nat.zero_le _, Nat.zero_le _⟩ rfl (Nat.le_of_ble_eq_true rfl) dX1_worstFitting_4) (fun H locs hw => ?_)
  refine lv_istore_n (lv' := [(3, .int q1.2), (0, .ref (gA G 27)), (1, .ref (gA G 3)), (2, .int x2)]) C.1.1 C.1.2.1 dX1_worstFitting_7 rfl hl (by decide) rfl (fun ls hl => ?_)
  refine lv_iconst (v := (0 : Int32)) C.1.1 C.1.2.1 dX1_worstFitting_8 rfl ?_
  refine lv_istore (lv' := [(4, .int (0 : Int32)), (3, .int q1.2), (0, .ref (gA G 27)), (1, .ref (gA G 3)), (2, .int x2)]) C.1.1 C.1.2.1 dX1_worstFitting_9 hl (by decide) rfl (fun ls hl => ?_)
  exact wL_X1_worstFitting_11 C hr hlk FU q1.1 M L x2 q1.2 (0 : Int32) _ _ _ hw (lv_sub hl [2, 3, 4, 1, 0] rfl) hf
end
/-! WinnerDraws.look(I)I (('o', 'X', 0) ('i',)) -/
def L_X8_look_15 : Nat → TX → Int32 → Int32 → Int32 → Int32 → Option (TX × (Int32 ⊕ Nat))
  | 0 => fun _ _ _ _ _ => none
  | n + 1 => fun X x1 x2 x3 x4 => if (4 : Int32) ≤ x4 then (if x1 = 0 then (some (X, .inl x2)) else (some (X, .inl x3))) else ((f_X1_hasLine_o27 X x4).bind fun q5 => if q5 = 0 then ((f_X1_worstFitting X x4).bind fun q7 => if x2 = (-1 : Int32) then ((L_X8_look_15 n) q7.1 x1 x4 q7.2 (x4 + (1 : Int32))) else (if x3 ≤ q7.2 then ((L_X8_look_15 n) q7.1 x1 x2 x3 (x4 + (1 : Int32))) else ((L_X8_look_15 n) q7.1 x1 x4 q7.2 (x4 + (1 : Int32))))) else ((L_X8_look_15 n) X x1 x2 x3 (x4 + (1 : Int32))))
def f_X8_look (X : TX) (x1 : Int32) : Option (TX × (Int32 ⊕ Nat)) := (f_X8_isHalf x1).bind fun q1 => (f_X8_need X q1).bind fun q2 => xb q2 (fun _ _ => L_X8_look_15 FU q2.1 x1 (-1 : Int32) (-1 : Int32) (0 : Int32))
section
variable {G : GP} {l : Launch}
set_option maxRecDepth 20000 in
set_option maxHeartbeats 2000000 in
theorem wL_X8_look_15 {p : Program} {e : Env} {s : State} {m : MethodId} {args : Array Value} {below : List Frame} {meth : Method} {c : Code} (C : Cx G p s m args c cX8_look 6 RX8) (hr : meth.sig.returnType = (some .int)) (hlk : meth.locks = false) (hnt : ∀ x ∈ c.exceptionTable.toList, False) (hst : l.stackTraces = false) {ro : TX × (Int32 ⊕ Nat)} : ∀ (n : Nat), ∀ (X : TX) (M : TX) (L : TL) (x1 : Int32) (x2 : Int32) (x3 : Int32) (x4 : Int32) (H : Heap) (locs : List Loc) (ls : Array Slot), Wh G s X M L H locs → lv_has ls 6 [(0, .ref (gA G 0)), (1, .int x1), (2, .int x2), (3, .int x3), (4, .int x4)] → L_X8_look_15 n X x1 x2 x3 x4 = some ro → W p l e (rx 7 141 1) s m args below meth c H locs 1 6 (vx_MQ below (Dxi G ro M L) (XD G ro M L) args s 1 (6 * 1) (AB G)) (F0 m 15 ls []) := by
  intro n
  induction n with
  | zero =>
    intro X M L x1 x2 x3 x4 H locs ls hw hl hf
    cases hf
  | succ n hk_15 =>
    intro X M L x1 x2 x3 x4 H locs ls hw hl hf
    rw [L_X8_look_15] at hf
    refine lv_iload C.1.1 C.1.2.1 dX8_look_15 (lv_at hl 4 rfl) ?_
    refine lv_iconst (v := (4 : Int32)) C.1.1 C.1.2.1 dX8_look_17 rfl ?_
    refine lv_icmp_ge (tgt := 71) C.1.1 C.1.2.1 dX8_look_18 (by decide) (fun c3 => ?_) (fun c3 => ?_)
    · have hf := o_t hf c3
      refine lv_iload_n C.1.1 C.1.2.1 dX8_look_71 rfl (lv_at hl 1 rfl) ?_
      refine lv_if_ne (tgt := 79) C.1.1 C.1.2.1 dX8_look_72 (by decide) (fun c4 => ?_) (fun c4 => ?_)
      · have hf := o_f hf c4
        refine lv_iload_n C.1.1 C.1.2.1 dX8_look_79 rfl (lv_at hl 3 rfl) ?_
        exact retx_i C hr hlk hw (Option.some.inj hf).symm (Nat.le_of_ble_eq_true rfl) (Nat.le_of_ble_eq_true rfl) dX8_look_80
      · have hf := o_t hf c4
        refine lv_iload_n C.1.1 C.1.2.1 dX8_look_75 rfl (lv_at hl 2 rfl) ?_
        refine lv_goto (tgt := 80) C.1.1 C.1.2.1 dX8_look_76 (by decide) ?_
        exact retx_i C hr hlk hw (Option.some.inj hf).symm (Nat.le_of_ble_eq_true rfl) (Nat.le_of_ble_eq_true rfl) dX8_look_80
    · have hf := o_f hf c3
      refine lv_aload_n C.1.1 C.1.2.1 dX8_look_21 rfl (lv_at hl 0 rfl) ?_
      refine x_ref C hw fX_0_5 flX8_39 dX8_look_22 ?_
      refine lv_iload C.1.1 C.1.2.1 dX8_look_25 (lv_at hl 4 rfl) ?_
      obtain ⟨q5, h5, hf⟩ := o_bind hf
      refine aft_i hw (run_VX C hw clX8_300 (As := [.int x4]) (rest := []) oX_27 (c_X1_hasLine_o27 h5) rfl hl.1 rfl ⟨(Nat.le_of_ble_eq_true rfl), (Nat.le_of_ble_eq_true rfl)⟩ ⟨Nat.le_of_ble_eq_true rfl, Nat.le_of_ble_eq_true rfl⟩ rfl (Nat.le_of_ble_eq_true rfl) dX8_look_27) (fun H locs hw => ?_)
      refine lv_if_ne (tgt := 65) C.1.1 C.1.2.1 dX8_look_30 (by decide) (fun c6 => ?_) (fun c6 => ?_)
      · have hf := o_f hf c6
        refine lv_iinc (v := (x4 + (1 : Int32))) (lv' := [(4, .int (x4 + (1 : Int32))), (0, .ref (gA G 0)), (1, .int x1), (2, .int x2), (3, .int x3)]) C.1.1 C.1.2.1 dX8_look_65 hl (k := 4) rfl rfl (by decide) rfl (fun ls hl => ?_)
        refine lv_goto (tgt := 15) C.1.1 C.1.2.1 dX8_look_68 (by decide) ?_
        exact hk_15 X M L x1 x2 x3 (x4 + (1 : Int32)) _ _ _ hw (lv_sub hl [1, 2, 3, 4, 0] rfl) hf
      · have hf := o_t hf c6
        refine lv_aload_n C.1.1 C.1.2.1 dX8_look_33 rfl (lv_at hl 0 rfl) ?_
        refine x_ref C hw fX_0_5 flX8_39 dX8_look_34 ?_
        refine lv_aload_n C.1.1 C.1.2.1 dX8_look_37 rfl (lv_at hl 0 rfl) ?_
        refine x_ref C hw fX_0_1 flX8_19 dX8_look_38 ?_
        refine lv_iload C.1.1 C.1.2.1 dX8_look_41 (lv_at hl 4 rfl) ?_
        obtain ⟨q7, h7, hf⟩ := o_bind hf
        refine aft_i hw (run_VX C hw clX8_303 (As := [.ref (gA G 3), .int x4]) (rest := []) oX_27 (c_X1_worstFitting h7) rfl hl.1 rfl ⟨(Nat.le_of_ble_eq_true rfl), (Nat.le_of_ble_eq_true rfl)⟩ ⟨Nat.le_of_ble_eq_true rfl, Nat.le_of_ble_eq_true rfl⟩ rfl (Nat.le_of_ble_eq_true rfl) dX8_look_43) (fun H locs hw => ?_)
        refine lv_istore (lv' := [(5, .int q7.2), (0, .ref (gA G 0)), (1, .int x1), (2, .int x2), (3, .int x3), (4, .int x4)]) C.1.1 C.1.2.1 dX8_look_46 hl (by decide) rfl (fun ls hl => ?_)
        refine lv_iload_n C.1.1 C.1.2.1 dX8_look_48 rfl (lv_at hl 3 rfl) ?_
        refine lv_iconst (v := (-1 : Int32)) C.1.1 C.1.2.1 dX8_look_49 rfl ?_
        refine lv_icmp_eq (tgt := 59) C.1.1 C.1.2.1 dX8_look_50 (by decide) (fun c8 => ?_) (fun c8 => ?_)
        · have hf := o_t hf c8
          refine lv_iload C.1.1 C.1.2.1 dX8_look_59 (lv_at hl 5 rfl) ?_
          refine lv_istore_n (lv' := [(2, .int x4), (5, .int q7.2), (0, .ref (gA G 0)), (1, .int x1), (3, .int x3), (4, .int x4)]) C.1.1 C.1.2.1 dX8_look_61 rfl hl (by decide) rfl (fun ls hl => ?_)
          refine lv_iload C.1.1 C.1.2.1 dX8_look_62 (lv_at hl 1 rfl) ?_
          refine lv_istore_n (lv' := [(3, .int q7.2), (2, .int x4), (5, .int q7.2), (0, .ref (gA G 0)), (1, .int x1), (4, .int x4)]) C.1.1 C.1.2.1 dX8_look_64 rfl hl (by decide) rfl (fun ls hl => ?_)
          refine lv_iinc (v := (x4 + (1 : Int32))) (lv' := [(4, .int (x4 + (1 : Int32))), (3, .int q7.2), (2, .int x4), (5, .int q7.2), (0, .ref (gA G 0)), (1, .int x1)]) C.1.1 C.1.2.1 dX8_look_65 hl (k := 5) rfl rfl (by decide) rfl (fun ls hl => ?_)
          refine lv_goto (tgt := 15) C.1.1 C.1.2.1 dX8_look_68 (by decide) ?_
          exact hk_15 q7.1 M L x1 x4 q7.2 (x4 + (1 : Int32)) _ _ _ hw (lv_sub hl [4, 5, 2, 1, 0] rfl) hf
        · have hf := o_f hf c8
          refine lv_iload C.1.1 C.1.2.1 dX8_look_53 (lv_at hl 0 rfl) ?_
          refine lv_iload_n C.1.1 C.1.2.1 dX8_look_55 rfl (lv_at hl 4 rfl) ?_
          refine lv_icmp_ge (tgt := 65) C.1.1 C.1.2.1 dX8_look_56 (by decide) (fun c9 => ?_) (fun c9 => ?_)
          · have hf := o_t hf c9
            refine lv_iinc (v := (x4 + (1 : Int32))) (lv' := [(4, .int (x4 + (1 : Int32))), (5, .int q7.2), (0, .ref (gA G 0)), (1, .int x1), (2, .int x2), (3, .int x3)]) C.1.1 C.1.2.1 dX8_look_65 hl (k := 5) rfl rfl (by decide) rfl (fun ls hl => ?_)
            refine lv_goto (tgt := 15) C.1.1 C.1.2.1 dX8_look_68 (by decide) ?_
            exact hk_15 q7.1 M L x1 x2 x3 (x4 + (1 : Int32)) _ _ _ hw (lv_sub hl [2, 3, 4, 5, 0] rfl) hf
          · have hf := o_f hf c9
            refine lv_iload C.1.1 C.1.2.1 dX8_look_59 (lv_at hl 5 rfl) ?_
            refine lv_istore_n (lv' := [(2, .int x4), (5, .int q7.2), (0, .ref (gA G 0)), (1, .int x1), (3, .int x3), (4, .int x4)]) C.1.1 C.1.2.1 dX8_look_61 rfl hl (by decide) rfl (fun ls hl => ?_)
            refine lv_iload C.1.1 C.1.2.1 dX8_look_62 (lv_at hl 1 rfl) ?_
            refine lv_istore_n (lv' := [(3, .int q7.2), (2, .int x4), (5, .int q7.2), (0, .ref (gA G 0)), (1, .int x1), (4, .int x4)]) C.1.1 C.1.2.1 dX8_look_64 rfl hl (by decide) rfl (fun ls hl => ?_)
            refine lv_iinc (v := (x4 + (1 : Int32))) (lv' := [(4, .int (x4 + (1 : Int32))), (3, .int q7.2), (2, .int x4), (5, .int q7.2), (0, .ref (gA G 0)), (1, .int x1)]) C.1.1 C.1.2.1 dX8_look_65 hl (k := 5) rfl rfl (by decide) rfl (fun ls hl => ?_)
            refine lv_goto (tgt := 15) C.1.1 C.1.2.1 dX8_look_68 (by decide) ?_
            exact hk_15 q7.1 M L x1 x4 q7.2 (x4 + (1 : Int32)) _ _ _ hw (lv_sub hl [4, 5, 2, 1, 0] rfl) hf
set_option maxRecDepth 20000 in
set_option maxHeartbeats 2000000 in
theorem c_X8_look (hst : l.stackTraces = false)  {X M : TX} {L : TL} {x1 : Int32} {ro : TX × (Int32 ⊕ Nat)} (hf : f_X8_look X x1 = some ro) : CXi G l yX8_look cX8_look 6 (some .int) 7 141 1 [.ref (gA G 0), .int x1] X M L ro := by
  unfold f_X8_look at hf
  refine cx_of (by decide +kernel) (Nat.le_of_ble_eq_true rfl) (fun p e s m args below meth c H locs ls C hr hlk hnt hw hl => ?_)
  have C : Cx G p s m args c cX8_look 6 RX8 := C
  have hl : lv_has ls 6 [(0, .ref (gA G 0)), (1, .int x1)] := hl
  refine lv_aload_n C.1.1 C.1.2.1 dX8_look_0 rfl (lv_at hl 0 rfl) ?_
  refine lv_iload_n C.1.1 C.1.2.1 dX8_look_1 rfl (lv_at hl 1 rfl) ?_
  obtain ⟨q1, h1, hf⟩ := o_bind hf
  refine aft_i hw (run_S C hw clX8_262 (As := [.int x1]) (rest := [.ref (gA G 0)]) (c_X8_isHalf h1) hl.1 rfl ⟨(Nat.le_of_ble_eq_true rfl), (Nat.le_of_ble_eq_true rfl)⟩ ⟨Nat.le_of_ble_eq_true rfl, Nat.le_of_ble_eq_true rfl⟩ rfl (Nat.le_of_ble_eq_true rfl) dX8_look_2) (fun H locs hw => ?_)
  obtain ⟨q2, h2, hf⟩ := o_bind hf
  refine aftx_v hw (runx_VX C hw clX8_158 (tb2 212 rfl rfl) (As := [.int q1]) (rest := []) oX_0 (c_X8_need hst h2) rfl hl.1 rfl ⟨(Nat.le_of_ble_eq_true rfl), (Nat.le_of_ble_eq_true rfl)⟩ ⟨Nat.le_of_ble_eq_true rfl, Nat.le_of_ble_eq_true rfl⟩ rfl (Nat.le_of_ble_eq_true rfl) dX8_look_5) hf hnt hlk (Nat.le_of_ble_eq_true rfl) (Nat.le_of_ble_eq_true rfl) (fun hf H locs hw => ?_)
  refine lv_iconst (v := (-1 : Int32)) C.1.1 C.1.2.1 dX8_look_8 rfl ?_
  refine lv_istore_n (lv' := [(2, .int (-1 : Int32)), (0, .ref (gA G 0)), (1, .int x1)]) C.1.1 C.1.2.1 dX8_look_9 rfl hl (by decide) rfl (fun ls hl => ?_)
  refine lv_iconst (v := (-1 : Int32)) C.1.1 C.1.2.1 dX8_look_10 rfl ?_
  refine lv_istore_n (lv' := [(3, .int (-1 : Int32)), (2, .int (-1 : Int32)), (0, .ref (gA G 0)), (1, .int x1)]) C.1.1 C.1.2.1 dX8_look_11 rfl hl (by decide) rfl (fun ls hl => ?_)
  refine lv_iconst (v := (0 : Int32)) C.1.1 C.1.2.1 dX8_look_12 rfl ?_
  refine lv_istore (lv' := [(4, .int (0 : Int32)), (3, .int (-1 : Int32)), (2, .int (-1 : Int32)), (0, .ref (gA G 0)), (1, .int x1)]) C.1.1 C.1.2.1 dX8_look_13 hl (by decide) rfl (fun ls hl => ?_)
  exact wL_X8_look_15 C hr hlk hnt hst FU q2.1 M L x1 (-1 : Int32) (-1 : Int32) (0 : Int32) _ _ _ hw (lv_sub hl [3, 4, 2, 1, 0] rfl) hf
end
/-! WinnerDraws.power(JI)J (('l',) ('i',)) -/
def L_X8_power_5 : Nat → Int64 → Int32 → Int64 → Int32 → Option (Int64)
  | 0 => fun _ _ _ _ => none
  | n + 1 => fun x0 x2 x3 x5 => if x2 ≤ x5 then (some x3) else ((L_X8_power_5 n) x0 x2 (x3 * x0) (x5 + (1 : Int32)))
def f_X8_power (x0 : Int64) (x2 : Int32) : Option (Int64) := L_X8_power_5 FU x0 x2 (1 : Int64) (0 : Int32)
section
variable {G : GP} {l : Launch}
set_option maxRecDepth 20000 in
set_option maxHeartbeats 2000000 in
theorem wL_X8_power_5 {p : Program} {e : Env} {s : State} {m : MethodId} {args : Array Value} {below : List Frame} {meth : Method} {c : Code} (C : Cx G p s m args c cX8_power 6 RX8) (hr : meth.sig.returnType = (some .long)) (hlk : meth.locks = false) {ro : Int64} : ∀ (n : Nat), ∀ (X : TX) (M : TX) (L : TL) (x0 : Int64) (x2 : Int32) (x3 : Int64) (x5 : Int32) (H : Heap) (locs : List Loc) (ls : Array Slot), Wh G s X M L H locs → lv_has ls 6 [(0, .long x0), (2, .int x2), (3, .long x3), (5, .int x5)] → L_X8_power_5 n x0 x2 x3 x5 = some ro → W p l e (rz 0 0) s m args below meth c H locs 0 0 (MQ below (Dl G X M L ro) args s 0 0 (AB G)) (F0 m 5 ls []) := by
  intro n
  induction n with
  | zero =>
    intro X M L x0 x2 x3 x5 H locs ls hw hl hf
    cases hf
  | succ n hk_5 =>
    intro X M L x0 x2 x3 x5 H locs ls hw hl hf
    rw [L_X8_power_5] at hf
    refine lv_iload C.1.1 C.1.2.1 dX8_power_5 (lv_at hl 3 rfl) ?_
    refine lv_iload_n C.1.1 C.1.2.1 dX8_power_7 rfl (lv_at hl 1 rfl) ?_
    refine lv_icmp_ge (tgt := 21) C.1.1 C.1.2.1 dX8_power_8 (by decide) (fun c1 => ?_) (fun c1 => ?_)
    · have hf := o_t hf c1
      refine lv_lload_n C.1.1 C.1.2.1 dX8_power_21 rfl (lv_at hl 2 rfl) ?_
      obtain rfl := Option.some.inj hf
      exact ret_l C hr hlk hw dX8_power_22
    · have hf := o_f hf c1
      refine lv_lload_n C.1.1 C.1.2.1 dX8_power_11 rfl (lv_at hl 2 rfl) ?_
      refine lv_lload_n C.1.1 C.1.2.1 dX8_power_12 rfl (lv_at hl 0 rfl) ?_
      refine lv_lmul C.1.1 C.1.2.1 dX8_power_13 ?_
      refine lv_lstore_n (lv' := [(3, .long (x3 * x0)), (0, .long x0), (2, .int x2), (5, .int x5)]) C.1.1 C.1.2.1 dX8_power_14 rfl hl (by decide) rfl (fun ls hl => ?_)
      refine lv_iinc (v := (x5 + (1 : Int32))) (lv' := [(5, .int (x5 + (1 : Int32))), (3, .long (x3 * x0)), (0, .long x0), (2, .int x2)]) C.1.1 C.1.2.1 dX8_power_15 hl (k := 3) rfl rfl (by decide) rfl (fun ls hl => ?_)
      refine lv_goto (tgt := 5) C.1.1 C.1.2.1 dX8_power_18 (by decide) ?_
      exact hk_5 X M L x0 x2 (x3 * x0) (x5 + (1 : Int32)) _ _ _ hw (lv_sub hl [2, 3, 1, 0] rfl) hf
set_option maxRecDepth 20000 in
set_option maxHeartbeats 2000000 in
theorem c_X8_power   {X M : TX} {L : TL} {x0 : Int64} {x2 : Int32} {ro : Int64} (hf : f_X8_power x0 x2 = some ro) : CTl G l yX8_power cX8_power 6 (some .long) 0 0 [.long x0, .int x2] X M L X M L ro := by
  unfold f_X8_power at hf
  refine ct_of (by decide +kernel) (Nat.le_of_ble_eq_true rfl) (fun p e s m args below meth c H locs ls C hr hlk hw hl => ?_)
  have C : Cx G p s m args c cX8_power 6 RX8 := C
  have hl : lv_has ls 6 [(0, .long x0), (2, .int x2)] := hl
  refine lv_lconst (v := (1 : Int64)) C.1.1 C.1.2.1 dX8_power_0 rfl ?_
  refine lv_lstore_n (lv' := [(3, .long (1 : Int64)), (0, .long x0), (2, .int x2)]) C.1.1 C.1.2.1 dX8_power_1 rfl hl (by decide) rfl (fun ls hl => ?_)
  refine lv_iconst (v := (0 : Int32)) C.1.1 C.1.2.1 dX8_power_2 rfl ?_
  refine lv_istore (lv' := [(5, .int (0 : Int32)), (3, .long (1 : Int64)), (0, .long x0), (2, .int x2)]) C.1.1 C.1.2.1 dX8_power_3 hl (by decide) rfl (fun ls hl => ?_)
  exact wL_X8_power_5 C hr hlk FU X M L x0 x2 (1 : Int64) (0 : Int32) _ _ _ hw (lv_sub hl [2, 3, 1, 0] rfl) hf
end
/-! WinnerDraws.waysToTake(II)J (('i',) ('i',)) -/
def L_X8_waysToTake_5 : Nat → Int32 → Int32 → Int64 → Int32 → Option (Int64)
  | 0 => fun _ _ _ _ => none
  | n + 1 => fun x0 x1 x2 x4 => if x0 < x4 then (some x2) else (if (Int32.toInt64 x4) = 0 then none else ((L_X8_waysToTake_5 n) x0 x1 ((x2 * (Int32.toInt64 ((x1 - x4) + (1 : Int32)))) / (Int32.toInt64 x4)) (x4 + (1 : Int32))))
def f_X8_waysToTake (x0 : Int32) (x1 : Int32) : Option (Int64) := L_X8_waysToTake_5 FU x0 x1 (1 : Int64) (1 : Int32)
section
variable {G : GP} {l : Launch}
set_option maxRecDepth 20000 in
set_option maxHeartbeats 2000000 in
theorem wL_X8_waysToTake_5 {p : Program} {e : Env} {s : State} {m : MethodId} {args : Array Value} {below : List Frame} {meth : Method} {c : Code} (C : Cx G p s m args c cX8_waysToTake 5 RX8) (hr : meth.sig.returnType = (some .long)) (hlk : meth.locks = false) {ro : Int64} : ∀ (n : Nat), ∀ (X : TX) (M : TX) (L : TL) (x0 : Int32) (x1 : Int32) (x2 : Int64) (x4 : Int32) (H : Heap) (locs : List Loc) (ls : Array Slot), Wh G s X M L H locs → lv_has ls 5 [(0, .int x0), (1, .int x1), (2, .long x2), (4, .int x4)] → L_X8_waysToTake_5 n x0 x1 x2 x4 = some ro → W p l e (rz 0 0) s m args below meth c H locs 0 0 (MQ below (Dl G X M L ro) args s 0 0 (AB G)) (F0 m 5 ls []) := by
  intro n
  induction n with
  | zero =>
    intro X M L x0 x1 x2 x4 H locs ls hw hl hf
    cases hf
  | succ n hk_5 =>
    intro X M L x0 x1 x2 x4 H locs ls hw hl hf
    rw [L_X8_waysToTake_5] at hf
    refine lv_iload C.1.1 C.1.2.1 dX8_waysToTake_5 (lv_at hl 3 rfl) ?_
    refine lv_iload_n C.1.1 C.1.2.1 dX8_waysToTake_7 rfl (lv_at hl 0 rfl) ?_
    refine lv_icmp_gt (tgt := 31) C.1.1 C.1.2.1 dX8_waysToTake_8 (by decide) (fun c1 => ?_) (fun c1 => ?_)
    · have hf := o_t hf c1
      refine lv_lload_n C.1.1 C.1.2.1 dX8_waysToTake_31 rfl (lv_at hl 2 rfl) ?_
      obtain rfl := Option.some.inj hf
      exact ret_l C hr hlk hw dX8_waysToTake_32
    · have hf := o_f hf c1
      refine lv_lload_n C.1.1 C.1.2.1 dX8_waysToTake_11 rfl (lv_at hl 2 rfl) ?_
      refine lv_iload_n C.1.1 C.1.2.1 dX8_waysToTake_12 rfl (lv_at hl 1 rfl) ?_
      refine lv_iload C.1.1 C.1.2.1 dX8_waysToTake_13 (lv_at hl 3 rfl) ?_
      refine lv_isub C.1.1 C.1.2.1 dX8_waysToTake_15 ?_
      refine lv_iconst (v := (1 : Int32)) C.1.1 C.1.2.1 dX8_waysToTake_16 rfl ?_
      refine lv_iadd C.1.1 C.1.2.1 dX8_waysToTake_17 ?_
      refine lv_i2l (v := (Int32.toInt64 ((x1 - x4) + (1 : Int32)))) C.1.1 C.1.2.1 dX8_waysToTake_18 rfl ?_
      refine lv_lmul C.1.1 C.1.2.1 dX8_waysToTake_19 ?_
      refine lv_iload C.1.1 C.1.2.1 dX8_waysToTake_20 (lv_at hl 3 rfl) ?_
      refine lv_i2l (v := (Int32.toInt64 x4)) C.1.1 C.1.2.1 dX8_waysToTake_22 rfl ?_
      have g2 := o_n1 hf
      have hf := o_n2 hf
      refine lv_ldiv C.1.1 C.1.2.1 dX8_waysToTake_23 g2 ?_
      refine lv_lstore_n (lv' := [(2, .long ((x2 * (Int32.toInt64 ((x1 - x4) + (1 : Int32)))) / (Int32.toInt64 x4))), (0, .int x0), (1, .int x1), (4, .int x4)]) C.1.1 C.1.2.1 dX8_waysToTake_24 rfl hl (by decide) rfl (fun ls hl => ?_)
      refine lv_iinc (v := (x4 + (1 : Int32))) (lv' := [(4, .int (x4 + (1 : Int32))), (2, .long ((x2 * (Int32.toInt64 ((x1 - x4) + (1 : Int32)))) / (Int32.toInt64 x4))), (0, .int x0), (1, .int x1)]) C.1.1 C.1.2.1 dX8_waysToTake_25 hl (k := 3) rfl rfl (by decide) rfl (fun ls hl => ?_)
      refine lv_goto (tgt := 5) C.1.1 C.1.2.1 dX8_waysToTake_28 (by decide) ?_
      exact hk_5 X M L x0 x1 ((x2 * (Int32.toInt64 ((x1 - x4) + (1 : Int32)))) / (Int32.toInt64 x4)) (x4 + (1 : Int32)) _ _ _ hw (lv_sub hl [2, 3, 1, 0] rfl) hf
set_option maxRecDepth 20000 in
set_option maxHeartbeats 2000000 in
theorem c_X8_waysToTake   {X M : TX} {L : TL} {x0 : Int32} {x1 : Int32} {ro : Int64} (hf : f_X8_waysToTake x0 x1 = some ro) : CTl G l yX8_waysToTake cX8_waysToTake 5 (some .long) 0 0 [.int x0, .int x1] X M L X M L ro := by
  unfold f_X8_waysToTake at hf
  refine ct_of (by decide +kernel) (Nat.le_of_ble_eq_true rfl) (fun p e s m args below meth c H locs ls C hr hlk hw hl => ?_)
  have C : Cx G p s m args c cX8_waysToTake 5 RX8 := C
  have hl : lv_has ls 5 [(0, .int x0), (1, .int x1)] := hl
  refine lv_lconst (v := (1 : Int64)) C.1.1 C.1.2.1 dX8_waysToTake_0 rfl ?_
  refine lv_lstore_n (lv' := [(2, .long (1 : Int64)), (0, .int x0), (1, .int x1)]) C.1.1 C.1.2.1 dX8_waysToTake_1 rfl hl (by decide) rfl (fun ls hl => ?_)
  refine lv_iconst (v := (1 : Int32)) C.1.1 C.1.2.1 dX8_waysToTake_2 rfl ?_
  refine lv_istore (lv' := [(4, .int (1 : Int32)), (2, .long (1 : Int64)), (0, .int x0), (1, .int x1)]) C.1.1 C.1.2.1 dX8_waysToTake_3 hl (by decide) rfl (fun ls hl => ?_)
  exact wL_X8_waysToTake_5 C hr hlk FU X M L x0 x1 (1 : Int64) (1 : Int32) _ _ _ hw (lv_sub hl [2, 3, 1, 0] rfl) hf
end
/-! WinnerDraws.recount(IIII)J (('o', 'X', 0) ('i',) ('i',) ('i',) ('i',)) -/
def L_X8_recount_62 : Nat → TX → Int32 → Int32 → Int32 → Int64 → Int32 → Option (TX × (Int64 ⊕ Nat))
  | 0 => fun _ _ _ _ _ _ => none
  | n + 1 => fun X x1 x3 x4 x5 x7 => if x1 < x7 then ((f_X8_power (16 : Int64) x1).bind fun q6 => (f_X8_leastTerm x5 q6 x4).bind fun q7 => some (X, .inl q7)) else ((f_X8_waysToTake x7 x1).bind fun q8 => (f_X8_power (Int32.toInt64 x3) x7).bind fun q9 => (f_X8_power (Int32.toInt64 ((16 : Int32) - x3)) (x1 - x7)).bind fun q10 => (L_X8_recount_62 n) X x1 x3 x4 (x5 + ((q8 * q9) * q10)) (x7 + (1 : Int32)))
def B_X8_recount_26 (X : TX) (x1 : Int32) (x2 : Int32) (x3 : Int32) (x4 : Int32) (t0 : Int32) : Option (TX × (Int64 ⊕ Nat)) := (f_X8_need X t0).bind fun q2 => xb q2 (fun _ _ => if x3 < 0 then ((f_X8_need q2.1 (0 : Int32)).bind fun q4 => xb q4 (fun _ _ => L_X8_recount_62 FU q4.1 x1 x3 x4 (0 : Int64) x2)) else (if (16 : Int32) < x3 then ((f_X8_need q2.1 (0 : Int32)).bind fun q12 => xb q12 (fun _ _ => L_X8_recount_62 FU q12.1 x1 x3 x4 (0 : Int64) x2)) else ((f_X8_isHalf x4).bind fun q13 => if q13 = 0 then ((f_X8_need q2.1 (0 : Int32)).bind fun q15 => xb q15 (fun _ _ => L_X8_recount_62 FU q15.1 x1 x3 x4 (0 : Int64) x2)) else ((f_X8_need q2.1 (1 : Int32)).bind fun q16 => xb q16 (fun _ _ => L_X8_recount_62 FU q16.1 x1 x3 x4 (0 : Int64) x2)))))
def f_X8_recount (X : TX) (x1 : Int32) (x2 : Int32) (x3 : Int32) (x4 : Int32) : Option (TX × (Int64 ⊕ Nat)) := if x1 < 0 then (B_X8_recount_26 X x1 x2 x3 x4 (0 : Int32)) else (if (12 : Int32) < x1 then (B_X8_recount_26 X x1 x2 x3 x4 (0 : Int32)) else (if x2 < 0 then (B_X8_recount_26 X x1 x2 x3 x4 (0 : Int32)) else (if (13 : Int32) < x2 then (B_X8_recount_26 X x1 x2 x3 x4 (0 : Int32)) else (B_X8_recount_26 X x1 x2 x3 x4 (1 : Int32)))))
section
variable {G : GP} {l : Launch}
set_option maxRecDepth 20000 in
set_option maxHeartbeats 2000000 in
theorem wL_X8_recount_62 {p : Program} {e : Env} {s : State} {m : MethodId} {args : Array Value} {below : List Frame} {meth : Method} {c : Code} (C : Cx G p s m args c cX8_recount 8 RX8) (hr : meth.sig.returnType = (some .long)) (hlk : meth.locks = false) (hnt : ∀ x ∈ c.exceptionTable.toList, False) (hst : l.stackTraces = false) {ro : TX × (Int64 ⊕ Nat)} : ∀ (n : Nat), ∀ (X : TX) (M : TX) (L : TL) (x1 : Int32) (x3 : Int32) (x4 : Int32) (x5 : Int64) (x7 : Int32) (H : Heap) (locs : List Loc) (ls : Array Slot), Wh G s X M L H locs → lv_has ls 8 [(1, .int x1), (3, .int x3), (4, .int x4), (5, .long x5), (7, .int x7)] → L_X8_recount_62 n X x1 x3 x4 x5 x7 = some ro → W p l e (rx 7 141 2) s m args below meth c H locs 2 12 (vx_MQ below (Dxl G ro M L) (XD G ro M L) args s 2 (6 * 2) (AB G)) (F0 m 62 ls []) := by
  intro n
  induction n with
  | zero =>
    intro X M L x1 x3 x4 x5 x7 H locs ls hw hl hf
    cases hf
  | succ n hk_62 =>
    intro X M L x1 x3 x4 x5 x7 H locs ls hw hl hf
    rw [L_X8_recount_62] at hf
    refine lv_iload C.1.1 C.1.2.1 dX8_recount_62 (lv_at hl 4 rfl) ?_
    refine lv_iload_n C.1.1 C.1.2.1 dX8_recount_64 rfl (lv_at hl 0 rfl) ?_
    refine lv_icmp_gt (tgt := 106) C.1.1 C.1.2.1 dX8_recount_65 (by decide) (fun c5 => ?_) (fun c5 => ?_)
    · have hf := o_t hf c5
      refine lv_lload C.1.1 C.1.2.1 dX8_recount_106 (lv_at hl 3 rfl) ?_
      refine lv_ldc2 (v := (16 : Int64)) C.1.1 C.1.2.1 C.1.2.2.2.1 (C.1.2.2.2.2 _ (tb5 227 rfl rfl)) dX8_recount_108 ?_
      refine lv_iload_n C.1.1 C.1.2.1 dX8_recount_111 rfl (lv_at hl 0 rfl) ?_
      obtain ⟨q6, h6, hf⟩ := o_bind hf
      refine aft_l hw (run_S C hw clX8_311 (As := [.long (16 : Int64), .int x1]) (rest := [.long x5]) (c_X8_power h6) hl.1 rfl ⟨(Nat.le_of_ble_eq_true rfl), (Nat.le_of_ble_eq_true rfl)⟩ ⟨Nat.le_of_ble_eq_true rfl, Nat.le_of_ble_eq_true rfl⟩ rfl (Nat.le_of_ble_eq_true rfl) dX8_recount_112) (fun H locs hw => ?_)
      refine lv_iload C.1.1 C.1.2.1 dX8_recount_115 (lv_at hl 2 rfl) ?_
      obtain ⟨q7, h7, hf⟩ := o_bind hf
      refine aft_l hw (run_S C hw clX8_289 (As := [.long x5, .long q6, .int x4]) (rest := []) (c_X8_leastTerm h7) hl.1 rfl ⟨(Nat.le_of_ble_eq_true rfl), (Nat.le_of_ble_eq_true rfl)⟩ ⟨Nat.le_of_ble_eq_true rfl, Nat.le_of_ble_eq_true rfl⟩ rfl (Nat.le_of_ble_eq_true rfl) dX8_recount_117) (fun H locs hw => ?_)
      exact retx_l C hr hlk hw (Option.some.inj hf).symm (Nat.le_of_ble_eq_true rfl) (Nat.le_of_ble_eq_true rfl) dX8_recount_120
    · have hf := o_f hf c5
      refine lv_lload C.1.1 C.1.2.1 dX8_recount_68 (lv_at hl 3 rfl) ?_
      refine lv_iload C.1.1 C.1.2.1 dX8_recount_70 (lv_at hl 4 rfl) ?_
      refine lv_iload_n C.1.1 C.1.2.1 dX8_recount_72 rfl (lv_at hl 0 rfl) ?_
      obtain ⟨q8, h8, hf⟩ := o_bind hf
      refine aft_l hw (run_S C hw clX8_307 (As := [.int x7, .int x1]) (rest := [.long x5]) (c_X8_waysToTake h8) hl.1 rfl ⟨(Nat.le_of_ble_eq_true rfl), (Nat.le_of_ble_eq_true rfl)⟩ ⟨Nat.le_of_ble_eq_true rfl, Nat.le_of_ble_eq_true rfl⟩ rfl (Nat.le_of_ble_eq_true rfl) dX8_recount_73) (fun H locs hw => ?_)
      refine lv_iload_n C.1.1 C.1.2.1 dX8_recount_76 rfl (lv_at hl 1 rfl) ?_
      refine lv_i2l (v := (Int32.toInt64 x3)) C.1.1 C.1.2.1 dX8_recount_77 rfl ?_
      refine lv_iload C.1.1 C.1.2.1 dX8_recount_78 (lv_at hl 4 rfl) ?_
      obtain ⟨q9, h9, hf⟩ := o_bind hf
      refine aft_l hw (run_S C hw clX8_311 (As := [.long (Int32.toInt64 x3), .int x7]) (rest := [.long q8, .long x5]) (c_X8_power h9) hl.1 rfl ⟨(Nat.le_of_ble_eq_true rfl), (Nat.le_of_ble_eq_true rfl)⟩ ⟨Nat.le_of_ble_eq_true rfl, Nat.le_of_ble_eq_true rfl⟩ rfl (Nat.le_of_ble_eq_true rfl) dX8_recount_80) (fun H locs hw => ?_)
      refine lv_lmul C.1.1 C.1.2.1 dX8_recount_83 ?_
      refine lv_bipush (v := (16 : Int32)) C.1.1 C.1.2.1 dX8_recount_84 rfl ?_
      refine lv_iload_n C.1.1 C.1.2.1 dX8_recount_86 rfl (lv_at hl 1 rfl) ?_
      refine lv_isub C.1.1 C.1.2.1 dX8_recount_87 ?_
      refine lv_i2l (v := (Int32.toInt64 ((16 : Int32) - x3))) C.1.1 C.1.2.1 dX8_recount_88 rfl ?_
      refine lv_iload_n C.1.1 C.1.2.1 dX8_recount_89 rfl (lv_at hl 0 rfl) ?_
      refine lv_iload C.1.1 C.1.2.1 dX8_recount_90 (lv_at hl 4 rfl) ?_
      refine lv_isub C.1.1 C.1.2.1 dX8_recount_92 ?_
      obtain ⟨q10, h10, hf⟩ := o_bind hf
      refine aft_l hw (run_S C hw clX8_311 (As := [.long (Int32.toInt64 ((16 : Int32) - x3)), .int (x1 - x7)]) (rest := [.long (q8 * q9), .long x5]) (c_X8_power h10) hl.1 rfl ⟨(Nat.le_of_ble_eq_true rfl), (Nat.le_of_ble_eq_true rfl)⟩ ⟨Nat.le_of_ble_eq_true rfl, Nat.le_of_ble_eq_true rfl⟩ rfl (Nat.le_of_ble_eq_true rfl) dX8_recount_93) (fun H locs hw => ?_)
      refine lv_lmul C.1.1 C.1.2.1 dX8_recount_96 ?_
      refine lv_ladd C.1.1 C.1.2.1 dX8_recount_97 ?_
      refine lv_lstore (lv' := [(5, .long (x5 + ((q8 * q9) * q10))), (1, .int x1), (3, .int x3), (4, .int x4), (7, .int x7)]) C.1.1 C.1.2.1 dX8_recount_98 hl (by decide) rfl (fun ls hl => ?_)
      refine lv_iinc (v := (x7 + (1 : Int32))) (lv' := [(7, .int (x7 + (1 : Int32))), (5, .long (x5 + ((q8 * q9) * q10))), (1, .int x1), (3, .int x3), (4, .int x4)]) C.1.1 C.1.2.1 dX8_recount_100 hl (k := 4) rfl rfl (by decide) rfl (fun ls hl => ?_)
      refine lv_goto (tgt := 62) C.1.1 C.1.2.1 dX8_recount_103 (by decide) ?_
      exact hk_62 X M L x1 x3 x4 (x5 + ((q8 * q9) * q10)) (x7 + (1 : Int32)) _ _ _ hw (lv_sub hl [2, 3, 4, 1, 0] rfl) hf
set_option maxRecDepth 20000 in
set_option maxHeartbeats 2000000 in
theorem wB_X8_recount_26 {p : Program} {e : Env} {s : State} {m : MethodId} {args : Array Value} {below : List Frame} {meth : Method} {c : Code} (C : Cx G p s m args c cX8_recount 8 RX8) (hr : meth.sig.returnType = (some .long)) (hlk : meth.locks = false) (hnt : ∀ x ∈ c.exceptionTable.toList, False) (hst : l.stackTraces = false) {ro : TX × (Int64 ⊕ Nat)} : ∀ (X : TX) (M : TX) (L : TL) (x1 : Int32) (x2 : Int32) (x3 : Int32) (x4 : Int32) (t0 : Int32) (H : Heap) (locs : List Loc) (ls : Array Slot), Wh G s X M L H locs → lv_has ls 8 [(0, .ref (gA G 0)), (1, .int x1), (2, .int x2), (3, .int x3), (4, .int x4)] → B_X8_recount_26 X x1 x2 x3 x4 t0 = some ro → W p l e (rx 7 141 2) s m args below meth c H locs 0 0 (vx_MQ below (Dxl G ro M L) (XD G ro M L) args s 2 (6 * 2) (AB G)) (F0 m 26 ls [.int t0, .ref (gA G 0)]) := by
  intro X M L x1 x2 x3 x4 t0 H locs ls hw hl hf
  unfold B_X8_recount_26 at hf
  obtain ⟨q2, h2, hf⟩ := o_bind hf
  refine aftx_v hw (runx_VX C hw clX8_158 (tb2 212 rfl rfl) (As := [.int t0]) (rest := []) oX_0 (c_X8_need hst h2) rfl hl.1 rfl ⟨(Nat.le_of_ble_eq_true rfl), (Nat.le_of_ble_eq_true rfl)⟩ ⟨Nat.le_of_ble_eq_true rfl, Nat.le_of_ble_eq_true rfl⟩ rfl (Nat.le_of_ble_eq_true rfl) dX8_recount_26) hf hnt hlk (Nat.le_of_ble_eq_true rfl) (Nat.le_of_ble_eq_true rfl) (fun hf H locs hw => ?_)
  refine lv_aload_n C.1.1 C.1.2.1 dX8_recount_29 rfl (lv_at hl 0 rfl) ?_
  refine lv_iload_n C.1.1 C.1.2.1 dX8_recount_30 rfl (lv_at hl 3 rfl) ?_
  refine lv_if_lt (tgt := 52) C.1.1 C.1.2.1 dX8_recount_31 (by decide) (fun c3 => ?_) (fun c3 => ?_)
  · have hf := o_t hf c3
    refine lv_iconst (v := (0 : Int32)) C.1.1 C.1.2.1 dX8_recount_52 rfl ?_
    obtain ⟨q4, h4, hf⟩ := o_bind hf
    refine aftx_v hw (runx_VX C hw clX8_158 (tb2 212 rfl rfl) (As := [.int (0 : Int32)]) (rest := []) oX_0 (c_X8_need hst h4) rfl hl.1 rfl ⟨(Nat.le_of_ble_eq_true rfl), (Nat.le_of_ble_eq_true rfl)⟩ ⟨Nat.le_of_ble_eq_true rfl, Nat.le_of_ble_eq_true rfl⟩ rfl (Nat.le_of_ble_eq_true rfl) dX8_recount_53) hf hnt hlk (Nat.le_of_ble_eq_true rfl) (Nat.le_of_ble_eq_true rfl) (fun hf H locs hw => ?_)
    refine lv_lconst (v := (0 : Int64)) C.1.1 C.1.2.1 dX8_recount_56 rfl ?_
    refine lv_lstore (lv' := [(5, .long (0 : Int64)), (0, .ref (gA G 0)), (1, .int x1), (2, .int x2), (3, .int x3), (4, .int x4)]) C.1.1 C.1.2.1 dX8_recount_57 hl (by decide) rfl (fun ls hl => ?_)
    refine lv_iload_n C.1.1 C.1.2.1 dX8_recount_59 rfl (lv_at hl 3 rfl) ?_
    refine lv_istore (lv' := [(7, .int x2), (5, .long (0 : Int64)), (0, .ref (gA G 0)), (1, .int x1), (2, .int x2), (3, .int x3), (4, .int x4)]) C.1.1 C.1.2.1 dX8_recount_60 hl (by decide) rfl (fun ls hl => ?_)
    exact wL_X8_recount_62 C hr hlk hnt hst FU q4.1 M L x1 x3 x4 (0 : Int64) x2 _ _ _ hw (lv_sub hl [3, 5, 6, 1, 0] rfl) hf
  · have hf := o_f hf c3
    refine lv_iload_n C.1.1 C.1.2.1 dX8_recount_34 rfl (lv_at hl 3 rfl) ?_
    refine lv_bipush (v := (16 : Int32)) C.1.1 C.1.2.1 dX8_recount_35 rfl ?_
    refine lv_icmp_gt (tgt := 52) C.1.1 C.1.2.1 dX8_recount_37 (by decide) (fun c11 => ?_) (fun c11 => ?_)
    · have hf := o_t hf c11
      refine lv_iconst (v := (0 : Int32)) C.1.1 C.1.2.1 dX8_recount_52 rfl ?_
      obtain ⟨q12, h12, hf⟩ := o_bind hf
      refine aftx_v hw (runx_VX C hw clX8_158 (tb2 212 rfl rfl) (As := [.int (0 : Int32)]) (rest := []) oX_0 (c_X8_need hst h12) rfl hl.1 rfl ⟨(Nat.le_of_ble_eq_true rfl), (Nat.le_of_ble_eq_true rfl)⟩ ⟨Nat.le_of_ble_eq_true rfl, Nat.le_of_ble_eq_true rfl⟩ rfl (Nat.le_of_ble_eq_true rfl) dX8_recount_53) hf hnt hlk (Nat.le_of_ble_eq_true rfl) (Nat.le_of_ble_eq_true rfl) (fun hf H locs hw => ?_)
      refine lv_lconst (v := (0 : Int64)) C.1.1 C.1.2.1 dX8_recount_56 rfl ?_
      refine lv_lstore (lv' := [(5, .long (0 : Int64)), (0, .ref (gA G 0)), (1, .int x1), (2, .int x2), (3, .int x3), (4, .int x4)]) C.1.1 C.1.2.1 dX8_recount_57 hl (by decide) rfl (fun ls hl => ?_)
      refine lv_iload_n C.1.1 C.1.2.1 dX8_recount_59 rfl (lv_at hl 3 rfl) ?_
      refine lv_istore (lv' := [(7, .int x2), (5, .long (0 : Int64)), (0, .ref (gA G 0)), (1, .int x1), (2, .int x2), (3, .int x3), (4, .int x4)]) C.1.1 C.1.2.1 dX8_recount_60 hl (by decide) rfl (fun ls hl => ?_)
      exact wL_X8_recount_62 C hr hlk hnt hst FU q12.1 M L x1 x3 x4 (0 : Int64) x2 _ _ _ hw (lv_sub hl [3, 5, 6, 1, 0] rfl) hf
    · have hf := o_f hf c11
      refine lv_iload C.1.1 C.1.2.1 dX8_recount_40 (lv_at hl 4 rfl) ?_
      obtain ⟨q13, h13, hf⟩ := o_bind hf
      refine aft_i hw (run_S C hw clX8_262 (As := [.int x4]) (rest := [.ref (gA G 0)]) (c_X8_isHalf h13) hl.1 rfl ⟨(Nat.le_of_ble_eq_true rfl), (Nat.le_of_ble_eq_true rfl)⟩ ⟨Nat.le_of_ble_eq_true rfl, Nat.le_of_ble_eq_true rfl⟩ rfl (Nat.le_of_ble_eq_true rfl) dX8_recount_42) (fun H locs hw => ?_)
      refine lv_if_eq (tgt := 52) C.1.1 C.1.2.1 dX8_recount_45 (by decide) (fun c14 => ?_) (fun c14 => ?_)
      · have hf := o_t hf c14
        refine lv_iconst (v := (0 : Int32)) C.1.1 C.1.2.1 dX8_recount_52 rfl ?_
        obtain ⟨q15, h15, hf⟩ := o_bind hf
        refine aftx_v hw (runx_VX C hw clX8_158 (tb2 212 rfl rfl) (As := [.int (0 : Int32)]) (rest := []) oX_0 (c_X8_need hst h15) rfl hl.1 rfl ⟨(Nat.le_of_ble_eq_true rfl), (Nat.le_of_ble_eq_true rfl)⟩ ⟨Nat.le_of_ble_eq_true rfl, Nat.le_of_ble_eq_true rfl⟩ rfl (Nat.le_of_ble_eq_true rfl) dX8_recount_53) hf hnt hlk (Nat.le_of_ble_eq_true rfl) (Nat.le_of_ble_eq_true rfl) (fun hf H locs hw => ?_)
        refine lv_lconst (v := (0 : Int64)) C.1.1 C.1.2.1 dX8_recount_56 rfl ?_
        refine lv_lstore (lv' := [(5, .long (0 : Int64)), (0, .ref (gA G 0)), (1, .int x1), (2, .int x2), (3, .int x3), (4, .int x4)]) C.1.1 C.1.2.1 dX8_recount_57 hl (by decide) rfl (fun ls hl => ?_)
        refine lv_iload_n C.1.1 C.1.2.1 dX8_recount_59 rfl (lv_at hl 3 rfl) ?_
        refine lv_istore (lv' := [(7, .int x2), (5, .long (0 : Int64)), (0, .ref (gA G 0)), (1, .int x1), (2, .int x2), (3, .int x3), (4, .int x4)]) C.1.1 C.1.2.1 dX8_recount_60 hl (by decide) rfl (fun ls hl => ?_)
        exact wL_X8_recount_62 C hr hlk hnt hst FU q15.1 M L x1 x3 x4 (0 : Int64) x2 _ _ _ hw (lv_sub hl [3, 5, 6, 1, 0] rfl) hf
      · have hf := o_f hf c14
        refine lv_iconst (v := (1 : Int32)) C.1.1 C.1.2.1 dX8_recount_48 rfl ?_
        refine lv_goto (tgt := 53) C.1.1 C.1.2.1 dX8_recount_49 (by decide) ?_
        obtain ⟨q16, h16, hf⟩ := o_bind hf
        refine aftx_v hw (runx_VX C hw clX8_158 (tb2 212 rfl rfl) (As := [.int (1 : Int32)]) (rest := []) oX_0 (c_X8_need hst h16) rfl hl.1 rfl ⟨(Nat.le_of_ble_eq_true rfl), (Nat.le_of_ble_eq_true rfl)⟩ ⟨Nat.le_of_ble_eq_true rfl, Nat.le_of_ble_eq_true rfl⟩ rfl (Nat.le_of_ble_eq_true rfl) dX8_recount_53) hf hnt hlk (Nat.le_of_ble_eq_true rfl) (Nat.le_of_ble_eq_true rfl) (fun hf H locs hw => ?_)
        refine lv_lconst (v := (0 : Int64)) C.1.1 C.1.2.1 dX8_recount_56 rfl ?_
        refine lv_lstore (lv' := [(5, .long (0 : Int64)), (0, .ref (gA G 0)), (1, .int x1), (2, .int x2), (3, .int x3), (4, .int x4)]) C.1.1 C.1.2.1 dX8_recount_57 hl (by decide) rfl (fun ls hl => ?_)
        refine lv_iload_n C.1.1 C.1.2.1 dX8_recount_59 rfl (lv_at hl 3 rfl) ?_
        refine lv_istore (lv' := [(7, .int x2), (5, .long (0 : Int64)), (0, .ref (gA G 0)), (1, .int x1), (2, .int x2), (3, .int x3), (4, .int x4)]) C.1.1 C.1.2.1 dX8_recount_60 hl (by decide) rfl (fun ls hl => ?_)
        exact wL_X8_recount_62 C hr hlk hnt hst FU q16.1 M L x1 x3 x4 (0 : Int64) x2 _ _ _ hw (lv_sub hl [3, 5, 6, 1, 0] rfl) hf
set_option maxRecDepth 20000 in
set_option maxHeartbeats 2000000 in
theorem c_X8_recount (hst : l.stackTraces = false)  {X M : TX} {L : TL} {x1 : Int32} {x2 : Int32} {x3 : Int32} {x4 : Int32} {ro : TX × (Int64 ⊕ Nat)} (hf : f_X8_recount X x1 x2 x3 x4 = some ro) : CXl G l yX8_recount cX8_recount 8 (some .long) 7 141 2 [.ref (gA G 0), .int x1, .int x2, .int x3, .int x4] X M L ro := by
  unfold f_X8_recount at hf
  refine cx_of (by decide +kernel) (Nat.le_of_ble_eq_true rfl) (fun p e s m args below meth c H locs ls C hr hlk hnt hw hl => ?_)
  have C : Cx G p s m args c cX8_recount 8 RX8 := C
  have hl : lv_has ls 8 [(0, .ref (gA G 0)), (1, .int x1), (2, .int x2), (3, .int x3), (4, .int x4)] := hl
  refine lv_aload_n C.1.1 C.1.2.1 dX8_recount_0 rfl (lv_at hl 0 rfl) ?_
  refine lv_iload_n C.1.1 C.1.2.1 dX8_recount_1 rfl (lv_at hl 1 rfl) ?_
  refine lv_if_lt (tgt := 25) C.1.1 C.1.2.1 dX8_recount_2 (by decide) (fun c1 => ?_) (fun c1 => ?_)
  · have hf := o_t hf c1
    refine lv_iconst (v := (0 : Int32)) C.1.1 C.1.2.1 dX8_recount_25 rfl ?_
    exact wB_X8_recount_26 C hr hlk hnt hst X M L x1 x2 x3 x4 (0 : Int32) _ _ _ hw (lv_sub hl [0, 1, 2, 3, 4] rfl) hf
  · have hf := o_f hf c1
    refine lv_iload_n C.1.1 C.1.2.1 dX8_recount_5 rfl (lv_at hl 1 rfl) ?_
    refine lv_bipush (v := (12 : Int32)) C.1.1 C.1.2.1 dX8_recount_6 rfl ?_
    refine lv_icmp_gt (tgt := 25) C.1.1 C.1.2.1 dX8_recount_8 (by decide) (fun c17 => ?_) (fun c17 => ?_)
    · have hf := o_t hf c17
      refine lv_iconst (v := (0 : Int32)) C.1.1 C.1.2.1 dX8_recount_25 rfl ?_
      exact wB_X8_recount_26 C hr hlk hnt hst X M L x1 x2 x3 x4 (0 : Int32) _ _ _ hw (lv_sub hl [0, 1, 2, 3, 4] rfl) hf
    · have hf := o_f hf c17
      refine lv_iload_n C.1.1 C.1.2.1 dX8_recount_11 rfl (lv_at hl 2 rfl) ?_
      refine lv_if_lt (tgt := 25) C.1.1 C.1.2.1 dX8_recount_12 (by decide) (fun c18 => ?_) (fun c18 => ?_)
      · have hf := o_t hf c18
        refine lv_iconst (v := (0 : Int32)) C.1.1 C.1.2.1 dX8_recount_25 rfl ?_
        exact wB_X8_recount_26 C hr hlk hnt hst X M L x1 x2 x3 x4 (0 : Int32) _ _ _ hw (lv_sub hl [0, 1, 2, 3, 4] rfl) hf
      · have hf := o_f hf c18
        refine lv_iload_n C.1.1 C.1.2.1 dX8_recount_15 rfl (lv_at hl 2 rfl) ?_
        refine lv_bipush (v := (13 : Int32)) C.1.1 C.1.2.1 dX8_recount_16 rfl ?_
        refine lv_icmp_gt (tgt := 25) C.1.1 C.1.2.1 dX8_recount_18 (by decide) (fun c19 => ?_) (fun c19 => ?_)
        · have hf := o_t hf c19
          refine lv_iconst (v := (0 : Int32)) C.1.1 C.1.2.1 dX8_recount_25 rfl ?_
          exact wB_X8_recount_26 C hr hlk hnt hst X M L x1 x2 x3 x4 (0 : Int32) _ _ _ hw (lv_sub hl [0, 1, 2, 3, 4] rfl) hf
        · have hf := o_f hf c19
          refine lv_iconst (v := (1 : Int32)) C.1.1 C.1.2.1 dX8_recount_21 rfl ?_
          refine lv_goto (tgt := 26) C.1.1 C.1.2.1 dX8_recount_22 (by decide) ?_
          exact wB_X8_recount_26 C hr hlk hnt hst X M L x1 x2 x3 x4 (1 : Int32) _ _ _ hw (lv_sub hl [0, 1, 2, 3, 4] rfl) hf
end
/-! WinnerDraws.smallest(I)I (('o', 'X', 0) ('i',)) -/
def L_X8_smallest_18 : Nat → TX → Int32 → Int32 → Int32 → Int32 → Int32 → Option (TX × (Int32 ⊕ Nat))
  | 0 => fun _ _ _ _ _ _ => none
  | n + 1 => fun X x1 x2 x3 x4 x5 => if (4 : Int32) ≤ x5 then (if x1 = 0 then (some (X, .inl x2)) else (if x2 = (-1 : Int32) then (some (X, .inl x2)) else (some (X, .inl (x4 - x3))))) else ((f_X3_membersOf X x5).bind fun q6 => if q6 = 0 then ((L_X8_smallest_18 n) X x1 x2 x3 x4 (x5 + (1 : Int32))) else ((f_X3_wardVotes X (0 : Int32) x5).bind fun q8 => (f_X3_wardVotes X (1 : Int32) x5).bind fun q9 => if x2 = (-1 : Int32) then ((L_X8_smallest_18 n) X x1 x5 (q8 + q9) (if x4 < (q8 + q9) then (q8 + q9) else x4) (x5 + (1 : Int32))) else (if x3 ≤ (q8 + q9) then ((L_X8_smallest_18 n) X x1 x2 x3 (if x4 < (q8 + q9) then (q8 + q9) else x4) (x5 + (1 : Int32))) else ((L_X8_smallest_18 n) X x1 x5 (q8 + q9) (if x4 < (q8 + q9) then (q8 + q9) else x4) (x5 + (1 : Int32))))))
def f_X8_smallest (X : TX) (x1 : Int32) : Option (TX × (Int32 ⊕ Nat)) := (f_X8_isHalf x1).bind fun q1 => (f_X8_need X q1).bind fun q2 => xb q2 (fun _ _ => L_X8_smallest_18 FU q2.1 x1 (-1 : Int32) (0 : Int32) (0 : Int32) (0 : Int32))
section
variable {G : GP} {l : Launch}
set_option maxRecDepth 20000 in
set_option maxHeartbeats 2000000 in
theorem wL_X8_smallest_18 {p : Program} {e : Env} {s : State} {m : MethodId} {args : Array Value} {below : List Frame} {meth : Method} {c : Code} (C : Cx G p s m args c cX8_smallest 7 RX8) (hr : meth.sig.returnType = (some .int)) (hlk : meth.locks = false) (hnt : ∀ x ∈ c.exceptionTable.toList, False) (hst : l.stackTraces = false) {ro : TX × (Int32 ⊕ Nat)} : ∀ (n : Nat), ∀ (X : TX) (M : TX) (L : TL) (x1 : Int32) (x2 : Int32) (x3 : Int32) (x4 : Int32) (x5 : Int32) (H : Heap) (locs : List Loc) (ls : Array Slot), Wh G s X M L H locs → lv_has ls 7 [(0, .ref (gA G 0)), (1, .int x1), (2, .int x2), (3, .int x3), (4, .int x4), (5, .int x5)] → L_X8_smallest_18 n X x1 x2 x3 x4 x5 = some ro → W p l e (rx 7 141 1) s m args below meth c H locs 1 6 (vx_MQ below (Dxi G ro M L) (XD G ro M L) args s 1 (6 * 1) (AB G)) (F0 m 18 ls []) := by
  intro n
  induction n with
  | zero =>
    intro X M L x1 x2 x3 x4 x5 H locs ls hw hl hf
    cases hf
  | succ n hk_18 =>
    intro X M L x1 x2 x3 x4 x5 H locs ls hw hl hf
    rw [L_X8_smallest_18] at hf
    refine lv_iload C.1.1 C.1.2.1 dX8_smallest_18 (lv_at hl 5 rfl) ?_
    refine lv_iconst (v := (4 : Int32)) C.1.1 C.1.2.1 dX8_smallest_20 rfl ?_
    refine lv_icmp_ge (tgt := 91) C.1.1 C.1.2.1 dX8_smallest_21 (by decide) (fun c3 => ?_) (fun c3 => ?_)
    · have hf := o_t hf c3
      refine lv_iload_n C.1.1 C.1.2.1 dX8_smallest_91 rfl (lv_at hl 1 rfl) ?_
      refine lv_if_eq (tgt := 100) C.1.1 C.1.2.1 dX8_smallest_92 (by decide) (fun c4 => ?_) (fun c4 => ?_)
      · have hf := o_t hf c4
        refine lv_iload_n C.1.1 C.1.2.1 dX8_smallest_100 rfl (lv_at hl 2 rfl) ?_
        exact retx_i C hr hlk hw (Option.some.inj hf).symm (Nat.le_of_ble_eq_true rfl) (Nat.le_of_ble_eq_true rfl) dX8_smallest_101
      · have hf := o_f hf c4
        refine lv_iload_n C.1.1 C.1.2.1 dX8_smallest_95 rfl (lv_at hl 2 rfl) ?_
        refine lv_iconst (v := (-1 : Int32)) C.1.1 C.1.2.1 dX8_smallest_96 rfl ?_
        refine lv_icmp_ne (tgt := 102) C.1.1 C.1.2.1 dX8_smallest_97 (by decide) (fun c5 => ?_) (fun c5 => ?_)
        · have hf := o_f hf c5
          refine lv_iload C.1.1 C.1.2.1 dX8_smallest_102 (lv_at hl 4 rfl) ?_
          refine lv_iload_n C.1.1 C.1.2.1 dX8_smallest_104 rfl (lv_at hl 3 rfl) ?_
          refine lv_isub C.1.1 C.1.2.1 dX8_smallest_105 ?_
          exact retx_i C hr hlk hw (Option.some.inj hf).symm (Nat.le_of_ble_eq_true rfl) (Nat.le_of_ble_eq_true rfl) dX8_smallest_106
        · have hf := o_t hf c5
          refine lv_iload_n C.1.1 C.1.2.1 dX8_smallest_100 rfl (lv_at hl 2 rfl) ?_
          exact retx_i C hr hlk hw (Option.some.inj hf).symm (Nat.le_of_ble_eq_true rfl) (Nat.le_of_ble_eq_true rfl) dX8_smallest_101
    · have hf := o_f hf c3
      refine lv_aload_n C.1.1 C.1.2.1 dX8_smallest_24 rfl (lv_at hl 0 rfl) ?_
      refine x_ref C hw fX_0_1 flX8_19 dX8_smallest_25 ?_
      refine lv_iload C.1.1 C.1.2.1 dX8_smallest_28 (lv_at hl 5 rfl) ?_
      obtain ⟨q6, h6, hf⟩ := o_bind hf
      refine aft_i hw (run_VX C hw clX8_207 (As := [.int x5]) (rest := []) oX_3 (c_X3_membersOf h6) rfl hl.1 rfl ⟨(Nat.le_of_ble_eq_true rfl), (Nat.le_of_ble_eq_true rfl)⟩ ⟨Nat.le_of_ble_eq_true rfl, Nat.le_of_ble_eq_true rfl⟩ rfl (Nat.le_of_ble_eq_true rfl) dX8_smallest_30) (fun H locs hw => ?_)
      refine lv_if_eq (tgt := 85) C.1.1 C.1.2.1 dX8_smallest_33 (by decide) (fun c7 => ?_) (fun c7 => ?_)
      · have hf := o_t hf c7
        refine lv_iinc (v := (x5 + (1 : Int32))) (lv' := [(5, .int (x5 + (1 : Int32))), (0, .ref (gA G 0)), (1, .int x1), (2, .int x2), (3, .int x3), (4, .int x4)]) C.1.1 C.1.2.1 dX8_smallest_85 hl (k := 5) rfl rfl (by decide) rfl (fun ls hl => ?_)
        refine lv_goto (tgt := 18) C.1.1 C.1.2.1 dX8_smallest_88 (by decide) ?_
        exact hk_18 X M L x1 x2 x3 x4 (x5 + (1 : Int32)) _ _ _ hw (lv_sub hl [1, 2, 3, 4, 5, 0] rfl) hf
      · have hf := o_f hf c7
        refine lv_aload_n C.1.1 C.1.2.1 dX8_smallest_36 rfl (lv_at hl 0 rfl) ?_
        refine x_ref C hw fX_0_1 flX8_19 dX8_smallest_37 ?_
        refine lv_iconst (v := (0 : Int32)) C.1.1 C.1.2.1 dX8_smallest_40 rfl ?_
        refine lv_iload C.1.1 C.1.2.1 dX8_smallest_41 (lv_at hl 5 rfl) ?_
        obtain ⟨q8, h8, hf⟩ := o_bind hf
        refine aft_i hw (run_VX C hw clX8_210 (As := [.int (0 : Int32), .int x5]) (rest := []) oX_3 (c_X3_wardVotes h8) rfl hl.1 rfl ⟨(Nat.le_of_ble_eq_true rfl), (Nat.le_of_ble_eq_true rfl)⟩ ⟨Nat.le_of_ble_eq_true rfl, Nat.le_of_ble_eq_true rfl⟩ rfl (Nat.le_of_ble_eq_true rfl) dX8_smallest_43) (fun H locs hw => ?_)
        refine lv_aload_n C.1.1 C.1.2.1 dX8_smallest_46 rfl (lv_at hl 0 rfl) ?_
        refine x_ref C hw fX_0_1 flX8_19 dX8_smallest_47 ?_
        refine lv_iconst (v := (1 : Int32)) C.1.1 C.1.2.1 dX8_smallest_50 rfl ?_
        refine lv_iload C.1.1 C.1.2.1 dX8_smallest_51 (lv_at hl 5 rfl) ?_
        obtain ⟨q9, h9, hf⟩ := o_bind hf
        refine aft_i hw (run_VX C hw clX8_210 (As := [.int (1 : Int32), .int x5]) (rest := [.int q8]) oX_3 (c_X3_wardVotes h9) rfl hl.1 rfl ⟨(Nat.le_of_ble_eq_true rfl), (Nat.le_of_ble_eq_true rfl)⟩ ⟨Nat.le_of_ble_eq_true rfl, Nat.le_of_ble_eq_true rfl⟩ rfl (Nat.le_of_ble_eq_true rfl) dX8_smallest_53) (fun H locs hw => ?_)
        refine lv_iadd C.1.1 C.1.2.1 dX8_smallest_56 ?_
        refine lv_istore (lv' := [(6, .int (q8 + q9)), (0, .ref (gA G 0)), (1, .int x1), (2, .int x2), (3, .int x3), (4, .int x4), (5, .int x5)]) C.1.1 C.1.2.1 dX8_smallest_57 hl (by decide) rfl (fun ls hl => ?_)
        refine lv_iload_n C.1.1 C.1.2.1 dX8_smallest_59 rfl (lv_at hl 3 rfl) ?_
        refine lv_iconst (v := (-1 : Int32)) C.1.1 C.1.2.1 dX8_smallest_60 rfl ?_
        refine lv_icmp_eq (tgt := 70) C.1.1 C.1.2.1 dX8_smallest_61 (by decide) (fun c10 => ?_) (fun c10 => ?_)
        · have hf := o_t hf c10
          refine lv_iload C.1.1 C.1.2.1 dX8_smallest_70 (lv_at hl 6 rfl) ?_
          refine lv_istore_n (lv' := [(2, .int x5), (6, .int (q8 + q9)), (0, .ref (gA G 0)), (1, .int x1), (3, .int x3), (4, .int x4), (5, .int x5)]) C.1.1 C.1.2.1 dX8_smallest_72 rfl hl (by decide) rfl (fun ls hl => ?_)
          refine lv_iload C.1.1 C.1.2.1 dX8_smallest_73 (lv_at hl 1 rfl) ?_
          refine lv_istore_n (lv' := [(3, .int (q8 + q9)), (2, .int x5), (6, .int (q8 + q9)), (0, .ref (gA G 0)), (1, .int x1), (4, .int x4), (5, .int x5)]) C.1.1 C.1.2.1 dX8_smallest_75 rfl hl (by decide) rfl (fun ls hl => ?_)
          refine lv_iload C.1.1 C.1.2.1 dX8_smallest_76 (lv_at hl 5 rfl) ?_
          refine lv_iload C.1.1 C.1.2.1 dX8_smallest_78 (lv_at hl 2 rfl) ?_
          refine x_max C clX8_317 (tb5 235 rfl rfl) hl.1 ⟨(Nat.le_of_ble_eq_true rfl), (Nat.le_of_ble_eq_true rfl)⟩ ⟨Nat.le_of_ble_eq_true rfl, Nat.le_of_ble_eq_true rfl⟩ dX8_smallest_80 ?_
          refine lv_istore (lv' := [(4, .int (if x4 < (q8 + q9) then (q8 + q9) else x4)), (3, .int (q8 + q9)), (2, .int x5), (6, .int (q8 + q9)), (0, .ref (gA G 0)), (1, .int x1), (5, .int x5)]) C.1.1 C.1.2.1 dX8_smallest_83 hl (by decide) rfl (fun ls hl => ?_)
          refine lv_iinc (v := (x5 + (1 : Int32))) (lv' := [(5, .int (x5 + (1 : Int32))), (4, .int (if x4 < (q8 + q9) then (q8 + q9) else x4)), (3, .int (q8 + q9)), (2, .int x5), (6, .int (q8 + q9)), (0, .ref (gA G 0)), (1, .int x1)]) C.1.1 C.1.2.1 dX8_smallest_85 hl (k := 6) rfl rfl (by decide) rfl (fun ls hl => ?_)
          refine lv_goto (tgt := 18) C.1.1 C.1.2.1 dX8_smallest_88 (by decide) ?_
          exact hk_18 X M L x1 x5 (q8 + q9) (if x4 < (q8 + q9) then (q8 + q9) else x4) (x5 + (1 : Int32)) _ _ _ hw (lv_sub hl [5, 6, 3, 2, 1, 0] rfl) hf
        · have hf := o_f hf c10
          refine lv_iload C.1.1 C.1.2.1 dX8_smallest_64 (lv_at hl 0 rfl) ?_
          refine lv_iload_n C.1.1 C.1.2.1 dX8_smallest_66 rfl (lv_at hl 4 rfl) ?_
          refine lv_icmp_ge (tgt := 76) C.1.1 C.1.2.1 dX8_smallest_67 (by decide) (fun c12 => ?_) (fun c12 => ?_)
          · have hf := o_t hf c12
            refine lv_iload C.1.1 C.1.2.1 dX8_smallest_76 (lv_at hl 5 rfl) ?_
            refine lv_iload C.1.1 C.1.2.1 dX8_smallest_78 (lv_at hl 0 rfl) ?_
            refine x_max C clX8_317 (tb5 235 rfl rfl) hl.1 ⟨(Nat.le_of_ble_eq_true rfl), (Nat.le_of_ble_eq_true rfl)⟩ ⟨Nat.le_of_ble_eq_true rfl, Nat.le_of_ble_eq_true rfl⟩ dX8_smallest_80 ?_
            refine lv_istore (lv' := [(4, .int (if x4 < (q8 + q9) then (q8 + q9) else x4)), (6, .int (q8 + q9)), (0, .ref (gA G 0)), (1, .int x1), (2, .int x2), (3, .int x3), (5, .int x5)]) C.1.1 C.1.2.1 dX8_smallest_83 hl (by decide) rfl (fun ls hl => ?_)
            refine lv_iinc (v := (x5 + (1 : Int32))) (lv' := [(5, .int (x5 + (1 : Int32))), (4, .int (if x4 < (q8 + q9) then (q8 + q9) else x4)), (6, .int (q8 + q9)), (0, .ref (gA G 0)), (1, .int x1), (2, .int x2), (3, .int x3)]) C.1.1 C.1.2.1 dX8_smallest_85 hl (k := 6) rfl rfl (by decide) rfl (fun ls hl => ?_)
            refine lv_goto (tgt := 18) C.1.1 C.1.2.1 dX8_smallest_88 (by decide) ?_
            exact hk_18 X M L x1 x2 x3 (if x4 < (q8 + q9) then (q8 + q9) else x4) (x5 + (1 : Int32)) _ _ _ hw (lv_sub hl [3, 4, 5, 6, 1, 0] rfl) hf
          · have hf := o_f hf c12
            refine lv_iload C.1.1 C.1.2.1 dX8_smallest_70 (lv_at hl 6 rfl) ?_
            refine lv_istore_n (lv' := [(2, .int x5), (6, .int (q8 + q9)), (0, .ref (gA G 0)), (1, .int x1), (3, .int x3), (4, .int x4), (5, .int x5)]) C.1.1 C.1.2.1 dX8_smallest_72 rfl hl (by decide) rfl (fun ls hl => ?_)
            refine lv_iload C.1.1 C.1.2.1 dX8_smallest_73 (lv_at hl 1 rfl) ?_
            refine lv_istore_n (lv' := [(3, .int (q8 + q9)), (2, .int x5), (6, .int (q8 + q9)), (0, .ref (gA G 0)), (1, .int x1), (4, .int x4), (5, .int x5)]) C.1.1 C.1.2.1 dX8_smallest_75 rfl hl (by decide) rfl (fun ls hl => ?_)
            refine lv_iload C.1.1 C.1.2.1 dX8_smallest_76 (lv_at hl 5 rfl) ?_
            refine lv_iload C.1.1 C.1.2.1 dX8_smallest_78 (lv_at hl 2 rfl) ?_
            refine x_max C clX8_317 (tb5 235 rfl rfl) hl.1 ⟨(Nat.le_of_ble_eq_true rfl), (Nat.le_of_ble_eq_true rfl)⟩ ⟨Nat.le_of_ble_eq_true rfl, Nat.le_of_ble_eq_true rfl⟩ dX8_smallest_80 ?_
            refine lv_istore (lv' := [(4, .int (if x4 < (q8 + q9) then (q8 + q9) else x4)), (3, .int (q8 + q9)), (2, .int x5), (6, .int (q8 + q9)), (0, .ref (gA G 0)), (1, .int x1), (5, .int x5)]) C.1.1 C.1.2.1 dX8_smallest_83 hl (by decide) rfl (fun ls hl => ?_)
            refine lv_iinc (v := (x5 + (1 : Int32))) (lv' := [(5, .int (x5 + (1 : Int32))), (4, .int (if x4 < (q8 + q9) then (q8 + q9) else x4)), (3, .int (q8 + q9)), (2, .int x5), (6, .int (q8 + q9)), (0, .ref (gA G 0)), (1, .int x1)]) C.1.1 C.1.2.1 dX8_smallest_85 hl (k := 6) rfl rfl (by decide) rfl (fun ls hl => ?_)
            refine lv_goto (tgt := 18) C.1.1 C.1.2.1 dX8_smallest_88 (by decide) ?_
            exact hk_18 X M L x1 x5 (q8 + q9) (if x4 < (q8 + q9) then (q8 + q9) else x4) (x5 + (1 : Int32)) _ _ _ hw (lv_sub hl [5, 6, 3, 2, 1, 0] rfl) hf
set_option maxRecDepth 20000 in
set_option maxHeartbeats 2000000 in
theorem c_X8_smallest (hst : l.stackTraces = false)  {X M : TX} {L : TL} {x1 : Int32} {ro : TX × (Int32 ⊕ Nat)} (hf : f_X8_smallest X x1 = some ro) : CXi G l yX8_smallest cX8_smallest 7 (some .int) 7 141 1 [.ref (gA G 0), .int x1] X M L ro := by
  unfold f_X8_smallest at hf
  refine cx_of (by decide +kernel) (Nat.le_of_ble_eq_true rfl) (fun p e s m args below meth c H locs ls C hr hlk hnt hw hl => ?_)
  have C : Cx G p s m args c cX8_smallest 7 RX8 := C
  have hl : lv_has ls 7 [(0, .ref (gA G 0)), (1, .int x1)] := hl
  refine lv_aload_n C.1.1 C.1.2.1 dX8_smallest_0 rfl (lv_at hl 0 rfl) ?_
  refine lv_iload_n C.1.1 C.1.2.1 dX8_smallest_1 rfl (lv_at hl 1 rfl) ?_
  obtain ⟨q1, h1, hf⟩ := o_bind hf
  refine aft_i hw (run_S C hw clX8_262 (As := [.int x1]) (rest := [.ref (gA G 0)]) (c_X8_isHalf h1) hl.1 rfl ⟨(Nat.le_of_ble_eq_true rfl), (Nat.le_of_ble_eq_true rfl)⟩ ⟨Nat.le_of_ble_eq_true rfl, Nat.le_of_ble_eq_true rfl⟩ rfl (Nat.le_of_ble_eq_true rfl) dX8_smallest_2) (fun H locs hw => ?_)
  obtain ⟨q2, h2, hf⟩ := o_bind hf
  refine aftx_v hw (runx_VX C hw clX8_158 (tb2 212 rfl rfl) (As := [.int q1]) (rest := []) oX_0 (c_X8_need hst h2) rfl hl.1 rfl ⟨(Nat.le_of_ble_eq_true rfl), (Nat.le_of_ble_eq_true rfl)⟩ ⟨Nat.le_of_ble_eq_true rfl, Nat.le_of_ble_eq_true rfl⟩ rfl (Nat.le_of_ble_eq_true rfl) dX8_smallest_5) hf hnt hlk (Nat.le_of_ble_eq_true rfl) (Nat.le_of_ble_eq_true rfl) (fun hf H locs hw => ?_)
  refine lv_iconst (v := (-1 : Int32)) C.1.1 C.1.2.1 dX8_smallest_8 rfl ?_
  refine lv_istore_n (lv' := [(2, .int (-1 : Int32)), (0, .ref (gA G 0)), (1, .int x1)]) C.1.1 C.1.2.1 dX8_smallest_9 rfl hl (by decide) rfl (fun ls hl => ?_)
  refine lv_iconst (v := (0 : Int32)) C.1.1 C.1.2.1 dX8_smallest_10 rfl ?_
  refine lv_istore_n (lv' := [(3, .int (0 : Int32)), (2, .int (-1 : Int32)), (0, .ref (gA G 0)), (1, .int x1)]) C.1.1 C.1.2.1 dX8_smallest_11 rfl hl (by decide) rfl (fun ls hl => ?_)
  refine lv_iconst (v := (0 : Int32)) C.1.1 C.1.2.1 dX8_smallest_12 rfl ?_
  refine lv_istore (lv' := [(4, .int (0 : Int32)), (3, .int (0 : Int32)), (2, .int (-1 : Int32)), (0, .ref (gA G 0)), (1, .int x1)]) C.1.1 C.1.2.1 dX8_smallest_13 hl (by decide) rfl (fun ls hl => ?_)
  refine lv_iconst (v := (0 : Int32)) C.1.1 C.1.2.1 dX8_smallest_15 rfl ?_
  refine lv_istore (lv' := [(5, .int (0 : Int32)), (4, .int (0 : Int32)), (3, .int (0 : Int32)), (2, .int (-1 : Int32)), (0, .ref (gA G 0)), (1, .int x1)]) C.1.1 C.1.2.1 dX8_smallest_16 hl (by decide) rfl (fun ls hl => ?_)
  exact wL_X8_smallest_18 C hr hlk hnt hst FU q2.1 M L x1 (-1 : Int32) (0 : Int32) (0 : Int32) (0 : Int32) _ _ _ hw (lv_sub hl [4, 5, 3, 2, 1, 0] rfl) hf
end
/-! WinnerDraws.closest(I)I (('o', 'X', 0) ('i',)) -/
def L_X8_closest_15 : Nat → TX → Int32 → Int32 → Int32 → Int32 → Option (TX × (Int32 ⊕ Nat))
  | 0 => fun _ _ _ _ _ => none
  | n + 1 => fun X x1 x2 x3 x4 => if (4 : Int32) ≤ x4 then (if x1 = 0 then (some (X, .inl x2)) else (some (X, .inl x3))) else ((f_X3_leadIn X x4).bind fun q5 => if (if 0 ≤ q5 then q5 else 0 - q5) ≤ 0 then ((L_X8_closest_15 n) X x1 x2 x3 (x4 + (1 : Int32))) else (if x2 = (-1 : Int32) then ((L_X8_closest_15 n) X x1 x4 (if 0 ≤ q5 then q5 else 0 - q5) (x4 + (1 : Int32))) else (if x3 ≤ (if 0 ≤ q5 then q5 else 0 - q5) then ((L_X8_closest_15 n) X x1 x2 x3 (x4 + (1 : Int32))) else ((L_X8_closest_15 n) X x1 x4 (if 0 ≤ q5 then q5 else 0 - q5) (x4 + (1 : Int32))))))
def f_X8_closest (X : TX) (x1 : Int32) : Option (TX × (Int32 ⊕ Nat)) := (f_X8_isHalf x1).bind fun q1 => (f_X8_need X q1).bind fun q2 => xb q2 (fun _ _ => L_X8_closest_15 FU q2.1 x1 (-1 : Int32) (-1 : Int32) (0 : Int32))
section
variable {G : GP} {l : Launch}
set_option maxRecDepth 20000 in
set_option maxHeartbeats 2000000 in
theorem wL_X8_closest_15 {p : Program} {e : Env} {s : State} {m : MethodId} {args : Array Value} {below : List Frame} {meth : Method} {c : Code} (C : Cx G p s m args c cX8_closest 6 RX8) (hr : meth.sig.returnType = (some .int)) (hlk : meth.locks = false) (hnt : ∀ x ∈ c.exceptionTable.toList, False) (hst : l.stackTraces = false) {ro : TX × (Int32 ⊕ Nat)} : ∀ (n : Nat), ∀ (X : TX) (M : TX) (L : TL) (x1 : Int32) (x2 : Int32) (x3 : Int32) (x4 : Int32) (H : Heap) (locs : List Loc) (ls : Array Slot), Wh G s X M L H locs → lv_has ls 6 [(0, .ref (gA G 0)), (1, .int x1), (2, .int x2), (3, .int x3), (4, .int x4)] → L_X8_closest_15 n X x1 x2 x3 x4 = some ro → W p l e (rx 7 141 1) s m args below meth c H locs 1 6 (vx_MQ below (Dxi G ro M L) (XD G ro M L) args s 1 (6 * 1) (AB G)) (F0 m 15 ls []) := by
  intro n
  induction n with
  | zero =>
    intro X M L x1 x2 x3 x4 H locs ls hw hl hf
    cases hf
  | succ n hk_15 =>
    intro X M L x1 x2 x3 x4 H locs ls hw hl hf
    rw [L_X8_closest_15] at hf
    refine lv_iload C.1.1 C.1.2.1 dX8_closest_15 (lv_at hl 4 rfl) ?_
    refine lv_iconst (v := (4 : Int32)) C.1.1 C.1.2.1 dX8_closest_17 rfl ?_
    refine lv_icmp_ge (tgt := 63) C.1.1 C.1.2.1 dX8_closest_18 (by decide) (fun c3 => ?_) (fun c3 => ?_)
    · have hf := o_t hf c3
      refine lv_iload_n C.1.1 C.1.2.1 dX8_closest_63 rfl (lv_at hl 1 rfl) ?_
      refine lv_if_ne (tgt := 71) C.1.1 C.1.2.1 dX8_closest_64 (by decide) (fun c4 => ?_) (fun c4 => ?_)
      · have hf := o_f hf c4
        refine lv_iload_n C.1.1 C.1.2.1 dX8_closest_71 rfl (lv_at hl 3 rfl) ?_
        exact retx_i C hr hlk hw (Option.some.inj hf).symm (Nat.le_of_ble_eq_true rfl) (Nat.le_of_ble_eq_true rfl) dX8_closest_72
      · have hf := o_t hf c4
        refine lv_iload_n C.1.1 C.1.2.1 dX8_closest_67 rfl (lv_at hl 2 rfl) ?_
        refine lv_goto (tgt := 72) C.1.1 C.1.2.1 dX8_closest_68 (by decide) ?_
        exact retx_i C hr hlk hw (Option.some.inj hf).symm (Nat.le_of_ble_eq_true rfl) (Nat.le_of_ble_eq_true rfl) dX8_closest_72
    · have hf := o_f hf c3
      refine lv_aload_n C.1.1 C.1.2.1 dX8_closest_21 rfl (lv_at hl 0 rfl) ?_
      refine x_ref C hw fX_0_1 flX8_19 dX8_closest_22 ?_
      refine lv_iload C.1.1 C.1.2.1 dX8_closest_25 (lv_at hl 4 rfl) ?_
      obtain ⟨q5, h5, hf⟩ := o_bind hf
      refine aft_i hw (run_VX C hw clX8_322 (As := [.int x4]) (rest := []) oX_3 (c_X3_leadIn h5) rfl hl.1 rfl ⟨(Nat.le_of_ble_eq_true rfl), (Nat.le_of_ble_eq_true rfl)⟩ ⟨Nat.le_of_ble_eq_true rfl, Nat.le_of_ble_eq_true rfl⟩ rfl (Nat.le_of_ble_eq_true rfl) dX8_closest_27) (fun H locs hw => ?_)
      refine x_abs C clX8_325 (tb6 4 rfl rfl) hl.1 ⟨(Nat.le_of_ble_eq_true rfl), (Nat.le_of_ble_eq_true rfl)⟩ ⟨Nat.le_of_ble_eq_true rfl, Nat.le_of_ble_eq_true rfl⟩ dX8_closest_30 ?_
      refine lv_istore (lv' := [(5, .int (if 0 ≤ q5 then q5 else 0 - q5)), (0, .ref (gA G 0)), (1, .int x1), (2, .int x2), (3, .int x3), (4, .int x4)]) C.1.1 C.1.2.1 dX8_closest_33 hl (by decide) rfl (fun ls hl => ?_)
      refine lv_iload C.1.1 C.1.2.1 dX8_closest_35 (lv_at hl 0 rfl) ?_
      refine lv_if_le (tgt := 57) C.1.1 C.1.2.1 dX8_closest_37 (by decide) (fun c7 => ?_) (fun c7 => ?_)
      · have hf := o_t hf c7
        refine lv_iinc (v := (x4 + (1 : Int32))) (lv' := [(4, .int (x4 + (1 : Int32))), (5, .int (if 0 ≤ q5 then q5 else 0 - q5)), (0, .ref (gA G 0)), (1, .int x1), (2, .int x2), (3, .int x3)]) C.1.1 C.1.2.1 dX8_closest_57 hl (k := 5) rfl rfl (by decide) rfl (fun ls hl => ?_)
        refine lv_goto (tgt := 15) C.1.1 C.1.2.1 dX8_closest_60 (by decide) ?_
        exact hk_15 X M L x1 x2 x3 (x4 + (1 : Int32)) _ _ _ hw (lv_sub hl [2, 3, 4, 5, 0] rfl) hf
      · have hf := o_f hf c7
        refine lv_iload_n C.1.1 C.1.2.1 dX8_closest_40 rfl (lv_at hl 3 rfl) ?_
        refine lv_iconst (v := (-1 : Int32)) C.1.1 C.1.2.1 dX8_closest_41 rfl ?_
        refine lv_icmp_eq (tgt := 51) C.1.1 C.1.2.1 dX8_closest_42 (by decide) (fun c8 => ?_) (fun c8 => ?_)
        · have hf := o_t hf c8
          refine lv_iload C.1.1 C.1.2.1 dX8_closest_51 (lv_at hl 5 rfl) ?_
          refine lv_istore_n (lv' := [(2, .int x4), (5, .int (if 0 ≤ q5 then q5 else 0 - q5)), (0, .ref (gA G 0)), (1, .int x1), (3, .int x3), (4, .int x4)]) C.1.1 C.1.2.1 dX8_closest_53 rfl hl (by decide) rfl (fun ls hl => ?_)
          refine lv_iload C.1.1 C.1.2.1 dX8_closest_54 (lv_at hl 1 rfl) ?_
          refine lv_istore_n (lv' := [(3, .int (if 0 ≤ q5 then q5 else 0 - q5)), (2, .int x4), (5, .int (if 0 ≤ q5 then q5 else 0 - q5)), (0, .ref (gA G 0)), (1, .int x1), (4, .int x4)]) C.1.1 C.1.2.1 dX8_closest_56 rfl hl (by decide) rfl (fun ls hl => ?_)
          refine lv_iinc (v := (x4 + (1 : Int32))) (lv' := [(4, .int (x4 + (1 : Int32))), (3, .int (if 0 ≤ q5 then q5 else 0 - q5)), (2, .int x4), (5, .int (if 0 ≤ q5 then q5 else 0 - q5)), (0, .ref (gA G 0)), (1, .int x1)]) C.1.1 C.1.2.1 dX8_closest_57 hl (k := 5) rfl rfl (by decide) rfl (fun ls hl => ?_)
          refine lv_goto (tgt := 15) C.1.1 C.1.2.1 dX8_closest_60 (by decide) ?_
          exact hk_15 X M L x1 x4 (if 0 ≤ q5 then q5 else 0 - q5) (x4 + (1 : Int32)) _ _ _ hw (lv_sub hl [4, 5, 2, 1, 0] rfl) hf
        · have hf := o_f hf c8
          refine lv_iload C.1.1 C.1.2.1 dX8_closest_45 (lv_at hl 0 rfl) ?_
          refine lv_iload_n C.1.1 C.1.2.1 dX8_closest_47 rfl (lv_at hl 4 rfl) ?_
          refine lv_icmp_ge (tgt := 57) C.1.1 C.1.2.1 dX8_closest_48 (by decide) (fun c9 => ?_) (fun c9 => ?_)
          · have hf := o_t hf c9
            refine lv_iinc (v := (x4 + (1 : Int32))) (lv' := [(4, .int (x4 + (1 : Int32))), (5, .int (if 0 ≤ q5 then q5 else 0 - q5)), (0, .ref (gA G 0)), (1, .int x1), (2, .int x2), (3, .int x3)]) C.1.1 C.1.2.1 dX8_closest_57 hl (k := 5) rfl rfl (by decide) rfl (fun ls hl => ?_)
            refine lv_goto (tgt := 15) C.1.1 C.1.2.1 dX8_closest_60 (by decide) ?_
            exact hk_15 X M L x1 x2 x3 (x4 + (1 : Int32)) _ _ _ hw (lv_sub hl [2, 3, 4, 5, 0] rfl) hf
          · have hf := o_f hf c9
            refine lv_iload C.1.1 C.1.2.1 dX8_closest_51 (lv_at hl 5 rfl) ?_
            refine lv_istore_n (lv' := [(2, .int x4), (5, .int (if 0 ≤ q5 then q5 else 0 - q5)), (0, .ref (gA G 0)), (1, .int x1), (3, .int x3), (4, .int x4)]) C.1.1 C.1.2.1 dX8_closest_53 rfl hl (by decide) rfl (fun ls hl => ?_)
            refine lv_iload C.1.1 C.1.2.1 dX8_closest_54 (lv_at hl 1 rfl) ?_
            refine lv_istore_n (lv' := [(3, .int (if 0 ≤ q5 then q5 else 0 - q5)), (2, .int x4), (5, .int (if 0 ≤ q5 then q5 else 0 - q5)), (0, .ref (gA G 0)), (1, .int x1), (4, .int x4)]) C.1.1 C.1.2.1 dX8_closest_56 rfl hl (by decide) rfl (fun ls hl => ?_)
            refine lv_iinc (v := (x4 + (1 : Int32))) (lv' := [(4, .int (x4 + (1 : Int32))), (3, .int (if 0 ≤ q5 then q5 else 0 - q5)), (2, .int x4), (5, .int (if 0 ≤ q5 then q5 else 0 - q5)), (0, .ref (gA G 0)), (1, .int x1)]) C.1.1 C.1.2.1 dX8_closest_57 hl (k := 5) rfl rfl (by decide) rfl (fun ls hl => ?_)
            refine lv_goto (tgt := 15) C.1.1 C.1.2.1 dX8_closest_60 (by decide) ?_
            exact hk_15 X M L x1 x4 (if 0 ≤ q5 then q5 else 0 - q5) (x4 + (1 : Int32)) _ _ _ hw (lv_sub hl [4, 5, 2, 1, 0] rfl) hf
set_option maxRecDepth 20000 in
set_option maxHeartbeats 2000000 in
theorem c_X8_closest (hst : l.stackTraces = false)  {X M : TX} {L : TL} {x1 : Int32} {ro : TX × (Int32 ⊕ Nat)} (hf : f_X8_closest X x1 = some ro) : CXi G l yX8_closest cX8_closest 6 (some .int) 7 141 1 [.ref (gA G 0), .int x1] X M L ro := by
  unfold f_X8_closest at hf
  refine cx_of (by decide +kernel) (Nat.le_of_ble_eq_true rfl) (fun p e s m args below meth c H locs ls C hr hlk hnt hw hl => ?_)
  have C : Cx G p s m args c cX8_closest 6 RX8 := C
  have hl : lv_has ls 6 [(0, .ref (gA G 0)), (1, .int x1)] := hl
  refine lv_aload_n C.1.1 C.1.2.1 dX8_closest_0 rfl (lv_at hl 0 rfl) ?_
  refine lv_iload_n C.1.1 C.1.2.1 dX8_closest_1 rfl (lv_at hl 1 rfl) ?_
  obtain ⟨q1, h1, hf⟩ := o_bind hf
  refine aft_i hw (run_S C hw clX8_262 (As := [.int x1]) (rest := [.ref (gA G 0)]) (c_X8_isHalf h1) hl.1 rfl ⟨(Nat.le_of_ble_eq_true rfl), (Nat.le_of_ble_eq_true rfl)⟩ ⟨Nat.le_of_ble_eq_true rfl, Nat.le_of_ble_eq_true rfl⟩ rfl (Nat.le_of_ble_eq_true rfl) dX8_closest_2) (fun H locs hw => ?_)
  obtain ⟨q2, h2, hf⟩ := o_bind hf
  refine aftx_v hw (runx_VX C hw clX8_158 (tb2 212 rfl rfl) (As := [.int q1]) (rest := []) oX_0 (c_X8_need hst h2) rfl hl.1 rfl ⟨(Nat.le_of_ble_eq_true rfl), (Nat.le_of_ble_eq_true rfl)⟩ ⟨Nat.le_of_ble_eq_true rfl, Nat.le_of_ble_eq_true rfl⟩ rfl (Nat.le_of_ble_eq_true rfl) dX8_closest_5) hf hnt hlk (Nat.le_of_ble_eq_true rfl) (Nat.le_of_ble_eq_true rfl) (fun hf H locs hw => ?_)
  refine lv_iconst (v := (-1 : Int32)) C.1.1 C.1.2.1 dX8_closest_8 rfl ?_
  refine lv_istore_n (lv' := [(2, .int (-1 : Int32)), (0, .ref (gA G 0)), (1, .int x1)]) C.1.1 C.1.2.1 dX8_closest_9 rfl hl (by decide) rfl (fun ls hl => ?_)
  refine lv_iconst (v := (-1 : Int32)) C.1.1 C.1.2.1 dX8_closest_10 rfl ?_
  refine lv_istore_n (lv' := [(3, .int (-1 : Int32)), (2, .int (-1 : Int32)), (0, .ref (gA G 0)), (1, .int x1)]) C.1.1 C.1.2.1 dX8_closest_11 rfl hl (by decide) rfl (fun ls hl => ?_)
  refine lv_iconst (v := (0 : Int32)) C.1.1 C.1.2.1 dX8_closest_12 rfl ?_
  refine lv_istore (lv' := [(4, .int (0 : Int32)), (3, .int (-1 : Int32)), (2, .int (-1 : Int32)), (0, .ref (gA G 0)), (1, .int x1)]) C.1.1 C.1.2.1 dX8_closest_13 hl (by decide) rfl (fun ls hl => ?_)
  exact wL_X8_closest_15 C hr hlk hnt hst FU q2.1 M L x1 (-1 : Int32) (-1 : Int32) (0 : Int32) _ _ _ hw (lv_sub hl [3, 4, 2, 1, 0] rfl) hf
end
/-! WinnerDraws.border()I (('o', 'X', 0)) -/
def L_X8_border_4 : Nat → TX → Int32 → Int32 → Option (Int32)
  | 0 => fun _ _ _ => none
  | n + 1 => fun X x1 x2 => if (X 3 5) ≤ x2 then (some x1) else ((f_X3_roadsOverLine X x2).bind fun q2 => if q2 = 0 then ((L_X8_border_4 n) X x1 (x2 + (1 : Int32))) else ((L_X8_border_4 n) X (x1 ||| ((1 : Int32) <<< (x2 &&& 31))) (x2 + (1 : Int32))))
def f_X8_border (X : TX) : Option (Int32) := L_X8_border_4 FU X (0 : Int32) (0 : Int32)
section
variable {G : GP} {l : Launch}
set_option maxRecDepth 20000 in
set_option maxHeartbeats 2000000 in
theorem wL_X8_border_4 {p : Program} {e : Env} {s : State} {m : MethodId} {args : Array Value} {below : List Frame} {meth : Method} {c : Code} (C : Cx G p s m args c cX8_border 3 RX8) (hr : meth.sig.returnType = (some .int)) (hlk : meth.locks = false) {ro : Int32} : ∀ (n : Nat), ∀ (X : TX) (M : TX) (L : TL) (x1 : Int32) (x2 : Int32) (H : Heap) (locs : List Loc) (ls : Array Slot), Wh G s X M L H locs → lv_has ls 3 [(0, .ref (gA G 0)), (1, .int x1), (2, .int x2)] → L_X8_border_4 n X x1 x2 = some ro → W p l e (rz 2 42) s m args below meth c H locs 0 0 (MQ below (Di G X M L ro) args s 0 0 (AB G)) (F0 m 4 ls []) := by
  intro n
  induction n with
  | zero =>
    intro X M L x1 x2 H locs ls hw hl hf
    cases hf
  | succ n hk_4 =>
    intro X M L x1 x2 H locs ls hw hl hf
    rw [L_X8_border_4] at hf
    refine lv_iload_n C.1.1 C.1.2.1 dX8_border_4 rfl (lv_at hl 2 rfl) ?_
    refine lv_aload_n C.1.1 C.1.2.1 dX8_border_5 rfl (lv_at hl 0 rfl) ?_
    refine x_ref C hw fX_0_1 flX8_19 dX8_border_6 ?_
    refine x_get C hw iX_3_5 flX8_112 dX8_border_9 ?_
    refine lv_icmp_ge (tgt := 38) C.1.1 C.1.2.1 dX8_border_12 (by decide) (fun c1 => ?_) (fun c1 => ?_)
    · have hf := o_t hf c1
      refine lv_iload_n C.1.1 C.1.2.1 dX8_border_38 rfl (lv_at hl 1 rfl) ?_
      obtain rfl := Option.some.inj hf
      exact ret_i C hr hlk hw dX8_border_39
    · have hf := o_f hf c1
      refine lv_aload_n C.1.1 C.1.2.1 dX8_border_15 rfl (lv_at hl 0 rfl) ?_
      refine x_ref C hw fX_0_1 flX8_19 dX8_border_16 ?_
      refine lv_iload_n C.1.1 C.1.2.1 dX8_border_19 rfl (lv_at hl 2 rfl) ?_
      obtain ⟨q2, h2, hf⟩ := o_bind hf
      refine aft_i hw (run_VX C hw clX8_328 (As := [.int x2]) (rest := []) oX_3 (c_X3_roadsOverLine h2) rfl hl.1 rfl ⟨(Nat.le_of_ble_eq_true rfl), (Nat.le_of_ble_eq_true rfl)⟩ ⟨Nat.zero_le _, Nat.zero_le _⟩ rfl (Nat.le_of_ble_eq_true rfl) dX8_border_20) (fun H locs hw => ?_)
      refine lv_if_eq (tgt := 32) C.1.1 C.1.2.1 dX8_border_23 (by decide) (fun c3 => ?_) (fun c3 => ?_)
      · have hf := o_t hf c3
        refine lv_iinc (v := (x2 + (1 : Int32))) (lv' := [(2, .int (x2 + (1 : Int32))), (0, .ref (gA G 0)), (1, .int x1)]) C.1.1 C.1.2.1 dX8_border_32 hl (k := 2) rfl rfl (by decide) rfl (fun ls hl => ?_)
        refine lv_goto (tgt := 4) C.1.1 C.1.2.1 dX8_border_35 (by decide) ?_
        exact hk_4 X M L x1 (x2 + (1 : Int32)) _ _ _ hw (lv_sub hl [1, 2, 0] rfl) hf
      · have hf := o_f hf c3
        refine lv_iload_n C.1.1 C.1.2.1 dX8_border_26 rfl (lv_at hl 1 rfl) ?_
        refine lv_iconst (v := (1 : Int32)) C.1.1 C.1.2.1 dX8_border_27 rfl ?_
        refine lv_iload_n C.1.1 C.1.2.1 dX8_border_28 rfl (lv_at hl 2 rfl) ?_
        refine lv_ishl C.1.1 C.1.2.1 dX8_border_29 ?_
        refine lv_ior C.1.1 C.1.2.1 dX8_border_30 ?_
        refine lv_istore_n (lv' := [(1, .int (x1 ||| ((1 : Int32) <<< (x2 &&& 31)))), (0, .ref (gA G 0)), (2, .int x2)]) C.1.1 C.1.2.1 dX8_border_31 rfl hl (by decide) rfl (fun ls hl => ?_)
        refine lv_iinc (v := (x2 + (1 : Int32))) (lv' := [(2, .int (x2 + (1 : Int32))), (1, .int (x1 ||| ((1 : Int32) <<< (x2 &&& 31)))), (0, .ref (gA G 0))]) C.1.1 C.1.2.1 dX8_border_32 hl (k := 2) rfl rfl (by decide) rfl (fun ls hl => ?_)
        refine lv_goto (tgt := 4) C.1.1 C.1.2.1 dX8_border_35 (by decide) ?_
        exact hk_4 X M L (x1 ||| ((1 : Int32) <<< (x2 &&& 31))) (x2 + (1 : Int32)) _ _ _ hw (lv_sub hl [2, 1, 0] rfl) hf
set_option maxRecDepth 20000 in
set_option maxHeartbeats 2000000 in
theorem c_X8_border   {X M : TX} {L : TL}  {ro : Int32} (hf : f_X8_border X = some ro) : CTi G l yX8_border cX8_border 3 (some .int) 2 42 [.ref (gA G 0)] X M L X M L ro := by
  unfold f_X8_border at hf
  refine ct_of (by decide +kernel) (Nat.le_of_ble_eq_true rfl) (fun p e s m args below meth c H locs ls C hr hlk hw hl => ?_)
  have C : Cx G p s m args c cX8_border 3 RX8 := C
  have hl : lv_has ls 3 [(0, .ref (gA G 0))] := hl
  refine lv_iconst (v := (0 : Int32)) C.1.1 C.1.2.1 dX8_border_0 rfl ?_
  refine lv_istore_n (lv' := [(1, .int (0 : Int32)), (0, .ref (gA G 0))]) C.1.1 C.1.2.1 dX8_border_1 rfl hl (by decide) rfl (fun ls hl => ?_)
  refine lv_iconst (v := (0 : Int32)) C.1.1 C.1.2.1 dX8_border_2 rfl ?_
  refine lv_istore_n (lv' := [(2, .int (0 : Int32)), (1, .int (0 : Int32)), (0, .ref (gA G 0))]) C.1.1 C.1.2.1 dX8_border_3 rfl hl (by decide) rfl (fun ls hl => ?_)
  exact wL_X8_border_4 C hr hlk FU X M L (0 : Int32) (0 : Int32) _ _ _ hw (lv_sub hl [2, 1, 0] rfl) hf
end
