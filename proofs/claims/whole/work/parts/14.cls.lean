/-! WinnerDraws$County.elect()V (('o', 'X', 3)) -/
def B_X3_elect_48 (X : TX) (x1 : Int32) : Option (TX) := if (X 3 9) = (-1 : Int32) then (some (u2 (u2 X 3 10 (0 : Int32)) 3 8 (((u2 X 3 10 (0 : Int32)) 3 8) + (1 : Int32)))) else (if (X 3 9) = x1 then (some (u2 (u2 X 3 10 ((X 3 10) + (1 : Int32))) 3 8 (((u2 X 3 10 ((X 3 10) + (1 : Int32))) 3 8) + (1 : Int32)))) else (some (u2 (u2 X 3 10 (1 : Int32)) 3 8 (((u2 X 3 10 (1 : Int32)) 3 8) + (1 : Int32)))))
def f_X3_elect (X : TX) : Option (TX) := (f_X3_comeTide X).bind fun q1 => (f_X3_margin q1 (0 : Int32)).bind fun q2 => if q2 = 0 then ((f_X3_allVotes q1 (0 : Int32)).bind fun q8 => (f_X3_allVotes q1 (1 : Int32)).bind fun q9 => if (q8 - q9) = 0 then (B_X3_elect_48 q1 (q1 3 9)) else (if (q8 - q9) ≤ 0 then (B_X3_elect_48 (u2 q1 3 9 (1 : Int32)) (q1 3 9)) else (B_X3_elect_48 (u2 q1 3 9 (0 : Int32)) (q1 3 9)))) else (if q2 = 0 then (B_X3_elect_48 q1 (q1 3 9)) else (if q2 ≤ 0 then (B_X3_elect_48 (u2 q1 3 9 (1 : Int32)) (q1 3 9)) else (B_X3_elect_48 (u2 q1 3 9 (0 : Int32)) (q1 3 9))))
section
variable {G : GP} {l : Launch}
set_option maxRecDepth 20000 in
set_option maxHeartbeats 2000000 in
theorem wB_X3_elect_48 {p : Program} {e : Env} {s : State} {m : MethodId} {args : Array Value} {below : List Frame} {meth : Method} {c : Code} (C : Cx G p s m args c cX3_elect 3 RX3) (hr : meth.sig.returnType = none) (hlk : meth.locks = false) {ro : TX} : ∀ (X : TX) (M : TX) (L : TL) (x1 : Int32) (H : Heap) (locs : List Loc) (ls : Array Slot), Wh G s X M L H locs → lv_has ls 3 [(0, .ref (gA G 3)), (1, .int x1)] → B_X3_elect_48 X x1 = some ro → W p l e (rz 3 69) s m args below meth c H locs 0 0 (MQ below (Dv G ro M L) args s 0 0 (AB G)) (F0 m 48 ls []) := by
  intro X M L x1 H locs ls hw hl hf
  unfold B_X3_elect_48 at hf
  refine lv_aload_n C.1.1 C.1.2.1 dX3_elect_48 rfl (lv_at hl 0 rfl) ?_
  refine x_get C hw iX_3_9 flX3_31 dX3_elect_49 ?_
  refine lv_iconst (v := (-1 : Int32)) C.1.1 C.1.2.1 dX3_elect_52 rfl ?_
  refine lv_icmp_ne (tgt := 64) C.1.1 C.1.2.1 dX3_elect_53 (by decide) (fun c5 => ?_) (fun c5 => ?_)
  · have hf := o_f hf c5
    refine lv_aload_n C.1.1 C.1.2.1 dX3_elect_64 rfl (lv_at hl 0 rfl) ?_
    refine lv_aload_n C.1.1 C.1.2.1 dX3_elect_65 rfl (lv_at hl 0 rfl) ?_
    refine x_get C hw iX_3_9 flX3_31 dX3_elect_66 ?_
    refine lv_iload_n C.1.1 C.1.2.1 dX3_elect_69 rfl (lv_at hl 1 rfl) ?_
    refine lv_icmp_ne (tgt := 82) C.1.1 C.1.2.1 dX3_elect_70 (by decide) (fun c6 => ?_) (fun c6 => ?_)
    · have hf := o_f hf c6
      refine lv_iconst (v := (1 : Int32)) C.1.1 C.1.2.1 dX3_elect_82 rfl ?_
      refine x_put C hw iX_3_10 flX3_53 dX3_elect_83 (fun H locs hw => ?_)
      refine lv_aload_n C.1.1 C.1.2.1 dX3_elect_86 rfl (lv_at hl 0 rfl) ?_
      refine lv_dup C.1.1 C.1.2.1 dX3_elect_87 rfl ?_
      refine x_get C hw iX_3_8 flX3_50 dX3_elect_88 ?_
      refine lv_iconst (v := (1 : Int32)) C.1.1 C.1.2.1 dX3_elect_91 rfl ?_
      refine lv_iadd C.1.1 C.1.2.1 dX3_elect_92 ?_
      refine x_put C hw iX_3_8 flX3_50 dX3_elect_93 (fun H locs hw => ?_)
      obtain rfl := Option.some.inj hf
      exact ret_v C hr hlk hw dX3_elect_96
    · have hf := o_t hf c6
      refine lv_aload_n C.1.1 C.1.2.1 dX3_elect_73 rfl (lv_at hl 0 rfl) ?_
      refine x_get C hw iX_3_10 flX3_53 dX3_elect_74 ?_
      refine lv_iconst (v := (1 : Int32)) C.1.1 C.1.2.1 dX3_elect_77 rfl ?_
      refine lv_iadd C.1.1 C.1.2.1 dX3_elect_78 ?_
      refine lv_goto (tgt := 83) C.1.1 C.1.2.1 dX3_elect_79 (by decide) ?_
      refine x_put C hw iX_3_10 flX3_53 dX3_elect_83 (fun H locs hw => ?_)
      refine lv_aload_n C.1.1 C.1.2.1 dX3_elect_86 rfl (lv_at hl 0 rfl) ?_
      refine lv_dup C.1.1 C.1.2.1 dX3_elect_87 rfl ?_
      refine x_get C hw iX_3_8 flX3_50 dX3_elect_88 ?_
      refine lv_iconst (v := (1 : Int32)) C.1.1 C.1.2.1 dX3_elect_91 rfl ?_
      refine lv_iadd C.1.1 C.1.2.1 dX3_elect_92 ?_
      refine x_put C hw iX_3_8 flX3_50 dX3_elect_93 (fun H locs hw => ?_)
      obtain rfl := Option.some.inj hf
      exact ret_v C hr hlk hw dX3_elect_96
  · have hf := o_t hf c5
    refine lv_aload_n C.1.1 C.1.2.1 dX3_elect_56 rfl (lv_at hl 0 rfl) ?_
    refine lv_iconst (v := (0 : Int32)) C.1.1 C.1.2.1 dX3_elect_57 rfl ?_
    refine x_put C hw iX_3_10 flX3_53 dX3_elect_58 (fun H locs hw => ?_)
    refine lv_goto (tgt := 86) C.1.1 C.1.2.1 dX3_elect_61 (by decide) ?_
    refine lv_aload_n C.1.1 C.1.2.1 dX3_elect_86 rfl (lv_at hl 0 rfl) ?_
    refine lv_dup C.1.1 C.1.2.1 dX3_elect_87 rfl ?_
    refine x_get C hw iX_3_8 flX3_50 dX3_elect_88 ?_
    refine lv_iconst (v := (1 : Int32)) C.1.1 C.1.2.1 dX3_elect_91 rfl ?_
    refine lv_iadd C.1.1 C.1.2.1 dX3_elect_92 ?_
    refine x_put C hw iX_3_8 flX3_50 dX3_elect_93 (fun H locs hw => ?_)
    obtain rfl := Option.some.inj hf
    exact ret_v C hr hlk hw dX3_elect_96
set_option maxRecDepth 20000 in
set_option maxHeartbeats 2000000 in
theorem c_X3_elect   {X M : TX} {L : TL}  {ro : TX} (hf : f_X3_elect X = some ro) : CTv G l yX3_elect cX3_elect 3 none 3 69 [.ref (gA G 3)] X M L ro M L := by
  unfold f_X3_elect at hf
  refine ct_of (by decide +kernel) (Nat.le_of_ble_eq_true rfl) (fun p e s m args below meth c H locs ls C hr hlk hw hl => ?_)
  have C : Cx G p s m args c cX3_elect 3 RX3 := C
  have hl : lv_has ls 3 [(0, .ref (gA G 3))] := hl
  refine lv_aload_n C.1.1 C.1.2.1 dX3_elect_0 rfl (lv_at hl 0 rfl) ?_
  obtain ⟨q1, h1, hf⟩ := o_bind hf
  refine aft_v hw (run_VX C hw clX3_191 (As := []) (rest := []) oX_3 (c_X3_comeTide h1) rfl hl.1 rfl ⟨(Nat.le_of_ble_eq_true rfl), (Nat.le_of_ble_eq_true rfl)⟩ ⟨Nat.zero_le _, Nat.zero_le _⟩ rfl (Nat.le_of_ble_eq_true rfl) dX3_elect_1) (fun H locs hw => ?_)
  refine lv_aload_n C.1.1 C.1.2.1 dX3_elect_4 rfl (lv_at hl 0 rfl) ?_
  refine x_get C hw iX_3_9 flX3_31 dX3_elect_5 ?_
  refine lv_istore_n (lv' := [(1, .int (q1 3 9)), (0, .ref (gA G 3))]) C.1.1 C.1.2.1 dX3_elect_8 rfl hl (by decide) rfl (fun ls hl => ?_)
  refine lv_aload_n C.1.1 C.1.2.1 dX3_elect_9 rfl (lv_at hl 1 rfl) ?_
  refine lv_iconst (v := (0 : Int32)) C.1.1 C.1.2.1 dX3_elect_10 rfl ?_
  obtain ⟨q2, h2, hf⟩ := o_bind hf
  refine aft_i hw (run_VX C hw clX3_168 (As := [.int (0 : Int32)]) (rest := []) oX_3 (c_X3_margin h2) rfl hl.1 rfl ⟨(Nat.le_of_ble_eq_true rfl), (Nat.le_of_ble_eq_true rfl)⟩ ⟨Nat.zero_le _, Nat.zero_le _⟩ rfl (Nat.le_of_ble_eq_true rfl) dX3_elect_11) (fun H locs hw => ?_)
  refine lv_istore_n (lv' := [(2, .int q2), (1, .int (q1 3 9)), (0, .ref (gA G 3))]) C.1.1 C.1.2.1 dX3_elect_14 rfl hl (by decide) rfl (fun ls hl => ?_)
  refine lv_iload_n C.1.1 C.1.2.1 dX3_elect_15 rfl (lv_at hl 0 rfl) ?_
  refine lv_if_ne (tgt := 31) C.1.1 C.1.2.1 dX3_elect_16 (by decide) (fun c3 => ?_) (fun c3 => ?_)
  · have hf := o_f hf c3
    refine lv_iload_n C.1.1 C.1.2.1 dX3_elect_31 rfl (lv_at hl 0 rfl) ?_
    refine lv_if_eq (tgt := 48) C.1.1 C.1.2.1 dX3_elect_32 (by decide) (fun c4 => ?_) (fun c4 => ?_)
    · have hf := o_t hf c4
      exact wB_X3_elect_48 C hr hlk q1 M L (q1 3 9) _ _ _ hw (lv_sub hl [2, 1] rfl) hf
    · have hf := o_f hf c4
      refine lv_aload_n C.1.1 C.1.2.1 dX3_elect_35 rfl (lv_at hl 2 rfl) ?_
      refine lv_iload_n C.1.1 C.1.2.1 dX3_elect_36 rfl (lv_at hl 0 rfl) ?_
      refine lv_if_le (tgt := 44) C.1.1 C.1.2.1 dX3_elect_37 (by decide) (fun c7 => ?_) (fun c7 => ?_)
      · have hf := o_t hf c7
        refine lv_iconst (v := (1 : Int32)) C.1.1 C.1.2.1 dX3_elect_44 rfl ?_
        refine x_put C hw iX_3_9 flX3_31 dX3_elect_45 (fun H locs hw => ?_)
        exact wB_X3_elect_48 C hr hlk (u2 q1 3 9 (1 : Int32)) M L (q1 3 9) _ _ _ hw (lv_sub hl [2, 1] rfl) hf
      · have hf := o_f hf c7
        refine lv_iconst (v := (0 : Int32)) C.1.1 C.1.2.1 dX3_elect_40 rfl ?_
        refine lv_goto (tgt := 45) C.1.1 C.1.2.1 dX3_elect_41 (by decide) ?_
        refine x_put C hw iX_3_9 flX3_31 dX3_elect_45 (fun H locs hw => ?_)
        exact wB_X3_elect_48 C hr hlk (u2 q1 3 9 (0 : Int32)) M L (q1 3 9) _ _ _ hw (lv_sub hl [2, 1] rfl) hf
  · have hf := o_t hf c3
    refine lv_aload_n C.1.1 C.1.2.1 dX3_elect_19 rfl (lv_at hl 2 rfl) ?_
    refine lv_iconst (v := (0 : Int32)) C.1.1 C.1.2.1 dX3_elect_20 rfl ?_
    obtain ⟨q8, h8, hf⟩ := o_bind hf
    refine aft_i hw (run_VX C hw clX3_194 (As := [.int (0 : Int32)]) (rest := []) oX_3 (c_X3_allVotes h8) rfl hl.1 rfl ⟨(Nat.le_of_ble_eq_true rfl), (Nat.le_of_ble_eq_true rfl)⟩ ⟨Nat.zero_le _, Nat.zero_le _⟩ rfl (Nat.le_of_ble_eq_true rfl) dX3_elect_21) (fun H locs hw => ?_)
    refine lv_aload_n C.1.1 C.1.2.1 dX3_elect_24 rfl (lv_at hl 2 rfl) ?_
    refine lv_iconst (v := (1 : Int32)) C.1.1 C.1.2.1 dX3_elect_25 rfl ?_
    obtain ⟨q9, h9, hf⟩ := o_bind hf
    refine aft_i hw (run_VX C hw clX3_194 (As := [.int (1 : Int32)]) (rest := [.int q8]) oX_3 (c_X3_allVotes h9) rfl hl.1 rfl ⟨(Nat.le_of_ble_eq_true rfl), (Nat.le_of_ble_eq_true rfl)⟩ ⟨Nat.zero_le _, Nat.zero_le _⟩ rfl (Nat.le_of_ble_eq_true rfl) dX3_elect_26) (fun H locs hw => ?_)
    refine lv_isub C.1.1 C.1.2.1 dX3_elect_29 ?_
    refine lv_istore_n (lv' := [(2, .int (q8 - q9)), (1, .int (q1 3 9)), (0, .ref (gA G 3))]) C.1.1 C.1.2.1 dX3_elect_30 rfl hl (by decide) rfl (fun ls hl => ?_)
    refine lv_iload_n C.1.1 C.1.2.1 dX3_elect_31 rfl (lv_at hl 0 rfl) ?_
    refine lv_if_eq (tgt := 48) C.1.1 C.1.2.1 dX3_elect_32 (by decide) (fun c10 => ?_) (fun c10 => ?_)
    · have hf := o_t hf c10
      exact wB_X3_elect_48 C hr hlk q1 M L (q1 3 9) _ _ _ hw (lv_sub hl [2, 1] rfl) hf
    · have hf := o_f hf c10
      refine lv_aload_n C.1.1 C.1.2.1 dX3_elect_35 rfl (lv_at hl 2 rfl) ?_
      refine lv_iload_n C.1.1 C.1.2.1 dX3_elect_36 rfl (lv_at hl 0 rfl) ?_
      refine lv_if_le (tgt := 44) C.1.1 C.1.2.1 dX3_elect_37 (by decide) (fun c11 => ?_) (fun c11 => ?_)
      · have hf := o_t hf c11
        refine lv_iconst (v := (1 : Int32)) C.1.1 C.1.2.1 dX3_elect_44 rfl ?_
        refine x_put C hw iX_3_9 flX3_31 dX3_elect_45 (fun H locs hw => ?_)
        exact wB_X3_elect_48 C hr hlk (u2 q1 3 9 (1 : Int32)) M L (q1 3 9) _ _ _ hw (lv_sub hl [2, 1] rfl) hf
      · have hf := o_f hf c11
        refine lv_iconst (v := (0 : Int32)) C.1.1 C.1.2.1 dX3_elect_40 rfl ?_
        refine lv_goto (tgt := 45) C.1.1 C.1.2.1 dX3_elect_41 (by decide) ?_
        refine x_put C hw iX_3_9 flX3_31 dX3_elect_45 (fun H locs hw => ?_)
        exact wB_X3_elect_48 C hr hlk (u2 q1 3 9 (0 : Int32)) M L (q1 3 9) _ _ _ hw (lv_sub hl [2, 1] rfl) hf
end
/-! WinnerDraws$Council.vote()Z (('o', 'X', 33)) -/
def f_X2_vote (X : TX) : Option (TX × Int32) := if (X 3 8) < (400 : Int32) then ((f_X3_elect X).bind fun q2 => some (q2, (1 : Int32))) else (some (X, (0 : Int32)))
section
variable {G : GP} {l : Launch}
set_option maxRecDepth 20000 in
set_option maxHeartbeats 2000000 in
theorem c_X2_vote   {X M : TX} {L : TL}  {ro : TX × Int32} (hf : f_X2_vote X = some ro) : CTi G l yX2_vote cX2_vote 1 (some .boolean) 4 91 [.ref (gA G 33)] X M L ro.1 M L ro.2 := by
  unfold f_X2_vote at hf
  refine ct_of (by decide +kernel) (Nat.le_of_ble_eq_true rfl) (fun p e s m args below meth c H locs ls C hr hlk hw hl => ?_)
  have C : Cx G p s m args c cX2_vote 1 RX2 := C
  have hl : lv_has ls 1 [(0, .ref (gA G 33))] := hl
  refine lv_aload_n C.1.1 C.1.2.1 dX2_vote_0 rfl (lv_at hl 0 rfl) ?_
  refine x_ref C hw fX_33_0 flX2_21 dX2_vote_1 ?_
  refine x_get C hw iX_3_8 flX2_29 dX2_vote_4 ?_
  refine lv_sipush (v := (400 : Int32)) C.1.1 C.1.2.1 dX2_vote_7 rfl ?_
  refine lv_icmp_lt (tgt := 15) C.1.1 C.1.2.1 dX2_vote_10 (by decide) (fun c1 => ?_) (fun c1 => ?_)
  · have hf := o_t hf c1
    refine lv_aload_n C.1.1 C.1.2.1 dX2_vote_15 rfl (lv_at hl 0 rfl) ?_
    refine x_ref C hw fX_33_0 flX2_21 dX2_vote_16 ?_
    obtain ⟨q2, h2, hf⟩ := o_bind hf
    refine aft_v hw (run_VX C hw clX2_34 (As := []) (rest := []) oX_3 (c_X3_elect h2) rfl hl.1 rfl ⟨(Nat.le_of_ble_eq_true rfl), (Nat.le_of_ble_eq_true rfl)⟩ ⟨Nat.zero_le _, Nat.zero_le _⟩ rfl (Nat.le_of_ble_eq_true rfl) dX2_vote_19) (fun H locs hw => ?_)
    refine lv_iconst (v := (1 : Int32)) C.1.1 C.1.2.1 dX2_vote_22 rfl ?_
    obtain rfl := Option.some.inj hf
    exact ret_z (r := (1 : Int32)) C hr hlk hw rfl dX2_vote_23
  · have hf := o_f hf c1
    refine lv_iconst (v := (0 : Int32)) C.1.1 C.1.2.1 dX2_vote_13 rfl ?_
    obtain rfl := Option.some.inj hf
    exact ret_z (r := (0 : Int32)) C hr hlk hw rfl dX2_vote_14
end
/-! WinnerDraws$County.roadsOverLine(I)I (('o', 'X', 3) ('i',)) -/
def f_X3_roadsOverLine (X : TX) (x1 : Int32) : Option (Int32) := (f_X8_at 6 X x1).bind fun q1 => (f_X8_at 4 X x1).bind fun q2 => (f_X8_at 9 X q2).bind fun q3 => some (q1 &&& (q3 ^^^ (-1 : Int32)))
section
variable {G : GP} {l : Launch}
set_option maxRecDepth 20000 in
set_option maxHeartbeats 2000000 in
theorem c_X3_roadsOverLine   {X M : TX} {L : TL} {x1 : Int32} {ro : Int32} (hf : f_X3_roadsOverLine X x1 = some ro) : CTi G l yX3_roadsOverLine cX3_roadsOverLine 2 (some .int) 1 21 [.ref (gA G 3), .int x1] X M L X M L ro := by
  unfold f_X3_roadsOverLine at hf
  refine ct_of (by decide +kernel) (Nat.le_of_ble_eq_true rfl) (fun p e s m args below meth c H locs ls C hr hlk hw hl => ?_)
  have C : Cx G p s m args c cX3_roadsOverLine 2 RX3 := C
  have hl : lv_has ls 2 [(0, .ref (gA G 3)), (1, .int x1)] := hl
  refine lv_aload_n C.1.1 C.1.2.1 dX3_roadsOverLine_0 rfl (lv_at hl 0 rfl) ?_
  refine x_ref C hw fX_3_2 flX3_18 dX3_roadsOverLine_1 ?_
  refine lv_iload_n C.1.1 C.1.2.1 dX3_roadsOverLine_4 rfl (lv_at hl 1 rfl) ?_
  obtain ⟨q1, h1, hf⟩ := o_bind hf
  refine aft_i hw (run_S C hw clX3_66 (As := [.ref (gA G 6), .int x1]) (rest := []) (c_X8_at aX_6 h1) hl.1 rfl ⟨(Nat.le_of_ble_eq_true rfl), (Nat.le_of_ble_eq_true rfl)⟩ ⟨Nat.zero_le _, Nat.zero_le _⟩ rfl (Nat.le_of_ble_eq_true rfl) dX3_roadsOverLine_5) (fun H locs hw => ?_)
  refine lv_aload_n C.1.1 C.1.2.1 dX3_roadsOverLine_8 rfl (lv_at hl 0 rfl) ?_
  refine x_ref C hw fX_3_12 flX3_34 dX3_roadsOverLine_9 ?_
  refine lv_aload_n C.1.1 C.1.2.1 dX3_roadsOverLine_12 rfl (lv_at hl 0 rfl) ?_
  refine x_ref C hw fX_3_0 flX3_9 dX3_roadsOverLine_13 ?_
  refine lv_iload_n C.1.1 C.1.2.1 dX3_roadsOverLine_16 rfl (lv_at hl 1 rfl) ?_
  obtain ⟨q2, h2, hf⟩ := o_bind hf
  refine aft_i hw (run_S C hw clX3_66 (As := [.ref (gA G 4), .int x1]) (rest := [.ref (gA G 9), .int q1]) (c_X8_at aX_4 h2) hl.1 rfl ⟨(Nat.le_of_ble_eq_true rfl), (Nat.le_of_ble_eq_true rfl)⟩ ⟨Nat.zero_le _, Nat.zero_le _⟩ rfl (Nat.le_of_ble_eq_true rfl) dX3_roadsOverLine_17) (fun H locs hw => ?_)
  obtain ⟨q3, h3, hf⟩ := o_bind hf
  refine aft_i hw (run_S C hw clX3_66 (As := [.ref (gA G 9), .int q2]) (rest := [.int q1]) (c_X8_at aX_9 h3) hl.1 rfl ⟨(Nat.le_of_ble_eq_true rfl), (Nat.le_of_ble_eq_true rfl)⟩ ⟨Nat.zero_le _, Nat.zero_le _⟩ rfl (Nat.le_of_ble_eq_true rfl) dX3_roadsOverLine_20) (fun H locs hw => ?_)
  refine lv_iconst (v := (-1 : Int32)) C.1.1 C.1.2.1 dX3_roadsOverLine_23 rfl ?_
  refine lv_ixor C.1.1 C.1.2.1 dX3_roadsOverLine_24 ?_
  refine lv_iand C.1.1 C.1.2.1 dX3_roadsOverLine_25 ?_
  obtain rfl := Option.some.inj hf
  exact ret_i C hr hlk hw dX3_roadsOverLine_26
end
/-! WinnerDraws.has(II)Z (('i',) ('i',)) -/
def f_X8_has (x0 : Int32) (x1 : Int32) : Option (Int32) := if ((x0 >>> (x1 &&& 31)) &&& (1 : Int32)) = (1 : Int32) then (some (1 : Int32)) else (some (0 : Int32))
section
variable {G : GP} {l : Launch}
set_option maxRecDepth 20000 in
set_option maxHeartbeats 2000000 in
theorem c_X8_has   {X M : TX} {L : TL} {x0 : Int32} {x1 : Int32} {ro : Int32} (hf : f_X8_has x0 x1 = some ro) : CTi G l yX8_has cX8_has 2 (some .boolean) 0 0 [.int x0, .int x1] X M L X M L ro := by
  unfold f_X8_has at hf
  refine ct_of (by decide +kernel) (Nat.le_of_ble_eq_true rfl) (fun p e s m args below meth c H locs ls C hr hlk hw hl => ?_)
  have C : Cx G p s m args c cX8_has 2 RX8 := C
  have hl : lv_has ls 2 [(0, .int x0), (1, .int x1)] := hl
  refine lv_iload_n C.1.1 C.1.2.1 dX8_has_0 rfl (lv_at hl 0 rfl) ?_
  refine lv_iload_n C.1.1 C.1.2.1 dX8_has_1 rfl (lv_at hl 1 rfl) ?_
  refine lv_ishr C.1.1 C.1.2.1 dX8_has_2 ?_
  refine lv_iconst (v := (1 : Int32)) C.1.1 C.1.2.1 dX8_has_3 rfl ?_
  refine lv_iand C.1.1 C.1.2.1 dX8_has_4 ?_
  refine lv_iconst (v := (1 : Int32)) C.1.1 C.1.2.1 dX8_has_5 rfl ?_
  refine lv_icmp_ne (tgt := 13) C.1.1 C.1.2.1 dX8_has_6 (by decide) (fun c1 => ?_) (fun c1 => ?_)
  · have hf := o_f hf c1
    refine lv_iconst (v := (0 : Int32)) C.1.1 C.1.2.1 dX8_has_13 rfl ?_
    obtain rfl := Option.some.inj hf
    exact ret_z (r := (0 : Int32)) C hr hlk hw rfl dX8_has_14
  · have hf := o_t hf c1
    refine lv_iconst (v := (1 : Int32)) C.1.1 C.1.2.1 dX8_has_9 rfl ?_
    refine lv_goto (tgt := 14) C.1.1 C.1.2.1 dX8_has_10 (by decide) ?_
    obtain rfl := Option.some.inj hf
    exact ret_z (r := (1 : Int32)) C hr hlk hw rfl dX8_has_14
end
/-! WinnerDraws$County.reached(II)I (('o', 'X', 3) ('i',) ('i',)) -/
def L_X3_reached_18 (k_5 : TX → Int32 → Int32 → Int32 → Option (Int32)) : Nat → TX → Int32 → Int32 → Int32 → Int32 → Int32 → Option (Int32)
  | 0 => fun _ _ _ _ _ _ => none
  | n + 1 => fun X x2 x3 x4 x5 x6 => if (X 3 5) ≤ x6 then (if x3 = x5 then (some x3) else (k_5 X x2 x3 (x4 + (1 : Int32)))) else ((f_X8_has x3 x6).bind fun q4 => if q4 = 0 then ((L_X3_reached_18 k_5 n) X x2 x3 x4 x5 (x6 + (1 : Int32))) else ((f_X8_at 6 X x6).bind fun q6 => (L_X3_reached_18 k_5 n) X x2 (x3 ||| (q6 &&& x2)) x4 x5 (x6 + (1 : Int32))))
def L_X3_reached_5 : Nat → TX → Int32 → Int32 → Int32 → Option (Int32)
  | 0 => fun _ _ _ _ => none
  | n + 1 => fun X x2 x3 x4 => if (10 : Int32) ≤ x4 then (some x3) else (L_X3_reached_18 (L_X3_reached_5 n) FU X x2 x3 x4 x3 (0 : Int32))
def f_X3_reached (X : TX) (x1 : Int32) (x2 : Int32) : Option (Int32) := L_X3_reached_5 FU X x2 x1 (0 : Int32)
section
variable {G : GP} {l : Launch}
set_option maxRecDepth 20000 in
set_option maxHeartbeats 2000000 in
theorem wL_X3_reached_18 {p : Program} {e : Env} {s : State} {m : MethodId} {args : Array Value} {below : List Frame} {meth : Method} {c : Code} (C : Cx G p s m args c cX3_reached 7 RX3) (hr : meth.sig.returnType = (some .int)) (hlk : meth.locks = false) {ro : Int32} {k_5 : TX → Int32 → Int32 → Int32 → Option (Int32)} (hk_5 : ∀ (X : TX) (M : TX) (L : TL) (x2 : Int32) (x3 : Int32) (x4 : Int32) (H : Heap) (locs : List Loc) (ls : Array Slot), Wh G s X M L H locs → lv_has ls 7 [(0, .ref (gA G 3)), (2, .int x2), (3, .int x3), (4, .int x4)] → k_5 X x2 x3 x4 = some ro → W p l e (rz 1 21) s m args below meth c H locs 0 0 (MQ below (Di G X M L ro) args s 0 0 (AB G)) (F0 m 5 ls [])) : ∀ (n : Nat), ∀ (X : TX) (M : TX) (L : TL) (x2 : Int32) (x3 : Int32) (x4 : Int32) (x5 : Int32) (x6 : Int32) (H : Heap) (locs : List Loc) (ls : Array Slot), Wh G s X M L H locs → lv_has ls 7 [(0, .ref (gA G 3)), (2, .int x2), (3, .int x3), (4, .int x4), (5, .int x5), (6, .int x6)] → L_X3_reached_18 k_5 n X x2 x3 x4 x5 x6 = some ro → W p l e (rz 1 21) s m args below meth c H locs 0 0 (MQ below (Di G X M L ro) args s 0 0 (AB G)) (F0 m 18 ls []) := by
  intro n
  induction n with
  | zero =>
    intro X M L x2 x3 x4 x5 x6 H locs ls hw hl hf
    cases hf
  | succ n hk_18 =>
    intro X M L x2 x3 x4 x5 x6 H locs ls hw hl hf
    rw [L_X3_reached_18] at hf
    refine lv_iload C.1.1 C.1.2.1 dX3_reached_18 (lv_at hl 5 rfl) ?_
    refine lv_aload_n C.1.1 C.1.2.1 dX3_reached_20 rfl (lv_at hl 0 rfl) ?_
    refine x_get C hw iX_3_5 flX3_44 dX3_reached_21 ?_
    refine lv_icmp_ge (tgt := 56) C.1.1 C.1.2.1 dX3_reached_24 (by decide) (fun c2 => ?_) (fun c2 => ?_)
    · have hf := o_t hf c2
      refine lv_iload_n C.1.1 C.1.2.1 dX3_reached_56 rfl (lv_at hl 2 rfl) ?_
      refine lv_iload C.1.1 C.1.2.1 dX3_reached_57 (lv_at hl 4 rfl) ?_
      refine lv_icmp_ne (tgt := 64) C.1.1 C.1.2.1 dX3_reached_59 (by decide) (fun c3 => ?_) (fun c3 => ?_)
      · have hf := o_f hf c3
        refine lv_iinc (v := (x4 + (1 : Int32))) (lv' := [(4, .int (x4 + (1 : Int32))), (0, .ref (gA G 3)), (2, .int x2), (3, .int x3), (5, .int x5), (6, .int x6)]) C.1.1 C.1.2.1 dX3_reached_64 hl (k := 3) rfl rfl (by decide) rfl (fun ls hl => ?_)
        refine lv_goto (tgt := 5) C.1.1 C.1.2.1 dX3_reached_67 (by decide) ?_
        exact hk_5 X M L x2 x3 (x4 + (1 : Int32)) _ _ _ hw (lv_sub hl [1, 2, 3, 0] rfl) hf
      · have hf := o_t hf c3
        refine lv_iload_n C.1.1 C.1.2.1 dX3_reached_62 rfl (lv_at hl 2 rfl) ?_
        obtain rfl := Option.some.inj hf
        exact ret_i C hr hlk hw dX3_reached_63
    · have hf := o_f hf c2
      refine lv_iload_n C.1.1 C.1.2.1 dX3_reached_27 rfl (lv_at hl 2 rfl) ?_
      refine lv_iload C.1.1 C.1.2.1 dX3_reached_28 (lv_at hl 5 rfl) ?_
      obtain ⟨q4, h4, hf⟩ := o_bind hf
      refine aft_i hw (run_S C hw clX3_159 (As := [.int x3, .int x6]) (rest := []) (c_X8_has h4) hl.1 rfl ⟨(Nat.le_of_ble_eq_true rfl), (Nat.le_of_ble_eq_true rfl)⟩ ⟨Nat.zero_le _, Nat.zero_le _⟩ rfl (Nat.le_of_ble_eq_true rfl) dX3_reached_30) (fun H locs hw => ?_)
      refine lv_if_eq (tgt := 50) C.1.1 C.1.2.1 dX3_reached_33 (by decide) (fun c5 => ?_) (fun c5 => ?_)
      · have hf := o_t hf c5
        refine lv_iinc (v := (x6 + (1 : Int32))) (lv' := [(6, .int (x6 + (1 : Int32))), (0, .ref (gA G 3)), (2, .int x2), (3, .int x3), (4, .int x4), (5, .int x5)]) C.1.1 C.1.2.1 dX3_reached_50 hl (k := 5) rfl rfl (by decide) rfl (fun ls hl => ?_)
        refine lv_goto (tgt := 18) C.1.1 C.1.2.1 dX3_reached_53 (by decide) ?_
        exact hk_18 X M L x2 x3 x4 x5 (x6 + (1 : Int32)) _ _ _ hw (lv_sub hl [1, 2, 3, 4, 5, 0] rfl) hf
      · have hf := o_f hf c5
        refine lv_iload_n C.1.1 C.1.2.1 dX3_reached_36 rfl (lv_at hl 2 rfl) ?_
        refine lv_aload_n C.1.1 C.1.2.1 dX3_reached_37 rfl (lv_at hl 0 rfl) ?_
        refine x_ref C hw fX_3_2 flX3_18 dX3_reached_38 ?_
        refine lv_iload C.1.1 C.1.2.1 dX3_reached_41 (lv_at hl 5 rfl) ?_
        obtain ⟨q6, h6, hf⟩ := o_bind hf
        refine aft_i hw (run_S C hw clX3_66 (As := [.ref (gA G 6), .int x6]) (rest := [.int x3]) (c_X8_at aX_6 h6) hl.1 rfl ⟨(Nat.le_of_ble_eq_true rfl), (Nat.le_of_ble_eq_true rfl)⟩ ⟨Nat.zero_le _, Nat.zero_le _⟩ rfl (Nat.le_of_ble_eq_true rfl) dX3_reached_43) (fun H locs hw => ?_)
        refine lv_iload_n C.1.1 C.1.2.1 dX3_reached_46 rfl (lv_at hl 1 rfl) ?_
        refine lv_iand C.1.1 C.1.2.1 dX3_reached_47 ?_
        refine lv_ior C.1.1 C.1.2.1 dX3_reached_48 ?_
        refine lv_istore_n (lv' := [(3, .int (x3 ||| (q6 &&& x2))), (0, .ref (gA G 3)), (2, .int x2), (4, .int x4), (5, .int x5), (6, .int x6)]) C.1.1 C.1.2.1 dX3_reached_49 rfl hl (by decide) rfl (fun ls hl => ?_)
        refine lv_iinc (v := (x6 + (1 : Int32))) (lv' := [(6, .int (x6 + (1 : Int32))), (3, .int (x3 ||| (q6 &&& x2))), (0, .ref (gA G 3)), (2, .int x2), (4, .int x4), (5, .int x5)]) C.1.1 C.1.2.1 dX3_reached_50 hl (k := 5) rfl rfl (by decide) rfl (fun ls hl => ?_)
        refine lv_goto (tgt := 18) C.1.1 C.1.2.1 dX3_reached_53 (by decide) ?_
        exact hk_18 X M L x2 (x3 ||| (q6 &&& x2)) x4 x5 (x6 + (1 : Int32)) _ _ _ hw (lv_sub hl [2, 3, 1, 4, 5, 0] rfl) hf
set_option maxRecDepth 20000 in
set_option maxHeartbeats 2000000 in
theorem wL_X3_reached_5 {p : Program} {e : Env} {s : State} {m : MethodId} {args : Array Value} {below : List Frame} {meth : Method} {c : Code} (C : Cx G p s m args c cX3_reached 7 RX3) (hr : meth.sig.returnType = (some .int)) (hlk : meth.locks = false) {ro : Int32} : ∀ (n : Nat), ∀ (X : TX) (M : TX) (L : TL) (x2 : Int32) (x3 : Int32) (x4 : Int32) (H : Heap) (locs : List Loc) (ls : Array Slot), Wh G s X M L H locs → lv_has ls 7 [(0, .ref (gA G 3)), (2, .int x2), (3, .int x3), (4, .int x4)] → L_X3_reached_5 n X x2 x3 x4 = some ro → W p l e (rz 1 21) s m args below meth c H locs 0 0 (MQ below (Di G X M L ro) args s 0 0 (AB G)) (F0 m 5 ls []) := by
  intro n
  induction n with
  | zero =>
    intro X M L x2 x3 x4 H locs ls hw hl hf
    cases hf
  | succ n hk_5 =>
    intro X M L x2 x3 x4 H locs ls hw hl hf
    rw [L_X3_reached_5] at hf
    refine lv_iload C.1.1 C.1.2.1 dX3_reached_5 (lv_at hl 3 rfl) ?_
    refine lv_bipush (v := (10 : Int32)) C.1.1 C.1.2.1 dX3_reached_7 rfl ?_
    refine lv_icmp_ge (tgt := 70) C.1.1 C.1.2.1 dX3_reached_9 (by decide) (fun c1 => ?_) (fun c1 => ?_)
    · have hf := o_t hf c1
      refine lv_iload_n C.1.1 C.1.2.1 dX3_reached_70 rfl (lv_at hl 2 rfl) ?_
      obtain rfl := Option.some.inj hf
      exact ret_i C hr hlk hw dX3_reached_71
    · have hf := o_f hf c1
      refine lv_iload_n C.1.1 C.1.2.1 dX3_reached_12 rfl (lv_at hl 2 rfl) ?_
      refine lv_istore (lv' := [(5, .int x3), (0, .ref (gA G 3)), (2, .int x2), (3, .int x3), (4, .int x4)]) C.1.1 C.1.2.1 dX3_reached_13 hl (by decide) rfl (fun ls hl => ?_)
      refine lv_iconst (v := (0 : Int32)) C.1.1 C.1.2.1 dX3_reached_15 rfl ?_
      refine lv_istore (lv' := [(6, .int (0 : Int32)), (5, .int x3), (0, .ref (gA G 3)), (2, .int x2), (3, .int x3), (4, .int x4)]) C.1.1 C.1.2.1 dX3_reached_16 hl (by decide) rfl (fun ls hl => ?_)
      exact wL_X3_reached_18 C hr hlk hk_5 FU X M L x2 x3 x4 x3 (0 : Int32) _ _ _ hw (lv_sub hl [2, 3, 4, 5, 1, 0] rfl) hf
set_option maxRecDepth 20000 in
set_option maxHeartbeats 2000000 in
theorem c_X3_reached   {X M : TX} {L : TL} {x1 : Int32} {x2 : Int32} {ro : Int32} (hf : f_X3_reached X x1 x2 = some ro) : CTi G l yX3_reached cX3_reached 7 (some .int) 1 21 [.ref (gA G 3), .int x1, .int x2] X M L X M L ro := by
  unfold f_X3_reached at hf
  refine ct_of (by decide +kernel) (Nat.le_of_ble_eq_true rfl) (fun p e s m args below meth c H locs ls C hr hlk hw hl => ?_)
  have C : Cx G p s m args c cX3_reached 7 RX3 := C
  have hl : lv_has ls 7 [(0, .ref (gA G 3)), (1, .int x1), (2, .int x2)] := hl
  refine lv_iload_n C.1.1 C.1.2.1 dX3_reached_0 rfl (lv_at hl 1 rfl) ?_
  refine lv_istore_n (lv' := [(3, .int x1), (0, .ref (gA G 3)), (1, .int x1), (2, .int x2)]) C.1.1 C.1.2.1 dX3_reached_1 rfl hl (by decide) rfl (fun ls hl => ?_)
  refine lv_iconst (v := (0 : Int32)) C.1.1 C.1.2.1 dX3_reached_2 rfl ?_
  refine lv_istore (lv' := [(4, .int (0 : Int32)), (3, .int x1), (0, .ref (gA G 3)), (1, .int x1), (2, .int x2)]) C.1.1 C.1.2.1 dX3_reached_3 hl (by decide) rfl (fun ls hl => ?_)
  exact wL_X3_reached_5 C hr hlk FU X M L x2 x1 (0 : Int32) _ _ _ hw (lv_sub hl [2, 4, 1, 0] rfl) hf
end
/-! WinnerDraws$County.openWards(I)I (('o', 'X', 3) ('i',)) -/
def L_X3_openWards_57 : Nat → TX → Int32 → Int32 → Int32 → Option (Int32)
  | 0 => fun _ _ _ _ => none
  | n + 1 => fun X x2 x4 x5 => if (4 : Int32) ≤ x5 then (some x4) else ((f_X8_at 9 X x5).bind fun q9 => if (x2 &&& q9) = 0 then ((L_X3_openWards_57 n) X x2 x4 (x5 + (1 : Int32))) else ((L_X3_openWards_57 n) X x2 (x4 ||| ((1 : Int32) <<< (x5 &&& 31))) (x5 + (1 : Int32))))
def f_X3_openWards (X : TX) (x1 : Int32) : Option (Int32) := (f_X3_roadsOverLine X x1).bind fun q1 => (f_X8_at 4 X x1).bind fun q2 => (f_X8_at 9 X q2).bind fun q3 => if q1 = 0 then (some (0 : Int32)) else (if (q3 &&& (((1 : Int32) <<< (x1 &&& 31)) ^^^ (-1 : Int32))) = 0 then (some (0 : Int32)) else ((f_X3_reached X ((q3 &&& (((1 : Int32) <<< (x1 &&& 31)) ^^^ (-1 : Int32))) &&& (-(q3 &&& (((1 : Int32) <<< (x1 &&& 31)) ^^^ (-1 : Int32))))) (q3 &&& (((1 : Int32) <<< (x1 &&& 31)) ^^^ (-1 : Int32)))).bind fun q6 => if q6 = (q3 &&& (((1 : Int32) <<< (x1 &&& 31)) ^^^ (-1 : Int32))) then (L_X3_openWards_57 FU X q1 (0 : Int32) (0 : Int32)) else (some (0 : Int32))))
section
variable {G : GP} {l : Launch}
set_option maxRecDepth 20000 in
set_option maxHeartbeats 2000000 in
theorem wL_X3_openWards_57 {p : Program} {e : Env} {s : State} {m : MethodId} {args : Array Value} {below : List Frame} {meth : Method} {c : Code} (C : Cx G p s m args c cX3_openWards 6 RX3) (hr : meth.sig.returnType = (some .int)) (hlk : meth.locks = false) {ro : Int32} : ∀ (n : Nat), ∀ (X : TX) (M : TX) (L : TL) (x2 : Int32) (x4 : Int32) (x5 : Int32) (H : Heap) (locs : List Loc) (ls : Array Slot), Wh G s X M L H locs → lv_has ls 6 [(0, .ref (gA G 3)), (2, .int x2), (4, .int x4), (5, .int x5)] → L_X3_openWards_57 n X x2 x4 x5 = some ro → W p l e (rz 2 47) s m args below meth c H locs 0 0 (MQ below (Di G X M L ro) args s 0 0 (AB G)) (F0 m 57 ls []) := by
  intro n
  induction n with
  | zero =>
    intro X M L x2 x4 x5 H locs ls hw hl hf
    cases hf
  | succ n hk_57 =>
    intro X M L x2 x4 x5 H locs ls hw hl hf
    rw [L_X3_openWards_57] at hf
    refine lv_iload C.1.1 C.1.2.1 dX3_openWards_57 (lv_at hl 3 rfl) ?_
    refine lv_iconst (v := (4 : Int32)) C.1.1 C.1.2.1 dX3_openWards_59 rfl ?_
    refine lv_icmp_ge (tgt := 92) C.1.1 C.1.2.1 dX3_openWards_60 (by decide) (fun c8 => ?_) (fun c8 => ?_)
    · have hf := o_t hf c8
      refine lv_iload C.1.1 C.1.2.1 dX3_openWards_92 (lv_at hl 2 rfl) ?_
      obtain rfl := Option.some.inj hf
      exact ret_i C hr hlk hw dX3_openWards_94
    · have hf := o_f hf c8
      refine lv_iload_n C.1.1 C.1.2.1 dX3_openWards_63 rfl (lv_at hl 1 rfl) ?_
      refine lv_aload_n C.1.1 C.1.2.1 dX3_openWards_64 rfl (lv_at hl 0 rfl) ?_
      refine x_ref C hw fX_3_12 flX3_34 dX3_openWards_65 ?_
      refine lv_iload C.1.1 C.1.2.1 dX3_openWards_68 (lv_at hl 3 rfl) ?_
      obtain ⟨q9, h9, hf⟩ := o_bind hf
      refine aft_i hw (run_S C hw clX3_66 (As := [.ref (gA G 9), .int x5]) (rest := [.int x2]) (c_X8_at aX_9 h9) hl.1 rfl ⟨(Nat.le_of_ble_eq_true rfl), (Nat.le_of_ble_eq_true rfl)⟩ ⟨Nat.zero_le _, Nat.zero_le _⟩ rfl (Nat.le_of_ble_eq_true rfl) dX3_openWards_70) (fun H locs hw => ?_)
      refine lv_iand C.1.1 C.1.2.1 dX3_openWards_73 ?_
      refine lv_if_eq (tgt := 86) C.1.1 C.1.2.1 dX3_openWards_74 (by decide) (fun c10 => ?_) (fun c10 => ?_)
      · have hf := o_t hf c10
        refine lv_iinc (v := (x5 + (1 : Int32))) (lv' := [(5, .int (x5 + (1 : Int32))), (0, .ref (gA G 3)), (2, .int x2), (4, .int x4)]) C.1.1 C.1.2.1 dX3_openWards_86 hl (k := 3) rfl rfl (by decide) rfl (fun ls hl => ?_)
        refine lv_goto (tgt := 57) C.1.1 C.1.2.1 dX3_openWards_89 (by decide) ?_
        exact hk_57 X M L x2 x4 (x5 + (1 : Int32)) _ _ _ hw (lv_sub hl [1, 2, 3, 0] rfl) hf
      · have hf := o_f hf c10
        refine lv_iload C.1.1 C.1.2.1 dX3_openWards_77 (lv_at hl 2 rfl) ?_
        refine lv_iconst (v := (1 : Int32)) C.1.1 C.1.2.1 dX3_openWards_79 rfl ?_
        refine lv_iload C.1.1 C.1.2.1 dX3_openWards_80 (lv_at hl 3 rfl) ?_
        refine lv_ishl C.1.1 C.1.2.1 dX3_openWards_82 ?_
        refine lv_ior C.1.1 C.1.2.1 dX3_openWards_83 ?_
        refine lv_istore (lv' := [(4, .int (x4 ||| ((1 : Int32) <<< (x5 &&& 31)))), (0, .ref (gA G 3)), (2, .int x2), (5, .int x5)]) C.1.1 C.1.2.1 dX3_openWards_84 hl (by decide) rfl (fun ls hl => ?_)
        refine lv_iinc (v := (x5 + (1 : Int32))) (lv' := [(5, .int (x5 + (1 : Int32))), (4, .int (x4 ||| ((1 : Int32) <<< (x5 &&& 31)))), (0, .ref (gA G 3)), (2, .int x2)]) C.1.1 C.1.2.1 dX3_openWards_86 hl (k := 3) rfl rfl (by decide) rfl (fun ls hl => ?_)
        refine lv_goto (tgt := 57) C.1.1 C.1.2.1 dX3_openWards_89 (by decide) ?_
        exact hk_57 X M L x2 (x4 ||| ((1 : Int32) <<< (x5 &&& 31))) (x5 + (1 : Int32)) _ _ _ hw (lv_sub hl [2, 3, 1, 0] rfl) hf
set_option maxRecDepth 20000 in
set_option maxHeartbeats 2000000 in
theorem c_X3_openWards   {X M : TX} {L : TL} {x1 : Int32} {ro : Int32} (hf : f_X3_openWards X x1 = some ro) : CTi G l yX3_openWards cX3_openWards 6 (some .int) 2 47 [.ref (gA G 3), .int x1] X M L X M L ro := by
  unfold f_X3_openWards at hf
  refine ct_of (by decide +kernel) (Nat.le_of_ble_eq_true rfl) (fun p e s m args below meth c H locs ls C hr hlk hw hl => ?_)
  have C : Cx G p s m args c cX3_openWards 6 RX3 := C
  have hl : lv_has ls 6 [(0, .ref (gA G 3)), (1, .int x1)] := hl
  refine lv_aload_n C.1.1 C.1.2.1 dX3_openWards_0 rfl (lv_at hl 0 rfl) ?_
  refine lv_iload_n C.1.1 C.1.2.1 dX3_openWards_1 rfl (lv_at hl 1 rfl) ?_
  obtain ⟨q1, h1, hf⟩ := o_bind hf
  refine aft_i hw (run_VX C hw clX3_165 (As := [.int x1]) (rest := []) oX_3 (c_X3_roadsOverLine h1) rfl hl.1 rfl ⟨(Nat.le_of_ble_eq_true rfl), (Nat.le_of_ble_eq_true rfl)⟩ ⟨Nat.zero_le _, Nat.zero_le _⟩ rfl (Nat.le_of_ble_eq_true rfl) dX3_openWards_2) (fun H locs hw => ?_)
  refine lv_istore_n (lv' := [(2, .int q1), (0, .ref (gA G 3)), (1, .int x1)]) C.1.1 C.1.2.1 dX3_openWards_5 rfl hl (by decide) rfl (fun ls hl => ?_)
  refine lv_aload_n C.1.1 C.1.2.1 dX3_openWards_6 rfl (lv_at hl 1 rfl) ?_
  refine x_ref C hw fX_3_12 flX3_34 dX3_openWards_7 ?_
  refine lv_aload_n C.1.1 C.1.2.1 dX3_openWards_10 rfl (lv_at hl 1 rfl) ?_
  refine x_ref C hw fX_3_0 flX3_9 dX3_openWards_11 ?_
  refine lv_iload_n C.1.1 C.1.2.1 dX3_openWards_14 rfl (lv_at hl 2 rfl) ?_
  obtain ⟨q2, h2, hf⟩ := o_bind hf
  refine aft_i hw (run_S C hw clX3_66 (As := [.ref (gA G 4), .int x1]) (rest := [.ref (gA G 9)]) (c_X8_at aX_4 h2) hl.1 rfl ⟨(Nat.le_of_ble_eq_true rfl), (Nat.le_of_ble_eq_true rfl)⟩ ⟨Nat.zero_le _, Nat.zero_le _⟩ rfl (Nat.le_of_ble_eq_true rfl) dX3_openWards_15) (fun H locs hw => ?_)
  obtain ⟨q3, h3, hf⟩ := o_bind hf
  refine aft_i hw (run_S C hw clX3_66 (As := [.ref (gA G 9), .int q2]) (rest := []) (c_X8_at aX_9 h3) hl.1 rfl ⟨(Nat.le_of_ble_eq_true rfl), (Nat.le_of_ble_eq_true rfl)⟩ ⟨Nat.zero_le _, Nat.zero_le _⟩ rfl (Nat.le_of_ble_eq_true rfl) dX3_openWards_18) (fun H locs hw => ?_)
  refine lv_iconst (v := (1 : Int32)) C.1.1 C.1.2.1 dX3_openWards_21 rfl ?_
  refine lv_iload_n C.1.1 C.1.2.1 dX3_openWards_22 rfl (lv_at hl 2 rfl) ?_
  refine lv_ishl C.1.1 C.1.2.1 dX3_openWards_23 ?_
  refine lv_iconst (v := (-1 : Int32)) C.1.1 C.1.2.1 dX3_openWards_24 rfl ?_
  refine lv_ixor C.1.1 C.1.2.1 dX3_openWards_25 ?_
  refine lv_iand C.1.1 C.1.2.1 dX3_openWards_26 ?_
  refine lv_istore_n (lv' := [(3, .int (q3 &&& (((1 : Int32) <<< (x1 &&& 31)) ^^^ (-1 : Int32)))), (2, .int q1), (0, .ref (gA G 3)), (1, .int x1)]) C.1.1 C.1.2.1 dX3_openWards_27 rfl hl (by decide) rfl (fun ls hl => ?_)
  refine lv_iload_n C.1.1 C.1.2.1 dX3_openWards_28 rfl (lv_at hl 1 rfl) ?_
  refine lv_if_eq (tgt := 49) C.1.1 C.1.2.1 dX3_openWards_29 (by decide) (fun c4 => ?_) (fun c4 => ?_)
  · have hf := o_t hf c4
    refine lv_iconst (v := (0 : Int32)) C.1.1 C.1.2.1 dX3_openWards_49 rfl ?_
    obtain rfl := Option.some.inj hf
    exact ret_i C hr hlk hw dX3_openWards_50
  · have hf := o_f hf c4
    refine lv_iload_n C.1.1 C.1.2.1 dX3_openWards_32 rfl (lv_at hl 0 rfl) ?_
    refine lv_if_eq (tgt := 49) C.1.1 C.1.2.1 dX3_openWards_33 (by decide) (fun c5 => ?_) (fun c5 => ?_)
    · have hf := o_t hf c5
      refine lv_iconst (v := (0 : Int32)) C.1.1 C.1.2.1 dX3_openWards_49 rfl ?_
      obtain rfl := Option.some.inj hf
      exact ret_i C hr hlk hw dX3_openWards_50
    · have hf := o_f hf c5
      refine lv_aload_n C.1.1 C.1.2.1 dX3_openWards_36 rfl (lv_at hl 2 rfl) ?_
      refine lv_iload_n C.1.1 C.1.2.1 dX3_openWards_37 rfl (lv_at hl 0 rfl) ?_
      refine lv_iload_n C.1.1 C.1.2.1 dX3_openWards_38 rfl (lv_at hl 0 rfl) ?_
      refine lv_ineg C.1.1 C.1.2.1 dX3_openWards_39 ?_
      refine lv_iand C.1.1 C.1.2.1 dX3_openWards_40 ?_
      refine lv_iload_n C.1.1 C.1.2.1 dX3_openWards_41 rfl (lv_at hl 0 rfl) ?_
      obtain ⟨q6, h6, hf⟩ := o_bind hf
      refine aft_i hw (run_VX C hw clX3_162 (As := [.int ((q3 &&& (((1 : Int32) <<< (x1 &&& 31)) ^^^ (-1 : Int32))) &&& (-(q3 &&& (((1 : Int32) <<< (x1 &&& 31)) ^^^ (-1 : Int32))))), .int (q3 &&& (((1 : Int32) <<< (x1 &&& 31)) ^^^ (-1 : Int32)))]) (rest := []) oX_3 (c_X3_reached h6) rfl hl.1 rfl ⟨(Nat.le_of_ble_eq_true rfl), (Nat.le_of_ble_eq_true rfl)⟩ ⟨Nat.zero_le _, Nat.zero_le _⟩ rfl (Nat.le_of_ble_eq_true rfl) dX3_openWards_42) (fun H locs hw => ?_)
      refine lv_iload_n C.1.1 C.1.2.1 dX3_openWards_45 rfl (lv_at hl 0 rfl) ?_
      refine lv_icmp_eq (tgt := 51) C.1.1 C.1.2.1 dX3_openWards_46 (by decide) (fun c7 => ?_) (fun c7 => ?_)
      · have hf := o_t hf c7
        refine lv_iconst (v := (0 : Int32)) C.1.1 C.1.2.1 dX3_openWards_51 rfl ?_
        refine lv_istore (lv' := [(4, .int (0 : Int32)), (3, .int (q3 &&& (((1 : Int32) <<< (x1 &&& 31)) ^^^ (-1 : Int32)))), (2, .int q1), (0, .ref (gA G 3)), (1, .int x1)]) C.1.1 C.1.2.1 dX3_openWards_52 hl (by decide) rfl (fun ls hl => ?_)
        refine lv_iconst (v := (0 : Int32)) C.1.1 C.1.2.1 dX3_openWards_54 rfl ?_
        refine lv_istore (lv' := [(5, .int (0 : Int32)), (4, .int (0 : Int32)), (3, .int (q3 &&& (((1 : Int32) <<< (x1 &&& 31)) ^^^ (-1 : Int32)))), (2, .int q1), (0, .ref (gA G 3)), (1, .int x1)]) C.1.1 C.1.2.1 dX3_openWards_55 hl (by decide) rfl (fun ls hl => ?_)
        exact wL_X3_openWards_57 C hr hlk FU X M L q1 (0 : Int32) (0 : Int32) _ _ _ hw (lv_sub hl [4, 3, 1, 0] rfl) hf
      · have hf := o_f hf c7
        refine lv_iconst (v := (0 : Int32)) C.1.1 C.1.2.1 dX3_openWards_49 rfl ?_
        obtain rfl := Option.some.inj hf
        exact ret_i C hr hlk hw dX3_openWards_50
end
/-! WinnerDraws$County.marginIfPlaced(III)I (('o', 'X', 3) ('i',) ('i',) ('i',)) -/
def f_X3_marginIfPlaced (X : TX) (x1 : Int32) (x2 : Int32) (x3 : Int32) : Option (Int32) := (f_X8_at 5 X x2).bind fun q1 => (f_X8_at 5 X ((10 : Int32) + x2)).bind fun q2 => (f_X8_at 4 X x2).bind fun q3 => (f_X8_at 10 X q3).bind fun q4 => (f_X8_at 10 X x3).bind fun q5 => (f_J6_compare_7cf53 q4 (q1 - q2)).bind fun q6 => (f_J6_compare_7cf53 q4 (0 : Int32)).bind fun q7 => (f_J6_compare_7cf53 q5 (-(q1 - q2))).bind fun q8 => (f_J6_compare_7cf53 q5 (0 : Int32)).bind fun q9 => (f_X3_margin X x1).bind fun q10 => if x1 = 0 then (some (q10 + (((q6 - q7) + q8) - q9))) else (some (q10 + (-(((q6 - q7) + q8) - q9))))
section
variable {G : GP} {l : Launch}
set_option maxRecDepth 20000 in
set_option maxHeartbeats 2000000 in
theorem c_X3_marginIfPlaced   {X M : TX} {L : TL} {x1 : Int32} {x2 : Int32} {x3 : Int32} {ro : Int32} (hf : f_X3_marginIfPlaced X x1 x2 x3 = some ro) : CTi G l yX3_marginIfPlaced cX3_marginIfPlaced 8 (some .int) 2 44 [.ref (gA G 3), .int x1, .int x2, .int x3] X M L X M L ro := by
  unfold f_X3_marginIfPlaced at hf
  refine ct_of (by decide +kernel) (Nat.le_of_ble_eq_true rfl) (fun p e s m args below meth c H locs ls C hr hlk hw hl => ?_)
  have C : Cx G p s m args c cX3_marginIfPlaced 8 RX3 := C
  have hl : lv_has ls 8 [(0, .ref (gA G 3)), (1, .int x1), (2, .int x2), (3, .int x3)] := hl
  refine lv_aload_n C.1.1 C.1.2.1 dX3_marginIfPlaced_0 rfl (lv_at hl 0 rfl) ?_
  refine x_ref C hw fX_3_1 flX3_15 dX3_marginIfPlaced_1 ?_
  refine lv_iload_n C.1.1 C.1.2.1 dX3_marginIfPlaced_4 rfl (lv_at hl 2 rfl) ?_
  obtain ⟨q1, h1, hf⟩ := o_bind hf
  refine aft_i hw (run_S C hw clX3_66 (As := [.ref (gA G 5), .int x2]) (rest := []) (c_X8_at aX_5 h1) hl.1 rfl ⟨(Nat.le_of_ble_eq_true rfl), (Nat.le_of_ble_eq_true rfl)⟩ ⟨Nat.zero_le _, Nat.zero_le _⟩ rfl (Nat.le_of_ble_eq_true rfl) dX3_marginIfPlaced_5) (fun H locs hw => ?_)
  refine lv_aload_n C.1.1 C.1.2.1 dX3_marginIfPlaced_8 rfl (lv_at hl 0 rfl) ?_
  refine x_ref C hw fX_3_1 flX3_15 dX3_marginIfPlaced_9 ?_
  refine lv_bipush (v := (10 : Int32)) C.1.1 C.1.2.1 dX3_marginIfPlaced_12 rfl ?_
  refine lv_iload_n C.1.1 C.1.2.1 dX3_marginIfPlaced_14 rfl (lv_at hl 2 rfl) ?_
  refine lv_iadd C.1.1 C.1.2.1 dX3_marginIfPlaced_15 ?_
  obtain ⟨q2, h2, hf⟩ := o_bind hf
  refine aft_i hw (run_S C hw clX3_66 (As := [.ref (gA G 5), .int ((10 : Int32) + x2)]) (rest := [.int q1]) (c_X8_at aX_5 h2) hl.1 rfl ⟨(Nat.le_of_ble_eq_true rfl), (Nat.le_of_ble_eq_true rfl)⟩ ⟨Nat.zero_le _, Nat.zero_le _⟩ rfl (Nat.le_of_ble_eq_true rfl) dX3_marginIfPlaced_16) (fun H locs hw => ?_)
  refine lv_isub C.1.1 C.1.2.1 dX3_marginIfPlaced_19 ?_
  refine lv_istore (lv' := [(4, .int (q1 - q2)), (0, .ref (gA G 3)), (1, .int x1), (2, .int x2), (3, .int x3)]) C.1.1 C.1.2.1 dX3_marginIfPlaced_20 hl (by decide) rfl (fun ls hl => ?_)
  refine lv_aload_n C.1.1 C.1.2.1 dX3_marginIfPlaced_22 rfl (lv_at hl 1 rfl) ?_
  refine x_ref C hw fX_3_13 flX3_37 dX3_marginIfPlaced_23 ?_
  refine lv_aload_n C.1.1 C.1.2.1 dX3_marginIfPlaced_26 rfl (lv_at hl 1 rfl) ?_
  refine x_ref C hw fX_3_0 flX3_9 dX3_marginIfPlaced_27 ?_
  refine lv_iload_n C.1.1 C.1.2.1 dX3_marginIfPlaced_30 rfl (lv_at hl 3 rfl) ?_
  obtain ⟨q3, h3, hf⟩ := o_bind hf
  refine aft_i hw (run_S C hw clX3_66 (As := [.ref (gA G 4), .int x2]) (rest := [.ref (gA G 10)]) (c_X8_at aX_4 h3) hl.1 rfl ⟨(Nat.le_of_ble_eq_true rfl), (Nat.le_of_ble_eq_true rfl)⟩ ⟨Nat.zero_le _, Nat.zero_le _⟩ rfl (Nat.le_of_ble_eq_true rfl) dX3_marginIfPlaced_31) (fun H locs hw => ?_)
  obtain ⟨q4, h4, hf⟩ := o_bind hf
  refine aft_i hw (run_S C hw clX3_66 (As := [.ref (gA G 10), .int q3]) (rest := []) (c_X8_at aX_10 h4) hl.1 rfl ⟨(Nat.le_of_ble_eq_true rfl), (Nat.le_of_ble_eq_true rfl)⟩ ⟨Nat.zero_le _, Nat.zero_le _⟩ rfl (Nat.le_of_ble_eq_true rfl) dX3_marginIfPlaced_34) (fun H locs hw => ?_)
  refine lv_istore (lv' := [(5, .int q4), (4, .int (q1 - q2)), (0, .ref (gA G 3)), (1, .int x1), (2, .int x2), (3, .int x3)]) C.1.1 C.1.2.1 dX3_marginIfPlaced_37 hl (by decide) rfl (fun ls hl => ?_)
  refine lv_aload_n C.1.1 C.1.2.1 dX3_marginIfPlaced_39 rfl (lv_at hl 2 rfl) ?_
  refine x_ref C hw fX_3_13 flX3_37 dX3_marginIfPlaced_40 ?_
  refine lv_iload_n C.1.1 C.1.2.1 dX3_marginIfPlaced_43 rfl (lv_at hl 5 rfl) ?_
  obtain ⟨q5, h5, hf⟩ := o_bind hf
  refine aft_i hw (run_S C hw clX3_66 (As := [.ref (gA G 10), .int x3]) (rest := []) (c_X8_at aX_10 h5) hl.1 rfl ⟨(Nat.le_of_ble_eq_true rfl), (Nat.le_of_ble_eq_true rfl)⟩ ⟨Nat.zero_le _, Nat.zero_le _⟩ rfl (Nat.le_of_ble_eq_true rfl) dX3_marginIfPlaced_44) (fun H locs hw => ?_)
  refine lv_istore (lv' := [(6, .int q5), (5, .int q4), (4, .int (q1 - q2)), (0, .ref (gA G 3)), (1, .int x1), (2, .int x2), (3, .int x3)]) C.1.1 C.1.2.1 dX3_marginIfPlaced_47 hl (by decide) rfl (fun ls hl => ?_)
  refine lv_iload C.1.1 C.1.2.1 dX3_marginIfPlaced_49 (lv_at hl 1 rfl) ?_
  refine lv_iload C.1.1 C.1.2.1 dX3_marginIfPlaced_51 (lv_at hl 2 rfl) ?_
  obtain ⟨q6, h6, hf⟩ := o_bind hf
  refine aft_i hw (run_S C hw clX3_138 (As := [.int q4, .int (q1 - q2)]) (rest := []) (c_J6_compare_7cf53 h6) hl.1 rfl ⟨(Nat.le_of_ble_eq_true rfl), (Nat.le_of_ble_eq_true rfl)⟩ ⟨Nat.zero_le _, Nat.zero_le _⟩ rfl (Nat.le_of_ble_eq_true rfl) dX3_marginIfPlaced_53) (fun H locs hw => ?_)
  refine lv_iload C.1.1 C.1.2.1 dX3_marginIfPlaced_56 (lv_at hl 1 rfl) ?_
  refine lv_iconst (v := (0 : Int32)) C.1.1 C.1.2.1 dX3_marginIfPlaced_58 rfl ?_
  obtain ⟨q7, h7, hf⟩ := o_bind hf
  refine aft_i hw (run_S C hw clX3_138 (As := [.int q4, .int (0 : Int32)]) (rest := [.int q6]) (c_J6_compare_7cf53 h7) hl.1 rfl ⟨(Nat.le_of_ble_eq_true rfl), (Nat.le_of_ble_eq_true rfl)⟩ ⟨Nat.zero_le _, Nat.zero_le _⟩ rfl (Nat.le_of_ble_eq_true rfl) dX3_marginIfPlaced_59) (fun H locs hw => ?_)
  refine lv_isub C.1.1 C.1.2.1 dX3_marginIfPlaced_62 ?_
  refine lv_iload C.1.1 C.1.2.1 dX3_marginIfPlaced_63 (lv_at hl 0 rfl) ?_
  refine lv_iload C.1.1 C.1.2.1 dX3_marginIfPlaced_65 (lv_at hl 2 rfl) ?_
  refine lv_ineg C.1.1 C.1.2.1 dX3_marginIfPlaced_67 ?_
  obtain ⟨q8, h8, hf⟩ := o_bind hf
  refine aft_i hw (run_S C hw clX3_138 (As := [.int q5, .int (-(q1 - q2))]) (rest := [.int (q6 - q7)]) (c_J6_compare_7cf53 h8) hl.1 rfl ⟨(Nat.le_of_ble_eq_true rfl), (Nat.le_of_ble_eq_true rfl)⟩ ⟨Nat.zero_le _, Nat.zero_le _⟩ rfl (Nat.le_of_ble_eq_true rfl) dX3_marginIfPlaced_68) (fun H locs hw => ?_)
  refine lv_iadd C.1.1 C.1.2.1 dX3_marginIfPlaced_71 ?_
  refine lv_iload C.1.1 C.1.2.1 dX3_marginIfPlaced_72 (lv_at hl 0 rfl) ?_
  refine lv_iconst (v := (0 : Int32)) C.1.1 C.1.2.1 dX3_marginIfPlaced_74 rfl ?_
  obtain ⟨q9, h9, hf⟩ := o_bind hf
  refine aft_i hw (run_S C hw clX3_138 (As := [.int q5, .int (0 : Int32)]) (rest := [.int ((q6 - q7) + q8)]) (c_J6_compare_7cf53 h9) hl.1 rfl ⟨(Nat.le_of_ble_eq_true rfl), (Nat.le_of_ble_eq_true rfl)⟩ ⟨Nat.zero_le _, Nat.zero_le _⟩ rfl (Nat.le_of_ble_eq_true rfl) dX3_marginIfPlaced_75) (fun H locs hw => ?_)
  refine lv_isub C.1.1 C.1.2.1 dX3_marginIfPlaced_78 ?_
  refine lv_istore (lv' := [(7, .int (((q6 - q7) + q8) - q9)), (6, .int q5), (5, .int q4), (4, .int (q1 - q2)), (0, .ref (gA G 3)), (1, .int x1), (2, .int x2), (3, .int x3)]) C.1.1 C.1.2.1 dX3_marginIfPlaced_79 hl (by decide) rfl (fun ls hl => ?_)
  refine lv_aload_n C.1.1 C.1.2.1 dX3_marginIfPlaced_81 rfl (lv_at hl 4 rfl) ?_
  refine lv_iload_n C.1.1 C.1.2.1 dX3_marginIfPlaced_82 rfl (lv_at hl 5 rfl) ?_
  obtain ⟨q10, h10, hf⟩ := o_bind hf
  refine aft_i hw (run_VX C hw clX3_168 (As := [.int x1]) (rest := []) oX_3 (c_X3_margin h10) rfl hl.1 rfl ⟨(Nat.le_of_ble_eq_true rfl), (Nat.le_of_ble_eq_true rfl)⟩ ⟨Nat.zero_le _, Nat.zero_le _⟩ rfl (Nat.le_of_ble_eq_true rfl) dX3_marginIfPlaced_83) (fun H locs hw => ?_)
  refine lv_iload_n C.1.1 C.1.2.1 dX3_marginIfPlaced_86 rfl (lv_at hl 5 rfl) ?_
  refine lv_if_ne (tgt := 95) C.1.1 C.1.2.1 dX3_marginIfPlaced_87 (by decide) (fun c11 => ?_) (fun c11 => ?_)
  · have hf := o_f hf c11
    refine lv_iload C.1.1 C.1.2.1 dX3_marginIfPlaced_95 (lv_at hl 0 rfl) ?_
    refine lv_ineg C.1.1 C.1.2.1 dX3_marginIfPlaced_97 ?_
    refine lv_iadd C.1.1 C.1.2.1 dX3_marginIfPlaced_98 ?_
    obtain rfl := Option.some.inj hf
    exact ret_i C hr hlk hw dX3_marginIfPlaced_99
  · have hf := o_t hf c11
    refine lv_iload C.1.1 C.1.2.1 dX3_marginIfPlaced_90 (lv_at hl 0 rfl) ?_
    refine lv_goto (tgt := 98) C.1.1 C.1.2.1 dX3_marginIfPlaced_92 (by decide) ?_
    refine lv_iadd C.1.1 C.1.2.1 dX3_marginIfPlaced_98 ?_
    obtain rfl := Option.some.inj hf
    exact ret_i C hr hlk hw dX3_marginIfPlaced_99
end
/-! WinnerDraws$Law.tell(II)V (('o', 'X', 19) ('i',) ('i',)) -/
def f_X4_tell (X : TX) (x1 : Int32) (x2 : Int32) : Option (TX) := (f_X8_put 22 X x1 x2).bind fun q1 => some q1
section
variable {G : GP} {l : Launch}
set_option maxRecDepth 20000 in
set_option maxHeartbeats 2000000 in
theorem c_X4_tell   {X M : TX} {L : TL} {x1 : Int32} {x2 : Int32} {ro : TX} (hf : f_X4_tell X x1 x2 = some ro) : CTv G l yX4_tell cX4_tell 3 none 1 22 [.ref (gA G 19), .int x1, .int x2] X M L ro M L := by
  unfold f_X4_tell at hf
  refine ct_of (by decide +kernel) (Nat.le_of_ble_eq_true rfl) (fun p e s m args below meth c H locs ls C hr hlk hw hl => ?_)
  have C : Cx G p s m args c cX4_tell 3 RX4 := C
  have hl : lv_has ls 3 [(0, .ref (gA G 19)), (1, .int x1), (2, .int x2)] := hl
  refine lv_aload_n C.1.1 C.1.2.1 dX4_tell_0 rfl (lv_at hl 0 rfl) ?_
  refine x_ref C hw fX_19_2 flX4_18 dX4_tell_1 ?_
  refine lv_iload_n C.1.1 C.1.2.1 dX4_tell_4 rfl (lv_at hl 1 rfl) ?_
  refine lv_iload_n C.1.1 C.1.2.1 dX4_tell_5 rfl (lv_at hl 2 rfl) ?_
  obtain ⟨q1, h1, hf⟩ := o_bind hf
  refine aft_v hw (run_S C hw clX4_29 (As := [.ref (gA G 22), .int x1, .int x2]) (rest := []) (c_X8_put aX_22 h1) hl.1 rfl ⟨(Nat.le_of_ble_eq_true rfl), (Nat.le_of_ble_eq_true rfl)⟩ ⟨Nat.zero_le _, Nat.zero_le _⟩ rfl (Nat.le_of_ble_eq_true rfl) dX4_tell_6) (fun H locs hw => ?_)
  obtain rfl := Option.some.inj hf
  exact ret_v C hr hlk hw dX4_tell_9
end
/-! WinnerDraws$County.wardOf(I)I (('o', 'X', 3) ('i',)) -/
def f_X3_wardOf (X : TX) (x1 : Int32) : Option (Int32) := (f_X8_at 4 X x1).bind fun q1 => some q1
section
variable {G : GP} {l : Launch}
set_option maxRecDepth 20000 in
set_option maxHeartbeats 2000000 in
theorem c_X3_wardOf   {X M : TX} {L : TL} {x1 : Int32} {ro : Int32} (hf : f_X3_wardOf X x1 = some ro) : CTi G l yX3_wardOf cX3_wardOf 2 (some .int) 1 21 [.ref (gA G 3), .int x1] X M L X M L ro := by
  unfold f_X3_wardOf at hf
  refine ct_of (by decide +kernel) (Nat.le_of_ble_eq_true rfl) (fun p e s m args below meth c H locs ls C hr hlk hw hl => ?_)
  have C : Cx G p s m args c cX3_wardOf 2 RX3 := C
  have hl : lv_has ls 2 [(0, .ref (gA G 3)), (1, .int x1)] := hl
  refine lv_aload_n C.1.1 C.1.2.1 dX3_wardOf_0 rfl (lv_at hl 0 rfl) ?_
  refine x_ref C hw fX_3_0 flX3_9 dX3_wardOf_1 ?_
  refine lv_iload_n C.1.1 C.1.2.1 dX3_wardOf_4 rfl (lv_at hl 1 rfl) ?_
  obtain ⟨q1, h1, hf⟩ := o_bind hf
  refine aft_i hw (run_S C hw clX3_66 (As := [.ref (gA G 4), .int x1]) (rest := []) (c_X8_at aX_4 h1) hl.1 rfl ⟨(Nat.le_of_ble_eq_true rfl), (Nat.le_of_ble_eq_true rfl)⟩ ⟨Nat.zero_le _, Nat.zero_le _⟩ rfl (Nat.le_of_ble_eq_true rfl) dX3_wardOf_5) (fun H locs hw => ?_)
  obtain rfl := Option.some.inj hf
  exact ret_i C hr hlk hw dX3_wardOf_8
end
/-! WinnerDraws$County.membersOf(I)I (('o', 'X', 3) ('i',)) -/
def f_X3_membersOf (X : TX) (x1 : Int32) : Option (Int32) := (f_X8_at 9 X x1).bind fun q1 => some q1
section
variable {G : GP} {l : Launch}
set_option maxRecDepth 20000 in
set_option maxHeartbeats 2000000 in
theorem c_X3_membersOf   {X M : TX} {L : TL} {x1 : Int32} {ro : Int32} (hf : f_X3_membersOf X x1 = some ro) : CTi G l yX3_membersOf cX3_membersOf 2 (some .int) 1 21 [.ref (gA G 3), .int x1] X M L X M L ro := by
  unfold f_X3_membersOf at hf
  refine ct_of (by decide +kernel) (Nat.le_of_ble_eq_true rfl) (fun p e s m args below meth c H locs ls C hr hlk hw hl => ?_)
  have C : Cx G p s m args c cX3_membersOf 2 RX3 := C
  have hl : lv_has ls 2 [(0, .ref (gA G 3)), (1, .int x1)] := hl
  refine lv_aload_n C.1.1 C.1.2.1 dX3_membersOf_0 rfl (lv_at hl 0 rfl) ?_
  refine x_ref C hw fX_3_12 flX3_34 dX3_membersOf_1 ?_
  refine lv_iload_n C.1.1 C.1.2.1 dX3_membersOf_4 rfl (lv_at hl 1 rfl) ?_
  obtain ⟨q1, h1, hf⟩ := o_bind hf
  refine aft_i hw (run_S C hw clX3_66 (As := [.ref (gA G 9), .int x1]) (rest := []) (c_X8_at aX_9 h1) hl.1 rfl ⟨(Nat.le_of_ble_eq_true rfl), (Nat.le_of_ble_eq_true rfl)⟩ ⟨Nat.zero_le _, Nat.zero_le _⟩ rfl (Nat.le_of_ble_eq_true rfl) dX3_membersOf_5) (fun H locs hw => ?_)
  obtain rfl := Option.some.inj hf
  exact ret_i C hr hlk hw dX3_membersOf_8
end
/-! java/lang/Integer.bitCount(I)I (('i',)) -/
def f_J6_bitCount_0f7a4 (x0 : Int32) : Option (Int32) := some ((((((((x0 - ((((Int32.toUInt32 x0) >>> ((Int32.toUInt32 (1 : Int32)) &&& Int32.toUInt32 31)).toInt32) &&& (1431655765 : Int32))) &&& (858993459 : Int32)) + ((((Int32.toUInt32 (x0 - ((((Int32.toUInt32 x0) >>> ((Int32.toUInt32 (1 : Int32)) &&& Int32.toUInt32 31)).toInt32) &&& (1431655765 : Int32)))) >>> ((Int32.toUInt32 (2 : Int32)) &&& Int32.toUInt32 31)).toInt32) &&& (858993459 : Int32))) + (((Int32.toUInt32 (((x0 - ((((Int32.toUInt32 x0) >>> ((Int32.toUInt32 (1 : Int32)) &&& Int32.toUInt32 31)).toInt32) &&& (1431655765 : Int32))) &&& (858993459 : Int32)) + ((((Int32.toUInt32 (x0 - ((((Int32.toUInt32 x0) >>> ((Int32.toUInt32 (1 : Int32)) &&& Int32.toUInt32 31)).toInt32) &&& (1431655765 : Int32)))) >>> ((Int32.toUInt32 (2 : Int32)) &&& Int32.toUInt32 31)).toInt32) &&& (858993459 : Int32)))) >>> ((Int32.toUInt32 (4 : Int32)) &&& Int32.toUInt32 31)).toInt32)) &&& (252645135 : Int32)) + (((Int32.toUInt32 (((((x0 - ((((Int32.toUInt32 x0) >>> ((Int32.toUInt32 (1 : Int32)) &&& Int32.toUInt32 31)).toInt32) &&& (1431655765 : Int32))) &&& (858993459 : Int32)) + ((((Int32.toUInt32 (x0 - ((((Int32.toUInt32 x0) >>> ((Int32.toUInt32 (1 : Int32)) &&& Int32.toUInt32 31)).toInt32) &&& (1431655765 : Int32)))) >>> ((Int32.toUInt32 (2 : Int32)) &&& Int32.toUInt32 31)).toInt32) &&& (858993459 : Int32))) + (((Int32.toUInt32 (((x0 - ((((Int32.toUInt32 x0) >>> ((Int32.toUInt32 (1 : Int32)) &&& Int32.toUInt32 31)).toInt32) &&& (1431655765 : Int32))) &&& (858993459 : Int32)) + ((((Int32.toUInt32 (x0 - ((((Int32.toUInt32 x0) >>> ((Int32.toUInt32 (1 : Int32)) &&& Int32.toUInt32 31)).toInt32) &&& (1431655765 : Int32)))) >>> ((Int32.toUInt32 (2 : Int32)) &&& Int32.toUInt32 31)).toInt32) &&& (858993459 : Int32)))) >>> ((Int32.toUInt32 (4 : Int32)) &&& Int32.toUInt32 31)).toInt32)) &&& (252645135 : Int32))) >>> ((Int32.toUInt32 (8 : Int32)) &&& Int32.toUInt32 31)).toInt32)) + (((Int32.toUInt32 ((((((x0 - ((((Int32.toUInt32 x0) >>> ((Int32.toUInt32 (1 : Int32)) &&& Int32.toUInt32 31)).toInt32) &&& (1431655765 : Int32))) &&& (858993459 : Int32)) + ((((Int32.toUInt32 (x0 - ((((Int32.toUInt32 x0) >>> ((Int32.toUInt32 (1 : Int32)) &&& Int32.toUInt32 31)).toInt32) &&& (1431655765 : Int32)))) >>> ((Int32.toUInt32 (2 : Int32)) &&& Int32.toUInt32 31)).toInt32) &&& (858993459 : Int32))) + (((Int32.toUInt32 (((x0 - ((((Int32.toUInt32 x0) >>> ((Int32.toUInt32 (1 : Int32)) &&& Int32.toUInt32 31)).toInt32) &&& (1431655765 : Int32))) &&& (858993459 : Int32)) + ((((Int32.toUInt32 (x0 - ((((Int32.toUInt32 x0) >>> ((Int32.toUInt32 (1 : Int32)) &&& Int32.toUInt32 31)).toInt32) &&& (1431655765 : Int32)))) >>> ((Int32.toUInt32 (2 : Int32)) &&& Int32.toUInt32 31)).toInt32) &&& (858993459 : Int32)))) >>> ((Int32.toUInt32 (4 : Int32)) &&& Int32.toUInt32 31)).toInt32)) &&& (252645135 : Int32)) + (((Int32.toUInt32 (((((x0 - ((((Int32.toUInt32 x0) >>> ((Int32.toUInt32 (1 : Int32)) &&& Int32.toUInt32 31)).toInt32) &&& (1431655765 : Int32))) &&& (858993459 : Int32)) + ((((Int32.toUInt32 (x0 - ((((Int32.toUInt32 x0) >>> ((Int32.toUInt32 (1 : Int32)) &&& Int32.toUInt32 31)).toInt32) &&& (1431655765 : Int32)))) >>> ((Int32.toUInt32 (2 : Int32)) &&& Int32.toUInt32 31)).toInt32) &&& (858993459 : Int32))) + (((Int32.toUInt32 (((x0 - ((((Int32.toUInt32 x0) >>> ((Int32.toUInt32 (1 : Int32)) &&& Int32.toUInt32 31)).toInt32) &&& (1431655765 : Int32))) &&& (858993459 : Int32)) + ((((Int32.toUInt32 (x0 - ((((Int32.toUInt32 x0) >>> ((Int32.toUInt32 (1 : Int32)) &&& Int32.toUInt32 31)).toInt32) &&& (1431655765 : Int32)))) >>> ((Int32.toUInt32 (2 : Int32)) &&& Int32.toUInt32 31)).toInt32) &&& (858993459 : Int32)))) >>> ((Int32.toUInt32 (4 : Int32)) &&& Int32.toUInt32 31)).toInt32)) &&& (252645135 : Int32))) >>> ((Int32.toUInt32 (8 : Int32)) &&& Int32.toUInt32 31)).toInt32))) >>> ((Int32.toUInt32 (16 : Int32)) &&& Int32.toUInt32 31)).toInt32)) &&& (63 : Int32))
section
variable {G : GP} {l : Launch}
set_option maxRecDepth 20000 in
set_option maxHeartbeats 2000000 in
theorem c_J6_bitCount_0f7a4   {X M : TX} {L : TL} {x0 : Int32} {ro : Int32} (hf : f_J6_bitCount_0f7a4 x0 = some ro) : CTi G l yJ6_bitCount_0f7a4 cJ6_bitCount_0f7a4 1 (some .int) 0 0 [.int x0] X M L X M L ro := by
  unfold f_J6_bitCount_0f7a4 at hf
  refine ct_of (by decide +kernel) (Nat.le_of_ble_eq_true rfl) (fun p e s m args below meth c H locs ls C hr hlk hw hl => ?_)
  have C : Cx G p s m args c cJ6_bitCount_0f7a4 1 RJ6 := C
  have hl : lv_has ls 1 [(0, .int x0)] := hl
  refine lv_iload_n C.1.1 C.1.2.1 dJ6_bitCount_0f7a4_0 rfl (lv_at hl 0 rfl) ?_
  refine lv_iload_n C.1.1 C.1.2.1 dJ6_bitCount_0f7a4_1 rfl (lv_at hl 0 rfl) ?_
  refine lv_iconst (v := (1 : Int32)) C.1.1 C.1.2.1 dJ6_bitCount_0f7a4_2 rfl ?_
  refine lv_iushr (v := (((Int32.toUInt32 x0) >>> ((Int32.toUInt32 (1 : Int32)) &&& Int32.toUInt32 31)).toInt32)) C.1.1 C.1.2.1 dJ6_bitCount_0f7a4_3 rfl ?_
  refine lv_ldcw (v := (1431655765 : Int32)) C.1.1 C.1.2.1 C.1.2.2.2.1 (C.1.2.2.2.2 _ (tb2 166 rfl rfl)) dJ6_bitCount_0f7a4_4 ?_
  refine lv_iand C.1.1 C.1.2.1 dJ6_bitCount_0f7a4_7 ?_
  refine lv_isub C.1.1 C.1.2.1 dJ6_bitCount_0f7a4_8 ?_
  refine lv_istore_n (lv' := [(0, .int (x0 - ((((Int32.toUInt32 x0) >>> ((Int32.toUInt32 (1 : Int32)) &&& Int32.toUInt32 31)).toInt32) &&& (1431655765 : Int32))))]) C.1.1 C.1.2.1 dJ6_bitCount_0f7a4_9 rfl hl (by decide) rfl (fun ls hl => ?_)
  refine lv_iload_n C.1.1 C.1.2.1 dJ6_bitCount_0f7a4_10 rfl (lv_at hl 0 rfl) ?_
  refine lv_ldcw (v := (858993459 : Int32)) C.1.1 C.1.2.1 C.1.2.2.2.1 (C.1.2.2.2.2 _ (tb2 167 rfl rfl)) dJ6_bitCount_0f7a4_11 ?_
  refine lv_iand C.1.1 C.1.2.1 dJ6_bitCount_0f7a4_14 ?_
  refine lv_iload_n C.1.1 C.1.2.1 dJ6_bitCount_0f7a4_15 rfl (lv_at hl 0 rfl) ?_
  refine lv_iconst (v := (2 : Int32)) C.1.1 C.1.2.1 dJ6_bitCount_0f7a4_16 rfl ?_
  refine lv_iushr (v := (((Int32.toUInt32 (x0 - ((((Int32.toUInt32 x0) >>> ((Int32.toUInt32 (1 : Int32)) &&& Int32.toUInt32 31)).toInt32) &&& (1431655765 : Int32)))) >>> ((Int32.toUInt32 (2 : Int32)) &&& Int32.toUInt32 31)).toInt32)) C.1.1 C.1.2.1 dJ6_bitCount_0f7a4_17 rfl ?_
  refine lv_ldcw (v := (858993459 : Int32)) C.1.1 C.1.2.1 C.1.2.2.2.1 (C.1.2.2.2.2 _ (tb2 167 rfl rfl)) dJ6_bitCount_0f7a4_18 ?_
  refine lv_iand C.1.1 C.1.2.1 dJ6_bitCount_0f7a4_21 ?_
  refine lv_iadd C.1.1 C.1.2.1 dJ6_bitCount_0f7a4_22 ?_
  refine lv_istore_n (lv' := [(0, .int (((x0 - ((((Int32.toUInt32 x0) >>> ((Int32.toUInt32 (1 : Int32)) &&& Int32.toUInt32 31)).toInt32) &&& (1431655765 : Int32))) &&& (858993459 : Int32)) + ((((Int32.toUInt32 (x0 - ((((Int32.toUInt32 x0) >>> ((Int32.toUInt32 (1 : Int32)) &&& Int32.toUInt32 31)).toInt32) &&& (1431655765 : Int32)))) >>> ((Int32.toUInt32 (2 : Int32)) &&& Int32.toUInt32 31)).toInt32) &&& (858993459 : Int32))))]) C.1.1 C.1.2.1 dJ6_bitCount_0f7a4_23 rfl hl (by decide) rfl (fun ls hl => ?_)
  refine lv_iload_n C.1.1 C.1.2.1 dJ6_bitCount_0f7a4_24 rfl (lv_at hl 0 rfl) ?_
  refine lv_iload_n C.1.1 C.1.2.1 dJ6_bitCount_0f7a4_25 rfl (lv_at hl 0 rfl) ?_
  refine lv_iconst (v := (4 : Int32)) C.1.1 C.1.2.1 dJ6_bitCount_0f7a4_26 rfl ?_
  refine lv_iushr (v := (((Int32.toUInt32 (((x0 - ((((Int32.toUInt32 x0) >>> ((Int32.toUInt32 (1 : Int32)) &&& Int32.toUInt32 31)).toInt32) &&& (1431655765 : Int32))) &&& (858993459 : Int32)) + ((((Int32.toUInt32 (x0 - ((((Int32.toUInt32 x0) >>> ((Int32.toUInt32 (1 : Int32)) &&& Int32.toUInt32 31)).toInt32) &&& (1431655765 : Int32)))) >>> ((Int32.toUInt32 (2 : Int32)) &&& Int32.toUInt32 31)).toInt32) &&& (858993459 : Int32)))) >>> ((Int32.toUInt32 (4 : Int32)) &&& Int32.toUInt32 31)).toInt32)) C.1.1 C.1.2.1 dJ6_bitCount_0f7a4_27 rfl ?_
  refine lv_iadd C.1.1 C.1.2.1 dJ6_bitCount_0f7a4_28 ?_
  refine lv_ldcw (v := (252645135 : Int32)) C.1.1 C.1.2.1 C.1.2.2.2.1 (C.1.2.2.2.2 _ (tb2 168 rfl rfl)) dJ6_bitCount_0f7a4_29 ?_
  refine lv_iand C.1.1 C.1.2.1 dJ6_bitCount_0f7a4_32 ?_
  refine lv_istore_n (lv' := [(0, .int (((((x0 - ((((Int32.toUInt32 x0) >>> ((Int32.toUInt32 (1 : Int32)) &&& Int32.toUInt32 31)).toInt32) &&& (1431655765 : Int32))) &&& (858993459 : Int32)) + ((((Int32.toUInt32 (x0 - ((((Int32.toUInt32 x0) >>> ((Int32.toUInt32 (1 : Int32)) &&& Int32.toUInt32 31)).toInt32) &&& (1431655765 : Int32)))) >>> ((Int32.toUInt32 (2 : Int32)) &&& Int32.toUInt32 31)).toInt32) &&& (858993459 : Int32))) + (((Int32.toUInt32 (((x0 - ((((Int32.toUInt32 x0) >>> ((Int32.toUInt32 (1 : Int32)) &&& Int32.toUInt32 31)).toInt32) &&& (1431655765 : Int32))) &&& (858993459 : Int32)) + ((((Int32.toUInt32 (x0 - ((((Int32.toUInt32 x0) >>> ((Int32.toUInt32 (1 : Int32)) &&& Int32.toUInt32 31)).toInt32) &&& (1431655765 : Int32)))) >>> ((Int32.toUInt32 (2 : Int32)) &&& Int32.toUInt32 31)).toInt32) &&& (858993459 : Int32)))) >>> ((Int32.toUInt32 (4 : Int32)) &&& Int32.toUInt32 31)).toInt32)) &&& (252645135 : Int32)))]) C.1.1 C.1.2.1 dJ6_bitCount_0f7a4_33 rfl hl (by decide) rfl (fun ls hl => ?_)
  refine lv_iload_n C.1.1 C.1.2.1 dJ6_bitCount_0f7a4_34 rfl (lv_at hl 0 rfl) ?_
  refine lv_iload_n C.1.1 C.1.2.1 dJ6_bitCount_0f7a4_35 rfl (lv_at hl 0 rfl) ?_
  refine lv_bipush (v := (8 : Int32)) C.1.1 C.1.2.1 dJ6_bitCount_0f7a4_36 rfl ?_
  refine lv_iushr (v := (((Int32.toUInt32 (((((x0 - ((((Int32.toUInt32 x0) >>> ((Int32.toUInt32 (1 : Int32)) &&& Int32.toUInt32 31)).toInt32) &&& (1431655765 : Int32))) &&& (858993459 : Int32)) + ((((Int32.toUInt32 (x0 - ((((Int32.toUInt32 x0) >>> ((Int32.toUInt32 (1 : Int32)) &&& Int32.toUInt32 31)).toInt32) &&& (1431655765 : Int32)))) >>> ((Int32.toUInt32 (2 : Int32)) &&& Int32.toUInt32 31)).toInt32) &&& (858993459 : Int32))) + (((Int32.toUInt32 (((x0 - ((((Int32.toUInt32 x0) >>> ((Int32.toUInt32 (1 : Int32)) &&& Int32.toUInt32 31)).toInt32) &&& (1431655765 : Int32))) &&& (858993459 : Int32)) + ((((Int32.toUInt32 (x0 - ((((Int32.toUInt32 x0) >>> ((Int32.toUInt32 (1 : Int32)) &&& Int32.toUInt32 31)).toInt32) &&& (1431655765 : Int32)))) >>> ((Int32.toUInt32 (2 : Int32)) &&& Int32.toUInt32 31)).toInt32) &&& (858993459 : Int32)))) >>> ((Int32.toUInt32 (4 : Int32)) &&& Int32.toUInt32 31)).toInt32)) &&& (252645135 : Int32))) >>> ((Int32.toUInt32 (8 : Int32)) &&& Int32.toUInt32 31)).toInt32)) C.1.1 C.1.2.1 dJ6_bitCount_0f7a4_38 rfl ?_
  refine lv_iadd C.1.1 C.1.2.1 dJ6_bitCount_0f7a4_39 ?_
  refine lv_istore_n (lv' := [(0, .int ((((((x0 - ((((Int32.toUInt32 x0) >>> ((Int32.toUInt32 (1 : Int32)) &&& Int32.toUInt32 31)).toInt32) &&& (1431655765 : Int32))) &&& (858993459 : Int32)) + ((((Int32.toUInt32 (x0 - ((((Int32.toUInt32 x0) >>> ((Int32.toUInt32 (1 : Int32)) &&& Int32.toUInt32 31)).toInt32) &&& (1431655765 : Int32)))) >>> ((Int32.toUInt32 (2 : Int32)) &&& Int32.toUInt32 31)).toInt32) &&& (858993459 : Int32))) + (((Int32.toUInt32 (((x0 - ((((Int32.toUInt32 x0) >>> ((Int32.toUInt32 (1 : Int32)) &&& Int32.toUInt32 31)).toInt32) &&& (1431655765 : Int32))) &&& (858993459 : Int32)) + ((((Int32.toUInt32 (x0 - ((((Int32.toUInt32 x0) >>> ((Int32.toUInt32 (1 : Int32)) &&& Int32.toUInt32 31)).toInt32) &&& (1431655765 : Int32)))) >>> ((Int32.toUInt32 (2 : Int32)) &&& Int32.toUInt32 31)).toInt32) &&& (858993459 : Int32)))) >>> ((Int32.toUInt32 (4 : Int32)) &&& Int32.toUInt32 31)).toInt32)) &&& (252645135 : Int32)) + (((Int32.toUInt32 (((((x0 - ((((Int32.toUInt32 x0) >>> ((Int32.toUInt32 (1 : Int32)) &&& Int32.toUInt32 31)).toInt32) &&& (1431655765 : Int32))) &&& (858993459 : Int32)) + ((((Int32.toUInt32 (x0 - ((((Int32.toUInt32 x0) >>> ((Int32.toUInt32 (1 : Int32)) &&& Int32.toUInt32 31)).toInt32) &&& (1431655765 : Int32)))) >>> ((Int32.toUInt32 (2 : Int32)) &&& Int32.toUInt32 31)).toInt32) &&& (858993459 : Int32))) + (((Int32.toUInt32 (((x0 - ((((Int32.toUInt32 x0) >>> ((Int32.toUInt32 (1 : Int32)) &&& Int32.toUInt32 31)).toInt32) &&& (1431655765 : Int32))) &&& (858993459 : Int32)) + ((((Int32.toUInt32 (x0 - ((((Int32.toUInt32 x0) >>> ((Int32.toUInt32 (1 : Int32)) &&& Int32.toUInt32 31)).toInt32) &&& (1431655765 : Int32)))) >>> ((Int32.toUInt32 (2 : Int32)) &&& Int32.toUInt32 31)).toInt32) &&& (858993459 : Int32)))) >>> ((Int32.toUInt32 (4 : Int32)) &&& Int32.toUInt32 31)).toInt32)) &&& (252645135 : Int32))) >>> ((Int32.toUInt32 (8 : Int32)) &&& Int32.toUInt32 31)).toInt32)))]) C.1.1 C.1.2.1 dJ6_bitCount_0f7a4_40 rfl hl (by decide) rfl (fun ls hl => ?_)
  refine lv_iload_n C.1.1 C.1.2.1 dJ6_bitCount_0f7a4_41 rfl (lv_at hl 0 rfl) ?_
  refine lv_iload_n C.1.1 C.1.2.1 dJ6_bitCount_0f7a4_42 rfl (lv_at hl 0 rfl) ?_
  refine lv_bipush (v := (16 : Int32)) C.1.1 C.1.2.1 dJ6_bitCount_0f7a4_43 rfl ?_
  refine lv_iushr (v := (((Int32.toUInt32 ((((((x0 - ((((Int32.toUInt32 x0) >>> ((Int32.toUInt32 (1 : Int32)) &&& Int32.toUInt32 31)).toInt32) &&& (1431655765 : Int32))) &&& (858993459 : Int32)) + ((((Int32.toUInt32 (x0 - ((((Int32.toUInt32 x0) >>> ((Int32.toUInt32 (1 : Int32)) &&& Int32.toUInt32 31)).toInt32) &&& (1431655765 : Int32)))) >>> ((Int32.toUInt32 (2 : Int32)) &&& Int32.toUInt32 31)).toInt32) &&& (858993459 : Int32))) + (((Int32.toUInt32 (((x0 - ((((Int32.toUInt32 x0) >>> ((Int32.toUInt32 (1 : Int32)) &&& Int32.toUInt32 31)).toInt32) &&& (1431655765 : Int32))) &&& (858993459 : Int32)) + ((((Int32.toUInt32 (x0 - ((((Int32.toUInt32 x0) >>> ((Int32.toUInt32 (1 : Int32)) &&& Int32.toUInt32 31)).toInt32) &&& (1431655765 : Int32)))) >>> ((Int32.toUInt32 (2 : Int32)) &&& Int32.toUInt32 31)).toInt32) &&& (858993459 : Int32)))) >>> ((Int32.toUInt32 (4 : Int32)) &&& Int32.toUInt32 31)).toInt32)) &&& (252645135 : Int32)) + (((Int32.toUInt32 (((((x0 - ((((Int32.toUInt32 x0) >>> ((Int32.toUInt32 (1 : Int32)) &&& Int32.toUInt32 31)).toInt32) &&& (1431655765 : Int32))) &&& (858993459 : Int32)) + ((((Int32.toUInt32 (x0 - ((((Int32.toUInt32 x0) >>> ((Int32.toUInt32 (1 : Int32)) &&& Int32.toUInt32 31)).toInt32) &&& (1431655765 : Int32)))) >>> ((Int32.toUInt32 (2 : Int32)) &&& Int32.toUInt32 31)).toInt32) &&& (858993459 : Int32))) + (((Int32.toUInt32 (((x0 - ((((Int32.toUInt32 x0) >>> ((Int32.toUInt32 (1 : Int32)) &&& Int32.toUInt32 31)).toInt32) &&& (1431655765 : Int32))) &&& (858993459 : Int32)) + ((((Int32.toUInt32 (x0 - ((((Int32.toUInt32 x0) >>> ((Int32.toUInt32 (1 : Int32)) &&& Int32.toUInt32 31)).toInt32) &&& (1431655765 : Int32)))) >>> ((Int32.toUInt32 (2 : Int32)) &&& Int32.toUInt32 31)).toInt32) &&& (858993459 : Int32)))) >>> ((Int32.toUInt32 (4 : Int32)) &&& Int32.toUInt32 31)).toInt32)) &&& (252645135 : Int32))) >>> ((Int32.toUInt32 (8 : Int32)) &&& Int32.toUInt32 31)).toInt32))) >>> ((Int32.toUInt32 (16 : Int32)) &&& Int32.toUInt32 31)).toInt32)) C.1.1 C.1.2.1 dJ6_bitCount_0f7a4_45 rfl ?_
  refine lv_iadd C.1.1 C.1.2.1 dJ6_bitCount_0f7a4_46 ?_
  refine lv_istore_n (lv' := [(0, .int (((((((x0 - ((((Int32.toUInt32 x0) >>> ((Int32.toUInt32 (1 : Int32)) &&& Int32.toUInt32 31)).toInt32) &&& (1431655765 : Int32))) &&& (858993459 : Int32)) + ((((Int32.toUInt32 (x0 - ((((Int32.toUInt32 x0) >>> ((Int32.toUInt32 (1 : Int32)) &&& Int32.toUInt32 31)).toInt32) &&& (1431655765 : Int32)))) >>> ((Int32.toUInt32 (2 : Int32)) &&& Int32.toUInt32 31)).toInt32) &&& (858993459 : Int32))) + (((Int32.toUInt32 (((x0 - ((((Int32.toUInt32 x0) >>> ((Int32.toUInt32 (1 : Int32)) &&& Int32.toUInt32 31)).toInt32) &&& (1431655765 : Int32))) &&& (858993459 : Int32)) + ((((Int32.toUInt32 (x0 - ((((Int32.toUInt32 x0) >>> ((Int32.toUInt32 (1 : Int32)) &&& Int32.toUInt32 31)).toInt32) &&& (1431655765 : Int32)))) >>> ((Int32.toUInt32 (2 : Int32)) &&& Int32.toUInt32 31)).toInt32) &&& (858993459 : Int32)))) >>> ((Int32.toUInt32 (4 : Int32)) &&& Int32.toUInt32 31)).toInt32)) &&& (252645135 : Int32)) + (((Int32.toUInt32 (((((x0 - ((((Int32.toUInt32 x0) >>> ((Int32.toUInt32 (1 : Int32)) &&& Int32.toUInt32 31)).toInt32) &&& (1431655765 : Int32))) &&& (858993459 : Int32)) + ((((Int32.toUInt32 (x0 - ((((Int32.toUInt32 x0) >>> ((Int32.toUInt32 (1 : Int32)) &&& Int32.toUInt32 31)).toInt32) &&& (1431655765 : Int32)))) >>> ((Int32.toUInt32 (2 : Int32)) &&& Int32.toUInt32 31)).toInt32) &&& (858993459 : Int32))) + (((Int32.toUInt32 (((x0 - ((((Int32.toUInt32 x0) >>> ((Int32.toUInt32 (1 : Int32)) &&& Int32.toUInt32 31)).toInt32) &&& (1431655765 : Int32))) &&& (858993459 : Int32)) + ((((Int32.toUInt32 (x0 - ((((Int32.toUInt32 x0) >>> ((Int32.toUInt32 (1 : Int32)) &&& Int32.toUInt32 31)).toInt32) &&& (1431655765 : Int32)))) >>> ((Int32.toUInt32 (2 : Int32)) &&& Int32.toUInt32 31)).toInt32) &&& (858993459 : Int32)))) >>> ((Int32.toUInt32 (4 : Int32)) &&& Int32.toUInt32 31)).toInt32)) &&& (252645135 : Int32))) >>> ((Int32.toUInt32 (8 : Int32)) &&& Int32.toUInt32 31)).toInt32)) + (((Int32.toUInt32 ((((((x0 - ((((Int32.toUInt32 x0) >>> ((Int32.toUInt32 (1 : Int32)) &&& Int32.toUInt32 31)).toInt32) &&& (1431655765 : Int32))) &&& (858993459 : Int32)) + ((((Int32.toUInt32 (x0 - ((((Int32.toUInt32 x0) >>> ((Int32.toUInt32 (1 : Int32)) &&& Int32.toUInt32 31)).toInt32) &&& (1431655765 : Int32)))) >>> ((Int32.toUInt32 (2 : Int32)) &&& Int32.toUInt32 31)).toInt32) &&& (858993459 : Int32))) + (((Int32.toUInt32 (((x0 - ((((Int32.toUInt32 x0) >>> ((Int32.toUInt32 (1 : Int32)) &&& Int32.toUInt32 31)).toInt32) &&& (1431655765 : Int32))) &&& (858993459 : Int32)) + ((((Int32.toUInt32 (x0 - ((((Int32.toUInt32 x0) >>> ((Int32.toUInt32 (1 : Int32)) &&& Int32.toUInt32 31)).toInt32) &&& (1431655765 : Int32)))) >>> ((Int32.toUInt32 (2 : Int32)) &&& Int32.toUInt32 31)).toInt32) &&& (858993459 : Int32)))) >>> ((Int32.toUInt32 (4 : Int32)) &&& Int32.toUInt32 31)).toInt32)) &&& (252645135 : Int32)) + (((Int32.toUInt32 (((((x0 - ((((Int32.toUInt32 x0) >>> ((Int32.toUInt32 (1 : Int32)) &&& Int32.toUInt32 31)).toInt32) &&& (1431655765 : Int32))) &&& (858993459 : Int32)) + ((((Int32.toUInt32 (x0 - ((((Int32.toUInt32 x0) >>> ((Int32.toUInt32 (1 : Int32)) &&& Int32.toUInt32 31)).toInt32) &&& (1431655765 : Int32)))) >>> ((Int32.toUInt32 (2 : Int32)) &&& Int32.toUInt32 31)).toInt32) &&& (858993459 : Int32))) + (((Int32.toUInt32 (((x0 - ((((Int32.toUInt32 x0) >>> ((Int32.toUInt32 (1 : Int32)) &&& Int32.toUInt32 31)).toInt32) &&& (1431655765 : Int32))) &&& (858993459 : Int32)) + ((((Int32.toUInt32 (x0 - ((((Int32.toUInt32 x0) >>> ((Int32.toUInt32 (1 : Int32)) &&& Int32.toUInt32 31)).toInt32) &&& (1431655765 : Int32)))) >>> ((Int32.toUInt32 (2 : Int32)) &&& Int32.toUInt32 31)).toInt32) &&& (858993459 : Int32)))) >>> ((Int32.toUInt32 (4 : Int32)) &&& Int32.toUInt32 31)).toInt32)) &&& (252645135 : Int32))) >>> ((Int32.toUInt32 (8 : Int32)) &&& Int32.toUInt32 31)).toInt32))) >>> ((Int32.toUInt32 (16 : Int32)) &&& Int32.toUInt32 31)).toInt32)))]) C.1.1 C.1.2.1 dJ6_bitCount_0f7a4_47 rfl hl (by decide) rfl (fun ls hl => ?_)
  refine lv_iload_n C.1.1 C.1.2.1 dJ6_bitCount_0f7a4_48 rfl (lv_at hl 0 rfl) ?_
  refine lv_bipush (v := (63 : Int32)) C.1.1 C.1.2.1 dJ6_bitCount_0f7a4_49 rfl ?_
  refine lv_iand C.1.1 C.1.2.1 dJ6_bitCount_0f7a4_51 ?_
  obtain rfl := Option.some.inj hf
  exact ret_i C hr hlk hw dJ6_bitCount_0f7a4_52
end
/-! WinnerDraws$County.lines()I (('o', 'X', 3)) -/
def L_X3_lines_4 : Nat → TX → Int32 → Int32 → Option (Int32)
  | 0 => fun _ _ _ => none
  | n + 1 => fun X x1 x2 => if (X 3 5) ≤ x2 then (some (x1 / (2 : Int32))) else ((f_X8_at 6 X x2).bind fun q2 => (f_X8_at 4 X x2).bind fun q3 => (f_X8_at 9 X q3).bind fun q4 => (f_J6_bitCount_0f7a4 (q2 &&& (q4 ^^^ (-1 : Int32)))).bind fun q5 => (L_X3_lines_4 n) X (x1 + q5) (x2 + (1 : Int32)))
def f_X3_lines (X : TX) : Option (Int32) := L_X3_lines_4 FU X (0 : Int32) (0 : Int32)
section
variable {G : GP} {l : Launch}
set_option maxRecDepth 20000 in
set_option maxHeartbeats 2000000 in
theorem wL_X3_lines_4 {p : Program} {e : Env} {s : State} {m : MethodId} {args : Array Value} {below : List Frame} {meth : Method} {c : Code} (C : Cx G p s m args c cX3_lines 3 RX3) (hr : meth.sig.returnType = (some .int)) (hlk : meth.locks = false) {ro : Int32} : ∀ (n : Nat), ∀ (X : TX) (M : TX) (L : TL) (x1 : Int32) (x2 : Int32) (H : Heap) (locs : List Loc) (ls : Array Slot), Wh G s X M L H locs → lv_has ls 3 [(0, .ref (gA G 3)), (1, .int x1), (2, .int x2)] → L_X3_lines_4 n X x1 x2 = some ro → W p l e (rz 1 21) s m args below meth c H locs 0 0 (MQ below (Di G X M L ro) args s 0 0 (AB G)) (F0 m 4 ls []) := by
  intro n
  induction n with
  | zero =>
    intro X M L x1 x2 H locs ls hw hl hf
    cases hf
  | succ n hk_4 =>
    intro X M L x1 x2 H locs ls hw hl hf
    rw [L_X3_lines_4] at hf
    refine lv_iload_n C.1.1 C.1.2.1 dX3_lines_4 rfl (lv_at hl 2 rfl) ?_
    refine lv_aload_n C.1.1 C.1.2.1 dX3_lines_5 rfl (lv_at hl 0 rfl) ?_
    refine x_get C hw iX_3_5 flX3_44 dX3_lines_6 ?_
    refine lv_icmp_ge (tgt := 50) C.1.1 C.1.2.1 dX3_lines_9 (by decide) (fun c1 => ?_) (fun c1 => ?_)
    · have hf := o_t hf c1
      refine lv_iload_n C.1.1 C.1.2.1 dX3_lines_50 rfl (lv_at hl 1 rfl) ?_
      refine lv_iconst (v := (2 : Int32)) C.1.1 C.1.2.1 dX3_lines_51 rfl ?_
      refine lv_idiv C.1.1 C.1.2.1 dX3_lines_52 (by decide) ?_
      obtain rfl := Option.some.inj hf
      exact ret_i C hr hlk hw dX3_lines_53
    · have hf := o_f hf c1
      refine lv_iload_n C.1.1 C.1.2.1 dX3_lines_12 rfl (lv_at hl 1 rfl) ?_
      refine lv_aload_n C.1.1 C.1.2.1 dX3_lines_13 rfl (lv_at hl 0 rfl) ?_
      refine x_ref C hw fX_3_2 flX3_18 dX3_lines_14 ?_
      refine lv_iload_n C.1.1 C.1.2.1 dX3_lines_17 rfl (lv_at hl 2 rfl) ?_
      obtain ⟨q2, h2, hf⟩ := o_bind hf
      refine aft_i hw (run_S C hw clX3_66 (As := [.ref (gA G 6), .int x2]) (rest := [.int x1]) (c_X8_at aX_6 h2) hl.1 rfl ⟨(Nat.le_of_ble_eq_true rfl), (Nat.le_of_ble_eq_true rfl)⟩ ⟨Nat.zero_le _, Nat.zero_le _⟩ rfl (Nat.le_of_ble_eq_true rfl) dX3_lines_18) (fun H locs hw => ?_)
      refine lv_aload_n C.1.1 C.1.2.1 dX3_lines_21 rfl (lv_at hl 0 rfl) ?_
      refine x_ref C hw fX_3_12 flX3_34 dX3_lines_22 ?_
      refine lv_aload_n C.1.1 C.1.2.1 dX3_lines_25 rfl (lv_at hl 0 rfl) ?_
      refine x_ref C hw fX_3_0 flX3_9 dX3_lines_26 ?_
      refine lv_iload_n C.1.1 C.1.2.1 dX3_lines_29 rfl (lv_at hl 2 rfl) ?_
      obtain ⟨q3, h3, hf⟩ := o_bind hf
      refine aft_i hw (run_S C hw clX3_66 (As := [.ref (gA G 4), .int x2]) (rest := [.ref (gA G 9), .int q2, .int x1]) (c_X8_at aX_4 h3) hl.1 rfl ⟨(Nat.le_of_ble_eq_true rfl), (Nat.le_of_ble_eq_true rfl)⟩ ⟨Nat.zero_le _, Nat.zero_le _⟩ rfl (Nat.le_of_ble_eq_true rfl) dX3_lines_30) (fun H locs hw => ?_)
      obtain ⟨q4, h4, hf⟩ := o_bind hf
      refine aft_i hw (run_S C hw clX3_66 (As := [.ref (gA G 9), .int q3]) (rest := [.int q2, .int x1]) (c_X8_at aX_9 h4) hl.1 rfl ⟨(Nat.le_of_ble_eq_true rfl), (Nat.le_of_ble_eq_true rfl)⟩ ⟨Nat.zero_le _, Nat.zero_le _⟩ rfl (Nat.le_of_ble_eq_true rfl) dX3_lines_33) (fun H locs hw => ?_)
      refine lv_iconst (v := (-1 : Int32)) C.1.1 C.1.2.1 dX3_lines_36 rfl ?_
      refine lv_ixor C.1.1 C.1.2.1 dX3_lines_37 ?_
      refine lv_iand C.1.1 C.1.2.1 dX3_lines_38 ?_
      obtain ⟨q5, h5, hf⟩ := o_bind hf
      refine aft_i hw (run_S C hw clX3_153 (As := [.int (q2 &&& (q4 ^^^ (-1 : Int32)))]) (rest := [.int x1]) (c_J6_bitCount_0f7a4 h5) hl.1 rfl ⟨(Nat.le_of_ble_eq_true rfl), (Nat.le_of_ble_eq_true rfl)⟩ ⟨Nat.zero_le _, Nat.zero_le _⟩ rfl (Nat.le_of_ble_eq_true rfl) dX3_lines_39) (fun H locs hw => ?_)
      refine lv_iadd C.1.1 C.1.2.1 dX3_lines_42 ?_
      refine lv_istore_n (lv' := [(1, .int (x1 + q5)), (0, .ref (gA G 3)), (2, .int x2)]) C.1.1 C.1.2.1 dX3_lines_43 rfl hl (by decide) rfl (fun ls hl => ?_)
      refine lv_iinc (v := (x2 + (1 : Int32))) (lv' := [(2, .int (x2 + (1 : Int32))), (1, .int (x1 + q5)), (0, .ref (gA G 3))]) C.1.1 C.1.2.1 dX3_lines_44 hl (k := 2) rfl rfl (by decide) rfl (fun ls hl => ?_)
      refine lv_goto (tgt := 4) C.1.1 C.1.2.1 dX3_lines_47 (by decide) ?_
      exact hk_4 X M L (x1 + q5) (x2 + (1 : Int32)) _ _ _ hw (lv_sub hl [2, 1, 0] rfl) hf
set_option maxRecDepth 20000 in
set_option maxHeartbeats 2000000 in
theorem c_X3_lines   {X M : TX} {L : TL}  {ro : Int32} (hf : f_X3_lines X = some ro) : CTi G l yX3_lines cX3_lines 3 (some .int) 1 21 [.ref (gA G 3)] X M L X M L ro := by
  unfold f_X3_lines at hf
  refine ct_of (by decide +kernel) (Nat.le_of_ble_eq_true rfl) (fun p e s m args below meth c H locs ls C hr hlk hw hl => ?_)
  have C : Cx G p s m args c cX3_lines 3 RX3 := C
  have hl : lv_has ls 3 [(0, .ref (gA G 3))] := hl
  refine lv_iconst (v := (0 : Int32)) C.1.1 C.1.2.1 dX3_lines_0 rfl ?_
  refine lv_istore_n (lv' := [(1, .int (0 : Int32)), (0, .ref (gA G 3))]) C.1.1 C.1.2.1 dX3_lines_1 rfl hl (by decide) rfl (fun ls hl => ?_)
  refine lv_iconst (v := (0 : Int32)) C.1.1 C.1.2.1 dX3_lines_2 rfl ?_
  refine lv_istore_n (lv' := [(2, .int (0 : Int32)), (1, .int (0 : Int32)), (0, .ref (gA G 3))]) C.1.1 C.1.2.1 dX3_lines_3 rfl hl (by decide) rfl (fun ls hl => ?_)
  exact wL_X3_lines_4 C hr hlk FU X M L (0 : Int32) (0 : Int32) _ _ _ hw (lv_sub hl [2, 1, 0] rfl) hf
end
/-! WinnerDraws$Law.joined(III)I (('i',) ('i',) ('i',)) -/
def f_X4_joined (x0 : Int32) (x1 : Int32) (x2 : Int32) : Option (Int32) := if x0 = (-16 : Int32) then (some (if x2 < x1 then x2 else x1)) else (if x0 = (-15 : Int32) then (if x2 = 0 then (some (0 : Int32)) else (if x2 = 0 then none else (some (x1 - x1 / x2 * x2)))) else (if x0 = (-14 : Int32) then (if x2 = 0 then (some (0 : Int32)) else (if x2 = 0 then none else (some (x1 / x2)))) else (if x0 = (-13 : Int32) then (some (x1 * x2)) else (if x0 = (-12 : Int32) then (some (x1 - x2)) else (if x0 = (-11 : Int32) then (some (x1 + x2)) else ((some (if x1 < x2 then x2 else x1))))))))
section
variable {G : GP} {l : Launch}
set_option maxRecDepth 20000 in
set_option maxHeartbeats 2000000 in
theorem c_X4_joined   {X M : TX} {L : TL} {x0 : Int32} {x1 : Int32} {x2 : Int32} {ro : Int32} (hf : f_X4_joined x0 x1 x2 = some ro) : CTi G l yX4_joined cX4_joined 3 (some .int) 1 30 [.int x0, .int x1, .int x2] X M L X M L ro := by
  unfold f_X4_joined at hf
  refine ct_of (by decide +kernel) (Nat.le_of_ble_eq_true rfl) (fun p e s m args below meth c H locs ls C hr hlk hw hl => ?_)
  have C : Cx G p s m args c cX4_joined 3 RX4 := C
  have hl : lv_has ls 3 [(0, .int x0), (1, .int x1), (2, .int x2)] := hl
  refine lv_iload_n C.1.1 C.1.2.1 dX4_joined_0 rfl (lv_at hl 0 rfl) ?_
  by_cases c1 : x0 = (-16 : Int32)
  · have hf := o_t hf c1
    refine lv_tableIn (tgt := 76) (off := 75) C.1.1 C.1.2.1 dX4_joined_1 (by rw [c1]; decide) (by rw [c1]; decide) (by rw [c1]; rfl) (by decide) ?_
    refine lv_iload_n C.1.1 C.1.2.1 dX4_joined_76 rfl (lv_at hl 1 rfl) ?_
    refine lv_iload_n C.1.1 C.1.2.1 dX4_joined_77 rfl (lv_at hl 2 rfl) ?_
    refine x_min C clX4_41 (tb4 137 rfl rfl) hl.1 ⟨(Nat.le_of_ble_eq_true rfl), (Nat.le_of_ble_eq_true rfl)⟩ ⟨Nat.zero_le _, Nat.zero_le _⟩ dX4_joined_78 ?_
    obtain rfl := Option.some.inj hf
    exact ret_i C hr hlk hw dX4_joined_81
  have hf := o_f hf c1
  by_cases c3 : x0 = (-15 : Int32)
  · have hf := o_t hf c3
    refine lv_tableIn (tgt := 64) (off := 63) C.1.1 C.1.2.1 dX4_joined_1 (by rw [c3]; decide) (by rw [c3]; decide) (by rw [c3]; rfl) (by decide) ?_
    refine lv_iload_n C.1.1 C.1.2.1 dX4_joined_64 rfl (lv_at hl 2 rfl) ?_
    refine lv_if_ne (tgt := 72) C.1.1 C.1.2.1 dX4_joined_65 (by decide) (fun c4 => ?_) (fun c4 => ?_)
    · have hf := o_f hf c4
      refine lv_iload_n C.1.1 C.1.2.1 dX4_joined_72 rfl (lv_at hl 1 rfl) ?_
      refine lv_iload_n C.1.1 C.1.2.1 dX4_joined_73 rfl (lv_at hl 2 rfl) ?_
      have g5 := o_n1 hf
      have hf := o_n2 hf
      refine lv_irem C.1.1 C.1.2.1 dX4_joined_74 g5 ?_
      obtain rfl := Option.some.inj hf
      exact ret_i C hr hlk hw dX4_joined_75
    · have hf := o_t hf c4
      refine lv_iconst (v := (0 : Int32)) C.1.1 C.1.2.1 dX4_joined_68 rfl ?_
      refine lv_goto (tgt := 75) C.1.1 C.1.2.1 dX4_joined_69 (by decide) ?_
      obtain rfl := Option.some.inj hf
      exact ret_i C hr hlk hw dX4_joined_75
  have hf := o_f hf c3
  by_cases c6 : x0 = (-14 : Int32)
  · have hf := o_t hf c6
    refine lv_tableIn (tgt := 52) (off := 51) C.1.1 C.1.2.1 dX4_joined_1 (by rw [c6]; decide) (by rw [c6]; decide) (by rw [c6]; rfl) (by decide) ?_
    refine lv_iload_n C.1.1 C.1.2.1 dX4_joined_52 rfl (lv_at hl 2 rfl) ?_
    refine lv_if_ne (tgt := 60) C.1.1 C.1.2.1 dX4_joined_53 (by decide) (fun c7 => ?_) (fun c7 => ?_)
    · have hf := o_f hf c7
      refine lv_iload_n C.1.1 C.1.2.1 dX4_joined_60 rfl (lv_at hl 1 rfl) ?_
      refine lv_iload_n C.1.1 C.1.2.1 dX4_joined_61 rfl (lv_at hl 2 rfl) ?_
      have g8 := o_n1 hf
      have hf := o_n2 hf
      refine lv_idiv C.1.1 C.1.2.1 dX4_joined_62 g8 ?_
      obtain rfl := Option.some.inj hf
      exact ret_i C hr hlk hw dX4_joined_63
    · have hf := o_t hf c7
      refine lv_iconst (v := (0 : Int32)) C.1.1 C.1.2.1 dX4_joined_56 rfl ?_
      refine lv_goto (tgt := 63) C.1.1 C.1.2.1 dX4_joined_57 (by decide) ?_
      obtain rfl := Option.some.inj hf
      exact ret_i C hr hlk hw dX4_joined_63
  have hf := o_f hf c6
  by_cases c9 : x0 = (-13 : Int32)
  · have hf := o_t hf c9
    refine lv_tableIn (tgt := 48) (off := 47) C.1.1 C.1.2.1 dX4_joined_1 (by rw [c9]; decide) (by rw [c9]; decide) (by rw [c9]; rfl) (by decide) ?_
    refine lv_iload_n C.1.1 C.1.2.1 dX4_joined_48 rfl (lv_at hl 1 rfl) ?_
    refine lv_iload_n C.1.1 C.1.2.1 dX4_joined_49 rfl (lv_at hl 2 rfl) ?_
    refine lv_imul C.1.1 C.1.2.1 dX4_joined_50 ?_
    obtain rfl := Option.some.inj hf
    exact ret_i C hr hlk hw dX4_joined_51
  have hf := o_f hf c9
  by_cases c10 : x0 = (-12 : Int32)
  · have hf := o_t hf c10
    refine lv_tableIn (tgt := 44) (off := 43) C.1.1 C.1.2.1 dX4_joined_1 (by rw [c10]; decide) (by rw [c10]; decide) (by rw [c10]; rfl) (by decide) ?_
    refine lv_iload_n C.1.1 C.1.2.1 dX4_joined_44 rfl (lv_at hl 1 rfl) ?_
    refine lv_iload_n C.1.1 C.1.2.1 dX4_joined_45 rfl (lv_at hl 2 rfl) ?_
    refine lv_isub C.1.1 C.1.2.1 dX4_joined_46 ?_
    obtain rfl := Option.some.inj hf
    exact ret_i C hr hlk hw dX4_joined_47
  have hf := o_f hf c10
  by_cases c11 : x0 = (-11 : Int32)
  · have hf := o_t hf c11
    refine lv_tableIn (tgt := 40) (off := 39) C.1.1 C.1.2.1 dX4_joined_1 (by rw [c11]; decide) (by rw [c11]; decide) (by rw [c11]; rfl) (by decide) ?_
    refine lv_iload_n C.1.1 C.1.2.1 dX4_joined_40 rfl (lv_at hl 1 rfl) ?_
    refine lv_iload_n C.1.1 C.1.2.1 dX4_joined_41 rfl (lv_at hl 2 rfl) ?_
    refine lv_iadd C.1.1 C.1.2.1 dX4_joined_42 ?_
    obtain rfl := Option.some.inj hf
    exact ret_i C hr hlk hw dX4_joined_43
  have hf := o_f hf c11
  have ho : (Int32.toInt x0) < -16 ∨ -11 < (Int32.toInt x0) := by
    rcases (by omega : (Int32.toInt x0) < -16 ∨ -11 < (Int32.toInt x0) ∨ (Int32.toInt x0) = -16 ∨ (Int32.toInt x0) = -15 ∨ (Int32.toInt x0) = -14 ∨ (Int32.toInt x0) = -13 ∨ (Int32.toInt x0) = -12 ∨ (Int32.toInt x0) = -11) with q | q | q | q | q | q | q | q
    · exact Or.inl q
    · exact Or.inr q
    · exact absurd (Int32.toInt_inj.mp (q.trans (by decide))) c1
    · exact absurd (Int32.toInt_inj.mp (q.trans (by decide))) c3
    · exact absurd (Int32.toInt_inj.mp (q.trans (by decide))) c6
    · exact absurd (Int32.toInt_inj.mp (q.trans (by decide))) c9
    · exact absurd (Int32.toInt_inj.mp (q.trans (by decide))) c10
    · exact absurd (Int32.toInt_inj.mp (q.trans (by decide))) c11
  refine lv_tableOut (tgt := 82) C.1.1 C.1.2.1 dX4_joined_1 ho (by decide) ?_
  refine lv_iload_n C.1.1 C.1.2.1 dX4_joined_82 rfl (lv_at hl 1 rfl) ?_
  refine lv_iload_n C.1.1 C.1.2.1 dX4_joined_83 rfl (lv_at hl 2 rfl) ?_
  refine x_max C clX4_47 (tb4 138 rfl rfl) hl.1 ⟨(Nat.le_of_ble_eq_true rfl), (Nat.le_of_ble_eq_true rfl)⟩ ⟨Nat.zero_le _, Nat.zero_le _⟩ dX4_joined_84 ?_
  obtain rfl := Option.some.inj hf
  exact ret_i C hr hlk hw dX4_joined_87
end
/-! WinnerDraws$Law.price()I (('o', 'X', 19)) -/
def L_X4_price_13 : Nat → TX → Int32 → Int32 → Option (TX × Int32)
  | 0 => fun _ _ _ => none
  | n + 1 => fun X x1 x2 => if (X 19 3) ≤ x2 then ((f_X8_at 21 X (0 : Int32)).bind fun q3 => some (X, (if (0 : Int32) < (if q3 < (60 : Int32) then q3 else (60 : Int32)) then (if q3 < (60 : Int32) then q3 else (60 : Int32)) else (0 : Int32)))) else ((f_X8_at 20 X x2).bind fun q6 => if q6 ≤ (-11 : Int32) then ((f_X8_at 21 X ((x1 + (-1 : Int32)) - (1 : Int32))).bind fun q8 => (f_X8_at 21 X (x1 + (-1 : Int32))).bind fun q9 => (f_X4_joined q6 q8 q9).bind fun q10 => (f_X8_put 21 X ((x1 + (-1 : Int32)) - (1 : Int32)) q10).bind fun q11 => (L_X4_price_13 n) q11 (x1 + (-1 : Int32)) (x2 + (1 : Int32))) else (if q6 < 0 then ((f_X8_at 22 X ((-1 : Int32) - q6)).bind fun q13 => (f_X8_put 21 X x1 q13).bind fun q14 => (L_X4_price_13 n) q14 (x1 + (1 : Int32)) (x2 + (1 : Int32))) else ((f_X8_put 21 X x1 q6).bind fun q15 => (L_X4_price_13 n) q15 (x1 + (1 : Int32)) (x2 + (1 : Int32)))))
def f_X4_price (X : TX) : Option (TX × Int32) := if (X 19 3) = 0 then (some (X, (1 : Int32))) else (L_X4_price_13 FU X (0 : Int32) (0 : Int32))
section
variable {G : GP} {l : Launch}
set_option maxRecDepth 20000 in
set_option maxHeartbeats 2000000 in
theorem wL_X4_price_13 {p : Program} {e : Env} {s : State} {m : MethodId} {args : Array Value} {below : List Frame} {meth : Method} {c : Code} (C : Cx G p s m args c cX4_price 4 RX4) (hr : meth.sig.returnType = (some .int)) (hlk : meth.locks = false) {ro : TX × Int32} : ∀ (n : Nat), ∀ (X : TX) (M : TX) (L : TL) (x1 : Int32) (x2 : Int32) (H : Heap) (locs : List Loc) (ls : Array Slot), Wh G s X M L H locs → lv_has ls 4 [(0, .ref (gA G 19)), (1, .int x1), (2, .int x2)] → L_X4_price_13 n X x1 x2 = some ro → W p l e (rz 2 52) s m args below meth c H locs 0 0 (MQ below (Di G ro.1 M L ro.2) args s 0 0 (AB G)) (F0 m 13 ls []) := by
  intro n
  induction n with
  | zero =>
    intro X M L x1 x2 H locs ls hw hl hf
    cases hf
  | succ n hk_13 =>
    intro X M L x1 x2 H locs ls hw hl hf
    rw [L_X4_price_13] at hf
    refine lv_iload_n C.1.1 C.1.2.1 dX4_price_13 rfl (lv_at hl 2 rfl) ?_
    refine lv_aload_n C.1.1 C.1.2.1 dX4_price_14 rfl (lv_at hl 0 rfl) ?_
    refine x_get C hw iX_19_3 flX4_21 dX4_price_15 ?_
    refine lv_icmp_ge (tgt := 109) C.1.1 C.1.2.1 dX4_price_18 (by decide) (fun c2 => ?_) (fun c2 => ?_)
    · have hf := o_t hf c2
      refine lv_iconst (v := (0 : Int32)) C.1.1 C.1.2.1 dX4_price_109 rfl ?_
      refine lv_bipush (v := (60 : Int32)) C.1.1 C.1.2.1 dX4_price_110 rfl ?_
      refine lv_aload_n C.1.1 C.1.2.1 dX4_price_112 rfl (lv_at hl 0 rfl) ?_
      refine x_ref C hw fX_19_1 flX4_15 dX4_price_113 ?_
      refine lv_iconst (v := (0 : Int32)) C.1.1 C.1.2.1 dX4_price_116 rfl ?_
      obtain ⟨q3, h3, hf⟩ := o_bind hf
      refine aft_i hw (run_S C hw clX4_33 (As := [.ref (gA G 21), .int (0 : Int32)]) (rest := [.int (60 : Int32), .int (0 : Int32)]) (c_X8_at aX_21 h3) hl.1 rfl ⟨(Nat.le_of_ble_eq_true rfl), (Nat.le_of_ble_eq_true rfl)⟩ ⟨Nat.zero_le _, Nat.zero_le _⟩ rfl (Nat.le_of_ble_eq_true rfl) dX4_price_117) (fun H locs hw => ?_)
      refine x_min C clX4_41 (tb4 137 rfl rfl) hl.1 ⟨(Nat.le_of_ble_eq_true rfl), (Nat.le_of_ble_eq_true rfl)⟩ ⟨Nat.zero_le _, Nat.zero_le _⟩ dX4_price_120 ?_
      refine x_max C clX4_47 (tb4 138 rfl rfl) hl.1 ⟨(Nat.le_of_ble_eq_true rfl), (Nat.le_of_ble_eq_true rfl)⟩ ⟨Nat.zero_le _, Nat.zero_le _⟩ dX4_price_123 ?_
      obtain rfl := Option.some.inj hf
      exact ret_i C hr hlk hw dX4_price_126
    · have hf := o_f hf c2
      refine lv_aload_n C.1.1 C.1.2.1 dX4_price_21 rfl (lv_at hl 0 rfl) ?_
      refine x_ref C hw fX_19_0 flX4_9 dX4_price_22 ?_
      refine lv_iload_n C.1.1 C.1.2.1 dX4_price_25 rfl (lv_at hl 2 rfl) ?_
      obtain ⟨q6, h6, hf⟩ := o_bind hf
      refine aft_i hw (run_S C hw clX4_33 (As := [.ref (gA G 20), .int x2]) (rest := []) (c_X8_at aX_20 h6) hl.1 rfl ⟨(Nat.le_of_ble_eq_true rfl), (Nat.le_of_ble_eq_true rfl)⟩ ⟨Nat.zero_le _, Nat.zero_le _⟩ rfl (Nat.le_of_ble_eq_true rfl) dX4_price_26) (fun H locs hw => ?_)
      refine lv_istore_n (lv' := [(3, .int q6), (0, .ref (gA G 19)), (1, .int x1), (2, .int x2)]) C.1.1 C.1.2.1 dX4_price_29 rfl hl (by decide) rfl (fun ls hl => ?_)
      refine lv_iload_n C.1.1 C.1.2.1 dX4_price_30 rfl (lv_at hl 0 rfl) ?_
      refine lv_bipush (v := (-11 : Int32)) C.1.1 C.1.2.1 dX4_price_31 rfl ?_
      refine lv_icmp_le (tgt := 68) C.1.1 C.1.2.1 dX4_price_33 (by decide) (fun c7 => ?_) (fun c7 => ?_)
      · have hf := o_t hf c7
        refine lv_iinc (v := (x1 + (-1 : Int32))) (lv' := [(1, .int (x1 + (-1 : Int32))), (3, .int q6), (0, .ref (gA G 19)), (2, .int x2)]) C.1.1 C.1.2.1 dX4_price_68 hl (k := 2) rfl rfl (by decide) rfl (fun ls hl => ?_)
        refine lv_aload_n C.1.1 C.1.2.1 dX4_price_71 rfl (lv_at hl 2 rfl) ?_
        refine x_ref C hw fX_19_1 flX4_15 dX4_price_72 ?_
        refine lv_iload_n C.1.1 C.1.2.1 dX4_price_75 rfl (lv_at hl 0 rfl) ?_
        refine lv_iconst (v := (1 : Int32)) C.1.1 C.1.2.1 dX4_price_76 rfl ?_
        refine lv_isub C.1.1 C.1.2.1 dX4_price_77 ?_
        refine lv_iload_n C.1.1 C.1.2.1 dX4_price_78 rfl (lv_at hl 1 rfl) ?_
        refine lv_aload_n C.1.1 C.1.2.1 dX4_price_79 rfl (lv_at hl 2 rfl) ?_
        refine x_ref C hw fX_19_1 flX4_15 dX4_price_80 ?_
        refine lv_iload_n C.1.1 C.1.2.1 dX4_price_83 rfl (lv_at hl 0 rfl) ?_
        refine lv_iconst (v := (1 : Int32)) C.1.1 C.1.2.1 dX4_price_84 rfl ?_
        refine lv_isub C.1.1 C.1.2.1 dX4_price_85 ?_
        obtain ⟨q8, h8, hf⟩ := o_bind hf
        refine aft_i hw (run_S C hw clX4_33 (As := [.ref (gA G 21), .int ((x1 + (-1 : Int32)) - (1 : Int32))]) (rest := [.int q6, .int ((x1 + (-1 : Int32)) - (1 : Int32)), .ref (gA G 21)]) (c_X8_at aX_21 h8) hl.1 rfl ⟨(Nat.le_of_ble_eq_true rfl), (Nat.le_of_ble_eq_true rfl)⟩ ⟨Nat.zero_le _, Nat.zero_le _⟩ rfl (Nat.le_of_ble_eq_true rfl) dX4_price_86) (fun H locs hw => ?_)
        refine lv_aload_n C.1.1 C.1.2.1 dX4_price_89 rfl (lv_at hl 2 rfl) ?_
        refine x_ref C hw fX_19_1 flX4_15 dX4_price_90 ?_
        refine lv_iload_n C.1.1 C.1.2.1 dX4_price_93 rfl (lv_at hl 0 rfl) ?_
        obtain ⟨q9, h9, hf⟩ := o_bind hf
        refine aft_i hw (run_S C hw clX4_33 (As := [.ref (gA G 21), .int (x1 + (-1 : Int32))]) (rest := [.int q8, .int q6, .int ((x1 + (-1 : Int32)) - (1 : Int32)), .ref (gA G 21)]) (c_X8_at aX_21 h9) hl.1 rfl ⟨(Nat.le_of_ble_eq_true rfl), (Nat.le_of_ble_eq_true rfl)⟩ ⟨Nat.zero_le _, Nat.zero_le _⟩ rfl (Nat.le_of_ble_eq_true rfl) dX4_price_94) (fun H locs hw => ?_)
        obtain ⟨q10, h10, hf⟩ := o_bind hf
        refine aft_i hw (run_S C hw clX4_37 (As := [.int q6, .int q8, .int q9]) (rest := [.int ((x1 + (-1 : Int32)) - (1 : Int32)), .ref (gA G 21)]) (c_X4_joined h10) hl.1 rfl ⟨(Nat.le_of_ble_eq_true rfl), (Nat.le_of_ble_eq_true rfl)⟩ ⟨Nat.zero_le _, Nat.zero_le _⟩ rfl (Nat.le_of_ble_eq_true rfl) dX4_price_97) (fun H locs hw => ?_)
        obtain ⟨q11, h11, hf⟩ := o_bind hf
        refine aft_v hw (run_S C hw clX4_29 (As := [.ref (gA G 21), .int ((x1 + (-1 : Int32)) - (1 : Int32)), .int q10]) (rest := []) (c_X8_put aX_21 h11) hl.1 rfl ⟨(Nat.le_of_ble_eq_true rfl), (Nat.le_of_ble_eq_true rfl)⟩ ⟨Nat.zero_le _, Nat.zero_le _⟩ rfl (Nat.le_of_ble_eq_true rfl) dX4_price_100) (fun H locs hw => ?_)
        refine lv_iinc (v := (x2 + (1 : Int32))) (lv' := [(2, .int (x2 + (1 : Int32))), (1, .int (x1 + (-1 : Int32))), (3, .int q6), (0, .ref (gA G 19))]) C.1.1 C.1.2.1 dX4_price_103 hl (k := 3) rfl rfl (by decide) rfl (fun ls hl => ?_)
        refine lv_goto (tgt := 13) C.1.1 C.1.2.1 dX4_price_106 (by decide) ?_
        exact hk_13 q11 M L (x1 + (-1 : Int32)) (x2 + (1 : Int32)) _ _ _ hw (lv_sub hl [3, 1, 0] rfl) hf
      · have hf := o_f hf c7
        refine lv_aload_n C.1.1 C.1.2.1 dX4_price_36 rfl (lv_at hl 1 rfl) ?_
        refine x_ref C hw fX_19_1 flX4_15 dX4_price_37 ?_
        refine lv_iload_n C.1.1 C.1.2.1 dX4_price_40 rfl (lv_at hl 2 rfl) ?_
        refine lv_iload_n C.1.1 C.1.2.1 dX4_price_41 rfl (lv_at hl 0 rfl) ?_
        refine lv_if_lt (tgt := 49) C.1.1 C.1.2.1 dX4_price_42 (by decide) (fun c12 => ?_) (fun c12 => ?_)
        · have hf := o_t hf c12
          refine lv_aload_n C.1.1 C.1.2.1 dX4_price_49 rfl (lv_at hl 1 rfl) ?_
          refine x_ref C hw fX_19_2 flX4_18 dX4_price_50 ?_
          refine lv_iconst (v := (-1 : Int32)) C.1.1 C.1.2.1 dX4_price_53 rfl ?_
          refine lv_iload_n C.1.1 C.1.2.1 dX4_price_54 rfl (lv_at hl 0 rfl) ?_
          refine lv_isub C.1.1 C.1.2.1 dX4_price_55 ?_
          obtain ⟨q13, h13, hf⟩ := o_bind hf
          refine aft_i hw (run_S C hw clX4_33 (As := [.ref (gA G 22), .int ((-1 : Int32) - q6)]) (rest := [.int x1, .ref (gA G 21)]) (c_X8_at aX_22 h13) hl.1 rfl ⟨(Nat.le_of_ble_eq_true rfl), (Nat.le_of_ble_eq_true rfl)⟩ ⟨Nat.zero_le _, Nat.zero_le _⟩ rfl (Nat.le_of_ble_eq_true rfl) dX4_price_56) (fun H locs hw => ?_)
          obtain ⟨q14, h14, hf⟩ := o_bind hf
          refine aft_v hw (run_S C hw clX4_29 (As := [.ref (gA G 21), .int x1, .int q13]) (rest := []) (c_X8_put aX_21 h14) hl.1 rfl ⟨(Nat.le_of_ble_eq_true rfl), (Nat.le_of_ble_eq_true rfl)⟩ ⟨Nat.zero_le _, Nat.zero_le _⟩ rfl (Nat.le_of_ble_eq_true rfl) dX4_price_59) (fun H locs hw => ?_)
          refine lv_iinc (v := (x1 + (1 : Int32))) (lv' := [(1, .int (x1 + (1 : Int32))), (3, .int q6), (0, .ref (gA G 19)), (2, .int x2)]) C.1.1 C.1.2.1 dX4_price_62 hl (k := 2) rfl rfl (by decide) rfl (fun ls hl => ?_)
          refine lv_goto (tgt := 103) C.1.1 C.1.2.1 dX4_price_65 (by decide) ?_
          refine lv_iinc (v := (x2 + (1 : Int32))) (lv' := [(2, .int (x2 + (1 : Int32))), (1, .int (x1 + (1 : Int32))), (3, .int q6), (0, .ref (gA G 19))]) C.1.1 C.1.2.1 dX4_price_103 hl (k := 3) rfl rfl (by decide) rfl (fun ls hl => ?_)
          refine lv_goto (tgt := 13) C.1.1 C.1.2.1 dX4_price_106 (by decide) ?_
          exact hk_13 q14 M L (x1 + (1 : Int32)) (x2 + (1 : Int32)) _ _ _ hw (lv_sub hl [3, 1, 0] rfl) hf
        · have hf := o_f hf c12
          refine lv_iload_n C.1.1 C.1.2.1 dX4_price_45 rfl (lv_at hl 0 rfl) ?_
          refine lv_goto (tgt := 59) C.1.1 C.1.2.1 dX4_price_46 (by decide) ?_
          obtain ⟨q15, h15, hf⟩ := o_bind hf
          refine aft_v hw (run_S C hw clX4_29 (As := [.ref (gA G 21), .int x1, .int q6]) (rest := []) (c_X8_put aX_21 h15) hl.1 rfl ⟨(Nat.le_of_ble_eq_true rfl), (Nat.le_of_ble_eq_true rfl)⟩ ⟨Nat.zero_le _, Nat.zero_le _⟩ rfl (Nat.le_of_ble_eq_true rfl) dX4_price_59) (fun H locs hw => ?_)
          refine lv_iinc (v := (x1 + (1 : Int32))) (lv' := [(1, .int (x1 + (1 : Int32))), (3, .int q6), (0, .ref (gA G 19)), (2, .int x2)]) C.1.1 C.1.2.1 dX4_price_62 hl (k := 2) rfl rfl (by decide) rfl (fun ls hl => ?_)
          refine lv_goto (tgt := 103) C.1.1 C.1.2.1 dX4_price_65 (by decide) ?_
          refine lv_iinc (v := (x2 + (1 : Int32))) (lv' := [(2, .int (x2 + (1 : Int32))), (1, .int (x1 + (1 : Int32))), (3, .int q6), (0, .ref (gA G 19))]) C.1.1 C.1.2.1 dX4_price_103 hl (k := 3) rfl rfl (by decide) rfl (fun ls hl => ?_)
          refine lv_goto (tgt := 13) C.1.1 C.1.2.1 dX4_price_106 (by decide) ?_
          exact hk_13 q15 M L (x1 + (1 : Int32)) (x2 + (1 : Int32)) _ _ _ hw (lv_sub hl [3, 1, 0] rfl) hf
set_option maxRecDepth 20000 in
set_option maxHeartbeats 2000000 in
theorem c_X4_price   {X M : TX} {L : TL}  {ro : TX × Int32} (hf : f_X4_price X = some ro) : CTi G l yX4_price cX4_price 4 (some .int) 2 52 [.ref (gA G 19)] X M L ro.1 M L ro.2 := by
  unfold f_X4_price at hf
  refine ct_of (by decide +kernel) (Nat.le_of_ble_eq_true rfl) (fun p e s m args below meth c H locs ls C hr hlk hw hl => ?_)
  have C : Cx G p s m args c cX4_price 4 RX4 := C
  have hl : lv_has ls 4 [(0, .ref (gA G 19))] := hl
  refine lv_aload_n C.1.1 C.1.2.1 dX4_price_0 rfl (lv_at hl 0 rfl) ?_
  refine x_get C hw iX_19_3 flX4_21 dX4_price_1 ?_
  refine lv_if_ne (tgt := 9) C.1.1 C.1.2.1 dX4_price_4 (by decide) (fun c1 => ?_) (fun c1 => ?_)
  · have hf := o_f hf c1
    refine lv_iconst (v := (0 : Int32)) C.1.1 C.1.2.1 dX4_price_9 rfl ?_
    refine lv_istore_n (lv' := [(1, .int (0 : Int32)), (0, .ref (gA G 19))]) C.1.1 C.1.2.1 dX4_price_10 rfl hl (by decide) rfl (fun ls hl => ?_)
    refine lv_iconst (v := (0 : Int32)) C.1.1 C.1.2.1 dX4_price_11 rfl ?_
    refine lv_istore_n (lv' := [(2, .int (0 : Int32)), (1, .int (0 : Int32)), (0, .ref (gA G 19))]) C.1.1 C.1.2.1 dX4_price_12 rfl hl (by decide) rfl (fun ls hl => ?_)
    exact wL_X4_price_13 C hr hlk FU X M L (0 : Int32) (0 : Int32) _ _ _ hw (lv_sub hl [2, 1, 0] rfl) hf
  · have hf := o_t hf c1
    refine lv_iconst (v := (1 : Int32)) C.1.1 C.1.2.1 dX4_price_7 rfl ?_
    obtain rfl := Option.some.inj hf
    exact ret_i C hr hlk hw dX4_price_8
end
