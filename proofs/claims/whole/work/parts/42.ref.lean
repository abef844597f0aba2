/-! WinnerDrawsModel.timeGoes(III)V (('o', 'M', 0) ('i',) ('i',) ('i',)) -/
def L_X9_timeGoes_12 : Nat → TX → Int32 → Int32 → Int32 → Option (TX)
  | 0 => fun _ _ _ _ => none
  | n + 1 => fun M x2 x3 x4 => if x3 ≤ x4 then (some M) else (if (M 0 19) ≤ 0 then ((f_X9_votes M).bind fun q4 => (f_X9_isDrawn q4).bind fun q5 => (L_X9_timeGoes_12 n) q5.1 x2 x3 (x4 + (1 : Int32))) else ((f_X9_draws M (M 0 19)).bind fun q6 => (f_X9_draws q6.1 (4 : Int32)).bind fun q7 => (f_X9_draws q7.1 (16 : Int32)).bind fun q8 => if x2 ≤ q8.2 then ((f_X9_votes q8.1).bind fun q10 => (f_X9_isDrawn q10).bind fun q11 => (L_X9_timeGoes_12 n) q11.1 x2 x3 (x4 + (1 : Int32))) else ((f_X9_isMoved q8.1 q6.2 q7.2).bind fun q12 => (f_X9_votes q12.1).bind fun q13 => (f_X9_isDrawn q13).bind fun q14 => (L_X9_timeGoes_12 n) q14.1 x2 x3 (x4 + (1 : Int32)))))
def f_X9_timeGoes (M : TX) (x1 : Int32) (x2 : Int32) (x3 : Int32) : Option (TX) := (f_X9_take M).bind fun q1 => L_X9_timeGoes_12 FU (u2 q1 0 48 x1) x2 x3 (0 : Int32)
section
variable {G : GP} {l : Launch}
set_option maxRecDepth 20000 in
set_option maxHeartbeats 2000000 in
theorem wL_X9_timeGoes_12 {p : Program} {e : Env} {s : State} {m : MethodId} {args : Array Value} {below : List Frame} {meth : Method} {c : Code} (C : Cx G p s m args c cX9_timeGoes 7 RX9) (hr : meth.sig.returnType = none) (hlk : meth.locks = false) {ro : TX} : ∀ (n : Nat), ∀ (X : TX) (M : TX) (L : TL) (x2 : Int32) (x3 : Int32) (x4 : Int32) (H : Heap) (locs : List Loc) (ls : Array Slot), Wh G s X M L H locs → lv_has ls 7 [(0, .ref (gA G (41 + 0))), (2, .int x2), (3, .int x3), (4, .int x4)] → L_X9_timeGoes_12 n M x2 x3 x4 = some ro → W p l e (rz 7 168) s m args below meth c H locs 0 0 (MQ below (Dv G X ro L) args s 0 0 (AB G)) (F0 m 12 ls []) := by
  intro n
  induction n with
  | zero =>
    intro X M L x2 x3 x4 H locs ls hw hl hf
    cases hf
  | succ n hk_12 =>
    intro X M L x2 x3 x4 H locs ls hw hl hf
    rw [L_X9_timeGoes_12] at hf
    refine lv_iload C.1.1 C.1.2.1 dX9_timeGoes_12 (lv_at hl 3 rfl) ?_
    refine lv_iload_n C.1.1 C.1.2.1 dX9_timeGoes_14 rfl (lv_at hl 2 rfl) ?_
    refine lv_icmp_ge (tgt := 76) C.1.1 C.1.2.1 dX9_timeGoes_15 (by decide) (fun c2 => ?_) (fun c2 => ?_)
    · have hf := o_t hf c2
      obtain rfl := Option.some.inj hf
      exact ret_v C hr hlk hw dX9_timeGoes_76
    · have hf := o_f hf c2
      refine lv_aload_n C.1.1 C.1.2.1 dX9_timeGoes_18 rfl (lv_at hl 0 rfl) ?_
      refine m_get C hw iM_0_19 flX9_157 dX9_timeGoes_19 ?_
      refine lv_if_le (tgt := 61) C.1.1 C.1.2.1 dX9_timeGoes_22 (by decide) (fun c3 => ?_) (fun c3 => ?_)
      · have hf := o_t hf c3
        refine lv_aload_n C.1.1 C.1.2.1 dX9_timeGoes_61 rfl (lv_at hl 0 rfl) ?_
        obtain ⟨q4, h4, hf⟩ := o_bind hf
        refine aft_v hw (run_VM C hw clX9_382 (As := []) (rest := []) oM_0 (c_X9_votes h4) rfl hl.1 rfl ⟨(Nat.le_of_ble_eq_true rfl), (Nat.le_of_ble_eq_true rfl)⟩ ⟨Nat.zero_le _, Nat.zero_le _⟩ rfl (Nat.le_of_ble_eq_true rfl) dX9_timeGoes_62) (fun H locs hw => ?_)
        refine lv_aload_n C.1.1 C.1.2.1 dX9_timeGoes_65 rfl (lv_at hl 0 rfl) ?_
        obtain ⟨q5, h5, hf⟩ := o_bind hf
        refine aft_i hw (run_VM C hw clX9_379 (As := []) (rest := []) oM_0 (c_X9_isDrawn h5) rfl hl.1 rfl ⟨(Nat.le_of_ble_eq_true rfl), (Nat.le_of_ble_eq_true rfl)⟩ ⟨Nat.zero_le _, Nat.zero_le _⟩ rfl (Nat.le_of_ble_eq_true rfl) dX9_timeGoes_66) (fun H locs hw => ?_)
        refine lv_pop C.1.1 C.1.2.1 dX9_timeGoes_69 rfl ?_
        refine lv_iinc (v := (x4 + (1 : Int32))) (lv' := [(4, .int (x4 + (1 : Int32))), (0, .ref (gA G (41 + 0))), (2, .int x2), (3, .int x3)]) C.1.1 C.1.2.1 dX9_timeGoes_70 hl (k := 3) rfl rfl (by decide) rfl (fun ls hl => ?_)
        refine lv_goto (tgt := 12) C.1.1 C.1.2.1 dX9_timeGoes_73 (by decide) ?_
        exact hk_12 X q5.1 L x2 x3 (x4 + (1 : Int32)) _ _ _ hw (lv_sub hl [1, 2, 3, 0] rfl) hf
      · have hf := o_f hf c3
        refine lv_aload_n C.1.1 C.1.2.1 dX9_timeGoes_25 rfl (lv_at hl 0 rfl) ?_
        refine lv_aload_n C.1.1 C.1.2.1 dX9_timeGoes_26 rfl (lv_at hl 0 rfl) ?_
        refine m_get C hw iM_0_19 flX9_157 dX9_timeGoes_27 ?_
        obtain ⟨q6, h6, hf⟩ := o_bind hf
        refine aft_i hw (run_VM C hw clX9_425 (As := [.int (M 0 19)]) (rest := []) oM_0 (c_X9_draws h6) rfl hl.1 rfl ⟨(Nat.le_of_ble_eq_true rfl), (Nat.le_of_ble_eq_true rfl)⟩ ⟨Nat.zero_le _, Nat.zero_le _⟩ rfl (Nat.le_of_ble_eq_true rfl) dX9_timeGoes_30) (fun H locs hw => ?_)
        refine lv_istore (lv' := [(5, .int q6.2), (0, .ref (gA G (41 + 0))), (2, .int x2), (3, .int x3), (4, .int x4)]) C.1.1 C.1.2.1 dX9_timeGoes_33 hl (by decide) rfl (fun ls hl => ?_)
        refine lv_aload_n C.1.1 C.1.2.1 dX9_timeGoes_35 rfl (lv_at hl 1 rfl) ?_
        refine lv_iconst (v := (4 : Int32)) C.1.1 C.1.2.1 dX9_timeGoes_36 rfl ?_
        obtain ⟨q7, h7, hf⟩ := o_bind hf
        refine aft_i hw (run_VM C hw clX9_425 (As := [.int (4 : Int32)]) (rest := []) oM_0 (c_X9_draws h7) rfl hl.1 rfl ⟨(Nat.le_of_ble_eq_true rfl), (Nat.le_of_ble_eq_true rfl)⟩ ⟨Nat.zero_le _, Nat.zero_le _⟩ rfl (Nat.le_of_ble_eq_true rfl) dX9_timeGoes_37) (fun H locs hw => ?_)
        refine lv_istore (lv' := [(6, .int q7.2), (5, .int q6.2), (0, .ref (gA G (41 + 0))), (2, .int x2), (3, .int x3), (4, .int x4)]) C.1.1 C.1.2.1 dX9_timeGoes_40 hl (by decide) rfl (fun ls hl => ?_)
        refine lv_aload_n C.1.1 C.1.2.1 dX9_timeGoes_42 rfl (lv_at hl 2 rfl) ?_
        refine lv_bipush (v := (16 : Int32)) C.1.1 C.1.2.1 dX9_timeGoes_43 rfl ?_
        obtain ⟨q8, h8, hf⟩ := o_bind hf
        refine aft_i hw (run_VM C hw clX9_425 (As := [.int (16 : Int32)]) (rest := []) oM_0 (c_X9_draws h8) rfl hl.1 rfl ⟨(Nat.le_of_ble_eq_true rfl), (Nat.le_of_ble_eq_true rfl)⟩ ⟨Nat.zero_le _, Nat.zero_le _⟩ rfl (Nat.le_of_ble_eq_true rfl) dX9_timeGoes_45) (fun H locs hw => ?_)
        refine lv_iload_n C.1.1 C.1.2.1 dX9_timeGoes_48 rfl (lv_at hl 3 rfl) ?_
        refine lv_icmp_ge (tgt := 61) C.1.1 C.1.2.1 dX9_timeGoes_49 (by decide) (fun c9 => ?_) (fun c9 => ?_)
        · have hf := o_t hf c9
          refine lv_aload_n C.1.1 C.1.2.1 dX9_timeGoes_61 rfl (lv_at hl 2 rfl) ?_
          obtain ⟨q10, h10, hf⟩ := o_bind hf
          refine aft_v hw (run_VM C hw clX9_382 (As := []) (rest := []) oM_0 (c_X9_votes h10) rfl hl.1 rfl ⟨(Nat.le_of_ble_eq_true rfl), (Nat.le_of_ble_eq_true rfl)⟩ ⟨Nat.zero_le _, Nat.zero_le _⟩ rfl (Nat.le_of_ble_eq_true rfl) dX9_timeGoes_62) (fun H locs hw => ?_)
          refine lv_aload_n C.1.1 C.1.2.1 dX9_timeGoes_65 rfl (lv_at hl 2 rfl) ?_
          obtain ⟨q11, h11, hf⟩ := o_bind hf
          refine aft_i hw (run_VM C hw clX9_379 (As := []) (rest := []) oM_0 (c_X9_isDrawn h11) rfl hl.1 rfl ⟨(Nat.le_of_ble_eq_true rfl), (Nat.le_of_ble_eq_true rfl)⟩ ⟨Nat.zero_le _, Nat.zero_le _⟩ rfl (Nat.le_of_ble_eq_true rfl) dX9_timeGoes_66) (fun H locs hw => ?_)
          refine lv_pop C.1.1 C.1.2.1 dX9_timeGoes_69 rfl ?_
          refine lv_iinc (v := (x4 + (1 : Int32))) (lv' := [(4, .int (x4 + (1 : Int32))), (6, .int q7.2), (5, .int q6.2), (0, .ref (gA G (41 + 0))), (2, .int x2), (3, .int x3)]) C.1.1 C.1.2.1 dX9_timeGoes_70 hl (k := 5) rfl rfl (by decide) rfl (fun ls hl => ?_)
          refine lv_goto (tgt := 12) C.1.1 C.1.2.1 dX9_timeGoes_73 (by decide) ?_
          exact hk_12 X q11.1 L x2 x3 (x4 + (1 : Int32)) _ _ _ hw (lv_sub hl [3, 4, 5, 0] rfl) hf
        · have hf := o_f hf c9
          refine lv_aload_n C.1.1 C.1.2.1 dX9_timeGoes_52 rfl (lv_at hl 2 rfl) ?_
          refine lv_iload C.1.1 C.1.2.1 dX9_timeGoes_53 (lv_at hl 1 rfl) ?_
          refine lv_iload C.1.1 C.1.2.1 dX9_timeGoes_55 (lv_at hl 0 rfl) ?_
          obtain ⟨q12, h12, hf⟩ := o_bind hf
          refine aft_i hw (run_VM C hw clX9_370 (As := [.int q6.2, .int q7.2]) (rest := []) oM_0 (c_X9_isMoved h12) rfl hl.1 rfl ⟨(Nat.le_of_ble_eq_true rfl), (Nat.le_of_ble_eq_true rfl)⟩ ⟨Nat.zero_le _, Nat.zero_le _⟩ rfl (Nat.le_of_ble_eq_true rfl) dX9_timeGoes_57) (fun H locs hw => ?_)
          refine lv_pop C.1.1 C.1.2.1 dX9_timeGoes_60 rfl ?_
          refine lv_aload_n C.1.1 C.1.2.1 dX9_timeGoes_61 rfl (lv_at hl 2 rfl) ?_
          obtain ⟨q13, h13, hf⟩ := o_bind hf
          refine aft_v hw (run_VM C hw clX9_382 (As := []) (rest := []) oM_0 (c_X9_votes h13) rfl hl.1 rfl ⟨(Nat.le_of_ble_eq_true rfl), (Nat.le_of_ble_eq_true rfl)⟩ ⟨Nat.zero_le _, Nat.zero_le _⟩ rfl (Nat.le_of_ble_eq_true rfl) dX9_timeGoes_62) (fun H locs hw => ?_)
          refine lv_aload_n C.1.1 C.1.2.1 dX9_timeGoes_65 rfl (lv_at hl 2 rfl) ?_
          obtain ⟨q14, h14, hf⟩ := o_bind hf
          refine aft_i hw (run_VM C hw clX9_379 (As := []) (rest := []) oM_0 (c_X9_isDrawn h14) rfl hl.1 rfl ⟨(Nat.le_of_ble_eq_true rfl), (Nat.le_of_ble_eq_true rfl)⟩ ⟨Nat.zero_le _, Nat.zero_le _⟩ rfl (Nat.le_of_ble_eq_true rfl) dX9_timeGoes_66) (fun H locs hw => ?_)
          refine lv_pop C.1.1 C.1.2.1 dX9_timeGoes_69 rfl ?_
          refine lv_iinc (v := (x4 + (1 : Int32))) (lv' := [(4, .int (x4 + (1 : Int32))), (6, .int q7.2), (5, .int q6.2), (0, .ref (gA G (41 + 0))), (2, .int x2), (3, .int x3)]) C.1.1 C.1.2.1 dX9_timeGoes_70 hl (k := 5) rfl rfl (by decide) rfl (fun ls hl => ?_)
          refine lv_goto (tgt := 12) C.1.1 C.1.2.1 dX9_timeGoes_73 (by decide) ?_
          exact hk_12 X q14.1 L x2 x3 (x4 + (1 : Int32)) _ _ _ hw (lv_sub hl [3, 4, 5, 0] rfl) hf
set_option maxRecDepth 20000 in
set_option maxHeartbeats 2000000 in
theorem c_X9_timeGoes   {X M : TX} {L : TL} {x1 : Int32} {x2 : Int32} {x3 : Int32} {ro : TX} (hf : f_X9_timeGoes M x1 x2 x3 = some ro) : CTv G l yX9_timeGoes cX9_timeGoes 7 none 7 168 [.ref (gA G (41 + 0)), .int x1, .int x2, .int x3] X M L X ro L := by
  unfold f_X9_timeGoes at hf
  refine ct_of (by decide +kernel) (Nat.le_of_ble_eq_true rfl) (fun p e s m args below meth c H locs ls C hr hlk hw hl => ?_)
  have C : Cx G p s m args c cX9_timeGoes 7 RX9 := C
  have hl : lv_has ls 7 [(0, .ref (gA G (41 + 0))), (1, .int x1), (2, .int x2), (3, .int x3)] := hl
  refine lv_aload_n C.1.1 C.1.2.1 dX9_timeGoes_0 rfl (lv_at hl 0 rfl) ?_
  obtain ⟨q1, h1, hf⟩ := o_bind hf
  refine aft_v hw (run_VM C hw clX9_307 (As := []) (rest := []) oM_0 (c_X9_take h1) rfl hl.1 rfl ⟨(Nat.le_of_ble_eq_true rfl), (Nat.le_of_ble_eq_true rfl)⟩ ⟨Nat.zero_le _, Nat.zero_le _⟩ rfl (Nat.le_of_ble_eq_true rfl) dX9_timeGoes_1) (fun H locs hw => ?_)
  refine lv_aload_n C.1.1 C.1.2.1 dX9_timeGoes_4 rfl (lv_at hl 0 rfl) ?_
  refine lv_iload_n C.1.1 C.1.2.1 dX9_timeGoes_5 rfl (lv_at hl 1 rfl) ?_
  refine m_put C hw iM_0_48 flX9_421 dX9_timeGoes_6 (fun H locs hw => ?_)
  refine lv_iconst (v := (0 : Int32)) C.1.1 C.1.2.1 dX9_timeGoes_9 rfl ?_
  refine lv_istore (lv' := [(4, .int (0 : Int32)), (0, .ref (gA G (41 + 0))), (1, .int x1), (2, .int x2), (3, .int x3)]) C.1.1 C.1.2.1 dX9_timeGoes_10 hl (by decide) rfl (fun ls hl => ?_)
  exact wL_X9_timeGoes_12 C hr hlk FU X (u2 q1 0 48 x1) L x2 x3 (0 : Int32) _ _ _ hw (lv_sub hl [1, 3, 4, 0] rfl) hf
end
/-! WinnerDrawsModel.isTime(II)Z (('i',) ('i',)) -/
def f_X9_isTime (x0 : Int32) (x1 : Int32) : Option (Int32) := if x0 < 0 then (some (0 : Int32)) else (if (16 : Int32) < x0 then (some (0 : Int32)) else (if x1 < (1 : Int32) then (some (0 : Int32)) else (if (48 : Int32) < x1 then (some (0 : Int32)) else (some (1 : Int32)))))
section
variable {G : GP} {l : Launch}
set_option maxRecDepth 20000 in
set_option maxHeartbeats 2000000 in
theorem c_X9_isTime   {X M : TX} {L : TL} {x0 : Int32} {x1 : Int32} {ro : Int32} (hf : f_X9_isTime x0 x1 = some ro) : CTi G l yX9_isTime cX9_isTime 2 (some .boolean) 0 0 [.int x0, .int x1] X M L X M L ro := by
  unfold f_X9_isTime at hf
  refine ct_of (by decide +kernel) (Nat.le_of_ble_eq_true rfl) (fun p e s m args below meth c H locs ls C hr hlk hw hl => ?_)
  have C : Cx G p s m args c cX9_isTime 2 RX9 := C
  have hl : lv_has ls 2 [(0, .int x0), (1, .int x1)] := hl
  refine lv_iload_n C.1.1 C.1.2.1 dX9_isTime_0 rfl (lv_at hl 0 rfl) ?_
  refine lv_if_lt (tgt := 25) C.1.1 C.1.2.1 dX9_isTime_1 (by decide) (fun c1 => ?_) (fun c1 => ?_)
  · have hf := o_t hf c1
    refine lv_iconst (v := (0 : Int32)) C.1.1 C.1.2.1 dX9_isTime_25 rfl ?_
    obtain rfl := Option.some.inj hf
    exact ret_z (r := (0 : Int32)) C hr hlk hw rfl dX9_isTime_26
  · have hf := o_f hf c1
    refine lv_iload_n C.1.1 C.1.2.1 dX9_isTime_4 rfl (lv_at hl 0 rfl) ?_
    refine lv_bipush (v := (16 : Int32)) C.1.1 C.1.2.1 dX9_isTime_5 rfl ?_
    refine lv_icmp_gt (tgt := 25) C.1.1 C.1.2.1 dX9_isTime_7 (by decide) (fun c2 => ?_) (fun c2 => ?_)
    · have hf := o_t hf c2
      refine lv_iconst (v := (0 : Int32)) C.1.1 C.1.2.1 dX9_isTime_25 rfl ?_
      obtain rfl := Option.some.inj hf
      exact ret_z (r := (0 : Int32)) C hr hlk hw rfl dX9_isTime_26
    · have hf := o_f hf c2
      refine lv_iload_n C.1.1 C.1.2.1 dX9_isTime_10 rfl (lv_at hl 1 rfl) ?_
      refine lv_iconst (v := (1 : Int32)) C.1.1 C.1.2.1 dX9_isTime_11 rfl ?_
      refine lv_icmp_lt (tgt := 25) C.1.1 C.1.2.1 dX9_isTime_12 (by decide) (fun c3 => ?_) (fun c3 => ?_)
      · have hf := o_t hf c3
        refine lv_iconst (v := (0 : Int32)) C.1.1 C.1.2.1 dX9_isTime_25 rfl ?_
        obtain rfl := Option.some.inj hf
        exact ret_z (r := (0 : Int32)) C hr hlk hw rfl dX9_isTime_26
      · have hf := o_f hf c3
        refine lv_iload_n C.1.1 C.1.2.1 dX9_isTime_15 rfl (lv_at hl 1 rfl) ?_
        refine lv_bipush (v := (48 : Int32)) C.1.1 C.1.2.1 dX9_isTime_16 rfl ?_
        refine lv_icmp_gt (tgt := 25) C.1.1 C.1.2.1 dX9_isTime_18 (by decide) (fun c4 => ?_) (fun c4 => ?_)
        · have hf := o_t hf c4
          refine lv_iconst (v := (0 : Int32)) C.1.1 C.1.2.1 dX9_isTime_25 rfl ?_
          obtain rfl := Option.some.inj hf
          exact ret_z (r := (0 : Int32)) C hr hlk hw rfl dX9_isTime_26
        · have hf := o_f hf c4
          refine lv_iconst (v := (1 : Int32)) C.1.1 C.1.2.1 dX9_isTime_21 rfl ?_
          refine lv_goto (tgt := 26) C.1.1 C.1.2.1 dX9_isTime_22 (by decide) ?_
          obtain rfl := Option.some.inj hf
          exact ret_z (r := (1 : Int32)) C hr hlk hw rfl dX9_isTime_26
end
/-! WinnerDrawsModel.time(IIII)I (('o', 'M', 0) ('i',) ('i',) ('i',) ('i',)) -/
def B_X9_time_29 (M : TX) (x1 : Int32) (x2 : Int32) (x3 : Int32) (x4 : Int32) (t0 : Int32) : Option (TX × Int32) := (f_X9_lets M t0 (1 : Int32) (1 : Int32)).bind fun q3 => if q3.2 = 0 then (some (q3.1, (0 : Int32))) else ((f_X9_timeGoes q3.1 x1 x2 x3).bind fun q5 => if x4 = 0 then (if inb (30 : Int32) 34 = true then (some (q5, (q5 20 (Int32.toNatClampNeg (30 : Int32))))) else none) else (if x4 = (1 : Int32) then ((f_X9_marginOf q5 (0 : Int32)).bind fun q12 => some (q5, q12)) else (if x4 = (2 : Int32) then (if inb (33 : Int32) 34 = true then (if inb (33 : Int32) 34 = true then (some (q5, ((q5 20 (Int32.toNatClampNeg (33 : Int32))) - (q5 19 (Int32.toNatClampNeg (33 : Int32)))))) else none) else none) else ((f_X9_linesNow q5).bind fun q9 => some (q5, q9)))))
def f_X9_time (M : TX) (x1 : Int32) (x2 : Int32) (x3 : Int32) (x4 : Int32) : Option (TX × Int32) := (f_X9_isTime x2 x3).bind fun q1 => if q1 = 0 then (B_X9_time_29 (u2 M 0 0 (0 : Int32)) x1 x2 x3 x4 (0 : Int32)) else ((f_X9_within x4 (0 : Int32) (3 : Int32)).bind fun q14 => if q14 = 0 then (B_X9_time_29 (u2 M 0 0 (0 : Int32)) x1 x2 x3 x4 (0 : Int32)) else (B_X9_time_29 (u2 M 0 0 (0 : Int32)) x1 x2 x3 x4 (1 : Int32)))
section
variable {G : GP} {l : Launch}
set_option maxRecDepth 20000 in
set_option maxHeartbeats 2000000 in
theorem wB_X9_time_29 {p : Program} {e : Env} {s : State} {m : MethodId} {args : Array Value} {below : List Frame} {meth : Method} {c : Code} (C : Cx G p s m args c cX9_time 5 RX9) (hr : meth.sig.returnType = (some .int)) (hlk : meth.locks = false) {ro : TX × Int32} : ∀ (X : TX) (M : TX) (L : TL) (x1 : Int32) (x2 : Int32) (x3 : Int32) (x4 : Int32) (t0 : Int32) (H : Heap) (locs : List Loc) (ls : Array Slot), Wh G s X M L H locs → lv_has ls 5 [(0, .ref (gA G (41 + 0))), (1, .int x1), (2, .int x2), (3, .int x3), (4, .int x4)] → B_X9_time_29 M x1 x2 x3 x4 t0 = some ro → W p l e (rz 8 194) s m args below meth c H locs 0 0 (MQ below (Di G X ro.1 L ro.2) args s 0 0 (AB G)) (F0 m 29 ls [.int t0, .ref (gA G (41 + 0))]) := by
  intro X M L x1 x2 x3 x4 t0 H locs ls hw hl hf
  unfold B_X9_time_29 at hf
  refine lv_iconst (v := (1 : Int32)) C.1.1 C.1.2.1 dX9_time_29 rfl ?_
  refine lv_iconst (v := (1 : Int32)) C.1.1 C.1.2.1 dX9_time_30 rfl ?_
  obtain ⟨q3, h3, hf⟩ := o_bind hf
  refine aft_i hw (run_VM C hw clX9_200 (As := [.int t0, .int (1 : Int32), .int (1 : Int32)]) (rest := []) oM_0 (c_X9_lets h3) rfl hl.1 rfl ⟨(Nat.le_of_ble_eq_true rfl), (Nat.le_of_ble_eq_true rfl)⟩ ⟨Nat.zero_le _, Nat.zero_le _⟩ rfl (Nat.le_of_ble_eq_true rfl) dX9_time_31) (fun H locs hw => ?_)
  refine lv_if_ne (tgt := 39) C.1.1 C.1.2.1 dX9_time_34 (by decide) (fun c4 => ?_) (fun c4 => ?_)
  · have hf := o_f hf c4
    refine lv_aload_n C.1.1 C.1.2.1 dX9_time_39 rfl (lv_at hl 0 rfl) ?_
    refine lv_iload_n C.1.1 C.1.2.1 dX9_time_40 rfl (lv_at hl 1 rfl) ?_
    refine lv_iload_n C.1.1 C.1.2.1 dX9_time_41 rfl (lv_at hl 2 rfl) ?_
    refine lv_iload_n C.1.1 C.1.2.1 dX9_time_42 rfl (lv_at hl 3 rfl) ?_
    obtain ⟨q5, h5, hf⟩ := o_bind hf
    refine aft_v hw (run_VM C hw clX9_431 (As := [.int x1, .int x2, .int x3]) (rest := []) oM_0 (c_X9_timeGoes h5) rfl hl.1 rfl ⟨(Nat.le_of_ble_eq_true rfl), (Nat.le_of_ble_eq_true rfl)⟩ ⟨Nat.zero_le _, Nat.zero_le _⟩ rfl (Nat.le_of_ble_eq_true rfl) dX9_time_43) (fun H locs hw => ?_)
    refine lv_iload C.1.1 C.1.2.1 dX9_time_46 (lv_at hl 4 rfl) ?_
    refine lv_if_ne (tgt := 61) C.1.1 C.1.2.1 dX9_time_48 (by decide) (fun c6 => ?_) (fun c6 => ?_)
    · have hf := o_f hf c6
      refine lv_iload C.1.1 C.1.2.1 dX9_time_61 (lv_at hl 4 rfl) ?_
      refine lv_iconst (v := (1 : Int32)) C.1.1 C.1.2.1 dX9_time_63 rfl ?_
      refine lv_icmp_ne (tgt := 75) C.1.1 C.1.2.1 dX9_time_64 (by decide) (fun c7 => ?_) (fun c7 => ?_)
      · have hf := o_f hf c7
        refine lv_iload C.1.1 C.1.2.1 dX9_time_75 (lv_at hl 4 rfl) ?_
        refine lv_iconst (v := (2 : Int32)) C.1.1 C.1.2.1 dX9_time_77 rfl ?_
        refine lv_icmp_ne (tgt := 99) C.1.1 C.1.2.1 dX9_time_78 (by decide) (fun c8 => ?_) (fun c8 => ?_)
        · have hf := o_f hf c8
          refine lv_aload_n C.1.1 C.1.2.1 dX9_time_99 rfl (lv_at hl 0 rfl) ?_
          obtain ⟨q9, h9, hf⟩ := o_bind hf
          refine aft_i hw (run_VM C hw clX9_347 (As := []) (rest := []) oM_0 (c_X9_linesNow h9) rfl hl.1 rfl ⟨(Nat.le_of_ble_eq_true rfl), (Nat.le_of_ble_eq_true rfl)⟩ ⟨Nat.zero_le _, Nat.zero_le _⟩ rfl (Nat.le_of_ble_eq_true rfl) dX9_time_100) (fun H locs hw => ?_)
          obtain rfl := Option.some.inj hf
          exact ret_i C hr hlk hw dX9_time_103
        · have hf := o_t hf c8
          refine lv_aload_n C.1.1 C.1.2.1 dX9_time_81 rfl (lv_at hl 0 rfl) ?_
          refine m_ref C hw fM_0_42 flX9_74 dX9_time_82 ?_
          refine lv_bipush (v := (33 : Int32)) C.1.1 C.1.2.1 dX9_time_85 rfl ?_
          have g10 := inb_in (o_g hf).1
          have hf := (o_g hf).2
          refine m_ald C hw aM_20 g10 dX9_time_87 ?_
          refine lv_aload_n C.1.1 C.1.2.1 dX9_time_88 rfl (lv_at hl 0 rfl) ?_
          refine m_ref C hw fM_0_41 flX9_71 dX9_time_89 ?_
          refine lv_bipush (v := (33 : Int32)) C.1.1 C.1.2.1 dX9_time_92 rfl ?_
          have g11 := inb_in (o_g hf).1
          have hf := (o_g hf).2
          refine m_ald C hw aM_19 g11 dX9_time_94 ?_
          refine lv_isub C.1.1 C.1.2.1 dX9_time_95 ?_
          refine lv_goto (tgt := 103) C.1.1 C.1.2.1 dX9_time_96 (by decide) ?_
          obtain rfl := Option.some.inj hf
          exact ret_i C hr hlk hw dX9_time_103
      · have hf := o_t hf c7
        refine lv_aload_n C.1.1 C.1.2.1 dX9_time_67 rfl (lv_at hl 0 rfl) ?_
        refine lv_iconst (v := (0 : Int32)) C.1.1 C.1.2.1 dX9_time_68 rfl ?_
        obtain ⟨q12, h12, hf⟩ := o_bind hf
        refine aft_i hw (run_VM C hw clX9_364 (As := [.int (0 : Int32)]) (rest := []) oM_0 (c_X9_marginOf h12) rfl hl.1 rfl ⟨(Nat.le_of_ble_eq_true rfl), (Nat.le_of_ble_eq_true rfl)⟩ ⟨Nat.zero_le _, Nat.zero_le _⟩ rfl (Nat.le_of_ble_eq_true rfl) dX9_time_69) (fun H locs hw => ?_)
        refine lv_goto (tgt := 103) C.1.1 C.1.2.1 dX9_time_72 (by decide) ?_
        obtain rfl := Option.some.inj hf
        exact ret_i C hr hlk hw dX9_time_103
    · have hf := o_t hf c6
      refine lv_aload_n C.1.1 C.1.2.1 dX9_time_51 rfl (lv_at hl 0 rfl) ?_
      refine m_ref C hw fM_0_42 flX9_74 dX9_time_52 ?_
      refine lv_bipush (v := (30 : Int32)) C.1.1 C.1.2.1 dX9_time_55 rfl ?_
      have g13 := inb_in (o_g hf).1
      have hf := (o_g hf).2
      refine m_ald C hw aM_20 g13 dX9_time_57 ?_
      refine lv_goto (tgt := 103) C.1.1 C.1.2.1 dX9_time_58 (by decide) ?_
      obtain rfl := Option.some.inj hf
      exact ret_i C hr hlk hw dX9_time_103
  · have hf := o_t hf c4
    refine lv_iconst (v := (0 : Int32)) C.1.1 C.1.2.1 dX9_time_37 rfl ?_
    obtain rfl := Option.some.inj hf
    exact ret_i C hr hlk hw dX9_time_38
set_option maxRecDepth 20000 in
set_option maxHeartbeats 2000000 in
theorem c_X9_time   {X M : TX} {L : TL} {x1 : Int32} {x2 : Int32} {x3 : Int32} {x4 : Int32} {ro : TX × Int32} (hf : f_X9_time M x1 x2 x3 x4 = some ro) : CTi G l yX9_time cX9_time 5 (some .int) 8 194 [.ref (gA G (41 + 0)), .int x1, .int x2, .int x3, .int x4] X M L X ro.1 L ro.2 := by
  unfold f_X9_time at hf
  refine ct_of (by decide +kernel) (Nat.le_of_ble_eq_true rfl) (fun p e s m args below meth c H locs ls C hr hlk hw hl => ?_)
  have C : Cx G p s m args c cX9_time 5 RX9 := C
  have hl : lv_has ls 5 [(0, .ref (gA G (41 + 0))), (1, .int x1), (2, .int x2), (3, .int x3), (4, .int x4)] := hl
  refine lv_aload_n C.1.1 C.1.2.1 dX9_time_0 rfl (lv_at hl 0 rfl) ?_
  refine lv_iconst (v := (0 : Int32)) C.1.1 C.1.2.1 dX9_time_1 rfl ?_
  refine m_put C hw iM_0_0 flX9_3 dX9_time_2 (fun H locs hw => ?_)
  refine lv_aload_n C.1.1 C.1.2.1 dX9_time_5 rfl (lv_at hl 0 rfl) ?_
  refine lv_iload_n C.1.1 C.1.2.1 dX9_time_6 rfl (lv_at hl 2 rfl) ?_
  refine lv_iload_n C.1.1 C.1.2.1 dX9_time_7 rfl (lv_at hl 3 rfl) ?_
  obtain ⟨q1, h1, hf⟩ := o_bind hf
  refine aft_i hw (run_S C hw clX9_428 (As := [.int x2, .int x3]) (rest := [.ref (gA G (41 + 0))]) (c_X9_isTime h1) hl.1 rfl ⟨(Nat.le_of_ble_eq_true rfl), (Nat.le_of_ble_eq_true rfl)⟩ ⟨Nat.zero_le _, Nat.zero_le _⟩ rfl (Nat.le_of_ble_eq_true rfl) dX9_time_8) (fun H locs hw => ?_)
  refine lv_if_eq (tgt := 28) C.1.1 C.1.2.1 dX9_time_11 (by decide) (fun c2 => ?_) (fun c2 => ?_)
  · have hf := o_t hf c2
    refine lv_iconst (v := (0 : Int32)) C.1.1 C.1.2.1 dX9_time_28 rfl ?_
    exact wB_X9_time_29 C hr hlk X (u2 M 0 0 (0 : Int32)) L x1 x2 x3 x4 (0 : Int32) _ _ _ hw (lv_sub hl [0, 1, 2, 3, 4] rfl) hf
  · have hf := o_f hf c2
    refine lv_iload C.1.1 C.1.2.1 dX9_time_14 (lv_at hl 4 rfl) ?_
    refine lv_iconst (v := (0 : Int32)) C.1.1 C.1.2.1 dX9_time_16 rfl ?_
    refine lv_iconst (v := (3 : Int32)) C.1.1 C.1.2.1 dX9_time_17 rfl ?_
    obtain ⟨q14, h14, hf⟩ := o_bind hf
    refine aft_i hw (run_S C hw clX9_385 (As := [.int x4, .int (0 : Int32), .int (3 : Int32)]) (rest := [.ref (gA G (41 + 0))]) (c_X9_within h14) hl.1 rfl ⟨(Nat.le_of_ble_eq_true rfl), (Nat.le_of_ble_eq_true rfl)⟩ ⟨Nat.zero_le _, Nat.zero_le _⟩ rfl (Nat.le_of_ble_eq_true rfl) dX9_time_18) (fun H locs hw => ?_)
    refine lv_if_eq (tgt := 28) C.1.1 C.1.2.1 dX9_time_21 (by decide) (fun c15 => ?_) (fun c15 => ?_)
    · have hf := o_t hf c15
      refine lv_iconst (v := (0 : Int32)) C.1.1 C.1.2.1 dX9_time_28 rfl ?_
      exact wB_X9_time_29 C hr hlk X (u2 M 0 0 (0 : Int32)) L x1 x2 x3 x4 (0 : Int32) _ _ _ hw (lv_sub hl [0, 1, 2, 3, 4] rfl) hf
    · have hf := o_f hf c15
      refine lv_iconst (v := (1 : Int32)) C.1.1 C.1.2.1 dX9_time_24 rfl ?_
      refine lv_goto (tgt := 29) C.1.1 C.1.2.1 dX9_time_25 (by decide) ?_
      exact wB_X9_time_29 C hr hlk X (u2 M 0 0 (0 : Int32)) L x1 x2 x3 x4 (1 : Int32) _ _ _ hw (lv_sub hl [0, 1, 2, 3, 4] rfl) hf
end
/-! WinnerDrawsModel.span(IIIIII)I (('o', 'M', 0) ('i',) ('i',) ('i',) ('i',) ('i',) ('i',)) -/
def B_X9_span_129 (k_72 : TX → Int32 → Int32 → Int32 → Int32 → Int32 → Int32 → Int32 → Int32 → Int32 → Int32 → Option (TX × Int32)) (M : TX) (x1 : Int32) (x2 : Int32) (x3 : Int32) (x4 : Int32) (x5 : Int32) (x6 : Int32) (x7 : Int32) (x9 : Int32) (x10 : Int32) (x11 : Int32) : Option (TX × Int32) := if inb (30 : Int32) 34 = true then (if (M 20 (Int32.toNatClampNeg (30 : Int32))) = x6 then (k_72 M x1 x2 x3 x4 x5 x6 x7 x11 (x9 + (1 : Int32)) (x10 + (1 : Int32))) else (k_72 M x1 x2 x3 x4 x5 x6 x7 x11 (x9 + (0 : Int32)) (x10 + (1 : Int32)))) else none
def B_X9_span_115 (k_72 : TX → Int32 → Int32 → Int32 → Int32 → Int32 → Int32 → Int32 → Int32 → Int32 → Int32 → Option (TX × Int32)) (M : TX) (x1 : Int32) (x2 : Int32) (x3 : Int32) (x4 : Int32) (x5 : Int32) (x6 : Int32) (x8 : Int32) (x9 : Int32) (x10 : Int32) (x11 : Int32) (t0 : Int32) : Option (TX × Int32) := if x10 = 0 then (B_X9_span_129 k_72 M x1 x2 x3 x4 x5 x6 t0 x9 x10 x11) else (if x11 ≤ x8 then (if inb (30 : Int32) 34 = true then (if (M 20 (Int32.toNatClampNeg (30 : Int32))) = x6 then (k_72 M x1 x2 x3 x4 x5 x6 t0 x8 (x9 + (1 : Int32)) (x10 + (1 : Int32))) else (k_72 M x1 x2 x3 x4 x5 x6 t0 x8 (x9 + (0 : Int32)) (x10 + (1 : Int32)))) else none) else (B_X9_span_129 k_72 M x1 x2 x3 x4 x5 x6 t0 x9 x10 x11))
def L_X9_span_72 : Nat → TX → Int32 → Int32 → Int32 → Int32 → Int32 → Int32 → Int32 → Int32 → Int32 → Int32 → Option (TX × Int32)
  | 0 => fun _ _ _ _ _ _ _ _ _ _ _ => none
  | n + 1 => fun M x1 x2 x3 x4 x5 x6 x7 x8 x9 x10 => if x2 ≤ x10 then (if x5 = 0 then (some (M, x7)) else (if x5 = (1 : Int32) then (some (M, x8)) else (some (M, x9)))) else ((f_X9_timeGoes M (x1 + x10) x3 x4).bind fun q8 => (f_X9_marginOf q8 (0 : Int32)).bind fun q9 => if x10 = 0 then (B_X9_span_115 (L_X9_span_72 n) q8 x1 x2 x3 x4 x5 x6 x8 x9 x10 q9 q9) else (if x7 ≤ q9 then (B_X9_span_115 (L_X9_span_72 n) q8 x1 x2 x3 x4 x5 x6 x8 x9 x10 q9 x7) else (B_X9_span_115 (L_X9_span_72 n) q8 x1 x2 x3 x4 x5 x6 x8 x9 x10 q9 q9)))
def f_X9_span (M : TX) (x1 : Int32) (x2 : Int32) (x3 : Int32) (x4 : Int32) (x5 : Int32) (x6 : Int32) : Option (TX × Int32) := (f_X9_within x2 (1 : Int32) (10 : Int32)).bind fun q1 => if q1 = 0 then ((f_X9_lets (u2 M 0 0 (0 : Int32)) (0 : Int32) (1 : Int32) (1 : Int32)).bind fun q3 => if q3.2 = 0 then (some (q3.1, (0 : Int32))) else (L_X9_span_72 FU q3.1 x1 x2 x3 x4 x5 x6 (0 : Int32) (0 : Int32) (0 : Int32) (0 : Int32))) else ((f_X9_isTime x3 x4).bind fun q18 => if q18 = 0 then ((f_X9_lets (u2 M 0 0 (0 : Int32)) (0 : Int32) (1 : Int32) (1 : Int32)).bind fun q20 => if q20.2 = 0 then (some (q20.1, (0 : Int32))) else (L_X9_span_72 FU q20.1 x1 x2 x3 x4 x5 x6 (0 : Int32) (0 : Int32) (0 : Int32) (0 : Int32))) else ((f_X9_within x5 (0 : Int32) (2 : Int32)).bind fun q22 => if q22 = 0 then ((f_X9_lets (u2 M 0 0 (0 : Int32)) (0 : Int32) (1 : Int32) (1 : Int32)).bind fun q24 => if q24.2 = 0 then (some (q24.1, (0 : Int32))) else (L_X9_span_72 FU q24.1 x1 x2 x3 x4 x5 x6 (0 : Int32) (0 : Int32) (0 : Int32) (0 : Int32))) else ((f_X9_within x6 (0 : Int32) (1 : Int32)).bind fun q26 => if q26 = 0 then ((f_X9_lets (u2 M 0 0 (0 : Int32)) (0 : Int32) (1 : Int32) (1 : Int32)).bind fun q28 => if q28.2 = 0 then (some (q28.1, (0 : Int32))) else (L_X9_span_72 FU q28.1 x1 x2 x3 x4 x5 x6 (0 : Int32) (0 : Int32) (0 : Int32) (0 : Int32))) else ((f_X9_lets (u2 M 0 0 (0 : Int32)) (1 : Int32) (1 : Int32) (1 : Int32)).bind fun q30 => if q30.2 = 0 then (some (q30.1, (0 : Int32))) else (L_X9_span_72 FU q30.1 x1 x2 x3 x4 x5 x6 (0 : Int32) (0 : Int32) (0 : Int32) (0 : Int32))))))
section
variable {G : GP} {l : Launch}
set_option maxRecDepth 20000 in
set_option maxHeartbeats 2000000 in
theorem wB_X9_span_129 {p : Program} {e : Env} {s : State} {m : MethodId} {args : Array Value} {below : List Frame} {meth : Method} {c : Code} (C : Cx G p s m args c cX9_span 12 RX9) (hr : meth.sig.returnType = (some .int)) (hlk : meth.locks = false) {ro : TX × Int32} {k_72 : TX → Int32 → Int32 → Int32 → Int32 → Int32 → Int32 → Int32 → Int32 → Int32 → Int32 → Option (TX × Int32)} (hk_72 : ∀ (X : TX) (M : TX) (L : TL) (x1 : Int32) (x2 : Int32) (x3 : Int32) (x4 : Int32) (x5 : Int32) (x6 : Int32) (x7 : Int32) (x8 : Int32) (x9 : Int32) (x10 : Int32) (H : Heap) (locs : List Loc) (ls : Array Slot), Wh G s X M L H locs → lv_has ls 12 [(0, .ref (gA G (41 + 0))), (1, .int x1), (2, .int x2), (3, .int x3), (4, .int x4), (5, .int x5), (6, .int x6), (7, .int x7), (8, .int x8), (9, .int x9), (10, .int x10)] → k_72 M x1 x2 x3 x4 x5 x6 x7 x8 x9 x10 = some ro → W p l e (rz 8 194) s m args below meth c H locs 0 0 (MQ below (Di G X ro.1 L ro.2) args s 0 0 (AB G)) (F0 m 72 ls [])) : ∀ (X : TX) (M : TX) (L : TL) (x1 : Int32) (x2 : Int32) (x3 : Int32) (x4 : Int32) (x5 : Int32) (x6 : Int32) (x7 : Int32) (x9 : Int32) (x10 : Int32) (x11 : Int32) (H : Heap) (locs : List Loc) (ls : Array Slot), Wh G s X M L H locs → lv_has ls 12 [(0, .ref (gA G (41 + 0))), (1, .int x1), (2, .int x2), (3, .int x3), (4, .int x4), (5, .int x5), (6, .int x6), (7, .int x7), (9, .int x9), (10, .int x10), (11, .int x11)] → B_X9_span_129 k_72 M x1 x2 x3 x4 x5 x6 x7 x9 x10 x11 = some ro → W p l e (rz 8 194) s m args below meth c H locs 0 0 (MQ below (Di G X ro.1 L ro.2) args s 0 0 (AB G)) (F0 m 129 ls []) := by
  intro X M L x1 x2 x3 x4 x5 x6 x7 x9 x10 x11 H locs ls hw hl hf
  unfold B_X9_span_129 at hf
  refine lv_iload C.1.1 C.1.2.1 dX9_span_129 (lv_at hl 10 rfl) ?_
  refine lv_goto (tgt := 136) C.1.1 C.1.2.1 dX9_span_131 (by decide) ?_
  refine lv_istore (lv' := [(8, .int x11), (0, .ref (gA G (41 + 0))), (1, .int x1), (2, .int x2), (3, .int x3), (4, .int x4), (5, .int x5), (6, .int x6), (7, .int x7), (9, .int x9), (10, .int x10), (11, .int x11)]) C.1.1 C.1.2.1 dX9_span_136 hl (by decide) rfl (fun ls hl => ?_)
  refine lv_iload C.1.1 C.1.2.1 dX9_span_138 (lv_at hl 9 rfl) ?_
  refine lv_aload_n C.1.1 C.1.2.1 dX9_span_140 rfl (lv_at hl 1 rfl) ?_
  refine m_ref C hw fM_0_42 flX9_74 dX9_span_141 ?_
  refine lv_bipush (v := (30 : Int32)) C.1.1 C.1.2.1 dX9_span_144 rfl ?_
  have g12 := inb_in (o_g hf).1
  have hf := (o_g hf).2
  refine m_ald C hw aM_20 g12 dX9_span_146 ?_
  refine lv_iload C.1.1 C.1.2.1 dX9_span_147 (lv_at hl 7 rfl) ?_
  refine lv_icmp_ne (tgt := 156) C.1.1 C.1.2.1 dX9_span_149 (by decide) (fun c13 => ?_) (fun c13 => ?_)
  · have hf := o_f hf c13
    refine lv_iconst (v := (0 : Int32)) C.1.1 C.1.2.1 dX9_span_156 rfl ?_
    refine lv_iadd C.1.1 C.1.2.1 dX9_span_157 ?_
    refine lv_istore (lv' := [(9, .int (x9 + (0 : Int32))), (8, .int x11), (0, .ref (gA G (41 + 0))), (1, .int x1), (2, .int x2), (3, .int x3), (4, .int x4), (5, .int x5), (6, .int x6), (7, .int x7), (10, .int x10), (11, .int x11)]) C.1.1 C.1.2.1 dX9_span_158 hl (by decide) rfl (fun ls hl => ?_)
    refine lv_iinc (v := (x10 + (1 : Int32))) (lv' := [(10, .int (x10 + (1 : Int32))), (9, .int (x9 + (0 : Int32))), (8, .int x11), (0, .ref (gA G (41 + 0))), (1, .int x1), (2, .int x2), (3, .int x3), (4, .int x4), (5, .int x5), (6, .int x6), (7, .int x7), (11, .int x11)]) C.1.1 C.1.2.1 dX9_span_160 hl (k := 10) rfl rfl (by decide) rfl (fun ls hl => ?_)
    refine lv_goto (tgt := 72) C.1.1 C.1.2.1 dX9_span_163 (by decide) ?_
    exact hk_72 X M L x1 x2 x3 x4 x5 x6 x7 x11 (x9 + (0 : Int32)) (x10 + (1 : Int32)) _ _ _ hw (lv_sub hl [3, 4, 5, 6, 7, 8, 9, 10, 2, 1, 0] rfl) hf
  · have hf := o_t hf c13
    refine lv_iconst (v := (1 : Int32)) C.1.1 C.1.2.1 dX9_span_152 rfl ?_
    refine lv_goto (tgt := 157) C.1.1 C.1.2.1 dX9_span_153 (by decide) ?_
    refine lv_iadd C.1.1 C.1.2.1 dX9_span_157 ?_
    refine lv_istore (lv' := [(9, .int (x9 + (1 : Int32))), (8, .int x11), (0, .ref (gA G (41 + 0))), (1, .int x1), (2, .int x2), (3, .int x3), (4, .int x4), (5, .int x5), (6, .int x6), (7, .int x7), (10, .int x10), (11, .int x11)]) C.1.1 C.1.2.1 dX9_span_158 hl (by decide) rfl (fun ls hl => ?_)
    refine lv_iinc (v := (x10 + (1 : Int32))) (lv' := [(10, .int (x10 + (1 : Int32))), (9, .int (x9 + (1 : Int32))), (8, .int x11), (0, .ref (gA G (41 + 0))), (1, .int x1), (2, .int x2), (3, .int x3), (4, .int x4), (5, .int x5), (6, .int x6), (7, .int x7), (11, .int x11)]) C.1.1 C.1.2.1 dX9_span_160 hl (k := 10) rfl rfl (by decide) rfl (fun ls hl => ?_)
    refine lv_goto (tgt := 72) C.1.1 C.1.2.1 dX9_span_163 (by decide) ?_
    exact hk_72 X M L x1 x2 x3 x4 x5 x6 x7 x11 (x9 + (1 : Int32)) (x10 + (1 : Int32)) _ _ _ hw (lv_sub hl [3, 4, 5, 6, 7, 8, 9, 10, 2, 1, 0] rfl) hf
set_option maxRecDepth 20000 in
set_option maxHeartbeats 2000000 in
theorem wB_X9_span_115 {p : Program} {e : Env} {s : State} {m : MethodId} {args : Array Value} {below : List Frame} {meth : Method} {c : Code} (C : Cx G p s m args c cX9_span 12 RX9) (hr : meth.sig.returnType = (some .int)) (hlk : meth.locks = false) {ro : TX × Int32} {k_72 : TX → Int32 → Int32 → Int32 → Int32 → Int32 → Int32 → Int32 → Int32 → Int32 → Int32 → Option (TX × Int32)} (hk_72 : ∀ (X : TX) (M : TX) (L : TL) (x1 : Int32) (x2 : Int32) (x3 : Int32) (x4 : Int32) (x5 : Int32) (x6 : Int32) (x7 : Int32) (x8 : Int32) (x9 : Int32) (x10 : Int32) (H : Heap) (locs : List Loc) (ls : Array Slot), Wh G s X M L H locs → lv_has ls 12 [(0, .ref (gA G (41 + 0))), (1, .int x1), (2, .int x2), (3, .int x3), (4, .int x4), (5, .int x5), (6, .int x6), (7, .int x7), (8, .int x8), (9, .int x9), (10, .int x10)] → k_72 M x1 x2 x3 x4 x5 x6 x7 x8 x9 x10 = some ro → W p l e (rz 8 194) s m args below meth c H locs 0 0 (MQ below (Di G X ro.1 L ro.2) args s 0 0 (AB G)) (F0 m 72 ls [])) : ∀ (X : TX) (M : TX) (L : TL) (x1 : Int32) (x2 : Int32) (x3 : Int32) (x4 : Int32) (x5 : Int32) (x6 : Int32) (x8 : Int32) (x9 : Int32) (x10 : Int32) (x11 : Int32) (t0 : Int32) (H : Heap) (locs : List Loc) (ls : Array Slot), Wh G s X M L H locs → lv_has ls 12 [(0, .ref (gA G (41 + 0))), (1, .int x1), (2, .int x2), (3, .int x3), (4, .int x4), (5, .int x5), (6, .int x6), (8, .int x8), (9, .int x9), (10, .int x10), (11, .int x11)] → B_X9_span_115 k_72 M x1 x2 x3 x4 x5 x6 x8 x9 x10 x11 t0 = some ro → W p l e (rz 8 194) s m args below meth c H locs 0 0 (MQ below (Di G X ro.1 L ro.2) args s 0 0 (AB G)) (F0 m 115 ls [.int t0]) := by
  intro X M L x1 x2 x3 x4 x5 x6 x8 x9 x10 x11 t0 H locs ls hw hl hf
  unfold B_X9_span_115 at hf
  refine lv_istore (lv' := [(7, .int t0), (0, .ref (gA G (41 + 0))), (1, .int x1), (2, .int x2), (3, .int x3), (4, .int x4), (5, .int x5), (6, .int x6), (8, .int x8), (9, .int x9), (10, .int x10), (11, .int x11)]) C.1.1 C.1.2.1 dX9_span_115 hl (by decide) rfl (fun ls hl => ?_)
  refine lv_iload C.1.1 C.1.2.1 dX9_span_117 (lv_at hl 10 rfl) ?_
  refine lv_if_eq (tgt := 129) C.1.1 C.1.2.1 dX9_span_119 (by decide) (fun c11 => ?_) (fun c11 => ?_)
  · have hf := o_t hf c11
    exact wB_X9_span_129 C hr hlk hk_72 X M L x1 x2 x3 x4 x5 x6 t0 x9 x10 x11 _ _ _ hw (lv_sub hl [1, 2, 3, 4, 5, 6, 7, 0, 9, 10, 11] rfl) hf
  · have hf := o_f hf c11
    refine lv_iload C.1.1 C.1.2.1 dX9_span_122 (lv_at hl 11 rfl) ?_
    refine lv_iload C.1.1 C.1.2.1 dX9_span_124 (lv_at hl 8 rfl) ?_
    refine lv_icmp_le (tgt := 134) C.1.1 C.1.2.1 dX9_span_126 (by decide) (fun c14 => ?_) (fun c14 => ?_)
    · have hf := o_t hf c14
      refine lv_iload C.1.1 C.1.2.1 dX9_span_134 (lv_at hl 8 rfl) ?_
      refine lv_istore (lv' := [(8, .int x8), (7, .int t0), (0, .ref (gA G (41 + 0))), (1, .int x1), (2, .int x2), (3, .int x3), (4, .int x4), (5, .int x5), (6, .int x6), (9, .int x9), (10, .int x10), (11, .int x11)]) C.1.1 C.1.2.1 dX9_span_136 hl (by decide) rfl (fun ls hl => ?_)
      refine lv_iload C.1.1 C.1.2.1 dX9_span_138 (lv_at hl 9 rfl) ?_
      refine lv_aload_n C.1.1 C.1.2.1 dX9_span_140 rfl (lv_at hl 2 rfl) ?_
      refine m_ref C hw fM_0_42 flX9_74 dX9_span_141 ?_
      refine lv_bipush (v := (30 : Int32)) C.1.1 C.1.2.1 dX9_span_144 rfl ?_
      have g15 := inb_in (o_g hf).1
      have hf := (o_g hf).2
      refine m_ald C hw aM_20 g15 dX9_span_146 ?_
      refine lv_iload C.1.1 C.1.2.1 dX9_span_147 (lv_at hl 8 rfl) ?_
      refine lv_icmp_ne (tgt := 156) C.1.1 C.1.2.1 dX9_span_149 (by decide) (fun c16 => ?_) (fun c16 => ?_)
      · have hf := o_f hf c16
        refine lv_iconst (v := (0 : Int32)) C.1.1 C.1.2.1 dX9_span_156 rfl ?_
        refine lv_iadd C.1.1 C.1.2.1 dX9_span_157 ?_
        refine lv_istore (lv' := [(9, .int (x9 + (0 : Int32))), (8, .int x8), (7, .int t0), (0, .ref (gA G (41 + 0))), (1, .int x1), (2, .int x2), (3, .int x3), (4, .int x4), (5, .int x5), (6, .int x6), (10, .int x10), (11, .int x11)]) C.1.1 C.1.2.1 dX9_span_158 hl (by decide) rfl (fun ls hl => ?_)
        refine lv_iinc (v := (x10 + (1 : Int32))) (lv' := [(10, .int (x10 + (1 : Int32))), (9, .int (x9 + (0 : Int32))), (8, .int x8), (7, .int t0), (0, .ref (gA G (41 + 0))), (1, .int x1), (2, .int x2), (3, .int x3), (4, .int x4), (5, .int x5), (6, .int x6), (11, .int x11)]) C.1.1 C.1.2.1 dX9_span_160 hl (k := 10) rfl rfl (by decide) rfl (fun ls hl => ?_)
        refine lv_goto (tgt := 72) C.1.1 C.1.2.1 dX9_span_163 (by decide) ?_
        exact hk_72 X M L x1 x2 x3 x4 x5 x6 t0 x8 (x9 + (0 : Int32)) (x10 + (1 : Int32)) _ _ _ hw (lv_sub hl [4, 5, 6, 7, 8, 9, 10, 3, 2, 1, 0] rfl) hf
      · have hf := o_t hf c16
        refine lv_iconst (v := (1 : Int32)) C.1.1 C.1.2.1 dX9_span_152 rfl ?_
        refine lv_goto (tgt := 157) C.1.1 C.1.2.1 dX9_span_153 (by decide) ?_
        refine lv_iadd C.1.1 C.1.2.1 dX9_span_157 ?_
        refine lv_istore (lv' := [(9, .int (x9 + (1 : Int32))), (8, .int x8), (7, .int t0), (0, .ref (gA G (41 + 0))), (1, .int x1), (2, .int x2), (3, .int x3), (4, .int x4), (5, .int x5), (6, .int x6), (10, .int x10), (11, .int x11)]) C.1.1 C.1.2.1 dX9_span_158 hl (by decide) rfl (fun ls hl => ?_)
        refine lv_iinc (v := (x10 + (1 : Int32))) (lv' := [(10, .int (x10 + (1 : Int32))), (9, .int (x9 + (1 : Int32))), (8, .int x8), (7, .int t0), (0, .ref (gA G (41 + 0))), (1, .int x1), (2, .int x2), (3, .int x3), (4, .int x4), (5, .int x5), (6, .int x6), (11, .int x11)]) C.1.1 C.1.2.1 dX9_span_160 hl (k := 10) rfl rfl (by decide) rfl (fun ls hl => ?_)
        refine lv_goto (tgt := 72) C.1.1 C.1.2.1 dX9_span_163 (by decide) ?_
        exact hk_72 X M L x1 x2 x3 x4 x5 x6 t0 x8 (x9 + (1 : Int32)) (x10 + (1 : Int32)) _ _ _ hw (lv_sub hl [4, 5, 6, 7, 8, 9, 10, 3, 2, 1, 0] rfl) hf
    · have hf := o_f hf c14
      exact wB_X9_span_129 C hr hlk hk_72 X M L x1 x2 x3 x4 x5 x6 t0 x9 x10 x11 _ _ _ hw (lv_sub hl [1, 2, 3, 4, 5, 6, 7, 0, 9, 10, 11] rfl) hf
set_option maxRecDepth 20000 in
set_option maxHeartbeats 2000000 in
theorem wL_X9_span_72 {p : Program} {e : Env} {s : State} {m : MethodId} {args : Array Value} {below : List Frame} {meth : Method} {c : Code} (C : Cx G p s m args c cX9_span 12 RX9) (hr : meth.sig.returnType = (some .int)) (hlk : meth.locks = false) {ro : TX × Int32} : ∀ (n : Nat), ∀ (X : TX) (M : TX) (L : TL) (x1 : Int32) (x2 : Int32) (x3 : Int32) (x4 : Int32) (x5 : Int32) (x6 : Int32) (x7 : Int32) (x8 : Int32) (x9 : Int32) (x10 : Int32) (H : Heap) (locs : List Loc) (ls : Array Slot), Wh G s X M L H locs → lv_has ls 12 [(0, .ref (gA G (41 + 0))), (1, .int x1), (2, .int x2), (3, .int x3), (4, .int x4), (5, .int x5), (6, .int x6), (7, .int x7), (8, .int x8), (9, .int x9), (10, .int x10)] → L_X9_span_72 n M x1 x2 x3 x4 x5 x6 x7 x8 x9 x10 = some ro → W p l e (rz 8 194) s m args below meth c H locs 0 0 (MQ below (Di G X ro.1 L ro.2) args s 0 0 (AB G)) (F0 m 72 ls []) := by
  intro n
  induction n with
  | zero =>
    intro X M L x1 x2 x3 x4 x5 x6 x7 x8 x9 x10 H locs ls hw hl hf
    cases hf
  | succ n hk_72 =>
    intro X M L x1 x2 x3 x4 x5 x6 x7 x8 x9 x10 H locs ls hw hl hf
    rw [L_X9_span_72] at hf
    refine lv_iload C.1.1 C.1.2.1 dX9_span_72 (lv_at hl 10 rfl) ?_
    refine lv_iload_n C.1.1 C.1.2.1 dX9_span_74 rfl (lv_at hl 2 rfl) ?_
    refine lv_icmp_ge (tgt := 166) C.1.1 C.1.2.1 dX9_span_75 (by decide) (fun c5 => ?_) (fun c5 => ?_)
    · have hf := o_t hf c5
      refine lv_iload C.1.1 C.1.2.1 dX9_span_166 (lv_at hl 5 rfl) ?_
      refine lv_if_ne (tgt := 176) C.1.1 C.1.2.1 dX9_span_168 (by decide) (fun c6 => ?_) (fun c6 => ?_)
      · have hf := o_f hf c6
        refine lv_iload C.1.1 C.1.2.1 dX9_span_176 (lv_at hl 5 rfl) ?_
        refine lv_iconst (v := (1 : Int32)) C.1.1 C.1.2.1 dX9_span_178 rfl ?_
        refine lv_icmp_ne (tgt := 187) C.1.1 C.1.2.1 dX9_span_179 (by decide) (fun c7 => ?_) (fun c7 => ?_)
        · have hf := o_f hf c7
          refine lv_iload C.1.1 C.1.2.1 dX9_span_187 (lv_at hl 9 rfl) ?_
          obtain rfl := Option.some.inj hf
          exact ret_i C hr hlk hw dX9_span_189
        · have hf := o_t hf c7
          refine lv_iload C.1.1 C.1.2.1 dX9_span_182 (lv_at hl 8 rfl) ?_
          refine lv_goto (tgt := 189) C.1.1 C.1.2.1 dX9_span_184 (by decide) ?_
          obtain rfl := Option.some.inj hf
          exact ret_i C hr hlk hw dX9_span_189
      · have hf := o_t hf c6
        refine lv_iload C.1.1 C.1.2.1 dX9_span_171 (lv_at hl 7 rfl) ?_
        refine lv_goto (tgt := 189) C.1.1 C.1.2.1 dX9_span_173 (by decide) ?_
        obtain rfl := Option.some.inj hf
        exact ret_i C hr hlk hw dX9_span_189
    · have hf := o_f hf c5
      refine lv_aload_n C.1.1 C.1.2.1 dX9_span_78 rfl (lv_at hl 0 rfl) ?_
      refine lv_iload_n C.1.1 C.1.2.1 dX9_span_79 rfl (lv_at hl 1 rfl) ?_
      refine lv_iload C.1.1 C.1.2.1 dX9_span_80 (lv_at hl 10 rfl) ?_
      refine lv_iadd C.1.1 C.1.2.1 dX9_span_82 ?_
      refine lv_iload_n C.1.1 C.1.2.1 dX9_span_83 rfl (lv_at hl 3 rfl) ?_
      refine lv_iload C.1.1 C.1.2.1 dX9_span_84 (lv_at hl 4 rfl) ?_
      obtain ⟨q8, h8, hf⟩ := o_bind hf
      refine aft_v hw (run_VM C hw clX9_431 (As := [.int (x1 + x10), .int x3, .int x4]) (rest := []) oM_0 (c_X9_timeGoes h8) rfl hl.1 rfl ⟨(Nat.le_of_ble_eq_true rfl), (Nat.le_of_ble_eq_true rfl)⟩ ⟨Nat.zero_le _, Nat.zero_le _⟩ rfl (Nat.le_of_ble_eq_true rfl) dX9_span_86) (fun H locs hw => ?_)
      refine lv_aload_n C.1.1 C.1.2.1 dX9_span_89 rfl (lv_at hl 0 rfl) ?_
      refine lv_iconst (v := (0 : Int32)) C.1.1 C.1.2.1 dX9_span_90 rfl ?_
      obtain ⟨q9, h9, hf⟩ := o_bind hf
      refine aft_i hw (run_VM C hw clX9_364 (As := [.int (0 : Int32)]) (rest := []) oM_0 (c_X9_marginOf h9) rfl hl.1 rfl ⟨(Nat.le_of_ble_eq_true rfl), (Nat.le_of_ble_eq_true rfl)⟩ ⟨Nat.zero_le _, Nat.zero_le _⟩ rfl (Nat.le_of_ble_eq_true rfl) dX9_span_91) (fun H locs hw => ?_)
      refine lv_istore (lv' := [(11, .int q9), (0, .ref (gA G (41 + 0))), (1, .int x1), (2, .int x2), (3, .int x3), (4, .int x4), (5, .int x5), (6, .int x6), (7, .int x7), (8, .int x8), (9, .int x9), (10, .int x10)]) C.1.1 C.1.2.1 dX9_span_94 hl (by decide) rfl (fun ls hl => ?_)
      refine lv_iload C.1.1 C.1.2.1 dX9_span_96 (lv_at hl 11 rfl) ?_
      refine lv_if_eq (tgt := 108) C.1.1 C.1.2.1 dX9_span_98 (by decide) (fun c10 => ?_) (fun c10 => ?_)
      · have hf := o_t hf c10
        refine lv_iload C.1.1 C.1.2.1 dX9_span_108 (lv_at hl 0 rfl) ?_
        refine lv_goto (tgt := 115) C.1.1 C.1.2.1 dX9_span_110 (by decide) ?_
        exact wB_X9_span_115 C hr hlk hk_72 X q8 L x1 x2 x3 x4 x5 x6 x8 x9 x10 q9 q9 _ _ _ hw (lv_sub hl [1, 2, 3, 4, 5, 6, 7, 9, 10, 11, 0] rfl) hf
      · have hf := o_f hf c10
        refine lv_iload C.1.1 C.1.2.1 dX9_span_101 (lv_at hl 0 rfl) ?_
        refine lv_iload C.1.1 C.1.2.1 dX9_span_103 (lv_at hl 8 rfl) ?_
        refine lv_icmp_ge (tgt := 113) C.1.1 C.1.2.1 dX9_span_105 (by decide) (fun c17 => ?_) (fun c17 => ?_)
        · have hf := o_t hf c17
          refine lv_iload C.1.1 C.1.2.1 dX9_span_113 (lv_at hl 8 rfl) ?_
          exact wB_X9_span_115 C hr hlk hk_72 X q8 L x1 x2 x3 x4 x5 x6 x8 x9 x10 q9 x7 _ _ _ hw (lv_sub hl [1, 2, 3, 4, 5, 6, 7, 9, 10, 11, 0] rfl) hf
        · have hf := o_f hf c17
          refine lv_iload C.1.1 C.1.2.1 dX9_span_108 (lv_at hl 0 rfl) ?_
          refine lv_goto (tgt := 115) C.1.1 C.1.2.1 dX9_span_110 (by decide) ?_
          exact wB_X9_span_115 C hr hlk hk_72 X q8 L x1 x2 x3 x4 x5 x6 x8 x9 x10 q9 q9 _ _ _ hw (lv_sub hl [1, 2, 3, 4, 5, 6, 7, 9, 10, 11, 0] rfl) hf
set_option maxRecDepth 20000 in
set_option maxHeartbeats 2000000 in
theorem c_X9_span   {X M : TX} {L : TL} {x1 : Int32} {x2 : Int32} {x3 : Int32} {x4 : Int32} {x5 : Int32} {x6 : Int32} {ro : TX × Int32} (hf : f_X9_span M x1 x2 x3 x4 x5 x6 = some ro) : CTi G l yX9_span cX9_span 12 (some .int) 8 194 [.ref (gA G (41 + 0)), .int x1, .int x2, .int x3, .int x4, .int x5, .int x6] X M L X ro.1 L ro.2 := by
  unfold f_X9_span at hf
  refine ct_of (by decide +kernel) (Nat.le_of_ble_eq_true rfl) (fun p e s m args below meth c H locs ls C hr hlk hw hl => ?_)
  have C : Cx G p s m args c cX9_span 12 RX9 := C
  have hl : lv_has ls 12 [(0, .ref (gA G (41 + 0))), (1, .int x1), (2, .int x2), (3, .int x3), (4, .int x4), (5, .int x5), (6, .int x6)] := hl
  refine lv_aload_n C.1.1 C.1.2.1 dX9_span_0 rfl (lv_at hl 0 rfl) ?_
  refine lv_iconst (v := (0 : Int32)) C.1.1 C.1.2.1 dX9_span_1 rfl ?_
  refine m_put C hw iM_0_0 flX9_3 dX9_span_2 (fun H locs hw => ?_)
  refine lv_aload_n C.1.1 C.1.2.1 dX9_span_5 rfl (lv_at hl 0 rfl) ?_
  refine lv_iload_n C.1.1 C.1.2.1 dX9_span_6 rfl (lv_at hl 2 rfl) ?_
  refine lv_iconst (v := (1 : Int32)) C.1.1 C.1.2.1 dX9_span_7 rfl ?_
  refine lv_bipush (v := (10 : Int32)) C.1.1 C.1.2.1 dX9_span_8 rfl ?_
  obtain ⟨q1, h1, hf⟩ := o_bind hf
  refine aft_i hw (run_S C hw clX9_385 (As := [.int x2, .int (1 : Int32), .int (10 : Int32)]) (rest := [.ref (gA G (41 + 0))]) (c_X9_within h1) hl.1 rfl ⟨(Nat.le_of_ble_eq_true rfl), (Nat.le_of_ble_eq_true rfl)⟩ ⟨Nat.zero_le _, Nat.zero_le _⟩ rfl (Nat.le_of_ble_eq_true rfl) dX9_span_10) (fun H locs hw => ?_)
  refine lv_if_eq (tgt := 49) C.1.1 C.1.2.1 dX9_span_13 (by decide) (fun c2 => ?_) (fun c2 => ?_)
  · have hf := o_t hf c2
    refine lv_iconst (v := (0 : Int32)) C.1.1 C.1.2.1 dX9_span_49 rfl ?_
    refine lv_iconst (v := (1 : Int32)) C.1.1 C.1.2.1 dX9_span_50 rfl ?_
    refine lv_iconst (v := (1 : Int32)) C.1.1 C.1.2.1 dX9_span_51 rfl ?_
    obtain ⟨q3, h3, hf⟩ := o_bind hf
    refine aft_i hw (run_VM C hw clX9_200 (As := [.int (0 : Int32), .int (1 : Int32), .int (1 : Int32)]) (rest := []) oM_0 (c_X9_lets h3) rfl hl.1 rfl ⟨(Nat.le_of_ble_eq_true rfl), (Nat.le_of_ble_eq_true rfl)⟩ ⟨Nat.zero_le _, Nat.zero_le _⟩ rfl (Nat.le_of_ble_eq_true rfl) dX9_span_52) (fun H locs hw => ?_)
    refine lv_if_ne (tgt := 60) C.1.1 C.1.2.1 dX9_span_55 (by decide) (fun c4 => ?_) (fun c4 => ?_)
    · have hf := o_f hf c4
      refine lv_iconst (v := (0 : Int32)) C.1.1 C.1.2.1 dX9_span_60 rfl ?_
      refine lv_istore (lv' := [(7, .int (0 : Int32)), (0, .ref (gA G (41 + 0))), (1, .int x1), (2, .int x2), (3, .int x3), (4, .int x4), (5, .int x5), (6, .int x6)]) C.1.1 C.1.2.1 dX9_span_61 hl (by decide) rfl (fun ls hl => ?_)
      refine lv_iconst (v := (0 : Int32)) C.1.1 C.1.2.1 dX9_span_63 rfl ?_
      refine lv_istore (lv' := [(8, .int (0 : Int32)), (7, .int (0 : Int32)), (0, .ref (gA G (41 + 0))), (1, .int x1), (2, .int x2), (3, .int x3), (4, .int x4), (5, .int x5), (6, .int x6)]) C.1.1 C.1.2.1 dX9_span_64 hl (by decide) rfl (fun ls hl => ?_)
      refine lv_iconst (v := (0 : Int32)) C.1.1 C.1.2.1 dX9_span_66 rfl ?_
      refine lv_istore (lv' := [(9, .int (0 : Int32)), (8, .int (0 : Int32)), (7, .int (0 : Int32)), (0, .ref (gA G (41 + 0))), (1, .int x1), (2, .int x2), (3, .int x3), (4, .int x4), (5, .int x5), (6, .int x6)]) C.1.1 C.1.2.1 dX9_span_67 hl (by decide) rfl (fun ls hl => ?_)
      refine lv_iconst (v := (0 : Int32)) C.1.1 C.1.2.1 dX9_span_69 rfl ?_
      refine lv_istore (lv' := [(10, .int (0 : Int32)), (9, .int (0 : Int32)), (8, .int (0 : Int32)), (7, .int (0 : Int32)), (0, .ref (gA G (41 + 0))), (1, .int x1), (2, .int x2), (3, .int x3), (4, .int x4), (5, .int x5), (6, .int x6)]) C.1.1 C.1.2.1 dX9_span_70 hl (by decide) rfl (fun ls hl => ?_)
      exact wL_X9_span_72 C hr hlk FU X q3.1 L x1 x2 x3 x4 x5 x6 (0 : Int32) (0 : Int32) (0 : Int32) (0 : Int32) _ _ _ hw (lv_sub hl [4, 5, 6, 7, 8, 9, 10, 3, 2, 1, 0] rfl) hf
    · have hf := o_t hf c4
      refine lv_iconst (v := (0 : Int32)) C.1.1 C.1.2.1 dX9_span_58 rfl ?_
      obtain rfl := Option.some.inj hf
      exact ret_i C hr hlk hw dX9_span_59
  · have hf := o_f hf c2
    refine lv_iload_n C.1.1 C.1.2.1 dX9_span_16 rfl (lv_at hl 3 rfl) ?_
    refine lv_iload C.1.1 C.1.2.1 dX9_span_17 (lv_at hl 4 rfl) ?_
    obtain ⟨q18, h18, hf⟩ := o_bind hf
    refine aft_i hw (run_S C hw clX9_428 (As := [.int x3, .int x4]) (rest := [.ref (gA G (41 + 0))]) (c_X9_isTime h18) hl.1 rfl ⟨(Nat.le_of_ble_eq_true rfl), (Nat.le_of_ble_eq_true rfl)⟩ ⟨Nat.zero_le _, Nat.zero_le _⟩ rfl (Nat.le_of_ble_eq_true rfl) dX9_span_19) (fun H locs hw => ?_)
    refine lv_if_eq (tgt := 49) C.1.1 C.1.2.1 dX9_span_22 (by decide) (fun c19 => ?_) (fun c19 => ?_)
    · have hf := o_t hf c19
      refine lv_iconst (v := (0 : Int32)) C.1.1 C.1.2.1 dX9_span_49 rfl ?_
      refine lv_iconst (v := (1 : Int32)) C.1.1 C.1.2.1 dX9_span_50 rfl ?_
      refine lv_iconst (v := (1 : Int32)) C.1.1 C.1.2.1 dX9_span_51 rfl ?_
      obtain ⟨q20, h20, hf⟩ := o_bind hf
      refine aft_i hw (run_VM C hw clX9_200 (As := [.int (0 : Int32), .int (1 : Int32), .int (1 : Int32)]) (rest := []) oM_0 (c_X9_lets h20) rfl hl.1 rfl ⟨(Nat.le_of_ble_eq_true rfl), (Nat.le_of_ble_eq_true rfl)⟩ ⟨Nat.zero_le _, Nat.zero_le _⟩ rfl (Nat.le_of_ble_eq_true rfl) dX9_span_52) (fun H locs hw => ?_)
      refine lv_if_ne (tgt := 60) C.1.1 C.1.2.1 dX9_span_55 (by decide) (fun c21 => ?_) (fun c21 => ?_)
      · have hf := o_f hf c21
        refine lv_iconst (v := (0 : Int32)) C.1.1 C.1.2.1 dX9_span_60 rfl ?_
        refine lv_istore (lv' := [(7, .int (0 : Int32)), (0, .ref (gA G (41 + 0))), (1, .int x1), (2, .int x2), (3, .int x3), (4, .int x4), (5, .int x5), (6, .int x6)]) C.1.1 C.1.2.1 dX9_span_61 hl (by decide) rfl (fun ls hl => ?_)
        refine lv_iconst (v := (0 : Int32)) C.1.1 C.1.2.1 dX9_span_63 rfl ?_
        refine lv_istore (lv' := [(8, .int (0 : Int32)), (7, .int (0 : Int32)), (0, .ref (gA G (41 + 0))), (1, .int x1), (2, .int x2), (3, .int x3), (4, .int x4), (5, .int x5), (6, .int x6)]) C.1.1 C.1.2.1 dX9_span_64 hl (by decide) rfl (fun ls hl => ?_)
        refine lv_iconst (v := (0 : Int32)) C.1.1 C.1.2.1 dX9_span_66 rfl ?_
        refine lv_istore (lv' := [(9, .int (0 : Int32)), (8, .int (0 : Int32)), (7, .int (0 : Int32)), (0, .ref (gA G (41 + 0))), (1, .int x1), (2, .int x2), (3, .int x3), (4, .int x4), (5, .int x5), (6, .int x6)]) C.1.1 C.1.2.1 dX9_span_67 hl (by decide) rfl (fun ls hl => ?_)
        refine lv_iconst (v := (0 : Int32)) C.1.1 C.1.2.1 dX9_span_69 rfl ?_
        refine lv_istore (lv' := [(10, .int (0 : Int32)), (9, .int (0 : Int32)), (8, .int (0 : Int32)), (7, .int (0 : Int32)), (0, .ref (gA G (41 + 0))), (1, .int x1), (2, .int x2), (3, .int x3), (4, .int x4), (5, .int x5), (6, .int x6)]) C.1.1 C.1.2.1 dX9_span_70 hl (by decide) rfl (fun ls hl => ?_)
        exact wL_X9_span_72 C hr hlk FU X q20.1 L x1 x2 x3 x4 x5 x6 (0 : Int32) (0 : Int32) (0 : Int32) (0 : Int32) _ _ _ hw (lv_sub hl [4, 5, 6, 7, 8, 9, 10, 3, 2, 1, 0] rfl) hf
      · have hf := o_t hf c21
        refine lv_iconst (v := (0 : Int32)) C.1.1 C.1.2.1 dX9_span_58 rfl ?_
        obtain rfl := Option.some.inj hf
        exact ret_i C hr hlk hw dX9_span_59
    · have hf := o_f hf c19
      refine lv_iload C.1.1 C.1.2.1 dX9_span_25 (lv_at hl 5 rfl) ?_
      refine lv_iconst (v := (0 : Int32)) C.1.1 C.1.2.1 dX9_span_27 rfl ?_
      refine lv_iconst (v := (2 : Int32)) C.1.1 C.1.2.1 dX9_span_28 rfl ?_
      obtain ⟨q22, h22, hf⟩ := o_bind hf
      refine aft_i hw (run_S C hw clX9_385 (As := [.int x5, .int (0 : Int32), .int (2 : Int32)]) (rest := [.ref (gA G (41 + 0))]) (c_X9_within h22) hl.1 rfl ⟨(Nat.le_of_ble_eq_true rfl), (Nat.le_of_ble_eq_true rfl)⟩ ⟨Nat.zero_le _, Nat.zero_le _⟩ rfl (Nat.le_of_ble_eq_true rfl) dX9_span_29) (fun H locs hw => ?_)
      refine lv_if_eq (tgt := 49) C.1.1 C.1.2.1 dX9_span_32 (by decide) (fun c23 => ?_) (fun c23 => ?_)
      · have hf := o_t hf c23
        refine lv_iconst (v := (0 : Int32)) C.1.1 C.1.2.1 dX9_span_49 rfl ?_
        refine lv_iconst (v := (1 : Int32)) C.1.1 C.1.2.1 dX9_span_50 rfl ?_
        refine lv_iconst (v := (1 : Int32)) C.1.1 C.1.2.1 dX9_span_51 rfl ?_
        obtain ⟨q24, h24, hf⟩ := o_bind hf
        refine aft_i hw (run_VM C hw clX9_200 (As := [.int (0 : Int32), .int (1 : Int32), .int (1 : Int32)]) (rest := []) oM_0 (c_X9_lets h24) rfl hl.1 rfl ⟨(Nat.le_of_ble_eq_true rfl), (Nat.le_of_ble_eq_true rfl)⟩ ⟨Nat.zero_le _, Nat.zero_le _⟩ rfl (Nat.le_of_ble_eq_true rfl) dX9_span_52) (fun H locs hw => ?_)
        refine lv_if_ne (tgt := 60) C.1.1 C.1.2.1 dX9_span_55 (by decide) (fun c25 => ?_) (fun c25 => ?_)
        · have hf := o_f hf c25
          refine lv_iconst (v := (0 : Int32)) C.1.1 C.1.2.1 dX9_span_60 rfl ?_
          refine lv_istore (lv' := [(7, .int (0 : Int32)), (0, .ref (gA G (41 + 0))), (1, .int x1), (2, .int x2), (3, .int x3), (4, .int x4), (5, .int x5), (6, .int x6)]) C.1.1 C.1.2.1 dX9_span_61 hl (by decide) rfl (fun ls hl => ?_)
          refine lv_iconst (v := (0 : Int32)) C.1.1 C.1.2.1 dX9_span_63 rfl ?_
          refine lv_istore (lv' := [(8, .int (0 : Int32)), (7, .int (0 : Int32)), (0, .ref (gA G (41 + 0))), (1, .int x1), (2, .int x2), (3, .int x3), (4, .int x4), (5, .int x5), (6, .int x6)]) C.1.1 C.1.2.1 dX9_span_64 hl (by decide) rfl (fun ls hl => ?_)
          refine lv_iconst (v := (0 : Int32)) C.1.1 C.1.2.1 dX9_span_66 rfl ?_
          refine lv_istore (lv' := [(9, .int (0 : Int32)), (8, .int (0 : Int32)), (7, .int (0 : Int32)), (0, .ref (gA G (41 + 0))), (1, .int x1), (2, .int x2), (3, .int x3), (4, .int x4), (5, .int x5), (6, .int x6)]) C.1.1 C.1.2.1 dX9_span_67 hl (by decide) rfl (fun ls hl => ?_)
          refine lv_iconst (v := (0 : Int32)) C.1.1 C.1.2.1 dX9_span_69 rfl ?_
          refine lv_istore (lv' := [(10, .int (0 : Int32)), (9, .int (0 : Int32)), (8, .int (0 : Int32)), (7, .int (0 : Int32)), (0, .ref (gA G (41 + 0))), (1, .int x1), (2, .int x2), (3, .int x3), (4, .int x4), (5, .int x5), (6, .int x6)]) C.1.1 C.1.2.1 dX9_span_70 hl (by decide) rfl (fun ls hl => ?_)
          exact wL_X9_span_72 C hr hlk FU X q24.1 L x1 x2 x3 x4 x5 x6 (0 : Int32) (0 : Int32) (0 : Int32) (0 : Int32) _ _ _ hw (lv_sub hl [4, 5, 6, 7, 8, 9, 10, 3, 2, 1, 0] rfl) hf
        · have hf := o_t hf c25
          refine lv_iconst (v := (0 : Int32)) C.1.1 C.1.2.1 dX9_span_58 rfl ?_
          obtain rfl := Option.some.inj hf
          exact ret_i C hr hlk hw dX9_span_59
      · have hf := o_f hf c23
        refine lv_iload C.1.1 C.1.2.1 dX9_span_35 (lv_at hl 6 rfl) ?_
        refine lv_iconst (v := (0 : Int32)) C.1.1 C.1.2.1 dX9_span_37 rfl ?_
        refine lv_iconst (v := (1 : Int32)) C.1.1 C.1.2.1 dX9_span_38 rfl ?_
        obtain ⟨q26, h26, hf⟩ := o_bind hf
        refine aft_i hw (run_S C hw clX9_385 (As := [.int x6, .int (0 : Int32), .int (1 : Int32)]) (rest := [.ref (gA G (41 + 0))]) (c_X9_within h26) hl.1 rfl ⟨(Nat.le_of_ble_eq_true rfl), (Nat.le_of_ble_eq_true rfl)⟩ ⟨Nat.zero_le _, Nat.zero_le _⟩ rfl (Nat.le_of_ble_eq_true rfl) dX9_span_39) (fun H locs hw => ?_)
        refine lv_if_eq (tgt := 49) C.1.1 C.1.2.1 dX9_span_42 (by decide) (fun c27 => ?_) (fun c27 => ?_)
        · have hf := o_t hf c27
          refine lv_iconst (v := (0 : Int32)) C.1.1 C.1.2.1 dX9_span_49 rfl ?_
          refine lv_iconst (v := (1 : Int32)) C.1.1 C.1.2.1 dX9_span_50 rfl ?_
          refine lv_iconst (v := (1 : Int32)) C.1.1 C.1.2.1 dX9_span_51 rfl ?_
          obtain ⟨q28, h28, hf⟩ := o_bind hf
          refine aft_i hw (run_VM C hw clX9_200 (As := [.int (0 : Int32), .int (1 : Int32), .int (1 : Int32)]) (rest := []) oM_0 (c_X9_lets h28) rfl hl.1 rfl ⟨(Nat.le_of_ble_eq_true rfl), (Nat.le_of_ble_eq_true rfl)⟩ ⟨Nat.zero_le _, Nat.zero_le _⟩ rfl (Nat.le_of_ble_eq_true rfl) dX9_span_52) (fun H locs hw => ?_)
          refine lv_if_ne (tgt := 60) C.1.1 C.1.2.1 dX9_span_55 (by decide) (fun c29 => ?_) (fun c29 => ?_)
          · have hf := o_f hf c29
            refine lv_iconst (v := (0 : Int32)) C.1.1 C.1.2.1 dX9_span_60 rfl ?_
            refine lv_istore (lv' := [(7, .int (0 : Int32)), (0, .ref (gA G (41 + 0))), (1, .int x1), (2, .int x2), (3, .int x3), (4, .int x4), (5, .int x5), (6, .int x6)]) C.1.1 C.1.2.1 dX9_span_61 hl (by decide) rfl (fun ls hl => ?_)
            refine lv_iconst (v := (0 : Int32)) C.1.1 C.1.2.1 dX9_span_63 rfl ?_
            refine lv_istore (lv' := [(8, .int (0 : Int32)), (7, .int (0 : Int32)), (0, .ref (gA G (41 + 0))), (1, .int x1), (2, .int x2), (3, .int x3), (4, .int x4), (5, .int x5), (6, .int x6)]) C.1.1 C.1.2.1 dX9_span_64 hl (by decide) rfl (fun ls hl => ?_)
            refine lv_iconst (v := (0 : Int32)) C.1.1 C.1.2.1 dX9_span_66 rfl ?_
            refine lv_istore (lv' := [(9, .int (0 : Int32)), (8, .int (0 : Int32)), (7, .int (0 : Int32)), (0, .ref (gA G (41 + 0))), (1, .int x1), (2, .int x2), (3, .int x3), (4, .int x4), (5, .int x5), (6, .int x6)]) C.1.1 C.1.2.1 dX9_span_67 hl (by decide) rfl (fun ls hl => ?_)
            refine lv_iconst (v := (0 : Int32)) C.1.1 C.1.2.1 dX9_span_69 rfl ?_
            refine lv_istore (lv' := [(10, .int (0 : Int32)), (9, .int (0 : Int32)), (8, .int (0 : Int32)), (7, .int (0 : Int32)), (0, .ref (gA G (41 + 0))), (1, .int x1), (2, .int x2), (3, .int x3), (4, .int x4), (5, .int x5), (6, .int x6)]) C.1.1 C.1.2.1 dX9_span_70 hl (by decide) rfl (fun ls hl => ?_)
            exact wL_X9_span_72 C hr hlk FU X q28.1 L x1 x2 x3 x4 x5 x6 (0 : Int32) (0 : Int32) (0 : Int32) (0 : Int32) _ _ _ hw (lv_sub hl [4, 5, 6, 7, 8, 9, 10, 3, 2, 1, 0] rfl) hf
          · have hf := o_t hf c29
            refine lv_iconst (v := (0 : Int32)) C.1.1 C.1.2.1 dX9_span_58 rfl ?_
            obtain rfl := Option.some.inj hf
            exact ret_i C hr hlk hw dX9_span_59
        · have hf := o_f hf c27
          refine lv_iconst (v := (1 : Int32)) C.1.1 C.1.2.1 dX9_span_45 rfl ?_
          refine lv_goto (tgt := 50) C.1.1 C.1.2.1 dX9_span_46 (by decide) ?_
          refine lv_iconst (v := (1 : Int32)) C.1.1 C.1.2.1 dX9_span_50 rfl ?_
          refine lv_iconst (v := (1 : Int32)) C.1.1 C.1.2.1 dX9_span_51 rfl ?_
          obtain ⟨q30, h30, hf⟩ := o_bind hf
          refine aft_i hw (run_VM C hw clX9_200 (As := [.int (1 : Int32), .int (1 : Int32), .int (1 : Int32)]) (rest := []) oM_0 (c_X9_lets h30) rfl hl.1 rfl ⟨(Nat.le_of_ble_eq_true rfl), (Nat.le_of_ble_eq_true rfl)⟩ ⟨Nat.zero_le _, Nat.zero_le _⟩ rfl (Nat.le_of_ble_eq_true rfl) dX9_span_52) (fun H locs hw => ?_)
          refine lv_if_ne (tgt := 60) C.1.1 C.1.2.1 dX9_span_55 (by decide) (fun c31 => ?_) (fun c31 => ?_)
          · have hf := o_f hf c31
            refine lv_iconst (v := (0 : Int32)) C.1.1 C.1.2.1 dX9_span_60 rfl ?_
            refine lv_istore (lv' := [(7, .int (0 : Int32)), (0, .ref (gA G (41 + 0))), (1, .int x1), (2, .int x2), (3, .int x3), (4, .int x4), (5, .int x5), (6, .int x6)]) C.1.1 C.1.2.1 dX9_span_61 hl (by decide) rfl (fun ls hl => ?_)
            refine lv_iconst (v := (0 : Int32)) C.1.1 C.1.2.1 dX9_span_63 rfl ?_
            refine lv_istore (lv' := [(8, .int (0 : Int32)), (7, .int (0 : Int32)), (0, .ref (gA G (41 + 0))), (1, .int x1), (2, .int x2), (3, .int x3), (4, .int x4), (5, .int x5), (6, .int x6)]) C.1.1 C.1.2.1 dX9_span_64 hl (by decide) rfl (fun ls hl => ?_)
            refine lv_iconst (v := (0 : Int32)) C.1.1 C.1.2.1 dX9_span_66 rfl ?_
            refine lv_istore (lv' := [(9, .int (0 : Int32)), (8, .int (0 : Int32)), (7, .int (0 : Int32)), (0, .ref (gA G (41 + 0))), (1, .int x1), (2, .int x2), (3, .int x3), (4, .int x4), (5, .int x5), (6, .int x6)]) C.1.1 C.1.2.1 dX9_span_67 hl (by decide) rfl (fun ls hl => ?_)
            refine lv_iconst (v := (0 : Int32)) C.1.1 C.1.2.1 dX9_span_69 rfl ?_
            refine lv_istore (lv' := [(10, .int (0 : Int32)), (9, .int (0 : Int32)), (8, .int (0 : Int32)), (7, .int (0 : Int32)), (0, .ref (gA G (41 + 0))), (1, .int x1), (2, .int x2), (3, .int x3), (4, .int x4), (5, .int x5), (6, .int x6)]) C.1.1 C.1.2.1 dX9_span_70 hl (by decide) rfl (fun ls hl => ?_)
            exact wL_X9_span_72 C hr hlk FU X q30.1 L x1 x2 x3 x4 x5 x6 (0 : Int32) (0 : Int32) (0 : Int32) (0 : Int32) _ _ _ hw (lv_sub hl [4, 5, 6, 7, 8, 9, 10, 3, 2, 1, 0] rfl) hf
          · have hf := o_t hf c31
            refine lv_iconst (v := (0 : Int32)) C.1.1 C.1.2.1 dX9_span_58 rfl ?_
            obtain rfl := Option.some.inj hf
            exact ret_i C hr hlk hw dX9_span_59
end
/-! WinnerDrawsModel.keepsRow(I[IIZ)I (('o', 'M', 0) ('i',) ('a', 'M') ('i',) ('i',)) -/
def L_X9_keepsRow_3 (k2 : Nat) : Nat → TX → Int32 → Int32 → Int32 → Int32 → Option (TX × Int32)
  | 0 => fun _ _ _ _ _ => none
  | n + 1 => fun M x1 x3 x4 x5 => if x3 ≤ x5 then (some (M, (x1 + x3))) else (if x4 = 0 then (if inb (x1 + x5) 1737 = true then (if inb x5 (lenM k2) = true then ((L_X9_keepsRow_3 k2 n) (u2 M k2 (Int32.toNatClampNeg x5) (M 26 (Int32.toNatClampNeg (x1 + x5)))) x1 x3 x4 (x5 + (1 : Int32))) else none) else none) else (if inb x5 (lenM k2) = true then (if inb (x1 + x5) 1737 = true then ((L_X9_keepsRow_3 k2 n) (u2 M 26 (Int32.toNatClampNeg (x1 + x5)) (M k2 (Int32.toNatClampNeg x5))) x1 x3 x4 (x5 + (1 : Int32))) else none) else none))
def f_X9_keepsRow (k2 : Nat) (M : TX) (x1 : Int32) (x3 : Int32) (x4 : Int32) : Option (TX × Int32) := L_X9_keepsRow_3 k2 FU M x1 x3 x4 (0 : Int32)
section
variable {G : GP} {l : Launch}
set_option maxRecDepth 20000 in
set_option maxHeartbeats 2000000 in
theorem wL_X9_keepsRow_3 {k2 : Nat} (hk2 : AM k2 (lenM k2)) {p : Program} {e : Env} {s : State} {m : MethodId} {args : Array Value} {below : List Frame} {meth : Method} {c : Code} (C : Cx G p s m args c cX9_keepsRow 6 RX9) (hr : meth.sig.returnType = (some .int)) (hlk : meth.locks = false) {ro : TX × Int32} : ∀ (n : Nat), ∀ (X : TX) (M : TX) (L : TL) (x1 : Int32) (x3 : Int32) (x4 : Int32) (x5 : Int32) (H : Heap) (locs : List Loc) (ls : Array Slot), Wh G s X M L H locs → lv_has ls 6 [(0, .ref (gA G (41 + 0))), (1, .int x1), (2, .ref (gA G (41 + k2))), (3, .int x3), (4, .int x4), (5, .int x5)] → L_X9_keepsRow_3 k2 n M x1 x3 x4 x5 = some ro → W p l e (rz 0 0) s m args below meth c H locs 0 0 (MQ below (Di G X ro.1 L ro.2) args s 0 0 (AB G)) (F0 m 3 ls []) := by
  intro n
  induction n with
  | zero =>
    intro X M L x1 x3 x4 x5 H locs ls hw hl hf
    cases hf
  | succ n hk_3 =>
    intro X M L x1 x3 x4 x5 H locs ls hw hl hf
    rw [L_X9_keepsRow_3] at hf
    refine lv_iload C.1.1 C.1.2.1 dX9_keepsRow_3 (lv_at hl 5 rfl) ?_
    refine lv_iload_n C.1.1 C.1.2.1 dX9_keepsRow_5 rfl (lv_at hl 3 rfl) ?_
    refine lv_icmp_ge (tgt := 49) C.1.1 C.1.2.1 dX9_keepsRow_6 (by decide) (fun c1 => ?_) (fun c1 => ?_)
    · have hf := o_t hf c1
      refine lv_iload_n C.1.1 C.1.2.1 dX9_keepsRow_49 rfl (lv_at hl 1 rfl) ?_
      refine lv_iload_n C.1.1 C.1.2.1 dX9_keepsRow_50 rfl (lv_at hl 3 rfl) ?_
      refine lv_iadd C.1.1 C.1.2.1 dX9_keepsRow_51 ?_
      obtain rfl := Option.some.inj hf
      exact ret_i C hr hlk hw dX9_keepsRow_52
    · have hf := o_f hf c1
      refine lv_iload C.1.1 C.1.2.1 dX9_keepsRow_9 (lv_at hl 4 rfl) ?_
      refine lv_if_eq (tgt := 30) C.1.1 C.1.2.1 dX9_keepsRow_11 (by decide) (fun c2 => ?_) (fun c2 => ?_)
      · have hf := o_t hf c2
        refine lv_aload_n C.1.1 C.1.2.1 dX9_keepsRow_30 rfl (lv_at hl 2 rfl) ?_
        refine lv_iload C.1.1 C.1.2.1 dX9_keepsRow_31 (lv_at hl 5 rfl) ?_
        refine lv_aload_n C.1.1 C.1.2.1 dX9_keepsRow_33 rfl (lv_at hl 0 rfl) ?_
        refine m_ref C hw fM_0_49 flX9_93 dX9_keepsRow_34 ?_
        refine lv_iload_n C.1.1 C.1.2.1 dX9_keepsRow_37 rfl (lv_at hl 1 rfl) ?_
        refine lv_iload C.1.1 C.1.2.1 dX9_keepsRow_38 (lv_at hl 5 rfl) ?_
        refine lv_iadd C.1.1 C.1.2.1 dX9_keepsRow_40 ?_
        have g3 := inb_in (o_g hf).1
        have hf := (o_g hf).2
        refine m_ald C hw aM_26 g3 dX9_keepsRow_41 ?_
        have g4 := inb_in (o_g hf).1
        have hf := (o_g hf).2
        refine m_ast C hw hk2 g4 dX9_keepsRow_42 (fun H locs hw => ?_)
        refine lv_iinc (v := (x5 + (1 : Int32))) (lv' := [(5, .int (x5 + (1 : Int32))), (0, .ref (gA G (41 + 0))), (1, .int x1), (2, .ref (gA G (41 + k2))), (3, .int x3), (4, .int x4)]) C.1.1 C.1.2.1 dX9_keepsRow_43 hl (k := 5) rfl rfl (by decide) rfl (fun ls hl => ?_)
        refine lv_goto (tgt := 3) C.1.1 C.1.2.1 dX9_keepsRow_46 (by decide) ?_
        exact hk_3 X (u2 M k2 (Int32.toNatClampNeg x5) (M 26 (Int32.toNatClampNeg (x1 + x5)))) L x1 x3 x4 (x5 + (1 : Int32)) _ _ _ hw (lv_sub hl [1, 2, 3, 4, 5, 0] rfl) hf
      · have hf := o_f hf c2
        refine lv_aload_n C.1.1 C.1.2.1 dX9_keepsRow_14 rfl (lv_at hl 0 rfl) ?_
        refine m_ref C hw fM_0_49 flX9_93 dX9_keepsRow_15 ?_
        refine lv_iload_n C.1.1 C.1.2.1 dX9_keepsRow_18 rfl (lv_at hl 1 rfl) ?_
        refine lv_iload C.1.1 C.1.2.1 dX9_keepsRow_19 (lv_at hl 5 rfl) ?_
        refine lv_iadd C.1.1 C.1.2.1 dX9_keepsRow_21 ?_
        refine lv_aload_n C.1.1 C.1.2.1 dX9_keepsRow_22 rfl (lv_at hl 2 rfl) ?_
        refine lv_iload C.1.1 C.1.2.1 dX9_keepsRow_23 (lv_at hl 5 rfl) ?_
        have g5 := inb_in (o_g hf).1
        have hf := (o_g hf).2
        refine m_ald C hw hk2 g5 dX9_keepsRow_25 ?_
        have g6 := inb_in (o_g hf).1
        have hf := (o_g hf).2
        refine m_ast C hw aM_26 g6 dX9_keepsRow_26 (fun H locs hw => ?_)
        refine lv_goto (tgt := 43) C.1.1 C.1.2.1 dX9_keepsRow_27 (by decide) ?_
        refine lv_iinc (v := (x5 + (1 : Int32))) (lv' := [(5, .int (x5 + (1 : Int32))), (0, .ref (gA G (41 + 0))), (1, .int x1), (2, .ref (gA G (41 + k2))), (3, .int x3), (4, .int x4)]) C.1.1 C.1.2.1 dX9_keepsRow_43 hl (k := 5) rfl rfl (by decide) rfl (fun ls hl => ?_)
        refine lv_goto (tgt := 3) C.1.1 C.1.2.1 dX9_keepsRow_46 (by decide) ?_
        exact hk_3 X (u2 M 26 (Int32.toNatClampNeg (x1 + x5)) (M k2 (Int32.toNatClampNeg x5))) L x1 x3 x4 (x5 + (1 : Int32)) _ _ _ hw (lv_sub hl [1, 2, 3, 4, 5, 0] rfl) hf
set_option maxRecDepth 20000 in
set_option maxHeartbeats 2000000 in
theorem c_X9_keepsRow  {k2 : Nat} (hk2 : AM k2 (lenM k2)) {X M : TX} {L : TL} {x1 : Int32} {x3 : Int32} {x4 : Int32} {ro : TX × Int32} (hf : f_X9_keepsRow k2 M x1 x3 x4 = some ro) : CTi G l yX9_keepsRow cX9_keepsRow 6 (some .int) 0 0 [.ref (gA G (41 + 0)), .int x1, .ref (gA G (41 + k2)), .int x3, .int x4] X M L X ro.1 L ro.2 := by
  unfold f_X9_keepsRow at hf
  refine ct_of (by decide +kernel) (Nat.le_of_ble_eq_true rfl) (fun p e s m args below meth c H locs ls C hr hlk hw hl => ?_)
  have C : Cx G p s m args c cX9_keepsRow 6 RX9 := C
  have hl : lv_has ls 6 [(0, .ref (gA G (41 + 0))), (1, .int x1), (2, .ref (gA G (41 + k2))), (3, .int x3), (4, .int x4)] := hl
  refine lv_iconst (v := (0 : Int32)) C.1.1 C.1.2.1 dX9_keepsRow_0 rfl ?_
  refine lv_istore (lv' := [(5, .int (0 : Int32)), (0, .ref (gA G (41 + 0))), (1, .int x1), (2, .ref (gA G (41 + k2))), (3, .int x3), (4, .int x4)]) C.1.1 C.1.2.1 dX9_keepsRow_1 hl (by decide) rfl (fun ls hl => ?_)
  exact wL_X9_keepsRow_3 hk2 C hr hlk FU X M L x1 x3 x4 (0 : Int32) _ _ _ hw (lv_sub hl [1, 2, 3, 4, 5, 0] rfl) hf
end
/-! WinnerDrawsModel.keepsAll(IZ)V (('o', 'M', 0) ('i',) ('i',)) -/
def f_X9_keepsAll (M : TX) (x1 : Int32) (x2 : Int32) : Option (TX) := (f_X9_keepsRow 19 M ((579 : Int32) * x1) (34 : Int32) x2).bind fun q1 => (f_X9_keepsRow 21 q1.1 q1.2 (544 : Int32) x2).bind fun q2 => if x2 = 0 then (if inb q2.2 1737 = true then (some (u2 q2.1 0 33 (q2.1 26 (Int32.toNatClampNeg q2.2)))) else none) else (if inb q2.2 1737 = true then (some (u2 q2.1 26 (Int32.toNatClampNeg q2.2) (q2.1 0 33))) else none)
section
variable {G : GP} {l : Launch}
set_option maxRecDepth 20000 in
set_option maxHeartbeats 2000000 in
theorem c_X9_keepsAll   {X M : TX} {L : TL} {x1 : Int32} {x2 : Int32} {ro : TX} (hf : f_X9_keepsAll M x1 x2 = some ro) : CTv G l yX9_keepsAll cX9_keepsAll 4 none 1 25 [.ref (gA G (41 + 0)), .int x1, .int x2] X M L X ro L := by
  unfold f_X9_keepsAll at hf
  refine ct_of (by decide +kernel) (Nat.le_of_ble_eq_true rfl) (fun p e s m args below meth c H locs ls C hr hlk hw hl => ?_)
  have C : Cx G p s m args c cX9_keepsAll 4 RX9 := C
  have hl : lv_has ls 4 [(0, .ref (gA G (41 + 0))), (1, .int x1), (2, .int x2)] := hl
  refine lv_aload_n C.1.1 C.1.2.1 dX9_keepsAll_0 rfl (lv_at hl 0 rfl) ?_
  refine lv_sipush (v := (579 : Int32)) C.1.1 C.1.2.1 dX9_keepsAll_1 rfl ?_
  refine lv_iload_n C.1.1 C.1.2.1 dX9_keepsAll_4 rfl (lv_at hl 1 rfl) ?_
  refine lv_imul C.1.1 C.1.2.1 dX9_keepsAll_5 ?_
  refine lv_aload_n C.1.1 C.1.2.1 dX9_keepsAll_6 rfl (lv_at hl 0 rfl) ?_
  refine m_ref C hw fM_0_41 flX9_71 dX9_keepsAll_7 ?_
  refine lv_bipush (v := (34 : Int32)) C.1.1 C.1.2.1 dX9_keepsAll_10 rfl ?_
  refine lv_iload_n C.1.1 C.1.2.1 dX9_keepsAll_12 rfl (lv_at hl 2 rfl) ?_
  obtain ⟨q1, h1, hf⟩ := o_bind hf
  refine aft_i hw (run_VM C hw clX9_435 (As := [.int ((579 : Int32) * x1), .ref (gA G (41 + 19)), .int (34 : Int32), .int x2]) (rest := []) oM_0 (c_X9_keepsRow aM_19 h1) rfl hl.1 rfl ⟨(Nat.le_of_ble_eq_true rfl), (Nat.le_of_ble_eq_true rfl)⟩ ⟨Nat.zero_le _, Nat.zero_le _⟩ rfl (Nat.le_of_ble_eq_true rfl) dX9_keepsAll_13) (fun H locs hw => ?_)
  refine lv_istore_n (lv' := [(3, .int q1.2), (0, .ref (gA G (41 + 0))), (1, .int x1), (2, .int x2)]) C.1.1 C.1.2.1 dX9_keepsAll_16 rfl hl (by decide) rfl (fun ls hl => ?_)
  refine lv_aload_n C.1.1 C.1.2.1 dX9_keepsAll_17 rfl (lv_at hl 1 rfl) ?_
  refine lv_iload_n C.1.1 C.1.2.1 dX9_keepsAll_18 rfl (lv_at hl 0 rfl) ?_
  refine lv_aload_n C.1.1 C.1.2.1 dX9_keepsAll_19 rfl (lv_at hl 1 rfl) ?_
  refine m_ref C hw fM_0_43 flX9_77 dX9_keepsAll_20 ?_
  refine lv_sipush (v := (544 : Int32)) C.1.1 C.1.2.1 dX9_keepsAll_23 rfl ?_
  refine lv_iload_n C.1.1 C.1.2.1 dX9_keepsAll_26 rfl (lv_at hl 3 rfl) ?_
  obtain ⟨q2, h2, hf⟩ := o_bind hf
  refine aft_i hw (run_VM C hw clX9_435 (As := [.int q1.2, .ref (gA G (41 + 21)), .int (544 : Int32), .int x2]) (rest := []) oM_0 (c_X9_keepsRow aM_21 h2) rfl hl.1 rfl ⟨(Nat.le_of_ble_eq_true rfl), (Nat.le_of_ble_eq_true rfl)⟩ ⟨Nat.zero_le _, Nat.zero_le _⟩ rfl (Nat.le_of_ble_eq_true rfl) dX9_keepsAll_27) (fun H locs hw => ?_)
  refine lv_istore_n (lv' := [(3, .int q2.2), (0, .ref (gA G (41 + 0))), (1, .int x1), (2, .int x2)]) C.1.1 C.1.2.1 dX9_keepsAll_30 rfl hl (by decide) rfl (fun ls hl => ?_)
  refine lv_iload_n C.1.1 C.1.2.1 dX9_keepsAll_31 rfl (lv_at hl 3 rfl) ?_
  refine lv_if_eq (tgt := 48) C.1.1 C.1.2.1 dX9_keepsAll_32 (by decide) (fun c3 => ?_) (fun c3 => ?_)
  · have hf := o_t hf c3
    refine lv_aload_n C.1.1 C.1.2.1 dX9_keepsAll_48 rfl (lv_at hl 1 rfl) ?_
    refine lv_aload_n C.1.1 C.1.2.1 dX9_keepsAll_49 rfl (lv_at hl 1 rfl) ?_
    refine m_ref C hw fM_0_49 flX9_93 dX9_keepsAll_50 ?_
    refine lv_iload_n C.1.1 C.1.2.1 dX9_keepsAll_53 rfl (lv_at hl 0 rfl) ?_
    have g4 := inb_in (o_g hf).1
    have hf := (o_g hf).2
    refine m_ald C hw aM_26 g4 dX9_keepsAll_54 ?_
    refine m_put C hw iM_0_33 flX9_176 dX9_keepsAll_55 (fun H locs hw => ?_)
    obtain rfl := Option.some.inj hf
    exact ret_v C hr hlk hw dX9_keepsAll_58
  · have hf := o_f hf c3
    refine lv_aload_n C.1.1 C.1.2.1 dX9_keepsAll_35 rfl (lv_at hl 1 rfl) ?_
    refine m_ref C hw fM_0_49 flX9_93 dX9_keepsAll_36 ?_
    refine lv_iload_n C.1.1 C.1.2.1 dX9_keepsAll_39 rfl (lv_at hl 0 rfl) ?_
    refine lv_aload_n C.1.1 C.1.2.1 dX9_keepsAll_40 rfl (lv_at hl 1 rfl) ?_
    refine m_get C hw iM_0_33 flX9_176 dX9_keepsAll_41 ?_
    have g5 := inb_in (o_g hf).1
    have hf := (o_g hf).2
    refine m_ast C hw aM_26 g5 dX9_keepsAll_44 (fun H locs hw => ?_)
    refine lv_goto (tgt := 58) C.1.1 C.1.2.1 dX9_keepsAll_45 (by decide) ?_
    obtain rfl := Option.some.inj hf
    exact ret_v C hr hlk hw dX9_keepsAll_58
end
/-! WinnerDrawsModel.image()I (('o', 'M', 0)) -/
def f_X9_image (M : TX) : Option (TX × Int32) := if ((u2 M 0 0 (0 : Int32)) 0 50) = (3 : Int32) then (some ((u2 M 0 0 (0 : Int32)), (-1 : Int32))) else ((f_X9_keepsAll (u2 M 0 0 (0 : Int32)) ((u2 M 0 0 (0 : Int32)) 0 50) (1 : Int32)).bind fun q2 => some ((u2 q2 0 50 ((q2 0 50) + (1 : Int32))), ((u2 q2 0 50 ((q2 0 50) + (1 : Int32))) 0 50)))
section
variable {G : GP} {l : Launch}
set_option maxRecDepth 20000 in
set_option maxHeartbeats 2000000 in
theorem c_X9_image   {X M : TX} {L : TL}  {ro : TX × Int32} (hf : f_X9_image M = some ro) : CTi G l yX9_image cX9_image 1 (some .int) 2 48 [.ref (gA G (41 + 0))] X M L X ro.1 L ro.2 := by
  unfold f_X9_image at hf
  refine ct_of (by decide +kernel) (Nat.le_of_ble_eq_true rfl) (fun p e s m args below meth c H locs ls C hr hlk hw hl => ?_)
  have C : Cx G p s m args c cX9_image 1 RX9 := C
  have hl : lv_has ls 1 [(0, .ref (gA G (41 + 0)))] := hl
  refine lv_aload_n C.1.1 C.1.2.1 dX9_image_0 rfl (lv_at hl 0 rfl) ?_
  refine lv_iconst (v := (0 : Int32)) C.1.1 C.1.2.1 dX9_image_1 rfl ?_
  refine m_put C hw iM_0_0 flX9_3 dX9_image_2 (fun H locs hw => ?_)
  refine lv_aload_n C.1.1 C.1.2.1 dX9_image_5 rfl (lv_at hl 0 rfl) ?_
  refine m_get C hw iM_0_50 flX9_179 dX9_image_6 ?_
  refine lv_iconst (v := (3 : Int32)) C.1.1 C.1.2.1 dX9_image_9 rfl ?_
  refine lv_icmp_ne (tgt := 15) C.1.1 C.1.2.1 dX9_image_10 (by decide) (fun c1 => ?_) (fun c1 => ?_)
  · have hf := o_f hf c1
    refine lv_aload_n C.1.1 C.1.2.1 dX9_image_15 rfl (lv_at hl 0 rfl) ?_
    refine lv_aload_n C.1.1 C.1.2.1 dX9_image_16 rfl (lv_at hl 0 rfl) ?_
    refine m_get C hw iM_0_50 flX9_179 dX9_image_17 ?_
    refine lv_iconst (v := (1 : Int32)) C.1.1 C.1.2.1 dX9_image_20 rfl ?_
    obtain ⟨q2, h2, hf⟩ := o_bind hf
    refine aft_v hw (run_VM C hw clX9_439 (As := [.int ((u2 M 0 0 (0 : Int32)) 0 50), .int (1 : Int32)]) (rest := []) oM_0 (c_X9_keepsAll h2) rfl hl.1 rfl ⟨(Nat.le_of_ble_eq_true rfl), (Nat.le_of_ble_eq_true rfl)⟩ ⟨Nat.zero_le _, Nat.zero_le _⟩ rfl (Nat.le_of_ble_eq_true rfl) dX9_image_21) (fun H locs hw => ?_)
    refine lv_aload_n C.1.1 C.1.2.1 dX9_image_24 rfl (lv_at hl 0 rfl) ?_
    refine lv_dup C.1.1 C.1.2.1 dX9_image_25 rfl ?_
    refine m_get C hw iM_0_50 flX9_179 dX9_image_26 ?_
    refine lv_iconst (v := (1 : Int32)) C.1.1 C.1.2.1 dX9_image_29 rfl ?_
    refine lv_iadd C.1.1 C.1.2.1 dX9_image_30 ?_
    refine m_put C hw iM_0_50 flX9_179 dX9_image_31 (fun H locs hw => ?_)
    refine lv_aload_n C.1.1 C.1.2.1 dX9_image_34 rfl (lv_at hl 0 rfl) ?_
    refine m_get C hw iM_0_50 flX9_179 dX9_image_35 ?_
    obtain rfl := Option.some.inj hf
    exact ret_i C hr hlk hw dX9_image_38
  · have hf := o_t hf c1
    refine lv_iconst (v := (-1 : Int32)) C.1.1 C.1.2.1 dX9_image_13 rfl ?_
    obtain rfl := Option.some.inj hf
    exact ret_i C hr hlk hw dX9_image_14
end
/-! WinnerDrawsModel.restore()I (('o', 'M', 0)) -/
def f_X9_restore (M : TX) : Option (TX × Int32) := if ((u2 M 0 0 (0 : Int32)) 0 50) = 0 then (some ((u2 M 0 0 (0 : Int32)), (-1 : Int32))) else ((f_X9_keepsAll (u2 (u2 M 0 0 (0 : Int32)) 0 50 (((u2 M 0 0 (0 : Int32)) 0 50) - (1 : Int32))) ((u2 (u2 M 0 0 (0 : Int32)) 0 50 (((u2 M 0 0 (0 : Int32)) 0 50) - (1 : Int32))) 0 50) (0 : Int32)).bind fun q2 => some ((u2 q2 0 34 (0 : Int32)), ((u2 q2 0 34 (0 : Int32)) 0 50)))
section
variable {G : GP} {l : Launch}
set_option maxRecDepth 20000 in
set_option maxHeartbeats 2000000 in
theorem c_X9_restore   {X M : TX} {L : TL}  {ro : TX × Int32} (hf : f_X9_restore M = some ro) : CTi G l yX9_restore cX9_restore 1 (some .int) 2 48 [.ref (gA G (41 + 0))] X M L X ro.1 L ro.2 := by
  unfold f_X9_restore at hf
  refine ct_of (by decide +kernel) (Nat.le_of_ble_eq_true rfl) (fun p e s m args below meth c H locs ls C hr hlk hw hl => ?_)
  have C : Cx G p s m args c cX9_restore 1 RX9 := C
  have hl : lv_has ls 1 [(0, .ref (gA G (41 + 0)))] := hl
  refine lv_aload_n C.1.1 C.1.2.1 dX9_restore_0 rfl (lv_at hl 0 rfl) ?_
  refine lv_iconst (v := (0 : Int32)) C.1.1 C.1.2.1 dX9_restore_1 rfl ?_
  refine m_put C hw iM_0_0 flX9_3 dX9_restore_2 (fun H locs hw => ?_)
  refine lv_aload_n C.1.1 C.1.2.1 dX9_restore_5 rfl (lv_at hl 0 rfl) ?_
  refine m_get C hw iM_0_50 flX9_179 dX9_restore_6 ?_
  refine lv_if_ne (tgt := 14) C.1.1 C.1.2.1 dX9_restore_9 (by decide) (fun c1 => ?_) (fun c1 => ?_)
  · have hf := o_f hf c1
    refine lv_aload_n C.1.1 C.1.2.1 dX9_restore_14 rfl (lv_at hl 0 rfl) ?_
    refine lv_dup C.1.1 C.1.2.1 dX9_restore_15 rfl ?_
    refine m_get C hw iM_0_50 flX9_179 dX9_restore_16 ?_
    refine lv_iconst (v := (1 : Int32)) C.1.1 C.1.2.1 dX9_restore_19 rfl ?_
    refine lv_isub C.1.1 C.1.2.1 dX9_restore_20 ?_
    refine m_put C hw iM_0_50 flX9_179 dX9_restore_21 (fun H locs hw => ?_)
    refine lv_aload_n C.1.1 C.1.2.1 dX9_restore_24 rfl (lv_at hl 0 rfl) ?_
    refine lv_aload_n C.1.1 C.1.2.1 dX9_restore_25 rfl (lv_at hl 0 rfl) ?_
    refine m_get C hw iM_0_50 flX9_179 dX9_restore_26 ?_
    refine lv_iconst (v := (0 : Int32)) C.1.1 C.1.2.1 dX9_restore_29 rfl ?_
    obtain ⟨q2, h2, hf⟩ := o_bind hf
    refine aft_v hw (run_VM C hw clX9_439 (As := [.int ((u2 (u2 M 0 0 (0 : Int32)) 0 50 (((u2 M 0 0 (0 : Int32)) 0 50) - (1 : Int32))) 0 50), .int (0 : Int32)]) (rest := []) oM_0 (c_X9_keepsAll h2) rfl hl.1 rfl ⟨(Nat.le_of_ble_eq_true rfl), (Nat.le_of_ble_eq_true rfl)⟩ ⟨Nat.zero_le _, Nat.zero_le _⟩ rfl (Nat.le_of_ble_eq_true rfl) dX9_restore_30) (fun H locs hw => ?_)
    refine lv_aload_n C.1.1 C.1.2.1 dX9_restore_33 rfl (lv_at hl 0 rfl) ?_
    refine lv_iconst (v := (0 : Int32)) C.1.1 C.1.2.1 dX9_restore_34 rfl ?_
    refine m_put C hw iM_0_34 flX9_182 dX9_restore_35 (fun H locs hw => ?_)
    refine lv_aload_n C.1.1 C.1.2.1 dX9_restore_38 rfl (lv_at hl 0 rfl) ?_
    refine m_get C hw iM_0_50 flX9_179 dX9_restore_39 ?_
    obtain rfl := Option.some.inj hf
    exact ret_i C hr hlk hw dX9_restore_42
  · have hf := o_t hf c1
    refine lv_iconst (v := (-1 : Int32)) C.1.1 C.1.2.1 dX9_restore_12 rfl ?_
    obtain rfl := Option.some.inj hf
    exact ret_i C hr hlk hw dX9_restore_13
end
/-! WinnerDrawsModel.status(I)I (('o', 'M', 0) ('i',)) -/
def f_X9_status (M : TX) (x1 : Int32) : Option (TX × Int32) := (f_X9_within x1 (0 : Int32) (1 : Int32)).bind fun q1 => if q1 = 0 then (some ((u2 M 0 0 (0 : Int32)), (-1 : Int32))) else (if inb x1 2 = true then (some ((u2 M 0 0 (0 : Int32)), ((u2 M 0 0 (0 : Int32)) 1 (Int32.toNatClampNeg x1)))) else none)
section
variable {G : GP} {l : Launch}
set_option maxRecDepth 20000 in
set_option maxHeartbeats 2000000 in
theorem c_X9_status   {X M : TX} {L : TL} {x1 : Int32} {ro : TX × Int32} (hf : f_X9_status M x1 = some ro) : CTi G l yX9_status cX9_status 2 (some .int) 1 22 [.ref (gA G (41 + 0)), .int x1] X M L X ro.1 L ro.2 := by
  unfold f_X9_status at hf
  refine ct_of (by decide +kernel) (Nat.le_of_ble_eq_true rfl) (fun p e s m args below meth c H locs ls C hr hlk hw hl => ?_)
  have C : Cx G p s m args c cX9_status 2 RX9 := C
  have hl : lv_has ls 2 [(0, .ref (gA G (41 + 0))), (1, .int x1)] := hl
  refine lv_aload_n C.1.1 C.1.2.1 dX9_status_0 rfl (lv_at hl 0 rfl) ?_
  refine lv_iconst (v := (0 : Int32)) C.1.1 C.1.2.1 dX9_status_1 rfl ?_
  refine m_put C hw iM_0_0 flX9_3 dX9_status_2 (fun H locs hw => ?_)
  refine lv_iload_n C.1.1 C.1.2.1 dX9_status_5 rfl (lv_at hl 1 rfl) ?_
  refine lv_iconst (v := (0 : Int32)) C.1.1 C.1.2.1 dX9_status_6 rfl ?_
  refine lv_iconst (v := (1 : Int32)) C.1.1 C.1.2.1 dX9_status_7 rfl ?_
  obtain ⟨q1, h1, hf⟩ := o_bind hf
  refine aft_i hw (run_S C hw clX9_385 (As := [.int x1, .int (0 : Int32), .int (1 : Int32)]) (rest := []) (c_X9_within h1) hl.1 rfl ⟨(Nat.le_of_ble_eq_true rfl), (Nat.le_of_ble_eq_true rfl)⟩ ⟨Nat.zero_le _, Nat.zero_le _⟩ rfl (Nat.le_of_ble_eq_true rfl) dX9_status_8) (fun H locs hw => ?_)
  refine lv_if_eq (tgt := 23) C.1.1 C.1.2.1 dX9_status_11 (by decide) (fun c2 => ?_) (fun c2 => ?_)
  · have hf := o_t hf c2
    refine lv_iconst (v := (-1 : Int32)) C.1.1 C.1.2.1 dX9_status_23 rfl ?_
    obtain rfl := Option.some.inj hf
    exact ret_i C hr hlk hw dX9_status_24
  · have hf := o_f hf c2
    refine lv_aload_n C.1.1 C.1.2.1 dX9_status_14 rfl (lv_at hl 0 rfl) ?_
    refine m_ref C hw fM_0_1 flX9_7 dX9_status_15 ?_
    refine lv_iload_n C.1.1 C.1.2.1 dX9_status_18 rfl (lv_at hl 1 rfl) ?_
    have g3 := inb_in (o_g hf).1
    have hf := (o_g hf).2
    refine m_ald C hw aM_1 g3 dX9_status_19 ?_
    refine lv_goto (tgt := 24) C.1.1 C.1.2.1 dX9_status_20 (by decide) ?_
    obtain rfl := Option.some.inj hf
    exact ret_i C hr hlk hw dX9_status_24
end
/-! WinnerDrawsModel.count(I)I (('o', 'M', 0) ('i',)) -/
def f_X9_count (M : TX) (x1 : Int32) : Option (TX × Int32) := if x1 = 0 then (some ((u2 M 0 0 (0 : Int32)), ((u2 M 0 0 (0 : Int32)) 0 50))) else (if x1 = (1 : Int32) then (some ((u2 M 0 0 (0 : Int32)), ((u2 M 0 0 (0 : Int32)) 0 2))) else (if x1 = (2 : Int32) then (some ((u2 M 0 0 (0 : Int32)), ((u2 M 0 0 (0 : Int32)) 0 33))) else (some ((u2 M 0 0 (0 : Int32)), (-1 : Int32)))))
section
variable {G : GP} {l : Launch}
set_option maxRecDepth 20000 in
set_option maxHeartbeats 2000000 in
theorem c_X9_count   {X M : TX} {L : TL} {x1 : Int32} {ro : TX × Int32} (hf : f_X9_count M x1 = some ro) : CTi G l yX9_count cX9_count 2 (some .int) 0 0 [.ref (gA G (41 + 0)), .int x1] X M L X ro.1 L ro.2 := by
  unfold f_X9_count at hf
  refine ct_of (by decide +kernel) (Nat.le_of_ble_eq_true rfl) (fun p e s m args below meth c H locs ls C hr hlk hw hl => ?_)
  have C : Cx G p s m args c cX9_count 2 RX9 := C
  have hl : lv_has ls 2 [(0, .ref (gA G (41 + 0))), (1, .int x1)] := hl
  refine lv_aload_n C.1.1 C.1.2.1 dX9_count_0 rfl (lv_at hl 0 rfl) ?_
  refine lv_iconst (v := (0 : Int32)) C.1.1 C.1.2.1 dX9_count_1 rfl ?_
  refine m_put C hw iM_0_0 flX9_3 dX9_count_2 (fun H locs hw => ?_)
  refine lv_iload_n C.1.1 C.1.2.1 dX9_count_5 rfl (lv_at hl 1 rfl) ?_
  refine lv_if_ne (tgt := 16) C.1.1 C.1.2.1 dX9_count_6 (by decide) (fun c1 => ?_) (fun c1 => ?_)
  · have hf := o_f hf c1
    refine lv_iload_n C.1.1 C.1.2.1 dX9_count_16 rfl (lv_at hl 1 rfl) ?_
    refine lv_iconst (v := (1 : Int32)) C.1.1 C.1.2.1 dX9_count_17 rfl ?_
    refine lv_icmp_ne (tgt := 28) C.1.1 C.1.2.1 dX9_count_18 (by decide) (fun c2 => ?_) (fun c2 => ?_)
    · have hf := o_f hf c2
      refine lv_iload_n C.1.1 C.1.2.1 dX9_count_28 rfl (lv_at hl 1 rfl) ?_
      refine lv_iconst (v := (2 : Int32)) C.1.1 C.1.2.1 dX9_count_29 rfl ?_
      refine lv_icmp_ne (tgt := 40) C.1.1 C.1.2.1 dX9_count_30 (by decide) (fun c3 => ?_) (fun c3 => ?_)
      · have hf := o_f hf c3
        refine lv_iconst (v := (-1 : Int32)) C.1.1 C.1.2.1 dX9_count_40 rfl ?_
        obtain rfl := Option.some.inj hf
        exact ret_i C hr hlk hw dX9_count_41
      · have hf := o_t hf c3
        refine lv_aload_n C.1.1 C.1.2.1 dX9_count_33 rfl (lv_at hl 0 rfl) ?_
        refine m_get C hw iM_0_33 flX9_176 dX9_count_34 ?_
        refine lv_goto (tgt := 41) C.1.1 C.1.2.1 dX9_count_37 (by decide) ?_
        obtain rfl := Option.some.inj hf
        exact ret_i C hr hlk hw dX9_count_41
    · have hf := o_t hf c2
      refine lv_aload_n C.1.1 C.1.2.1 dX9_count_21 rfl (lv_at hl 0 rfl) ?_
      refine m_get C hw iM_0_2 flX9_102 dX9_count_22 ?_
      refine lv_goto (tgt := 41) C.1.1 C.1.2.1 dX9_count_25 (by decide) ?_
      obtain rfl := Option.some.inj hf
      exact ret_i C hr hlk hw dX9_count_41
  · have hf := o_t hf c1
    refine lv_aload_n C.1.1 C.1.2.1 dX9_count_9 rfl (lv_at hl 0 rfl) ?_
    refine m_get C hw iM_0_50 flX9_179 dX9_count_10 ?_
    refine lv_goto (tgt := 41) C.1.1 C.1.2.1 dX9_count_13 (by decide) ?_
    obtain rfl := Option.some.inj hf
    exact ret_i C hr hlk hw dX9_count_41
end
