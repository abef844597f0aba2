/-! WinnerDrawsModel.county(I)I (('o', 'M', 0) ('i',)) -/
def B_X9_county_105 (k_44 : TX → Int32 → Option (TX × Int32)) (M : TX) (x2 : Int32) (x3 : Int32) : Option (TX × Int32) := (f_X9_fine M).bind fun q21 => if q21 = 0 then ((f_X9_result M (M 0 16)).bind fun q26 => if (q26.1 0 5) = (-1 : Int32) then ((f_X9_sets q26.1).bind fun q28 => some (q28, q26.2)) else (some (q26.1, q26.2))) else ((f_X9_pass M).bind fun q23 => (f_X9_readRow q23 x3).bind fun q24 => (f_X9_sign q24 (59 : Int32)).bind fun q25 => k_44 q25 (x2 + (1 : Int32)))
def L_X9_county_44 : Nat → TX → Int32 → Option (TX × Int32)
  | 0 => fun _ _ => none
  | n + 1 => fun M x2 => (f_X9_fine M).bind fun q6 => if q6 = 0 then ((f_X9_result M (M 0 16)).bind fun q8 => if (q8.1 0 5) = (-1 : Int32) then ((f_X9_sets q8.1).bind fun q10 => some (q10, q8.2)) else (some (q8.1, q8.2))) else ((f_X9_isMore M).bind fun q11 => if q11.2 = 0 then ((f_X9_result q11.1 (q11.1 0 16)).bind fun q13 => if (q13.1 0 5) = (-1 : Int32) then ((f_X9_sets q13.1).bind fun q15 => some (q15, q13.2)) else (some (q13.1, q13.2))) else ((f_X9_word q11.1).bind fun q16 => (f_X9_isRow q16.2).bind fun q17 => if q17 = 0 then ((f_X9_wrong q16.1 (1 : Int32) (q16.1 0 4)).bind fun q32 => B_X9_county_105 (L_X9_county_44 n) q32 x2 q16.2) else (if x2 = (60 : Int32) then ((f_X9_wrong q16.1 (3 : Int32) (q16.1 0 4)).bind fun q20 => B_X9_county_105 (L_X9_county_44 n) q20 x2 q16.2) else ((f_X9_isFull q16.1 q16.2).bind fun q29 => if q29 = 0 then (B_X9_county_105 (L_X9_county_44 n) q16.1 x2 q16.2) else ((f_X9_wrong q16.1 (3 : Int32) (q16.1 0 4)).bind fun q31 => B_X9_county_105 (L_X9_county_44 n) q31 x2 q16.2)))))
def f_X9_county (M : TX) (x1 : Int32) : Option (TX × Int32) := if x1 < 0 then ((f_X9_lets (u2 M 0 0 (0 : Int32)) (0 : Int32) (1 : Int32) (1 : Int32)).bind fun q2 => if q2.2 = 0 then (some (q2.1, (0 : Int32))) else ((f_X9_begins q2.1 x1).bind fun q4 => (f_X9_clears q4).bind fun q5 => L_X9_county_44 FU q5 (0 : Int32))) else (if ((u2 M 0 0 (0 : Int32)) 0 2) < x1 then ((f_X9_lets (u2 M 0 0 (0 : Int32)) (0 : Int32) (1 : Int32) (1 : Int32)).bind fun q34 => if q34.2 = 0 then (some (q34.1, (0 : Int32))) else ((f_X9_begins q34.1 x1).bind fun q36 => (f_X9_clears q36).bind fun q37 => L_X9_county_44 FU q37 (0 : Int32))) else ((f_X9_lets (u2 M 0 0 (0 : Int32)) (1 : Int32) (1 : Int32) (1 : Int32)).bind fun q38 => if q38.2 = 0 then (some (q38.1, (0 : Int32))) else ((f_X9_begins q38.1 x1).bind fun q40 => (f_X9_clears q40).bind fun q41 => L_X9_county_44 FU q41 (0 : Int32))))
section
variable {G : GP} {l : Launch}
set_option maxRecDepth 20000 in
set_option maxHeartbeats 2000000 in
theorem wB_X9_county_105 {p : Program} {e : Env} {s : State} {m : MethodId} {args : Array Value} {below : List Frame} {meth : Method} {c : Code} (C : Cx G p s m args c cX9_county 4 RX9) (hr : meth.sig.returnType = (some .int)) (hlk : meth.locks = false) {ro : TX × Int32} {k_44 : TX → Int32 → Option (TX × Int32)} (hk_44 : ∀ (X : TX) (M : TX) (L : TL) (x2 : Int32) (H : Heap) (locs : List Loc) (ls : Array Slot), Wh G s X M L H locs → lv_has ls 4 [(0, .ref (gA G (41 + 0))), (2, .int x2)] → k_44 M x2 = some ro → W p l e (rz 8 224) s m args below meth c H locs 0 0 (MQ below (Di G X ro.1 L ro.2) args s 0 0 (AB G)) (F0 m 44 ls [])) : ∀ (X : TX) (M : TX) (L : TL) (x2 : Int32) (x3 : Int32) (H : Heap) (locs : List Loc) (ls : Array Slot), Wh G s X M L H locs → lv_has ls 4 [(0, .ref (gA G (41 + 0))), (2, .int x2), (3, .int x3)] → B_X9_county_105 k_44 M x2 x3 = some ro → W p l e (rz 8 224) s m args below meth c H locs 0 0 (MQ below (Di G X ro.1 L ro.2) args s 0 0 (AB G)) (F0 m 105 ls []) := by
  intro X M L x2 x3 H locs ls hw hl hf
  unfold B_X9_county_105 at hf
  refine lv_aload_n C.1.1 C.1.2.1 dX9_county_105 rfl (lv_at hl 0 rfl) ?_
  obtain ⟨q21, h21, hf⟩ := o_bind hf
  refine aft_i hw (run_VM C hw clX9_134 (As := []) (rest := []) oM_0 (c_X9_fine h21) rfl hl.1 rfl ⟨(Nat.le_of_ble_eq_true rfl), (Nat.le_of_ble_eq_true rfl)⟩ ⟨Nat.zero_le _, Nat.zero_le _⟩ rfl (Nat.le_of_ble_eq_true rfl) dX9_county_106) (fun H locs hw => ?_)
  refine lv_if_ne (tgt := 115) C.1.1 C.1.2.1 dX9_county_109 (by decide) (fun c22 => ?_) (fun c22 => ?_)
  · have hf := o_f hf c22
    refine lv_aload_n C.1.1 C.1.2.1 dX9_county_115 rfl (lv_at hl 0 rfl) ?_
    obtain ⟨q23, h23, hf⟩ := o_bind hf
    refine aft_v hw (run_VM C hw clX9_220 (As := []) (rest := []) oM_0 (c_X9_pass h23) rfl hl.1 rfl ⟨(Nat.le_of_ble_eq_true rfl), (Nat.le_of_ble_eq_true rfl)⟩ ⟨Nat.zero_le _, Nat.zero_le _⟩ rfl (Nat.le_of_ble_eq_true rfl) dX9_county_116) (fun H locs hw => ?_)
    refine lv_aload_n C.1.1 C.1.2.1 dX9_county_119 rfl (lv_at hl 0 rfl) ?_
    refine lv_iload_n C.1.1 C.1.2.1 dX9_county_120 rfl (lv_at hl 2 rfl) ?_
    obtain ⟨q24, h24, hf⟩ := o_bind hf
    refine aft_v hw (run_VM C hw clX9_223 (As := [.int x3]) (rest := []) oM_0 (c_X9_readRow h24) rfl hl.1 rfl ⟨(Nat.le_of_ble_eq_true rfl), (Nat.le_of_ble_eq_true rfl)⟩ ⟨Nat.zero_le _, Nat.zero_le _⟩ rfl (Nat.le_of_ble_eq_true rfl) dX9_county_121) (fun H locs hw => ?_)
    refine lv_aload_n C.1.1 C.1.2.1 dX9_county_124 rfl (lv_at hl 0 rfl) ?_
    refine lv_bipush (v := (59 : Int32)) C.1.1 C.1.2.1 dX9_county_125 rfl ?_
    obtain ⟨q25, h25, hf⟩ := o_bind hf
    refine aft_v hw (run_VM C hw clX9_226 (As := [.int (59 : Int32)]) (rest := []) oM_0 (c_X9_sign h25) rfl hl.1 rfl ⟨(Nat.le_of_ble_eq_true rfl), (Nat.le_of_ble_eq_true rfl)⟩ ⟨Nat.zero_le _, Nat.zero_le _⟩ rfl (Nat.le_of_ble_eq_true rfl) dX9_county_127) (fun H locs hw => ?_)
    refine lv_iinc (v := (x2 + (1 : Int32))) (lv' := [(2, .int (x2 + (1 : Int32))), (0, .ref (gA G (41 + 0))), (3, .int x3)]) C.1.1 C.1.2.1 dX9_county_130 hl (k := 1) rfl rfl (by decide) rfl (fun ls hl => ?_)
    refine lv_goto (tgt := 44) C.1.1 C.1.2.1 dX9_county_133 (by decide) ?_
    exact hk_44 X q25 L (x2 + (1 : Int32)) _ _ _ hw (lv_sub hl [1, 0] rfl) hf
  · have hf := o_t hf c22
    refine lv_goto (tgt := 136) C.1.1 C.1.2.1 dX9_county_112 (by decide) ?_
    refine lv_aload_n C.1.1 C.1.2.1 dX9_county_136 rfl (lv_at hl 0 rfl) ?_
    refine lv_aload_n C.1.1 C.1.2.1 dX9_county_137 rfl (lv_at hl 0 rfl) ?_
    refine m_get C hw iM_0_16 flX9_148 dX9_county_138 ?_
    obtain ⟨q26, h26, hf⟩ := o_bind hf
    refine aft_i hw (run_VM C hw clX9_229 (As := [.int (M 0 16)]) (rest := []) oM_0 (c_X9_result h26) rfl hl.1 rfl ⟨(Nat.le_of_ble_eq_true rfl), (Nat.le_of_ble_eq_true rfl)⟩ ⟨Nat.zero_le _, Nat.zero_le _⟩ rfl (Nat.le_of_ble_eq_true rfl) dX9_county_141) (fun H locs hw => ?_)
    refine lv_istore_n (lv' := [(3, .int q26.2), (0, .ref (gA G (41 + 0))), (2, .int x2)]) C.1.1 C.1.2.1 dX9_county_144 rfl hl (by decide) rfl (fun ls hl => ?_)
    refine lv_aload_n C.1.1 C.1.2.1 dX9_county_145 rfl (lv_at hl 1 rfl) ?_
    refine m_get C hw iM_0_5 flX9_105 dX9_county_146 ?_
    refine lv_iconst (v := (-1 : Int32)) C.1.1 C.1.2.1 dX9_county_149 rfl ?_
    refine lv_icmp_ne (tgt := 157) C.1.1 C.1.2.1 dX9_county_150 (by decide) (fun c27 => ?_) (fun c27 => ?_)
    · have hf := o_f hf c27
      refine lv_iload_n C.1.1 C.1.2.1 dX9_county_157 rfl (lv_at hl 0 rfl) ?_
      obtain rfl := Option.some.inj hf
      exact ret_i C hr hlk hw dX9_county_158
    · have hf := o_t hf c27
      refine lv_aload_n C.1.1 C.1.2.1 dX9_county_153 rfl (lv_at hl 1 rfl) ?_
      obtain ⟨q28, h28, hf⟩ := o_bind hf
      refine aft_v hw (run_VM C hw clX9_99 (As := []) (rest := []) oM_0 (c_X9_sets h28) rfl hl.1 rfl ⟨(Nat.le_of_ble_eq_true rfl), (Nat.le_of_ble_eq_true rfl)⟩ ⟨Nat.zero_le _, Nat.zero_le _⟩ rfl (Nat.le_of_ble_eq_true rfl) dX9_county_154) (fun H locs hw => ?_)
      refine lv_iload_n C.1.1 C.1.2.1 dX9_county_157 rfl (lv_at hl 0 rfl) ?_
      obtain rfl := Option.some.inj hf
      exact ret_i C hr hlk hw dX9_county_158
set_option maxRecDepth 20000 in
set_option maxHeartbeats 2000000 in
theorem wL_X9_county_44 {p : Program} {e : Env} {s : State} {m : MethodId} {args : Array Value} {below : List Frame} {meth : Method} {c : Code} (C : Cx G p s m args c cX9_county 4 RX9) (hr : meth.sig.returnType = (some .int)) (hlk : meth.locks = false) {ro : TX × Int32} : ∀ (n : Nat), ∀ (X : TX) (M : TX) (L : TL) (x2 : Int32) (H : Heap) (locs : List Loc) (ls : Array Slot), Wh G s X M L H locs → lv_has ls 4 [(0, .ref (gA G (41 + 0))), (2, .int x2)] → L_X9_county_44 n M x2 = some ro → W p l e (rz 8 224) s m args below meth c H locs 0 0 (MQ below (Di G X ro.1 L ro.2) args s 0 0 (AB G)) (F0 m 44 ls []) := by
  intro n
  induction n with
  | zero =>
    intro X M L x2 H locs ls hw hl hf
    cases hf
  | succ n hk_44 =>
    intro X M L x2 H locs ls hw hl hf
    rw [L_X9_county_44] at hf
    refine lv_aload_n C.1.1 C.1.2.1 dX9_county_44 rfl (lv_at hl 0 rfl) ?_
    obtain ⟨q6, h6, hf⟩ := o_bind hf
    refine aft_i hw (run_VM C hw clX9_134 (As := []) (rest := []) oM_0 (c_X9_fine h6) rfl hl.1 rfl ⟨(Nat.le_of_ble_eq_true rfl), (Nat.le_of_ble_eq_true rfl)⟩ ⟨Nat.zero_le _, Nat.zero_le _⟩ rfl (Nat.le_of_ble_eq_true rfl) dX9_county_45) (fun H locs hw => ?_)
    refine lv_if_eq (tgt := 136) C.1.1 C.1.2.1 dX9_county_48 (by decide) (fun c7 => ?_) (fun c7 => ?_)
    · have hf := o_t hf c7
      refine lv_aload_n C.1.1 C.1.2.1 dX9_county_136 rfl (lv_at hl 0 rfl) ?_
      refine lv_aload_n C.1.1 C.1.2.1 dX9_county_137 rfl (lv_at hl 0 rfl) ?_
      refine m_get C hw iM_0_16 flX9_148 dX9_county_138 ?_
      obtain ⟨q8, h8, hf⟩ := o_bind hf
      refine aft_i hw (run_VM C hw clX9_229 (As := [.int (M 0 16)]) (rest := []) oM_0 (c_X9_result h8) rfl hl.1 rfl ⟨(Nat.le_of_ble_eq_true rfl), (Nat.le_of_ble_eq_true rfl)⟩ ⟨Nat.zero_le _, Nat.zero_le _⟩ rfl (Nat.le_of_ble_eq_true rfl) dX9_county_141) (fun H locs hw => ?_)
      refine lv_istore_n (lv' := [(3, .int q8.2), (0, .ref (gA G (41 + 0))), (2, .int x2)]) C.1.1 C.1.2.1 dX9_county_144 rfl hl (by decide) rfl (fun ls hl => ?_)
      refine lv_aload_n C.1.1 C.1.2.1 dX9_county_145 rfl (lv_at hl 1 rfl) ?_
      refine m_get C hw iM_0_5 flX9_105 dX9_county_146 ?_
      refine lv_iconst (v := (-1 : Int32)) C.1.1 C.1.2.1 dX9_county_149 rfl ?_
      refine lv_icmp_ne (tgt := 157) C.1.1 C.1.2.1 dX9_county_150 (by decide) (fun c9 => ?_) (fun c9 => ?_)
      · have hf := o_f hf c9
        refine lv_iload_n C.1.1 C.1.2.1 dX9_county_157 rfl (lv_at hl 0 rfl) ?_
        obtain rfl := Option.some.inj hf
        exact ret_i C hr hlk hw dX9_county_158
      · have hf := o_t hf c9
        refine lv_aload_n C.1.1 C.1.2.1 dX9_county_153 rfl (lv_at hl 1 rfl) ?_
        obtain ⟨q10, h10, hf⟩ := o_bind hf
        refine aft_v hw (run_VM C hw clX9_99 (As := []) (rest := []) oM_0 (c_X9_sets h10) rfl hl.1 rfl ⟨(Nat.le_of_ble_eq_true rfl), (Nat.le_of_ble_eq_true rfl)⟩ ⟨Nat.zero_le _, Nat.zero_le _⟩ rfl (Nat.le_of_ble_eq_true rfl) dX9_county_154) (fun H locs hw => ?_)
        refine lv_iload_n C.1.1 C.1.2.1 dX9_county_157 rfl (lv_at hl 0 rfl) ?_
        obtain rfl := Option.some.inj hf
        exact ret_i C hr hlk hw dX9_county_158
    · have hf := o_f hf c7
      refine lv_aload_n C.1.1 C.1.2.1 dX9_county_51 rfl (lv_at hl 0 rfl) ?_
      obtain ⟨q11, h11, hf⟩ := o_bind hf
      refine aft_i hw (run_VM C hw clX9_208 (As := []) (rest := []) oM_0 (c_X9_isMore h11) rfl hl.1 rfl ⟨(Nat.le_of_ble_eq_true rfl), (Nat.le_of_ble_eq_true rfl)⟩ ⟨Nat.zero_le _, Nat.zero_le _⟩ rfl (Nat.le_of_ble_eq_true rfl) dX9_county_52) (fun H locs hw => ?_)
      refine lv_if_eq (tgt := 136) C.1.1 C.1.2.1 dX9_county_55 (by decide) (fun c12 => ?_) (fun c12 => ?_)
      · have hf := o_t hf c12
        refine lv_aload_n C.1.1 C.1.2.1 dX9_county_136 rfl (lv_at hl 0 rfl) ?_
        refine lv_aload_n C.1.1 C.1.2.1 dX9_county_137 rfl (lv_at hl 0 rfl) ?_
        refine m_get C hw iM_0_16 flX9_148 dX9_county_138 ?_
        obtain ⟨q13, h13, hf⟩ := o_bind hf
        refine aft_i hw (run_VM C hw clX9_229 (As := [.int (q11.1 0 16)]) (rest := []) oM_0 (c_X9_result h13) rfl hl.1 rfl ⟨(Nat.le_of_ble_eq_true rfl), (Nat.le_of_ble_eq_true rfl)⟩ ⟨Nat.zero_le _, Nat.zero_le _⟩ rfl (Nat.le_of_ble_eq_true rfl) dX9_county_141) (fun H locs hw => ?_)
        refine lv_istore_n (lv' := [(3, .int q13.2), (0, .ref (gA G (41 + 0))), (2, .int x2)]) C.1.1 C.1.2.1 dX9_county_144 rfl hl (by decide) rfl (fun ls hl => ?_)
        refine lv_aload_n C.1.1 C.1.2.1 dX9_county_145 rfl (lv_at hl 1 rfl) ?_
        refine m_get C hw iM_0_5 flX9_105 dX9_county_146 ?_
        refine lv_iconst (v := (-1 : Int32)) C.1.1 C.1.2.1 dX9_county_149 rfl ?_
        refine lv_icmp_ne (tgt := 157) C.1.1 C.1.2.1 dX9_county_150 (by decide) (fun c14 => ?_) (fun c14 => ?_)
        · have hf := o_f hf c14
          refine lv_iload_n C.1.1 C.1.2.1 dX9_county_157 rfl (lv_at hl 0 rfl) ?_
          obtain rfl := Option.some.inj hf
          exact ret_i C hr hlk hw dX9_county_158
        · have hf := o_t hf c14
          refine lv_aload_n C.1.1 C.1.2.1 dX9_county_153 rfl (lv_at hl 1 rfl) ?_
          obtain ⟨q15, h15, hf⟩ := o_bind hf
          refine aft_v hw (run_VM C hw clX9_99 (As := []) (rest := []) oM_0 (c_X9_sets h15) rfl hl.1 rfl ⟨(Nat.le_of_ble_eq_true rfl), (Nat.le_of_ble_eq_true rfl)⟩ ⟨Nat.zero_le _, Nat.zero_le _⟩ rfl (Nat.le_of_ble_eq_true rfl) dX9_county_154) (fun H locs hw => ?_)
          refine lv_iload_n C.1.1 C.1.2.1 dX9_county_157 rfl (lv_at hl 0 rfl) ?_
          obtain rfl := Option.some.inj hf
          exact ret_i C hr hlk hw dX9_county_158
      · have hf := o_f hf c12
        refine lv_aload_n C.1.1 C.1.2.1 dX9_county_58 rfl (lv_at hl 0 rfl) ?_
        obtain ⟨q16, h16, hf⟩ := o_bind hf
        refine aft_i hw (run_VM C hw clX9_211 (As := []) (rest := []) oM_0 (c_X9_word h16) rfl hl.1 rfl ⟨(Nat.le_of_ble_eq_true rfl), (Nat.le_of_ble_eq_true rfl)⟩ ⟨Nat.zero_le _, Nat.zero_le _⟩ rfl (Nat.le_of_ble_eq_true rfl) dX9_county_59) (fun H locs hw => ?_)
        refine lv_istore_n (lv' := [(3, .int q16.2), (0, .ref (gA G (41 + 0))), (2, .int x2)]) C.1.1 C.1.2.1 dX9_county_62 rfl hl (by decide) rfl (fun ls hl => ?_)
        refine lv_iload_n C.1.1 C.1.2.1 dX9_county_63 rfl (lv_at hl 0 rfl) ?_
        obtain ⟨q17, h17, hf⟩ := o_bind hf
        refine aft_i hw (run_S C hw clX9_214 (As := [.int q16.2]) (rest := []) (c_X9_isRow h17) hl.1 rfl ⟨(Nat.le_of_ble_eq_true rfl), (Nat.le_of_ble_eq_true rfl)⟩ ⟨Nat.zero_le _, Nat.zero_le _⟩ rfl (Nat.le_of_ble_eq_true rfl) dX9_county_64) (fun H locs hw => ?_)
        refine lv_if_ne (tgt := 82) C.1.1 C.1.2.1 dX9_county_67 (by decide) (fun c18 => ?_) (fun c18 => ?_)
        · have hf := o_f hf c18
          refine lv_iload_n C.1.1 C.1.2.1 dX9_county_82 rfl (lv_at hl 2 rfl) ?_
          refine lv_bipush (v := (60 : Int32)) C.1.1 C.1.2.1 dX9_county_83 rfl ?_
          refine lv_icmp_eq (tgt := 96) C.1.1 C.1.2.1 dX9_county_85 (by decide) (fun c19 => ?_) (fun c19 => ?_)
          · have hf := o_t hf c19
            refine lv_aload_n C.1.1 C.1.2.1 dX9_county_96 rfl (lv_at hl 1 rfl) ?_
            refine lv_iconst (v := (3 : Int32)) C.1.1 C.1.2.1 dX9_county_97 rfl ?_
            refine lv_aload_n C.1.1 C.1.2.1 dX9_county_98 rfl (lv_at hl 1 rfl) ?_
            refine m_get C hw iM_0_4 flX9_111 dX9_county_99 ?_
            obtain ⟨q20, h20, hf⟩ := o_bind hf
            refine aft_v hw (run_VM C hw clX9_141 (As := [.int (3 : Int32), .int (q16.1 0 4)]) (rest := []) oM_0 (c_X9_wrong h20) rfl hl.1 rfl ⟨(Nat.le_of_ble_eq_true rfl), (Nat.le_of_ble_eq_true rfl)⟩ ⟨Nat.zero_le _, Nat.zero_le _⟩ rfl (Nat.le_of_ble_eq_true rfl) dX9_county_102) (fun H locs hw => ?_)
            exact wB_X9_county_105 C hr hlk hk_44 X q20 L x2 q16.2 _ _ _ hw (lv_sub hl [1, 2, 0] rfl) hf
          · have hf := o_f hf c19
            refine lv_aload_n C.1.1 C.1.2.1 dX9_county_88 rfl (lv_at hl 1 rfl) ?_
            refine lv_iload_n C.1.1 C.1.2.1 dX9_county_89 rfl (lv_at hl 0 rfl) ?_
            obtain ⟨q29, h29, hf⟩ := o_bind hf
            refine aft_i hw (run_VM C hw clX9_217 (As := [.int q16.2]) (rest := []) oM_0 (c_X9_isFull h29) rfl hl.1 rfl ⟨(Nat.le_of_ble_eq_true rfl), (Nat.le_of_ble_eq_true rfl)⟩ ⟨Nat.zero_le _, Nat.zero_le _⟩ rfl (Nat.le_of_ble_eq_true rfl) dX9_county_90) (fun H locs hw => ?_)
            refine lv_if_eq (tgt := 105) C.1.1 C.1.2.1 dX9_county_93 (by decide) (fun c30 => ?_) (fun c30 => ?_)
            · have hf := o_t hf c30
              exact wB_X9_county_105 C hr hlk hk_44 X q16.1 L x2 q16.2 _ _ _ hw (lv_sub hl [1, 2, 0] rfl) hf
            · have hf := o_f hf c30
              refine lv_aload_n C.1.1 C.1.2.1 dX9_county_96 rfl (lv_at hl 1 rfl) ?_
              refine lv_iconst (v := (3 : Int32)) C.1.1 C.1.2.1 dX9_county_97 rfl ?_
              refine lv_aload_n C.1.1 C.1.2.1 dX9_county_98 rfl (lv_at hl 1 rfl) ?_
              refine m_get C hw iM_0_4 flX9_111 dX9_county_99 ?_
              obtain ⟨q31, h31, hf⟩ := o_bind hf
              refine aft_v hw (run_VM C hw clX9_141 (As := [.int (3 : Int32), .int (q16.1 0 4)]) (rest := []) oM_0 (c_X9_wrong h31) rfl hl.1 rfl ⟨(Nat.le_of_ble_eq_true rfl), (Nat.le_of_ble_eq_true rfl)⟩ ⟨Nat.zero_le _, Nat.zero_le _⟩ rfl (Nat.le_of_ble_eq_true rfl) dX9_county_102) (fun H locs hw => ?_)
              exact wB_X9_county_105 C hr hlk hk_44 X q31 L x2 q16.2 _ _ _ hw (lv_sub hl [1, 2, 0] rfl) hf
        · have hf := o_t hf c18
          refine lv_aload_n C.1.1 C.1.2.1 dX9_county_70 rfl (lv_at hl 1 rfl) ?_
          refine lv_iconst (v := (1 : Int32)) C.1.1 C.1.2.1 dX9_county_71 rfl ?_
          refine lv_aload_n C.1.1 C.1.2.1 dX9_county_72 rfl (lv_at hl 1 rfl) ?_
          refine m_get C hw iM_0_4 flX9_111 dX9_county_73 ?_
          obtain ⟨q32, h32, hf⟩ := o_bind hf
          refine aft_v hw (run_VM C hw clX9_141 (As := [.int (1 : Int32), .int (q16.1 0 4)]) (rest := []) oM_0 (c_X9_wrong h32) rfl hl.1 rfl ⟨(Nat.le_of_ble_eq_true rfl), (Nat.le_of_ble_eq_true rfl)⟩ ⟨Nat.zero_le _, Nat.zero_le _⟩ rfl (Nat.le_of_ble_eq_true rfl) dX9_county_76) (fun H locs hw => ?_)
          refine lv_goto (tgt := 105) C.1.1 C.1.2.1 dX9_county_79 (by decide) ?_
          exact wB_X9_county_105 C hr hlk hk_44 X q32 L x2 q16.2 _ _ _ hw (lv_sub hl [1, 2, 0] rfl) hf
set_option maxRecDepth 20000 in
set_option maxHeartbeats 2000000 in
theorem c_X9_county   {X M : TX} {L : TL} {x1 : Int32} {ro : TX × Int32} (hf : f_X9_county M x1 = some ro) : CTi G l yX9_county cX9_county 4 (some .int) 8 224 [.ref (gA G (41 + 0)), .int x1] X M L X ro.1 L ro.2 := by
  unfold f_X9_county at hf
  refine ct_of (by decide +kernel) (Nat.le_of_ble_eq_true rfl) (fun p e s m args below meth c H locs ls C hr hlk hw hl => ?_)
  have C : Cx G p s m args c cX9_county 4 RX9 := C
  have hl : lv_has ls 4 [(0, .ref (gA G (41 + 0))), (1, .int x1)] := hl
  refine lv_aload_n C.1.1 C.1.2.1 dX9_county_0 rfl (lv_at hl 0 rfl) ?_
  refine lv_iconst (v := (0 : Int32)) C.1.1 C.1.2.1 dX9_county_1 rfl ?_
  refine m_put C hw iM_0_0 flX9_3 dX9_county_2 (fun H locs hw => ?_)
  refine lv_aload_n C.1.1 C.1.2.1 dX9_county_5 rfl (lv_at hl 0 rfl) ?_
  refine lv_iload_n C.1.1 C.1.2.1 dX9_county_6 rfl (lv_at hl 1 rfl) ?_
  refine lv_if_lt (tgt := 22) C.1.1 C.1.2.1 dX9_county_7 (by decide) (fun c1 => ?_) (fun c1 => ?_)
  · have hf := o_t hf c1
    refine lv_iconst (v := (0 : Int32)) C.1.1 C.1.2.1 dX9_county_22 rfl ?_
    refine lv_iconst (v := (1 : Int32)) C.1.1 C.1.2.1 dX9_county_23 rfl ?_
    refine lv_iconst (v := (1 : Int32)) C.1.1 C.1.2.1 dX9_county_24 rfl ?_
    obtain ⟨q2, h2, hf⟩ := o_bind hf
    refine aft_i hw (run_VM C hw clX9_200 (As := [.int (0 : Int32), .int (1 : Int32), .int (1 : Int32)]) (rest := []) oM_0 (c_X9_lets h2) rfl hl.1 rfl ⟨(Nat.le_of_ble_eq_true rfl), (Nat.le_of_ble_eq_true rfl)⟩ ⟨Nat.zero_le _, Nat.zero_le _⟩ rfl (Nat.le_of_ble_eq_true rfl) dX9_county_25) (fun H locs hw => ?_)
    refine lv_if_ne (tgt := 33) C.1.1 C.1.2.1 dX9_county_28 (by decide) (fun c3 => ?_) (fun c3 => ?_)
    · have hf := o_f hf c3
      refine lv_aload_n C.1.1 C.1.2.1 dX9_county_33 rfl (lv_at hl 0 rfl) ?_
      refine lv_iload_n C.1.1 C.1.2.1 dX9_county_34 rfl (lv_at hl 1 rfl) ?_
      obtain ⟨q4, h4, hf⟩ := o_bind hf
      refine aft_v hw (run_VM C hw clX9_204 (As := [.int x1]) (rest := []) oM_0 (c_X9_begins h4) rfl hl.1 rfl ⟨(Nat.le_of_ble_eq_true rfl), (Nat.le_of_ble_eq_true rfl)⟩ ⟨Nat.zero_le _, Nat.zero_le _⟩ rfl (Nat.le_of_ble_eq_true rfl) dX9_county_35) (fun H locs hw => ?_)
      refine lv_aload_n C.1.1 C.1.2.1 dX9_county_38 rfl (lv_at hl 0 rfl) ?_
      obtain ⟨q5, h5, hf⟩ := o_bind hf
      refine aft_v hw (run_VM C hw clX9_96 (As := []) (rest := []) oM_0 (c_X9_clears h5) rfl hl.1 rfl ⟨(Nat.le_of_ble_eq_true rfl), (Nat.le_of_ble_eq_true rfl)⟩ ⟨Nat.zero_le _, Nat.zero_le _⟩ rfl (Nat.le_of_ble_eq_true rfl) dX9_county_39) (fun H locs hw => ?_)
      refine lv_iconst (v := (0 : Int32)) C.1.1 C.1.2.1 dX9_county_42 rfl ?_
      refine lv_istore_n (lv' := [(2, .int (0 : Int32)), (0, .ref (gA G (41 + 0))), (1, .int x1)]) C.1.1 C.1.2.1 dX9_county_43 rfl hl (by decide) rfl (fun ls hl => ?_)
      exact wL_X9_county_44 C hr hlk FU X q5 L (0 : Int32) _ _ _ hw (lv_sub hl [1, 0] rfl) hf
    · have hf := o_t hf c3
      refine lv_iconst (v := (0 : Int32)) C.1.1 C.1.2.1 dX9_county_31 rfl ?_
      obtain rfl := Option.some.inj hf
      exact ret_i C hr hlk hw dX9_county_32
  · have hf := o_f hf c1
    refine lv_iload_n C.1.1 C.1.2.1 dX9_county_10 rfl (lv_at hl 1 rfl) ?_
    refine lv_aload_n C.1.1 C.1.2.1 dX9_county_11 rfl (lv_at hl 0 rfl) ?_
    refine m_get C hw iM_0_2 flX9_102 dX9_county_12 ?_
    refine lv_icmp_gt (tgt := 22) C.1.1 C.1.2.1 dX9_county_15 (by decide) (fun c33 => ?_) (fun c33 => ?_)
    · have hf := o_t hf c33
      refine lv_iconst (v := (0 : Int32)) C.1.1 C.1.2.1 dX9_county_22 rfl ?_
      refine lv_iconst (v := (1 : Int32)) C.1.1 C.1.2.1 dX9_county_23 rfl ?_
      refine lv_iconst (v := (1 : Int32)) C.1.1 C.1.2.1 dX9_county_24 rfl ?_
      obtain ⟨q34, h34, hf⟩ := o_bind hf
      refine aft_i hw (run_VM C hw clX9_200 (As := [.int (0 : Int32), .int (1 : Int32), .int (1 : Int32)]) (rest := []) oM_0 (c_X9_lets h34) rfl hl.1 rfl ⟨(Nat.le_of_ble_eq_true rfl), (Nat.le_of_ble_eq_true rfl)⟩ ⟨Nat.zero_le _, Nat.zero_le _⟩ rfl (Nat.le_of_ble_eq_true rfl) dX9_county_25) (fun H locs hw => ?_)
      refine lv_if_ne (tgt := 33) C.1.1 C.1.2.1 dX9_county_28 (by decide) (fun c35 => ?_) (fun c35 => ?_)
      · have hf := o_f hf c35
        refine lv_aload_n C.1.1 C.1.2.1 dX9_county_33 rfl (lv_at hl 0 rfl) ?_
        refine lv_iload_n C.1.1 C.1.2.1 dX9_county_34 rfl (lv_at hl 1 rfl) ?_
        obtain ⟨q36, h36, hf⟩ := o_bind hf
        refine aft_v hw (run_VM C hw clX9_204 (As := [.int x1]) (rest := []) oM_0 (c_X9_begins h36) rfl hl.1 rfl ⟨(Nat.le_of_ble_eq_true rfl), (Nat.le_of_ble_eq_true rfl)⟩ ⟨Nat.zero_le _, Nat.zero_le _⟩ rfl (Nat.le_of_ble_eq_true rfl) dX9_county_35) (fun H locs hw => ?_)
        refine lv_aload_n C.1.1 C.1.2.1 dX9_county_38 rfl (lv_at hl 0 rfl) ?_
        obtain ⟨q37, h37, hf⟩ := o_bind hf
        refine aft_v hw (run_VM C hw clX9_96 (As := []) (rest := []) oM_0 (c_X9_clears h37) rfl hl.1 rfl ⟨(Nat.le_of_ble_eq_true rfl), (Nat.le_of_ble_eq_true rfl)⟩ ⟨Nat.zero_le _, Nat.zero_le _⟩ rfl (Nat.le_of_ble_eq_true rfl) dX9_county_39) (fun H locs hw => ?_)
        refine lv_iconst (v := (0 : Int32)) C.1.1 C.1.2.1 dX9_county_42 rfl ?_
        refine lv_istore_n (lv' := [(2, .int (0 : Int32)), (0, .ref (gA G (41 + 0))), (1, .int x1)]) C.1.1 C.1.2.1 dX9_county_43 rfl hl (by decide) rfl (fun ls hl => ?_)
        exact wL_X9_county_44 C hr hlk FU X q37 L (0 : Int32) _ _ _ hw (lv_sub hl [1, 0] rfl) hf
      · have hf := o_t hf c35
        refine lv_iconst (v := (0 : Int32)) C.1.1 C.1.2.1 dX9_county_31 rfl ?_
        obtain rfl := Option.some.inj hf
        exact ret_i C hr hlk hw dX9_county_32
    · have hf := o_f hf c33
      refine lv_iconst (v := (1 : Int32)) C.1.1 C.1.2.1 dX9_county_18 rfl ?_
      refine lv_goto (tgt := 23) C.1.1 C.1.2.1 dX9_county_19 (by decide) ?_
      refine lv_iconst (v := (1 : Int32)) C.1.1 C.1.2.1 dX9_county_23 rfl ?_
      refine lv_iconst (v := (1 : Int32)) C.1.1 C.1.2.1 dX9_county_24 rfl ?_
      obtain ⟨q38, h38, hf⟩ := o_bind hf
      refine aft_i hw (run_VM C hw clX9_200 (As := [.int (1 : Int32), .int (1 : Int32), .int (1 : Int32)]) (rest := []) oM_0 (c_X9_lets h38) rfl hl.1 rfl ⟨(Nat.le_of_ble_eq_true rfl), (Nat.le_of_ble_eq_true rfl)⟩ ⟨Nat.zero_le _, Nat.zero_le _⟩ rfl (Nat.le_of_ble_eq_true rfl) dX9_county_25) (fun H locs hw => ?_)
      refine lv_if_ne (tgt := 33) C.1.1 C.1.2.1 dX9_county_28 (by decide) (fun c39 => ?_) (fun c39 => ?_)
      · have hf := o_f hf c39
        refine lv_aload_n C.1.1 C.1.2.1 dX9_county_33 rfl (lv_at hl 0 rfl) ?_
        refine lv_iload_n C.1.1 C.1.2.1 dX9_county_34 rfl (lv_at hl 1 rfl) ?_
        obtain ⟨q40, h40, hf⟩ := o_bind hf
        refine aft_v hw (run_VM C hw clX9_204 (As := [.int x1]) (rest := []) oM_0 (c_X9_begins h40) rfl hl.1 rfl ⟨(Nat.le_of_ble_eq_true rfl), (Nat.le_of_ble_eq_true rfl)⟩ ⟨Nat.zero_le _, Nat.zero_le _⟩ rfl (Nat.le_of_ble_eq_true rfl) dX9_county_35) (fun H locs hw => ?_)
        refine lv_aload_n C.1.1 C.1.2.1 dX9_county_38 rfl (lv_at hl 0 rfl) ?_
        obtain ⟨q41, h41, hf⟩ := o_bind hf
        refine aft_v hw (run_VM C hw clX9_96 (As := []) (rest := []) oM_0 (c_X9_clears h41) rfl hl.1 rfl ⟨(Nat.le_of_ble_eq_true rfl), (Nat.le_of_ble_eq_true rfl)⟩ ⟨Nat.zero_le _, Nat.zero_le _⟩ rfl (Nat.le_of_ble_eq_true rfl) dX9_county_39) (fun H locs hw => ?_)
        refine lv_iconst (v := (0 : Int32)) C.1.1 C.1.2.1 dX9_county_42 rfl ?_
        refine lv_istore_n (lv' := [(2, .int (0 : Int32)), (0, .ref (gA G (41 + 0))), (1, .int x1)]) C.1.1 C.1.2.1 dX9_county_43 rfl hl (by decide) rfl (fun ls hl => ?_)
        exact wL_X9_county_44 C hr hlk FU X q41 L (0 : Int32) _ _ _ hw (lv_sub hl [1, 0] rfl) hf
      · have hf := o_t hf c39
        refine lv_iconst (v := (0 : Int32)) C.1.1 C.1.2.1 dX9_county_31 rfl ?_
        obtain rfl := Option.some.inj hf
        exact ret_i C hr hlk hw dX9_county_32
end
/-! WinnerDrawsModel.emit(II)V (('o', 'M', 0) ('i',) ('i',)) -/
def f_X9_emit (M : TX) (x1 : Int32) (x2 : Int32) : Option (TX) := (f_X9_fine M).bind fun q1 => if q1 = 0 then (some M) else (if inb (M 0 27) 150 = true then (if inb ((u2 M 9 (Int32.toNatClampNeg (M 0 27)) x1) 0 27) 150 = true then (some (u2 (u2 (u2 M 9 (Int32.toNatClampNeg (M 0 27)) x1) 10 (Int32.toNatClampNeg ((u2 M 9 (Int32.toNatClampNeg (M 0 27)) x1) 0 27)) x2) 0 27 (((u2 (u2 M 9 (Int32.toNatClampNeg (M 0 27)) x1) 10 (Int32.toNatClampNeg ((u2 M 9 (Int32.toNatClampNeg (M 0 27)) x1) 0 27)) x2) 0 27) + (1 : Int32)))) else none) else none)
section
variable {G : GP} {l : Launch}
set_option maxRecDepth 20000 in
set_option maxHeartbeats 2000000 in
theorem c_X9_emit   {X M : TX} {L : TL} {x1 : Int32} {x2 : Int32} {ro : TX} (hf : f_X9_emit M x1 x2 = some ro) : CTv G l yX9_emit cX9_emit 3 none 1 20 [.ref (gA G (41 + 0)), .int x1, .int x2] X M L X ro L := by
  unfold f_X9_emit at hf
  refine ct_of (by decide +kernel) (Nat.le_of_ble_eq_true rfl) (fun p e s m args below meth c H locs ls C hr hlk hw hl => ?_)
  have C : Cx G p s m args c cX9_emit 3 RX9 := C
  have hl : lv_has ls 3 [(0, .ref (gA G (41 + 0))), (1, .int x1), (2, .int x2)] := hl
  refine lv_aload_n C.1.1 C.1.2.1 dX9_emit_0 rfl (lv_at hl 0 rfl) ?_
  obtain ⟨q1, h1, hf⟩ := o_bind hf
  refine aft_i hw (run_VM C hw clX9_134 (As := []) (rest := []) oM_0 (c_X9_fine h1) rfl hl.1 rfl ⟨(Nat.le_of_ble_eq_true rfl), (Nat.le_of_ble_eq_true rfl)⟩ ⟨Nat.zero_le _, Nat.zero_le _⟩ rfl (Nat.le_of_ble_eq_true rfl) dX9_emit_1) (fun H locs hw => ?_)
  refine lv_if_ne (tgt := 8) C.1.1 C.1.2.1 dX9_emit_4 (by decide) (fun c2 => ?_) (fun c2 => ?_)
  · have hf := o_f hf c2
    refine lv_aload_n C.1.1 C.1.2.1 dX9_emit_8 rfl (lv_at hl 0 rfl) ?_
    refine m_ref C hw fM_0_22 flX9_41 dX9_emit_9 ?_
    refine lv_aload_n C.1.1 C.1.2.1 dX9_emit_12 rfl (lv_at hl 0 rfl) ?_
    refine m_get C hw iM_0_27 flX9_233 dX9_emit_13 ?_
    refine lv_iload_n C.1.1 C.1.2.1 dX9_emit_16 rfl (lv_at hl 1 rfl) ?_
    have g3 := inb_in (o_g hf).1
    have hf := (o_g hf).2
    refine m_ast C hw aM_9 g3 dX9_emit_17 (fun H locs hw => ?_)
    refine lv_aload_n C.1.1 C.1.2.1 dX9_emit_18 rfl (lv_at hl 0 rfl) ?_
    refine m_ref C hw fM_0_23 flX9_44 dX9_emit_19 ?_
    refine lv_aload_n C.1.1 C.1.2.1 dX9_emit_22 rfl (lv_at hl 0 rfl) ?_
    refine m_get C hw iM_0_27 flX9_233 dX9_emit_23 ?_
    refine lv_iload_n C.1.1 C.1.2.1 dX9_emit_26 rfl (lv_at hl 2 rfl) ?_
    have g4 := inb_in (o_g hf).1
    have hf := (o_g hf).2
    refine m_ast C hw aM_10 g4 dX9_emit_27 (fun H locs hw => ?_)
    refine lv_aload_n C.1.1 C.1.2.1 dX9_emit_28 rfl (lv_at hl 0 rfl) ?_
    refine lv_dup C.1.1 C.1.2.1 dX9_emit_29 rfl ?_
    refine m_get C hw iM_0_27 flX9_233 dX9_emit_30 ?_
    refine lv_iconst (v := (1 : Int32)) C.1.1 C.1.2.1 dX9_emit_33 rfl ?_
    refine lv_iadd C.1.1 C.1.2.1 dX9_emit_34 ?_
    refine m_put C hw iM_0_27 flX9_233 dX9_emit_35 (fun H locs hw => ?_)
    obtain rfl := Option.some.inj hf
    exact ret_v C hr hlk hw dX9_emit_38
  · have hf := o_t hf c2
    obtain rfl := Option.some.inj hf
    exact ret_v C hr hlk hw dX9_emit_7
end
/-! WinnerDrawsModel.opensOne(I)V (('o', 'M', 0) ('i',)) -/
def B_X9_opensOne_25 (M : TX) (x1 : Int32) : Option (TX) := (f_X9_fine M).bind fun q3 => if q3 = 0 then (some (u2 M 0 7 ((M 0 7) + (1 : Int32)))) else (some (u2 (u2 M 0 4 ((M 0 4) + x1)) 0 7 (((u2 M 0 4 ((M 0 4) + x1)) 0 7) + (1 : Int32))))
def f_X9_opensOne (M : TX) (x1 : Int32) : Option (TX) := (f_X9_fine M).bind fun q1 => if q1 = 0 then (B_X9_opensOne_25 M x1) else (if (M 0 7) = (6 : Int32) then ((f_X9_wrong M (3 : Int32) (M 0 4)).bind fun q6 => B_X9_opensOne_25 q6 x1) else (B_X9_opensOne_25 M x1))
section
variable {G : GP} {l : Launch}
set_option maxRecDepth 20000 in
set_option maxHeartbeats 2000000 in
theorem wB_X9_opensOne_25 {p : Program} {e : Env} {s : State} {m : MethodId} {args : Array Value} {below : List Frame} {meth : Method} {c : Code} (C : Cx G p s m args c cX9_opensOne 2 RX9) (hr : meth.sig.returnType = none) (hlk : meth.locks = false) {ro : TX} : ∀ (X : TX) (M : TX) (L : TL) (x1 : Int32) (H : Heap) (locs : List Loc) (ls : Array Slot), Wh G s X M L H locs → lv_has ls 2 [(0, .ref (gA G (41 + 0))), (1, .int x1)] → B_X9_opensOne_25 M x1 = some ro → W p l e (rz 1 22) s m args below meth c H locs 0 0 (MQ below (Dv G X ro L) args s 0 0 (AB G)) (F0 m 25 ls []) := by
  intro X M L x1 H locs ls hw hl hf
  unfold B_X9_opensOne_25 at hf
  refine lv_aload_n C.1.1 C.1.2.1 dX9_opensOne_25 rfl (lv_at hl 0 rfl) ?_
  obtain ⟨q3, h3, hf⟩ := o_bind hf
  refine aft_i hw (run_VM C hw clX9_134 (As := []) (rest := []) oM_0 (c_X9_fine h3) rfl hl.1 rfl ⟨(Nat.le_of_ble_eq_true rfl), (Nat.le_of_ble_eq_true rfl)⟩ ⟨Nat.zero_le _, Nat.zero_le _⟩ rfl (Nat.le_of_ble_eq_true rfl) dX9_opensOne_26) (fun H locs hw => ?_)
  refine lv_if_eq (tgt := 42) C.1.1 C.1.2.1 dX9_opensOne_29 (by decide) (fun c4 => ?_) (fun c4 => ?_)
  · have hf := o_t hf c4
    refine lv_aload_n C.1.1 C.1.2.1 dX9_opensOne_42 rfl (lv_at hl 0 rfl) ?_
    refine lv_dup C.1.1 C.1.2.1 dX9_opensOne_43 rfl ?_
    refine m_get C hw iM_0_7 flX9_145 dX9_opensOne_44 ?_
    refine lv_iconst (v := (1 : Int32)) C.1.1 C.1.2.1 dX9_opensOne_47 rfl ?_
    refine lv_iadd C.1.1 C.1.2.1 dX9_opensOne_48 ?_
    refine m_put C hw iM_0_7 flX9_145 dX9_opensOne_49 (fun H locs hw => ?_)
    obtain rfl := Option.some.inj hf
    exact ret_v C hr hlk hw dX9_opensOne_52
  · have hf := o_f hf c4
    refine lv_aload_n C.1.1 C.1.2.1 dX9_opensOne_32 rfl (lv_at hl 0 rfl) ?_
    refine lv_dup C.1.1 C.1.2.1 dX9_opensOne_33 rfl ?_
    refine m_get C hw iM_0_4 flX9_111 dX9_opensOne_34 ?_
    refine lv_iload_n C.1.1 C.1.2.1 dX9_opensOne_37 rfl (lv_at hl 1 rfl) ?_
    refine lv_iadd C.1.1 C.1.2.1 dX9_opensOne_38 ?_
    refine m_put C hw iM_0_4 flX9_111 dX9_opensOne_39 (fun H locs hw => ?_)
    refine lv_aload_n C.1.1 C.1.2.1 dX9_opensOne_42 rfl (lv_at hl 0 rfl) ?_
    refine lv_dup C.1.1 C.1.2.1 dX9_opensOne_43 rfl ?_
    refine m_get C hw iM_0_7 flX9_145 dX9_opensOne_44 ?_
    refine lv_iconst (v := (1 : Int32)) C.1.1 C.1.2.1 dX9_opensOne_47 rfl ?_
    refine lv_iadd C.1.1 C.1.2.1 dX9_opensOne_48 ?_
    refine m_put C hw iM_0_7 flX9_145 dX9_opensOne_49 (fun H locs hw => ?_)
    obtain rfl := Option.some.inj hf
    exact ret_v C hr hlk hw dX9_opensOne_52
set_option maxRecDepth 20000 in
set_option maxHeartbeats 2000000 in
theorem c_X9_opensOne   {X M : TX} {L : TL} {x1 : Int32} {ro : TX} (hf : f_X9_opensOne M x1 = some ro) : CTv G l yX9_opensOne cX9_opensOne 2 none 1 22 [.ref (gA G (41 + 0)), .int x1] X M L X ro L := by
  unfold f_X9_opensOne at hf
  refine ct_of (by decide +kernel) (Nat.le_of_ble_eq_true rfl) (fun p e s m args below meth c H locs ls C hr hlk hw hl => ?_)
  have C : Cx G p s m args c cX9_opensOne 2 RX9 := C
  have hl : lv_has ls 2 [(0, .ref (gA G (41 + 0))), (1, .int x1)] := hl
  refine lv_aload_n C.1.1 C.1.2.1 dX9_opensOne_0 rfl (lv_at hl 0 rfl) ?_
  obtain ⟨q1, h1, hf⟩ := o_bind hf
  refine aft_i hw (run_VM C hw clX9_134 (As := []) (rest := []) oM_0 (c_X9_fine h1) rfl hl.1 rfl ⟨(Nat.le_of_ble_eq_true rfl), (Nat.le_of_ble_eq_true rfl)⟩ ⟨Nat.zero_le _, Nat.zero_le _⟩ rfl (Nat.le_of_ble_eq_true rfl) dX9_opensOne_1) (fun H locs hw => ?_)
  refine lv_if_eq (tgt := 25) C.1.1 C.1.2.1 dX9_opensOne_4 (by decide) (fun c2 => ?_) (fun c2 => ?_)
  · have hf := o_t hf c2
    exact wB_X9_opensOne_25 C hr hlk X M L x1 _ _ _ hw (lv_sub hl [0, 1] rfl) hf
  · have hf := o_f hf c2
    refine lv_aload_n C.1.1 C.1.2.1 dX9_opensOne_7 rfl (lv_at hl 0 rfl) ?_
    refine m_get C hw iM_0_7 flX9_145 dX9_opensOne_8 ?_
    refine lv_bipush (v := (6 : Int32)) C.1.1 C.1.2.1 dX9_opensOne_11 rfl ?_
    refine lv_icmp_ne (tgt := 25) C.1.1 C.1.2.1 dX9_opensOne_13 (by decide) (fun c5 => ?_) (fun c5 => ?_)
    · have hf := o_f hf c5
      exact wB_X9_opensOne_25 C hr hlk X M L x1 _ _ _ hw (lv_sub hl [0, 1] rfl) hf
    · have hf := o_t hf c5
      refine lv_aload_n C.1.1 C.1.2.1 dX9_opensOne_16 rfl (lv_at hl 0 rfl) ?_
      refine lv_iconst (v := (3 : Int32)) C.1.1 C.1.2.1 dX9_opensOne_17 rfl ?_
      refine lv_aload_n C.1.1 C.1.2.1 dX9_opensOne_18 rfl (lv_at hl 0 rfl) ?_
      refine m_get C hw iM_0_4 flX9_111 dX9_opensOne_19 ?_
      obtain ⟨q6, h6, hf⟩ := o_bind hf
      refine aft_v hw (run_VM C hw clX9_141 (As := [.int (3 : Int32), .int (M 0 4)]) (rest := []) oM_0 (c_X9_wrong h6) rfl hl.1 rfl ⟨(Nat.le_of_ble_eq_true rfl), (Nat.le_of_ble_eq_true rfl)⟩ ⟨Nat.zero_le _, Nat.zero_le _⟩ rfl (Nat.le_of_ble_eq_true rfl) dX9_opensOne_22) (fun H locs hw => ?_)
      exact wB_X9_opensOne_25 C hr hlk X q6 L x1 _ _ _ hw (lv_sub hl [0, 1] rfl) hf
end
/-! WinnerDrawsModel.factHere()I (('o', 'M', 0)) -/
def f_X9_factHere (M : TX) : Option (TX × Int32) := (f_X9_word M).bind fun q1 => (f_X9_of 9).bind fun q2 => if q1.2 = q2 then (some (q1.1, (0 : Int32))) else ((f_X9_of 3).bind fun q4 => if q1.2 = q4 then (some (q1.1, (1 : Int32))) else ((f_X9_of 14).bind fun q6 => if q1.2 = q6 then (some (q1.1, (2 : Int32))) else ((f_X9_of 13).bind fun q8 => if q1.2 = q8 then (some (q1.1, (3 : Int32))) else ((f_X9_of 5).bind fun q10 => if q1.2 = q10 then (some (q1.1, (4 : Int32))) else ((f_X9_of 11).bind fun q12 => if q1.2 = q12 then (some (q1.1, (5 : Int32))) else ((f_X9_of 17).bind fun q14 => if q1.2 = q14 then (some (q1.1, (6 : Int32))) else ((f_X9_of 8).bind fun q16 => if q1.2 = q16 then (some (q1.1, (7 : Int32))) else (some (q1.1, (-1 : Int32))))))))))
section
variable {G : GP} {l : Launch}
set_option maxRecDepth 20000 in
set_option maxHeartbeats 2000000 in
theorem c_X9_factHere   {X M : TX} {L : TL}  {ro : TX × Int32} (hf : f_X9_factHere M = some ro) : CTi G l yX9_factHere cX9_factHere 2 (some .int) 7 203 [.ref (gA G (41 + 0))] X M L X ro.1 L ro.2 := by
  unfold f_X9_factHere at hf
  refine ct_of (by decide +kernel) (Nat.le_of_ble_eq_true rfl) (fun p e s m args below meth c H locs ls C hr hlk hw hl => ?_)
  have C : Cx G p s m args c cX9_factHere 2 RX9 := C
  have hl : lv_has ls 2 [(0, .ref (gA G (41 + 0)))] := hl
  refine lv_aload_n C.1.1 C.1.2.1 dX9_factHere_0 rfl (lv_at hl 0 rfl) ?_
  obtain ⟨q1, h1, hf⟩ := o_bind hf
  refine aft_i hw (run_VM C hw clX9_211 (As := []) (rest := []) oM_0 (c_X9_word h1) rfl hl.1 rfl ⟨(Nat.le_of_ble_eq_true rfl), (Nat.le_of_ble_eq_true rfl)⟩ ⟨Nat.zero_le _, Nat.zero_le _⟩ rfl (Nat.le_of_ble_eq_true rfl) dX9_factHere_1) (fun H locs hw => ?_)
  refine lv_istore_n (lv' := [(1, .int q1.2), (0, .ref (gA G (41 + 0)))]) C.1.1 C.1.2.1 dX9_factHere_4 rfl hl (by decide) rfl (fun ls hl => ?_)
  refine lv_iload_n C.1.1 C.1.2.1 dX9_factHere_5 rfl (lv_at hl 0 rfl) ?_
  refine x_ldcS C (i := 9) (tx := "people") (List.mem_of_getElem? (i := 23) rfl) dX9_factHere_6 ?_
  obtain ⟨q2, h2, hf⟩ := o_bind hf
  refine aft_i hw (run_S C hw clX9_186 (As := [.ref (gK G 9)]) (rest := [.int q1.2]) (c_X9_of (by decide) h2) hl.1 rfl ⟨(Nat.le_of_ble_eq_true rfl), (Nat.le_of_ble_eq_true rfl)⟩ ⟨Nat.zero_le _, Nat.zero_le _⟩ rfl (Nat.le_of_ble_eq_true rfl) dX9_factHere_8) (fun H locs hw => ?_)
  refine lv_icmp_ne (tgt := 18) C.1.1 C.1.2.1 dX9_factHere_11 (by decide) (fun c3 => ?_) (fun c3 => ?_)
  · have hf := o_f hf c3
    refine lv_iload_n C.1.1 C.1.2.1 dX9_factHere_18 rfl (lv_at hl 0 rfl) ?_
    refine x_ldcS C (i := 3) (tx := "lead") (List.mem_of_getElem? (i := 24) rfl) dX9_factHere_19 ?_
    obtain ⟨q4, h4, hf⟩ := o_bind hf
    refine aft_i hw (run_S C hw clX9_186 (As := [.ref (gK G 3)]) (rest := [.int q1.2]) (c_X9_of (by decide) h4) hl.1 rfl ⟨(Nat.le_of_ble_eq_true rfl), (Nat.le_of_ble_eq_true rfl)⟩ ⟨Nat.zero_le _, Nat.zero_le _⟩ rfl (Nat.le_of_ble_eq_true rfl) dX9_factHere_21) (fun H locs hw => ?_)
    refine lv_icmp_ne (tgt := 31) C.1.1 C.1.2.1 dX9_factHere_24 (by decide) (fun c5 => ?_) (fun c5 => ?_)
    · have hf := o_f hf c5
      refine lv_iload_n C.1.1 C.1.2.1 dX9_factHere_31 rfl (lv_at hl 0 rfl) ?_
      refine x_ldcS C (i := 14) (tx := "size") (List.mem_of_getElem? (i := 25) rfl) dX9_factHere_32 ?_
      obtain ⟨q6, h6, hf⟩ := o_bind hf
      refine aft_i hw (run_S C hw clX9_186 (As := [.ref (gK G 14)]) (rest := [.int q1.2]) (c_X9_of (by decide) h6) hl.1 rfl ⟨(Nat.le_of_ble_eq_true rfl), (Nat.le_of_ble_eq_true rfl)⟩ ⟨Nat.zero_le _, Nat.zero_le _⟩ rfl (Nat.le_of_ble_eq_true rfl) dX9_factHere_34) (fun H locs hw => ?_)
      refine lv_icmp_ne (tgt := 44) C.1.1 C.1.2.1 dX9_factHere_37 (by decide) (fun c7 => ?_) (fun c7 => ?_)
      · have hf := o_f hf c7
        refine lv_iload_n C.1.1 C.1.2.1 dX9_factHere_44 rfl (lv_at hl 0 rfl) ?_
        refine x_ldcSW C (i := 13) (tx := "room") (List.mem_of_getElem? (i := 26) rfl) dX9_factHere_45 ?_
        obtain ⟨q8, h8, hf⟩ := o_bind hf
        refine aft_i hw (run_S C hw clX9_186 (As := [.ref (gK G 13)]) (rest := [.int q1.2]) (c_X9_of (by decide) h8) hl.1 rfl ⟨(Nat.le_of_ble_eq_true rfl), (Nat.le_of_ble_eq_true rfl)⟩ ⟨Nat.zero_le _, Nat.zero_le _⟩ rfl (Nat.le_of_ble_eq_true rfl) dX9_factHere_48) (fun H locs hw => ?_)
        refine lv_icmp_ne (tgt := 58) C.1.1 C.1.2.1 dX9_factHere_51 (by decide) (fun c9 => ?_) (fun c9 => ?_)
        · have hf := o_f hf c9
          refine lv_iload_n C.1.1 C.1.2.1 dX9_factHere_58 rfl (lv_at hl 0 rfl) ?_
          refine x_ldcSW C (i := 5) (tx := "lines") (List.mem_of_getElem? (i := 27) rfl) dX9_factHere_59 ?_
          obtain ⟨q10, h10, hf⟩ := o_bind hf
          refine aft_i hw (run_S C hw clX9_186 (As := [.ref (gK G 5)]) (rest := [.int q1.2]) (c_X9_of (by decide) h10) hl.1 rfl ⟨(Nat.le_of_ble_eq_true rfl), (Nat.le_of_ble_eq_true rfl)⟩ ⟨Nat.zero_le _, Nat.zero_le _⟩ rfl (Nat.le_of_ble_eq_true rfl) dX9_factHere_62) (fun H locs hw => ?_)
          refine lv_icmp_ne (tgt := 72) C.1.1 C.1.2.1 dX9_factHere_65 (by decide) (fun c11 => ?_) (fun c11 => ?_)
          · have hf := o_f hf c11
            refine lv_iload_n C.1.1 C.1.2.1 dX9_factHere_72 rfl (lv_at hl 0 rfl) ?_
            refine x_ldcSW C (i := 11) (tx := "reign") (List.mem_of_getElem? (i := 28) rfl) dX9_factHere_73 ?_
            obtain ⟨q12, h12, hf⟩ := o_bind hf
            refine aft_i hw (run_S C hw clX9_186 (As := [.ref (gK G 11)]) (rest := [.int q1.2]) (c_X9_of (by decide) h12) hl.1 rfl ⟨(Nat.le_of_ble_eq_true rfl), (Nat.le_of_ble_eq_true rfl)⟩ ⟨Nat.zero_le _, Nat.zero_le _⟩ rfl (Nat.le_of_ble_eq_true rfl) dX9_factHere_76) (fun H locs hw => ?_)
            refine lv_icmp_ne (tgt := 86) C.1.1 C.1.2.1 dX9_factHere_79 (by decide) (fun c13 => ?_) (fun c13 => ?_)
            · have hf := o_f hf c13
              refine lv_iload_n C.1.1 C.1.2.1 dX9_factHere_86 rfl (lv_at hl 0 rfl) ?_
              refine x_ldcSW C (i := 17) (tx := "year") (List.mem_of_getElem? (i := 29) rfl) dX9_factHere_87 ?_
              obtain ⟨q14, h14, hf⟩ := o_bind hf
              refine aft_i hw (run_S C hw clX9_186 (As := [.ref (gK G 17)]) (rest := [.int q1.2]) (c_X9_of (by decide) h14) hl.1 rfl ⟨(Nat.le_of_ble_eq_true rfl), (Nat.le_of_ble_eq_true rfl)⟩ ⟨Nat.zero_le _, Nat.zero_le _⟩ rfl (Nat.le_of_ble_eq_true rfl) dX9_factHere_90) (fun H locs hw => ?_)
              refine lv_icmp_ne (tgt := 101) C.1.1 C.1.2.1 dX9_factHere_93 (by decide) (fun c15 => ?_) (fun c15 => ?_)
              · have hf := o_f hf c15
                refine lv_iload_n C.1.1 C.1.2.1 dX9_factHere_101 rfl (lv_at hl 0 rfl) ?_
                refine x_ldcS C (i := 8) (tx := "parish") (List.mem_of_getElem? (i := 19) rfl) dX9_factHere_102 ?_
                obtain ⟨q16, h16, hf⟩ := o_bind hf
                refine aft_i hw (run_S C hw clX9_186 (As := [.ref (gK G 8)]) (rest := [.int q1.2]) (c_X9_of (by decide) h16) hl.1 rfl ⟨(Nat.le_of_ble_eq_true rfl), (Nat.le_of_ble_eq_true rfl)⟩ ⟨Nat.zero_le _, Nat.zero_le _⟩ rfl (Nat.le_of_ble_eq_true rfl) dX9_factHere_104) (fun H locs hw => ?_)
                refine lv_icmp_ne (tgt := 115) C.1.1 C.1.2.1 dX9_factHere_107 (by decide) (fun c17 => ?_) (fun c17 => ?_)
                · have hf := o_f hf c17
                  refine lv_iconst (v := (-1 : Int32)) C.1.1 C.1.2.1 dX9_factHere_115 rfl ?_
                  obtain rfl := Option.some.inj hf
                  exact ret_i C hr hlk hw dX9_factHere_116
                · have hf := o_t hf c17
                  refine lv_bipush (v := (7 : Int32)) C.1.1 C.1.2.1 dX9_factHere_110 rfl ?_
                  refine lv_goto (tgt := 116) C.1.1 C.1.2.1 dX9_factHere_112 (by decide) ?_
                  obtain rfl := Option.some.inj hf
                  exact ret_i C hr hlk hw dX9_factHere_116
              · have hf := o_t hf c15
                refine lv_bipush (v := (6 : Int32)) C.1.1 C.1.2.1 dX9_factHere_96 rfl ?_
                refine lv_goto (tgt := 116) C.1.1 C.1.2.1 dX9_factHere_98 (by decide) ?_
                obtain rfl := Option.some.inj hf
                exact ret_i C hr hlk hw dX9_factHere_116
            · have hf := o_t hf c13
              refine lv_iconst (v := (5 : Int32)) C.1.1 C.1.2.1 dX9_factHere_82 rfl ?_
              refine lv_goto (tgt := 116) C.1.1 C.1.2.1 dX9_factHere_83 (by decide) ?_
              obtain rfl := Option.some.inj hf
              exact ret_i C hr hlk hw dX9_factHere_116
          · have hf := o_t hf c11
            refine lv_iconst (v := (4 : Int32)) C.1.1 C.1.2.1 dX9_factHere_68 rfl ?_
            refine lv_goto (tgt := 116) C.1.1 C.1.2.1 dX9_factHere_69 (by decide) ?_
            obtain rfl := Option.some.inj hf
            exact ret_i C hr hlk hw dX9_factHere_116
        · have hf := o_t hf c9
          refine lv_iconst (v := (3 : Int32)) C.1.1 C.1.2.1 dX9_factHere_54 rfl ?_
          refine lv_goto (tgt := 116) C.1.1 C.1.2.1 dX9_factHere_55 (by decide) ?_
          obtain rfl := Option.some.inj hf
          exact ret_i C hr hlk hw dX9_factHere_116
      · have hf := o_t hf c7
        refine lv_iconst (v := (2 : Int32)) C.1.1 C.1.2.1 dX9_factHere_40 rfl ?_
        refine lv_goto (tgt := 116) C.1.1 C.1.2.1 dX9_factHere_41 (by decide) ?_
        obtain rfl := Option.some.inj hf
        exact ret_i C hr hlk hw dX9_factHere_116
    · have hf := o_t hf c5
      refine lv_iconst (v := (1 : Int32)) C.1.1 C.1.2.1 dX9_factHere_27 rfl ?_
      refine lv_goto (tgt := 116) C.1.1 C.1.2.1 dX9_factHere_28 (by decide) ?_
      obtain rfl := Option.some.inj hf
      exact ret_i C hr hlk hw dX9_factHere_116
  · have hf := o_t hf c3
    refine lv_iconst (v := (0 : Int32)) C.1.1 C.1.2.1 dX9_factHere_14 rfl ?_
    refine lv_goto (tgt := 116) C.1.1 C.1.2.1 dX9_factHere_15 (by decide) ?_
    obtain rfl := Option.some.inj hf
    exact ret_i C hr hlk hw dX9_factHere_116
end
/-! WinnerDrawsModel.readTwo(II)V (('o', 'M', 0) ('i',) ('i',)) -/
def f_X9_readTwo (rec : TX → Option (TX)) (M : TX) (x1 : Int32) (x2 : Int32) : Option (TX) := (f_X9_opensOne M x1).bind fun q1 => (f_X9_sign q1 (91 : Int32)).bind fun q2 => (rec q2).bind fun q3 => (f_X9_sign q3 (44 : Int32)).bind fun q4 => (rec q4).bind fun q5 => (f_X9_sign q5 (93 : Int32)).bind fun q6 => (f_X9_emit (u2 q6 0 7 ((q6 0 7) - (1 : Int32))) x2 (0 : Int32)).bind fun q7 => some q7
section
variable {G : GP} {l : Launch}
set_option maxRecDepth 20000 in
set_option maxHeartbeats 2000000 in
theorem c_X9_readTwo {rec : TX → Option (TX)} {d : Nat} (hrec : ∀ {X M : TX} {L : TL} {ro : TX}, rec M = some ro → CTv G l yX9_readSum cX9_readSum 2 none (10 + 10 * d) (266 + 266 * d) [.ref (gA G (41 + 0))] X M L X ro L)  {X M : TX} {L : TL} {x1 : Int32} {x2 : Int32} {ro : TX} (hf : f_X9_readTwo rec M x1 x2 = some ro) : CTv G l yX9_readTwo cX9_readTwo 3 none (11 + 10 * d) (287 + 266 * d) [.ref (gA G (41 + 0)), .int x1, .int x2] X M L X ro L := by
  unfold f_X9_readTwo at hf
  refine ct_of (by decide +kernel) (Nat.le_of_ble_eq_true rfl) (fun p e s m args below meth c H locs ls C hr hlk hw hl => ?_)
  have C : Cx G p s m args c cX9_readTwo 3 RX9 := C
  have hl : lv_has ls 3 [(0, .ref (gA G (41 + 0))), (1, .int x1), (2, .int x2)] := hl
  refine lv_aload_n C.1.1 C.1.2.1 dX9_readTwo_0 rfl (lv_at hl 0 rfl) ?_
  refine lv_iload_n C.1.1 C.1.2.1 dX9_readTwo_1 rfl (lv_at hl 1 rfl) ?_
  obtain ⟨q1, h1, hf⟩ := o_bind hf
  refine aft_v hw (run_VM C hw clX9_245 (As := [.int x1]) (rest := []) oM_0 (c_X9_opensOne h1) rfl hl.1 rfl ⟨(by show 1 + 1 ≤ 11 + 10 * d; omega), (by show 8 + (2 + 11) + 22 ≤ 287 + 266 * d; omega)⟩ ⟨Nat.zero_le _, Nat.zero_le _⟩ rfl (Nat.le_of_ble_eq_true rfl) dX9_readTwo_2) (fun H locs hw => ?_)
  refine lv_aload_n C.1.1 C.1.2.1 dX9_readTwo_5 rfl (lv_at hl 0 rfl) ?_
  refine lv_bipush (v := (91 : Int32)) C.1.1 C.1.2.1 dX9_readTwo_6 rfl ?_
  obtain ⟨q2, h2, hf⟩ := o_bind hf
  refine aft_v hw (run_VM C hw clX9_226 (As := [.int (91 : Int32)]) (rest := []) oM_0 (c_X9_sign h2) rfl hl.1 rfl ⟨(by show 1 + 1 ≤ 11 + 10 * d; omega), (by show 8 + (2 + 11) + 22 ≤ 287 + 266 * d; omega)⟩ ⟨Nat.zero_le _, Nat.zero_le _⟩ rfl (Nat.le_of_ble_eq_true rfl) dX9_readTwo_8) (fun H locs hw => ?_)
  refine lv_aload_n C.1.1 C.1.2.1 dX9_readTwo_11 rfl (lv_at hl 0 rfl) ?_
  obtain ⟨q3, h3, hf⟩ := o_bind hf
  refine aft_v hw (run_VM C hw clX9_248 (As := []) (rest := []) oM_0 (hrec h3) rfl hl.1 rfl ⟨(by show (10 + 10 * d) + 1 ≤ 11 + 10 * d; omega), (by show 8 + (2 + 11) + (266 + 266 * d) ≤ 287 + 266 * d; omega)⟩ ⟨Nat.zero_le _, Nat.zero_le _⟩ rfl (Nat.le_of_ble_eq_true rfl) dX9_readTwo_12) (fun H locs hw => ?_)
  refine lv_aload_n C.1.1 C.1.2.1 dX9_readTwo_15 rfl (lv_at hl 0 rfl) ?_
  refine lv_bipush (v := (44 : Int32)) C.1.1 C.1.2.1 dX9_readTwo_16 rfl ?_
  obtain ⟨q4, h4, hf⟩ := o_bind hf
  refine aft_v hw (run_VM C hw clX9_226 (As := [.int (44 : Int32)]) (rest := []) oM_0 (c_X9_sign h4) rfl hl.1 rfl ⟨(by show 1 + 1 ≤ 11 + 10 * d; omega), (by show 8 + (2 + 11) + 22 ≤ 287 + 266 * d; omega)⟩ ⟨Nat.zero_le _, Nat.zero_le _⟩ rfl (Nat.le_of_ble_eq_true rfl) dX9_readTwo_18) (fun H locs hw => ?_)
  refine lv_aload_n C.1.1 C.1.2.1 dX9_readTwo_21 rfl (lv_at hl 0 rfl) ?_
  obtain ⟨q5, h5, hf⟩ := o_bind hf
  refine aft_v hw (run_VM C hw clX9_248 (As := []) (rest := []) oM_0 (hrec h5) rfl hl.1 rfl ⟨(by show (10 + 10 * d) + 1 ≤ 11 + 10 * d; omega), (by show 8 + (2 + 11) + (266 + 266 * d) ≤ 287 + 266 * d; omega)⟩ ⟨Nat.zero_le _, Nat.zero_le _⟩ rfl (Nat.le_of_ble_eq_true rfl) dX9_readTwo_22) (fun H locs hw => ?_)
  refine lv_aload_n C.1.1 C.1.2.1 dX9_readTwo_25 rfl (lv_at hl 0 rfl) ?_
  refine lv_bipush (v := (93 : Int32)) C.1.1 C.1.2.1 dX9_readTwo_26 rfl ?_
  obtain ⟨q6, h6, hf⟩ := o_bind hf
  refine aft_v hw (run_VM C hw clX9_226 (As := [.int (93 : Int32)]) (rest := []) oM_0 (c_X9_sign h6) rfl hl.1 rfl ⟨(by show 1 + 1 ≤ 11 + 10 * d; omega), (by show 8 + (2 + 11) + 22 ≤ 287 + 266 * d; omega)⟩ ⟨Nat.zero_le _, Nat.zero_le _⟩ rfl (Nat.le_of_ble_eq_true rfl) dX9_readTwo_28) (fun H locs hw => ?_)
  refine lv_aload_n C.1.1 C.1.2.1 dX9_readTwo_31 rfl (lv_at hl 0 rfl) ?_
  refine lv_dup C.1.1 C.1.2.1 dX9_readTwo_32 rfl ?_
  refine m_get C hw iM_0_7 flX9_145 dX9_readTwo_33 ?_
  refine lv_iconst (v := (1 : Int32)) C.1.1 C.1.2.1 dX9_readTwo_36 rfl ?_
  refine lv_isub C.1.1 C.1.2.1 dX9_readTwo_37 ?_
  refine m_put C hw iM_0_7 flX9_145 dX9_readTwo_38 (fun H locs hw => ?_)
  refine lv_aload_n C.1.1 C.1.2.1 dX9_readTwo_41 rfl (lv_at hl 0 rfl) ?_
  refine lv_iload_n C.1.1 C.1.2.1 dX9_readTwo_42 rfl (lv_at hl 2 rfl) ?_
  refine lv_iconst (v := (0 : Int32)) C.1.1 C.1.2.1 dX9_readTwo_43 rfl ?_
  obtain ⟨q7, h7, hf⟩ := o_bind hf
  refine aft_v hw (run_VM C hw clX9_239 (As := [.int x2, .int (0 : Int32)]) (rest := []) oM_0 (c_X9_emit h7) rfl hl.1 rfl ⟨(by show 1 + 1 ≤ 11 + 10 * d; omega), (by show 8 + (3 + 11) + 20 ≤ 287 + 266 * d; omega)⟩ ⟨Nat.zero_le _, Nat.zero_le _⟩ rfl (Nat.le_of_ble_eq_true rfl) dX9_readTwo_44) (fun H locs hw => ?_)
  obtain rfl := Option.some.inj hf
  exact ret_v C hr hlk hw dX9_readTwo_47
end
/-! WinnerDrawsModel.readUnit()V (('o', 'M', 0)) -/
def f_X9_readUnit (rec : TX → Option (TX)) (M : TX) : Option (TX) := (f_X9_fine M).bind fun q1 => if q1 = 0 then (some M) else ((f_X9_here M).bind fun q3 => if q3.2 = (40 : Int32) then ((f_X9_opensOne q3.1 (1 : Int32)).bind fun q29 => (rec q29).bind fun q30 => (f_X9_sign q30 (41 : Int32)).bind fun q31 => some (u2 q31 0 7 ((q31 0 7) - (1 : Int32)))) else ((f_X9_here q3.1).bind fun q5 => (f_X9_isDigit q5.2).bind fun q6 => if q6 = 0 then ((f_X9_word q5.1).bind fun q8 => (f_X9_of 4).bind fun q9 => if q8.2 = q9 then ((f_X9_readTwo rec q8.1 (5 : Int32) (6 : Int32)).bind fun q26 => some q26) else ((f_X9_word q8.1).bind fun q11 => (f_X9_of 6).bind fun q12 => if q11.2 = q12 then ((f_X9_readTwo rec q11.1 (4 : Int32) (7 : Int32)).bind fun q25 => some q25) else ((f_X9_factHere q11.1).bind fun q14 => if q14.2 = (-1 : Int32) then ((f_X9_wrong q14.1 (1 : Int32) (q14.1 0 4)).bind fun q20 => (f_X9_fine q20).bind fun q21 => if q21 = 0 then (some q20) else ((f_X9_pass q20).bind fun q23 => (f_X9_emit q23 (1 : Int32) q14.2).bind fun q24 => some q24)) else ((f_X9_fine q14.1).bind fun q16 => if q16 = 0 then (some q14.1) else ((f_X9_pass q14.1).bind fun q18 => (f_X9_emit q18 (1 : Int32) q14.2).bind fun q19 => some q19))))) else ((f_X9_readNumber q5.1 (0 : Int32) (999 : Int32)).bind fun q27 => (f_X9_emit q27.1 (0 : Int32) q27.2).bind fun q28 => some q28)))
section
variable {G : GP} {l : Launch}
set_option maxRecDepth 20000 in
set_option maxHeartbeats 2000000 in
theorem c_X9_readUnit {rec : TX → Option (TX)} {d : Nat} (hrec : ∀ {X M : TX} {L : TL} {ro : TX}, rec M = some ro → CTv G l yX9_readSum cX9_readSum 2 none (10 + 10 * d) (266 + 266 * d) [.ref (gA G (41 + 0))] X M L X ro L)  {X M : TX} {L : TL}  {ro : TX} (hf : f_X9_readUnit rec M = some ro) : CTv G l yX9_readUnit cX9_readUnit 2 none (12 + 10 * d) (309 + 266 * d) [.ref (gA G (41 + 0))] X M L X ro L := by
  unfold f_X9_readUnit at hf
  refine ct_of (by decide +kernel) (Nat.le_of_ble_eq_true rfl) (fun p e s m args below meth c H locs ls C hr hlk hw hl => ?_)
  have C : Cx G p s m args c cX9_readUnit 2 RX9 := C
  have hl : lv_has ls 2 [(0, .ref (gA G (41 + 0)))] := hl
  refine lv_aload_n C.1.1 C.1.2.1 dX9_readUnit_0 rfl (lv_at hl 0 rfl) ?_
  obtain ⟨q1, h1, hf⟩ := o_bind hf
  refine aft_i hw (run_VM C hw clX9_134 (As := []) (rest := []) oM_0 (c_X9_fine h1) rfl hl.1 rfl ⟨(by show 0 + 1 ≤ 12 + 10 * d; omega), (by show 8 + (1 + 11) + 0 ≤ 309 + 266 * d; omega)⟩ ⟨Nat.zero_le _, Nat.zero_le _⟩ rfl (Nat.le_of_ble_eq_true rfl) dX9_readUnit_1) (fun H locs hw => ?_)
  refine lv_if_ne (tgt := 8) C.1.1 C.1.2.1 dX9_readUnit_4 (by decide) (fun c2 => ?_) (fun c2 => ?_)
  · have hf := o_f hf c2
    refine lv_aload_n C.1.1 C.1.2.1 dX9_readUnit_8 rfl (lv_at hl 0 rfl) ?_
    obtain ⟨q3, h3, hf⟩ := o_bind hf
    refine aft_i hw (run_VM C hw clX9_117 (As := []) (rest := []) oM_0 (c_X9_here h3) rfl hl.1 rfl ⟨(by show 0 + 1 ≤ 12 + 10 * d; omega), (by show 8 + (1 + 11) + 0 ≤ 309 + 266 * d; omega)⟩ ⟨Nat.zero_le _, Nat.zero_le _⟩ rfl (Nat.le_of_ble_eq_true rfl) dX9_readUnit_9) (fun H locs hw => ?_)
    refine lv_bipush (v := (40 : Int32)) C.1.1 C.1.2.1 dX9_readUnit_12 rfl ?_
    refine lv_icmp_ne (tgt := 45) C.1.1 C.1.2.1 dX9_readUnit_14 (by decide) (fun c4 => ?_) (fun c4 => ?_)
    · have hf := o_f hf c4
      refine lv_aload_n C.1.1 C.1.2.1 dX9_readUnit_45 rfl (lv_at hl 0 rfl) ?_
      obtain ⟨q5, h5, hf⟩ := o_bind hf
      refine aft_i hw (run_VM C hw clX9_117 (As := []) (rest := []) oM_0 (c_X9_here h5) rfl hl.1 rfl ⟨(by show 0 + 1 ≤ 12 + 10 * d; omega), (by show 8 + (1 + 11) + 0 ≤ 309 + 266 * d; omega)⟩ ⟨Nat.zero_le _, Nat.zero_le _⟩ rfl (Nat.le_of_ble_eq_true rfl) dX9_readUnit_46) (fun H locs hw => ?_)
      obtain ⟨q6, h6, hf⟩ := o_bind hf
      refine aft_i hw (run_S C hw clX9_138 (As := [.int q5.2]) (rest := []) (c_X9_isDigit h6) hl.1 rfl ⟨(by show 0 + 1 ≤ 12 + 10 * d; omega), (by show 8 + (1 + 11) + 0 ≤ 309 + 266 * d; omega)⟩ ⟨Nat.zero_le _, Nat.zero_le _⟩ rfl (Nat.le_of_ble_eq_true rfl) dX9_readUnit_49) (fun H locs hw => ?_)
      refine lv_if_eq (tgt := 71) C.1.1 C.1.2.1 dX9_readUnit_52 (by decide) (fun c7 => ?_) (fun c7 => ?_)
      · have hf := o_t hf c7
        refine lv_aload_n C.1.1 C.1.2.1 dX9_readUnit_71 rfl (lv_at hl 0 rfl) ?_
        obtain ⟨q8, h8, hf⟩ := o_bind hf
        refine aft_i hw (run_VM C hw clX9_211 (As := []) (rest := []) oM_0 (c_X9_word h8) rfl hl.1 rfl ⟨(by show 1 + 1 ≤ 12 + 10 * d; omega), (by show 8 + (4 + 11) + 20 ≤ 309 + 266 * d; omega)⟩ ⟨Nat.zero_le _, Nat.zero_le _⟩ rfl (Nat.le_of_ble_eq_true rfl) dX9_readUnit_72) (fun H locs hw => ?_)
        refine x_ldcSW C (i := 4) (tx := "least") (List.mem_of_getElem? (i := 30) rfl) dX9_readUnit_75 ?_
        obtain ⟨q9, h9, hf⟩ := o_bind hf
        refine aft_i hw (run_S C hw clX9_186 (As := [.ref (gK G 4)]) (rest := [.int q8.2]) (c_X9_of (by decide) h9) hl.1 rfl ⟨(by show 6 + 1 ≤ 12 + 10 * d; omega), (by show 8 + (3 + 11) + 181 ≤ 309 + 266 * d; omega)⟩ ⟨Nat.zero_le _, Nat.zero_le _⟩ rfl (Nat.le_of_ble_eq_true rfl) dX9_readUnit_78) (fun H locs hw => ?_)
        refine lv_icmp_ne (tgt := 94) C.1.1 C.1.2.1 dX9_readUnit_81 (by decide) (fun c10 => ?_) (fun c10 => ?_)
        · have hf := o_f hf c10
          refine lv_aload_n C.1.1 C.1.2.1 dX9_readUnit_94 rfl (lv_at hl 0 rfl) ?_
          obtain ⟨q11, h11, hf⟩ := o_bind hf
          refine aft_i hw (run_VM C hw clX9_211 (As := []) (rest := []) oM_0 (c_X9_word h11) rfl hl.1 rfl ⟨(by show 1 + 1 ≤ 12 + 10 * d; omega), (by show 8 + (4 + 11) + 20 ≤ 309 + 266 * d; omega)⟩ ⟨Nat.zero_le _, Nat.zero_le _⟩ rfl (Nat.le_of_ble_eq_true rfl) dX9_readUnit_95) (fun H locs hw => ?_)
          refine x_ldcSW C (i := 6) (tx := "most") (List.mem_of_getElem? (i := 31) rfl) dX9_readUnit_98 ?_
          obtain ⟨q12, h12, hf⟩ := o_bind hf
          refine aft_i hw (run_S C hw clX9_186 (As := [.ref (gK G 6)]) (rest := [.int q11.2]) (c_X9_of (by decide) h12) hl.1 rfl ⟨(by show 6 + 1 ≤ 12 + 10 * d; omega), (by show 8 + (3 + 11) + 181 ≤ 309 + 266 * d; omega)⟩ ⟨Nat.zero_le _, Nat.zero_le _⟩ rfl (Nat.le_of_ble_eq_true rfl) dX9_readUnit_101) (fun H locs hw => ?_)
          refine lv_icmp_ne (tgt := 117) C.1.1 C.1.2.1 dX9_readUnit_104 (by decide) (fun c13 => ?_) (fun c13 => ?_)
          · have hf := o_f hf c13
            refine lv_aload_n C.1.1 C.1.2.1 dX9_readUnit_117 rfl (lv_at hl 0 rfl) ?_
            obtain ⟨q14, h14, hf⟩ := o_bind hf
            refine aft_i hw (run_VM C hw clX9_271 (As := []) (rest := []) oM_0 (c_X9_factHere h14) rfl hl.1 rfl ⟨(by show 7 + 1 ≤ 12 + 10 * d; omega), (by show 8 + (2 + 11) + 203 ≤ 309 + 266 * d; omega)⟩ ⟨Nat.zero_le _, Nat.zero_le _⟩ rfl (Nat.le_of_ble_eq_true rfl) dX9_readUnit_118) (fun H locs hw => ?_)
            refine lv_istore_n (lv' := [(1, .int q14.2), (0, .ref (gA G (41 + 0)))]) C.1.1 C.1.2.1 dX9_readUnit_121 rfl hl (by decide) rfl (fun ls hl => ?_)
            refine lv_iload_n C.1.1 C.1.2.1 dX9_readUnit_122 rfl (lv_at hl 0 rfl) ?_
            refine lv_iconst (v := (-1 : Int32)) C.1.1 C.1.2.1 dX9_readUnit_123 rfl ?_
            refine lv_icmp_ne (tgt := 136) C.1.1 C.1.2.1 dX9_readUnit_124 (by decide) (fun c15 => ?_) (fun c15 => ?_)
            · have hf := o_f hf c15
              refine lv_aload_n C.1.1 C.1.2.1 dX9_readUnit_136 rfl (lv_at hl 1 rfl) ?_
              obtain ⟨q16, h16, hf⟩ := o_bind hf
              refine aft_i hw (run_VM C hw clX9_134 (As := []) (rest := []) oM_0 (c_X9_fine h16) rfl hl.1 rfl ⟨(by show 0 + 1 ≤ 12 + 10 * d; omega), (by show 8 + (1 + 11) + 0 ≤ 309 + 266 * d; omega)⟩ ⟨Nat.zero_le _, Nat.zero_le _⟩ rfl (Nat.le_of_ble_eq_true rfl) dX9_readUnit_137) (fun H locs hw => ?_)
              refine lv_if_ne (tgt := 144) C.1.1 C.1.2.1 dX9_readUnit_140 (by decide) (fun c17 => ?_) (fun c17 => ?_)
              · have hf := o_f hf c17
                refine lv_aload_n C.1.1 C.1.2.1 dX9_readUnit_144 rfl (lv_at hl 1 rfl) ?_
                obtain ⟨q18, h18, hf⟩ := o_bind hf
                refine aft_v hw (run_VM C hw clX9_220 (As := []) (rest := []) oM_0 (c_X9_pass h18) rfl hl.1 rfl ⟨(by show 1 + 1 ≤ 12 + 10 * d; omega), (by show 8 + (1 + 11) + 20 ≤ 309 + 266 * d; omega)⟩ ⟨Nat.zero_le _, Nat.zero_le _⟩ rfl (Nat.le_of_ble_eq_true rfl) dX9_readUnit_145) (fun H locs hw => ?_)
                refine lv_aload_n C.1.1 C.1.2.1 dX9_readUnit_148 rfl (lv_at hl 1 rfl) ?_
                refine lv_iconst (v := (1 : Int32)) C.1.1 C.1.2.1 dX9_readUnit_149 rfl ?_
                refine lv_iload_n C.1.1 C.1.2.1 dX9_readUnit_150 rfl (lv_at hl 0 rfl) ?_
                obtain ⟨q19, h19, hf⟩ := o_bind hf
                refine aft_v hw (run_VM C hw clX9_239 (As := [.int (1 : Int32), .int q14.2]) (rest := []) oM_0 (c_X9_emit h19) rfl hl.1 rfl ⟨(by show 1 + 1 ≤ 12 + 10 * d; omega), (by show 8 + (3 + 11) + 20 ≤ 309 + 266 * d; omega)⟩ ⟨Nat.zero_le _, Nat.zero_le _⟩ rfl (Nat.le_of_ble_eq_true rfl) dX9_readUnit_151) (fun H locs hw => ?_)
                obtain rfl := Option.some.inj hf
                exact ret_v C hr hlk hw dX9_readUnit_154
              · have hf := o_t hf c17
                obtain rfl := Option.some.inj hf
                exact ret_v C hr hlk hw dX9_readUnit_143
            · have hf := o_t hf c15
              refine lv_aload_n C.1.1 C.1.2.1 dX9_readUnit_127 rfl (lv_at hl 1 rfl) ?_
              refine lv_iconst (v := (1 : Int32)) C.1.1 C.1.2.1 dX9_readUnit_128 rfl ?_
              refine lv_aload_n C.1.1 C.1.2.1 dX9_readUnit_129 rfl (lv_at hl 1 rfl) ?_
              refine m_get C hw iM_0_4 flX9_111 dX9_readUnit_130 ?_
              obtain ⟨q20, h20, hf⟩ := o_bind hf
              refine aft_v hw (run_VM C hw clX9_141 (As := [.int (1 : Int32), .int (q14.1 0 4)]) (rest := []) oM_0 (c_X9_wrong h20) rfl hl.1 rfl ⟨(by show 0 + 1 ≤ 12 + 10 * d; omega), (by show 8 + (3 + 11) + 0 ≤ 309 + 266 * d; omega)⟩ ⟨Nat.zero_le _, Nat.zero_le _⟩ rfl (Nat.le_of_ble_eq_true rfl) dX9_readUnit_133) (fun H locs hw => ?_)
              refine lv_aload_n C.1.1 C.1.2.1 dX9_readUnit_136 rfl (lv_at hl 1 rfl) ?_
              obtain ⟨q21, h21, hf⟩ := o_bind hf
              refine aft_i hw (run_VM C hw clX9_134 (As := []) (rest := []) oM_0 (c_X9_fine h21) rfl hl.1 rfl ⟨(by show 0 + 1 ≤ 12 + 10 * d; omega), (by show 8 + (1 + 11) + 0 ≤ 309 + 266 * d; omega)⟩ ⟨Nat.zero_le _, Nat.zero_le _⟩ rfl (Nat.le_of_ble_eq_true rfl) dX9_readUnit_137) (fun H locs hw => ?_)
              refine lv_if_ne (tgt := 144) C.1.1 C.1.2.1 dX9_readUnit_140 (by decide) (fun c22 => ?_) (fun c22 => ?_)
              · have hf := o_f hf c22
                refine lv_aload_n C.1.1 C.1.2.1 dX9_readUnit_144 rfl (lv_at hl 1 rfl) ?_
                obtain ⟨q23, h23, hf⟩ := o_bind hf
                refine aft_v hw (run_VM C hw clX9_220 (As := []) (rest := []) oM_0 (c_X9_pass h23) rfl hl.1 rfl ⟨(by show 1 + 1 ≤ 12 + 10 * d; omega), (by show 8 + (1 + 11) + 20 ≤ 309 + 266 * d; omega)⟩ ⟨Nat.zero_le _, Nat.zero_le _⟩ rfl (Nat.le_of_ble_eq_true rfl) dX9_readUnit_145) (fun H locs hw => ?_)
                refine lv_aload_n C.1.1 C.1.2.1 dX9_readUnit_148 rfl (lv_at hl 1 rfl) ?_
                refine lv_iconst (v := (1 : Int32)) C.1.1 C.1.2.1 dX9_readUnit_149 rfl ?_
                refine lv_iload_n C.1.1 C.1.2.1 dX9_readUnit_150 rfl (lv_at hl 0 rfl) ?_
                obtain ⟨q24, h24, hf⟩ := o_bind hf
                refine aft_v hw (run_VM C hw clX9_239 (As := [.int (1 : Int32), .int q14.2]) (rest := []) oM_0 (c_X9_emit h24) rfl hl.1 rfl ⟨(by show 1 + 1 ≤ 12 + 10 * d; omega), (by show 8 + (3 + 11) + 20 ≤ 309 + 266 * d; omega)⟩ ⟨Nat.zero_le _, Nat.zero_le _⟩ rfl (Nat.le_of_ble_eq_true rfl) dX9_readUnit_151) (fun H locs hw => ?_)
                obtain rfl := Option.some.inj hf
                exact ret_v C hr hlk hw dX9_readUnit_154
              · have hf := o_t hf c22
                obtain rfl := Option.some.inj hf
                exact ret_v C hr hlk hw dX9_readUnit_143
          · have hf := o_t hf c13
            refine lv_aload_n C.1.1 C.1.2.1 dX9_readUnit_107 rfl (lv_at hl 0 rfl) ?_
            refine lv_iconst (v := (4 : Int32)) C.1.1 C.1.2.1 dX9_readUnit_108 rfl ?_
            refine lv_bipush (v := (7 : Int32)) C.1.1 C.1.2.1 dX9_readUnit_109 rfl ?_
            obtain ⟨q25, h25, hf⟩ := o_bind hf
            refine aft_v hw (run_VM C hw clX9_266 (As := [.int (4 : Int32), .int (7 : Int32)]) (rest := []) oM_0 (c_X9_readTwo hrec h25) rfl hl.1 rfl ⟨(by show (11 + 10 * d) + 1 ≤ 12 + 10 * d; omega), (by show 8 + (3 + 11) + (287 + 266 * d) ≤ 309 + 266 * d; omega)⟩ ⟨Nat.zero_le _, Nat.zero_le _⟩ rfl (Nat.le_of_ble_eq_true rfl) dX9_readUnit_111) (fun H locs hw => ?_)
            refine lv_goto (tgt := 154) C.1.1 C.1.2.1 dX9_readUnit_114 (by decide) ?_
            obtain rfl := Option.some.inj hf
            exact ret_v C hr hlk hw dX9_readUnit_154
        · have hf := o_t hf c10
          refine lv_aload_n C.1.1 C.1.2.1 dX9_readUnit_84 rfl (lv_at hl 0 rfl) ?_
          refine lv_iconst (v := (5 : Int32)) C.1.1 C.1.2.1 dX9_readUnit_85 rfl ?_
          refine lv_bipush (v := (6 : Int32)) C.1.1 C.1.2.1 dX9_readUnit_86 rfl ?_
          obtain ⟨q26, h26, hf⟩ := o_bind hf
          refine aft_v hw (run_VM C hw clX9_266 (As := [.int (5 : Int32), .int (6 : Int32)]) (rest := []) oM_0 (c_X9_readTwo hrec h26) rfl hl.1 rfl ⟨(by show (11 + 10 * d) + 1 ≤ 12 + 10 * d; omega), (by show 8 + (3 + 11) + (287 + 266 * d) ≤ 309 + 266 * d; omega)⟩ ⟨Nat.zero_le _, Nat.zero_le _⟩ rfl (Nat.le_of_ble_eq_true rfl) dX9_readUnit_88) (fun H locs hw => ?_)
          refine lv_goto (tgt := 154) C.1.1 C.1.2.1 dX9_readUnit_91 (by decide) ?_
          obtain rfl := Option.some.inj hf
          exact ret_v C hr hlk hw dX9_readUnit_154
      · have hf := o_f hf c7
        refine lv_aload_n C.1.1 C.1.2.1 dX9_readUnit_55 rfl (lv_at hl 0 rfl) ?_
        refine lv_iconst (v := (0 : Int32)) C.1.1 C.1.2.1 dX9_readUnit_56 rfl ?_
        refine lv_aload_n C.1.1 C.1.2.1 dX9_readUnit_57 rfl (lv_at hl 0 rfl) ?_
        refine lv_iconst (v := (0 : Int32)) C.1.1 C.1.2.1 dX9_readUnit_58 rfl ?_
        refine lv_sipush (v := (999 : Int32)) C.1.1 C.1.2.1 dX9_readUnit_59 rfl ?_
        obtain ⟨q27, h27, hf⟩ := o_bind hf
        refine aft_i hw (run_VM C hw clX9_193 (As := [.int (0 : Int32), .int (999 : Int32)]) (rest := [.int (0 : Int32), .ref (gA G (41 + 0))]) oM_0 (c_X9_readNumber h27) rfl hl.1 rfl ⟨(by show 1 + 1 ≤ 12 + 10 * d; omega), (by show 8 + (6 + 11) + 22 ≤ 309 + 266 * d; omega)⟩ ⟨Nat.zero_le _, Nat.zero_le _⟩ rfl (Nat.le_of_ble_eq_true rfl) dX9_readUnit_62) (fun H locs hw => ?_)
        obtain ⟨q28, h28, hf⟩ := o_bind hf
        refine aft_v hw (run_VM C hw clX9_239 (As := [.int (0 : Int32), .int q27.2]) (rest := []) oM_0 (c_X9_emit h28) rfl hl.1 rfl ⟨(by show 1 + 1 ≤ 12 + 10 * d; omega), (by show 8 + (3 + 11) + 20 ≤ 309 + 266 * d; omega)⟩ ⟨Nat.zero_le _, Nat.zero_le _⟩ rfl (Nat.le_of_ble_eq_true rfl) dX9_readUnit_65) (fun H locs hw => ?_)
        refine lv_goto (tgt := 154) C.1.1 C.1.2.1 dX9_readUnit_68 (by decide) ?_
        obtain rfl := Option.some.inj hf
        exact ret_v C hr hlk hw dX9_readUnit_154
    · have hf := o_t hf c4
      refine lv_aload_n C.1.1 C.1.2.1 dX9_readUnit_17 rfl (lv_at hl 0 rfl) ?_
      refine lv_iconst (v := (1 : Int32)) C.1.1 C.1.2.1 dX9_readUnit_18 rfl ?_
      obtain ⟨q29, h29, hf⟩ := o_bind hf
      refine aft_v hw (run_VM C hw clX9_245 (As := [.int (1 : Int32)]) (rest := []) oM_0 (c_X9_opensOne h29) rfl hl.1 rfl ⟨(by show 1 + 1 ≤ 12 + 10 * d; omega), (by show 8 + (2 + 11) + 22 ≤ 309 + 266 * d; omega)⟩ ⟨Nat.zero_le _, Nat.zero_le _⟩ rfl (Nat.le_of_ble_eq_true rfl) dX9_readUnit_19) (fun H locs hw => ?_)
      refine lv_aload_n C.1.1 C.1.2.1 dX9_readUnit_22 rfl (lv_at hl 0 rfl) ?_
      obtain ⟨q30, h30, hf⟩ := o_bind hf
      refine aft_v hw (run_VM C hw clX9_248 (As := []) (rest := []) oM_0 (hrec h30) rfl hl.1 rfl ⟨(by show (10 + 10 * d) + 1 ≤ 12 + 10 * d; omega), (by show 8 + (2 + 11) + (266 + 266 * d) ≤ 309 + 266 * d; omega)⟩ ⟨Nat.zero_le _, Nat.zero_le _⟩ rfl (Nat.le_of_ble_eq_true rfl) dX9_readUnit_23) (fun H locs hw => ?_)
      refine lv_aload_n C.1.1 C.1.2.1 dX9_readUnit_26 rfl (lv_at hl 0 rfl) ?_
      refine lv_bipush (v := (41 : Int32)) C.1.1 C.1.2.1 dX9_readUnit_27 rfl ?_
      obtain ⟨q31, h31, hf⟩ := o_bind hf
      refine aft_v hw (run_VM C hw clX9_226 (As := [.int (41 : Int32)]) (rest := []) oM_0 (c_X9_sign h31) rfl hl.1 rfl ⟨(by show 1 + 1 ≤ 12 + 10 * d; omega), (by show 8 + (2 + 11) + 22 ≤ 309 + 266 * d; omega)⟩ ⟨Nat.zero_le _, Nat.zero_le _⟩ rfl (Nat.le_of_ble_eq_true rfl) dX9_readUnit_29) (fun H locs hw => ?_)
      refine lv_aload_n C.1.1 C.1.2.1 dX9_readUnit_32 rfl (lv_at hl 0 rfl) ?_
      refine lv_dup C.1.1 C.1.2.1 dX9_readUnit_33 rfl ?_
      refine m_get C hw iM_0_7 flX9_145 dX9_readUnit_34 ?_
      refine lv_iconst (v := (1 : Int32)) C.1.1 C.1.2.1 dX9_readUnit_37 rfl ?_
      refine lv_isub C.1.1 C.1.2.1 dX9_readUnit_38 ?_
      refine m_put C hw iM_0_7 flX9_145 dX9_readUnit_39 (fun H locs hw => ?_)
      refine lv_goto (tgt := 154) C.1.1 C.1.2.1 dX9_readUnit_42 (by decide) ?_
      obtain rfl := Option.some.inj hf
      exact ret_v C hr hlk hw dX9_readUnit_154
  · have hf := o_t hf c2
    obtain rfl := Option.some.inj hf
    exact ret_v C hr hlk hw dX9_readUnit_7
end
/-! WinnerDrawsModel.readProduct()V (('o', 'M', 0)) -/
def B_X9_readProduct_38 (rec : TX → Option (TX)) (k_4 : TX → Option (TX)) (M : TX) : Option (TX) := (f_X9_here M).bind fun q6 => if q6.2 = (42 : Int32) then ((f_X9_readUnit rec (u2 q6.1 0 4 ((q6.1 0 4) + (1 : Int32)))).bind fun q14 => (f_X9_emit q14 (4 : Int32) (0 : Int32)).bind fun q15 => k_4 q15) else ((f_X9_here q6.1).bind fun q8 => if q8.2 = (47 : Int32) then ((f_X9_readUnit rec (u2 q8.1 0 4 ((q8.1 0 4) + (1 : Int32)))).bind fun q12 => (f_X9_emit q12 (5 : Int32) (0 : Int32)).bind fun q13 => k_4 q13) else ((f_X9_readUnit rec (u2 q8.1 0 4 ((q8.1 0 4) + (1 : Int32)))).bind fun q10 => (f_X9_emit q10 (8 : Int32) (0 : Int32)).bind fun q11 => k_4 q11))
def L_X9_readProduct_4 (rec : TX → Option (TX)) : Nat → TX → Option (TX)
  | 0 => fun _ => none
  | n + 1 => fun M => (f_X9_fine M).bind fun q2 => if q2 = 0 then (some M) else ((f_X9_here M).bind fun q4 => if q4.2 = (42 : Int32) then (B_X9_readProduct_38 rec (L_X9_readProduct_4 rec n) q4.1) else ((f_X9_here q4.1).bind fun q16 => if q16.2 = (47 : Int32) then (B_X9_readProduct_38 rec (L_X9_readProduct_4 rec n) q16.1) else ((f_X9_here q16.1).bind fun q18 => if q18.2 = (37 : Int32) then (B_X9_readProduct_38 rec (L_X9_readProduct_4 rec n) q18.1) else (some q18.1))))
def f_X9_readProduct (rec : TX → Option (TX)) (M : TX) : Option (TX) := (f_X9_readUnit rec M).bind fun q1 => L_X9_readProduct_4 rec FU q1
section
variable {G : GP} {l : Launch}
set_option maxRecDepth 20000 in
set_option maxHeartbeats 2000000 in
theorem wB_X9_readProduct_38 {rec : TX → Option (TX)} {d : Nat} (hrec : ∀ {X M : TX} {L : TL} {ro : TX}, rec M = some ro → CTv G l yX9_readSum cX9_readSum 2 none (10 + 10 * d) (266 + 266 * d) [.ref (gA G (41 + 0))] X M L X ro L) {p : Program} {e : Env} {s : State} {m : MethodId} {args : Array Value} {below : List Frame} {meth : Method} {c : Code} (C : Cx G p s m args c cX9_readProduct 2 RX9) (hr : meth.sig.returnType = none) (hlk : meth.locks = false) {ro : TX} {k_4 : TX → Option (TX)} (hk_4 : ∀ (X : TX) (M : TX) (L : TL)  (H : Heap) (locs : List Loc) (ls : Array Slot), Wh G s X M L H locs → lv_has ls 2 [(0, .ref (gA G (41 + 0)))] → k_4 M = some ro → W p l e (rz (13 + 10 * d) (330 + 266 * d)) s m args below meth c H locs 0 0 (MQ below (Dv G X ro L) args s 0 0 (AB G)) (F0 m 4 ls [])) : ∀ (X : TX) (M : TX) (L : TL)  (H : Heap) (locs : List Loc) (ls : Array Slot), Wh G s X M L H locs → lv_has ls 2 [(0, .ref (gA G (41 + 0)))] → B_X9_readProduct_38 rec k_4 M = some ro → W p l e (rz (13 + 10 * d) (330 + 266 * d)) s m args below meth c H locs 0 0 (MQ below (Dv G X ro L) args s 0 0 (AB G)) (F0 m 38 ls []) := by
  intro X M L H locs ls hw hl hf
  unfold B_X9_readProduct_38 at hf
  refine lv_aload_n C.1.1 C.1.2.1 dX9_readProduct_38 rfl (lv_at hl 0 rfl) ?_
  obtain ⟨q6, h6, hf⟩ := o_bind hf
  refine aft_i hw (run_VM C hw clX9_117 (As := []) (rest := []) oM_0 (c_X9_here h6) rfl hl.1 rfl ⟨(by show 0 + 1 ≤ 13 + 10 * d; omega), (by show 8 + (1 + 11) + 0 ≤ 330 + 266 * d; omega)⟩ ⟨Nat.zero_le _, Nat.zero_le _⟩ rfl (Nat.le_of_ble_eq_true rfl) dX9_readProduct_39) (fun H locs hw => ?_)
  refine lv_bipush (v := (42 : Int32)) C.1.1 C.1.2.1 dX9_readProduct_42 rfl ?_
  refine lv_icmp_ne (tgt := 51) C.1.1 C.1.2.1 dX9_readProduct_44 (by decide) (fun c7 => ?_) (fun c7 => ?_)
  · have hf := o_f hf c7
    refine lv_aload_n C.1.1 C.1.2.1 dX9_readProduct_51 rfl (lv_at hl 0 rfl) ?_
    obtain ⟨q8, h8, hf⟩ := o_bind hf
    refine aft_i hw (run_VM C hw clX9_117 (As := []) (rest := []) oM_0 (c_X9_here h8) rfl hl.1 rfl ⟨(by show 0 + 1 ≤ 13 + 10 * d; omega), (by show 8 + (1 + 11) + 0 ≤ 330 + 266 * d; omega)⟩ ⟨Nat.zero_le _, Nat.zero_le _⟩ rfl (Nat.le_of_ble_eq_true rfl) dX9_readProduct_52) (fun H locs hw => ?_)
    refine lv_bipush (v := (47 : Int32)) C.1.1 C.1.2.1 dX9_readProduct_55 rfl ?_
    refine lv_icmp_ne (tgt := 64) C.1.1 C.1.2.1 dX9_readProduct_57 (by decide) (fun c9 => ?_) (fun c9 => ?_)
    · have hf := o_f hf c9
      refine lv_bipush (v := (8 : Int32)) C.1.1 C.1.2.1 dX9_readProduct_64 rfl ?_
      refine lv_istore_n (lv' := [(1, .int (8 : Int32)), (0, .ref (gA G (41 + 0)))]) C.1.1 C.1.2.1 dX9_readProduct_66 rfl hl (by decide) rfl (fun ls hl => ?_)
      refine lv_aload_n C.1.1 C.1.2.1 dX9_readProduct_67 rfl (lv_at hl 1 rfl) ?_
      refine lv_dup C.1.1 C.1.2.1 dX9_readProduct_68 rfl ?_
      refine m_get C hw iM_0_4 flX9_111 dX9_readProduct_69 ?_
      refine lv_iconst (v := (1 : Int32)) C.1.1 C.1.2.1 dX9_readProduct_72 rfl ?_
      refine lv_iadd C.1.1 C.1.2.1 dX9_readProduct_73 ?_
      refine m_put C hw iM_0_4 flX9_111 dX9_readProduct_74 (fun H locs hw => ?_)
      refine lv_aload_n C.1.1 C.1.2.1 dX9_readProduct_77 rfl (lv_at hl 1 rfl) ?_
      obtain ⟨q10, h10, hf⟩ := o_bind hf
      refine aft_v hw (run_VM C hw clX9_242 (As := []) (rest := []) oM_0 (c_X9_readUnit hrec h10) rfl hl.1 rfl ⟨(by show (12 + 10 * d) + 1 ≤ 13 + 10 * d; omega), (by show 8 + (2 + 11) + (309 + 266 * d) ≤ 330 + 266 * d; omega)⟩ ⟨Nat.zero_le _, Nat.zero_le _⟩ rfl (Nat.le_of_ble_eq_true rfl) dX9_readProduct_78) (fun H locs hw => ?_)
      refine lv_aload_n C.1.1 C.1.2.1 dX9_readProduct_81 rfl (lv_at hl 1 rfl) ?_
      refine lv_iload_n C.1.1 C.1.2.1 dX9_readProduct_82 rfl (lv_at hl 0 rfl) ?_
      refine lv_iconst (v := (0 : Int32)) C.1.1 C.1.2.1 dX9_readProduct_83 rfl ?_
      obtain ⟨q11, h11, hf⟩ := o_bind hf
      refine aft_v hw (run_VM C hw clX9_239 (As := [.int (8 : Int32), .int (0 : Int32)]) (rest := []) oM_0 (c_X9_emit h11) rfl hl.1 rfl ⟨(by show 1 + 1 ≤ 13 + 10 * d; omega), (by show 8 + (3 + 11) + 20 ≤ 330 + 266 * d; omega)⟩ ⟨Nat.zero_le _, Nat.zero_le _⟩ rfl (Nat.le_of_ble_eq_true rfl) dX9_readProduct_84) (fun H locs hw => ?_)
      refine lv_goto (tgt := 4) C.1.1 C.1.2.1 dX9_readProduct_87 (by decide) ?_
      exact hk_4 X q11 L _ _ _ hw (lv_sub hl [1] rfl) hf
    · have hf := o_t hf c9
      refine lv_iconst (v := (5 : Int32)) C.1.1 C.1.2.1 dX9_readProduct_60 rfl ?_
      refine lv_goto (tgt := 66) C.1.1 C.1.2.1 dX9_readProduct_61 (by decide) ?_
      refine lv_istore_n (lv' := [(1, .int (5 : Int32)), (0, .ref (gA G (41 + 0)))]) C.1.1 C.1.2.1 dX9_readProduct_66 rfl hl (by decide) rfl (fun ls hl => ?_)
      refine lv_aload_n C.1.1 C.1.2.1 dX9_readProduct_67 rfl (lv_at hl 1 rfl) ?_
      refine lv_dup C.1.1 C.1.2.1 dX9_readProduct_68 rfl ?_
      refine m_get C hw iM_0_4 flX9_111 dX9_readProduct_69 ?_
      refine lv_iconst (v := (1 : Int32)) C.1.1 C.1.2.1 dX9_readProduct_72 rfl ?_
      refine lv_iadd C.1.1 C.1.2.1 dX9_readProduct_73 ?_
      refine m_put C hw iM_0_4 flX9_111 dX9_readProduct_74 (fun H locs hw => ?_)
      refine lv_aload_n C.1.1 C.1.2.1 dX9_readProduct_77 rfl (lv_at hl 1 rfl) ?_
      obtain ⟨q12, h12, hf⟩ := o_bind hf
      refine aft_v hw (run_VM C hw clX9_242 (As := []) (rest := []) oM_0 (c_X9_readUnit hrec h12) rfl hl.1 rfl ⟨(by show (12 + 10 * d) + 1 ≤ 13 + 10 * d; omega), (by show 8 + (2 + 11) + (309 + 266 * d) ≤ 330 + 266 * d; omega)⟩ ⟨Nat.zero_le _, Nat.zero_le _⟩ rfl (Nat.le_of_ble_eq_true rfl) dX9_readProduct_78) (fun H locs hw => ?_)
      refine lv_aload_n C.1.1 C.1.2.1 dX9_readProduct_81 rfl (lv_at hl 1 rfl) ?_
      refine lv_iload_n C.1.1 C.1.2.1 dX9_readProduct_82 rfl (lv_at hl 0 rfl) ?_
      refine lv_iconst (v := (0 : Int32)) C.1.1 C.1.2.1 dX9_readProduct_83 rfl ?_
      obtain ⟨q13, h13, hf⟩ := o_bind hf
      refine aft_v hw (run_VM C hw clX9_239 (As := [.int (5 : Int32), .int (0 : Int32)]) (rest := []) oM_0 (c_X9_emit h13) rfl hl.1 rfl ⟨(by show 1 + 1 ≤ 13 + 10 * d; omega), (by show 8 + (3 + 11) + 20 ≤ 330 + 266 * d; omega)⟩ ⟨Nat.zero_le _, Nat.zero_le _⟩ rfl (Nat.le_of_ble_eq_true rfl) dX9_readProduct_84) (fun H locs hw => ?_)
      refine lv_goto (tgt := 4) C.1.1 C.1.2.1 dX9_readProduct_87 (by decide) ?_
      exact hk_4 X q13 L _ _ _ hw (lv_sub hl [1] rfl) hf
  · have hf := o_t hf c7
    refine lv_iconst (v := (4 : Int32)) C.1.1 C.1.2.1 dX9_readProduct_47 rfl ?_
    refine lv_goto (tgt := 66) C.1.1 C.1.2.1 dX9_readProduct_48 (by decide) ?_
    refine lv_istore_n (lv' := [(1, .int (4 : Int32)), (0, .ref (gA G (41 + 0)))]) C.1.1 C.1.2.1 dX9_readProduct_66 rfl hl (by decide) rfl (fun ls hl => ?_)
    refine lv_aload_n C.1.1 C.1.2.1 dX9_readProduct_67 rfl (lv_at hl 1 rfl) ?_
    refine lv_dup C.1.1 C.1.2.1 dX9_readProduct_68 rfl ?_
    refine m_get C hw iM_0_4 flX9_111 dX9_readProduct_69 ?_
    refine lv_iconst (v := (1 : Int32)) C.1.1 C.1.2.1 dX9_readProduct_72 rfl ?_
    refine lv_iadd C.1.1 C.1.2.1 dX9_readProduct_73 ?_
    refine m_put C hw iM_0_4 flX9_111 dX9_readProduct_74 (fun H locs hw => ?_)
    refine lv_aload_n C.1.1 C.1.2.1 dX9_readProduct_77 rfl (lv_at hl 1 rfl) ?_
    obtain ⟨q14, h14, hf⟩ := o_bind hf
    refine aft_v hw (run_VM C hw clX9_242 (As := []) (rest := []) oM_0 (c_X9_readUnit hrec h14) rfl hl.1 rfl ⟨(by show (12 + 10 * d) + 1 ≤ 13 + 10 * d; omega), (by show 8 + (2 + 11) + (309 + 266 * d) ≤ 330 + 266 * d; omega)⟩ ⟨Nat.zero_le _, Nat.zero_le _⟩ rfl (Nat.le_of_ble_eq_true rfl) dX9_readProduct_78) (fun H locs hw => ?_)
    refine lv_aload_n C.1.1 C.1.2.1 dX9_readProduct_81 rfl (lv_at hl 1 rfl) ?_
    refine lv_iload_n C.1.1 C.1.2.1 dX9_readProduct_82 rfl (lv_at hl 0 rfl) ?_
    refine lv_iconst (v := (0 : Int32)) C.1.1 C.1.2.1 dX9_readProduct_83 rfl ?_
    obtain ⟨q15, h15, hf⟩ := o_bind hf
    refine aft_v hw (run_VM C hw clX9_239 (As := [.int (4 : Int32), .int (0 : Int32)]) (rest := []) oM_0 (c_X9_emit h15) rfl hl.1 rfl ⟨(by show 1 + 1 ≤ 13 + 10 * d; omega), (by show 8 + (3 + 11) + 20 ≤ 330 + 266 * d; omega)⟩ ⟨Nat.zero_le _, Nat.zero_le _⟩ rfl (Nat.le_of_ble_eq_true rfl) dX9_readProduct_84) (fun H locs hw => ?_)
    refine lv_goto (tgt := 4) C.1.1 C.1.2.1 dX9_readProduct_87 (by decide) ?_
    exact hk_4 X q15 L _ _ _ hw (lv_sub hl [1] rfl) hf
set_option maxRecDepth 20000 in
set_option maxHeartbeats 2000000 in
theorem wL_X9_readProduct_4 {rec : TX → Option (TX)} {d : Nat} (hrec : ∀ {X M : TX} {L : TL} {ro : TX}, rec M = some ro → CTv G l yX9_readSum cX9_readSum 2 none (10 + 10 * d) (266 + 266 * d) [.ref (gA G (41 + 0))] X M L X ro L) {p : Program} {e : Env} {s : State} {m : MethodId} {args : Array Value} {below : List Frame} {meth : Method} {c : Code} (C : Cx G p s m args c cX9_readProduct 2 RX9) (hr : meth.sig.returnType = none) (hlk : meth.locks = false) {ro : TX} : ∀ (n : Nat), ∀ (X : TX) (M : TX) (L : TL)  (H : Heap) (locs : List Loc) (ls : Array Slot), Wh G s X M L H locs → lv_has ls 2 [(0, .ref (gA G (41 + 0)))] → L_X9_readProduct_4 rec n M = some ro → W p l e (rz (13 + 10 * d) (330 + 266 * d)) s m args below meth c H locs 0 0 (MQ below (Dv G X ro L) args s 0 0 (AB G)) (F0 m 4 ls []) := by
  intro n
  induction n with
  | zero =>
    intro X M L H locs ls hw hl hf
    cases hf
  | succ n hk_4 =>
    intro X M L H locs ls hw hl hf
    rw [L_X9_readProduct_4] at hf
    refine lv_aload_n C.1.1 C.1.2.1 dX9_readProduct_4 rfl (lv_at hl 0 rfl) ?_
    obtain ⟨q2, h2, hf⟩ := o_bind hf
    refine aft_i hw (run_VM C hw clX9_134 (As := []) (rest := []) oM_0 (c_X9_fine h2) rfl hl.1 rfl ⟨(by show 0 + 1 ≤ 13 + 10 * d; omega), (by show 8 + (1 + 11) + 0 ≤ 330 + 266 * d; omega)⟩ ⟨Nat.zero_le _, Nat.zero_le _⟩ rfl (Nat.le_of_ble_eq_true rfl) dX9_readProduct_5) (fun H locs hw => ?_)
    refine lv_if_eq (tgt := 90) C.1.1 C.1.2.1 dX9_readProduct_8 (by decide) (fun c3 => ?_) (fun c3 => ?_)
    · have hf := o_t hf c3
      obtain rfl := Option.some.inj hf
      exact ret_v C hr hlk hw dX9_readProduct_90
    · have hf := o_f hf c3
      refine lv_aload_n C.1.1 C.1.2.1 dX9_readProduct_11 rfl (lv_at hl 0 rfl) ?_
      obtain ⟨q4, h4, hf⟩ := o_bind hf
      refine aft_i hw (run_VM C hw clX9_117 (As := []) (rest := []) oM_0 (c_X9_here h4) rfl hl.1 rfl ⟨(by show 0 + 1 ≤ 13 + 10 * d; omega), (by show 8 + (1 + 11) + 0 ≤ 330 + 266 * d; omega)⟩ ⟨Nat.zero_le _, Nat.zero_le _⟩ rfl (Nat.le_of_ble_eq_true rfl) dX9_readProduct_12) (fun H locs hw => ?_)
      refine lv_bipush (v := (42 : Int32)) C.1.1 C.1.2.1 dX9_readProduct_15 rfl ?_
      refine lv_icmp_eq (tgt := 38) C.1.1 C.1.2.1 dX9_readProduct_17 (by decide) (fun c5 => ?_) (fun c5 => ?_)
      · have hf := o_t hf c5
        exact wB_X9_readProduct_38 hrec C hr hlk hk_4 X q4.1 L _ _ _ hw (lv_sub hl [0] rfl) hf
      · have hf := o_f hf c5
        refine lv_aload_n C.1.1 C.1.2.1 dX9_readProduct_20 rfl (lv_at hl 0 rfl) ?_
        obtain ⟨q16, h16, hf⟩ := o_bind hf
        refine aft_i hw (run_VM C hw clX9_117 (As := []) (rest := []) oM_0 (c_X9_here h16) rfl hl.1 rfl ⟨(by show 0 + 1 ≤ 13 + 10 * d; omega), (by show 8 + (1 + 11) + 0 ≤ 330 + 266 * d; omega)⟩ ⟨Nat.zero_le _, Nat.zero_le _⟩ rfl (Nat.le_of_ble_eq_true rfl) dX9_readProduct_21) (fun H locs hw => ?_)
        refine lv_bipush (v := (47 : Int32)) C.1.1 C.1.2.1 dX9_readProduct_24 rfl ?_
        refine lv_icmp_eq (tgt := 38) C.1.1 C.1.2.1 dX9_readProduct_26 (by decide) (fun c17 => ?_) (fun c17 => ?_)
        · have hf := o_t hf c17
          exact wB_X9_readProduct_38 hrec C hr hlk hk_4 X q16.1 L _ _ _ hw (lv_sub hl [0] rfl) hf
        · have hf := o_f hf c17
          refine lv_aload_n C.1.1 C.1.2.1 dX9_readProduct_29 rfl (lv_at hl 0 rfl) ?_
          obtain ⟨q18, h18, hf⟩ := o_bind hf
          refine aft_i hw (run_VM C hw clX9_117 (As := []) (rest := []) oM_0 (c_X9_here h18) rfl hl.1 rfl ⟨(by show 0 + 1 ≤ 13 + 10 * d; omega), (by show 8 + (1 + 11) + 0 ≤ 330 + 266 * d; omega)⟩ ⟨Nat.zero_le _, Nat.zero_le _⟩ rfl (Nat.le_of_ble_eq_true rfl) dX9_readProduct_30) (fun H locs hw => ?_)
          refine lv_bipush (v := (37 : Int32)) C.1.1 C.1.2.1 dX9_readProduct_33 rfl ?_
          refine lv_icmp_ne (tgt := 90) C.1.1 C.1.2.1 dX9_readProduct_35 (by decide) (fun c19 => ?_) (fun c19 => ?_)
          · have hf := o_f hf c19
            obtain rfl := Option.some.inj hf
            exact ret_v C hr hlk hw dX9_readProduct_90
          · have hf := o_t hf c19
            exact wB_X9_readProduct_38 hrec C hr hlk hk_4 X q18.1 L _ _ _ hw (lv_sub hl [0] rfl) hf
set_option maxRecDepth 20000 in
set_option maxHeartbeats 2000000 in
theorem c_X9_readProduct {rec : TX → Option (TX)} {d : Nat} (hrec : ∀ {X M : TX} {L : TL} {ro : TX}, rec M = some ro → CTv G l yX9_readSum cX9_readSum 2 none (10 + 10 * d) (266 + 266 * d) [.ref (gA G (41 + 0))] X M L X ro L)  {X M : TX} {L : TL}  {ro : TX} (hf : f_X9_readProduct rec M = some ro) : CTv G l yX9_readProduct cX9_readProduct 2 none (13 + 10 * d) (330 + 266 * d) [.ref (gA G (41 + 0))] X M L X ro L := by
  unfold f_X9_readProduct at hf
  refine ct_of (by decide +kernel) (Nat.le_of_ble_eq_true rfl) (fun p e s m args below meth c H locs ls C hr hlk hw hl => ?_)
  have C : Cx G p s m args c cX9_readProduct 2 RX9 := C
  have hl : lv_has ls 2 [(0, .ref (gA G (41 + 0)))] := hl
  refine lv_aload_n C.1.1 C.1.2.1 dX9_readProduct_0 rfl (lv_at hl 0 rfl) ?_
  obtain ⟨q1, h1, hf⟩ := o_bind hf
  refine aft_v hw (run_VM C hw clX9_242 (As := []) (rest := []) oM_0 (c_X9_readUnit hrec h1) rfl hl.1 rfl ⟨(by show (12 + 10 * d) + 1 ≤ 13 + 10 * d; omega), (by show 8 + (2 + 11) + (309 + 266 * d) ≤ 330 + 266 * d; omega)⟩ ⟨Nat.zero_le _, Nat.zero_le _⟩ rfl (Nat.le_of_ble_eq_true rfl) dX9_readProduct_1) (fun H locs hw => ?_)
  exact wL_X9_readProduct_4 hrec C hr hlk FU X q1 L _ _ _ hw (lv_sub hl [0] rfl) hf
end
