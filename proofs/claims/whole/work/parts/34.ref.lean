/-! WinnerDrawsModel.readStep()V (('o', 'M', 0)) -/
def B_X9_readStep_92 (rec : TX → Option (TX)) (M : TX) (x1 : Int32) (x2 : Int32) (t0 : Int32) : Option (TX) := if x1 = (3 : Int32) then ((f_X9_readNumber M (0 : Int32) (99 : Int32)).bind fun q12 => (f_X9_tellsStep q12.1 x1 x2 t0 q12.2).bind fun q13 => (f_X9_sign q13 (59 : Int32)).bind fun q14 => some q14) else ((f_X9_tellsStep M x1 x2 t0 (0 : Int32)).bind fun q10 => (f_X9_sign q10 (59 : Int32)).bind fun q11 => some q11)
def f_X9_readStep : Nat → TX → Option (TX)
  | 0 => fun _ => none
  | d + 1 => fun M => (f_X9_word M).bind fun q1 => (f_X9_stepOf q1.2).bind fun q2 => if q2 = (-1 : Int32) then ((f_X9_wrong q1.1 (1 : Int32) (q1.1 0 4)).bind fun q24 => (f_X9_sign q24 (59 : Int32)).bind fun q25 => some q25) else (if q2 = (4 : Int32) then ((f_X9_readAgain (f_X9_readStep d) q1.1).bind fun q22 => (f_X9_sign q22 (59 : Int32)).bind fun q23 => some q23) else ((f_X9_pass q1.1).bind fun q5 => if q2 < (2 : Int32) then (if q2 = (2 : Int32) then ((f_X9_readNumber q5 (0 : Int32) (3 : Int32)).bind fun q16 => B_X9_readStep_92 (f_X9_readStep d) q16.1 q2 (0 : Int32) q16.2) else (if q2 = (3 : Int32) then ((f_X9_readNumber q5 (0 : Int32) (99 : Int32)).bind fun q15 => B_X9_readStep_92 (f_X9_readStep d) q15.1 q2 (0 : Int32) q15.2) else (B_X9_readStep_92 (f_X9_readStep d) q5 q2 (0 : Int32) (0 : Int32)))) else ((f_X9_readNumber q5 (0 : Int32) ((q5 0 19) - (1 : Int32))).bind fun q17 => if q2 = (2 : Int32) then ((f_X9_readNumber q17.1 (0 : Int32) (3 : Int32)).bind fun q21 => B_X9_readStep_92 (f_X9_readStep d) q21.1 q2 q17.2 q21.2) else (if q2 = (3 : Int32) then ((f_X9_readNumber q17.1 (0 : Int32) (99 : Int32)).bind fun q20 => B_X9_readStep_92 (f_X9_readStep d) q20.1 q2 q17.2 q20.2) else (B_X9_readStep_92 (f_X9_readStep d) q17.1 q2 q17.2 (0 : Int32))))))
section
variable {G : GP} {l : Launch}
set_option maxRecDepth 20000 in
set_option maxHeartbeats 2000000 in
theorem wB_X9_readStep_92 {rec : TX → Option (TX)} {d : Nat} (hrec : ∀ {X M : TX} {L : TL} {ro : TX}, rec M = some ro → CTv G l yX9_readStep cX9_readStep 4 none (8 + 8 * d) (223 + 223 * d) [.ref (gA G (41 + 0))] X M L X ro L) {p : Program} {e : Env} {s : State} {m : MethodId} {args : Array Value} {below : List Frame} {meth : Method} {c : Code} (C : Cx G p s m args c cX9_readStep 4 RX9) (hr : meth.sig.returnType = none) (hlk : meth.locks = false) {ro : TX} : ∀ (X : TX) (M : TX) (L : TL) (x1 : Int32) (x2 : Int32) (t0 : Int32) (H : Heap) (locs : List Loc) (ls : Array Slot), Wh G s X M L H locs → lv_has ls 4 [(0, .ref (gA G (41 + 0))), (1, .int x1), (2, .int x2)] → B_X9_readStep_92 rec M x1 x2 t0 = some ro → W p l e (rz (8 + 8 * (d + 1)) (223 + 223 * (d + 1))) s m args below meth c H locs 0 0 (MQ below (Dv G X ro L) args s 0 0 (AB G)) (F0 m 92 ls [.int t0]) := by
  intro X M L x1 x2 t0 H locs ls hw hl hf
  unfold B_X9_readStep_92 at hf
  refine lv_istore_n (lv' := [(3, .int t0), (0, .ref (gA G (41 + 0))), (1, .int x1), (2, .int x2)]) C.1.1 C.1.2.1 dX9_readStep_92 rfl hl (by decide) rfl (fun ls hl => ?_)
  refine lv_aload_n C.1.1 C.1.2.1 dX9_readStep_93 rfl (lv_at hl 1 rfl) ?_
  refine lv_iload_n C.1.1 C.1.2.1 dX9_readStep_94 rfl (lv_at hl 2 rfl) ?_
  refine lv_iload_n C.1.1 C.1.2.1 dX9_readStep_95 rfl (lv_at hl 3 rfl) ?_
  refine lv_iload_n C.1.1 C.1.2.1 dX9_readStep_96 rfl (lv_at hl 0 rfl) ?_
  refine lv_iload_n C.1.1 C.1.2.1 dX9_readStep_97 rfl (lv_at hl 2 rfl) ?_
  refine lv_iconst (v := (3 : Int32)) C.1.1 C.1.2.1 dX9_readStep_98 rfl ?_
  refine lv_icmp_ne (tgt := 112) C.1.1 C.1.2.1 dX9_readStep_99 (by decide) (fun c9 => ?_) (fun c9 => ?_)
  · have hf := o_f hf c9
    refine lv_iconst (v := (0 : Int32)) C.1.1 C.1.2.1 dX9_readStep_112 rfl ?_
    obtain ⟨q10, h10, hf⟩ := o_bind hf
    refine aft_v hw (run_VM C hw clX9_294 (As := [.int x1, .int x2, .int t0, .int (0 : Int32)]) (rest := []) oM_0 (c_X9_tellsStep h10) rfl hl.1 rfl ⟨(by show 1 + 1 ≤ 8 + 8 * (d + 1); omega), (by show 8 + (5 + 11) + 20 ≤ 223 + 223 * (d + 1); omega)⟩ ⟨Nat.zero_le _, Nat.zero_le _⟩ rfl (Nat.le_of_ble_eq_true rfl) dX9_readStep_113) (fun H locs hw => ?_)
    refine lv_aload_n C.1.1 C.1.2.1 dX9_readStep_116 rfl (lv_at hl 1 rfl) ?_
    refine lv_bipush (v := (59 : Int32)) C.1.1 C.1.2.1 dX9_readStep_117 rfl ?_
    obtain ⟨q11, h11, hf⟩ := o_bind hf
    refine aft_v hw (run_VM C hw clX9_226 (As := [.int (59 : Int32)]) (rest := []) oM_0 (c_X9_sign h11) rfl hl.1 rfl ⟨(by show 1 + 1 ≤ 8 + 8 * (d + 1); omega), (by show 8 + (2 + 11) + 22 ≤ 223 + 223 * (d + 1); omega)⟩ ⟨Nat.zero_le _, Nat.zero_le _⟩ rfl (Nat.le_of_ble_eq_true rfl) dX9_readStep_119) (fun H locs hw => ?_)
    obtain rfl := Option.some.inj hf
    exact ret_v C hr hlk hw dX9_readStep_122
  · have hf := o_t hf c9
    refine lv_aload_n C.1.1 C.1.2.1 dX9_readStep_102 rfl (lv_at hl 1 rfl) ?_
    refine lv_iconst (v := (0 : Int32)) C.1.1 C.1.2.1 dX9_readStep_103 rfl ?_
    refine lv_bipush (v := (99 : Int32)) C.1.1 C.1.2.1 dX9_readStep_104 rfl ?_
    obtain ⟨q12, h12, hf⟩ := o_bind hf
    refine aft_i hw (run_VM C hw clX9_193 (As := [.int (0 : Int32), .int (99 : Int32)]) (rest := [.int t0, .int x2, .int x1, .ref (gA G (41 + 0))]) oM_0 (c_X9_readNumber h12) rfl hl.1 rfl ⟨(by show 1 + 1 ≤ 8 + 8 * (d + 1); omega), (by show 8 + (6 + 11) + 22 ≤ 223 + 223 * (d + 1); omega)⟩ ⟨Nat.zero_le _, Nat.zero_le _⟩ rfl (Nat.le_of_ble_eq_true rfl) dX9_readStep_106) (fun H locs hw => ?_)
    refine lv_goto (tgt := 113) C.1.1 C.1.2.1 dX9_readStep_109 (by decide) ?_
    obtain ⟨q13, h13, hf⟩ := o_bind hf
    refine aft_v hw (run_VM C hw clX9_294 (As := [.int x1, .int x2, .int t0, .int q12.2]) (rest := []) oM_0 (c_X9_tellsStep h13) rfl hl.1 rfl ⟨(by show 1 + 1 ≤ 8 + 8 * (d + 1); omega), (by show 8 + (5 + 11) + 20 ≤ 223 + 223 * (d + 1); omega)⟩ ⟨Nat.zero_le _, Nat.zero_le _⟩ rfl (Nat.le_of_ble_eq_true rfl) dX9_readStep_113) (fun H locs hw => ?_)
    refine lv_aload_n C.1.1 C.1.2.1 dX9_readStep_116 rfl (lv_at hl 1 rfl) ?_
    refine lv_bipush (v := (59 : Int32)) C.1.1 C.1.2.1 dX9_readStep_117 rfl ?_
    obtain ⟨q14, h14, hf⟩ := o_bind hf
    refine aft_v hw (run_VM C hw clX9_226 (As := [.int (59 : Int32)]) (rest := []) oM_0 (c_X9_sign h14) rfl hl.1 rfl ⟨(by show 1 + 1 ≤ 8 + 8 * (d + 1); omega), (by show 8 + (2 + 11) + 22 ≤ 223 + 223 * (d + 1); omega)⟩ ⟨Nat.zero_le _, Nat.zero_le _⟩ rfl (Nat.le_of_ble_eq_true rfl) dX9_readStep_119) (fun H locs hw => ?_)
    obtain rfl := Option.some.inj hf
    exact ret_v C hr hlk hw dX9_readStep_122
set_option maxRecDepth 20000 in
set_option maxHeartbeats 2000000 in
theorem c_X9_readStep : ∀ (d : Nat), ∀ {X M : TX} {L : TL} {ro : TX}, f_X9_readStep d M = some ro → CTv G l yX9_readStep cX9_readStep 4 none (8 + 8 * d) (223 + 223 * d) [.ref (gA G (41 + 0))] X M L X ro L := by
  intro d
  induction d with
  | zero =>
    intro X M L ro hf
    cases hf
  | succ d hrec =>
    intro X M L ro hf
    rw [f_X9_readStep] at hf
    refine ct_of (by decide +kernel) (Nat.le_of_ble_eq_true rfl) (fun p e s m args below meth c H locs ls C hr hlk hw hl => ?_)
    have C : Cx G p s m args c cX9_readStep 4 RX9 := C
    have hl : lv_has ls 4 [(0, .ref (gA G (41 + 0)))] := hl
    refine lv_aload_n C.1.1 C.1.2.1 dX9_readStep_0 rfl (lv_at hl 0 rfl) ?_
    obtain ⟨q1, h1, hf⟩ := o_bind hf
    refine aft_i hw (run_VM C hw clX9_211 (As := []) (rest := []) oM_0 (c_X9_word h1) rfl hl.1 rfl ⟨(by show 1 + 1 ≤ 8 + 8 * (d + 1); omega), (by show 8 + (4 + 11) + 20 ≤ 223 + 223 * (d + 1); omega)⟩ ⟨Nat.zero_le _, Nat.zero_le _⟩ rfl (Nat.le_of_ble_eq_true rfl) dX9_readStep_1) (fun H locs hw => ?_)
    obtain ⟨q2, h2, hf⟩ := o_bind hf
    refine aft_i hw (run_S C hw clX9_301 (As := [.int q1.2]) (rest := []) (c_X9_stepOf h2) hl.1 rfl ⟨(by show 7 + 1 ≤ 8 + 8 * (d + 1); omega), (by show 8 + (1 + 11) + 203 ≤ 223 + 223 * (d + 1); omega)⟩ ⟨Nat.zero_le _, Nat.zero_le _⟩ rfl (Nat.le_of_ble_eq_true rfl) dX9_readStep_4) (fun H locs hw => ?_)
    refine lv_istore_n (lv' := [(1, .int q2), (0, .ref (gA G (41 + 0)))]) C.1.1 C.1.2.1 dX9_readStep_7 rfl hl (by decide) rfl (fun ls hl => ?_)
    refine lv_iload_n C.1.1 C.1.2.1 dX9_readStep_8 rfl (lv_at hl 0 rfl) ?_
    refine lv_iconst (v := (-1 : Int32)) C.1.1 C.1.2.1 dX9_readStep_9 rfl ?_
    refine lv_icmp_ne (tgt := 25) C.1.1 C.1.2.1 dX9_readStep_10 (by decide) (fun c3 => ?_) (fun c3 => ?_)
    · have hf := o_f hf c3
      refine lv_iload_n C.1.1 C.1.2.1 dX9_readStep_25 rfl (lv_at hl 0 rfl) ?_
      refine lv_iconst (v := (4 : Int32)) C.1.1 C.1.2.1 dX9_readStep_26 rfl ?_
      refine lv_icmp_ne (tgt := 37) C.1.1 C.1.2.1 dX9_readStep_27 (by decide) (fun c4 => ?_) (fun c4 => ?_)
      · have hf := o_f hf c4
        refine lv_aload_n C.1.1 C.1.2.1 dX9_readStep_37 rfl (lv_at hl 1 rfl) ?_
        obtain ⟨q5, h5, hf⟩ := o_bind hf
        refine aft_v hw (run_VM C hw clX9_220 (As := []) (rest := []) oM_0 (c_X9_pass h5) rfl hl.1 rfl ⟨(by show 1 + 1 ≤ 8 + 8 * (d + 1); omega), (by show 8 + (1 + 11) + 20 ≤ 223 + 223 * (d + 1); omega)⟩ ⟨Nat.zero_le _, Nat.zero_le _⟩ rfl (Nat.le_of_ble_eq_true rfl) dX9_readStep_38) (fun H locs hw => ?_)
        refine lv_iload_n C.1.1 C.1.2.1 dX9_readStep_41 rfl (lv_at hl 0 rfl) ?_
        refine lv_iconst (v := (2 : Int32)) C.1.1 C.1.2.1 dX9_readStep_42 rfl ?_
        refine lv_icmp_lt (tgt := 60) C.1.1 C.1.2.1 dX9_readStep_43 (by decide) (fun c6 => ?_) (fun c6 => ?_)
        · have hf := o_t hf c6
          refine lv_iconst (v := (0 : Int32)) C.1.1 C.1.2.1 dX9_readStep_60 rfl ?_
          refine lv_istore_n (lv' := [(2, .int (0 : Int32)), (1, .int q2), (0, .ref (gA G (41 + 0)))]) C.1.1 C.1.2.1 dX9_readStep_61 rfl hl (by decide) rfl (fun ls hl => ?_)
          refine lv_iload_n C.1.1 C.1.2.1 dX9_readStep_62 rfl (lv_at hl 1 rfl) ?_
          refine lv_iconst (v := (2 : Int32)) C.1.1 C.1.2.1 dX9_readStep_63 rfl ?_
          refine lv_icmp_ne (tgt := 76) C.1.1 C.1.2.1 dX9_readStep_64 (by decide) (fun c7 => ?_) (fun c7 => ?_)
          · have hf := o_f hf c7
            refine lv_iload_n C.1.1 C.1.2.1 dX9_readStep_76 rfl (lv_at hl 1 rfl) ?_
            refine lv_iconst (v := (3 : Int32)) C.1.1 C.1.2.1 dX9_readStep_77 rfl ?_
            refine lv_icmp_ne (tgt := 91) C.1.1 C.1.2.1 dX9_readStep_78 (by decide) (fun c8 => ?_) (fun c8 => ?_)
            · have hf := o_f hf c8
              refine lv_iconst (v := (0 : Int32)) C.1.1 C.1.2.1 dX9_readStep_91 rfl ?_
              exact wB_X9_readStep_92 hrec C hr hlk X q5 L q2 (0 : Int32) (0 : Int32) _ _ _ hw (lv_sub hl [2, 1, 0] rfl) hf
            · have hf := o_t hf c8
              refine lv_aload_n C.1.1 C.1.2.1 dX9_readStep_81 rfl (lv_at hl 2 rfl) ?_
              refine lv_iconst (v := (0 : Int32)) C.1.1 C.1.2.1 dX9_readStep_82 rfl ?_
              refine lv_bipush (v := (99 : Int32)) C.1.1 C.1.2.1 dX9_readStep_83 rfl ?_
              obtain ⟨q15, h15, hf⟩ := o_bind hf
              refine aft_i hw (run_VM C hw clX9_193 (As := [.int (0 : Int32), .int (99 : Int32)]) (rest := []) oM_0 (c_X9_readNumber h15) rfl hl.1 rfl ⟨(by show 1 + 1 ≤ 8 + 8 * (d + 1); omega), (by show 8 + (6 + 11) + 22 ≤ 223 + 223 * (d + 1); omega)⟩ ⟨Nat.zero_le _, Nat.zero_le _⟩ rfl (Nat.le_of_ble_eq_true rfl) dX9_readStep_85) (fun H locs hw => ?_)
              refine lv_goto (tgt := 92) C.1.1 C.1.2.1 dX9_readStep_88 (by decide) ?_
              exact wB_X9_readStep_92 hrec C hr hlk X q15.1 L q2 (0 : Int32) q15.2 _ _ _ hw (lv_sub hl [2, 1, 0] rfl) hf
          · have hf := o_t hf c7
            refine lv_aload_n C.1.1 C.1.2.1 dX9_readStep_67 rfl (lv_at hl 2 rfl) ?_
            refine lv_iconst (v := (0 : Int32)) C.1.1 C.1.2.1 dX9_readStep_68 rfl ?_
            refine lv_iconst (v := (3 : Int32)) C.1.1 C.1.2.1 dX9_readStep_69 rfl ?_
            obtain ⟨q16, h16, hf⟩ := o_bind hf
            refine aft_i hw (run_VM C hw clX9_193 (As := [.int (0 : Int32), .int (3 : Int32)]) (rest := []) oM_0 (c_X9_readNumber h16) rfl hl.1 rfl ⟨(by show 1 + 1 ≤ 8 + 8 * (d + 1); omega), (by show 8 + (6 + 11) + 22 ≤ 223 + 223 * (d + 1); omega)⟩ ⟨Nat.zero_le _, Nat.zero_le _⟩ rfl (Nat.le_of_ble_eq_true rfl) dX9_readStep_70) (fun H locs hw => ?_)
            refine lv_goto (tgt := 92) C.1.1 C.1.2.1 dX9_readStep_73 (by decide) ?_
            exact wB_X9_readStep_92 hrec C hr hlk X q16.1 L q2 (0 : Int32) q16.2 _ _ _ hw (lv_sub hl [2, 1, 0] rfl) hf
        · have hf := o_f hf c6
          refine lv_aload_n C.1.1 C.1.2.1 dX9_readStep_46 rfl (lv_at hl 1 rfl) ?_
          refine lv_iconst (v := (0 : Int32)) C.1.1 C.1.2.1 dX9_readStep_47 rfl ?_
          refine lv_aload_n C.1.1 C.1.2.1 dX9_readStep_48 rfl (lv_at hl 1 rfl) ?_
          refine m_get C hw iM_0_19 flX9_157 dX9_readStep_49 ?_
          refine lv_iconst (v := (1 : Int32)) C.1.1 C.1.2.1 dX9_readStep_52 rfl ?_
          refine lv_isub C.1.1 C.1.2.1 dX9_readStep_53 ?_
          obtain ⟨q17, h17, hf⟩ := o_bind hf
          refine aft_i hw (run_VM C hw clX9_193 (As := [.int (0 : Int32), .int ((q5 0 19) - (1 : Int32))]) (rest := []) oM_0 (c_X9_readNumber h17) rfl hl.1 rfl ⟨(by show 1 + 1 ≤ 8 + 8 * (d + 1); omega), (by show 8 + (6 + 11) + 22 ≤ 223 + 223 * (d + 1); omega)⟩ ⟨Nat.zero_le _, Nat.zero_le _⟩ rfl (Nat.le_of_ble_eq_true rfl) dX9_readStep_54) (fun H locs hw => ?_)
          refine lv_goto (tgt := 61) C.1.1 C.1.2.1 dX9_readStep_57 (by decide) ?_
          refine lv_istore_n (lv' := [(2, .int q17.2), (1, .int q2), (0, .ref (gA G (41 + 0)))]) C.1.1 C.1.2.1 dX9_readStep_61 rfl hl (by decide) rfl (fun ls hl => ?_)
          refine lv_iload_n C.1.1 C.1.2.1 dX9_readStep_62 rfl (lv_at hl 1 rfl) ?_
          refine lv_iconst (v := (2 : Int32)) C.1.1 C.1.2.1 dX9_readStep_63 rfl ?_
          refine lv_icmp_ne (tgt := 76) C.1.1 C.1.2.1 dX9_readStep_64 (by decide) (fun c18 => ?_) (fun c18 => ?_)
          · have hf := o_f hf c18
            refine lv_iload_n C.1.1 C.1.2.1 dX9_readStep_76 rfl (lv_at hl 1 rfl) ?_
            refine lv_iconst (v := (3 : Int32)) C.1.1 C.1.2.1 dX9_readStep_77 rfl ?_
            refine lv_icmp_ne (tgt := 91) C.1.1 C.1.2.1 dX9_readStep_78 (by decide) (fun c19 => ?_) (fun c19 => ?_)
            · have hf := o_f hf c19
              refine lv_iconst (v := (0 : Int32)) C.1.1 C.1.2.1 dX9_readStep_91 rfl ?_
              exact wB_X9_readStep_92 hrec C hr hlk X q17.1 L q2 q17.2 (0 : Int32) _ _ _ hw (lv_sub hl [2, 1, 0] rfl) hf
            · have hf := o_t hf c19
              refine lv_aload_n C.1.1 C.1.2.1 dX9_readStep_81 rfl (lv_at hl 2 rfl) ?_
              refine lv_iconst (v := (0 : Int32)) C.1.1 C.1.2.1 dX9_readStep_82 rfl ?_
              refine lv_bipush (v := (99 : Int32)) C.1.1 C.1.2.1 dX9_readStep_83 rfl ?_
              obtain ⟨q20, h20, hf⟩ := o_bind hf
              refine aft_i hw (run_VM C hw clX9_193 (As := [.int (0 : Int32), .int (99 : Int32)]) (rest := []) oM_0 (c_X9_readNumber h20) rfl hl.1 rfl ⟨(by show 1 + 1 ≤ 8 + 8 * (d + 1); omega), (by show 8 + (6 + 11) + 22 ≤ 223 + 223 * (d + 1); omega)⟩ ⟨Nat.zero_le _, Nat.zero_le _⟩ rfl (Nat.le_of_ble_eq_true rfl) dX9_readStep_85) (fun H locs hw => ?_)
              refine lv_goto (tgt := 92) C.1.1 C.1.2.1 dX9_readStep_88 (by decide) ?_
              exact wB_X9_readStep_92 hrec C hr hlk X q20.1 L q2 q17.2 q20.2 _ _ _ hw (lv_sub hl [2, 1, 0] rfl) hf
          · have hf := o_t hf c18
            refine lv_aload_n C.1.1 C.1.2.1 dX9_readStep_67 rfl (lv_at hl 2 rfl) ?_
            refine lv_iconst (v := (0 : Int32)) C.1.1 C.1.2.1 dX9_readStep_68 rfl ?_
            refine lv_iconst (v := (3 : Int32)) C.1.1 C.1.2.1 dX9_readStep_69 rfl ?_
            obtain ⟨q21, h21, hf⟩ := o_bind hf
            refine aft_i hw (run_VM C hw clX9_193 (As := [.int (0 : Int32), .int (3 : Int32)]) (rest := []) oM_0 (c_X9_readNumber h21) rfl hl.1 rfl ⟨(by show 1 + 1 ≤ 8 + 8 * (d + 1); omega), (by show 8 + (6 + 11) + 22 ≤ 223 + 223 * (d + 1); omega)⟩ ⟨Nat.zero_le _, Nat.zero_le _⟩ rfl (Nat.le_of_ble_eq_true rfl) dX9_readStep_70) (fun H locs hw => ?_)
            refine lv_goto (tgt := 92) C.1.1 C.1.2.1 dX9_readStep_73 (by decide) ?_
            exact wB_X9_readStep_92 hrec C hr hlk X q21.1 L q2 q17.2 q21.2 _ _ _ hw (lv_sub hl [2, 1, 0] rfl) hf
      · have hf := o_t hf c4
        refine lv_aload_n C.1.1 C.1.2.1 dX9_readStep_30 rfl (lv_at hl 1 rfl) ?_
        obtain ⟨q22, h22, hf⟩ := o_bind hf
        refine aft_v hw (run_VM C hw clX9_304 (As := []) (rest := []) oM_0 (c_X9_readAgain hrec h22) rfl hl.1 rfl ⟨(by show (9 + 8 * d) + 1 ≤ 8 + 8 * (d + 1); omega), (by show 8 + (3 + 11) + (246 + 223 * d) ≤ 223 + 223 * (d + 1); omega)⟩ ⟨Nat.zero_le _, Nat.zero_le _⟩ rfl (Nat.le_of_ble_eq_true rfl) dX9_readStep_31) (fun H locs hw => ?_)
        refine lv_goto (tgt := 116) C.1.1 C.1.2.1 dX9_readStep_34 (by decide) ?_
        refine lv_aload_n C.1.1 C.1.2.1 dX9_readStep_116 rfl (lv_at hl 1 rfl) ?_
        refine lv_bipush (v := (59 : Int32)) C.1.1 C.1.2.1 dX9_readStep_117 rfl ?_
        obtain ⟨q23, h23, hf⟩ := o_bind hf
        refine aft_v hw (run_VM C hw clX9_226 (As := [.int (59 : Int32)]) (rest := []) oM_0 (c_X9_sign h23) rfl hl.1 rfl ⟨(by show 1 + 1 ≤ 8 + 8 * (d + 1); omega), (by show 8 + (2 + 11) + 22 ≤ 223 + 223 * (d + 1); omega)⟩ ⟨Nat.zero_le _, Nat.zero_le _⟩ rfl (Nat.le_of_ble_eq_true rfl) dX9_readStep_119) (fun H locs hw => ?_)
        obtain rfl := Option.some.inj hf
        exact ret_v C hr hlk hw dX9_readStep_122
    · have hf := o_t hf c3
      refine lv_aload_n C.1.1 C.1.2.1 dX9_readStep_13 rfl (lv_at hl 1 rfl) ?_
      refine lv_iconst (v := (1 : Int32)) C.1.1 C.1.2.1 dX9_readStep_14 rfl ?_
      refine lv_aload_n C.1.1 C.1.2.1 dX9_readStep_15 rfl (lv_at hl 1 rfl) ?_
      refine m_get C hw iM_0_4 flX9_111 dX9_readStep_16 ?_
      obtain ⟨q24, h24, hf⟩ := o_bind hf
      refine aft_v hw (run_VM C hw clX9_141 (As := [.int (1 : Int32), .int (q1.1 0 4)]) (rest := []) oM_0 (c_X9_wrong h24) rfl hl.1 rfl ⟨(by show 0 + 1 ≤ 8 + 8 * (d + 1); omega), (by show 8 + (3 + 11) + 0 ≤ 223 + 223 * (d + 1); omega)⟩ ⟨Nat.zero_le _, Nat.zero_le _⟩ rfl (Nat.le_of_ble_eq_true rfl) dX9_readStep_19) (fun H locs hw => ?_)
      refine lv_goto (tgt := 116) C.1.1 C.1.2.1 dX9_readStep_22 (by decide) ?_
      refine lv_aload_n C.1.1 C.1.2.1 dX9_readStep_116 rfl (lv_at hl 1 rfl) ?_
      refine lv_bipush (v := (59 : Int32)) C.1.1 C.1.2.1 dX9_readStep_117 rfl ?_
      obtain ⟨q25, h25, hf⟩ := o_bind hf
      refine aft_v hw (run_VM C hw clX9_226 (As := [.int (59 : Int32)]) (rest := []) oM_0 (c_X9_sign h25) rfl hl.1 rfl ⟨(by show 1 + 1 ≤ 8 + 8 * (d + 1); omega), (by show 8 + (2 + 11) + 22 ≤ 223 + 223 * (d + 1); omega)⟩ ⟨Nat.zero_le _, Nat.zero_le _⟩ rfl (Nat.le_of_ble_eq_true rfl) dX9_readStep_119) (fun H locs hw => ?_)
      obtain rfl := Option.some.inj hf
      exact ret_v C hr hlk hw dX9_readStep_122
end
/-! WinnerDrawsModel.take()V (('o', 'M', 0)) -/
def f_X9_take (M : TX) : Option (TX) := (f_X9_copies 19 20 M (34 : Int32)).bind fun q1 => some q1
section
variable {G : GP} {l : Launch}
set_option maxRecDepth 20000 in
set_option maxHeartbeats 2000000 in
theorem c_X9_take   {X M : TX} {L : TL}  {ro : TX} (hf : f_X9_take M = some ro) : CTv G l yX9_take cX9_take 1 none 1 24 [.ref (gA G (41 + 0))] X M L X ro L := by
  unfold f_X9_take at hf
  refine ct_of (by decide +kernel) (Nat.le_of_ble_eq_true rfl) (fun p e s m args below meth c H locs ls C hr hlk hw hl => ?_)
  have C : Cx G p s m args c cX9_take 1 RX9 := C
  have hl : lv_has ls 1 [(0, .ref (gA G (41 + 0)))] := hl
  refine lv_aload_n C.1.1 C.1.2.1 dX9_take_0 rfl (lv_at hl 0 rfl) ?_
  refine lv_aload_n C.1.1 C.1.2.1 dX9_take_1 rfl (lv_at hl 0 rfl) ?_
  refine m_ref C hw fM_0_41 flX9_71 dX9_take_2 ?_
  refine lv_aload_n C.1.1 C.1.2.1 dX9_take_5 rfl (lv_at hl 0 rfl) ?_
  refine m_ref C hw fM_0_42 flX9_74 dX9_take_6 ?_
  refine lv_bipush (v := (34 : Int32)) C.1.1 C.1.2.1 dX9_take_9 rfl ?_
  obtain ⟨q1, h1, hf⟩ := o_bind hf
  refine aft_v hw (run_VM C hw clX9_166 (As := [.ref (gA G (41 + 19)), .ref (gA G (41 + 20)), .int (34 : Int32)]) (rest := []) oM_0 (c_X9_copies aM_19 aM_20 h1) rfl hl.1 rfl ⟨(Nat.le_of_ble_eq_true rfl), (Nat.le_of_ble_eq_true rfl)⟩ ⟨Nat.zero_le _, Nat.zero_le _⟩ rfl (Nat.le_of_ble_eq_true rfl) dX9_take_11) (fun H locs hw => ?_)
  obtain rfl := Option.some.inj hf
  exact ret_v C hr hlk hw dX9_take_14
end
/-! WinnerDrawsModel.votesOf(II)I (('o', 'M', 0) ('i',) ('i',)) -/
def f_X9_votesOf (M : TX) (x1 : Int32) (x2 : Int32) : Option (Int32) := if inb (((10 : Int32) + ((10 : Int32) * x2)) + x1) 34 = true then (some (M 20 (Int32.toNatClampNeg (((10 : Int32) + ((10 : Int32) * x2)) + x1)))) else none
section
variable {G : GP} {l : Launch}
set_option maxRecDepth 20000 in
set_option maxHeartbeats 2000000 in
theorem c_X9_votesOf   {X M : TX} {L : TL} {x1 : Int32} {x2 : Int32} {ro : Int32} (hf : f_X9_votesOf M x1 x2 = some ro) : CTi G l yX9_votesOf cX9_votesOf 3 (some .int) 0 0 [.ref (gA G (41 + 0)), .int x1, .int x2] X M L X M L ro := by
  unfold f_X9_votesOf at hf
  refine ct_of (by decide +kernel) (Nat.le_of_ble_eq_true rfl) (fun p e s m args below meth c H locs ls C hr hlk hw hl => ?_)
  have C : Cx G p s m args c cX9_votesOf 3 RX9 := C
  have hl : lv_has ls 3 [(0, .ref (gA G (41 + 0))), (1, .int x1), (2, .int x2)] := hl
  refine lv_aload_n C.1.1 C.1.2.1 dX9_votesOf_0 rfl (lv_at hl 0 rfl) ?_
  refine m_ref C hw fM_0_42 flX9_74 dX9_votesOf_1 ?_
  refine lv_bipush (v := (10 : Int32)) C.1.1 C.1.2.1 dX9_votesOf_4 rfl ?_
  refine lv_bipush (v := (10 : Int32)) C.1.1 C.1.2.1 dX9_votesOf_6 rfl ?_
  refine lv_iload_n C.1.1 C.1.2.1 dX9_votesOf_8 rfl (lv_at hl 2 rfl) ?_
  refine lv_imul C.1.1 C.1.2.1 dX9_votesOf_9 ?_
  refine lv_iadd C.1.1 C.1.2.1 dX9_votesOf_10 ?_
  refine lv_iload_n C.1.1 C.1.2.1 dX9_votesOf_11 rfl (lv_at hl 1 rfl) ?_
  refine lv_iadd C.1.1 C.1.2.1 dX9_votesOf_12 ?_
  have g1 := inb_in (o_g hf).1
  have hf := (o_g hf).2
  refine m_ald C hw aM_20 g1 dX9_votesOf_13 ?_
  obtain rfl := Option.some.inj hf
  exact ret_i C hr hlk hw dX9_votesOf_14
end
/-! WinnerDrawsModel.setOf(I)I (('o', 'M', 0) ('i',)) -/
def L_X9_setOf_4 : Nat → TX → Int32 → Int32 → Int32 → Option (Int32)
  | 0 => fun _ _ _ _ => none
  | n + 1 => fun M x1 x2 x3 => if (M 0 19) ≤ x3 then (some x2) else (if inb ((0 : Int32) + x3) 34 = true then (if (M 20 (Int32.toNatClampNeg ((0 : Int32) + x3))) = x1 then ((L_X9_setOf_4 n) M x1 (x2 ||| ((1 : Int32) <<< (x3 &&& 31))) (x3 + (1 : Int32))) else ((L_X9_setOf_4 n) M x1 (x2 ||| (0 : Int32)) (x3 + (1 : Int32)))) else none)
def f_X9_setOf (M : TX) (x1 : Int32) : Option (Int32) := L_X9_setOf_4 FU M x1 (0 : Int32) (0 : Int32)
section
variable {G : GP} {l : Launch}
set_option maxRecDepth 20000 in
set_option maxHeartbeats 2000000 in
theorem wL_X9_setOf_4 {p : Program} {e : Env} {s : State} {m : MethodId} {args : Array Value} {below : List Frame} {meth : Method} {c : Code} (C : Cx G p s m args c cX9_setOf 4 RX9) (hr : meth.sig.returnType = (some .int)) (hlk : meth.locks = false) {ro : Int32} : ∀ (n : Nat), ∀ (X : TX) (M : TX) (L : TL) (x1 : Int32) (x2 : Int32) (x3 : Int32) (H : Heap) (locs : List Loc) (ls : Array Slot), Wh G s X M L H locs → lv_has ls 4 [(0, .ref (gA G (41 + 0))), (1, .int x1), (2, .int x2), (3, .int x3)] → L_X9_setOf_4 n M x1 x2 x3 = some ro → W p l e (rz 0 0) s m args below meth c H locs 0 0 (MQ below (Di G X M L ro) args s 0 0 (AB G)) (F0 m 4 ls []) := by
  intro n
  induction n with
  | zero =>
    intro X M L x1 x2 x3 H locs ls hw hl hf
    cases hf
  | succ n hk_4 =>
    intro X M L x1 x2 x3 H locs ls hw hl hf
    rw [L_X9_setOf_4] at hf
    refine lv_iload_n C.1.1 C.1.2.1 dX9_setOf_4 rfl (lv_at hl 3 rfl) ?_
    refine lv_aload_n C.1.1 C.1.2.1 dX9_setOf_5 rfl (lv_at hl 0 rfl) ?_
    refine m_get C hw iM_0_19 flX9_157 dX9_setOf_6 ?_
    refine lv_icmp_ge (tgt := 40) C.1.1 C.1.2.1 dX9_setOf_9 (by decide) (fun c1 => ?_) (fun c1 => ?_)
    · have hf := o_t hf c1
      refine lv_iload_n C.1.1 C.1.2.1 dX9_setOf_40 rfl (lv_at hl 2 rfl) ?_
      obtain rfl := Option.some.inj hf
      exact ret_i C hr hlk hw dX9_setOf_41
    · have hf := o_f hf c1
      refine lv_iload_n C.1.1 C.1.2.1 dX9_setOf_12 rfl (lv_at hl 2 rfl) ?_
      refine lv_aload_n C.1.1 C.1.2.1 dX9_setOf_13 rfl (lv_at hl 0 rfl) ?_
      refine m_ref C hw fM_0_42 flX9_74 dX9_setOf_14 ?_
      refine lv_iconst (v := (0 : Int32)) C.1.1 C.1.2.1 dX9_setOf_17 rfl ?_
      refine lv_iload_n C.1.1 C.1.2.1 dX9_setOf_18 rfl (lv_at hl 3 rfl) ?_
      refine lv_iadd C.1.1 C.1.2.1 dX9_setOf_19 ?_
      have g2 := inb_in (o_g hf).1
      have hf := (o_g hf).2
      refine m_ald C hw aM_20 g2 dX9_setOf_20 ?_
      refine lv_iload_n C.1.1 C.1.2.1 dX9_setOf_21 rfl (lv_at hl 1 rfl) ?_
      refine lv_icmp_ne (tgt := 31) C.1.1 C.1.2.1 dX9_setOf_22 (by decide) (fun c3 => ?_) (fun c3 => ?_)
      · have hf := o_f hf c3
        refine lv_iconst (v := (0 : Int32)) C.1.1 C.1.2.1 dX9_setOf_31 rfl ?_
        refine lv_ior C.1.1 C.1.2.1 dX9_setOf_32 ?_
        refine lv_istore_n (lv' := [(2, .int (x2 ||| (0 : Int32))), (0, .ref (gA G (41 + 0))), (1, .int x1), (3, .int x3)]) C.1.1 C.1.2.1 dX9_setOf_33 rfl hl (by decide) rfl (fun ls hl => ?_)
        refine lv_iinc (v := (x3 + (1 : Int32))) (lv' := [(3, .int (x3 + (1 : Int32))), (2, .int (x2 ||| (0 : Int32))), (0, .ref (gA G (41 + 0))), (1, .int x1)]) C.1.1 C.1.2.1 dX9_setOf_34 hl (k := 3) rfl rfl (by decide) rfl (fun ls hl => ?_)
        refine lv_goto (tgt := 4) C.1.1 C.1.2.1 dX9_setOf_37 (by decide) ?_
        exact hk_4 X M L x1 (x2 ||| (0 : Int32)) (x3 + (1 : Int32)) _ _ _ hw (lv_sub hl [2, 3, 1, 0] rfl) hf
      · have hf := o_t hf c3
        refine lv_iconst (v := (1 : Int32)) C.1.1 C.1.2.1 dX9_setOf_25 rfl ?_
        refine lv_iload_n C.1.1 C.1.2.1 dX9_setOf_26 rfl (lv_at hl 3 rfl) ?_
        refine lv_ishl C.1.1 C.1.2.1 dX9_setOf_27 ?_
        refine lv_goto (tgt := 32) C.1.1 C.1.2.1 dX9_setOf_28 (by decide) ?_
        refine lv_ior C.1.1 C.1.2.1 dX9_setOf_32 ?_
        refine lv_istore_n (lv' := [(2, .int (x2 ||| ((1 : Int32) <<< (x3 &&& 31)))), (0, .ref (gA G (41 + 0))), (1, .int x1), (3, .int x3)]) C.1.1 C.1.2.1 dX9_setOf_33 rfl hl (by decide) rfl (fun ls hl => ?_)
        refine lv_iinc (v := (x3 + (1 : Int32))) (lv' := [(3, .int (x3 + (1 : Int32))), (2, .int (x2 ||| ((1 : Int32) <<< (x3 &&& 31)))), (0, .ref (gA G (41 + 0))), (1, .int x1)]) C.1.1 C.1.2.1 dX9_setOf_34 hl (k := 3) rfl rfl (by decide) rfl (fun ls hl => ?_)
        refine lv_goto (tgt := 4) C.1.1 C.1.2.1 dX9_setOf_37 (by decide) ?_
        exact hk_4 X M L x1 (x2 ||| ((1 : Int32) <<< (x3 &&& 31))) (x3 + (1 : Int32)) _ _ _ hw (lv_sub hl [2, 3, 1, 0] rfl) hf
set_option maxRecDepth 20000 in
set_option maxHeartbeats 2000000 in
theorem c_X9_setOf   {X M : TX} {L : TL} {x1 : Int32} {ro : Int32} (hf : f_X9_setOf M x1 = some ro) : CTi G l yX9_setOf cX9_setOf 4 (some .int) 0 0 [.ref (gA G (41 + 0)), .int x1] X M L X M L ro := by
  unfold f_X9_setOf at hf
  refine ct_of (by decide +kernel) (Nat.le_of_ble_eq_true rfl) (fun p e s m args below meth c H locs ls C hr hlk hw hl => ?_)
  have C : Cx G p s m args c cX9_setOf 4 RX9 := C
  have hl : lv_has ls 4 [(0, .ref (gA G (41 + 0))), (1, .int x1)] := hl
  refine lv_iconst (v := (0 : Int32)) C.1.1 C.1.2.1 dX9_setOf_0 rfl ?_
  refine lv_istore_n (lv' := [(2, .int (0 : Int32)), (0, .ref (gA G (41 + 0))), (1, .int x1)]) C.1.1 C.1.2.1 dX9_setOf_1 rfl hl (by decide) rfl (fun ls hl => ?_)
  refine lv_iconst (v := (0 : Int32)) C.1.1 C.1.2.1 dX9_setOf_2 rfl ?_
  refine lv_istore_n (lv' := [(3, .int (0 : Int32)), (2, .int (0 : Int32)), (0, .ref (gA G (41 + 0))), (1, .int x1)]) C.1.1 C.1.2.1 dX9_setOf_3 rfl hl (by decide) rfl (fun ls hl => ?_)
  exact wL_X9_setOf_4 C hr hlk FU X M L x1 (0 : Int32) (0 : Int32) _ _ _ hw (lv_sub hl [2, 3, 1, 0] rfl) hf
end
/-! WinnerDrawsModel.votesIn(II)I (('o', 'M', 0) ('i',) ('i',)) -/
def L_X9_votesIn_5 : Nat → TX → Int32 → Int32 → Int32 → Int32 → Option (Int32)
  | 0 => fun _ _ _ _ _ => none
  | n + 1 => fun M x1 x2 x3 x4 => if (M 0 19) ≤ x4 then (some x3) else ((f_X9_votesOf M x4 x2).bind fun q2 => (L_X9_votesIn_5 n) M x1 x2 (x3 + (((x1 >>> (x4 &&& 31)) &&& (1 : Int32)) * q2)) (x4 + (1 : Int32)))
def f_X9_votesIn (M : TX) (x1 : Int32) (x2 : Int32) : Option (Int32) := L_X9_votesIn_5 FU M x1 x2 (0 : Int32) (0 : Int32)
section
variable {G : GP} {l : Launch}
set_option maxRecDepth 20000 in
set_option maxHeartbeats 2000000 in
theorem wL_X9_votesIn_5 {p : Program} {e : Env} {s : State} {m : MethodId} {args : Array Value} {below : List Frame} {meth : Method} {c : Code} (C : Cx G p s m args c cX9_votesIn 5 RX9) (hr : meth.sig.returnType = (some .int)) (hlk : meth.locks = false) {ro : Int32} : ∀ (n : Nat), ∀ (X : TX) (M : TX) (L : TL) (x1 : Int32) (x2 : Int32) (x3 : Int32) (x4 : Int32) (H : Heap) (locs : List Loc) (ls : Array Slot), Wh G s X M L H locs → lv_has ls 5 [(0, .ref (gA G (41 + 0))), (1, .int x1), (2, .int x2), (3, .int x3), (4, .int x4)] → L_X9_votesIn_5 n M x1 x2 x3 x4 = some ro → W p l e (rz 1 22) s m args below meth c H locs 0 0 (MQ below (Di G X M L ro) args s 0 0 (AB G)) (F0 m 5 ls []) := by
  intro n
  induction n with
  | zero =>
    intro X M L x1 x2 x3 x4 H locs ls hw hl hf
    cases hf
  | succ n hk_5 =>
    intro X M L x1 x2 x3 x4 H locs ls hw hl hf
    rw [L_X9_votesIn_5] at hf
    refine lv_iload C.1.1 C.1.2.1 dX9_votesIn_5 (lv_at hl 4 rfl) ?_
    refine lv_aload_n C.1.1 C.1.2.1 dX9_votesIn_7 rfl (lv_at hl 0 rfl) ?_
    refine m_get C hw iM_0_19 flX9_157 dX9_votesIn_8 ?_
    refine lv_icmp_ge (tgt := 37) C.1.1 C.1.2.1 dX9_votesIn_11 (by decide) (fun c1 => ?_) (fun c1 => ?_)
    · have hf := o_t hf c1
      refine lv_iload_n C.1.1 C.1.2.1 dX9_votesIn_37 rfl (lv_at hl 3 rfl) ?_
      obtain rfl := Option.some.inj hf
      exact ret_i C hr hlk hw dX9_votesIn_38
    · have hf := o_f hf c1
      refine lv_iload_n C.1.1 C.1.2.1 dX9_votesIn_14 rfl (lv_at hl 3 rfl) ?_
      refine lv_iload_n C.1.1 C.1.2.1 dX9_votesIn_15 rfl (lv_at hl 1 rfl) ?_
      refine lv_iload C.1.1 C.1.2.1 dX9_votesIn_16 (lv_at hl 4 rfl) ?_
      refine lv_ishr C.1.1 C.1.2.1 dX9_votesIn_18 ?_
      refine lv_iconst (v := (1 : Int32)) C.1.1 C.1.2.1 dX9_votesIn_19 rfl ?_
      refine lv_iand C.1.1 C.1.2.1 dX9_votesIn_20 ?_
      refine lv_aload_n C.1.1 C.1.2.1 dX9_votesIn_21 rfl (lv_at hl 0 rfl) ?_
      refine lv_iload C.1.1 C.1.2.1 dX9_votesIn_22 (lv_at hl 4 rfl) ?_
      refine lv_iload_n C.1.1 C.1.2.1 dX9_votesIn_24 rfl (lv_at hl 2 rfl) ?_
      obtain ⟨q2, h2, hf⟩ := o_bind hf
      refine aft_i hw (run_VM C hw clX9_326 (As := [.int x4, .int x2]) (rest := [.int ((x1 >>> (x4 &&& 31)) &&& (1 : Int32)), .int x3]) oM_0 (c_X9_votesOf h2) rfl hl.1 rfl ⟨(Nat.le_of_ble_eq_true rfl), (Nat.le_of_ble_eq_true rfl)⟩ ⟨Nat.zero_le _, Nat.zero_le _⟩ rfl (Nat.le_of_ble_eq_true rfl) dX9_votesIn_25) (fun H locs hw => ?_)
      refine lv_imul C.1.1 C.1.2.1 dX9_votesIn_28 ?_
      refine lv_iadd C.1.1 C.1.2.1 dX9_votesIn_29 ?_
      refine lv_istore_n (lv' := [(3, .int (x3 + (((x1 >>> (x4 &&& 31)) &&& (1 : Int32)) * q2))), (0, .ref (gA G (41 + 0))), (1, .int x1), (2, .int x2), (4, .int x4)]) C.1.1 C.1.2.1 dX9_votesIn_30 rfl hl (by decide) rfl (fun ls hl => ?_)
      refine lv_iinc (v := (x4 + (1 : Int32))) (lv' := [(4, .int (x4 + (1 : Int32))), (3, .int (x3 + (((x1 >>> (x4 &&& 31)) &&& (1 : Int32)) * q2))), (0, .ref (gA G (41 + 0))), (1, .int x1), (2, .int x2)]) C.1.1 C.1.2.1 dX9_votesIn_31 hl (k := 4) rfl rfl (by decide) rfl (fun ls hl => ?_)
      refine lv_goto (tgt := 5) C.1.1 C.1.2.1 dX9_votesIn_34 (by decide) ?_
      exact hk_5 X M L x1 x2 (x3 + (((x1 >>> (x4 &&& 31)) &&& (1 : Int32)) * q2)) (x4 + (1 : Int32)) _ _ _ hw (lv_sub hl [2, 3, 4, 1, 0] rfl) hf
set_option maxRecDepth 20000 in
set_option maxHeartbeats 2000000 in
theorem c_X9_votesIn   {X M : TX} {L : TL} {x1 : Int32} {x2 : Int32} {ro : Int32} (hf : f_X9_votesIn M x1 x2 = some ro) : CTi G l yX9_votesIn cX9_votesIn 5 (some .int) 1 22 [.ref (gA G (41 + 0)), .int x1, .int x2] X M L X M L ro := by
  unfold f_X9_votesIn at hf
  refine ct_of (by decide +kernel) (Nat.le_of_ble_eq_true rfl) (fun p e s m args below meth c H locs ls C hr hlk hw hl => ?_)
  have C : Cx G p s m args c cX9_votesIn 5 RX9 := C
  have hl : lv_has ls 5 [(0, .ref (gA G (41 + 0))), (1, .int x1), (2, .int x2)] := hl
  refine lv_iconst (v := (0 : Int32)) C.1.1 C.1.2.1 dX9_votesIn_0 rfl ?_
  refine lv_istore_n (lv' := [(3, .int (0 : Int32)), (0, .ref (gA G (41 + 0))), (1, .int x1), (2, .int x2)]) C.1.1 C.1.2.1 dX9_votesIn_1 rfl hl (by decide) rfl (fun ls hl => ?_)
  refine lv_iconst (v := (0 : Int32)) C.1.1 C.1.2.1 dX9_votesIn_2 rfl ?_
  refine lv_istore (lv' := [(4, .int (0 : Int32)), (3, .int (0 : Int32)), (0, .ref (gA G (41 + 0))), (1, .int x1), (2, .int x2)]) C.1.1 C.1.2.1 dX9_votesIn_3 hl (by decide) rfl (fun ls hl => ?_)
  exact wL_X9_votesIn_5 C hr hlk FU X M L x1 x2 (0 : Int32) (0 : Int32) _ _ _ hw (lv_sub hl [2, 3, 4, 1, 0] rfl) hf
end
/-! WinnerDrawsModel.winnerOf(I)I (('o', 'M', 0) ('i',)) -/
def f_X9_winnerOf (M : TX) (x1 : Int32) : Option (Int32) := (f_X9_setOf M x1).bind fun q1 => (f_X9_votesIn M q1 (0 : Int32)).bind fun q2 => (f_X9_votesIn M q1 (1 : Int32)).bind fun q3 => if (q2 - q3) ≤ 0 then (if 0 ≤ (q2 - q3) then (some (-1 : Int32)) else (some (1 : Int32))) else (some (0 : Int32))
section
variable {G : GP} {l : Launch}
set_option maxRecDepth 20000 in
set_option maxHeartbeats 2000000 in
theorem c_X9_winnerOf   {X M : TX} {L : TL} {x1 : Int32} {ro : Int32} (hf : f_X9_winnerOf M x1 = some ro) : CTi G l yX9_winnerOf cX9_winnerOf 4 (some .int) 2 46 [.ref (gA G (41 + 0)), .int x1] X M L X M L ro := by
  unfold f_X9_winnerOf at hf
  refine ct_of (by decide +kernel) (Nat.le_of_ble_eq_true rfl) (fun p e s m args below meth c H locs ls C hr hlk hw hl => ?_)
  have C : Cx G p s m args c cX9_winnerOf 4 RX9 := C
  have hl : lv_has ls 4 [(0, .ref (gA G (41 + 0))), (1, .int x1)] := hl
  refine lv_aload_n C.1.1 C.1.2.1 dX9_winnerOf_0 rfl (lv_at hl 0 rfl) ?_
  refine lv_iload_n C.1.1 C.1.2.1 dX9_winnerOf_1 rfl (lv_at hl 1 rfl) ?_
  obtain ⟨q1, h1, hf⟩ := o_bind hf
  refine aft_i hw (run_VM C hw clX9_329 (As := [.int x1]) (rest := []) oM_0 (c_X9_setOf h1) rfl hl.1 rfl ⟨(Nat.le_of_ble_eq_true rfl), (Nat.le_of_ble_eq_true rfl)⟩ ⟨Nat.zero_le _, Nat.zero_le _⟩ rfl (Nat.le_of_ble_eq_true rfl) dX9_winnerOf_2) (fun H locs hw => ?_)
  refine lv_istore_n (lv' := [(2, .int q1), (0, .ref (gA G (41 + 0))), (1, .int x1)]) C.1.1 C.1.2.1 dX9_winnerOf_5 rfl hl (by decide) rfl (fun ls hl => ?_)
  refine lv_aload_n C.1.1 C.1.2.1 dX9_winnerOf_6 rfl (lv_at hl 1 rfl) ?_
  refine lv_iload_n C.1.1 C.1.2.1 dX9_winnerOf_7 rfl (lv_at hl 0 rfl) ?_
  refine lv_iconst (v := (0 : Int32)) C.1.1 C.1.2.1 dX9_winnerOf_8 rfl ?_
  obtain ⟨q2, h2, hf⟩ := o_bind hf
  refine aft_i hw (run_VM C hw clX9_332 (As := [.int q1, .int (0 : Int32)]) (rest := []) oM_0 (c_X9_votesIn h2) rfl hl.1 rfl ⟨(Nat.le_of_ble_eq_true rfl), (Nat.le_of_ble_eq_true rfl)⟩ ⟨Nat.zero_le _, Nat.zero_le _⟩ rfl (Nat.le_of_ble_eq_true rfl) dX9_winnerOf_9) (fun H locs hw => ?_)
  refine lv_aload_n C.1.1 C.1.2.1 dX9_winnerOf_12 rfl (lv_at hl 1 rfl) ?_
  refine lv_iload_n C.1.1 C.1.2.1 dX9_winnerOf_13 rfl (lv_at hl 0 rfl) ?_
  refine lv_iconst (v := (1 : Int32)) C.1.1 C.1.2.1 dX9_winnerOf_14 rfl ?_
  obtain ⟨q3, h3, hf⟩ := o_bind hf
  refine aft_i hw (run_VM C hw clX9_332 (As := [.int q1, .int (1 : Int32)]) (rest := [.int q2]) oM_0 (c_X9_votesIn h3) rfl hl.1 rfl ⟨(Nat.le_of_ble_eq_true rfl), (Nat.le_of_ble_eq_true rfl)⟩ ⟨Nat.zero_le _, Nat.zero_le _⟩ rfl (Nat.le_of_ble_eq_true rfl) dX9_winnerOf_15) (fun H locs hw => ?_)
  refine lv_isub C.1.1 C.1.2.1 dX9_winnerOf_18 ?_
  refine lv_istore_n (lv' := [(3, .int (q2 - q3)), (2, .int q1), (0, .ref (gA G (41 + 0))), (1, .int x1)]) C.1.1 C.1.2.1 dX9_winnerOf_19 rfl hl (by decide) rfl (fun ls hl => ?_)
  refine lv_iload_n C.1.1 C.1.2.1 dX9_winnerOf_20 rfl (lv_at hl 0 rfl) ?_
  refine lv_if_le (tgt := 28) C.1.1 C.1.2.1 dX9_winnerOf_21 (by decide) (fun c4 => ?_) (fun c4 => ?_)
  · have hf := o_t hf c4
    refine lv_iload_n C.1.1 C.1.2.1 dX9_winnerOf_28 rfl (lv_at hl 0 rfl) ?_
    refine lv_if_ge (tgt := 36) C.1.1 C.1.2.1 dX9_winnerOf_29 (by decide) (fun c5 => ?_) (fun c5 => ?_)
    · have hf := o_t hf c5
      refine lv_iconst (v := (-1 : Int32)) C.1.1 C.1.2.1 dX9_winnerOf_36 rfl ?_
      obtain rfl := Option.some.inj hf
      exact ret_i C hr hlk hw dX9_winnerOf_37
    · have hf := o_f hf c5
      refine lv_iconst (v := (1 : Int32)) C.1.1 C.1.2.1 dX9_winnerOf_32 rfl ?_
      refine lv_goto (tgt := 37) C.1.1 C.1.2.1 dX9_winnerOf_33 (by decide) ?_
      obtain rfl := Option.some.inj hf
      exact ret_i C hr hlk hw dX9_winnerOf_37
  · have hf := o_f hf c4
    refine lv_iconst (v := (0 : Int32)) C.1.1 C.1.2.1 dX9_winnerOf_24 rfl ?_
    refine lv_goto (tgt := 37) C.1.1 C.1.2.1 dX9_winnerOf_25 (by decide) ?_
    obtain rfl := Option.some.inj hf
    exact ret_i C hr hlk hw dX9_winnerOf_37
end
/-! WinnerDrawsModel.seatsOf(I)I (('o', 'M', 0) ('i',)) -/
def L_X9_seatsOf_4 : Nat → TX → Int32 → Int32 → Int32 → Option (Int32)
  | 0 => fun _ _ _ _ => none
  | n + 1 => fun M x1 x2 x3 => if (4 : Int32) ≤ x3 then (some x2) else ((f_X9_winnerOf M x3).bind fun q2 => if q2 = x1 then ((L_X9_seatsOf_4 n) M x1 (x2 + (1 : Int32)) (x3 + (1 : Int32))) else ((L_X9_seatsOf_4 n) M x1 (x2 + (0 : Int32)) (x3 + (1 : Int32))))
def f_X9_seatsOf (M : TX) (x1 : Int32) : Option (Int32) := L_X9_seatsOf_4 FU M x1 (0 : Int32) (0 : Int32)
section
variable {G : GP} {l : Launch}
set_option maxRecDepth 20000 in
set_option maxHeartbeats 2000000 in
theorem wL_X9_seatsOf_4 {p : Program} {e : Env} {s : State} {m : MethodId} {args : Array Value} {below : List Frame} {meth : Method} {c : Code} (C : Cx G p s m args c cX9_seatsOf 4 RX9) (hr : meth.sig.returnType = (some .int)) (hlk : meth.locks = false) {ro : Int32} : ∀ (n : Nat), ∀ (X : TX) (M : TX) (L : TL) (x1 : Int32) (x2 : Int32) (x3 : Int32) (H : Heap) (locs : List Loc) (ls : Array Slot), Wh G s X M L H locs → lv_has ls 4 [(0, .ref (gA G (41 + 0))), (1, .int x1), (2, .int x2), (3, .int x3)] → L_X9_seatsOf_4 n M x1 x2 x3 = some ro → W p l e (rz 3 69) s m args below meth c H locs 0 0 (MQ below (Di G X M L ro) args s 0 0 (AB G)) (F0 m 4 ls []) := by
  intro n
  induction n with
  | zero =>
    intro X M L x1 x2 x3 H locs ls hw hl hf
    cases hf
  | succ n hk_4 =>
    intro X M L x1 x2 x3 H locs ls hw hl hf
    rw [L_X9_seatsOf_4] at hf
    refine lv_iload_n C.1.1 C.1.2.1 dX9_seatsOf_4 rfl (lv_at hl 3 rfl) ?_
    refine lv_iconst (v := (4 : Int32)) C.1.1 C.1.2.1 dX9_seatsOf_5 rfl ?_
    refine lv_icmp_ge (tgt := 32) C.1.1 C.1.2.1 dX9_seatsOf_6 (by decide) (fun c1 => ?_) (fun c1 => ?_)
    · have hf := o_t hf c1
      refine lv_iload_n C.1.1 C.1.2.1 dX9_seatsOf_32 rfl (lv_at hl 2 rfl) ?_
      obtain rfl := Option.some.inj hf
      exact ret_i C hr hlk hw dX9_seatsOf_33
    · have hf := o_f hf c1
      refine lv_iload_n C.1.1 C.1.2.1 dX9_seatsOf_9 rfl (lv_at hl 2 rfl) ?_
      refine lv_aload_n C.1.1 C.1.2.1 dX9_seatsOf_10 rfl (lv_at hl 0 rfl) ?_
      refine lv_iload_n C.1.1 C.1.2.1 dX9_seatsOf_11 rfl (lv_at hl 3 rfl) ?_
      obtain ⟨q2, h2, hf⟩ := o_bind hf
      refine aft_i hw (run_VM C hw clX9_335 (As := [.int x3]) (rest := [.int x2]) oM_0 (c_X9_winnerOf h2) rfl hl.1 rfl ⟨(Nat.le_of_ble_eq_true rfl), (Nat.le_of_ble_eq_true rfl)⟩ ⟨Nat.zero_le _, Nat.zero_le _⟩ rfl (Nat.le_of_ble_eq_true rfl) dX9_seatsOf_12) (fun H locs hw => ?_)
      refine lv_iload_n C.1.1 C.1.2.1 dX9_seatsOf_15 rfl (lv_at hl 1 rfl) ?_
      refine lv_icmp_ne (tgt := 23) C.1.1 C.1.2.1 dX9_seatsOf_16 (by decide) (fun c3 => ?_) (fun c3 => ?_)
      · have hf := o_f hf c3
        refine lv_iconst (v := (0 : Int32)) C.1.1 C.1.2.1 dX9_seatsOf_23 rfl ?_
        refine lv_iadd C.1.1 C.1.2.1 dX9_seatsOf_24 ?_
        refine lv_istore_n (lv' := [(2, .int (x2 + (0 : Int32))), (0, .ref (gA G (41 + 0))), (1, .int x1), (3, .int x3)]) C.1.1 C.1.2.1 dX9_seatsOf_25 rfl hl (by decide) rfl (fun ls hl => ?_)
        refine lv_iinc (v := (x3 + (1 : Int32))) (lv' := [(3, .int (x3 + (1 : Int32))), (2, .int (x2 + (0 : Int32))), (0, .ref (gA G (41 + 0))), (1, .int x1)]) C.1.1 C.1.2.1 dX9_seatsOf_26 hl (k := 3) rfl rfl (by decide) rfl (fun ls hl => ?_)
        refine lv_goto (tgt := 4) C.1.1 C.1.2.1 dX9_seatsOf_29 (by decide) ?_
        exact hk_4 X M L x1 (x2 + (0 : Int32)) (x3 + (1 : Int32)) _ _ _ hw (lv_sub hl [2, 3, 1, 0] rfl) hf
      · have hf := o_t hf c3
        refine lv_iconst (v := (1 : Int32)) C.1.1 C.1.2.1 dX9_seatsOf_19 rfl ?_
        refine lv_goto (tgt := 24) C.1.1 C.1.2.1 dX9_seatsOf_20 (by decide) ?_
        refine lv_iadd C.1.1 C.1.2.1 dX9_seatsOf_24 ?_
        refine lv_istore_n (lv' := [(2, .int (x2 + (1 : Int32))), (0, .ref (gA G (41 + 0))), (1, .int x1), (3, .int x3)]) C.1.1 C.1.2.1 dX9_seatsOf_25 rfl hl (by decide) rfl (fun ls hl => ?_)
        refine lv_iinc (v := (x3 + (1 : Int32))) (lv' := [(3, .int (x3 + (1 : Int32))), (2, .int (x2 + (1 : Int32))), (0, .ref (gA G (41 + 0))), (1, .int x1)]) C.1.1 C.1.2.1 dX9_seatsOf_26 hl (k := 3) rfl rfl (by decide) rfl (fun ls hl => ?_)
        refine lv_goto (tgt := 4) C.1.1 C.1.2.1 dX9_seatsOf_29 (by decide) ?_
        exact hk_4 X M L x1 (x2 + (1 : Int32)) (x3 + (1 : Int32)) _ _ _ hw (lv_sub hl [2, 3, 1, 0] rfl) hf
set_option maxRecDepth 20000 in
set_option maxHeartbeats 2000000 in
theorem c_X9_seatsOf   {X M : TX} {L : TL} {x1 : Int32} {ro : Int32} (hf : f_X9_seatsOf M x1 = some ro) : CTi G l yX9_seatsOf cX9_seatsOf 4 (some .int) 3 69 [.ref (gA G (41 + 0)), .int x1] X M L X M L ro := by
  unfold f_X9_seatsOf at hf
  refine ct_of (by decide +kernel) (Nat.le_of_ble_eq_true rfl) (fun p e s m args below meth c H locs ls C hr hlk hw hl => ?_)
  have C : Cx G p s m args c cX9_seatsOf 4 RX9 := C
  have hl : lv_has ls 4 [(0, .ref (gA G (41 + 0))), (1, .int x1)] := hl
  refine lv_iconst (v := (0 : Int32)) C.1.1 C.1.2.1 dX9_seatsOf_0 rfl ?_
  refine lv_istore_n (lv' := [(2, .int (0 : Int32)), (0, .ref (gA G (41 + 0))), (1, .int x1)]) C.1.1 C.1.2.1 dX9_seatsOf_1 rfl hl (by decide) rfl (fun ls hl => ?_)
  refine lv_iconst (v := (0 : Int32)) C.1.1 C.1.2.1 dX9_seatsOf_2 rfl ?_
  refine lv_istore_n (lv' := [(3, .int (0 : Int32)), (2, .int (0 : Int32)), (0, .ref (gA G (41 + 0))), (1, .int x1)]) C.1.1 C.1.2.1 dX9_seatsOf_3 rfl hl (by decide) rfl (fun ls hl => ?_)
  exact wL_X9_seatsOf_4 C hr hlk FU X M L x1 (0 : Int32) (0 : Int32) _ _ _ hw (lv_sub hl [2, 3, 1, 0] rfl) hf
end
/-! WinnerDrawsModel.marginOf(I)I (('o', 'M', 0) ('i',)) -/
def f_X9_marginOf (M : TX) (x1 : Int32) : Option (Int32) := (f_X9_seatsOf M x1).bind fun q1 => (f_X9_seatsOf M ((1 : Int32) - x1)).bind fun q2 => some (q1 - q2)
section
variable {G : GP} {l : Launch}
set_option maxRecDepth 20000 in
set_option maxHeartbeats 2000000 in
theorem c_X9_marginOf   {X M : TX} {L : TL} {x1 : Int32} {ro : Int32} (hf : f_X9_marginOf M x1 = some ro) : CTi G l yX9_marginOf cX9_marginOf 2 (some .int) 4 92 [.ref (gA G (41 + 0)), .int x1] X M L X M L ro := by
  unfold f_X9_marginOf at hf
  refine ct_of (by decide +kernel) (Nat.le_of_ble_eq_true rfl) (fun p e s m args below meth c H locs ls C hr hlk hw hl => ?_)
  have C : Cx G p s m args c cX9_marginOf 2 RX9 := C
  have hl : lv_has ls 2 [(0, .ref (gA G (41 + 0))), (1, .int x1)] := hl
  refine lv_aload_n C.1.1 C.1.2.1 dX9_marginOf_0 rfl (lv_at hl 0 rfl) ?_
  refine lv_iload_n C.1.1 C.1.2.1 dX9_marginOf_1 rfl (lv_at hl 1 rfl) ?_
  obtain ⟨q1, h1, hf⟩ := o_bind hf
  refine aft_i hw (run_VM C hw clX9_338 (As := [.int x1]) (rest := []) oM_0 (c_X9_seatsOf h1) rfl hl.1 rfl ⟨(Nat.le_of_ble_eq_true rfl), (Nat.le_of_ble_eq_true rfl)⟩ ⟨Nat.zero_le _, Nat.zero_le _⟩ rfl (Nat.le_of_ble_eq_true rfl) dX9_marginOf_2) (fun H locs hw => ?_)
  refine lv_aload_n C.1.1 C.1.2.1 dX9_marginOf_5 rfl (lv_at hl 0 rfl) ?_
  refine lv_iconst (v := (1 : Int32)) C.1.1 C.1.2.1 dX9_marginOf_6 rfl ?_
  refine lv_iload_n C.1.1 C.1.2.1 dX9_marginOf_7 rfl (lv_at hl 1 rfl) ?_
  refine lv_isub C.1.1 C.1.2.1 dX9_marginOf_8 ?_
  obtain ⟨q2, h2, hf⟩ := o_bind hf
  refine aft_i hw (run_VM C hw clX9_338 (As := [.int ((1 : Int32) - x1)]) (rest := [.int q1]) oM_0 (c_X9_seatsOf h2) rfl hl.1 rfl ⟨(Nat.le_of_ble_eq_true rfl), (Nat.le_of_ble_eq_true rfl)⟩ ⟨Nat.zero_le _, Nat.zero_le _⟩ rfl (Nat.le_of_ble_eq_true rfl) dX9_marginOf_9) (fun H locs hw => ?_)
  refine lv_isub C.1.1 C.1.2.1 dX9_marginOf_12 ?_
  obtain rfl := Option.some.inj hf
  exact ret_i C hr hlk hw dX9_marginOf_13
end
/-! WinnerDrawsModel.everybody()I (('o', 'M', 0)) -/
def f_X9_everybody (M : TX) : Option (Int32) := some (((1 : Int32) <<< ((M 0 19) &&& 31)) - (1 : Int32))
section
variable {G : GP} {l : Launch}
set_option maxRecDepth 20000 in
set_option maxHeartbeats 2000000 in
theorem c_X9_everybody   {X M : TX} {L : TL}  {ro : Int32} (hf : f_X9_everybody M = some ro) : CTi G l yX9_everybody cX9_everybody 1 (some .int) 0 0 [.ref (gA G (41 + 0))] X M L X M L ro := by
  unfold f_X9_everybody at hf
  refine ct_of (by decide +kernel) (Nat.le_of_ble_eq_true rfl) (fun p e s m args below meth c H locs ls C hr hlk hw hl => ?_)
  have C : Cx G p s m args c cX9_everybody 1 RX9 := C
  have hl : lv_has ls 1 [(0, .ref (gA G (41 + 0)))] := hl
  refine lv_iconst (v := (1 : Int32)) C.1.1 C.1.2.1 dX9_everybody_0 rfl ?_
  refine lv_aload_n C.1.1 C.1.2.1 dX9_everybody_1 rfl (lv_at hl 0 rfl) ?_
  refine m_get C hw iM_0_19 flX9_157 dX9_everybody_2 ?_
  refine lv_ishl C.1.1 C.1.2.1 dX9_everybody_5 ?_
  refine lv_iconst (v := (1 : Int32)) C.1.1 C.1.2.1 dX9_everybody_6 rfl ?_
  refine lv_isub C.1.1 C.1.2.1 dX9_everybody_7 ?_
  obtain rfl := Option.some.inj hf
  exact ret_i C hr hlk hw dX9_everybody_8
end
/-! WinnerDrawsModel.comesOver(II)V (('o', 'M', 0) ('i',) ('i',)) -/
def L_X9_comesOver_2 : Nat → TX → Int32 → Int32 → Int32 → Option (TX)
  | 0 => fun _ _ _ _ => none
  | n + 1 => fun M x1 x2 x3 => if (M 0 19) ≤ x3 then (some M) else ((f_X9_votesOf M x3 ((1 : Int32) - x1)).bind fun q2 => if inb (((10 : Int32) + ((10 : Int32) * x1)) + x3) 34 = true then (if inb (((10 : Int32) + ((10 : Int32) * x1)) + x3) 34 = true then (if inb (((10 : Int32) + ((10 : Int32) * ((1 : Int32) - x1))) + x3) 34 = true then (if inb (((10 : Int32) + ((10 : Int32) * ((1 : Int32) - x1))) + x3) 34 = true then ((L_X9_comesOver_2 n) (u2 (u2 M 20 (Int32.toNatClampNeg (((10 : Int32) + ((10 : Int32) * x1)) + x3)) ((M 20 (Int32.toNatClampNeg (((10 : Int32) + ((10 : Int32) * x1)) + x3))) + ((q2 * x2) / (100 : Int32)))) 20 (Int32.toNatClampNeg (((10 : Int32) + ((10 : Int32) * ((1 : Int32) - x1))) + x3)) (((u2 M 20 (Int32.toNatClampNeg (((10 : Int32) + ((10 : Int32) * x1)) + x3)) ((M 20 (Int32.toNatClampNeg (((10 : Int32) + ((10 : Int32) * x1)) + x3))) + ((q2 * x2) / (100 : Int32)))) 20 (Int32.toNatClampNeg (((10 : Int32) + ((10 : Int32) * ((1 : Int32) - x1))) + x3))) - ((q2 * x2) / (100 : Int32)))) x1 x2 (x3 + (1 : Int32))) else none) else none) else none) else none)
def f_X9_comesOver (M : TX) (x1 : Int32) (x2 : Int32) : Option (TX) := L_X9_comesOver_2 FU M x1 x2 (0 : Int32)
section
variable {G : GP} {l : Launch}
set_option maxRecDepth 20000 in
set_option maxHeartbeats 2000000 in
theorem wL_X9_comesOver_2 {p : Program} {e : Env} {s : State} {m : MethodId} {args : Array Value} {below : List Frame} {meth : Method} {c : Code} (C : Cx G p s m args c cX9_comesOver 5 RX9) (hr : meth.sig.returnType = none) (hlk : meth.locks = false) {ro : TX} : ∀ (n : Nat), ∀ (X : TX) (M : TX) (L : TL) (x1 : Int32) (x2 : Int32) (x3 : Int32) (H : Heap) (locs : List Loc) (ls : Array Slot), Wh G s X M L H locs → lv_has ls 5 [(0, .ref (gA G (41 + 0))), (1, .int x1), (2, .int x2), (3, .int x3)] → L_X9_comesOver_2 n M x1 x2 x3 = some ro → W p l e (rz 1 22) s m args below meth c H locs 0 0 (MQ below (Dv G X ro L) args s 0 0 (AB G)) (F0 m 2 ls []) := by
  intro n
  induction n with
  | zero =>
    intro X M L x1 x2 x3 H locs ls hw hl hf
    cases hf
  | succ n hk_2 =>
    intro X M L x1 x2 x3 H locs ls hw hl hf
    rw [L_X9_comesOver_2] at hf
    refine lv_iload_n C.1.1 C.1.2.1 dX9_comesOver_2 rfl (lv_at hl 3 rfl) ?_
    refine lv_aload_n C.1.1 C.1.2.1 dX9_comesOver_3 rfl (lv_at hl 0 rfl) ?_
    refine m_get C hw iM_0_19 flX9_157 dX9_comesOver_4 ?_
    refine lv_icmp_ge (tgt := 71) C.1.1 C.1.2.1 dX9_comesOver_7 (by decide) (fun c1 => ?_) (fun c1 => ?_)
    · have hf := o_t hf c1
      obtain rfl := Option.some.inj hf
      exact ret_v C hr hlk hw dX9_comesOver_71
    · have hf := o_f hf c1
      refine lv_aload_n C.1.1 C.1.2.1 dX9_comesOver_10 rfl (lv_at hl 0 rfl) ?_
      refine lv_iload_n C.1.1 C.1.2.1 dX9_comesOver_11 rfl (lv_at hl 3 rfl) ?_
      refine lv_iconst (v := (1 : Int32)) C.1.1 C.1.2.1 dX9_comesOver_12 rfl ?_
      refine lv_iload_n C.1.1 C.1.2.1 dX9_comesOver_13 rfl (lv_at hl 1 rfl) ?_
      refine lv_isub C.1.1 C.1.2.1 dX9_comesOver_14 ?_
      obtain ⟨q2, h2, hf⟩ := o_bind hf
      refine aft_i hw (run_VM C hw clX9_326 (As := [.int x3, .int ((1 : Int32) - x1)]) (rest := []) oM_0 (c_X9_votesOf h2) rfl hl.1 rfl ⟨(Nat.le_of_ble_eq_true rfl), (Nat.le_of_ble_eq_true rfl)⟩ ⟨Nat.zero_le _, Nat.zero_le _⟩ rfl (Nat.le_of_ble_eq_true rfl) dX9_comesOver_15) (fun H locs hw => ?_)
      refine lv_iload_n C.1.1 C.1.2.1 dX9_comesOver_18 rfl (lv_at hl 2 rfl) ?_
      refine lv_imul C.1.1 C.1.2.1 dX9_comesOver_19 ?_
      refine lv_bipush (v := (100 : Int32)) C.1.1 C.1.2.1 dX9_comesOver_20 rfl ?_
      refine lv_idiv C.1.1 C.1.2.1 dX9_comesOver_22 (by decide) ?_
      refine lv_istore (lv' := [(4, .int ((q2 * x2) / (100 : Int32))), (0, .ref (gA G (41 + 0))), (1, .int x1), (2, .int x2), (3, .int x3)]) C.1.1 C.1.2.1 dX9_comesOver_23 hl (by decide) rfl (fun ls hl => ?_)
      refine lv_aload_n C.1.1 C.1.2.1 dX9_comesOver_25 rfl (lv_at hl 1 rfl) ?_
      refine m_ref C hw fM_0_42 flX9_74 dX9_comesOver_26 ?_
      refine lv_bipush (v := (10 : Int32)) C.1.1 C.1.2.1 dX9_comesOver_29 rfl ?_
      refine lv_bipush (v := (10 : Int32)) C.1.1 C.1.2.1 dX9_comesOver_31 rfl ?_
      refine lv_iload_n C.1.1 C.1.2.1 dX9_comesOver_33 rfl (lv_at hl 2 rfl) ?_
      refine lv_imul C.1.1 C.1.2.1 dX9_comesOver_34 ?_
      refine lv_iadd C.1.1 C.1.2.1 dX9_comesOver_35 ?_
      refine lv_iload_n C.1.1 C.1.2.1 dX9_comesOver_36 rfl (lv_at hl 4 rfl) ?_
      refine lv_iadd C.1.1 C.1.2.1 dX9_comesOver_37 ?_
      refine lv_dup2_11 C.1.1 C.1.2.1 dX9_comesOver_38 rfl rfl ?_
      have g3 := inb_in (o_g hf).1
      have hf := (o_g hf).2
      refine m_ald C hw aM_20 g3 dX9_comesOver_39 ?_
      refine lv_iload C.1.1 C.1.2.1 dX9_comesOver_40 (lv_at hl 0 rfl) ?_
      refine lv_iadd C.1.1 C.1.2.1 dX9_comesOver_42 ?_
      have g4 := inb_in (o_g hf).1
      have hf := (o_g hf).2
      refine m_ast C hw aM_20 g4 dX9_comesOver_43 (fun H locs hw => ?_)
      refine lv_aload_n C.1.1 C.1.2.1 dX9_comesOver_44 rfl (lv_at hl 1 rfl) ?_
      refine m_ref C hw fM_0_42 flX9_74 dX9_comesOver_45 ?_
      refine lv_bipush (v := (10 : Int32)) C.1.1 C.1.2.1 dX9_comesOver_48 rfl ?_
      refine lv_bipush (v := (10 : Int32)) C.1.1 C.1.2.1 dX9_comesOver_50 rfl ?_
      refine lv_iconst (v := (1 : Int32)) C.1.1 C.1.2.1 dX9_comesOver_52 rfl ?_
      refine lv_iload_n C.1.1 C.1.2.1 dX9_comesOver_53 rfl (lv_at hl 2 rfl) ?_
      refine lv_isub C.1.1 C.1.2.1 dX9_comesOver_54 ?_
      refine lv_imul C.1.1 C.1.2.1 dX9_comesOver_55 ?_
      refine lv_iadd C.1.1 C.1.2.1 dX9_comesOver_56 ?_
      refine lv_iload_n C.1.1 C.1.2.1 dX9_comesOver_57 rfl (lv_at hl 4 rfl) ?_
      refine lv_iadd C.1.1 C.1.2.1 dX9_comesOver_58 ?_
      refine lv_dup2_11 C.1.1 C.1.2.1 dX9_comesOver_59 rfl rfl ?_
      have g5 := inb_in (o_g hf).1
      have hf := (o_g hf).2
      refine m_ald C hw aM_20 g5 dX9_comesOver_60 ?_
      refine lv_iload C.1.1 C.1.2.1 dX9_comesOver_61 (lv_at hl 0 rfl) ?_
      refine lv_isub C.1.1 C.1.2.1 dX9_comesOver_63 ?_
      have g6 := inb_in (o_g hf).1
      have hf := (o_g hf).2
      refine m_ast C hw aM_20 g6 dX9_comesOver_64 (fun H locs hw => ?_)
      refine lv_iinc (v := (x3 + (1 : Int32))) (lv' := [(3, .int (x3 + (1 : Int32))), (4, .int ((q2 * x2) / (100 : Int32))), (0, .ref (gA G (41 + 0))), (1, .int x1), (2, .int x2)]) C.1.1 C.1.2.1 dX9_comesOver_65 hl (k := 4) rfl rfl (by decide) rfl (fun ls hl => ?_)
      refine lv_goto (tgt := 2) C.1.1 C.1.2.1 dX9_comesOver_68 (by decide) ?_
      exact hk_2 X (u2 (u2 M 20 (Int32.toNatClampNeg (((10 : Int32) + ((10 : Int32) * x1)) + x3)) ((M 20 (Int32.toNatClampNeg (((10 : Int32) + ((10 : Int32) * x1)) + x3))) + ((q2 * x2) / (100 : Int32)))) 20 (Int32.toNatClampNeg (((10 : Int32) + ((10 : Int32) * ((1 : Int32) - x1))) + x3)) (((u2 M 20 (Int32.toNatClampNeg (((10 : Int32) + ((10 : Int32) * x1)) + x3)) ((M 20 (Int32.toNatClampNeg (((10 : Int32) + ((10 : Int32) * x1)) + x3))) + ((q2 * x2) / (100 : Int32)))) 20 (Int32.toNatClampNeg (((10 : Int32) + ((10 : Int32) * ((1 : Int32) - x1))) + x3))) - ((q2 * x2) / (100 : Int32)))) L x1 x2 (x3 + (1 : Int32)) _ _ _ hw (lv_sub hl [2, 3, 4, 0] rfl) hf
set_option maxRecDepth 20000 in
set_option maxHeartbeats 2000000 in
theorem c_X9_comesOver   {X M : TX} {L : TL} {x1 : Int32} {x2 : Int32} {ro : TX} (hf : f_X9_comesOver M x1 x2 = some ro) : CTv G l yX9_comesOver cX9_comesOver 5 none 1 22 [.ref (gA G (41 + 0)), .int x1, .int x2] X M L X ro L := by
  unfold f_X9_comesOver at hf
  refine ct_of (by decide +kernel) (Nat.le_of_ble_eq_true rfl) (fun p e s m args below meth c H locs ls C hr hlk hw hl => ?_)
  have C : Cx G p s m args c cX9_comesOver 5 RX9 := C
  have hl : lv_has ls 5 [(0, .ref (gA G (41 + 0))), (1, .int x1), (2, .int x2)] := hl
  refine lv_iconst (v := (0 : Int32)) C.1.1 C.1.2.1 dX9_comesOver_0 rfl ?_
  refine lv_istore_n (lv' := [(3, .int (0 : Int32)), (0, .ref (gA G (41 + 0))), (1, .int x1), (2, .int x2)]) C.1.1 C.1.2.1 dX9_comesOver_1 rfl hl (by decide) rfl (fun ls hl => ?_)
  exact wL_X9_comesOver_2 C hr hlk FU X M L x1 x2 (0 : Int32) _ _ _ hw (lv_sub hl [1, 2, 3, 0] rfl) hf
end
/-! WinnerDrawsModel.votes()V (('o', 'M', 0)) -/
def B_X9_votes_116 (M : TX) (x1 : Int32) (t0 : Int32) (t1 : Int32) : Option (TX) := if inb t1 34 = true then (if inb (30 : Int32) 34 = true then (if ((u2 M 20 (Int32.toNatClampNeg t1) t0) 20 (Int32.toNatClampNeg (30 : Int32))) = (-1 : Int32) then (if inb (31 : Int32) 34 = true then (if inb (32 : Int32) 34 = true then (if inb (32 : Int32) 34 = true then (some (u2 (u2 (u2 M 20 (Int32.toNatClampNeg t1) t0) 20 (Int32.toNatClampNeg (31 : Int32)) (0 : Int32)) 20 (Int32.toNatClampNeg (32 : Int32)) (((u2 (u2 M 20 (Int32.toNatClampNeg t1) t0) 20 (Int32.toNatClampNeg (31 : Int32)) (0 : Int32)) 20 (Int32.toNatClampNeg (32 : Int32))) + (1 : Int32)))) else none) else none) else none) else (if inb (30 : Int32) 34 = true then (if ((u2 M 20 (Int32.toNatClampNeg t1) t0) 20 (Int32.toNatClampNeg (30 : Int32))) = x1 then (if inb (31 : Int32) 34 = true then (if inb (31 : Int32) 34 = true then (if inb (32 : Int32) 34 = true then (if inb (32 : Int32) 34 = true then (some (u2 (u2 (u2 M 20 (Int32.toNatClampNeg t1) t0) 20 (Int32.toNatClampNeg (31 : Int32)) (((u2 M 20 (Int32.toNatClampNeg t1) t0) 20 (Int32.toNatClampNeg (31 : Int32))) + (1 : Int32))) 20 (Int32.toNatClampNeg (32 : Int32)) (((u2 (u2 M 20 (Int32.toNatClampNeg t1) t0) 20 (Int32.toNatClampNeg (31 : Int32)) (((u2 M 20 (Int32.toNatClampNeg t1) t0) 20 (Int32.toNatClampNeg (31 : Int32))) + (1 : Int32))) 20 (Int32.toNatClampNeg (32 : Int32))) + (1 : Int32)))) else none) else none) else none) else none) else (if inb (31 : Int32) 34 = true then (if inb (32 : Int32) 34 = true then (if inb (32 : Int32) 34 = true then (some (u2 (u2 (u2 M 20 (Int32.toNatClampNeg t1) t0) 20 (Int32.toNatClampNeg (31 : Int32)) (1 : Int32)) 20 (Int32.toNatClampNeg (32 : Int32)) (((u2 (u2 M 20 (Int32.toNatClampNeg t1) t0) 20 (Int32.toNatClampNeg (31 : Int32)) (1 : Int32)) 20 (Int32.toNatClampNeg (32 : Int32))) + (1 : Int32)))) else none) else none) else none)) else none)) else none) else none
def B_X9_votes_55 (M : TX) : Option (TX) := if inb (30 : Int32) 34 = true then ((f_X9_marginOf M (0 : Int32)).bind fun q3 => if q3 = 0 then ((f_X9_everybody M).bind fun q22 => (f_X9_votesIn M q22 (0 : Int32)).bind fun q23 => (f_X9_everybody M).bind fun q24 => (f_X9_votesIn M q24 (1 : Int32)).bind fun q25 => if (q23 - q25) ≤ 0 then (if 0 ≤ (q23 - q25) then (B_X9_votes_116 M (M 20 (Int32.toNatClampNeg (30 : Int32))) (M 20 (Int32.toNatClampNeg (30 : Int32))) (30 : Int32)) else (B_X9_votes_116 M (M 20 (Int32.toNatClampNeg (30 : Int32))) (1 : Int32) (30 : Int32))) else (B_X9_votes_116 M (M 20 (Int32.toNatClampNeg (30 : Int32))) (0 : Int32) (30 : Int32))) else (if q3 ≤ 0 then (if 0 ≤ q3 then (B_X9_votes_116 M (M 20 (Int32.toNatClampNeg (30 : Int32))) (M 20 (Int32.toNatClampNeg (30 : Int32))) (30 : Int32)) else (B_X9_votes_116 M (M 20 (Int32.toNatClampNeg (30 : Int32))) (1 : Int32) (30 : Int32))) else (B_X9_votes_116 M (M 20 (Int32.toNatClampNeg (30 : Int32))) (0 : Int32) (30 : Int32)))) else none
def f_X9_votes (M : TX) : Option (TX) := if (M 0 20) ≤ 0 then (B_X9_votes_55 M) else (if inb (32 : Int32) 34 = true then (if (M 0 20) = 0 then none else (if inb ((2 : Int32) * ((M 20 (Int32.toNatClampNeg (32 : Int32))) - (M 20 (Int32.toNatClampNeg (32 : Int32))) / (M 0 20) * (M 0 20))) 12 = true then (if inb (32 : Int32) 34 = true then (if (M 0 20) = 0 then none else (if inb (((2 : Int32) * ((M 20 (Int32.toNatClampNeg (32 : Int32))) - (M 20 (Int32.toNatClampNeg (32 : Int32))) / (M 0 20) * (M 0 20))) + (1 : Int32)) 12 = true then ((f_X9_comesOver M (M 8 (Int32.toNatClampNeg ((2 : Int32) * ((M 20 (Int32.toNatClampNeg (32 : Int32))) - (M 20 (Int32.toNatClampNeg (32 : Int32))) / (M 0 20) * (M 0 20))))) (M 8 (Int32.toNatClampNeg (((2 : Int32) * ((M 20 (Int32.toNatClampNeg (32 : Int32))) - (M 20 (Int32.toNatClampNeg (32 : Int32))) / (M 0 20) * (M 0 20))) + (1 : Int32))))).bind fun q34 => B_X9_votes_55 q34) else none)) else none) else none)) else none)
section
variable {G : GP} {l : Launch}
set_option maxRecDepth 20000 in
set_option maxHeartbeats 2000000 in
theorem wB_X9_votes_116 {p : Program} {e : Env} {s : State} {m : MethodId} {args : Array Value} {below : List Frame} {meth : Method} {c : Code} (C : Cx G p s m args c cX9_votes 3 RX9) (hr : meth.sig.returnType = none) (hlk : meth.locks = false) {ro : TX} : ∀ (X : TX) (M : TX) (L : TL) (x1 : Int32) (t0 : Int32) (t1 : Int32) (H : Heap) (locs : List Loc) (ls : Array Slot), Wh G s X M L H locs → lv_has ls 3 [(0, .ref (gA G (41 + 0))), (1, .int x1)] → B_X9_votes_116 M x1 t0 t1 = some ro → W p l e (rz 5 113) s m args below meth c H locs 0 0 (MQ below (Dv G X ro L) args s 0 0 (AB G)) (F0 m 116 ls [.int t0, .int t1, .ref (gA G (41 + 20))]) := by
  intro X M L x1 t0 t1 H locs ls hw hl hf
  unfold B_X9_votes_116 at hf
  have g7 := inb_in (o_g hf).1
  have hf := (o_g hf).2
  refine m_ast C hw aM_20 g7 dX9_votes_116 (fun H locs hw => ?_)
  refine lv_aload_n C.1.1 C.1.2.1 dX9_votes_117 rfl (lv_at hl 0 rfl) ?_
  refine m_ref C hw fM_0_42 flX9_74 dX9_votes_118 ?_
  refine lv_bipush (v := (31 : Int32)) C.1.1 C.1.2.1 dX9_votes_121 rfl ?_
  refine lv_aload_n C.1.1 C.1.2.1 dX9_votes_123 rfl (lv_at hl 0 rfl) ?_
  refine m_ref C hw fM_0_42 flX9_74 dX9_votes_124 ?_
  refine lv_bipush (v := (30 : Int32)) C.1.1 C.1.2.1 dX9_votes_127 rfl ?_
  have g8 := inb_in (o_g hf).1
  have hf := (o_g hf).2
  refine m_ald C hw aM_20 g8 dX9_votes_129 ?_
  refine lv_iconst (v := (-1 : Int32)) C.1.1 C.1.2.1 dX9_votes_130 rfl ?_
  refine lv_icmp_ne (tgt := 138) C.1.1 C.1.2.1 dX9_votes_131 (by decide) (fun c9 => ?_) (fun c9 => ?_)
  · have hf := o_f hf c9
    refine lv_aload_n C.1.1 C.1.2.1 dX9_votes_138 rfl (lv_at hl 0 rfl) ?_
    refine m_ref C hw fM_0_42 flX9_74 dX9_votes_139 ?_
    refine lv_bipush (v := (30 : Int32)) C.1.1 C.1.2.1 dX9_votes_142 rfl ?_
    have g10 := inb_in (o_g hf).1
    have hf := (o_g hf).2
    refine m_ald C hw aM_20 g10 dX9_votes_144 ?_
    refine lv_iload_n C.1.1 C.1.2.1 dX9_votes_145 rfl (lv_at hl 1 rfl) ?_
    refine lv_icmp_ne (tgt := 161) C.1.1 C.1.2.1 dX9_votes_146 (by decide) (fun c11 => ?_) (fun c11 => ?_)
    · have hf := o_f hf c11
      refine lv_iconst (v := (1 : Int32)) C.1.1 C.1.2.1 dX9_votes_161 rfl ?_
      have g12 := inb_in (o_g hf).1
      have hf := (o_g hf).2
      refine m_ast C hw aM_20 g12 dX9_votes_162 (fun H locs hw => ?_)
      refine lv_aload_n C.1.1 C.1.2.1 dX9_votes_163 rfl (lv_at hl 0 rfl) ?_
      refine m_ref C hw fM_0_42 flX9_74 dX9_votes_164 ?_
      refine lv_bipush (v := (32 : Int32)) C.1.1 C.1.2.1 dX9_votes_167 rfl ?_
      refine lv_dup2_11 C.1.1 C.1.2.1 dX9_votes_169 rfl rfl ?_
      have g13 := inb_in (o_g hf).1
      have hf := (o_g hf).2
      refine m_ald C hw aM_20 g13 dX9_votes_170 ?_
      refine lv_iconst (v := (1 : Int32)) C.1.1 C.1.2.1 dX9_votes_171 rfl ?_
      refine lv_iadd C.1.1 C.1.2.1 dX9_votes_172 ?_
      have g14 := inb_in (o_g hf).1
      have hf := (o_g hf).2
      refine m_ast C hw aM_20 g14 dX9_votes_173 (fun H locs hw => ?_)
      obtain rfl := Option.some.inj hf
      exact ret_v C hr hlk hw dX9_votes_174
    · have hf := o_t hf c11
      refine lv_aload_n C.1.1 C.1.2.1 dX9_votes_149 rfl (lv_at hl 0 rfl) ?_
      refine m_ref C hw fM_0_42 flX9_74 dX9_votes_150 ?_
      refine lv_bipush (v := (31 : Int32)) C.1.1 C.1.2.1 dX9_votes_153 rfl ?_
      have g15 := inb_in (o_g hf).1
      have hf := (o_g hf).2
      refine m_ald C hw aM_20 g15 dX9_votes_155 ?_
      refine lv_iconst (v := (1 : Int32)) C.1.1 C.1.2.1 dX9_votes_156 rfl ?_
      refine lv_iadd C.1.1 C.1.2.1 dX9_votes_157 ?_
      refine lv_goto (tgt := 162) C.1.1 C.1.2.1 dX9_votes_158 (by decide) ?_
      have g16 := inb_in (o_g hf).1
      have hf := (o_g hf).2
      refine m_ast C hw aM_20 g16 dX9_votes_162 (fun H locs hw => ?_)
      refine lv_aload_n C.1.1 C.1.2.1 dX9_votes_163 rfl (lv_at hl 0 rfl) ?_
      refine m_ref C hw fM_0_42 flX9_74 dX9_votes_164 ?_
      refine lv_bipush (v := (32 : Int32)) C.1.1 C.1.2.1 dX9_votes_167 rfl ?_
      refine lv_dup2_11 C.1.1 C.1.2.1 dX9_votes_169 rfl rfl ?_
      have g17 := inb_in (o_g hf).1
      have hf := (o_g hf).2
      refine m_ald C hw aM_20 g17 dX9_votes_170 ?_
      refine lv_iconst (v := (1 : Int32)) C.1.1 C.1.2.1 dX9_votes_171 rfl ?_
      refine lv_iadd C.1.1 C.1.2.1 dX9_votes_172 ?_
      have g18 := inb_in (o_g hf).1
      have hf := (o_g hf).2
      refine m_ast C hw aM_20 g18 dX9_votes_173 (fun H locs hw => ?_)
      obtain rfl := Option.some.inj hf
      exact ret_v C hr hlk hw dX9_votes_174
  · have hf := o_t hf c9
    refine lv_iconst (v := (0 : Int32)) C.1.1 C.1.2.1 dX9_votes_134 rfl ?_
    refine lv_goto (tgt := 162) C.1.1 C.1.2.1 dX9_votes_135 (by decide) ?_
    have g19 := inb_in (o_g hf).1
    have hf := (o_g hf).2
    refine m_ast C hw aM_20 g19 dX9_votes_162 (fun H locs hw => ?_)
    refine lv_aload_n C.1.1 C.1.2.1 dX9_votes_163 rfl (lv_at hl 0 rfl) ?_
    refine m_ref C hw fM_0_42 flX9_74 dX9_votes_164 ?_
    refine lv_bipush (v := (32 : Int32)) C.1.1 C.1.2.1 dX9_votes_167 rfl ?_
    refine lv_dup2_11 C.1.1 C.1.2.1 dX9_votes_169 rfl rfl ?_
    have g20 := inb_in (o_g hf).1
    have hf := (o_g hf).2
    refine m_ald C hw aM_20 g20 dX9_votes_170 ?_
    refine lv_iconst (v := (1 : Int32)) C.1.1 C.1.2.1 dX9_votes_171 rfl ?_
    refine lv_iadd C.1.1 C.1.2.1 dX9_votes_172 ?_
    have g21 := inb_in (o_g hf).1
    have hf := (o_g hf).2
    refine m_ast C hw aM_20 g21 dX9_votes_173 (fun H locs hw => ?_)
    obtain rfl := Option.some.inj hf
    exact ret_v C hr hlk hw dX9_votes_174
set_option maxRecDepth 20000 in
set_option maxHeartbeats 2000000 in
theorem wB_X9_votes_55 {p : Program} {e : Env} {s : State} {m : MethodId} {args : Array Value} {below : List Frame} {meth : Method} {c : Code} (C : Cx G p s m args c cX9_votes 3 RX9) (hr : meth.sig.returnType = none) (hlk : meth.locks = false) {ro : TX} : ∀ (X : TX) (M : TX) (L : TL)  (H : Heap) (locs : List Loc) (ls : Array Slot), Wh G s X M L H locs → lv_has ls 3 [(0, .ref (gA G (41 + 0)))] → B_X9_votes_55 M = some ro → W p l e (rz 5 113) s m args below meth c H locs 0 0 (MQ below (Dv G X ro L) args s 0 0 (AB G)) (F0 m 55 ls []) := by
  intro X M L H locs ls hw hl hf
  unfold B_X9_votes_55 at hf
  refine lv_aload_n C.1.1 C.1.2.1 dX9_votes_55 rfl (lv_at hl 0 rfl) ?_
  refine m_ref C hw fM_0_42 flX9_74 dX9_votes_56 ?_
  refine lv_bipush (v := (30 : Int32)) C.1.1 C.1.2.1 dX9_votes_59 rfl ?_
  have g2 := inb_in (o_g hf).1
  have hf := (o_g hf).2
  refine m_ald C hw aM_20 g2 dX9_votes_61 ?_
  refine lv_istore_n (lv' := [(1, .int (M 20 (Int32.toNatClampNeg (30 : Int32)))), (0, .ref (gA G (41 + 0)))]) C.1.1 C.1.2.1 dX9_votes_62 rfl hl (by decide) rfl (fun ls hl => ?_)
  refine lv_aload_n C.1.1 C.1.2.1 dX9_votes_63 rfl (lv_at hl 1 rfl) ?_
  refine lv_iconst (v := (0 : Int32)) C.1.1 C.1.2.1 dX9_votes_64 rfl ?_
  obtain ⟨q3, h3, hf⟩ := o_bind hf
  refine aft_i hw (run_VM C hw clX9_364 (As := [.int (0 : Int32)]) (rest := []) oM_0 (c_X9_marginOf h3) rfl hl.1 rfl ⟨(Nat.le_of_ble_eq_true rfl), (Nat.le_of_ble_eq_true rfl)⟩ ⟨Nat.zero_le _, Nat.zero_le _⟩ rfl (Nat.le_of_ble_eq_true rfl) dX9_votes_65) (fun H locs hw => ?_)
  refine lv_istore_n (lv' := [(2, .int q3), (1, .int (M 20 (Int32.toNatClampNeg (30 : Int32)))), (0, .ref (gA G (41 + 0)))]) C.1.1 C.1.2.1 dX9_votes_68 rfl hl (by decide) rfl (fun ls hl => ?_)
  refine lv_iload_n C.1.1 C.1.2.1 dX9_votes_69 rfl (lv_at hl 0 rfl) ?_
  refine lv_if_ne (tgt := 93) C.1.1 C.1.2.1 dX9_votes_70 (by decide) (fun c4 => ?_) (fun c4 => ?_)
  · have hf := o_f hf c4
    refine lv_aload_n C.1.1 C.1.2.1 dX9_votes_93 rfl (lv_at hl 2 rfl) ?_
    refine m_ref C hw fM_0_42 flX9_74 dX9_votes_94 ?_
    refine lv_bipush (v := (30 : Int32)) C.1.1 C.1.2.1 dX9_votes_97 rfl ?_
    refine lv_iload_n C.1.1 C.1.2.1 dX9_votes_99 rfl (lv_at hl 0 rfl) ?_
    refine lv_if_le (tgt := 107) C.1.1 C.1.2.1 dX9_votes_100 (by decide) (fun c5 => ?_) (fun c5 => ?_)
    · have hf := o_t hf c5
      refine lv_iload_n C.1.1 C.1.2.1 dX9_votes_107 rfl (lv_at hl 0 rfl) ?_
      refine lv_if_ge (tgt := 115) C.1.1 C.1.2.1 dX9_votes_108 (by decide) (fun c6 => ?_) (fun c6 => ?_)
      · have hf := o_t hf c6
        refine lv_iload_n C.1.1 C.1.2.1 dX9_votes_115 rfl (lv_at hl 1 rfl) ?_
        exact wB_X9_votes_116 C hr hlk X M L (M 20 (Int32.toNatClampNeg (30 : Int32))) (M 20 (Int32.toNatClampNeg (30 : Int32))) (30 : Int32) _ _ _ hw (lv_sub hl [2, 1] rfl) hf
      · have hf := o_f hf c6
        refine lv_iconst (v := (1 : Int32)) C.1.1 C.1.2.1 dX9_votes_111 rfl ?_
        refine lv_goto (tgt := 116) C.1.1 C.1.2.1 dX9_votes_112 (by decide) ?_
        exact wB_X9_votes_116 C hr hlk X M L (M 20 (Int32.toNatClampNeg (30 : Int32))) (1 : Int32) (30 : Int32) _ _ _ hw (lv_sub hl [2, 1] rfl) hf
    · have hf := o_f hf c5
      refine lv_iconst (v := (0 : Int32)) C.1.1 C.1.2.1 dX9_votes_103 rfl ?_
      refine lv_goto (tgt := 116) C.1.1 C.1.2.1 dX9_votes_104 (by decide) ?_
      exact wB_X9_votes_116 C hr hlk X M L (M 20 (Int32.toNatClampNeg (30 : Int32))) (0 : Int32) (30 : Int32) _ _ _ hw (lv_sub hl [2, 1] rfl) hf
  · have hf := o_t hf c4
    refine lv_aload_n C.1.1 C.1.2.1 dX9_votes_73 rfl (lv_at hl 2 rfl) ?_
    refine lv_aload_n C.1.1 C.1.2.1 dX9_votes_74 rfl (lv_at hl 2 rfl) ?_
    obtain ⟨q22, h22, hf⟩ := o_bind hf
    refine aft_i hw (run_VM C hw clX9_376 (As := []) (rest := [.ref (gA G (41 + 0))]) oM_0 (c_X9_everybody h22) rfl hl.1 rfl ⟨(Nat.le_of_ble_eq_true rfl), (Nat.le_of_ble_eq_true rfl)⟩ ⟨Nat.zero_le _, Nat.zero_le _⟩ rfl (Nat.le_of_ble_eq_true rfl) dX9_votes_75) (fun H locs hw => ?_)
    refine lv_iconst (v := (0 : Int32)) C.1.1 C.1.2.1 dX9_votes_78 rfl ?_
    obtain ⟨q23, h23, hf⟩ := o_bind hf
    refine aft_i hw (run_VM C hw clX9_332 (As := [.int q22, .int (0 : Int32)]) (rest := []) oM_0 (c_X9_votesIn h23) rfl hl.1 rfl ⟨(Nat.le_of_ble_eq_true rfl), (Nat.le_of_ble_eq_true rfl)⟩ ⟨Nat.zero_le _, Nat.zero_le _⟩ rfl (Nat.le_of_ble_eq_true rfl) dX9_votes_79) (fun H locs hw => ?_)
    refine lv_aload_n C.1.1 C.1.2.1 dX9_votes_82 rfl (lv_at hl 2 rfl) ?_
    refine lv_aload_n C.1.1 C.1.2.1 dX9_votes_83 rfl (lv_at hl 2 rfl) ?_
    obtain ⟨q24, h24, hf⟩ := o_bind hf
    refine aft_i hw (run_VM C hw clX9_376 (As := []) (rest := [.ref (gA G (41 + 0)), .int q23]) oM_0 (c_X9_everybody h24) rfl hl.1 rfl ⟨(Nat.le_of_ble_eq_true rfl), (Nat.le_of_ble_eq_true rfl)⟩ ⟨Nat.zero_le _, Nat.zero_le _⟩ rfl (Nat.le_of_ble_eq_true rfl) dX9_votes_84) (fun H locs hw => ?_)
    refine lv_iconst (v := (1 : Int32)) C.1.1 C.1.2.1 dX9_votes_87 rfl ?_
    obtain ⟨q25, h25, hf⟩ := o_bind hf
    refine aft_i hw (run_VM C hw clX9_332 (As := [.int q24, .int (1 : Int32)]) (rest := [.int q23]) oM_0 (c_X9_votesIn h25) rfl hl.1 rfl ⟨(Nat.le_of_ble_eq_true rfl), (Nat.le_of_ble_eq_true rfl)⟩ ⟨Nat.zero_le _, Nat.zero_le _⟩ rfl (Nat.le_of_ble_eq_true rfl) dX9_votes_88) (fun H locs hw => ?_)
    refine lv_isub C.1.1 C.1.2.1 dX9_votes_91 ?_
    refine lv_istore_n (lv' := [(2, .int (q23 - q25)), (1, .int (M 20 (Int32.toNatClampNeg (30 : Int32)))), (0, .ref (gA G (41 + 0)))]) C.1.1 C.1.2.1 dX9_votes_92 rfl hl (by decide) rfl (fun ls hl => ?_)
    refine lv_aload_n C.1.1 C.1.2.1 dX9_votes_93 rfl (lv_at hl 2 rfl) ?_
    refine m_ref C hw fM_0_42 flX9_74 dX9_votes_94 ?_
    refine lv_bipush (v := (30 : Int32)) C.1.1 C.1.2.1 dX9_votes_97 rfl ?_
    refine lv_iload_n C.1.1 C.1.2.1 dX9_votes_99 rfl (lv_at hl 0 rfl) ?_
    refine lv_if_le (tgt := 107) C.1.1 C.1.2.1 dX9_votes_100 (by decide) (fun c26 => ?_) (fun c26 => ?_)
    · have hf := o_t hf c26
      refine lv_iload_n C.1.1 C.1.2.1 dX9_votes_107 rfl (lv_at hl 0 rfl) ?_
      refine lv_if_ge (tgt := 115) C.1.1 C.1.2.1 dX9_votes_108 (by decide) (fun c27 => ?_) (fun c27 => ?_)
      · have hf := o_t hf c27
        refine lv_iload_n C.1.1 C.1.2.1 dX9_votes_115 rfl (lv_at hl 1 rfl) ?_
        exact wB_X9_votes_116 C hr hlk X M L (M 20 (Int32.toNatClampNeg (30 : Int32))) (M 20 (Int32.toNatClampNeg (30 : Int32))) (30 : Int32) _ _ _ hw (lv_sub hl [2, 1] rfl) hf
      · have hf := o_f hf c27
        refine lv_iconst (v := (1 : Int32)) C.1.1 C.1.2.1 dX9_votes_111 rfl ?_
        refine lv_goto (tgt := 116) C.1.1 C.1.2.1 dX9_votes_112 (by decide) ?_
        exact wB_X9_votes_116 C hr hlk X M L (M 20 (Int32.toNatClampNeg (30 : Int32))) (1 : Int32) (30 : Int32) _ _ _ hw (lv_sub hl [2, 1] rfl) hf
    · have hf := o_f hf c26
      refine lv_iconst (v := (0 : Int32)) C.1.1 C.1.2.1 dX9_votes_103 rfl ?_
      refine lv_goto (tgt := 116) C.1.1 C.1.2.1 dX9_votes_104 (by decide) ?_
      exact wB_X9_votes_116 C hr hlk X M L (M 20 (Int32.toNatClampNeg (30 : Int32))) (0 : Int32) (30 : Int32) _ _ _ hw (lv_sub hl [2, 1] rfl) hf
set_option maxRecDepth 20000 in
set_option maxHeartbeats 2000000 in
theorem c_X9_votes   {X M : TX} {L : TL}  {ro : TX} (hf : f_X9_votes M = some ro) : CTv G l yX9_votes cX9_votes 3 none 5 113 [.ref (gA G (41 + 0))] X M L X ro L := by
  unfold f_X9_votes at hf
  refine ct_of (by decide +kernel) (Nat.le_of_ble_eq_true rfl) (fun p e s m args below meth c H locs ls C hr hlk hw hl => ?_)
  have C : Cx G p s m args c cX9_votes 3 RX9 := C
  have hl : lv_has ls 3 [(0, .ref (gA G (41 + 0)))] := hl
  refine lv_aload_n C.1.1 C.1.2.1 dX9_votes_0 rfl (lv_at hl 0 rfl) ?_
  refine m_get C hw iM_0_20 flX9_160 dX9_votes_1 ?_
  refine lv_if_le (tgt := 55) C.1.1 C.1.2.1 dX9_votes_4 (by decide) (fun c1 => ?_) (fun c1 => ?_)
  · have hf := o_t hf c1
    exact wB_X9_votes_55 C hr hlk X M L _ _ _ hw (lv_sub hl [0] rfl) hf
  · have hf := o_f hf c1
    refine lv_aload_n C.1.1 C.1.2.1 dX9_votes_7 rfl (lv_at hl 0 rfl) ?_
    refine m_ref C hw fM_0_15 flX9_38 dX9_votes_8 ?_
    refine lv_iconst (v := (2 : Int32)) C.1.1 C.1.2.1 dX9_votes_11 rfl ?_
    refine lv_aload_n C.1.1 C.1.2.1 dX9_votes_12 rfl (lv_at hl 0 rfl) ?_
    refine m_ref C hw fM_0_42 flX9_74 dX9_votes_13 ?_
    refine lv_bipush (v := (32 : Int32)) C.1.1 C.1.2.1 dX9_votes_16 rfl ?_
    have g28 := inb_in (o_g hf).1
    have hf := (o_g hf).2
    refine m_ald C hw aM_20 g28 dX9_votes_18 ?_
    refine lv_aload_n C.1.1 C.1.2.1 dX9_votes_19 rfl (lv_at hl 0 rfl) ?_
    refine m_get C hw iM_0_20 flX9_160 dX9_votes_20 ?_
    have g29 := o_n1 hf
    have hf := o_n2 hf
    refine lv_irem C.1.1 C.1.2.1 dX9_votes_23 g29 ?_
    refine lv_imul C.1.1 C.1.2.1 dX9_votes_24 ?_
    have g30 := inb_in (o_g hf).1
    have hf := (o_g hf).2
    refine m_ald C hw aM_8 g30 dX9_votes_25 ?_
    refine lv_istore_n (lv' := [(1, .int (M 8 (Int32.toNatClampNeg ((2 : Int32) * ((M 20 (Int32.toNatClampNeg (32 : Int32))) - (M 20 (Int32.toNatClampNeg (32 : Int32))) / (M 0 20) * (M 0 20)))))), (0, .ref (gA G (41 + 0)))]) C.1.1 C.1.2.1 dX9_votes_26 rfl hl (by decide) rfl (fun ls hl => ?_)
    refine lv_aload_n C.1.1 C.1.2.1 dX9_votes_27 rfl (lv_at hl 1 rfl) ?_
    refine m_ref C hw fM_0_15 flX9_38 dX9_votes_28 ?_
    refine lv_iconst (v := (2 : Int32)) C.1.1 C.1.2.1 dX9_votes_31 rfl ?_
    refine lv_aload_n C.1.1 C.1.2.1 dX9_votes_32 rfl (lv_at hl 1 rfl) ?_
    refine m_ref C hw fM_0_42 flX9_74 dX9_votes_33 ?_
    refine lv_bipush (v := (32 : Int32)) C.1.1 C.1.2.1 dX9_votes_36 rfl ?_
    have g31 := inb_in (o_g hf).1
    have hf := (o_g hf).2
    refine m_ald C hw aM_20 g31 dX9_votes_38 ?_
    refine lv_aload_n C.1.1 C.1.2.1 dX9_votes_39 rfl (lv_at hl 1 rfl) ?_
    refine m_get C hw iM_0_20 flX9_160 dX9_votes_40 ?_
    have g32 := o_n1 hf
    have hf := o_n2 hf
    refine lv_irem C.1.1 C.1.2.1 dX9_votes_43 g32 ?_
    refine lv_imul C.1.1 C.1.2.1 dX9_votes_44 ?_
    refine lv_iconst (v := (1 : Int32)) C.1.1 C.1.2.1 dX9_votes_45 rfl ?_
    refine lv_iadd C.1.1 C.1.2.1 dX9_votes_46 ?_
    have g33 := inb_in (o_g hf).1
    have hf := (o_g hf).2
    refine m_ald C hw aM_8 g33 dX9_votes_47 ?_
    refine lv_istore_n (lv' := [(2, .int (M 8 (Int32.toNatClampNeg (((2 : Int32) * ((M 20 (Int32.toNatClampNeg (32 : Int32))) - (M 20 (Int32.toNatClampNeg (32 : Int32))) / (M 0 20) * (M 0 20))) + (1 : Int32))))), (1, .int (M 8 (Int32.toNatClampNeg ((2 : Int32) * ((M 20 (Int32.toNatClampNeg (32 : Int32))) - (M 20 (Int32.toNatClampNeg (32 : Int32))) / (M 0 20) * (M 0 20)))))), (0, .ref (gA G (41 + 0)))]) C.1.1 C.1.2.1 dX9_votes_48 rfl hl (by decide) rfl (fun ls hl => ?_)
    refine lv_aload_n C.1.1 C.1.2.1 dX9_votes_49 rfl (lv_at hl 2 rfl) ?_
    refine lv_iload_n C.1.1 C.1.2.1 dX9_votes_50 rfl (lv_at hl 1 rfl) ?_
    refine lv_iload_n C.1.1 C.1.2.1 dX9_votes_51 rfl (lv_at hl 0 rfl) ?_
    obtain ⟨q34, h34, hf⟩ := o_bind hf
    refine aft_v hw (run_VM C hw clX9_373 (As := [.int (M 8 (Int32.toNatClampNeg ((2 : Int32) * ((M 20 (Int32.toNatClampNeg (32 : Int32))) - (M 20 (Int32.toNatClampNeg (32 : Int32))) / (M 0 20) * (M 0 20))))), .int (M 8 (Int32.toNatClampNeg (((2 : Int32) * ((M 20 (Int32.toNatClampNeg (32 : Int32))) - (M 20 (Int32.toNatClampNeg (32 : Int32))) / (M 0 20) * (M 0 20))) + (1 : Int32))))]) (rest := []) oM_0 (c_X9_comesOver h34) rfl hl.1 rfl ⟨(Nat.le_of_ble_eq_true rfl), (Nat.le_of_ble_eq_true rfl)⟩ ⟨Nat.zero_le _, Nat.zero_le _⟩ rfl (Nat.le_of_ble_eq_true rfl) dX9_votes_52) (fun H locs hw => ?_)
    exact wB_X9_votes_55 C hr hlk X q34 L _ _ _ hw (lv_sub hl [2] rfl) hf
end
