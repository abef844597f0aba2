/-! WinnerDraws.would(IIIIIIII)I (('o', 'X', 0) ('i',) ('i',) ('i',) ('i',) ('i',) ('i',) ('i',) ('i',)) -/
def B_X8_would_128 (X : TX) (x1 : Int32) (x2 : Int32) (x3 : Int32) (x4 : Int32) (x5 : Int32) (x6 : Int32) (x7 : Int32) (x8 : Int32) (t0 : Int32) : Option (TX × (Int32 ⊕ Nat)) := (f_X8_need X t0).bind fun q8 => xb q8 (fun _ _ => (f_X4_tell q8.1 (0 : Int32) x1).bind fun q9 => (f_X4_tell q9 (1 : Int32) x2).bind fun q10 => (f_X4_tell q10 (2 : Int32) x3).bind fun q11 => (f_X4_tell q11 (3 : Int32) x4).bind fun q12 => (f_X4_tell q12 (4 : Int32) x5).bind fun q13 => (f_X4_tell q13 (5 : Int32) x6).bind fun q14 => (f_X4_tell q14 (6 : Int32) x7).bind fun q15 => (f_X4_tell q15 (7 : Int32) x8).bind fun q16 => (f_X4_price q16).bind fun q17 => some (q17.1, .inl q17.2))
def B_X8_would_94 (X : TX) (x1 : Int32) (x2 : Int32) (x3 : Int32) (x4 : Int32) (x5 : Int32) (x6 : Int32) (x7 : Int32) (x8 : Int32) (t0 : Int32) : Option (TX × (Int32 ⊕ Nat)) := (f_X8_need X t0).bind fun q6 => xb q6 (fun _ _ => if x7 < 0 then (B_X8_would_128 q6.1 x1 x2 x3 x4 x5 x6 x7 x8 (0 : Int32)) else (if (400 : Int32) < x7 then (B_X8_would_128 q6.1 x1 x2 x3 x4 x5 x6 x7 x8 (0 : Int32)) else (if x8 < 0 then (B_X8_would_128 q6.1 x1 x2 x3 x4 x5 x6 x7 x8 (0 : Int32)) else (if (10 : Int32) ≤ x8 then (B_X8_would_128 q6.1 x1 x2 x3 x4 x5 x6 x7 x8 (0 : Int32)) else (B_X8_would_128 q6.1 x1 x2 x3 x4 x5 x6 x7 x8 (1 : Int32))))))
def B_X8_would_60 (X : TX) (x1 : Int32) (x2 : Int32) (x3 : Int32) (x4 : Int32) (x5 : Int32) (x6 : Int32) (x7 : Int32) (x8 : Int32) (t0 : Int32) : Option (TX × (Int32 ⊕ Nat)) := (f_X8_need X t0).bind fun q4 => xb q4 (fun _ _ => if x5 < 0 then (B_X8_would_94 q4.1 x1 x2 x3 x4 x5 x6 x7 x8 (0 : Int32)) else (if (60 : Int32) < x5 then (B_X8_would_94 q4.1 x1 x2 x3 x4 x5 x6 x7 x8 (0 : Int32)) else (if x6 < 0 then (B_X8_would_94 q4.1 x1 x2 x3 x4 x5 x6 x7 x8 (0 : Int32)) else (if (400 : Int32) < x6 then (B_X8_would_94 q4.1 x1 x2 x3 x4 x5 x6 x7 x8 (0 : Int32)) else (B_X8_would_94 q4.1 x1 x2 x3 x4 x5 x6 x7 x8 (1 : Int32))))))
def B_X8_would_29 (X : TX) (x1 : Int32) (x2 : Int32) (x3 : Int32) (x4 : Int32) (x5 : Int32) (x6 : Int32) (x7 : Int32) (x8 : Int32) (t0 : Int32) : Option (TX × (Int32 ⊕ Nat)) := (f_X8_need X t0).bind fun q2 => xb q2 (fun _ _ => if x3 < 0 then (B_X8_would_60 q2.1 x1 x2 x3 x4 x5 x6 x7 x8 (0 : Int32)) else (if (10 : Int32) < x3 then (B_X8_would_60 q2.1 x1 x2 x3 x4 x5 x6 x7 x8 (0 : Int32)) else (if x4 < 0 then (B_X8_would_60 q2.1 x1 x2 x3 x4 x5 x6 x7 x8 (0 : Int32)) else (if (10 : Int32) < x4 then (B_X8_would_60 q2.1 x1 x2 x3 x4 x5 x6 x7 x8 (0 : Int32)) else (B_X8_would_60 q2.1 x1 x2 x3 x4 x5 x6 x7 x8 (1 : Int32))))))
def f_X8_would (X : TX) (x1 : Int32) (x2 : Int32) (x3 : Int32) (x4 : Int32) (x5 : Int32) (x6 : Int32) (x7 : Int32) (x8 : Int32) : Option (TX × (Int32 ⊕ Nat)) := if x1 < 0 then (B_X8_would_29 X x1 x2 x3 x4 x5 x6 x7 x8 (0 : Int32)) else (if (198 : Int32) < x1 then (B_X8_would_29 X x1 x2 x3 x4 x5 x6 x7 x8 (0 : Int32)) else (if x2 < (-99 : Int32) then (B_X8_would_29 X x1 x2 x3 x4 x5 x6 x7 x8 (0 : Int32)) else (if (99 : Int32) < x2 then (B_X8_would_29 X x1 x2 x3 x4 x5 x6 x7 x8 (0 : Int32)) else (B_X8_would_29 X x1 x2 x3 x4 x5 x6 x7 x8 (1 : Int32)))))
section
variable {G : GP} {l : Launch}
set_option maxRecDepth 20000 in
set_option maxHeartbeats 2000000 in
theorem wB_X8_would_128 {p : Program} {e : Env} {s : State} {m : MethodId} {args : Array Value} {below : List Frame} {meth : Method} {c : Code} (C : Cx G p s m args c cX8_would 9 RX8) (hr : meth.sig.returnType = (some .int)) (hlk : meth.locks = false) (hnt : ∀ x ∈ c.exceptionTable.toList, False) (hst : l.stackTraces = false) {ro : TX × (Int32 ⊕ Nat)} : ∀ (X : TX) (M : TX) (L : TL) (x1 : Int32) (x2 : Int32) (x3 : Int32) (x4 : Int32) (x5 : Int32) (x6 : Int32) (x7 : Int32) (x8 : Int32) (t0 : Int32) (H : Heap) (locs : List Loc) (ls : Array Slot), Wh G s X M L H locs → lv_has ls 9 [(0, .ref (gA G 0)), (1, .int x1), (2, .int x2), (3, .int x3), (4, .int x4), (5, .int x5), (6, .int x6), (7, .int x7), (8, .int x8)] → B_X8_would_128 X x1 x2 x3 x4 x5 x6 x7 x8 t0 = some ro → W p l e (rx 7 141 4) s m args below meth c H locs 3 18 (vx_MQ below (Dxi G ro M L) (XD G ro M L) args s 4 (6 * 4) (AB G)) (F0 m 128 ls [.int t0, .ref (gA G 0)]) := by
  intro X M L x1 x2 x3 x4 x5 x6 x7 x8 t0 H locs ls hw hl hf
  unfold B_X8_would_128 at hf
  obtain ⟨q8, h8, hf⟩ := o_bind hf
  refine aftx_v hw (runx_VX C hw clX8_158 (tb2 212 rfl rfl) (As := [.int t0]) (rest := []) oX_0 (c_X8_need hst h8) rfl hl.1 rfl ⟨(Nat.le_of_ble_eq_true rfl), (Nat.le_of_ble_eq_true rfl)⟩ ⟨Nat.le_of_ble_eq_true rfl, Nat.le_of_ble_eq_true rfl⟩ rfl (Nat.le_of_ble_eq_true rfl) dX8_would_128) hf hnt hlk (Nat.le_of_ble_eq_true rfl) (Nat.le_of_ble_eq_true rfl) (fun hf H locs hw => ?_)
  refine lv_aload_n C.1.1 C.1.2.1 dX8_would_131 rfl (lv_at hl 0 rfl) ?_
  refine x_ref C hw fX_0_3 flX8_29 dX8_would_132 ?_
  refine lv_iconst (v := (0 : Int32)) C.1.1 C.1.2.1 dX8_would_135 rfl ?_
  refine lv_iload_n C.1.1 C.1.2.1 dX8_would_136 rfl (lv_at hl 1 rfl) ?_
  obtain ⟨q9, h9, hf⟩ := o_bind hf
  refine aft_v hw (run_VX C hw clX8_237 (As := [.int (0 : Int32), .int x1]) (rest := []) oX_19 (c_X4_tell h9) rfl hl.1 rfl ⟨(Nat.le_of_ble_eq_true rfl), (Nat.le_of_ble_eq_true rfl)⟩ ⟨Nat.le_of_ble_eq_true rfl, Nat.le_of_ble_eq_true rfl⟩ rfl (Nat.le_of_ble_eq_true rfl) dX8_would_137) (fun H locs hw => ?_)
  refine lv_aload_n C.1.1 C.1.2.1 dX8_would_140 rfl (lv_at hl 0 rfl) ?_
  refine x_ref C hw fX_0_3 flX8_29 dX8_would_141 ?_
  refine lv_iconst (v := (1 : Int32)) C.1.1 C.1.2.1 dX8_would_144 rfl ?_
  refine lv_iload_n C.1.1 C.1.2.1 dX8_would_145 rfl (lv_at hl 2 rfl) ?_
  obtain ⟨q10, h10, hf⟩ := o_bind hf
  refine aft_v hw (run_VX C hw clX8_237 (As := [.int (1 : Int32), .int x2]) (rest := []) oX_19 (c_X4_tell h10) rfl hl.1 rfl ⟨(Nat.le_of_ble_eq_true rfl), (Nat.le_of_ble_eq_true rfl)⟩ ⟨Nat.le_of_ble_eq_true rfl, Nat.le_of_ble_eq_true rfl⟩ rfl (Nat.le_of_ble_eq_true rfl) dX8_would_146) (fun H locs hw => ?_)
  refine lv_aload_n C.1.1 C.1.2.1 dX8_would_149 rfl (lv_at hl 0 rfl) ?_
  refine x_ref C hw fX_0_3 flX8_29 dX8_would_150 ?_
  refine lv_iconst (v := (2 : Int32)) C.1.1 C.1.2.1 dX8_would_153 rfl ?_
  refine lv_iload_n C.1.1 C.1.2.1 dX8_would_154 rfl (lv_at hl 3 rfl) ?_
  obtain ⟨q11, h11, hf⟩ := o_bind hf
  refine aft_v hw (run_VX C hw clX8_237 (As := [.int (2 : Int32), .int x3]) (rest := []) oX_19 (c_X4_tell h11) rfl hl.1 rfl ⟨(Nat.le_of_ble_eq_true rfl), (Nat.le_of_ble_eq_true rfl)⟩ ⟨Nat.le_of_ble_eq_true rfl, Nat.le_of_ble_eq_true rfl⟩ rfl (Nat.le_of_ble_eq_true rfl) dX8_would_155) (fun H locs hw => ?_)
  refine lv_aload_n C.1.1 C.1.2.1 dX8_would_158 rfl (lv_at hl 0 rfl) ?_
  refine x_ref C hw fX_0_3 flX8_29 dX8_would_159 ?_
  refine lv_iconst (v := (3 : Int32)) C.1.1 C.1.2.1 dX8_would_162 rfl ?_
  refine lv_iload C.1.1 C.1.2.1 dX8_would_163 (lv_at hl 4 rfl) ?_
  obtain ⟨q12, h12, hf⟩ := o_bind hf
  refine aft_v hw (run_VX C hw clX8_237 (As := [.int (3 : Int32), .int x4]) (rest := []) oX_19 (c_X4_tell h12) rfl hl.1 rfl ⟨(Nat.le_of_ble_eq_true rfl), (Nat.le_of_ble_eq_true rfl)⟩ ⟨Nat.le_of_ble_eq_true rfl, Nat.le_of_ble_eq_true rfl⟩ rfl (Nat.le_of_ble_eq_true rfl) dX8_would_165) (fun H locs hw => ?_)
  refine lv_aload_n C.1.1 C.1.2.1 dX8_would_168 rfl (lv_at hl 0 rfl) ?_
  refine x_ref C hw fX_0_3 flX8_29 dX8_would_169 ?_
  refine lv_iconst (v := (4 : Int32)) C.1.1 C.1.2.1 dX8_would_172 rfl ?_
  refine lv_iload C.1.1 C.1.2.1 dX8_would_173 (lv_at hl 5 rfl) ?_
  obtain ⟨q13, h13, hf⟩ := o_bind hf
  refine aft_v hw (run_VX C hw clX8_237 (As := [.int (4 : Int32), .int x5]) (rest := []) oX_19 (c_X4_tell h13) rfl hl.1 rfl ⟨(Nat.le_of_ble_eq_true rfl), (Nat.le_of_ble_eq_true rfl)⟩ ⟨Nat.le_of_ble_eq_true rfl, Nat.le_of_ble_eq_true rfl⟩ rfl (Nat.le_of_ble_eq_true rfl) dX8_would_175) (fun H locs hw => ?_)
  refine lv_aload_n C.1.1 C.1.2.1 dX8_would_178 rfl (lv_at hl 0 rfl) ?_
  refine x_ref C hw fX_0_3 flX8_29 dX8_would_179 ?_
  refine lv_iconst (v := (5 : Int32)) C.1.1 C.1.2.1 dX8_would_182 rfl ?_
  refine lv_iload C.1.1 C.1.2.1 dX8_would_183 (lv_at hl 6 rfl) ?_
  obtain ⟨q14, h14, hf⟩ := o_bind hf
  refine aft_v hw (run_VX C hw clX8_237 (As := [.int (5 : Int32), .int x6]) (rest := []) oX_19 (c_X4_tell h14) rfl hl.1 rfl ⟨(Nat.le_of_ble_eq_true rfl), (Nat.le_of_ble_eq_true rfl)⟩ ⟨Nat.le_of_ble_eq_true rfl, Nat.le_of_ble_eq_true rfl⟩ rfl (Nat.le_of_ble_eq_true rfl) dX8_would_185) (fun H locs hw => ?_)
  refine lv_aload_n C.1.1 C.1.2.1 dX8_would_188 rfl (lv_at hl 0 rfl) ?_
  refine x_ref C hw fX_0_3 flX8_29 dX8_would_189 ?_
  refine lv_bipush (v := (6 : Int32)) C.1.1 C.1.2.1 dX8_would_192 rfl ?_
  refine lv_iload C.1.1 C.1.2.1 dX8_would_194 (lv_at hl 7 rfl) ?_
  obtain ⟨q15, h15, hf⟩ := o_bind hf
  refine aft_v hw (run_VX C hw clX8_237 (As := [.int (6 : Int32), .int x7]) (rest := []) oX_19 (c_X4_tell h15) rfl hl.1 rfl ⟨(Nat.le_of_ble_eq_true rfl), (Nat.le_of_ble_eq_true rfl)⟩ ⟨Nat.le_of_ble_eq_true rfl, Nat.le_of_ble_eq_true rfl⟩ rfl (Nat.le_of_ble_eq_true rfl) dX8_would_196) (fun H locs hw => ?_)
  refine lv_aload_n C.1.1 C.1.2.1 dX8_would_199 rfl (lv_at hl 0 rfl) ?_
  refine x_ref C hw fX_0_3 flX8_29 dX8_would_200 ?_
  refine lv_bipush (v := (7 : Int32)) C.1.1 C.1.2.1 dX8_would_203 rfl ?_
  refine lv_iload C.1.1 C.1.2.1 dX8_would_205 (lv_at hl 8 rfl) ?_
  obtain ⟨q16, h16, hf⟩ := o_bind hf
  refine aft_v hw (run_VX C hw clX8_237 (As := [.int (7 : Int32), .int x8]) (rest := []) oX_19 (c_X4_tell h16) rfl hl.1 rfl ⟨(Nat.le_of_ble_eq_true rfl), (Nat.le_of_ble_eq_true rfl)⟩ ⟨Nat.le_of_ble_eq_true rfl, Nat.le_of_ble_eq_true rfl⟩ rfl (Nat.le_of_ble_eq_true rfl) dX8_would_207) (fun H locs hw => ?_)
  refine lv_aload_n C.1.1 C.1.2.1 dX8_would_210 rfl (lv_at hl 0 rfl) ?_
  refine x_ref C hw fX_0_3 flX8_29 dX8_would_211 ?_
  obtain ⟨q17, h17, hf⟩ := o_bind hf
  refine aft_i hw (run_VX C hw clX8_240 (As := []) (rest := []) oX_19 (c_X4_price h17) rfl hl.1 rfl ⟨(Nat.le_of_ble_eq_true rfl), (Nat.le_of_ble_eq_true rfl)⟩ ⟨Nat.le_of_ble_eq_true rfl, Nat.le_of_ble_eq_true rfl⟩ rfl (Nat.le_of_ble_eq_true rfl) dX8_would_214) (fun H locs hw => ?_)
  exact retx_i C hr hlk hw (Option.some.inj hf).symm (Nat.le_of_ble_eq_true rfl) (Nat.le_of_ble_eq_true rfl) dX8_would_217
set_option maxRecDepth 20000 in
set_option maxHeartbeats 2000000 in
theorem wB_X8_would_94 {p : Program} {e : Env} {s : State} {m : MethodId} {args : Array Value} {below : List Frame} {meth : Method} {c : Code} (C : Cx G p s m args c cX8_would 9 RX8) (hr : meth.sig.returnType = (some .int)) (hlk : meth.locks = false) (hnt : ∀ x ∈ c.exceptionTable.toList, False) (hst : l.stackTraces = false) {ro : TX × (Int32 ⊕ Nat)} : ∀ (X : TX) (M : TX) (L : TL) (x1 : Int32) (x2 : Int32) (x3 : Int32) (x4 : Int32) (x5 : Int32) (x6 : Int32) (x7 : Int32) (x8 : Int32) (t0 : Int32) (H : Heap) (locs : List Loc) (ls : Array Slot), Wh G s X M L H locs → lv_has ls 9 [(0, .ref (gA G 0)), (1, .int x1), (2, .int x2), (3, .int x3), (4, .int x4), (5, .int x5), (6, .int x6), (7, .int x7), (8, .int x8)] → B_X8_would_94 X x1 x2 x3 x4 x5 x6 x7 x8 t0 = some ro → W p l e (rx 7 141 4) s m args below meth c H locs 2 12 (vx_MQ below (Dxi G ro M L) (XD G ro M L) args s 4 (6 * 4) (AB G)) (F0 m 94 ls [.int t0, .ref (gA G 0)]) := by
  intro X M L x1 x2 x3 x4 x5 x6 x7 x8 t0 H locs ls hw hl hf
  unfold B_X8_would_94 at hf
  obtain ⟨q6, h6, hf⟩ := o_bind hf
  refine aftx_v hw (runx_VX C hw clX8_158 (tb2 212 rfl rfl) (As := [.int t0]) (rest := []) oX_0 (c_X8_need hst h6) rfl hl.1 rfl ⟨(Nat.le_of_ble_eq_true rfl), (Nat.le_of_ble_eq_true rfl)⟩ ⟨Nat.le_of_ble_eq_true rfl, Nat.le_of_ble_eq_true rfl⟩ rfl (Nat.le_of_ble_eq_true rfl) dX8_would_94) hf hnt hlk (Nat.le_of_ble_eq_true rfl) (Nat.le_of_ble_eq_true rfl) (fun hf H locs hw => ?_)
  refine lv_aload_n C.1.1 C.1.2.1 dX8_would_97 rfl (lv_at hl 0 rfl) ?_
  refine lv_iload C.1.1 C.1.2.1 dX8_would_98 (lv_at hl 7 rfl) ?_
  refine lv_if_lt (tgt := 127) C.1.1 C.1.2.1 dX8_would_100 (by decide) (fun c7 => ?_) (fun c7 => ?_)
  · have hf := o_t hf c7
    refine lv_iconst (v := (0 : Int32)) C.1.1 C.1.2.1 dX8_would_127 rfl ?_
    exact wB_X8_would_128 C hr hlk hnt hst q6.1 M L x1 x2 x3 x4 x5 x6 x7 x8 (0 : Int32) _ _ _ hw (lv_sub hl [0, 1, 2, 3, 4, 5, 6, 7, 8] rfl) hf
  · have hf := o_f hf c7
    refine lv_iload C.1.1 C.1.2.1 dX8_would_103 (lv_at hl 7 rfl) ?_
    refine lv_sipush (v := (400 : Int32)) C.1.1 C.1.2.1 dX8_would_105 rfl ?_
    refine lv_icmp_gt (tgt := 127) C.1.1 C.1.2.1 dX8_would_108 (by decide) (fun c18 => ?_) (fun c18 => ?_)
    · have hf := o_t hf c18
      refine lv_iconst (v := (0 : Int32)) C.1.1 C.1.2.1 dX8_would_127 rfl ?_
      exact wB_X8_would_128 C hr hlk hnt hst q6.1 M L x1 x2 x3 x4 x5 x6 x7 x8 (0 : Int32) _ _ _ hw (lv_sub hl [0, 1, 2, 3, 4, 5, 6, 7, 8] rfl) hf
    · have hf := o_f hf c18
      refine lv_iload C.1.1 C.1.2.1 dX8_would_111 (lv_at hl 8 rfl) ?_
      refine lv_if_lt (tgt := 127) C.1.1 C.1.2.1 dX8_would_113 (by decide) (fun c19 => ?_) (fun c19 => ?_)
      · have hf := o_t hf c19
        refine lv_iconst (v := (0 : Int32)) C.1.1 C.1.2.1 dX8_would_127 rfl ?_
        exact wB_X8_would_128 C hr hlk hnt hst q6.1 M L x1 x2 x3 x4 x5 x6 x7 x8 (0 : Int32) _ _ _ hw (lv_sub hl [0, 1, 2, 3, 4, 5, 6, 7, 8] rfl) hf
      · have hf := o_f hf c19
        refine lv_iload C.1.1 C.1.2.1 dX8_would_116 (lv_at hl 8 rfl) ?_
        refine lv_bipush (v := (10 : Int32)) C.1.1 C.1.2.1 dX8_would_118 rfl ?_
        refine lv_icmp_ge (tgt := 127) C.1.1 C.1.2.1 dX8_would_120 (by decide) (fun c20 => ?_) (fun c20 => ?_)
        · have hf := o_t hf c20
          refine lv_iconst (v := (0 : Int32)) C.1.1 C.1.2.1 dX8_would_127 rfl ?_
          exact wB_X8_would_128 C hr hlk hnt hst q6.1 M L x1 x2 x3 x4 x5 x6 x7 x8 (0 : Int32) _ _ _ hw (lv_sub hl [0, 1, 2, 3, 4, 5, 6, 7, 8] rfl) hf
        · have hf := o_f hf c20
          refine lv_iconst (v := (1 : Int32)) C.1.1 C.1.2.1 dX8_would_123 rfl ?_
          refine lv_goto (tgt := 128) C.1.1 C.1.2.1 dX8_would_124 (by decide) ?_
          exact wB_X8_would_128 C hr hlk hnt hst q6.1 M L x1 x2 x3 x4 x5 x6 x7 x8 (1 : Int32) _ _ _ hw (lv_sub hl [0, 1, 2, 3, 4, 5, 6, 7, 8] rfl) hf
set_option maxRecDepth 20000 in
set_option maxHeartbeats 2000000 in
theorem wB_X8_would_60 {p : Program} {e : Env} {s : State} {m : MethodId} {args : Array Value} {below : List Frame} {meth : Method} {c : Code} (C : Cx G p s m args c cX8_would 9 RX8) (hr : meth.sig.returnType = (some .int)) (hlk : meth.locks = false) (hnt : ∀ x ∈ c.exceptionTable.toList, False) (hst : l.stackTraces = false) {ro : TX × (Int32 ⊕ Nat)} : ∀ (X : TX) (M : TX) (L : TL) (x1 : Int32) (x2 : Int32) (x3 : Int32) (x4 : Int32) (x5 : Int32) (x6 : Int32) (x7 : Int32) (x8 : Int32) (t0 : Int32) (H : Heap) (locs : List Loc) (ls : Array Slot), Wh G s X M L H locs → lv_has ls 9 [(0, .ref (gA G 0)), (1, .int x1), (2, .int x2), (3, .int x3), (4, .int x4), (5, .int x5), (6, .int x6), (7, .int x7), (8, .int x8)] → B_X8_would_60 X x1 x2 x3 x4 x5 x6 x7 x8 t0 = some ro → W p l e (rx 7 141 4) s m args below meth c H locs 1 6 (vx_MQ below (Dxi G ro M L) (XD G ro M L) args s 4 (6 * 4) (AB G)) (F0 m 60 ls [.int t0, .ref (gA G 0)]) := by
  intro X M L x1 x2 x3 x4 x5 x6 x7 x8 t0 H locs ls hw hl hf
  unfold B_X8_would_60 at hf
  obtain ⟨q4, h4, hf⟩ := o_bind hf
  refine aftx_v hw (runx_VX C hw clX8_158 (tb2 212 rfl rfl) (As := [.int t0]) (rest := []) oX_0 (c_X8_need hst h4) rfl hl.1 rfl ⟨(Nat.le_of_ble_eq_true rfl), (Nat.le_of_ble_eq_true rfl)⟩ ⟨Nat.le_of_ble_eq_true rfl, Nat.le_of_ble_eq_true rfl⟩ rfl (Nat.le_of_ble_eq_true rfl) dX8_would_60) hf hnt hlk (Nat.le_of_ble_eq_true rfl) (Nat.le_of_ble_eq_true rfl) (fun hf H locs hw => ?_)
  refine lv_aload_n C.1.1 C.1.2.1 dX8_would_63 rfl (lv_at hl 0 rfl) ?_
  refine lv_iload C.1.1 C.1.2.1 dX8_would_64 (lv_at hl 5 rfl) ?_
  refine lv_if_lt (tgt := 93) C.1.1 C.1.2.1 dX8_would_66 (by decide) (fun c5 => ?_) (fun c5 => ?_)
  · have hf := o_t hf c5
    refine lv_iconst (v := (0 : Int32)) C.1.1 C.1.2.1 dX8_would_93 rfl ?_
    exact wB_X8_would_94 C hr hlk hnt hst q4.1 M L x1 x2 x3 x4 x5 x6 x7 x8 (0 : Int32) _ _ _ hw (lv_sub hl [0, 1, 2, 3, 4, 5, 6, 7, 8] rfl) hf
  · have hf := o_f hf c5
    refine lv_iload C.1.1 C.1.2.1 dX8_would_69 (lv_at hl 5 rfl) ?_
    refine lv_bipush (v := (60 : Int32)) C.1.1 C.1.2.1 dX8_would_71 rfl ?_
    refine lv_icmp_gt (tgt := 93) C.1.1 C.1.2.1 dX8_would_73 (by decide) (fun c21 => ?_) (fun c21 => ?_)
    · have hf := o_t hf c21
      refine lv_iconst (v := (0 : Int32)) C.1.1 C.1.2.1 dX8_would_93 rfl ?_
      exact wB_X8_would_94 C hr hlk hnt hst q4.1 M L x1 x2 x3 x4 x5 x6 x7 x8 (0 : Int32) _ _ _ hw (lv_sub hl [0, 1, 2, 3, 4, 5, 6, 7, 8] rfl) hf
    · have hf := o_f hf c21
      refine lv_iload C.1.1 C.1.2.1 dX8_would_76 (lv_at hl 6 rfl) ?_
      refine lv_if_lt (tgt := 93) C.1.1 C.1.2.1 dX8_would_78 (by decide) (fun c22 => ?_) (fun c22 => ?_)
      · have hf := o_t hf c22
        refine lv_iconst (v := (0 : Int32)) C.1.1 C.1.2.1 dX8_would_93 rfl ?_
        exact wB_X8_would_94 C hr hlk hnt hst q4.1 M L x1 x2 x3 x4 x5 x6 x7 x8 (0 : Int32) _ _ _ hw (lv_sub hl [0, 1, 2, 3, 4, 5, 6, 7, 8] rfl) hf
      · have hf := o_f hf c22
        refine lv_iload C.1.1 C.1.2.1 dX8_would_81 (lv_at hl 6 rfl) ?_
        refine lv_sipush (v := (400 : Int32)) C.1.1 C.1.2.1 dX8_would_83 rfl ?_
        refine lv_icmp_gt (tgt := 93) C.1.1 C.1.2.1 dX8_would_86 (by decide) (fun c23 => ?_) (fun c23 => ?_)
        · have hf := o_t hf c23
          refine lv_iconst (v := (0 : Int32)) C.1.1 C.1.2.1 dX8_would_93 rfl ?_
          exact wB_X8_would_94 C hr hlk hnt hst q4.1 M L x1 x2 x3 x4 x5 x6 x7 x8 (0 : Int32) _ _ _ hw (lv_sub hl [0, 1, 2, 3, 4, 5, 6, 7, 8] rfl) hf
        · have hf := o_f hf c23
          refine lv_iconst (v := (1 : Int32)) C.1.1 C.1.2.1 dX8_would_89 rfl ?_
          refine lv_goto (tgt := 94) C.1.1 C.1.2.1 dX8_would_90 (by decide) ?_
          exact wB_X8_would_94 C hr hlk hnt hst q4.1 M L x1 x2 x3 x4 x5 x6 x7 x8 (1 : Int32) _ _ _ hw (lv_sub hl [0, 1, 2, 3, 4, 5, 6, 7, 8] rfl) hf
set_option maxRecDepth 20000 in
set_option maxHeartbeats 2000000 in
theorem wB_X8_would_29 {p : Program} {e : Env} {s : State} {m : MethodId} {args : Array Value} {below : List Frame} {meth : Method} {c : Code} (C : Cx G p s m args c cX8_would 9 RX8) (hr : meth.sig.returnType = (some .int)) (hlk : meth.locks = false) (hnt : ∀ x ∈ c.exceptionTable.toList, False) (hst : l.stackTraces = false) {ro : TX × (Int32 ⊕ Nat)} : ∀ (X : TX) (M : TX) (L : TL) (x1 : Int32) (x2 : Int32) (x3 : Int32) (x4 : Int32) (x5 : Int32) (x6 : Int32) (x7 : Int32) (x8 : Int32) (t0 : Int32) (H : Heap) (locs : List Loc) (ls : Array Slot), Wh G s X M L H locs → lv_has ls 9 [(0, .ref (gA G 0)), (1, .int x1), (2, .int x2), (3, .int x3), (4, .int x4), (5, .int x5), (6, .int x6), (7, .int x7), (8, .int x8)] → B_X8_would_29 X x1 x2 x3 x4 x5 x6 x7 x8 t0 = some ro → W p l e (rx 7 141 4) s m args below meth c H locs 0 0 (vx_MQ below (Dxi G ro M L) (XD G ro M L) args s 4 (6 * 4) (AB G)) (F0 m 29 ls [.int t0, .ref (gA G 0)]) := by
  intro X M L x1 x2 x3 x4 x5 x6 x7 x8 t0 H locs ls hw hl hf
  unfold B_X8_would_29 at hf
  obtain ⟨q2, h2, hf⟩ := o_bind hf
  refine aftx_v hw (runx_VX C hw clX8_158 (tb2 212 rfl rfl) (As := [.int t0]) (rest := []) oX_0 (c_X8_need hst h2) rfl hl.1 rfl ⟨(Nat.le_of_ble_eq_true rfl), (Nat.le_of_ble_eq_true rfl)⟩ ⟨Nat.le_of_ble_eq_true rfl, Nat.le_of_ble_eq_true rfl⟩ rfl (Nat.le_of_ble_eq_true rfl) dX8_would_29) hf hnt hlk (Nat.le_of_ble_eq_true rfl) (Nat.le_of_ble_eq_true rfl) (fun hf H locs hw => ?_)
  refine lv_aload_n C.1.1 C.1.2.1 dX8_would_32 rfl (lv_at hl 0 rfl) ?_
  refine lv_iload_n C.1.1 C.1.2.1 dX8_would_33 rfl (lv_at hl 3 rfl) ?_
  refine lv_if_lt (tgt := 59) C.1.1 C.1.2.1 dX8_would_34 (by decide) (fun c3 => ?_) (fun c3 => ?_)
  · have hf := o_t hf c3
    refine lv_iconst (v := (0 : Int32)) C.1.1 C.1.2.1 dX8_would_59 rfl ?_
    exact wB_X8_would_60 C hr hlk hnt hst q2.1 M L x1 x2 x3 x4 x5 x6 x7 x8 (0 : Int32) _ _ _ hw (lv_sub hl [0, 1, 2, 3, 4, 5, 6, 7, 8] rfl) hf
  · have hf := o_f hf c3
    refine lv_iload_n C.1.1 C.1.2.1 dX8_would_37 rfl (lv_at hl 3 rfl) ?_
    refine lv_bipush (v := (10 : Int32)) C.1.1 C.1.2.1 dX8_would_38 rfl ?_
    refine lv_icmp_gt (tgt := 59) C.1.1 C.1.2.1 dX8_would_40 (by decide) (fun c24 => ?_) (fun c24 => ?_)
    · have hf := o_t hf c24
      refine lv_iconst (v := (0 : Int32)) C.1.1 C.1.2.1 dX8_would_59 rfl ?_
      exact wB_X8_would_60 C hr hlk hnt hst q2.1 M L x1 x2 x3 x4 x5 x6 x7 x8 (0 : Int32) _ _ _ hw (lv_sub hl [0, 1, 2, 3, 4, 5, 6, 7, 8] rfl) hf
    · have hf := o_f hf c24
      refine lv_iload C.1.1 C.1.2.1 dX8_would_43 (lv_at hl 4 rfl) ?_
      refine lv_if_lt (tgt := 59) C.1.1 C.1.2.1 dX8_would_45 (by decide) (fun c25 => ?_) (fun c25 => ?_)
      · have hf := o_t hf c25
        refine lv_iconst (v := (0 : Int32)) C.1.1 C.1.2.1 dX8_would_59 rfl ?_
        exact wB_X8_would_60 C hr hlk hnt hst q2.1 M L x1 x2 x3 x4 x5 x6 x7 x8 (0 : Int32) _ _ _ hw (lv_sub hl [0, 1, 2, 3, 4, 5, 6, 7, 8] rfl) hf
      · have hf := o_f hf c25
        refine lv_iload C.1.1 C.1.2.1 dX8_would_48 (lv_at hl 4 rfl) ?_
        refine lv_bipush (v := (10 : Int32)) C.1.1 C.1.2.1 dX8_would_50 rfl ?_
        refine lv_icmp_gt (tgt := 59) C.1.1 C.1.2.1 dX8_would_52 (by decide) (fun c26 => ?_) (fun c26 => ?_)
        · have hf := o_t hf c26
          refine lv_iconst (v := (0 : Int32)) C.1.1 C.1.2.1 dX8_would_59 rfl ?_
          exact wB_X8_would_60 C hr hlk hnt hst q2.1 M L x1 x2 x3 x4 x5 x6 x7 x8 (0 : Int32) _ _ _ hw (lv_sub hl [0, 1, 2, 3, 4, 5, 6, 7, 8] rfl) hf
        · have hf := o_f hf c26
          refine lv_iconst (v := (1 : Int32)) C.1.1 C.1.2.1 dX8_would_55 rfl ?_
          refine lv_goto (tgt := 60) C.1.1 C.1.2.1 dX8_would_56 (by decide) ?_
          exact wB_X8_would_60 C hr hlk hnt hst q2.1 M L x1 x2 x3 x4 x5 x6 x7 x8 (1 : Int32) _ _ _ hw (lv_sub hl [0, 1, 2, 3, 4, 5, 6, 7, 8] rfl) hf
set_option maxRecDepth 20000 in
set_option maxHeartbeats 2000000 in
theorem c_X8_would (hst : l.stackTraces = false)  {X M : TX} {L : TL} {x1 : Int32} {x2 : Int32} {x3 : Int32} {x4 : Int32} {x5 : Int32} {x6 : Int32} {x7 : Int32} {x8 : Int32} {ro : TX × (Int32 ⊕ Nat)} (hf : f_X8_would X x1 x2 x3 x4 x5 x6 x7 x8 = some ro) : CXi G l yX8_would cX8_would 9 (some .int) 7 141 4 [.ref (gA G 0), .int x1, .int x2, .int x3, .int x4, .int x5, .int x6, .int x7, .int x8] X M L ro := by
  unfold f_X8_would at hf
  refine cx_of (by decide +kernel) (Nat.le_of_ble_eq_true rfl) (fun p e s m args below meth c H locs ls C hr hlk hnt hw hl => ?_)
  have C : Cx G p s m args c cX8_would 9 RX8 := C
  have hl : lv_has ls 9 [(0, .ref (gA G 0)), (1, .int x1), (2, .int x2), (3, .int x3), (4, .int x4), (5, .int x5), (6, .int x6), (7, .int x7), (8, .int x8)] := hl
  refine lv_aload_n C.1.1 C.1.2.1 dX8_would_0 rfl (lv_at hl 0 rfl) ?_
  refine lv_iload_n C.1.1 C.1.2.1 dX8_would_1 rfl (lv_at hl 1 rfl) ?_
  refine lv_if_lt (tgt := 28) C.1.1 C.1.2.1 dX8_would_2 (by decide) (fun c1 => ?_) (fun c1 => ?_)
  · have hf := o_t hf c1
    refine lv_iconst (v := (0 : Int32)) C.1.1 C.1.2.1 dX8_would_28 rfl ?_
    exact wB_X8_would_29 C hr hlk hnt hst X M L x1 x2 x3 x4 x5 x6 x7 x8 (0 : Int32) _ _ _ hw (lv_sub hl [0, 1, 2, 3, 4, 5, 6, 7, 8] rfl) hf
  · have hf := o_f hf c1
    refine lv_iload_n C.1.1 C.1.2.1 dX8_would_5 rfl (lv_at hl 1 rfl) ?_
    refine lv_sipush (v := (198 : Int32)) C.1.1 C.1.2.1 dX8_would_6 rfl ?_
    refine lv_icmp_gt (tgt := 28) C.1.1 C.1.2.1 dX8_would_9 (by decide) (fun c27 => ?_) (fun c27 => ?_)
    · have hf := o_t hf c27
      refine lv_iconst (v := (0 : Int32)) C.1.1 C.1.2.1 dX8_would_28 rfl ?_
      exact wB_X8_would_29 C hr hlk hnt hst X M L x1 x2 x3 x4 x5 x6 x7 x8 (0 : Int32) _ _ _ hw (lv_sub hl [0, 1, 2, 3, 4, 5, 6, 7, 8] rfl) hf
    · have hf := o_f hf c27
      refine lv_iload_n C.1.1 C.1.2.1 dX8_would_12 rfl (lv_at hl 2 rfl) ?_
      refine lv_bipush (v := (-99 : Int32)) C.1.1 C.1.2.1 dX8_would_13 rfl ?_
      refine lv_icmp_lt (tgt := 28) C.1.1 C.1.2.1 dX8_would_15 (by decide) (fun c28 => ?_) (fun c28 => ?_)
      · have hf := o_t hf c28
        refine lv_iconst (v := (0 : Int32)) C.1.1 C.1.2.1 dX8_would_28 rfl ?_
        exact wB_X8_would_29 C hr hlk hnt hst X M L x1 x2 x3 x4 x5 x6 x7 x8 (0 : Int32) _ _ _ hw (lv_sub hl [0, 1, 2, 3, 4, 5, 6, 7, 8] rfl) hf
      · have hf := o_f hf c28
        refine lv_iload_n C.1.1 C.1.2.1 dX8_would_18 rfl (lv_at hl 2 rfl) ?_
        refine lv_bipush (v := (99 : Int32)) C.1.1 C.1.2.1 dX8_would_19 rfl ?_
        refine lv_icmp_gt (tgt := 28) C.1.1 C.1.2.1 dX8_would_21 (by decide) (fun c29 => ?_) (fun c29 => ?_)
        · have hf := o_t hf c29
          refine lv_iconst (v := (0 : Int32)) C.1.1 C.1.2.1 dX8_would_28 rfl ?_
          exact wB_X8_would_29 C hr hlk hnt hst X M L x1 x2 x3 x4 x5 x6 x7 x8 (0 : Int32) _ _ _ hw (lv_sub hl [0, 1, 2, 3, 4, 5, 6, 7, 8] rfl) hf
        · have hf := o_f hf c29
          refine lv_iconst (v := (1 : Int32)) C.1.1 C.1.2.1 dX8_would_24 rfl ?_
          refine lv_goto (tgt := 29) C.1.1 C.1.2.1 dX8_would_25 (by decide) ?_
          exact wB_X8_would_29 C hr hlk hnt hst X M L x1 x2 x3 x4 x5 x6 x7 x8 (1 : Int32) _ _ _ hw (lv_sub hl [0, 1, 2, 3, 4, 5, 6, 7, 8] rfl) hf
end
/-! WinnerDraws.may(I)I (('o', 'X', 0) ('i',)) -/
def f_X8_may (X : TX) (x1 : Int32) : Option (TX × (Int32 ⊕ Nat)) := (f_X8_needParish X x1).bind fun q1 => xb q1 (fun _ _ => (f_X3_openWards q1.1 x1).bind fun q2 => some (q1.1, .inl q2))
section
variable {G : GP} {l : Launch}
set_option maxRecDepth 20000 in
set_option maxHeartbeats 2000000 in
theorem c_X8_may (hst : l.stackTraces = false)  {X M : TX} {L : TL} {x1 : Int32} {ro : TX × (Int32 ⊕ Nat)} (hf : f_X8_may X x1 = some ro) : CXi G l yX8_may cX8_may 2 (some .int) 8 162 1 [.ref (gA G 0), .int x1] X M L ro := by
  unfold f_X8_may at hf
  refine cx_of (by decide +kernel) (Nat.le_of_ble_eq_true rfl) (fun p e s m args below meth c H locs ls C hr hlk hnt hw hl => ?_)
  have C : Cx G p s m args c cX8_may 2 RX8 := C
  have hl : lv_has ls 2 [(0, .ref (gA G 0)), (1, .int x1)] := hl
  refine lv_aload_n C.1.1 C.1.2.1 dX8_may_0 rfl (lv_at hl 0 rfl) ?_
  refine lv_iload_n C.1.1 C.1.2.1 dX8_may_1 rfl (lv_at hl 1 rfl) ?_
  obtain ⟨q1, h1, hf⟩ := o_bind hf
  refine aftx_v hw (runx_VX C hw clX8_191 (tb4 226 rfl rfl) (As := [.int x1]) (rest := []) oX_0 (c_X8_needParish hst h1) rfl hl.1 rfl ⟨(Nat.le_of_ble_eq_true rfl), (Nat.le_of_ble_eq_true rfl)⟩ ⟨Nat.le_of_ble_eq_true rfl, Nat.le_of_ble_eq_true rfl⟩ rfl (Nat.le_of_ble_eq_true rfl) dX8_may_2) hf hnt hlk (Nat.le_of_ble_eq_true rfl) (Nat.le_of_ble_eq_true rfl) (fun hf H locs hw => ?_)
  refine lv_aload_n C.1.1 C.1.2.1 dX8_may_5 rfl (lv_at hl 0 rfl) ?_
  refine x_ref C hw fX_0_1 flX8_19 dX8_may_6 ?_
  refine lv_iload_n C.1.1 C.1.2.1 dX8_may_9 rfl (lv_at hl 1 rfl) ?_
  obtain ⟨q2, h2, hf⟩ := o_bind hf
  refine aft_i hw (run_VX C hw clX8_243 (As := [.int x1]) (rest := []) oX_3 (c_X3_openWards h2) rfl hl.1 rfl ⟨(Nat.le_of_ble_eq_true rfl), (Nat.le_of_ble_eq_true rfl)⟩ ⟨Nat.le_of_ble_eq_true rfl, Nat.le_of_ble_eq_true rfl⟩ rfl (Nat.le_of_ble_eq_true rfl) dX8_may_10) (fun H locs hw => ?_)
  exact retx_i C hr hlk hw (Option.some.inj hf).symm (Nat.le_of_ble_eq_true rfl) (Nat.le_of_ble_eq_true rfl) dX8_may_13
end
/-! WinnerDraws.best(II)I (('o', 'X', 0) ('i',) ('i',)) -/
def B_X8_best_19 (X : TX) (x1 : Int32) (x2 : Int32) : Option (TX × (Int32 ⊕ Nat)) := (f_X8_need X (0 : Int32)).bind fun q3 => xb q3 (fun _ _ => (f_X2_choose q3.1 x1).bind fun q4 => if q4.2 = 0 then (some (q4.1, .inl (-1 : Int32))) else (if x2 = (0 : Int32) then (some (q4.1, .inl (q4.1 33 2))) else (if x2 = (1 : Int32) then (some (q4.1, .inl (q4.1 33 3))) else ((some (q4.1, .inl (q4.1 33 4)))))))
def f_X8_best (X : TX) (x1 : Int32) (x2 : Int32) : Option (TX × (Int32 ⊕ Nat)) := (f_X8_needSide X x1).bind fun q1 => xb q1 (fun _ _ => if x2 < 0 then (B_X8_best_19 q1.1 x1 x2) else (if (2 : Int32) < x2 then (B_X8_best_19 q1.1 x1 x2) else ((f_X8_need q1.1 (1 : Int32)).bind fun q9 => xb q9 (fun _ _ => (f_X2_choose q9.1 x1).bind fun q10 => if q10.2 = 0 then (some (q10.1, .inl (-1 : Int32))) else (if x2 = (0 : Int32) then (some (q10.1, .inl (q10.1 33 2))) else (if x2 = (1 : Int32) then (some (q10.1, .inl (q10.1 33 3))) else ((some (q10.1, .inl (q10.1 33 4))))))))))
section
variable {G : GP} {l : Launch}
set_option maxRecDepth 20000 in
set_option maxHeartbeats 2000000 in
theorem wB_X8_best_19 {p : Program} {e : Env} {s : State} {m : MethodId} {args : Array Value} {below : List Frame} {meth : Method} {c : Code} (C : Cx G p s m args c cX8_best 3 RX8) (hr : meth.sig.returnType = (some .int)) (hlk : meth.locks = false) (hnt : ∀ x ∈ c.exceptionTable.toList, False) (hst : l.stackTraces = false) {ro : TX × (Int32 ⊕ Nat)} : ∀ (X : TX) (M : TX) (L : TL) (x1 : Int32) (x2 : Int32) (H : Heap) (locs : List Loc) (ls : Array Slot), Wh G s X M L H locs → lv_has ls 3 [(0, .ref (gA G 0)), (1, .int x1), (2, .int x2)] → B_X8_best_19 X x1 x2 = some ro → W p l e (rx 8 162 2) s m args below meth c H locs 1 6 (vx_MQ below (Dxi G ro M L) (XD G ro M L) args s 2 (6 * 2) (AB G)) (F0 m 19 ls [.ref (gA G 0)]) := by
  intro X M L x1 x2 H locs ls hw hl hf
  unfold B_X8_best_19 at hf
  refine lv_iconst (v := (0 : Int32)) C.1.1 C.1.2.1 dX8_best_19 rfl ?_
  obtain ⟨q3, h3, hf⟩ := o_bind hf
  refine aftx_v hw (runx_VX C hw clX8_158 (tb2 212 rfl rfl) (As := [.int (0 : Int32)]) (rest := []) oX_0 (c_X8_need hst h3) rfl hl.1 rfl ⟨(Nat.le_of_ble_eq_true rfl), (Nat.le_of_ble_eq_true rfl)⟩ ⟨Nat.le_of_ble_eq_true rfl, Nat.le_of_ble_eq_true rfl⟩ rfl (Nat.le_of_ble_eq_true rfl) dX8_best_20) hf hnt hlk (Nat.le_of_ble_eq_true rfl) (Nat.le_of_ble_eq_true rfl) (fun hf H locs hw => ?_)
  refine lv_aload_n C.1.1 C.1.2.1 dX8_best_23 rfl (lv_at hl 0 rfl) ?_
  refine x_ref C hw fX_0_8 flX8_58 dX8_best_24 ?_
  refine lv_iload_n C.1.1 C.1.2.1 dX8_best_27 rfl (lv_at hl 1 rfl) ?_
  obtain ⟨q4, h4, hf⟩ := o_bind hf
  refine aft_i hw (run_VX C hw clX8_246 (As := [.int x1]) (rest := []) oX_33 (c_X2_choose h4) rfl hl.1 rfl ⟨(Nat.le_of_ble_eq_true rfl), (Nat.le_of_ble_eq_true rfl)⟩ ⟨Nat.le_of_ble_eq_true rfl, Nat.le_of_ble_eq_true rfl⟩ rfl (Nat.le_of_ble_eq_true rfl) dX8_best_28) (fun H locs hw => ?_)
  refine lv_if_ne (tgt := 36) C.1.1 C.1.2.1 dX8_best_31 (by decide) (fun c5 => ?_) (fun c5 => ?_)
  · have hf := o_f hf c5
    refine lv_iload_n C.1.1 C.1.2.1 dX8_best_36 rfl (lv_at hl 2 rfl) ?_
    by_cases c6 : x2 = (0 : Int32)
    · have hf := o_t hf c6
      refine lv_lookup (tgt := 64) (off := 27) C.1.1 C.1.2.1 dX8_best_37 (by decide) (by rw [c6]; rfl) (by decide) ?_
      refine lv_aload_n C.1.1 C.1.2.1 dX8_best_64 rfl (lv_at hl 0 rfl) ?_
      refine x_ref C hw fX_0_8 flX8_58 dX8_best_65 ?_
      refine x_get C hw iX_33_2 flX8_249 dX8_best_68 ?_
      exact retx_i C hr hlk hw (Option.some.inj hf).symm (Nat.le_of_ble_eq_true rfl) (Nat.le_of_ble_eq_true rfl) dX8_best_71
    have hf := o_f hf c6
    by_cases c7 : x2 = (1 : Int32)
    · have hf := o_t hf c7
      refine lv_lookup (tgt := 72) (off := 35) C.1.1 C.1.2.1 dX8_best_37 (by decide) (by rw [c7]; rfl) (by decide) ?_
      refine lv_aload_n C.1.1 C.1.2.1 dX8_best_72 rfl (lv_at hl 0 rfl) ?_
      refine x_ref C hw fX_0_8 flX8_58 dX8_best_73 ?_
      refine x_get C hw iX_33_3 flX8_252 dX8_best_76 ?_
      exact retx_i C hr hlk hw (Option.some.inj hf).symm (Nat.le_of_ble_eq_true rfl) (Nat.le_of_ble_eq_true rfl) dX8_best_79
    have hf := o_f hf c7
    have z6 : ¬ (Int32.toInt x2) = 0 := fun z => c6 (Int32.toInt_inj.mp (z.trans (by decide)))
    have z7 : ¬ (Int32.toInt x2) = 1 := fun z => c7 (Int32.toInt_inj.mp (z.trans (by decide)))
    refine lv_lookup (tgt := 80) (off := 43) C.1.1 C.1.2.1 dX8_best_37 (by decide) (by simp [Op.lookupswitch.offset, z6, Ne.symm z6, z7, Ne.symm z7]) (by decide) ?_
    refine lv_aload_n C.1.1 C.1.2.1 dX8_best_80 rfl (lv_at hl 0 rfl) ?_
    refine x_ref C hw fX_0_8 flX8_58 dX8_best_81 ?_
    refine x_get C hw iX_33_4 flX8_255 dX8_best_84 ?_
    exact retx_i C hr hlk hw (Option.some.inj hf).symm (Nat.le_of_ble_eq_true rfl) (Nat.le_of_ble_eq_true rfl) dX8_best_87
  · have hf := o_t hf c5
    refine lv_iconst (v := (-1 : Int32)) C.1.1 C.1.2.1 dX8_best_34 rfl ?_
    exact retx_i C hr hlk hw (Option.some.inj hf).symm (Nat.le_of_ble_eq_true rfl) (Nat.le_of_ble_eq_true rfl) dX8_best_35
set_option maxRecDepth 20000 in
set_option maxHeartbeats 2000000 in
theorem c_X8_best (hst : l.stackTraces = false)  {X M : TX} {L : TL} {x1 : Int32} {x2 : Int32} {ro : TX × (Int32 ⊕ Nat)} (hf : f_X8_best X x1 x2 = some ro) : CXi G l yX8_best cX8_best 3 (some .int) 8 162 2 [.ref (gA G 0), .int x1, .int x2] X M L ro := by
  unfold f_X8_best at hf
  refine cx_of (by decide +kernel) (Nat.le_of_ble_eq_true rfl) (fun p e s m args below meth c H locs ls C hr hlk hnt hw hl => ?_)
  have C : Cx G p s m args c cX8_best 3 RX8 := C
  have hl : lv_has ls 3 [(0, .ref (gA G 0)), (1, .int x1), (2, .int x2)] := hl
  refine lv_aload_n C.1.1 C.1.2.1 dX8_best_0 rfl (lv_at hl 0 rfl) ?_
  refine lv_iload_n C.1.1 C.1.2.1 dX8_best_1 rfl (lv_at hl 1 rfl) ?_
  obtain ⟨q1, h1, hf⟩ := o_bind hf
  refine aftx_v hw (runx_VX C hw clX8_220 (tb5 43 rfl rfl) (As := [.int x1]) (rest := []) oX_0 (c_X8_needSide hst h1) rfl hl.1 rfl ⟨(Nat.le_of_ble_eq_true rfl), (Nat.le_of_ble_eq_true rfl)⟩ ⟨Nat.le_of_ble_eq_true rfl, Nat.le_of_ble_eq_true rfl⟩ rfl (Nat.le_of_ble_eq_true rfl) dX8_best_2) hf hnt hlk (Nat.le_of_ble_eq_true rfl) (Nat.le_of_ble_eq_true rfl) (fun hf H locs hw => ?_)
  refine lv_aload_n C.1.1 C.1.2.1 dX8_best_5 rfl (lv_at hl 0 rfl) ?_
  refine lv_iload_n C.1.1 C.1.2.1 dX8_best_6 rfl (lv_at hl 2 rfl) ?_
  refine lv_if_lt (tgt := 19) C.1.1 C.1.2.1 dX8_best_7 (by decide) (fun c2 => ?_) (fun c2 => ?_)
  · have hf := o_t hf c2
    exact wB_X8_best_19 C hr hlk hnt hst q1.1 M L x1 x2 _ _ _ hw (lv_sub hl [0, 1, 2] rfl) hf
  · have hf := o_f hf c2
    refine lv_iload_n C.1.1 C.1.2.1 dX8_best_10 rfl (lv_at hl 2 rfl) ?_
    refine lv_iconst (v := (2 : Int32)) C.1.1 C.1.2.1 dX8_best_11 rfl ?_
    refine lv_icmp_gt (tgt := 19) C.1.1 C.1.2.1 dX8_best_12 (by decide) (fun c8 => ?_) (fun c8 => ?_)
    · have hf := o_t hf c8
      exact wB_X8_best_19 C hr hlk hnt hst q1.1 M L x1 x2 _ _ _ hw (lv_sub hl [0, 1, 2] rfl) hf
    · have hf := o_f hf c8
      refine lv_iconst (v := (1 : Int32)) C.1.1 C.1.2.1 dX8_best_15 rfl ?_
      refine lv_goto (tgt := 20) C.1.1 C.1.2.1 dX8_best_16 (by decide) ?_
      obtain ⟨q9, h9, hf⟩ := o_bind hf
      refine aftx_v hw (runx_VX C hw clX8_158 (tb2 212 rfl rfl) (As := [.int (1 : Int32)]) (rest := []) oX_0 (c_X8_need hst h9) rfl hl.1 rfl ⟨(Nat.le_of_ble_eq_true rfl), (Nat.le_of_ble_eq_true rfl)⟩ ⟨Nat.le_of_ble_eq_true rfl, Nat.le_of_ble_eq_true rfl⟩ rfl (Nat.le_of_ble_eq_true rfl) dX8_best_20) hf hnt hlk (Nat.le_of_ble_eq_true rfl) (Nat.le_of_ble_eq_true rfl) (fun hf H locs hw => ?_)
      refine lv_aload_n C.1.1 C.1.2.1 dX8_best_23 rfl (lv_at hl 0 rfl) ?_
      refine x_ref C hw fX_0_8 flX8_58 dX8_best_24 ?_
      refine lv_iload_n C.1.1 C.1.2.1 dX8_best_27 rfl (lv_at hl 1 rfl) ?_
      obtain ⟨q10, h10, hf⟩ := o_bind hf
      refine aft_i hw (run_VX C hw clX8_246 (As := [.int x1]) (rest := []) oX_33 (c_X2_choose h10) rfl hl.1 rfl ⟨(Nat.le_of_ble_eq_true rfl), (Nat.le_of_ble_eq_true rfl)⟩ ⟨Nat.le_of_ble_eq_true rfl, Nat.le_of_ble_eq_true rfl⟩ rfl (Nat.le_of_ble_eq_true rfl) dX8_best_28) (fun H locs hw => ?_)
      refine lv_if_ne (tgt := 36) C.1.1 C.1.2.1 dX8_best_31 (by decide) (fun c11 => ?_) (fun c11 => ?_)
      · have hf := o_f hf c11
        refine lv_iload_n C.1.1 C.1.2.1 dX8_best_36 rfl (lv_at hl 2 rfl) ?_
        by_cases c12 : x2 = (0 : Int32)
        · have hf := o_t hf c12
          refine lv_lookup (tgt := 64) (off := 27) C.1.1 C.1.2.1 dX8_best_37 (by decide) (by rw [c12]; rfl) (by decide) ?_
          refine lv_aload_n C.1.1 C.1.2.1 dX8_best_64 rfl (lv_at hl 0 rfl) ?_
          refine x_ref C hw fX_0_8 flX8_58 dX8_best_65 ?_
          refine x_get C hw iX_33_2 flX8_249 dX8_best_68 ?_
          exact retx_i C hr hlk hw (Option.some.inj hf).symm (Nat.le_of_ble_eq_true rfl) (Nat.le_of_ble_eq_true rfl) dX8_best_71
        have hf := o_f hf c12
        by_cases c13 : x2 = (1 : Int32)
        · have hf := o_t hf c13
          refine lv_lookup (tgt := 72) (off := 35) C.1.1 C.1.2.1 dX8_best_37 (by decide) (by rw [c13]; rfl) (by decide) ?_
          refine lv_aload_n C.1.1 C.1.2.1 dX8_best_72 rfl (lv_at hl 0 rfl) ?_
          refine x_ref C hw fX_0_8 flX8_58 dX8_best_73 ?_
          refine x_get C hw iX_33_3 flX8_252 dX8_best_76 ?_
          exact retx_i C hr hlk hw (Option.some.inj hf).symm (Nat.le_of_ble_eq_true rfl) (Nat.le_of_ble_eq_true rfl) dX8_best_79
        have hf := o_f hf c13
        have z12 : ¬ (Int32.toInt x2) = 0 := fun z => c12 (Int32.toInt_inj.mp (z.trans (by decide)))
        have z13 : ¬ (Int32.toInt x2) = 1 := fun z => c13 (Int32.toInt_inj.mp (z.trans (by decide)))
        refine lv_lookup (tgt := 80) (off := 43) C.1.1 C.1.2.1 dX8_best_37 (by decide) (by simp [Op.lookupswitch.offset, z12, Ne.symm z12, z13, Ne.symm z13]) (by decide) ?_
        refine lv_aload_n C.1.1 C.1.2.1 dX8_best_80 rfl (lv_at hl 0 rfl) ?_
        refine x_ref C hw fX_0_8 flX8_58 dX8_best_81 ?_
        refine x_get C hw iX_33_4 flX8_255 dX8_best_84 ?_
        exact retx_i C hr hlk hw (Option.some.inj hf).symm (Nat.le_of_ble_eq_true rfl) (Nat.le_of_ble_eq_true rfl) dX8_best_87
      · have hf := o_t hf c11
        refine lv_iconst (v := (-1 : Int32)) C.1.1 C.1.2.1 dX8_best_34 rfl ?_
        exact retx_i C hr hlk hw (Option.some.inj hf).symm (Nat.le_of_ble_eq_true rfl) (Nat.le_of_ble_eq_true rfl) dX8_best_35
end
/-! WinnerDraws$Council.greatestThen(LWinnerDraws$County;IIZ)I (('o', 'X', 3) ('i',) ('i',) ('i',)) -/
def f_X2_greatestThen (rec : TX → Int32 → Int32 → Int32 → Option (TX × Int32)) (X : TX) (x1 : Int32) (x2 : Int32) (x3 : Int32) : Option (TX × Int32) := if x3 = 0 then ((rec X x1 (x2 - (1 : Int32)) (0 : Int32)).bind fun q2 => some (q2.1, q2.2)) else ((rec X ((1 : Int32) - x1) (x2 - (1 : Int32)) (1 : Int32)).bind fun q3 => some (q3.1, (-q3.2)))
section
variable {G : GP} {l : Launch}
set_option maxRecDepth 20000 in
set_option maxHeartbeats 2000000 in
theorem c_X2_greatestThen {rec : TX → Int32 → Int32 → Int32 → Option (TX × Int32)} {d : Nat} (hrec : ∀ {X M : TX} {L : TL} {x1 : Int32} {x2 : Int32} {x3 : Int32} {ro : TX × Int32}, rec X x1 x2 x3 = some ro → CTi G l yX2_greatest cX2_greatest 9 (some .int) (3 + 3 * d) (72 + 72 * d) [.ref (gA G 3), .int x1, .int x2, .int x3] X M L ro.1 M L ro.2)  {X M : TX} {L : TL} {x1 : Int32} {x2 : Int32} {x3 : Int32} {ro : TX × Int32} (hf : f_X2_greatestThen rec X x1 x2 x3 = some ro) : CTi G l yX2_greatestThen cX2_greatestThen 4 (some .int) (4 + 3 * d) (100 + 72 * d) [.ref (gA G 3), .int x1, .int x2, .int x3] X M L ro.1 M L ro.2 := by
  unfold f_X2_greatestThen at hf
  refine ct_of (by decide +kernel) (Nat.le_of_ble_eq_true rfl) (fun p e s m args below meth c H locs ls C hr hlk hw hl => ?_)
  have C : Cx G p s m args c cX2_greatestThen 4 RX2 := C
  have hl : lv_has ls 4 [(0, .ref (gA G 3)), (1, .int x1), (2, .int x2), (3, .int x3)] := hl
  refine lv_iload_n C.1.1 C.1.2.1 dX2_greatestThen_0 rfl (lv_at hl 3 rfl) ?_
  refine lv_if_eq (tgt := 17) C.1.1 C.1.2.1 dX2_greatestThen_1 (by decide) (fun c1 => ?_) (fun c1 => ?_)
  · have hf := o_t hf c1
    refine lv_aload_n C.1.1 C.1.2.1 dX2_greatestThen_17 rfl (lv_at hl 0 rfl) ?_
    refine lv_iload_n C.1.1 C.1.2.1 dX2_greatestThen_18 rfl (lv_at hl 1 rfl) ?_
    refine lv_iload_n C.1.1 C.1.2.1 dX2_greatestThen_19 rfl (lv_at hl 2 rfl) ?_
    refine lv_iconst (v := (1 : Int32)) C.1.1 C.1.2.1 dX2_greatestThen_20 rfl ?_
    refine lv_isub C.1.1 C.1.2.1 dX2_greatestThen_21 ?_
    refine lv_iconst (v := (0 : Int32)) C.1.1 C.1.2.1 dX2_greatestThen_22 rfl ?_
    obtain ⟨q2, h2, hf⟩ := o_bind hf
    refine aft_i hw (run_S C hw clX2_121 (As := [.ref (gA G 3), .int x1, .int (x2 - (1 : Int32)), .int (0 : Int32)]) (rest := []) (hrec h2) hl.1 rfl ⟨(by show (3 + 3 * d) + 1 ≤ 4 + 3 * d; omega), (by show 8 + (9 + 11) + (72 + 72 * d) ≤ 100 + 72 * d; omega)⟩ ⟨Nat.zero_le _, Nat.zero_le _⟩ rfl (Nat.le_of_ble_eq_true rfl) dX2_greatestThen_23) (fun H locs hw => ?_)
    obtain rfl := Option.some.inj hf
    exact ret_i C hr hlk hw dX2_greatestThen_26
  · have hf := o_f hf c1
    refine lv_aload_n C.1.1 C.1.2.1 dX2_greatestThen_4 rfl (lv_at hl 0 rfl) ?_
    refine lv_iconst (v := (1 : Int32)) C.1.1 C.1.2.1 dX2_greatestThen_5 rfl ?_
    refine lv_iload_n C.1.1 C.1.2.1 dX2_greatestThen_6 rfl (lv_at hl 1 rfl) ?_
    refine lv_isub C.1.1 C.1.2.1 dX2_greatestThen_7 ?_
    refine lv_iload_n C.1.1 C.1.2.1 dX2_greatestThen_8 rfl (lv_at hl 2 rfl) ?_
    refine lv_iconst (v := (1 : Int32)) C.1.1 C.1.2.1 dX2_greatestThen_9 rfl ?_
    refine lv_isub C.1.1 C.1.2.1 dX2_greatestThen_10 ?_
    refine lv_iconst (v := (1 : Int32)) C.1.1 C.1.2.1 dX2_greatestThen_11 rfl ?_
    obtain ⟨q3, h3, hf⟩ := o_bind hf
    refine aft_i hw (run_S C hw clX2_121 (As := [.ref (gA G 3), .int ((1 : Int32) - x1), .int (x2 - (1 : Int32)), .int (1 : Int32)]) (rest := []) (hrec h3) hl.1 rfl ⟨(by show (3 + 3 * d) + 1 ≤ 4 + 3 * d; omega), (by show 8 + (9 + 11) + (72 + 72 * d) ≤ 100 + 72 * d; omega)⟩ ⟨Nat.zero_le _, Nat.zero_le _⟩ rfl (Nat.le_of_ble_eq_true rfl) dX2_greatestThen_12) (fun H locs hw => ?_)
    refine lv_ineg C.1.1 C.1.2.1 dX2_greatestThen_15 ?_
    obtain rfl := Option.some.inj hf
    exact ret_i C hr hlk hw dX2_greatestThen_16
end
/-! WinnerDraws$Council.greatest(LWinnerDraws$County;IIZ)I (('o', 'X', 3) ('i',) ('i',) ('i',)) -/
def B_X2_greatest_90 (rec : TX → Int32 → Int32 → Int32 → Option (TX × Int32)) (k_22 : TX → Int32 → Int32 → Int32 → Int32 → Int32 → Option (TX × Int32)) (k_50 : TX → Int32 → Int32 → Int32 → Int32 → Int32 → Int32 → Int32 → Int32 → Option (TX × Int32)) (X : TX) (x1 : Int32) (x2 : Int32) (x3 : Int32) (x4 : Int32) (x5 : Int32) (x6 : Int32) (x7 : Int32) (x8 : Int32) : Option (TX × Int32) := (f_X8_has x6 x8).bind fun q9 => if q9 = 0 then (k_50 X x1 x2 x3 x4 x5 x6 x7 (x8 + (1 : Int32))) else ((f_X3_place X x5 x8).bind fun q11 => (f_X2_greatestThen rec q11 x1 x2 x3).bind fun q12 => (f_X3_place q12.1 x5 x7).bind fun q14 => k_50 q14 x1 x2 x3 (if x4 < q12.2 then q12.2 else x4) x5 x6 x7 (x8 + (1 : Int32)))
def L_X2_greatest_50 (rec : TX → Int32 → Int32 → Int32 → Option (TX × Int32)) (k_22 : TX → Int32 → Int32 → Int32 → Int32 → Int32 → Option (TX × Int32)) : Nat → TX → Int32 → Int32 → Int32 → Int32 → Int32 → Int32 → Int32 → Int32 → Option (TX × Int32)
  | 0 => fun _ _ _ _ _ _ _ _ _ => none
  | n + 1 => fun X x1 x2 x3 x4 x5 x6 x7 x8 => if (4 : Int32) ≤ x8 then (k_22 X x1 x2 x3 x4 (x5 + (1 : Int32))) else ((f_X8_has x6 x8).bind fun q7 => if q7 = 0 then (B_X2_greatest_90 rec k_22 (L_X2_greatest_50 rec k_22 n) X x1 x2 x3 x4 x5 x6 x7 x8) else (if x2 = (1 : Int32) then ((f_X3_marginIfPlaced X x1 x5 x8).bind fun q16 => (L_X2_greatest_50 rec k_22 n) X x1 x2 x3 (if x4 < q16 then q16 else x4) x5 x6 x7 (x8 + (1 : Int32))) else (B_X2_greatest_90 rec k_22 (L_X2_greatest_50 rec k_22 n) X x1 x2 x3 x4 x5 x6 x7 x8)))
def L_X2_greatest_22 (rec : TX → Int32 → Int32 → Int32 → Option (TX × Int32)) : Nat → TX → Int32 → Int32 → Int32 → Int32 → Int32 → Option (TX × Int32)
  | 0 => fun _ _ _ _ _ _ => none
  | n + 1 => fun X x1 x2 x3 x4 x5 => if (X 3 5) ≤ x5 then (some (X, x4)) else ((f_X3_openWards X x5).bind fun q4 => (f_X3_wardOf X x5).bind fun q5 => L_X2_greatest_50 rec (L_X2_greatest_22 rec n) FU X x1 x2 x3 x4 x5 q4 q5 (0 : Int32))
def f_X2_greatest : Nat → TX → Int32 → Int32 → Int32 → Option (TX × Int32)
  | 0 => fun _ _ _ _ => none
  | d + 1 => fun X x1 x2 x3 => if 0 < x2 then ((f_X2_greatestThen (f_X2_greatest d) X x1 x2 x3).bind fun q2 => L_X2_greatest_22 (f_X2_greatest d) FU q2.1 x1 x2 x3 q2.2 (0 : Int32)) else ((f_X3_margin X x1).bind fun q18 => some (X, q18))
section
variable {G : GP} {l : Launch}
set_option maxRecDepth 20000 in
set_option maxHeartbeats 2000000 in
theorem wB_X2_greatest_90 {rec : TX → Int32 → Int32 → Int32 → Option (TX × Int32)} {d : Nat} (hrec : ∀ {X M : TX} {L : TL} {x1 : Int32} {x2 : Int32} {x3 : Int32} {ro : TX × Int32}, rec X x1 x2 x3 = some ro → CTi G l yX2_greatest cX2_greatest 9 (some .int) (3 + 3 * d) (72 + 72 * d) [.ref (gA G 3), .int x1, .int x2, .int x3] X M L ro.1 M L ro.2) {p : Program} {e : Env} {s : State} {m : MethodId} {args : Array Value} {below : List Frame} {meth : Method} {c : Code} (C : Cx G p s m args c cX2_greatest 9 RX2) (hr : meth.sig.returnType = (some .int)) (hlk : meth.locks = false) {ro : TX × Int32} {k_22 : TX → Int32 → Int32 → Int32 → Int32 → Int32 → Option (TX × Int32)} (hk_22 : ∀ (X : TX) (M : TX) (L : TL) (x1 : Int32) (x2 : Int32) (x3 : Int32) (x4 : Int32) (x5 : Int32) (H : Heap) (locs : List Loc) (ls : Array Slot), Wh G s X M L H locs → lv_has ls 9 [(0, .ref (gA G 3)), (1, .int x1), (2, .int x2), (3, .int x3), (4, .int x4), (5, .int x5)] → k_22 X x1 x2 x3 x4 x5 = some ro → W p l e (rz (3 + 3 * (d + 1)) (72 + 72 * (d + 1))) s m args below meth c H locs 0 0 (MQ below (Di G ro.1 M L ro.2) args s 0 0 (AB G)) (F0 m 22 ls [])) {k_50 : TX → Int32 → Int32 → Int32 → Int32 → Int32 → Int32 → Int32 → Int32 → Option (TX × Int32)} (hk_50 : ∀ (X : TX) (M : TX) (L : TL) (x1 : Int32) (x2 : Int32) (x3 : Int32) (x4 : Int32) (x5 : Int32) (x6 : Int32) (x7 : Int32) (x8 : Int32) (H : Heap) (locs : List Loc) (ls : Array Slot), Wh G s X M L H locs → lv_has ls 9 [(0, .ref (gA G 3)), (1, .int x1), (2, .int x2), (3, .int x3), (4, .int x4), (5, .int x5), (6, .int x6), (7, .int x7), (8, .int x8)] → k_50 X x1 x2 x3 x4 x5 x6 x7 x8 = some ro → W p l e (rz (3 + 3 * (d + 1)) (72 + 72 * (d + 1))) s m args below meth c H locs 0 0 (MQ below (Di G ro.1 M L ro.2) args s 0 0 (AB G)) (F0 m 50 ls [])) : ∀ (X : TX) (M : TX) (L : TL) (x1 : Int32) (x2 : Int32) (x3 : Int32) (x4 : Int32) (x5 : Int32) (x6 : Int32) (x7 : Int32) (x8 : Int32) (H : Heap) (locs : List Loc) (ls : Array Slot), Wh G s X M L H locs → lv_has ls 9 [(0, .ref (gA G 3)), (1, .int x1), (2, .int x2), (3, .int x3), (4, .int x4), (5, .int x5), (6, .int x6), (7, .int x7), (8, .int x8)] → B_X2_greatest_90 rec k_22 k_50 X x1 x2 x3 x4 x5 x6 x7 x8 = some ro → W p l e (rz (3 + 3 * (d + 1)) (72 + 72 * (d + 1))) s m args below meth c H locs 0 0 (MQ below (Di G ro.1 M L ro.2) args s 0 0 (AB G)) (F0 m 90 ls []) := by
  intro X M L x1 x2 x3 x4 x5 x6 x7 x8 H locs ls hw hl hf
  unfold B_X2_greatest_90 at hf
  refine lv_iload C.1.1 C.1.2.1 dX2_greatest_90 (lv_at hl 6 rfl) ?_
  refine lv_iload C.1.1 C.1.2.1 dX2_greatest_92 (lv_at hl 8 rfl) ?_
  obtain ⟨q9, h9, hf⟩ := o_bind hf
  refine aft_i hw (run_S C hw clX2_52 (As := [.int x6, .int x8]) (rest := []) (c_X8_has h9) hl.1 rfl ⟨(by show 0 + 1 ≤ 3 + 3 * (d + 1); omega), (by show 8 + (2 + 11) + 0 ≤ 72 + 72 * (d + 1); omega)⟩ ⟨Nat.zero_le _, Nat.zero_le _⟩ rfl (Nat.le_of_ble_eq_true rfl) dX2_greatest_94) (fun H locs hw => ?_)
  refine lv_if_eq (tgt := 130) C.1.1 C.1.2.1 dX2_greatest_97 (by decide) (fun c10 => ?_) (fun c10 => ?_)
  · have hf := o_t hf c10
    refine lv_iinc (v := (x8 + (1 : Int32))) (lv' := [(8, .int (x8 + (1 : Int32))), (0, .ref (gA G 3)), (1, .int x1), (2, .int x2), (3, .int x3), (4, .int x4), (5, .int x5), (6, .int x6), (7, .int x7)]) C.1.1 C.1.2.1 dX2_greatest_130 hl (k := 8) rfl rfl (by decide) rfl (fun ls hl => ?_)
    refine lv_goto (tgt := 50) C.1.1 C.1.2.1 dX2_greatest_133 (by decide) ?_
    exact hk_50 X M L x1 x2 x3 x4 x5 x6 x7 (x8 + (1 : Int32)) _ _ _ hw (lv_sub hl [1, 2, 3, 4, 5, 6, 7, 8, 0] rfl) hf
  · have hf := o_f hf c10
    refine lv_aload_n C.1.1 C.1.2.1 dX2_greatest_100 rfl (lv_at hl 0 rfl) ?_
    refine lv_iload C.1.1 C.1.2.1 dX2_greatest_101 (lv_at hl 5 rfl) ?_
    refine lv_iload C.1.1 C.1.2.1 dX2_greatest_103 (lv_at hl 8 rfl) ?_
    obtain ⟨q11, h11, hf⟩ := o_bind hf
    refine aft_v hw (run_VX C hw clX2_62 (As := [.int x5, .int x8]) (rest := []) oX_3 (c_X3_place h11) rfl hl.1 rfl ⟨(by show 1 + 1 ≤ 3 + 3 * (d + 1); omega), (by show 8 + (5 + 11) + 22 ≤ 72 + 72 * (d + 1); omega)⟩ ⟨Nat.zero_le _, Nat.zero_le _⟩ rfl (Nat.le_of_ble_eq_true rfl) dX2_greatest_105) (fun H locs hw => ?_)
    refine lv_iload C.1.1 C.1.2.1 dX2_greatest_108 (lv_at hl 4 rfl) ?_
    refine lv_aload_n C.1.1 C.1.2.1 dX2_greatest_110 rfl (lv_at hl 0 rfl) ?_
    refine lv_iload_n C.1.1 C.1.2.1 dX2_greatest_111 rfl (lv_at hl 1 rfl) ?_
    refine lv_iload_n C.1.1 C.1.2.1 dX2_greatest_112 rfl (lv_at hl 2 rfl) ?_
    refine lv_iload_n C.1.1 C.1.2.1 dX2_greatest_113 rfl (lv_at hl 3 rfl) ?_
    obtain ⟨q12, h12, hf⟩ := o_bind hf
    refine aft_i hw (run_S C hw clX2_112 (As := [.ref (gA G 3), .int x1, .int x2, .int x3]) (rest := [.int x4]) (c_X2_greatestThen hrec h12) hl.1 rfl ⟨(by show (4 + 3 * d) + 1 ≤ 3 + 3 * (d + 1); omega), (by show 8 + (4 + 11) + (100 + 72 * d) ≤ 72 + 72 * (d + 1); omega)⟩ ⟨Nat.zero_le _, Nat.zero_le _⟩ rfl (Nat.le_of_ble_eq_true rfl) dX2_greatest_114) (fun H locs hw => ?_)
    refine x_max C clX2_116 (tb5 100 rfl rfl) hl.1 ⟨(by show 1 ≤ 3 + 3 * (d + 1); omega), (by show 0 + 13 ≤ 72 + 72 * (d + 1); omega)⟩ ⟨Nat.zero_le _, Nat.zero_le _⟩ dX2_greatest_117 ?_
    refine lv_istore (lv' := [(4, .int (if x4 < q12.2 then q12.2 else x4)), (0, .ref (gA G 3)), (1, .int x1), (2, .int x2), (3, .int x3), (5, .int x5), (6, .int x6), (7, .int x7), (8, .int x8)]) C.1.1 C.1.2.1 dX2_greatest_120 hl (by decide) rfl (fun ls hl => ?_)
    refine lv_aload_n C.1.1 C.1.2.1 dX2_greatest_122 rfl (lv_at hl 1 rfl) ?_
    refine lv_iload C.1.1 C.1.2.1 dX2_greatest_123 (lv_at hl 5 rfl) ?_
    refine lv_iload C.1.1 C.1.2.1 dX2_greatest_125 (lv_at hl 7 rfl) ?_
    obtain ⟨q14, h14, hf⟩ := o_bind hf
    refine aft_v hw (run_VX C hw clX2_62 (As := [.int x5, .int x7]) (rest := []) oX_3 (c_X3_place h14) rfl hl.1 rfl ⟨(by show 1 + 1 ≤ 3 + 3 * (d + 1); omega), (by show 8 + (5 + 11) + 22 ≤ 72 + 72 * (d + 1); omega)⟩ ⟨Nat.zero_le _, Nat.zero_le _⟩ rfl (Nat.le_of_ble_eq_true rfl) dX2_greatest_127) (fun H locs hw => ?_)
    refine lv_iinc (v := (x8 + (1 : Int32))) (lv' := [(8, .int (x8 + (1 : Int32))), (4, .int (if x4 < q12.2 then q12.2 else x4)), (0, .ref (gA G 3)), (1, .int x1), (2, .int x2), (3, .int x3), (5, .int x5), (6, .int x6), (7, .int x7)]) C.1.1 C.1.2.1 dX2_greatest_130 hl (k := 8) rfl rfl (by decide) rfl (fun ls hl => ?_)
    refine lv_goto (tgt := 50) C.1.1 C.1.2.1 dX2_greatest_133 (by decide) ?_
    exact hk_50 q14 M L x1 x2 x3 (if x4 < q12.2 then q12.2 else x4) x5 x6 x7 (x8 + (1 : Int32)) _ _ _ hw (lv_sub hl [2, 3, 4, 5, 1, 6, 7, 8, 0] rfl) hf
set_option maxRecDepth 20000 in
set_option maxHeartbeats 2000000 in
theorem wL_X2_greatest_50 {rec : TX → Int32 → Int32 → Int32 → Option (TX × Int32)} {d : Nat} (hrec : ∀ {X M : TX} {L : TL} {x1 : Int32} {x2 : Int32} {x3 : Int32} {ro : TX × Int32}, rec X x1 x2 x3 = some ro → CTi G l yX2_greatest cX2_greatest 9 (some .int) (3 + 3 * d) (72 + 72 * d) [.ref (gA G 3), .int x1, .int x2, .int x3] X M L ro.1 M L ro.2) {p : Program} {e : Env} {s : State} {m : MethodId} {args : Array Value} {below : List Frame} {meth : Method} {c : Code} (C : Cx G p s m args c cX2_greatest 9 RX2) (hr : meth.sig.returnType = (some .int)) (hlk : meth.locks = false) {ro : TX × Int32} {k_22 : TX → Int32 → Int32 → Int32 → Int32 → Int32 → Option (TX × Int32)} (hk_22 : ∀ (X : TX) (M : TX) (L : TL) (x1 : Int32) (x2 : Int32) (x3 : Int32) (x4 : Int32) (x5 : Int32) (H : Heap) (locs : List Loc) (ls : Array Slot), Wh G s X M L H locs → lv_has ls 9 [(0, .ref (gA G 3)), (1, .int x1), (2, .int x2), (3, .int x3), (4, .int x4), (5, .int x5)] → k_22 X x1 x2 x3 x4 x5 = some ro → W p l e (rz (3 + 3 * (d + 1)) (72 + 72 * (d + 1))) s m args below meth c H locs 0 0 (MQ below (Di G ro.1 M L ro.2) args s 0 0 (AB G)) (F0 m 22 ls [])) : ∀ (n : Nat), ∀ (X : TX) (M : TX) (L : TL) (x1 : Int32) (x2 : Int32) (x3 : Int32) (x4 : Int32) (x5 : Int32) (x6 : Int32) (x7 : Int32) (x8 : Int32) (H : Heap) (locs : List Loc) (ls : Array Slot), Wh G s X M L H locs → lv_has ls 9 [(0, .ref (gA G 3)), (1, .int x1), (2, .int x2), (3, .int x3), (4, .int x4), (5, .int x5), (6, .int x6), (7, .int x7), (8, .int x8)] → L_X2_greatest_50 rec k_22 n X x1 x2 x3 x4 x5 x6 x7 x8 = some ro → W p l e (rz (3 + 3 * (d + 1)) (72 + 72 * (d + 1))) s m args below meth c H locs 0 0 (MQ below (Di G ro.1 M L ro.2) args s 0 0 (AB G)) (F0 m 50 ls []) := by
  intro n
  induction n with
  | zero =>
    intro X M L x1 x2 x3 x4 x5 x6 x7 x8 H locs ls hw hl hf
    cases hf
  | succ n hk_50 =>
    intro X M L x1 x2 x3 x4 x5 x6 x7 x8 H locs ls hw hl hf
    rw [L_X2_greatest_50] at hf
    refine lv_iload C.1.1 C.1.2.1 dX2_greatest_50 (lv_at hl 8 rfl) ?_
    refine lv_iconst (v := (4 : Int32)) C.1.1 C.1.2.1 dX2_greatest_52 rfl ?_
    refine lv_icmp_ge (tgt := 136) C.1.1 C.1.2.1 dX2_greatest_53 (by decide) (fun c6 => ?_) (fun c6 => ?_)
    · have hf := o_t hf c6
      refine lv_iinc (v := (x5 + (1 : Int32))) (lv' := [(5, .int (x5 + (1 : Int32))), (0, .ref (gA G 3)), (1, .int x1), (2, .int x2), (3, .int x3), (4, .int x4), (6, .int x6), (7, .int x7), (8, .int x8)]) C.1.1 C.1.2.1 dX2_greatest_136 hl (k := 5) rfl rfl (by decide) rfl (fun ls hl => ?_)
      refine lv_goto (tgt := 22) C.1.1 C.1.2.1 dX2_greatest_139 (by decide) ?_
      exact hk_22 X M L x1 x2 x3 x4 (x5 + (1 : Int32)) _ _ _ hw (lv_sub hl [1, 2, 3, 4, 5, 0] rfl) hf
    · have hf := o_f hf c6
      refine lv_iload C.1.1 C.1.2.1 dX2_greatest_56 (lv_at hl 6 rfl) ?_
      refine lv_iload C.1.1 C.1.2.1 dX2_greatest_58 (lv_at hl 8 rfl) ?_
      obtain ⟨q7, h7, hf⟩ := o_bind hf
      refine aft_i hw (run_S C hw clX2_52 (As := [.int x6, .int x8]) (rest := []) (c_X8_has h7) hl.1 rfl ⟨(by show 0 + 1 ≤ 3 + 3 * (d + 1); omega), (by show 8 + (2 + 11) + 0 ≤ 72 + 72 * (d + 1); omega)⟩ ⟨Nat.zero_le _, Nat.zero_le _⟩ rfl (Nat.le_of_ble_eq_true rfl) dX2_greatest_60) (fun H locs hw => ?_)
      refine lv_if_eq (tgt := 90) C.1.1 C.1.2.1 dX2_greatest_63 (by decide) (fun c8 => ?_) (fun c8 => ?_)
      · have hf := o_t hf c8
        exact wB_X2_greatest_90 hrec C hr hlk hk_22 hk_50 X M L x1 x2 x3 x4 x5 x6 x7 x8 _ _ _ hw (lv_sub hl [0, 1, 2, 3, 4, 5, 6, 7, 8] rfl) hf
      · have hf := o_f hf c8
        refine lv_iload_n C.1.1 C.1.2.1 dX2_greatest_66 rfl (lv_at hl 2 rfl) ?_
        refine lv_iconst (v := (1 : Int32)) C.1.1 C.1.2.1 dX2_greatest_67 rfl ?_
        refine lv_icmp_ne (tgt := 90) C.1.1 C.1.2.1 dX2_greatest_68 (by decide) (fun c15 => ?_) (fun c15 => ?_)
        · have hf := o_f hf c15
          exact wB_X2_greatest_90 hrec C hr hlk hk_22 hk_50 X M L x1 x2 x3 x4 x5 x6 x7 x8 _ _ _ hw (lv_sub hl [0, 1, 2, 3, 4, 5, 6, 7, 8] rfl) hf
        · have hf := o_t hf c15
          refine lv_iload C.1.1 C.1.2.1 dX2_greatest_71 (lv_at hl 4 rfl) ?_
          refine lv_aload_n C.1.1 C.1.2.1 dX2_greatest_73 rfl (lv_at hl 0 rfl) ?_
          refine lv_iload_n C.1.1 C.1.2.1 dX2_greatest_74 rfl (lv_at hl 1 rfl) ?_
          refine lv_iload C.1.1 C.1.2.1 dX2_greatest_75 (lv_at hl 5 rfl) ?_
          refine lv_iload C.1.1 C.1.2.1 dX2_greatest_77 (lv_at hl 8 rfl) ?_
          obtain ⟨q16, h16, hf⟩ := o_bind hf
          refine aft_i hw (run_VX C hw clX2_108 (As := [.int x1, .int x5, .int x8]) (rest := [.int x4]) oX_3 (c_X3_marginIfPlaced h16) rfl hl.1 rfl ⟨(by show 2 + 1 ≤ 3 + 3 * (d + 1); omega), (by show 8 + (8 + 11) + 44 ≤ 72 + 72 * (d + 1); omega)⟩ ⟨Nat.zero_le _, Nat.zero_le _⟩ rfl (Nat.le_of_ble_eq_true rfl) dX2_greatest_79) (fun H locs hw => ?_)
          refine x_max C clX2_116 (tb5 100 rfl rfl) hl.1 ⟨(by show 1 ≤ 3 + 3 * (d + 1); omega), (by show 0 + 13 ≤ 72 + 72 * (d + 1); omega)⟩ ⟨Nat.zero_le _, Nat.zero_le _⟩ dX2_greatest_82 ?_
          refine lv_istore (lv' := [(4, .int (if x4 < q16 then q16 else x4)), (0, .ref (gA G 3)), (1, .int x1), (2, .int x2), (3, .int x3), (5, .int x5), (6, .int x6), (7, .int x7), (8, .int x8)]) C.1.1 C.1.2.1 dX2_greatest_85 hl (by decide) rfl (fun ls hl => ?_)
          refine lv_goto (tgt := 130) C.1.1 C.1.2.1 dX2_greatest_87 (by decide) ?_
          refine lv_iinc (v := (x8 + (1 : Int32))) (lv' := [(8, .int (x8 + (1 : Int32))), (4, .int (if x4 < q16 then q16 else x4)), (0, .ref (gA G 3)), (1, .int x1), (2, .int x2), (3, .int x3), (5, .int x5), (6, .int x6), (7, .int x7)]) C.1.1 C.1.2.1 dX2_greatest_130 hl (k := 8) rfl rfl (by decide) rfl (fun ls hl => ?_)
          refine lv_goto (tgt := 50) C.1.1 C.1.2.1 dX2_greatest_133 (by decide) ?_
          exact hk_50 X M L x1 x2 x3 (if x4 < q16 then q16 else x4) x5 x6 x7 (x8 + (1 : Int32)) _ _ _ hw (lv_sub hl [2, 3, 4, 5, 1, 6, 7, 8, 0] rfl) hf
set_option maxRecDepth 20000 in
set_option maxHeartbeats 2000000 in
theorem wL_X2_greatest_22 {rec : TX → Int32 → Int32 → Int32 → Option (TX × Int32)} {d : Nat} (hrec : ∀ {X M : TX} {L : TL} {x1 : Int32} {x2 : Int32} {x3 : Int32} {ro : TX × Int32}, rec X x1 x2 x3 = some ro → CTi G l yX2_greatest cX2_greatest 9 (some .int) (3 + 3 * d) (72 + 72 * d) [.ref (gA G 3), .int x1, .int x2, .int x3] X M L ro.1 M L ro.2) {p : Program} {e : Env} {s : State} {m : MethodId} {args : Array Value} {below : List Frame} {meth : Method} {c : Code} (C : Cx G p s m args c cX2_greatest 9 RX2) (hr : meth.sig.returnType = (some .int)) (hlk : meth.locks = false) {ro : TX × Int32} : ∀ (n : Nat), ∀ (X : TX) (M : TX) (L : TL) (x1 : Int32) (x2 : Int32) (x3 : Int32) (x4 : Int32) (x5 : Int32) (H : Heap) (locs : List Loc) (ls : Array Slot), Wh G s X M L H locs → lv_has ls 9 [(0, .ref (gA G 3)), (1, .int x1), (2, .int x2), (3, .int x3), (4, .int x4), (5, .int x5)] → L_X2_greatest_22 rec n X x1 x2 x3 x4 x5 = some ro → W p l e (rz (3 + 3 * (d + 1)) (72 + 72 * (d + 1))) s m args below meth c H locs 0 0 (MQ below (Di G ro.1 M L ro.2) args s 0 0 (AB G)) (F0 m 22 ls []) := by
  intro n
  induction n with
  | zero =>
    intro X M L x1 x2 x3 x4 x5 H locs ls hw hl hf
    cases hf
  | succ n hk_22 =>
    intro X M L x1 x2 x3 x4 x5 H locs ls hw hl hf
    rw [L_X2_greatest_22] at hf
    refine lv_iload C.1.1 C.1.2.1 dX2_greatest_22 (lv_at hl 5 rfl) ?_
    refine lv_aload_n C.1.1 C.1.2.1 dX2_greatest_24 rfl (lv_at hl 0 rfl) ?_
    refine x_get C hw iX_3_5 flX2_105 dX2_greatest_25 ?_
    refine lv_icmp_ge (tgt := 142) C.1.1 C.1.2.1 dX2_greatest_28 (by decide) (fun c3 => ?_) (fun c3 => ?_)
    · have hf := o_t hf c3
      refine lv_iload C.1.1 C.1.2.1 dX2_greatest_142 (lv_at hl 4 rfl) ?_
      obtain rfl := Option.some.inj hf
      exact ret_i C hr hlk hw dX2_greatest_144
    · have hf := o_f hf c3
      refine lv_aload_n C.1.1 C.1.2.1 dX2_greatest_31 rfl (lv_at hl 0 rfl) ?_
      refine lv_iload C.1.1 C.1.2.1 dX2_greatest_32 (lv_at hl 5 rfl) ?_
      obtain ⟨q4, h4, hf⟩ := o_bind hf
      refine aft_i hw (run_VX C hw clX2_48 (As := [.int x5]) (rest := []) oX_3 (c_X3_openWards h4) rfl hl.1 rfl ⟨(by show 2 + 1 ≤ 3 + 3 * (d + 1); omega), (by show 8 + (6 + 11) + 47 ≤ 72 + 72 * (d + 1); omega)⟩ ⟨Nat.zero_le _, Nat.zero_le _⟩ rfl (Nat.le_of_ble_eq_true rfl) dX2_greatest_34) (fun H locs hw => ?_)
      refine lv_istore (lv' := [(6, .int q4), (0, .ref (gA G 3)), (1, .int x1), (2, .int x2), (3, .int x3), (4, .int x4), (5, .int x5)]) C.1.1 C.1.2.1 dX2_greatest_37 hl (by decide) rfl (fun ls hl => ?_)
      refine lv_aload_n C.1.1 C.1.2.1 dX2_greatest_39 rfl (lv_at hl 1 rfl) ?_
      refine lv_iload C.1.1 C.1.2.1 dX2_greatest_40 (lv_at hl 6 rfl) ?_
      obtain ⟨q5, h5, hf⟩ := o_bind hf
      refine aft_i hw (run_VX C hw clX2_81 (As := [.int x5]) (rest := []) oX_3 (c_X3_wardOf h5) rfl hl.1 rfl ⟨(by show 1 + 1 ≤ 3 + 3 * (d + 1); omega), (by show 8 + (2 + 11) + 21 ≤ 72 + 72 * (d + 1); omega)⟩ ⟨Nat.zero_le _, Nat.zero_le _⟩ rfl (Nat.le_of_ble_eq_true rfl) dX2_greatest_42) (fun H locs hw => ?_)
      refine lv_istore (lv' := [(7, .int q5), (6, .int q4), (0, .ref (gA G 3)), (1, .int x1), (2, .int x2), (3, .int x3), (4, .int x4), (5, .int x5)]) C.1.1 C.1.2.1 dX2_greatest_45 hl (by decide) rfl (fun ls hl => ?_)
      refine lv_iconst (v := (0 : Int32)) C.1.1 C.1.2.1 dX2_greatest_47 rfl ?_
      refine lv_istore (lv' := [(8, .int (0 : Int32)), (7, .int q5), (6, .int q4), (0, .ref (gA G 3)), (1, .int x1), (2, .int x2), (3, .int x3), (4, .int x4), (5, .int x5)]) C.1.1 C.1.2.1 dX2_greatest_48 hl (by decide) rfl (fun ls hl => ?_)
      exact wL_X2_greatest_50 hrec C hr hlk hk_22 FU X M L x1 x2 x3 x4 x5 q4 q5 (0 : Int32) _ _ _ hw (lv_sub hl [3, 4, 5, 6, 7, 8, 2, 1, 0] rfl) hf
set_option maxRecDepth 20000 in
set_option maxHeartbeats 2000000 in
theorem c_X2_greatest : ∀ (d : Nat), ∀ {X M : TX} {L : TL} {x1 : Int32} {x2 : Int32} {x3 : Int32} {ro : TX × Int32}, f_X2_greatest d X x1 x2 x3 = some ro → CTi G l yX2_greatest cX2_greatest 9 (some .int) (3 + 3 * d) (72 + 72 * d) [.ref (gA G 3), .int x1, .int x2, .int x3] X M L ro.1 M L ro.2 := by
  intro d
  induction d with
  | zero =>
    intro X M L x1 x2 x3 ro hf
    cases hf
  | succ d hrec =>
    intro X M L x1 x2 x3 ro hf
    rw [f_X2_greatest] at hf
    refine ct_of (by decide +kernel) (Nat.le_of_ble_eq_true rfl) (fun p e s m args below meth c H locs ls C hr hlk hw hl => ?_)
    have C : Cx G p s m args c cX2_greatest 9 RX2 := C
    have hl : lv_has ls 9 [(0, .ref (gA G 3)), (1, .int x1), (2, .int x2), (3, .int x3)] := hl
    refine lv_iload_n C.1.1 C.1.2.1 dX2_greatest_0 rfl (lv_at hl 2 rfl) ?_
    refine lv_if_gt (tgt := 10) C.1.1 C.1.2.1 dX2_greatest_1 (by decide) (fun c1 => ?_) (fun c1 => ?_)
    · have hf := o_t hf c1
      refine lv_aload_n C.1.1 C.1.2.1 dX2_greatest_10 rfl (lv_at hl 0 rfl) ?_
      refine lv_iload_n C.1.1 C.1.2.1 dX2_greatest_11 rfl (lv_at hl 1 rfl) ?_
      refine lv_iload_n C.1.1 C.1.2.1 dX2_greatest_12 rfl (lv_at hl 2 rfl) ?_
      refine lv_iload_n C.1.1 C.1.2.1 dX2_greatest_13 rfl (lv_at hl 3 rfl) ?_
      obtain ⟨q2, h2, hf⟩ := o_bind hf
      refine aft_i hw (run_S C hw clX2_112 (As := [.ref (gA G 3), .int x1, .int x2, .int x3]) (rest := []) (c_X2_greatestThen hrec h2) hl.1 rfl ⟨(by show (4 + 3 * d) + 1 ≤ 3 + 3 * (d + 1); omega), (by show 8 + (4 + 11) + (100 + 72 * d) ≤ 72 + 72 * (d + 1); omega)⟩ ⟨Nat.zero_le _, Nat.zero_le _⟩ rfl (Nat.le_of_ble_eq_true rfl) dX2_greatest_14) (fun H locs hw => ?_)
      refine lv_istore (lv' := [(4, .int q2.2), (0, .ref (gA G 3)), (1, .int x1), (2, .int x2), (3, .int x3)]) C.1.1 C.1.2.1 dX2_greatest_17 hl (by decide) rfl (fun ls hl => ?_)
      refine lv_iconst (v := (0 : Int32)) C.1.1 C.1.2.1 dX2_greatest_19 rfl ?_
      refine lv_istore (lv' := [(5, .int (0 : Int32)), (4, .int q2.2), (0, .ref (gA G 3)), (1, .int x1), (2, .int x2), (3, .int x3)]) C.1.1 C.1.2.1 dX2_greatest_20 hl (by decide) rfl (fun ls hl => ?_)
      exact wL_X2_greatest_22 hrec C hr hlk FU q2.1 M L x1 x2 x3 q2.2 (0 : Int32) _ _ _ hw (lv_sub hl [2, 3, 4, 5, 1, 0] rfl) hf
    · have hf := o_f hf c1
      refine lv_aload_n C.1.1 C.1.2.1 dX2_greatest_4 rfl (lv_at hl 0 rfl) ?_
      refine lv_iload_n C.1.1 C.1.2.1 dX2_greatest_5 rfl (lv_at hl 1 rfl) ?_
      obtain ⟨q18, h18, hf⟩ := o_bind hf
      refine aft_i hw (run_VX C hw clX2_102 (As := [.int x1]) (rest := []) oX_3 (c_X3_margin h18) rfl hl.1 rfl ⟨(by show 1 + 1 ≤ 3 + 3 * (d + 1); omega), (by show 8 + (4 + 11) + 21 ≤ 72 + 72 * (d + 1); omega)⟩ ⟨Nat.zero_le _, Nat.zero_le _⟩ rfl (Nat.le_of_ble_eq_true rfl) dX2_greatest_6) (fun H locs hw => ?_)
      obtain rfl := Option.some.inj hf
      exact ret_i C hr hlk hw dX2_greatest_9
end
/-! WinnerDraws.redrawn(II)I (('o', 'X', 0) ('i',) ('i',)) -/
def f_X8_redrawn (X : TX) (x1 : Int32) (x2 : Int32) : Option (TX × (Int32 ⊕ Nat)) := (f_X8_needSide X x1).bind fun q1 => xb q1 (fun _ _ => if x2 < 0 then ((f_X8_need q1.1 (0 : Int32)).bind fun q3 => xb q3 (fun _ _ => (f_X2_greatest 5 q3.1 x1 x2 (0 : Int32)).bind fun q4 => some (q4.1, .inl q4.2))) else (if (3 : Int32) < x2 then ((f_X8_need q1.1 (0 : Int32)).bind fun q6 => xb q6 (fun _ _ => (f_X2_greatest 5 q6.1 x1 x2 (0 : Int32)).bind fun q7 => some (q7.1, .inl q7.2))) else ((f_X8_need q1.1 (1 : Int32)).bind fun q8 => xb q8 (fun _ _ => (f_X2_greatest 5 q8.1 x1 x2 (0 : Int32)).bind fun q9 => some (q9.1, .inl q9.2)))))
section
variable {G : GP} {l : Launch}
set_option maxRecDepth 20000 in
set_option maxHeartbeats 2000000 in
theorem c_X8_redrawn (hst : l.stackTraces = false)  {X M : TX} {L : TL} {x1 : Int32} {x2 : Int32} {ro : TX × (Int32 ⊕ Nat)} (hf : f_X8_redrawn X x1 x2 = some ro) : CXi G l yX8_redrawn cX8_redrawn 3 (some .int) 19 460 2 [.ref (gA G 0), .int x1, .int x2] X M L ro := by
  unfold f_X8_redrawn at hf
  refine cx_of (by decide +kernel) (Nat.le_of_ble_eq_true rfl) (fun p e s m args below meth c H locs ls C hr hlk hnt hw hl => ?_)
  have C : Cx G p s m args c cX8_redrawn 3 RX8 := C
  have hl : lv_has ls 3 [(0, .ref (gA G 0)), (1, .int x1), (2, .int x2)] := hl
  refine lv_aload_n C.1.1 C.1.2.1 dX8_redrawn_0 rfl (lv_at hl 0 rfl) ?_
  refine lv_iload_n C.1.1 C.1.2.1 dX8_redrawn_1 rfl (lv_at hl 1 rfl) ?_
  obtain ⟨q1, h1, hf⟩ := o_bind hf
  refine aftx_v hw (runx_VX C hw clX8_220 (tb5 43 rfl rfl) (As := [.int x1]) (rest := []) oX_0 (c_X8_needSide hst h1) rfl hl.1 rfl ⟨(Nat.le_of_ble_eq_true rfl), (Nat.le_of_ble_eq_true rfl)⟩ ⟨Nat.le_of_ble_eq_true rfl, Nat.le_of_ble_eq_true rfl⟩ rfl (Nat.le_of_ble_eq_true rfl) dX8_redrawn_2) hf hnt hlk (Nat.le_of_ble_eq_true rfl) (Nat.le_of_ble_eq_true rfl) (fun hf H locs hw => ?_)
  refine lv_aload_n C.1.1 C.1.2.1 dX8_redrawn_5 rfl (lv_at hl 0 rfl) ?_
  refine lv_iload_n C.1.1 C.1.2.1 dX8_redrawn_6 rfl (lv_at hl 2 rfl) ?_
  refine lv_if_lt (tgt := 19) C.1.1 C.1.2.1 dX8_redrawn_7 (by decide) (fun c2 => ?_) (fun c2 => ?_)
  · have hf := o_t hf c2
    refine lv_iconst (v := (0 : Int32)) C.1.1 C.1.2.1 dX8_redrawn_19 rfl ?_
    obtain ⟨q3, h3, hf⟩ := o_bind hf
    refine aftx_v hw (runx_VX C hw clX8_158 (tb2 212 rfl rfl) (As := [.int (0 : Int32)]) (rest := []) oX_0 (c_X8_need hst h3) rfl hl.1 rfl ⟨(Nat.le_of_ble_eq_true rfl), (Nat.le_of_ble_eq_true rfl)⟩ ⟨Nat.le_of_ble_eq_true rfl, Nat.le_of_ble_eq_true rfl⟩ rfl (Nat.le_of_ble_eq_true rfl) dX8_redrawn_20) hf hnt hlk (Nat.le_of_ble_eq_true rfl) (Nat.le_of_ble_eq_true rfl) (fun hf H locs hw => ?_)
    refine lv_aload_n C.1.1 C.1.2.1 dX8_redrawn_23 rfl (lv_at hl 0 rfl) ?_
    refine x_ref C hw fX_0_1 flX8_19 dX8_redrawn_24 ?_
    refine lv_iload_n C.1.1 C.1.2.1 dX8_redrawn_27 rfl (lv_at hl 1 rfl) ?_
    refine lv_iload_n C.1.1 C.1.2.1 dX8_redrawn_28 rfl (lv_at hl 2 rfl) ?_
    refine lv_iconst (v := (0 : Int32)) C.1.1 C.1.2.1 dX8_redrawn_29 rfl ?_
    obtain ⟨q4, h4, hf⟩ := o_bind hf
    refine aft_i hw (run_S C hw clX8_258 (As := [.ref (gA G 3), .int x1, .int x2, .int (0 : Int32)]) (rest := []) (c_X2_greatest 5 h4) hl.1 rfl ⟨(Nat.le_of_ble_eq_true rfl), (Nat.le_of_ble_eq_true rfl)⟩ ⟨Nat.le_of_ble_eq_true rfl, Nat.le_of_ble_eq_true rfl⟩ rfl (Nat.le_of_ble_eq_true rfl) dX8_redrawn_30) (fun H locs hw => ?_)
    exact retx_i C hr hlk hw (Option.some.inj hf).symm (Nat.le_of_ble_eq_true rfl) (Nat.le_of_ble_eq_true rfl) dX8_redrawn_33
  · have hf := o_f hf c2
    refine lv_iload_n C.1.1 C.1.2.1 dX8_redrawn_10 rfl (lv_at hl 2 rfl) ?_
    refine lv_iconst (v := (3 : Int32)) C.1.1 C.1.2.1 dX8_redrawn_11 rfl ?_
    refine lv_icmp_gt (tgt := 19) C.1.1 C.1.2.1 dX8_redrawn_12 (by decide) (fun c5 => ?_) (fun c5 => ?_)
    · have hf := o_t hf c5
      refine lv_iconst (v := (0 : Int32)) C.1.1 C.1.2.1 dX8_redrawn_19 rfl ?_
      obtain ⟨q6, h6, hf⟩ := o_bind hf
      refine aftx_v hw (runx_VX C hw clX8_158 (tb2 212 rfl rfl) (As := [.int (0 : Int32)]) (rest := []) oX_0 (c_X8_need hst h6) rfl hl.1 rfl ⟨(Nat.le_of_ble_eq_true rfl), (Nat.le_of_ble_eq_true rfl)⟩ ⟨Nat.le_of_ble_eq_true rfl, Nat.le_of_ble_eq_true rfl⟩ rfl (Nat.le_of_ble_eq_true rfl) dX8_redrawn_20) hf hnt hlk (Nat.le_of_ble_eq_true rfl) (Nat.le_of_ble_eq_true rfl) (fun hf H locs hw => ?_)
      refine lv_aload_n C.1.1 C.1.2.1 dX8_redrawn_23 rfl (lv_at hl 0 rfl) ?_
      refine x_ref C hw fX_0_1 flX8_19 dX8_redrawn_24 ?_
      refine lv_iload_n C.1.1 C.1.2.1 dX8_redrawn_27 rfl (lv_at hl 1 rfl) ?_
      refine lv_iload_n C.1.1 C.1.2.1 dX8_redrawn_28 rfl (lv_at hl 2 rfl) ?_
      refine lv_iconst (v := (0 : Int32)) C.1.1 C.1.2.1 dX8_redrawn_29 rfl ?_
      obtain ⟨q7, h7, hf⟩ := o_bind hf
      refine aft_i hw (run_S C hw clX8_258 (As := [.ref (gA G 3), .int x1, .int x2, .int (0 : Int32)]) (rest := []) (c_X2_greatest 5 h7) hl.1 rfl ⟨(Nat.le_of_ble_eq_true rfl), (Nat.le_of_ble_eq_true rfl)⟩ ⟨Nat.le_of_ble_eq_true rfl, Nat.le_of_ble_eq_true rfl⟩ rfl (Nat.le_of_ble_eq_true rfl) dX8_redrawn_30) (fun H locs hw => ?_)
      exact retx_i C hr hlk hw (Option.some.inj hf).symm (Nat.le_of_ble_eq_true rfl) (Nat.le_of_ble_eq_true rfl) dX8_redrawn_33
    · have hf := o_f hf c5
      refine lv_iconst (v := (1 : Int32)) C.1.1 C.1.2.1 dX8_redrawn_15 rfl ?_
      refine lv_goto (tgt := 20) C.1.1 C.1.2.1 dX8_redrawn_16 (by decide) ?_
      obtain ⟨q8, h8, hf⟩ := o_bind hf
      refine aftx_v hw (runx_VX C hw clX8_158 (tb2 212 rfl rfl) (As := [.int (1 : Int32)]) (rest := []) oX_0 (c_X8_need hst h8) rfl hl.1 rfl ⟨(Nat.le_of_ble_eq_true rfl), (Nat.le_of_ble_eq_true rfl)⟩ ⟨Nat.le_of_ble_eq_true rfl, Nat.le_of_ble_eq_true rfl⟩ rfl (Nat.le_of_ble_eq_true rfl) dX8_redrawn_20) hf hnt hlk (Nat.le_of_ble_eq_true rfl) (Nat.le_of_ble_eq_true rfl) (fun hf H locs hw => ?_)
      refine lv_aload_n C.1.1 C.1.2.1 dX8_redrawn_23 rfl (lv_at hl 0 rfl) ?_
      refine x_ref C hw fX_0_1 flX8_19 dX8_redrawn_24 ?_
      refine lv_iload_n C.1.1 C.1.2.1 dX8_redrawn_27 rfl (lv_at hl 1 rfl) ?_
      refine lv_iload_n C.1.1 C.1.2.1 dX8_redrawn_28 rfl (lv_at hl 2 rfl) ?_
      refine lv_iconst (v := (0 : Int32)) C.1.1 C.1.2.1 dX8_redrawn_29 rfl ?_
      obtain ⟨q9, h9, hf⟩ := o_bind hf
      refine aft_i hw (run_S C hw clX8_258 (As := [.ref (gA G 3), .int x1, .int x2, .int (0 : Int32)]) (rest := []) (c_X2_greatest 5 h9) hl.1 rfl ⟨(Nat.le_of_ble_eq_true rfl), (Nat.le_of_ble_eq_true rfl)⟩ ⟨Nat.le_of_ble_eq_true rfl, Nat.le_of_ble_eq_true rfl⟩ rfl (Nat.le_of_ble_eq_true rfl) dX8_redrawn_30) (fun H locs hw => ?_)
      exact retx_i C hr hlk hw (Option.some.inj hf).symm (Nat.le_of_ble_eq_true rfl) (Nat.le_of_ble_eq_true rfl) dX8_redrawn_33
end
/-! WinnerDraws.turned(I)I (('o', 'X', 0) ('i',)) -/
def f_X8_turned (X : TX) (x1 : Int32) : Option (TX × (Int32 ⊕ Nat)) := if x1 < 0 then ((f_X8_need X (0 : Int32)).bind fun q2 => xb q2 (fun _ _ => (f_X2_greatest 5 q2.1 (0 : Int32) x1 (1 : Int32)).bind fun q3 => some (q3.1, .inl q3.2))) else (if (3 : Int32) < x1 then ((f_X8_need X (0 : Int32)).bind fun q5 => xb q5 (fun _ _ => (f_X2_greatest 5 q5.1 (0 : Int32) x1 (1 : Int32)).bind fun q6 => some (q6.1, .inl q6.2))) else ((f_X8_need X (1 : Int32)).bind fun q7 => xb q7 (fun _ _ => (f_X2_greatest 5 q7.1 (0 : Int32) x1 (1 : Int32)).bind fun q8 => some (q8.1, .inl q8.2))))
section
variable {G : GP} {l : Launch}
set_option maxRecDepth 20000 in
set_option maxHeartbeats 2000000 in
theorem c_X8_turned (hst : l.stackTraces = false)  {X M : TX} {L : TL} {x1 : Int32} {ro : TX × (Int32 ⊕ Nat)} (hf : f_X8_turned X x1 = some ro) : CXi G l yX8_turned cX8_turned 2 (some .int) 19 460 1 [.ref (gA G 0), .int x1] X M L ro := by
  unfold f_X8_turned at hf
  refine cx_of (by decide +kernel) (Nat.le_of_ble_eq_true rfl) (fun p e s m args below meth c H locs ls C hr hlk hnt hw hl => ?_)
  have C : Cx G p s m args c cX8_turned 2 RX8 := C
  have hl : lv_has ls 2 [(0, .ref (gA G 0)), (1, .int x1)] := hl
  refine lv_aload_n C.1.1 C.1.2.1 dX8_turned_0 rfl (lv_at hl 0 rfl) ?_
  refine lv_iload_n C.1.1 C.1.2.1 dX8_turned_1 rfl (lv_at hl 1 rfl) ?_
  refine lv_if_lt (tgt := 14) C.1.1 C.1.2.1 dX8_turned_2 (by decide) (fun c1 => ?_) (fun c1 => ?_)
  · have hf := o_t hf c1
    refine lv_iconst (v := (0 : Int32)) C.1.1 C.1.2.1 dX8_turned_14 rfl ?_
    obtain ⟨q2, h2, hf⟩ := o_bind hf
    refine aftx_v hw (runx_VX C hw clX8_158 (tb2 212 rfl rfl) (As := [.int (0 : Int32)]) (rest := []) oX_0 (c_X8_need hst h2) rfl hl.1 rfl ⟨(Nat.le_of_ble_eq_true rfl), (Nat.le_of_ble_eq_true rfl)⟩ ⟨Nat.le_of_ble_eq_true rfl, Nat.le_of_ble_eq_true rfl⟩ rfl (Nat.le_of_ble_eq_true rfl) dX8_turned_15) hf hnt hlk (Nat.le_of_ble_eq_true rfl) (Nat.le_of_ble_eq_true rfl) (fun hf H locs hw => ?_)
    refine lv_aload_n C.1.1 C.1.2.1 dX8_turned_18 rfl (lv_at hl 0 rfl) ?_
    refine x_ref C hw fX_0_1 flX8_19 dX8_turned_19 ?_
    refine lv_iconst (v := (0 : Int32)) C.1.1 C.1.2.1 dX8_turned_22 rfl ?_
    refine lv_iload_n C.1.1 C.1.2.1 dX8_turned_23 rfl (lv_at hl 1 rfl) ?_
    refine lv_iconst (v := (1 : Int32)) C.1.1 C.1.2.1 dX8_turned_24 rfl ?_
    obtain ⟨q3, h3, hf⟩ := o_bind hf
    refine aft_i hw (run_S C hw clX8_258 (As := [.ref (gA G 3), .int (0 : Int32), .int x1, .int (1 : Int32)]) (rest := []) (c_X2_greatest 5 h3) hl.1 rfl ⟨(Nat.le_of_ble_eq_true rfl), (Nat.le_of_ble_eq_true rfl)⟩ ⟨Nat.le_of_ble_eq_true rfl, Nat.le_of_ble_eq_true rfl⟩ rfl (Nat.le_of_ble_eq_true rfl) dX8_turned_25) (fun H locs hw => ?_)
    exact retx_i C hr hlk hw (Option.some.inj hf).symm (Nat.le_of_ble_eq_true rfl) (Nat.le_of_ble_eq_true rfl) dX8_turned_28
  · have hf := o_f hf c1
    refine lv_iload_n C.1.1 C.1.2.1 dX8_turned_5 rfl (lv_at hl 1 rfl) ?_
    refine lv_iconst (v := (3 : Int32)) C.1.1 C.1.2.1 dX8_turned_6 rfl ?_
    refine lv_icmp_gt (tgt := 14) C.1.1 C.1.2.1 dX8_turned_7 (by decide) (fun c4 => ?_) (fun c4 => ?_)
    · have hf := o_t hf c4
      refine lv_iconst (v := (0 : Int32)) C.1.1 C.1.2.1 dX8_turned_14 rfl ?_
      obtain ⟨q5, h5, hf⟩ := o_bind hf
      refine aftx_v hw (runx_VX C hw clX8_158 (tb2 212 rfl rfl) (As := [.int (0 : Int32)]) (rest := []) oX_0 (c_X8_need hst h5) rfl hl.1 rfl ⟨(Nat.le_of_ble_eq_true rfl), (Nat.le_of_ble_eq_true rfl)⟩ ⟨Nat.le_of_ble_eq_true rfl, Nat.le_of_ble_eq_true rfl⟩ rfl (Nat.le_of_ble_eq_true rfl) dX8_turned_15) hf hnt hlk (Nat.le_of_ble_eq_true rfl) (Nat.le_of_ble_eq_true rfl) (fun hf H locs hw => ?_)
      refine lv_aload_n C.1.1 C.1.2.1 dX8_turned_18 rfl (lv_at hl 0 rfl) ?_
      refine x_ref C hw fX_0_1 flX8_19 dX8_turned_19 ?_
      refine lv_iconst (v := (0 : Int32)) C.1.1 C.1.2.1 dX8_turned_22 rfl ?_
      refine lv_iload_n C.1.1 C.1.2.1 dX8_turned_23 rfl (lv_at hl 1 rfl) ?_
      refine lv_iconst (v := (1 : Int32)) C.1.1 C.1.2.1 dX8_turned_24 rfl ?_
      obtain ⟨q6, h6, hf⟩ := o_bind hf
      refine aft_i hw (run_S C hw clX8_258 (As := [.ref (gA G 3), .int (0 : Int32), .int x1, .int (1 : Int32)]) (rest := []) (c_X2_greatest 5 h6) hl.1 rfl ⟨(Nat.le_of_ble_eq_true rfl), (Nat.le_of_ble_eq_true rfl)⟩ ⟨Nat.le_of_ble_eq_true rfl, Nat.le_of_ble_eq_true rfl⟩ rfl (Nat.le_of_ble_eq_true rfl) dX8_turned_25) (fun H locs hw => ?_)
      exact retx_i C hr hlk hw (Option.some.inj hf).symm (Nat.le_of_ble_eq_true rfl) (Nat.le_of_ble_eq_true rfl) dX8_turned_28
    · have hf := o_f hf c4
      refine lv_iconst (v := (1 : Int32)) C.1.1 C.1.2.1 dX8_turned_10 rfl ?_
      refine lv_goto (tgt := 15) C.1.1 C.1.2.1 dX8_turned_11 (by decide) ?_
      obtain ⟨q7, h7, hf⟩ := o_bind hf
      refine aftx_v hw (runx_VX C hw clX8_158 (tb2 212 rfl rfl) (As := [.int (1 : Int32)]) (rest := []) oX_0 (c_X8_need hst h7) rfl hl.1 rfl ⟨(Nat.le_of_ble_eq_true rfl), (Nat.le_of_ble_eq_true rfl)⟩ ⟨Nat.le_of_ble_eq_true rfl, Nat.le_of_ble_eq_true rfl⟩ rfl (Nat.le_of_ble_eq_true rfl) dX8_turned_15) hf hnt hlk (Nat.le_of_ble_eq_true rfl) (Nat.le_of_ble_eq_true rfl) (fun hf H locs hw => ?_)
      refine lv_aload_n C.1.1 C.1.2.1 dX8_turned_18 rfl (lv_at hl 0 rfl) ?_
      refine x_ref C hw fX_0_1 flX8_19 dX8_turned_19 ?_
      refine lv_iconst (v := (0 : Int32)) C.1.1 C.1.2.1 dX8_turned_22 rfl ?_
      refine lv_iload_n C.1.1 C.1.2.1 dX8_turned_23 rfl (lv_at hl 1 rfl) ?_
      refine lv_iconst (v := (1 : Int32)) C.1.1 C.1.2.1 dX8_turned_24 rfl ?_
      obtain ⟨q8, h8, hf⟩ := o_bind hf
      refine aft_i hw (run_S C hw clX8_258 (As := [.ref (gA G 3), .int (0 : Int32), .int x1, .int (1 : Int32)]) (rest := []) (c_X2_greatest 5 h8) hl.1 rfl ⟨(Nat.le_of_ble_eq_true rfl), (Nat.le_of_ble_eq_true rfl)⟩ ⟨Nat.le_of_ble_eq_true rfl, Nat.le_of_ble_eq_true rfl⟩ rfl (Nat.le_of_ble_eq_true rfl) dX8_turned_25) (fun H locs hw => ?_)
      exact retx_i C hr hlk hw (Option.some.inj hf).symm (Nat.le_of_ble_eq_true rfl) (Nat.le_of_ble_eq_true rfl) dX8_turned_28
end
/-! WinnerDraws.isHalf(I)Z (('i',)) -/
def f_X8_isHalf (x0 : Int32) : Option (Int32) := if x0 = 0 then (some (1 : Int32)) else (if x0 = (1 : Int32) then (some (1 : Int32)) else (some (0 : Int32)))
section
variable {G : GP} {l : Launch}
set_option maxRecDepth 20000 in
set_option maxHeartbeats 2000000 in
theorem c_X8_isHalf   {X M : TX} {L : TL} {x0 : Int32} {ro : Int32} (hf : f_X8_isHalf x0 = some ro) : CTi G l yX8_isHalf cX8_isHalf 1 (some .boolean) 0 0 [.int x0] X M L X M L ro := by
  unfold f_X8_isHalf at hf
  refine ct_of (by decide +kernel) (Nat.le_of_ble_eq_true rfl) (fun p e s m args below meth c H locs ls C hr hlk hw hl => ?_)
  have C : Cx G p s m args c cX8_isHalf 1 RX8 := C
  have hl : lv_has ls 1 [(0, .int x0)] := hl
  refine lv_iload_n C.1.1 C.1.2.1 dX8_isHalf_0 rfl (lv_at hl 0 rfl) ?_
  refine lv_if_eq (tgt := 9) C.1.1 C.1.2.1 dX8_isHalf_1 (by decide) (fun c1 => ?_) (fun c1 => ?_)
  · have hf := o_t hf c1
    refine lv_iconst (v := (1 : Int32)) C.1.1 C.1.2.1 dX8_isHalf_9 rfl ?_
    refine lv_goto (tgt := 14) C.1.1 C.1.2.1 dX8_isHalf_10 (by decide) ?_
    obtain rfl := Option.some.inj hf
    exact ret_z (r := (1 : Int32)) C hr hlk hw rfl dX8_isHalf_14
  · have hf := o_f hf c1
    refine lv_iload_n C.1.1 C.1.2.1 dX8_isHalf_4 rfl (lv_at hl 0 rfl) ?_
    refine lv_iconst (v := (1 : Int32)) C.1.1 C.1.2.1 dX8_isHalf_5 rfl ?_
    refine lv_icmp_ne (tgt := 13) C.1.1 C.1.2.1 dX8_isHalf_6 (by decide) (fun c2 => ?_) (fun c2 => ?_)
    · have hf := o_f hf c2
      refine lv_iconst (v := (0 : Int32)) C.1.1 C.1.2.1 dX8_isHalf_13 rfl ?_
      obtain rfl := Option.some.inj hf
      exact ret_z (r := (0 : Int32)) C hr hlk hw rfl dX8_isHalf_14
    · have hf := o_t hf c2
      refine lv_iconst (v := (1 : Int32)) C.1.1 C.1.2.1 dX8_isHalf_9 rfl ?_
      refine lv_goto (tgt := 14) C.1.1 C.1.2.1 dX8_isHalf_10 (by decide) ?_
      obtain rfl := Option.some.inj hf
      exact ret_z (r := (1 : Int32)) C hr hlk hw rfl dX8_isHalf_14
end
/-! WinnerDraws$Outlook.pass()V (('o', 'X', 34)) -/
def f_X5_pass (X : TX) : Option (TX) := (f_X3_elect X).bind fun q1 => (f_X2_redraw q1).bind fun q2 => some q2.1
section
variable {G : GP} {l : Launch}
set_option maxRecDepth 20000 in
set_option maxHeartbeats 2000000 in
theorem c_X5_pass   {X M : TX} {L : TL}  {ro : TX} (hf : f_X5_pass X = some ro) : CTv G l yX5_pass cX5_pass 1 none 6 147 [.ref (gA G 34)] X M L ro M L := by
  unfold f_X5_pass at hf
  refine ct_of (by decide +kernel) (Nat.le_of_ble_eq_true rfl) (fun p e s m args below meth c H locs ls C hr hlk hw hl => ?_)
  have C : Cx G p s m args c cX5_pass 1 RX5 := C
  have hl : lv_has ls 1 [(0, .ref (gA G 34))] := hl
  refine lv_aload_n C.1.1 C.1.2.1 dX5_pass_0 rfl (lv_at hl 0 rfl) ?_
  refine x_ref C hw fX_34_0 flX5_28 dX5_pass_1 ?_
  obtain ⟨q1, h1, hf⟩ := o_bind hf
  refine aft_v hw (run_VX C hw clX5_36 (As := []) (rest := []) oX_3 (c_X3_elect h1) rfl hl.1 rfl ⟨(Nat.le_of_ble_eq_true rfl), (Nat.le_of_ble_eq_true rfl)⟩ ⟨Nat.zero_le _, Nat.zero_le _⟩ rfl (Nat.le_of_ble_eq_true rfl) dX5_pass_4) (fun H locs hw => ?_)
  refine lv_aload_n C.1.1 C.1.2.1 dX5_pass_7 rfl (lv_at hl 0 rfl) ?_
  refine x_ref C hw fX_34_1 flX5_32 dX5_pass_8 ?_
  obtain ⟨q2, h2, hf⟩ := o_bind hf
  refine aft_i hw (run_VX C hw clX5_41 (As := []) (rest := []) oX_33 (c_X2_redraw h2) rfl hl.1 rfl ⟨(Nat.le_of_ble_eq_true rfl), (Nat.le_of_ble_eq_true rfl)⟩ ⟨Nat.zero_le _, Nat.zero_le _⟩ rfl (Nat.le_of_ble_eq_true rfl) dX5_pass_11) (fun H locs hw => ?_)
  refine lv_pop C.1.1 C.1.2.1 dX5_pass_14 rfl ?_
  obtain rfl := Option.some.inj hf
  exact ret_v C hr hlk hw dX5_pass_15
end
/-! WinnerDraws$Outlook.lookAhead(I)V (('o', 'X', 34) ('i',)) -/
def L_X5_lookAhead_19 : Nat → TX → Int32 → Int32 → Option (TX)
  | 0 => fun _ _ _ => none
  | n + 1 => fun X x1 x2 => if x1 ≤ x2 then ((f_X3_load 35 (u2 X 34 5 (X 3 9)) (0 : Int32)).bind fun q3 => some q3) else ((f_X5_pass X).bind fun q4 => if (q4 3 9) = (X 3 9) then ((L_X5_lookAhead_19 n) (u2 q4 34 6 ((q4 34 6) + (0 : Int32))) x1 (x2 + (1 : Int32))) else ((L_X5_lookAhead_19 n) (u2 q4 34 6 ((q4 34 6) + (1 : Int32))) x1 (x2 + (1 : Int32))))
def f_X5_lookAhead (X : TX) (x1 : Int32) : Option (TX) := (f_X3_save 35 X (0 : Int32)).bind fun q1 => L_X5_lookAhead_19 FU (u2 q1 34 6 (0 : Int32)) x1 (0 : Int32)
section
variable {G : GP} {l : Launch}
set_option maxRecDepth 20000 in
set_option maxHeartbeats 2000000 in
theorem wL_X5_lookAhead_19 {p : Program} {e : Env} {s : State} {m : MethodId} {args : Array Value} {below : List Frame} {meth : Method} {c : Code} (C : Cx G p s m args c cX5_lookAhead 4 RX5) (hr : meth.sig.returnType = none) (hlk : meth.locks = false) {ro : TX} : ∀ (n : Nat), ∀ (X : TX) (M : TX) (L : TL) (x1 : Int32) (x2 : Int32) (H : Heap) (locs : List Loc) (ls : Array Slot), Wh G s X M L H locs → lv_has ls 4 [(0, .ref (gA G 34)), (1, .int x1), (2, .int x2)] → L_X5_lookAhead_19 n X x1 x2 = some ro → W p l e (rz 7 167) s m args below meth c H locs 0 0 (MQ below (Dv G ro M L) args s 0 0 (AB G)) (F0 m 19 ls []) := by
  intro n
  induction n with
  | zero =>
    intro X M L x1 x2 H locs ls hw hl hf
    cases hf
  | succ n hk_19 =>
    intro X M L x1 x2 H locs ls hw hl hf
    rw [L_X5_lookAhead_19] at hf
    refine lv_iload_n C.1.1 C.1.2.1 dX5_lookAhead_19 rfl (lv_at hl 2 rfl) ?_
    refine lv_iload_n C.1.1 C.1.2.1 dX5_lookAhead_20 rfl (lv_at hl 1 rfl) ?_
    refine lv_icmp_ge (tgt := 67) C.1.1 C.1.2.1 dX5_lookAhead_21 (by decide) (fun c2 => ?_) (fun c2 => ?_)
    · have hf := o_t hf c2
      refine lv_aload_n C.1.1 C.1.2.1 dX5_lookAhead_67 rfl (lv_at hl 0 rfl) ?_
      refine lv_aload_n C.1.1 C.1.2.1 dX5_lookAhead_68 rfl (lv_at hl 0 rfl) ?_
      refine x_ref C hw fX_34_0 flX5_28 dX5_lookAhead_69 ?_
      refine x_get C hw iX_3_9 flX5_54 dX5_lookAhead_72 ?_
      refine x_put C hw iX_34_5 flX5_18 dX5_lookAhead_75 (fun H locs hw => ?_)
      refine lv_aload_n C.1.1 C.1.2.1 dX5_lookAhead_78 rfl (lv_at hl 0 rfl) ?_
      refine x_ref C hw fX_34_0 flX5_28 dX5_lookAhead_79 ?_
      refine lv_aload_n C.1.1 C.1.2.1 dX5_lookAhead_82 rfl (lv_at hl 0 rfl) ?_
      refine x_ref C hw fX_34_2 flX5_9 dX5_lookAhead_83 ?_
      refine lv_iconst (v := (0 : Int32)) C.1.1 C.1.2.1 dX5_lookAhead_86 rfl ?_
      obtain ⟨q3, h3, hf⟩ := o_bind hf
      refine aft_v hw (run_VX C hw clX5_60 (As := [.ref (gA G 35), .int (0 : Int32)]) (rest := []) oX_3 (c_X3_load aX_35 h3) rfl hl.1 rfl ⟨(Nat.le_of_ble_eq_true rfl), (Nat.le_of_ble_eq_true rfl)⟩ ⟨Nat.zero_le _, Nat.zero_le _⟩ rfl (Nat.le_of_ble_eq_true rfl) dX5_lookAhead_87) (fun H locs hw => ?_)
      obtain rfl := Option.some.inj hf
      exact ret_v C hr hlk hw dX5_lookAhead_90
    · have hf := o_f hf c2
      refine lv_aload_n C.1.1 C.1.2.1 dX5_lookAhead_24 rfl (lv_at hl 0 rfl) ?_
      refine x_ref C hw fX_34_0 flX5_28 dX5_lookAhead_25 ?_
      refine x_get C hw iX_3_9 flX5_54 dX5_lookAhead_28 ?_
      refine lv_istore_n (lv' := [(3, .int (X 3 9)), (0, .ref (gA G 34)), (1, .int x1), (2, .int x2)]) C.1.1 C.1.2.1 dX5_lookAhead_31 rfl hl (by decide) rfl (fun ls hl => ?_)
      refine lv_aload_n C.1.1 C.1.2.1 dX5_lookAhead_32 rfl (lv_at hl 1 rfl) ?_
      obtain ⟨q4, h4, hf⟩ := o_bind hf
      refine aft_v hw (run_VX C hw clX5_57 (As := []) (rest := []) oX_34 (c_X5_pass h4) rfl hl.1 rfl ⟨(Nat.le_of_ble_eq_true rfl), (Nat.le_of_ble_eq_true rfl)⟩ ⟨Nat.zero_le _, Nat.zero_le _⟩ rfl (Nat.le_of_ble_eq_true rfl) dX5_lookAhead_33) (fun H locs hw => ?_)
      refine lv_aload_n C.1.1 C.1.2.1 dX5_lookAhead_36 rfl (lv_at hl 1 rfl) ?_
      refine lv_dup C.1.1 C.1.2.1 dX5_lookAhead_37 rfl ?_
      refine x_get C hw iX_34_6 flX5_51 dX5_lookAhead_38 ?_
      refine lv_aload_n C.1.1 C.1.2.1 dX5_lookAhead_41 rfl (lv_at hl 1 rfl) ?_
      refine x_ref C hw fX_34_0 flX5_28 dX5_lookAhead_42 ?_
      refine x_get C hw iX_3_9 flX5_54 dX5_lookAhead_45 ?_
      refine lv_iload_n C.1.1 C.1.2.1 dX5_lookAhead_48 rfl (lv_at hl 0 rfl) ?_
      refine lv_icmp_ne (tgt := 56) C.1.1 C.1.2.1 dX5_lookAhead_49 (by decide) (fun c5 => ?_) (fun c5 => ?_)
      · have hf := o_f hf c5
        refine lv_iconst (v := (1 : Int32)) C.1.1 C.1.2.1 dX5_lookAhead_56 rfl ?_
        refine lv_iadd C.1.1 C.1.2.1 dX5_lookAhead_57 ?_
        refine x_put C hw iX_34_6 flX5_51 dX5_lookAhead_58 (fun H locs hw => ?_)
        refine lv_iinc (v := (x2 + (1 : Int32))) (lv' := [(2, .int (x2 + (1 : Int32))), (3, .int (X 3 9)), (0, .ref (gA G 34)), (1, .int x1)]) C.1.1 C.1.2.1 dX5_lookAhead_61 hl (k := 3) rfl rfl (by decide) rfl (fun ls hl => ?_)
        refine lv_goto (tgt := 19) C.1.1 C.1.2.1 dX5_lookAhead_64 (by decide) ?_
        exact hk_19 (u2 q4 34 6 ((q4 34 6) + (1 : Int32))) M L x1 (x2 + (1 : Int32)) _ _ _ hw (lv_sub hl [2, 3, 0] rfl) hf
      · have hf := o_t hf c5
        refine lv_iconst (v := (0 : Int32)) C.1.1 C.1.2.1 dX5_lookAhead_52 rfl ?_
        refine lv_goto (tgt := 57) C.1.1 C.1.2.1 dX5_lookAhead_53 (by decide) ?_
        refine lv_iadd C.1.1 C.1.2.1 dX5_lookAhead_57 ?_
        refine x_put C hw iX_34_6 flX5_51 dX5_lookAhead_58 (fun H locs hw => ?_)
        refine lv_iinc (v := (x2 + (1 : Int32))) (lv' := [(2, .int (x2 + (1 : Int32))), (3, .int (X 3 9)), (0, .ref (gA G 34)), (1, .int x1)]) C.1.1 C.1.2.1 dX5_lookAhead_61 hl (k := 3) rfl rfl (by decide) rfl (fun ls hl => ?_)
        refine lv_goto (tgt := 19) C.1.1 C.1.2.1 dX5_lookAhead_64 (by decide) ?_
        exact hk_19 (u2 q4 34 6 ((q4 34 6) + (0 : Int32))) M L x1 (x2 + (1 : Int32)) _ _ _ hw (lv_sub hl [2, 3, 0] rfl) hf
set_option maxRecDepth 20000 in
set_option maxHeartbeats 2000000 in
theorem c_X5_lookAhead   {X M : TX} {L : TL} {x1 : Int32} {ro : TX} (hf : f_X5_lookAhead X x1 = some ro) : CTv G l yX5_lookAhead cX5_lookAhead 4 none 7 167 [.ref (gA G 34), .int x1] X M L ro M L := by
  unfold f_X5_lookAhead at hf
  refine ct_of (by decide +kernel) (Nat.le_of_ble_eq_true rfl) (fun p e s m args below meth c H locs ls C hr hlk hw hl => ?_)
  have C : Cx G p s m args c cX5_lookAhead 4 RX5 := C
  have hl : lv_has ls 4 [(0, .ref (gA G 34)), (1, .int x1)] := hl
  refine lv_aload_n C.1.1 C.1.2.1 dX5_lookAhead_0 rfl (lv_at hl 0 rfl) ?_
  refine x_ref C hw fX_34_0 flX5_28 dX5_lookAhead_1 ?_
  refine lv_aload_n C.1.1 C.1.2.1 dX5_lookAhead_4 rfl (lv_at hl 0 rfl) ?_
  refine x_ref C hw fX_34_2 flX5_9 dX5_lookAhead_5 ?_
  refine lv_iconst (v := (0 : Int32)) C.1.1 C.1.2.1 dX5_lookAhead_8 rfl ?_
  obtain ⟨q1, h1, hf⟩ := o_bind hf
  refine aft_v hw (run_VX C hw clX5_47 (As := [.ref (gA G 35), .int (0 : Int32)]) (rest := []) oX_3 (c_X3_save aX_35 h1) rfl hl.1 rfl ⟨(Nat.le_of_ble_eq_true rfl), (Nat.le_of_ble_eq_true rfl)⟩ ⟨Nat.zero_le _, Nat.zero_le _⟩ rfl (Nat.le_of_ble_eq_true rfl) dX5_lookAhead_9) (fun H locs hw => ?_)
  refine lv_aload_n C.1.1 C.1.2.1 dX5_lookAhead_12 rfl (lv_at hl 0 rfl) ?_
  refine lv_iconst (v := (0 : Int32)) C.1.1 C.1.2.1 dX5_lookAhead_13 rfl ?_
  refine x_put C hw iX_34_6 flX5_51 dX5_lookAhead_14 (fun H locs hw => ?_)
  refine lv_iconst (v := (0 : Int32)) C.1.1 C.1.2.1 dX5_lookAhead_17 rfl ?_
  refine lv_istore_n (lv' := [(2, .int (0 : Int32)), (0, .ref (gA G 34)), (1, .int x1)]) C.1.1 C.1.2.1 dX5_lookAhead_18 rfl hl (by decide) rfl (fun ls hl => ?_)
  exact wL_X5_lookAhead_19 C hr hlk FU (u2 q1 34 6 (0 : Int32)) M L x1 (0 : Int32) _ _ _ hw (lv_sub hl [1, 2, 0] rfl) hf
end
