/-! WinnerDraws.told(I)I (('o', 'X', 0) ('i',)) -/
def B_X8_told_16 (X : TX) (x1 : Int32) (t0 : Int32) : Option (TX × (Int32 ⊕ Nat)) := (f_X8_need X t0).bind fun q2 => xb q2 (fun _ _ => if x1 = (0 : Int32) then (some (q2.1, .inl (q2.1 3 5))) else (if x1 = (1 : Int32) then ((f_X3_roadCount q2.1).bind fun q5 => some (q2.1, .inl q5)) else (if x1 = (2 : Int32) then (some (q2.1, .inl (q2.1 3 6))) else (if x1 = (3 : Int32) then (some (q2.1, .inl (q2.1 3 7))) else (if x1 = (4 : Int32) then (some (q2.1, .inl (q2.1 3 8))) else (if x1 = (5 : Int32) then (some (q2.1, .inl (q2.1 3 9))) else (if x1 = (6 : Int32) then (some (q2.1, .inl (q2.1 3 10))) else (if x1 = (7 : Int32) then ((f_X3_lines q2.1).bind fun q12 => some (q2.1, .inl q12)) else (if x1 = (8 : Int32) then ((f_X3_allVotes q2.1 (0 : Int32)).bind fun q14 => (f_X3_allVotes q2.1 (1 : Int32)).bind fun q15 => some (q2.1, .inl (q14 + q15))) else (if x1 = (9 : Int32) then ((f_X3_heldWards q2.1).bind fun q17 => some (q2.1, .inl q17)) else (if x1 = (10 : Int32) then (some (q2.1, .inl (q2.1 0 11))) else (if x1 = (11 : Int32) then ((f_X1_lines q2.1).bind fun q20 => some (q2.1, .inl q20)) else ((some (q2.1, .inl (q2.1 3 11))))))))))))))))
def f_X8_told (X : TX) (x1 : Int32) : Option (TX × (Int32 ⊕ Nat)) := if x1 < 0 then (B_X8_told_16 X x1 (0 : Int32)) else (if (12 : Int32) < x1 then (B_X8_told_16 X x1 (0 : Int32)) else (B_X8_told_16 X x1 (1 : Int32)))
section
variable {G : GP} {l : Launch}
set_option maxRecDepth 20000 in
set_option maxHeartbeats 2000000 in
theorem wB_X8_told_16 {p : Program} {e : Env} {s : State} {m : MethodId} {args : Array Value} {below : List Frame} {meth : Method} {c : Code} (C : Cx G p s m args c cX8_told 2 RX8) (hr : meth.sig.returnType = (some .int)) (hlk : meth.locks = false) (hnt : ∀ x ∈ c.exceptionTable.toList, False) (hst : l.stackTraces = false) {ro : TX × (Int32 ⊕ Nat)} : ∀ (X : TX) (M : TX) (L : TL) (x1 : Int32) (t0 : Int32) (H : Heap) (locs : List Loc) (ls : Array Slot), Wh G s X M L H locs → lv_has ls 2 [(0, .ref (gA G 0)), (1, .int x1)] → B_X8_told_16 X x1 t0 = some ro → W p l e (rx 7 141 1) s m args below meth c H locs 0 0 (vx_MQ below (Dxi G ro M L) (XD G ro M L) args s 1 (6 * 1) (AB G)) (F0 m 16 ls [.int t0, .ref (gA G 0)]) := by
  intro X M L x1 t0 H locs ls hw hl hf
  unfold B_X8_told_16 at hf
  obtain ⟨q2, h2, hf⟩ := o_bind hf
  refine aftx_v hw (runx_VX C hw clX8_158 (tb2 212 rfl rfl) (As := [.int t0]) (rest := []) oX_0 (c_X8_need hst h2) rfl hl.1 rfl ⟨(Nat.le_of_ble_eq_true rfl), (Nat.le_of_ble_eq_true rfl)⟩ ⟨Nat.le_of_ble_eq_true rfl, Nat.le_of_ble_eq_true rfl⟩ rfl (Nat.le_of_ble_eq_true rfl) dX8_told_16) hf hnt hlk (Nat.le_of_ble_eq_true rfl) (Nat.le_of_ble_eq_true rfl) (fun hf H locs hw => ?_)
  refine lv_iload_n C.1.1 C.1.2.1 dX8_told_19 rfl (lv_at hl 1 rfl) ?_
  by_cases c3 : x1 = (0 : Int32)
  · have hf := o_t hf c3
    refine lv_tableIn (tgt := 84) (off := 64) C.1.1 C.1.2.1 dX8_told_20 (by rw [c3]; decide) (by rw [c3]; decide) (by rw [c3]; rfl) (by decide) ?_
    refine lv_aload_n C.1.1 C.1.2.1 dX8_told_84 rfl (lv_at hl 0 rfl) ?_
    refine x_ref C hw fX_0_1 flX8_19 dX8_told_85 ?_
    refine x_get C hw iX_3_5 flX8_112 dX8_told_88 ?_
    exact retx_i C hr hlk hw (Option.some.inj hf).symm (Nat.le_of_ble_eq_true rfl) (Nat.le_of_ble_eq_true rfl) dX8_told_91
  have hf := o_f hf c3
  by_cases c4 : x1 = (1 : Int32)
  · have hf := o_t hf c4
    refine lv_tableIn (tgt := 92) (off := 72) C.1.1 C.1.2.1 dX8_told_20 (by rw [c4]; decide) (by rw [c4]; decide) (by rw [c4]; rfl) (by decide) ?_
    refine lv_aload_n C.1.1 C.1.2.1 dX8_told_92 rfl (lv_at hl 0 rfl) ?_
    refine x_ref C hw fX_0_1 flX8_19 dX8_told_93 ?_
    obtain ⟨q5, h5, hf⟩ := o_bind hf
    refine aft_i hw (run_VX C hw clX8_162 (As := []) (rest := []) oX_3 (c_X3_roadCount h5) rfl hl.1 rfl ⟨(Nat.le_of_ble_eq_true rfl), (Nat.le_of_ble_eq_true rfl)⟩ ⟨Nat.le_of_ble_eq_true rfl, Nat.le_of_ble_eq_true rfl⟩ rfl (Nat.le_of_ble_eq_true rfl) dX8_told_96) (fun H locs hw => ?_)
    exact retx_i C hr hlk hw (Option.some.inj hf).symm (Nat.le_of_ble_eq_true rfl) (Nat.le_of_ble_eq_true rfl) dX8_told_99
  have hf := o_f hf c4
  by_cases c6 : x1 = (2 : Int32)
  · have hf := o_t hf c6
    refine lv_tableIn (tgt := 100) (off := 80) C.1.1 C.1.2.1 dX8_told_20 (by rw [c6]; decide) (by rw [c6]; decide) (by rw [c6]; rfl) (by decide) ?_
    refine lv_aload_n C.1.1 C.1.2.1 dX8_told_100 rfl (lv_at hl 0 rfl) ?_
    refine x_ref C hw fX_0_1 flX8_19 dX8_told_101 ?_
    refine x_get C hw iX_3_6 flX8_165 dX8_told_104 ?_
    exact retx_i C hr hlk hw (Option.some.inj hf).symm (Nat.le_of_ble_eq_true rfl) (Nat.le_of_ble_eq_true rfl) dX8_told_107
  have hf := o_f hf c6
  by_cases c7 : x1 = (3 : Int32)
  · have hf := o_t hf c7
    refine lv_tableIn (tgt := 108) (off := 88) C.1.1 C.1.2.1 dX8_told_20 (by rw [c7]; decide) (by rw [c7]; decide) (by rw [c7]; rfl) (by decide) ?_
    refine lv_aload_n C.1.1 C.1.2.1 dX8_told_108 rfl (lv_at hl 0 rfl) ?_
    refine x_ref C hw fX_0_1 flX8_19 dX8_told_109 ?_
    refine x_get C hw iX_3_7 flX8_168 dX8_told_112 ?_
    exact retx_i C hr hlk hw (Option.some.inj hf).symm (Nat.le_of_ble_eq_true rfl) (Nat.le_of_ble_eq_true rfl) dX8_told_115
  have hf := o_f hf c7
  by_cases c8 : x1 = (4 : Int32)
  · have hf := o_t hf c8
    refine lv_tableIn (tgt := 116) (off := 96) C.1.1 C.1.2.1 dX8_told_20 (by rw [c8]; decide) (by rw [c8]; decide) (by rw [c8]; rfl) (by decide) ?_
    refine lv_aload_n C.1.1 C.1.2.1 dX8_told_116 rfl (lv_at hl 0 rfl) ?_
    refine x_ref C hw fX_0_1 flX8_19 dX8_told_117 ?_
    refine x_get C hw iX_3_8 flX8_171 dX8_told_120 ?_
    exact retx_i C hr hlk hw (Option.some.inj hf).symm (Nat.le_of_ble_eq_true rfl) (Nat.le_of_ble_eq_true rfl) dX8_told_123
  have hf := o_f hf c8
  by_cases c9 : x1 = (5 : Int32)
  · have hf := o_t hf c9
    refine lv_tableIn (tgt := 124) (off := 104) C.1.1 C.1.2.1 dX8_told_20 (by rw [c9]; decide) (by rw [c9]; decide) (by rw [c9]; rfl) (by decide) ?_
    refine lv_aload_n C.1.1 C.1.2.1 dX8_told_124 rfl (lv_at hl 0 rfl) ?_
    refine x_ref C hw fX_0_1 flX8_19 dX8_told_125 ?_
    refine x_get C hw iX_3_9 flX8_174 dX8_told_128 ?_
    exact retx_i C hr hlk hw (Option.some.inj hf).symm (Nat.le_of_ble_eq_true rfl) (Nat.le_of_ble_eq_true rfl) dX8_told_131
  have hf := o_f hf c9
  by_cases c10 : x1 = (6 : Int32)
  · have hf := o_t hf c10
    refine lv_tableIn (tgt := 132) (off := 112) C.1.1 C.1.2.1 dX8_told_20 (by rw [c10]; decide) (by rw [c10]; decide) (by rw [c10]; rfl) (by decide) ?_
    refine lv_aload_n C.1.1 C.1.2.1 dX8_told_132 rfl (lv_at hl 0 rfl) ?_
    refine x_ref C hw fX_0_1 flX8_19 dX8_told_133 ?_
    refine x_get C hw iX_3_10 flX8_177 dX8_told_136 ?_
    exact retx_i C hr hlk hw (Option.some.inj hf).symm (Nat.le_of_ble_eq_true rfl) (Nat.le_of_ble_eq_true rfl) dX8_told_139
  have hf := o_f hf c10
  by_cases c11 : x1 = (7 : Int32)
  · have hf := o_t hf c11
    refine lv_tableIn (tgt := 140) (off := 120) C.1.1 C.1.2.1 dX8_told_20 (by rw [c11]; decide) (by rw [c11]; decide) (by rw [c11]; rfl) (by decide) ?_
    refine lv_aload_n C.1.1 C.1.2.1 dX8_told_140 rfl (lv_at hl 0 rfl) ?_
    refine x_ref C hw fX_0_1 flX8_19 dX8_told_141 ?_
    obtain ⟨q12, h12, hf⟩ := o_bind hf
    refine aft_i hw (run_VX C hw clX8_180 (As := []) (rest := []) oX_3 (c_X3_lines h12) rfl hl.1 rfl ⟨(Nat.le_of_ble_eq_true rfl), (Nat.le_of_ble_eq_true rfl)⟩ ⟨Nat.le_of_ble_eq_true rfl, Nat.le_of_ble_eq_true rfl⟩ rfl (Nat.le_of_ble_eq_true rfl) dX8_told_144) (fun H locs hw => ?_)
    exact retx_i C hr hlk hw (Option.some.inj hf).symm (Nat.le_of_ble_eq_true rfl) (Nat.le_of_ble_eq_true rfl) dX8_told_147
  have hf := o_f hf c11
  by_cases c13 : x1 = (8 : Int32)
  · have hf := o_t hf c13
    refine lv_tableIn (tgt := 148) (off := 128) C.1.1 C.1.2.1 dX8_told_20 (by rw [c13]; decide) (by rw [c13]; decide) (by rw [c13]; rfl) (by decide) ?_
    refine lv_aload_n C.1.1 C.1.2.1 dX8_told_148 rfl (lv_at hl 0 rfl) ?_
    refine x_ref C hw fX_0_1 flX8_19 dX8_told_149 ?_
    refine lv_iconst (v := (0 : Int32)) C.1.1 C.1.2.1 dX8_told_152 rfl ?_
    obtain ⟨q14, h14, hf⟩ := o_bind hf
    refine aft_i hw (run_VX C hw clX8_181 (As := [.int (0 : Int32)]) (rest := []) oX_3 (c_X3_allVotes h14) rfl hl.1 rfl ⟨(Nat.le_of_ble_eq_true rfl), (Nat.le_of_ble_eq_true rfl)⟩ ⟨Nat.le_of_ble_eq_true rfl, Nat.le_of_ble_eq_true rfl⟩ rfl (Nat.le_of_ble_eq_true rfl) dX8_told_153) (fun H locs hw => ?_)
    refine lv_aload_n C.1.1 C.1.2.1 dX8_told_156 rfl (lv_at hl 0 rfl) ?_
    refine x_ref C hw fX_0_1 flX8_19 dX8_told_157 ?_
    refine lv_iconst (v := (1 : Int32)) C.1.1 C.1.2.1 dX8_told_160 rfl ?_
    obtain ⟨q15, h15, hf⟩ := o_bind hf
    refine aft_i hw (run_VX C hw clX8_181 (As := [.int (1 : Int32)]) (rest := [.int q14]) oX_3 (c_X3_allVotes h15) rfl hl.1 rfl ⟨(Nat.le_of_ble_eq_true rfl), (Nat.le_of_ble_eq_true rfl)⟩ ⟨Nat.le_of_ble_eq_true rfl, Nat.le_of_ble_eq_true rfl⟩ rfl (Nat.le_of_ble_eq_true rfl) dX8_told_161) (fun H locs hw => ?_)
    refine lv_iadd C.1.1 C.1.2.1 dX8_told_164 ?_
    exact retx_i C hr hlk hw (Option.some.inj hf).symm (Nat.le_of_ble_eq_true rfl) (Nat.le_of_ble_eq_true rfl) dX8_told_165
  have hf := o_f hf c13
  by_cases c16 : x1 = (9 : Int32)
  · have hf := o_t hf c16
    refine lv_tableIn (tgt := 166) (off := 146) C.1.1 C.1.2.1 dX8_told_20 (by rw [c16]; decide) (by rw [c16]; decide) (by rw [c16]; rfl) (by decide) ?_
    refine lv_aload_n C.1.1 C.1.2.1 dX8_told_166 rfl (lv_at hl 0 rfl) ?_
    refine x_ref C hw fX_0_1 flX8_19 dX8_told_167 ?_
    obtain ⟨q17, h17, hf⟩ := o_bind hf
    refine aft_i hw (run_VX C hw clX8_185 (As := []) (rest := []) oX_3 (c_X3_heldWards h17) rfl hl.1 rfl ⟨(Nat.le_of_ble_eq_true rfl), (Nat.le_of_ble_eq_true rfl)⟩ ⟨Nat.le_of_ble_eq_true rfl, Nat.le_of_ble_eq_true rfl⟩ rfl (Nat.le_of_ble_eq_true rfl) dX8_told_170) (fun H locs hw => ?_)
    exact retx_i C hr hlk hw (Option.some.inj hf).symm (Nat.le_of_ble_eq_true rfl) (Nat.le_of_ble_eq_true rfl) dX8_told_173
  have hf := o_f hf c16
  by_cases c18 : x1 = (10 : Int32)
  · have hf := o_t hf c18
    refine lv_tableIn (tgt := 174) (off := 154) C.1.1 C.1.2.1 dX8_told_20 (by rw [c18]; decide) (by rw [c18]; decide) (by rw [c18]; rfl) (by decide) ?_
    refine lv_aload_n C.1.1 C.1.2.1 dX8_told_174 rfl (lv_at hl 0 rfl) ?_
    refine x_get C hw iX_0_11 flX8_109 dX8_told_175 ?_
    exact retx_i C hr hlk hw (Option.some.inj hf).symm (Nat.le_of_ble_eq_true rfl) (Nat.le_of_ble_eq_true rfl) dX8_told_178
  have hf := o_f hf c18
  by_cases c19 : x1 = (11 : Int32)
  · have hf := o_t hf c19
    refine lv_tableIn (tgt := 179) (off := 159) C.1.1 C.1.2.1 dX8_told_20 (by rw [c19]; decide) (by rw [c19]; decide) (by rw [c19]; rfl) (by decide) ?_
    refine lv_aload_n C.1.1 C.1.2.1 dX8_told_179 rfl (lv_at hl 0 rfl) ?_
    refine x_ref C hw fX_0_5 flX8_39 dX8_told_180 ?_
    obtain ⟨q20, h20, hf⟩ := o_bind hf
    refine aft_i hw (run_VX C hw clX8_148 (As := []) (rest := []) oX_27 (c_X1_lines h20) rfl hl.1 rfl ⟨(Nat.le_of_ble_eq_true rfl), (Nat.le_of_ble_eq_true rfl)⟩ ⟨Nat.le_of_ble_eq_true rfl, Nat.le_of_ble_eq_true rfl⟩ rfl (Nat.le_of_ble_eq_true rfl) dX8_told_183) (fun H locs hw => ?_)
    exact retx_i C hr hlk hw (Option.some.inj hf).symm (Nat.le_of_ble_eq_true rfl) (Nat.le_of_ble_eq_true rfl) dX8_told_186
  have hf := o_f hf c19
  have ho : (Int32.toInt x1) < 0 ∨ 11 < (Int32.toInt x1) := by
    rcases (by omega : (Int32.toInt x1) < 0 ∨ 11 < (Int32.toInt x1) ∨ (Int32.toInt x1) = 0 ∨ (Int32.toInt x1) = 1 ∨ (Int32.toInt x1) = 2 ∨ (Int32.toInt x1) = 3 ∨ (Int32.toInt x1) = 4 ∨ (Int32.toInt x1) = 5 ∨ (Int32.toInt x1) = 6 ∨ (Int32.toInt x1) = 7 ∨ (Int32.toInt x1) = 8 ∨ (Int32.toInt x1) = 9 ∨ (Int32.toInt x1) = 10 ∨ (Int32.toInt x1) = 11) with q | q | q | q | q | q | q | q | q | q | q | q | q | q
    · exact Or.inl q
    · exact Or.inr q
    · exact absurd (Int32.toInt_inj.mp (q.trans (by decide))) c3
    · exact absurd (Int32.toInt_inj.mp (q.trans (by decide))) c4
    · exact absurd (Int32.toInt_inj.mp (q.trans (by decide))) c6
    · exact absurd (Int32.toInt_inj.mp (q.trans (by decide))) c7
    · exact absurd (Int32.toInt_inj.mp (q.trans (by decide))) c8
    · exact absurd (Int32.toInt_inj.mp (q.trans (by decide))) c9
    · exact absurd (Int32.toInt_inj.mp (q.trans (by decide))) c10
    · exact absurd (Int32.toInt_inj.mp (q.trans (by decide))) c11
    · exact absurd (Int32.toInt_inj.mp (q.trans (by decide))) c13
    · exact absurd (Int32.toInt_inj.mp (q.trans (by decide))) c16
    · exact absurd (Int32.toInt_inj.mp (q.trans (by decide))) c18
    · exact absurd (Int32.toInt_inj.mp (q.trans (by decide))) c19
  refine lv_tableOut (tgt := 187) C.1.1 C.1.2.1 dX8_told_20 ho (by decide) ?_
  refine lv_aload_n C.1.1 C.1.2.1 dX8_told_187 rfl (lv_at hl 0 rfl) ?_
  refine x_ref C hw fX_0_1 flX8_19 dX8_told_188 ?_
  refine x_get C hw iX_3_11 flX8_188 dX8_told_191 ?_
  exact retx_i C hr hlk hw (Option.some.inj hf).symm (Nat.le_of_ble_eq_true rfl) (Nat.le_of_ble_eq_true rfl) dX8_told_194
set_option maxRecDepth 20000 in
set_option maxHeartbeats 2000000 in
theorem c_X8_told (hst : l.stackTraces = false)  {X M : TX} {L : TL} {x1 : Int32} {ro : TX × (Int32 ⊕ Nat)} (hf : f_X8_told X x1 = some ro) : CXi G l yX8_told cX8_told 2 (some .int) 7 141 1 [.ref (gA G 0), .int x1] X M L ro := by
  unfold f_X8_told at hf
  refine cx_of (by decide +kernel) (Nat.le_of_ble_eq_true rfl) (fun p e s m args below meth c H locs ls C hr hlk hnt hw hl => ?_)
  have C : Cx G p s m args c cX8_told 2 RX8 := C
  have hl : lv_has ls 2 [(0, .ref (gA G 0)), (1, .int x1)] := hl
  refine lv_aload_n C.1.1 C.1.2.1 dX8_told_0 rfl (lv_at hl 0 rfl) ?_
  refine lv_iload_n C.1.1 C.1.2.1 dX8_told_1 rfl (lv_at hl 1 rfl) ?_
  refine lv_if_lt (tgt := 15) C.1.1 C.1.2.1 dX8_told_2 (by decide) (fun c1 => ?_) (fun c1 => ?_)
  · have hf := o_t hf c1
    refine lv_iconst (v := (0 : Int32)) C.1.1 C.1.2.1 dX8_told_15 rfl ?_
    exact wB_X8_told_16 C hr hlk hnt hst X M L x1 (0 : Int32) _ _ _ hw (lv_sub hl [0, 1] rfl) hf
  · have hf := o_f hf c1
    refine lv_iload_n C.1.1 C.1.2.1 dX8_told_5 rfl (lv_at hl 1 rfl) ?_
    refine lv_bipush (v := (12 : Int32)) C.1.1 C.1.2.1 dX8_told_6 rfl ?_
    refine lv_icmp_gt (tgt := 15) C.1.1 C.1.2.1 dX8_told_8 (by decide) (fun c21 => ?_) (fun c21 => ?_)
    · have hf := o_t hf c21
      refine lv_iconst (v := (0 : Int32)) C.1.1 C.1.2.1 dX8_told_15 rfl ?_
      exact wB_X8_told_16 C hr hlk hnt hst X M L x1 (0 : Int32) _ _ _ hw (lv_sub hl [0, 1] rfl) hf
    · have hf := o_f hf c21
      refine lv_iconst (v := (1 : Int32)) C.1.1 C.1.2.1 dX8_told_11 rfl ?_
      refine lv_goto (tgt := 16) C.1.1 C.1.2.1 dX8_told_12 (by decide) ?_
      exact wB_X8_told_16 C hr hlk hnt hst X M L x1 (1 : Int32) _ _ _ hw (lv_sub hl [0, 1] rfl) hf
end
/-! WinnerDraws.needThere(Z)V (('o', 'X', 0) ('i',)) -/
def f_X8_needThere (X : TX) (x1 : Int32) : Option (TX × (Unit ⊕ Nat)) := if x1 = 0 then (some ((u2 X 0 12 ((X 0 12) + (1 : Int32))), .inr 0)) else (some (X, .inl ()))
section
variable {G : GP} {l : Launch}
set_option maxRecDepth 20000 in
set_option maxHeartbeats 2000000 in
theorem c_X8_needThere (hst : l.stackTraces = false)  {X M : TX} {L : TL} {x1 : Int32} {ro : TX × (Unit ⊕ Nat)} (hf : f_X8_needThere X x1 = some ro) : CXv G l yX8_needThere cX8_needThere 2 none 6 120 1 [.ref (gA G 0), .int x1] X M L ro := by
  unfold f_X8_needThere at hf
  refine cx_of (by decide +kernel) (Nat.le_of_ble_eq_true rfl) (fun p e s m args below meth c H locs ls C hr hlk hnt hw hl => ?_)
  have C : Cx G p s m args c cX8_needThere 2 RX8 := C
  have hl : lv_has ls 2 [(0, .ref (gA G 0)), (1, .int x1)] := hl
  refine lv_iload_n C.1.1 C.1.2.1 dX8_needThere_0 rfl (lv_at hl 1 rfl) ?_
  refine lv_if_ne (tgt := 22) C.1.1 C.1.2.1 dX8_needThere_1 (by decide) (fun c1 => ?_) (fun c1 => ?_)
  · have hf := o_f hf c1
    exact retx_v C hr hlk hw (Option.some.inj hf).symm (Nat.le_of_ble_eq_true rfl) (Nat.le_of_ble_eq_true rfl) dX8_needThere_22
  · have hf := o_t hf c1
    refine lv_aload_n C.1.1 C.1.2.1 dX8_needThere_4 rfl (lv_at hl 0 rfl) ?_
    refine lv_dup C.1.1 C.1.2.1 dX8_needThere_5 rfl ?_
    refine x_get C hw iX_0_12 flX8_369 dX8_needThere_6 ?_
    refine lv_iconst (v := (1 : Int32)) C.1.1 C.1.2.1 dX8_needThere_9 rfl ?_
    refine lv_iadd C.1.1 C.1.2.1 dX8_needThere_10 ?_
    refine x_put C hw iX_0_12 flX8_369 dX8_needThere_11 (fun H locs hw => ?_)
    exact x_throw0 C hst hw (Option.some.inj hf).symm hl.1 dX8_needThere_14 dX8_needThere_17 dX8_needThere_18 dX8_needThere_21 hnt ⟨Nat.le_of_ble_eq_true rfl, Nat.le_of_ble_eq_true rfl, Nat.le_of_ble_eq_true rfl, Nat.le_of_ble_eq_true rfl⟩ hlk (Nat.le_of_ble_eq_true rfl) (Nat.le_of_ble_eq_true rfl)
end
/-! WinnerDraws.needParish(I)V (('o', 'X', 0) ('i',)) -/
def f_X8_needParish (X : TX) (x1 : Int32) : Option (TX × (Unit ⊕ Nat)) := if x1 < 0 then ((f_X8_needThere X (0 : Int32)).bind fun q2 => xb q2 (fun _ _ => some (q2.1, .inl ()))) else (if (X 3 5) ≤ x1 then ((f_X8_needThere X (0 : Int32)).bind fun q4 => xb q4 (fun _ _ => some (q4.1, .inl ()))) else ((f_X8_needThere X (1 : Int32)).bind fun q5 => xb q5 (fun _ _ => some (q5.1, .inl ()))))
section
variable {G : GP} {l : Launch}
set_option maxRecDepth 20000 in
set_option maxHeartbeats 2000000 in
theorem c_X8_needParish (hst : l.stackTraces = false)  {X M : TX} {L : TL} {x1 : Int32} {ro : TX × (Unit ⊕ Nat)} (hf : f_X8_needParish X x1 = some ro) : CXv G l yX8_needParish cX8_needParish 2 none 7 141 1 [.ref (gA G 0), .int x1] X M L ro := by
  unfold f_X8_needParish at hf
  refine cx_of (by decide +kernel) (Nat.le_of_ble_eq_true rfl) (fun p e s m args below meth c H locs ls C hr hlk hnt hw hl => ?_)
  have C : Cx G p s m args c cX8_needParish 2 RX8 := C
  have hl : lv_has ls 2 [(0, .ref (gA G 0)), (1, .int x1)] := hl
  refine lv_aload_n C.1.1 C.1.2.1 dX8_needParish_0 rfl (lv_at hl 0 rfl) ?_
  refine lv_iload_n C.1.1 C.1.2.1 dX8_needParish_1 rfl (lv_at hl 1 rfl) ?_
  refine lv_if_lt (tgt := 20) C.1.1 C.1.2.1 dX8_needParish_2 (by decide) (fun c1 => ?_) (fun c1 => ?_)
  · have hf := o_t hf c1
    refine lv_iconst (v := (0 : Int32)) C.1.1 C.1.2.1 dX8_needParish_20 rfl ?_
    obtain ⟨q2, h2, hf⟩ := o_bind hf
    refine aftx_v hw (runx_VX C hw clX8_381 (tb4 230 rfl rfl) (As := [.int (0 : Int32)]) (rest := []) oX_0 (c_X8_needThere hst h2) rfl hl.1 rfl ⟨(Nat.le_of_ble_eq_true rfl), (Nat.le_of_ble_eq_true rfl)⟩ ⟨Nat.le_of_ble_eq_true rfl, Nat.le_of_ble_eq_true rfl⟩ rfl (Nat.le_of_ble_eq_true rfl) dX8_needParish_21) hf hnt hlk (Nat.le_of_ble_eq_true rfl) (Nat.le_of_ble_eq_true rfl) (fun hf H locs hw => ?_)
    exact retx_v C hr hlk hw (Option.some.inj hf).symm (Nat.le_of_ble_eq_true rfl) (Nat.le_of_ble_eq_true rfl) dX8_needParish_24
  · have hf := o_f hf c1
    refine lv_iload_n C.1.1 C.1.2.1 dX8_needParish_5 rfl (lv_at hl 1 rfl) ?_
    refine lv_aload_n C.1.1 C.1.2.1 dX8_needParish_6 rfl (lv_at hl 0 rfl) ?_
    refine x_ref C hw fX_0_1 flX8_19 dX8_needParish_7 ?_
    refine x_get C hw iX_3_5 flX8_112 dX8_needParish_10 ?_
    refine lv_icmp_ge (tgt := 20) C.1.1 C.1.2.1 dX8_needParish_13 (by decide) (fun c3 => ?_) (fun c3 => ?_)
    · have hf := o_t hf c3
      refine lv_iconst (v := (0 : Int32)) C.1.1 C.1.2.1 dX8_needParish_20 rfl ?_
      obtain ⟨q4, h4, hf⟩ := o_bind hf
      refine aftx_v hw (runx_VX C hw clX8_381 (tb4 230 rfl rfl) (As := [.int (0 : Int32)]) (rest := []) oX_0 (c_X8_needThere hst h4) rfl hl.1 rfl ⟨(Nat.le_of_ble_eq_true rfl), (Nat.le_of_ble_eq_true rfl)⟩ ⟨Nat.le_of_ble_eq_true rfl, Nat.le_of_ble_eq_true rfl⟩ rfl (Nat.le_of_ble_eq_true rfl) dX8_needParish_21) hf hnt hlk (Nat.le_of_ble_eq_true rfl) (Nat.le_of_ble_eq_true rfl) (fun hf H locs hw => ?_)
      exact retx_v C hr hlk hw (Option.some.inj hf).symm (Nat.le_of_ble_eq_true rfl) (Nat.le_of_ble_eq_true rfl) dX8_needParish_24
    · have hf := o_f hf c3
      refine lv_iconst (v := (1 : Int32)) C.1.1 C.1.2.1 dX8_needParish_16 rfl ?_
      refine lv_goto (tgt := 21) C.1.1 C.1.2.1 dX8_needParish_17 (by decide) ?_
      obtain ⟨q5, h5, hf⟩ := o_bind hf
      refine aftx_v hw (runx_VX C hw clX8_381 (tb4 230 rfl rfl) (As := [.int (1 : Int32)]) (rest := []) oX_0 (c_X8_needThere hst h5) rfl hl.1 rfl ⟨(Nat.le_of_ble_eq_true rfl), (Nat.le_of_ble_eq_true rfl)⟩ ⟨Nat.le_of_ble_eq_true rfl, Nat.le_of_ble_eq_true rfl⟩ rfl (Nat.le_of_ble_eq_true rfl) dX8_needParish_21) hf hnt hlk (Nat.le_of_ble_eq_true rfl) (Nat.le_of_ble_eq_true rfl) (fun hf H locs hw => ?_)
      exact retx_v C hr hlk hw (Option.some.inj hf).symm (Nat.le_of_ble_eq_true rfl) (Nat.le_of_ble_eq_true rfl) dX8_needParish_24
end
/-! WinnerDraws.parish(II)I (('o', 'X', 0) ('i',) ('i',)) -/
def B_X8_parish_20 (X : TX) (x1 : Int32) (x2 : Int32) (t0 : Int32) : Option (TX × (Int32 ⊕ Nat)) := (f_X8_need X t0).bind fun q3 => xb q3 (fun _ _ => if x2 = (0 : Int32) then ((f_X3_wardOf q3.1 x1).bind fun q5 => some (q3.1, .inl q5)) else (if x2 = (1 : Int32) then ((f_X3_votesOf q3.1 (0 : Int32) x1).bind fun q7 => some (q3.1, .inl q7)) else (if x2 = (2 : Int32) then ((f_X3_votesOf q3.1 (1 : Int32) x1).bind fun q9 => some (q3.1, .inl q9)) else (((f_X3_roadsFrom q3.1 x1).bind fun q10 => some (q3.1, .inl q10))))))
def f_X8_parish (X : TX) (x1 : Int32) (x2 : Int32) : Option (TX × (Int32 ⊕ Nat)) := (f_X8_needParish X x1).bind fun q1 => xb q1 (fun _ _ => if x2 < 0 then (B_X8_parish_20 q1.1 x1 x2 (0 : Int32)) else (if (3 : Int32) < x2 then (B_X8_parish_20 q1.1 x1 x2 (0 : Int32)) else (B_X8_parish_20 q1.1 x1 x2 (1 : Int32))))
section
variable {G : GP} {l : Launch}
set_option maxRecDepth 20000 in
set_option maxHeartbeats 2000000 in
theorem wB_X8_parish_20 {p : Program} {e : Env} {s : State} {m : MethodId} {args : Array Value} {below : List Frame} {meth : Method} {c : Code} (C : Cx G p s m args c cX8_parish 3 RX8) (hr : meth.sig.returnType = (some .int)) (hlk : meth.locks = false) (hnt : ∀ x ∈ c.exceptionTable.toList, False) (hst : l.stackTraces = false) {ro : TX × (Int32 ⊕ Nat)} : ∀ (X : TX) (M : TX) (L : TL) (x1 : Int32) (x2 : Int32) (t0 : Int32) (H : Heap) (locs : List Loc) (ls : Array Slot), Wh G s X M L H locs → lv_has ls 3 [(0, .ref (gA G 0)), (1, .int x1), (2, .int x2)] → B_X8_parish_20 X x1 x2 t0 = some ro → W p l e (rx 8 162 2) s m args below meth c H locs 1 6 (vx_MQ below (Dxi G ro M L) (XD G ro M L) args s 2 (6 * 2) (AB G)) (F0 m 20 ls [.int t0, .ref (gA G 0)]) := by
  intro X M L x1 x2 t0 H locs ls hw hl hf
  unfold B_X8_parish_20 at hf
  obtain ⟨q3, h3, hf⟩ := o_bind hf
  refine aftx_v hw (runx_VX C hw clX8_158 (tb2 212 rfl rfl) (As := [.int t0]) (rest := []) oX_0 (c_X8_need hst h3) rfl hl.1 rfl ⟨(Nat.le_of_ble_eq_true rfl), (Nat.le_of_ble_eq_true rfl)⟩ ⟨Nat.le_of_ble_eq_true rfl, Nat.le_of_ble_eq_true rfl⟩ rfl (Nat.le_of_ble_eq_true rfl) dX8_parish_20) hf hnt hlk (Nat.le_of_ble_eq_true rfl) (Nat.le_of_ble_eq_true rfl) (fun hf H locs hw => ?_)
  refine lv_iload_n C.1.1 C.1.2.1 dX8_parish_23 rfl (lv_at hl 2 rfl) ?_
  by_cases c4 : x2 = (0 : Int32)
  · have hf := o_t hf c4
    refine lv_tableIn (tgt := 52) (off := 28) C.1.1 C.1.2.1 dX8_parish_24 (by rw [c4]; decide) (by rw [c4]; decide) (by rw [c4]; rfl) (by decide) ?_
    refine lv_aload_n C.1.1 C.1.2.1 dX8_parish_52 rfl (lv_at hl 0 rfl) ?_
    refine x_ref C hw fX_0_1 flX8_19 dX8_parish_53 ?_
    refine lv_iload_n C.1.1 C.1.2.1 dX8_parish_56 rfl (lv_at hl 1 rfl) ?_
    obtain ⟨q5, h5, hf⟩ := o_bind hf
    refine aft_i hw (run_VX C hw clX8_194 (As := [.int x1]) (rest := []) oX_3 (c_X3_wardOf h5) rfl hl.1 rfl ⟨(Nat.le_of_ble_eq_true rfl), (Nat.le_of_ble_eq_true rfl)⟩ ⟨Nat.le_of_ble_eq_true rfl, Nat.le_of_ble_eq_true rfl⟩ rfl (Nat.le_of_ble_eq_true rfl) dX8_parish_57) (fun H locs hw => ?_)
    exact retx_i C hr hlk hw (Option.some.inj hf).symm (Nat.le_of_ble_eq_true rfl) (Nat.le_of_ble_eq_true rfl) dX8_parish_60
  have hf := o_f hf c4
  by_cases c6 : x2 = (1 : Int32)
  · have hf := o_t hf c6
    refine lv_tableIn (tgt := 61) (off := 37) C.1.1 C.1.2.1 dX8_parish_24 (by rw [c6]; decide) (by rw [c6]; decide) (by rw [c6]; rfl) (by decide) ?_
    refine lv_aload_n C.1.1 C.1.2.1 dX8_parish_61 rfl (lv_at hl 0 rfl) ?_
    refine x_ref C hw fX_0_1 flX8_19 dX8_parish_62 ?_
    refine lv_iconst (v := (0 : Int32)) C.1.1 C.1.2.1 dX8_parish_65 rfl ?_
    refine lv_iload_n C.1.1 C.1.2.1 dX8_parish_66 rfl (lv_at hl 1 rfl) ?_
    obtain ⟨q7, h7, hf⟩ := o_bind hf
    refine aft_i hw (run_VX C hw clX8_197 (As := [.int (0 : Int32), .int x1]) (rest := []) oX_3 (c_X3_votesOf h7) rfl hl.1 rfl ⟨(Nat.le_of_ble_eq_true rfl), (Nat.le_of_ble_eq_true rfl)⟩ ⟨Nat.le_of_ble_eq_true rfl, Nat.le_of_ble_eq_true rfl⟩ rfl (Nat.le_of_ble_eq_true rfl) dX8_parish_67) (fun H locs hw => ?_)
    exact retx_i C hr hlk hw (Option.some.inj hf).symm (Nat.le_of_ble_eq_true rfl) (Nat.le_of_ble_eq_true rfl) dX8_parish_70
  have hf := o_f hf c6
  by_cases c8 : x2 = (2 : Int32)
  · have hf := o_t hf c8
    refine lv_tableIn (tgt := 71) (off := 47) C.1.1 C.1.2.1 dX8_parish_24 (by rw [c8]; decide) (by rw [c8]; decide) (by rw [c8]; rfl) (by decide) ?_
    refine lv_aload_n C.1.1 C.1.2.1 dX8_parish_71 rfl (lv_at hl 0 rfl) ?_
    refine x_ref C hw fX_0_1 flX8_19 dX8_parish_72 ?_
    refine lv_iconst (v := (1 : Int32)) C.1.1 C.1.2.1 dX8_parish_75 rfl ?_
    refine lv_iload_n C.1.1 C.1.2.1 dX8_parish_76 rfl (lv_at hl 1 rfl) ?_
    obtain ⟨q9, h9, hf⟩ := o_bind hf
    refine aft_i hw (run_VX C hw clX8_197 (As := [.int (1 : Int32), .int x1]) (rest := []) oX_3 (c_X3_votesOf h9) rfl hl.1 rfl ⟨(Nat.le_of_ble_eq_true rfl), (Nat.le_of_ble_eq_true rfl)⟩ ⟨Nat.le_of_ble_eq_true rfl, Nat.le_of_ble_eq_true rfl⟩ rfl (Nat.le_of_ble_eq_true rfl) dX8_parish_77) (fun H locs hw => ?_)
    exact retx_i C hr hlk hw (Option.some.inj hf).symm (Nat.le_of_ble_eq_true rfl) (Nat.le_of_ble_eq_true rfl) dX8_parish_80
  have hf := o_f hf c8
  have ho : (Int32.toInt x2) < 0 ∨ 2 < (Int32.toInt x2) := by
    rcases (by omega : (Int32.toInt x2) < 0 ∨ 2 < (Int32.toInt x2) ∨ (Int32.toInt x2) = 0 ∨ (Int32.toInt x2) = 1 ∨ (Int32.toInt x2) = 2) with q | q | q | q | q
    · exact Or.inl q
    · exact Or.inr q
    · exact absurd (Int32.toInt_inj.mp (q.trans (by decide))) c4
    · exact absurd (Int32.toInt_inj.mp (q.trans (by decide))) c6
    · exact absurd (Int32.toInt_inj.mp (q.trans (by decide))) c8
  refine lv_tableOut (tgt := 81) C.1.1 C.1.2.1 dX8_parish_24 ho (by decide) ?_
  refine lv_aload_n C.1.1 C.1.2.1 dX8_parish_81 rfl (lv_at hl 0 rfl) ?_
  refine x_ref C hw fX_0_1 flX8_19 dX8_parish_82 ?_
  refine lv_iload_n C.1.1 C.1.2.1 dX8_parish_85 rfl (lv_at hl 1 rfl) ?_
  obtain ⟨q10, h10, hf⟩ := o_bind hf
  refine aft_i hw (run_VX C hw clX8_201 (As := [.int x1]) (rest := []) oX_3 (c_X3_roadsFrom h10) rfl hl.1 rfl ⟨(Nat.le_of_ble_eq_true rfl), (Nat.le_of_ble_eq_true rfl)⟩ ⟨Nat.le_of_ble_eq_true rfl, Nat.le_of_ble_eq_true rfl⟩ rfl (Nat.le_of_ble_eq_true rfl) dX8_parish_86) (fun H locs hw => ?_)
  exact retx_i C hr hlk hw (Option.some.inj hf).symm (Nat.le_of_ble_eq_true rfl) (Nat.le_of_ble_eq_true rfl) dX8_parish_89
set_option maxRecDepth 20000 in
set_option maxHeartbeats 2000000 in
theorem c_X8_parish (hst : l.stackTraces = false)  {X M : TX} {L : TL} {x1 : Int32} {x2 : Int32} {ro : TX × (Int32 ⊕ Nat)} (hf : f_X8_parish X x1 x2 = some ro) : CXi G l yX8_parish cX8_parish 3 (some .int) 8 162 2 [.ref (gA G 0), .int x1, .int x2] X M L ro := by
  unfold f_X8_parish at hf
  refine cx_of (by decide +kernel) (Nat.le_of_ble_eq_true rfl) (fun p e s m args below meth c H locs ls C hr hlk hnt hw hl => ?_)
  have C : Cx G p s m args c cX8_parish 3 RX8 := C
  have hl : lv_has ls 3 [(0, .ref (gA G 0)), (1, .int x1), (2, .int x2)] := hl
  refine lv_aload_n C.1.1 C.1.2.1 dX8_parish_0 rfl (lv_at hl 0 rfl) ?_
  refine lv_iload_n C.1.1 C.1.2.1 dX8_parish_1 rfl (lv_at hl 1 rfl) ?_
  obtain ⟨q1, h1, hf⟩ := o_bind hf
  refine aftx_v hw (runx_VX C hw clX8_191 (tb4 226 rfl rfl) (As := [.int x1]) (rest := []) oX_0 (c_X8_needParish hst h1) rfl hl.1 rfl ⟨(Nat.le_of_ble_eq_true rfl), (Nat.le_of_ble_eq_true rfl)⟩ ⟨Nat.le_of_ble_eq_true rfl, Nat.le_of_ble_eq_true rfl⟩ rfl (Nat.le_of_ble_eq_true rfl) dX8_parish_2) hf hnt hlk (Nat.le_of_ble_eq_true rfl) (Nat.le_of_ble_eq_true rfl) (fun hf H locs hw => ?_)
  refine lv_aload_n C.1.1 C.1.2.1 dX8_parish_5 rfl (lv_at hl 0 rfl) ?_
  refine lv_iload_n C.1.1 C.1.2.1 dX8_parish_6 rfl (lv_at hl 2 rfl) ?_
  refine lv_if_lt (tgt := 19) C.1.1 C.1.2.1 dX8_parish_7 (by decide) (fun c2 => ?_) (fun c2 => ?_)
  · have hf := o_t hf c2
    refine lv_iconst (v := (0 : Int32)) C.1.1 C.1.2.1 dX8_parish_19 rfl ?_
    exact wB_X8_parish_20 C hr hlk hnt hst q1.1 M L x1 x2 (0 : Int32) _ _ _ hw (lv_sub hl [0, 1, 2] rfl) hf
  · have hf := o_f hf c2
    refine lv_iload_n C.1.1 C.1.2.1 dX8_parish_10 rfl (lv_at hl 2 rfl) ?_
    refine lv_iconst (v := (3 : Int32)) C.1.1 C.1.2.1 dX8_parish_11 rfl ?_
    refine lv_icmp_gt (tgt := 19) C.1.1 C.1.2.1 dX8_parish_12 (by decide) (fun c11 => ?_) (fun c11 => ?_)
    · have hf := o_t hf c11
      refine lv_iconst (v := (0 : Int32)) C.1.1 C.1.2.1 dX8_parish_19 rfl ?_
      exact wB_X8_parish_20 C hr hlk hnt hst q1.1 M L x1 x2 (0 : Int32) _ _ _ hw (lv_sub hl [0, 1, 2] rfl) hf
    · have hf := o_f hf c11
      refine lv_iconst (v := (1 : Int32)) C.1.1 C.1.2.1 dX8_parish_15 rfl ?_
      refine lv_goto (tgt := 20) C.1.1 C.1.2.1 dX8_parish_16 (by decide) ?_
      exact wB_X8_parish_20 C hr hlk hnt hst q1.1 M L x1 x2 (1 : Int32) _ _ _ hw (lv_sub hl [0, 1, 2] rfl) hf
end
/-! WinnerDraws.needWard(I)V (('o', 'X', 0) ('i',)) -/
def f_X8_needWard (X : TX) (x1 : Int32) : Option (TX × (Unit ⊕ Nat)) := if x1 < 0 then ((f_X8_needThere X (0 : Int32)).bind fun q2 => xb q2 (fun _ _ => some (q2.1, .inl ()))) else (if (4 : Int32) ≤ x1 then ((f_X8_needThere X (0 : Int32)).bind fun q4 => xb q4 (fun _ _ => some (q4.1, .inl ()))) else ((f_X8_needThere X (1 : Int32)).bind fun q5 => xb q5 (fun _ _ => some (q5.1, .inl ()))))
section
variable {G : GP} {l : Launch}
set_option maxRecDepth 20000 in
set_option maxHeartbeats 2000000 in
theorem c_X8_needWard (hst : l.stackTraces = false)  {X M : TX} {L : TL} {x1 : Int32} {ro : TX × (Unit ⊕ Nat)} (hf : f_X8_needWard X x1 = some ro) : CXv G l yX8_needWard cX8_needWard 2 none 7 141 1 [.ref (gA G 0), .int x1] X M L ro := by
  unfold f_X8_needWard at hf
  refine cx_of (by decide +kernel) (Nat.le_of_ble_eq_true rfl) (fun p e s m args below meth c H locs ls C hr hlk hnt hw hl => ?_)
  have C : Cx G p s m args c cX8_needWard 2 RX8 := C
  have hl : lv_has ls 2 [(0, .ref (gA G 0)), (1, .int x1)] := hl
  refine lv_aload_n C.1.1 C.1.2.1 dX8_needWard_0 rfl (lv_at hl 0 rfl) ?_
  refine lv_iload_n C.1.1 C.1.2.1 dX8_needWard_1 rfl (lv_at hl 1 rfl) ?_
  refine lv_if_lt (tgt := 14) C.1.1 C.1.2.1 dX8_needWard_2 (by decide) (fun c1 => ?_) (fun c1 => ?_)
  · have hf := o_t hf c1
    refine lv_iconst (v := (0 : Int32)) C.1.1 C.1.2.1 dX8_needWard_14 rfl ?_
    obtain ⟨q2, h2, hf⟩ := o_bind hf
    refine aftx_v hw (runx_VX C hw clX8_381 (tb4 230 rfl rfl) (As := [.int (0 : Int32)]) (rest := []) oX_0 (c_X8_needThere hst h2) rfl hl.1 rfl ⟨(Nat.le_of_ble_eq_true rfl), (Nat.le_of_ble_eq_true rfl)⟩ ⟨Nat.le_of_ble_eq_true rfl, Nat.le_of_ble_eq_true rfl⟩ rfl (Nat.le_of_ble_eq_true rfl) dX8_needWard_15) hf hnt hlk (Nat.le_of_ble_eq_true rfl) (Nat.le_of_ble_eq_true rfl) (fun hf H locs hw => ?_)
    exact retx_v C hr hlk hw (Option.some.inj hf).symm (Nat.le_of_ble_eq_true rfl) (Nat.le_of_ble_eq_true rfl) dX8_needWard_18
  · have hf := o_f hf c1
    refine lv_iload_n C.1.1 C.1.2.1 dX8_needWard_5 rfl (lv_at hl 1 rfl) ?_
    refine lv_iconst (v := (4 : Int32)) C.1.1 C.1.2.1 dX8_needWard_6 rfl ?_
    refine lv_icmp_ge (tgt := 14) C.1.1 C.1.2.1 dX8_needWard_7 (by decide) (fun c3 => ?_) (fun c3 => ?_)
    · have hf := o_t hf c3
      refine lv_iconst (v := (0 : Int32)) C.1.1 C.1.2.1 dX8_needWard_14 rfl ?_
      obtain ⟨q4, h4, hf⟩ := o_bind hf
      refine aftx_v hw (runx_VX C hw clX8_381 (tb4 230 rfl rfl) (As := [.int (0 : Int32)]) (rest := []) oX_0 (c_X8_needThere hst h4) rfl hl.1 rfl ⟨(Nat.le_of_ble_eq_true rfl), (Nat.le_of_ble_eq_true rfl)⟩ ⟨Nat.le_of_ble_eq_true rfl, Nat.le_of_ble_eq_true rfl⟩ rfl (Nat.le_of_ble_eq_true rfl) dX8_needWard_15) hf hnt hlk (Nat.le_of_ble_eq_true rfl) (Nat.le_of_ble_eq_true rfl) (fun hf H locs hw => ?_)
      exact retx_v C hr hlk hw (Option.some.inj hf).symm (Nat.le_of_ble_eq_true rfl) (Nat.le_of_ble_eq_true rfl) dX8_needWard_18
    · have hf := o_f hf c3
      refine lv_iconst (v := (1 : Int32)) C.1.1 C.1.2.1 dX8_needWard_10 rfl ?_
      refine lv_goto (tgt := 15) C.1.1 C.1.2.1 dX8_needWard_11 (by decide) ?_
      obtain ⟨q5, h5, hf⟩ := o_bind hf
      refine aftx_v hw (runx_VX C hw clX8_381 (tb4 230 rfl rfl) (As := [.int (1 : Int32)]) (rest := []) oX_0 (c_X8_needThere hst h5) rfl hl.1 rfl ⟨(Nat.le_of_ble_eq_true rfl), (Nat.le_of_ble_eq_true rfl)⟩ ⟨Nat.le_of_ble_eq_true rfl, Nat.le_of_ble_eq_true rfl⟩ rfl (Nat.le_of_ble_eq_true rfl) dX8_needWard_15) hf hnt hlk (Nat.le_of_ble_eq_true rfl) (Nat.le_of_ble_eq_true rfl) (fun hf H locs hw => ?_)
      exact retx_v C hr hlk hw (Option.some.inj hf).symm (Nat.le_of_ble_eq_true rfl) (Nat.le_of_ble_eq_true rfl) dX8_needWard_18
end
/-! WinnerDraws$County.wardVotes(II)I (('o', 'X', 3) ('i',) ('i',)) -/
def L_X3_wardVotes_5 : Nat → TX → Int32 → Int32 → Int32 → Int32 → Option (Int32)
  | 0 => fun _ _ _ _ _ => none
  | n + 1 => fun X x1 x2 x3 x4 => if (X 3 5) ≤ x4 then (some x3) else ((f_X3_wardOf X x4).bind fun q2 => if q2 = x2 then ((f_X3_votesOf X x1 x4).bind fun q4 => (L_X3_wardVotes_5 n) X x1 x2 (x3 + q4) (x4 + (1 : Int32))) else ((L_X3_wardVotes_5 n) X x1 x2 (x3 + (0 : Int32)) (x4 + (1 : Int32))))
def f_X3_wardVotes (X : TX) (x1 : Int32) (x2 : Int32) : Option (Int32) := L_X3_wardVotes_5 FU X x1 x2 (0 : Int32) (0 : Int32)
section
variable {G : GP} {l : Launch}
set_option maxRecDepth 20000 in
set_option maxHeartbeats 2000000 in
theorem wL_X3_wardVotes_5 {p : Program} {e : Env} {s : State} {m : MethodId} {args : Array Value} {below : List Frame} {meth : Method} {c : Code} (C : Cx G p s m args c cX3_wardVotes 5 RX3) (hr : meth.sig.returnType = (some .int)) (hlk : meth.locks = false) {ro : Int32} : ∀ (n : Nat), ∀ (X : TX) (M : TX) (L : TL) (x1 : Int32) (x2 : Int32) (x3 : Int32) (x4 : Int32) (H : Heap) (locs : List Loc) (ls : Array Slot), Wh G s X M L H locs → lv_has ls 5 [(0, .ref (gA G 3)), (1, .int x1), (2, .int x2), (3, .int x3), (4, .int x4)] → L_X3_wardVotes_5 n X x1 x2 x3 x4 = some ro → W p l e (rz 2 43) s m args below meth c H locs 0 0 (MQ below (Di G X M L ro) args s 0 0 (AB G)) (F0 m 5 ls []) := by
  intro n
  induction n with
  | zero =>
    intro X M L x1 x2 x3 x4 H locs ls hw hl hf
    cases hf
  | succ n hk_5 =>
    intro X M L x1 x2 x3 x4 H locs ls hw hl hf
    rw [L_X3_wardVotes_5] at hf
    refine lv_iload C.1.1 C.1.2.1 dX3_wardVotes_5 (lv_at hl 4 rfl) ?_
    refine lv_aload_n C.1.1 C.1.2.1 dX3_wardVotes_7 rfl (lv_at hl 0 rfl) ?_
    refine x_get C hw iX_3_5 flX3_44 dX3_wardVotes_8 ?_
    refine lv_icmp_ge (tgt := 44) C.1.1 C.1.2.1 dX3_wardVotes_11 (by decide) (fun c1 => ?_) (fun c1 => ?_)
    · have hf := o_t hf c1
      refine lv_iload_n C.1.1 C.1.2.1 dX3_wardVotes_44 rfl (lv_at hl 3 rfl) ?_
      obtain rfl := Option.some.inj hf
      exact ret_i C hr hlk hw dX3_wardVotes_45
    · have hf := o_f hf c1
      refine lv_iload_n C.1.1 C.1.2.1 dX3_wardVotes_14 rfl (lv_at hl 3 rfl) ?_
      refine lv_aload_n C.1.1 C.1.2.1 dX3_wardVotes_15 rfl (lv_at hl 0 rfl) ?_
      refine lv_iload C.1.1 C.1.2.1 dX3_wardVotes_16 (lv_at hl 4 rfl) ?_
      obtain ⟨q2, h2, hf⟩ := o_bind hf
      refine aft_i hw (run_VX C hw clX3_144 (As := [.int x4]) (rest := [.int x3]) oX_3 (c_X3_wardOf h2) rfl hl.1 rfl ⟨(Nat.le_of_ble_eq_true rfl), (Nat.le_of_ble_eq_true rfl)⟩ ⟨Nat.zero_le _, Nat.zero_le _⟩ rfl (Nat.le_of_ble_eq_true rfl) dX3_wardVotes_18) (fun H locs hw => ?_)
      refine lv_iload_n C.1.1 C.1.2.1 dX3_wardVotes_21 rfl (lv_at hl 2 rfl) ?_
      refine lv_icmp_ne (tgt := 35) C.1.1 C.1.2.1 dX3_wardVotes_22 (by decide) (fun c3 => ?_) (fun c3 => ?_)
      · have hf := o_f hf c3
        refine lv_iconst (v := (0 : Int32)) C.1.1 C.1.2.1 dX3_wardVotes_35 rfl ?_
        refine lv_iadd C.1.1 C.1.2.1 dX3_wardVotes_36 ?_
        refine lv_istore_n (lv' := [(3, .int (x3 + (0 : Int32))), (0, .ref (gA G 3)), (1, .int x1), (2, .int x2), (4, .int x4)]) C.1.1 C.1.2.1 dX3_wardVotes_37 rfl hl (by decide) rfl (fun ls hl => ?_)
        refine lv_iinc (v := (x4 + (1 : Int32))) (lv' := [(4, .int (x4 + (1 : Int32))), (3, .int (x3 + (0 : Int32))), (0, .ref (gA G 3)), (1, .int x1), (2, .int x2)]) C.1.1 C.1.2.1 dX3_wardVotes_38 hl (k := 4) rfl rfl (by decide) rfl (fun ls hl => ?_)
        refine lv_goto (tgt := 5) C.1.1 C.1.2.1 dX3_wardVotes_41 (by decide) ?_
        exact hk_5 X M L x1 x2 (x3 + (0 : Int32)) (x4 + (1 : Int32)) _ _ _ hw (lv_sub hl [2, 3, 4, 1, 0] rfl) hf
      · have hf := o_t hf c3
        refine lv_aload_n C.1.1 C.1.2.1 dX3_wardVotes_25 rfl (lv_at hl 0 rfl) ?_
        refine lv_iload_n C.1.1 C.1.2.1 dX3_wardVotes_26 rfl (lv_at hl 1 rfl) ?_
        refine lv_iload C.1.1 C.1.2.1 dX3_wardVotes_27 (lv_at hl 4 rfl) ?_
        obtain ⟨q4, h4, hf⟩ := o_bind hf
        refine aft_i hw (run_VX C hw clX3_147 (As := [.int x1, .int x4]) (rest := [.int x3]) oX_3 (c_X3_votesOf h4) rfl hl.1 rfl ⟨(Nat.le_of_ble_eq_true rfl), (Nat.le_of_ble_eq_true rfl)⟩ ⟨Nat.zero_le _, Nat.zero_le _⟩ rfl (Nat.le_of_ble_eq_true rfl) dX3_wardVotes_29) (fun H locs hw => ?_)
        refine lv_goto (tgt := 36) C.1.1 C.1.2.1 dX3_wardVotes_32 (by decide) ?_
        refine lv_iadd C.1.1 C.1.2.1 dX3_wardVotes_36 ?_
        refine lv_istore_n (lv' := [(3, .int (x3 + q4)), (0, .ref (gA G 3)), (1, .int x1), (2, .int x2), (4, .int x4)]) C.1.1 C.1.2.1 dX3_wardVotes_37 rfl hl (by decide) rfl (fun ls hl => ?_)
        refine lv_iinc (v := (x4 + (1 : Int32))) (lv' := [(4, .int (x4 + (1 : Int32))), (3, .int (x3 + q4)), (0, .ref (gA G 3)), (1, .int x1), (2, .int x2)]) C.1.1 C.1.2.1 dX3_wardVotes_38 hl (k := 4) rfl rfl (by decide) rfl (fun ls hl => ?_)
        refine lv_goto (tgt := 5) C.1.1 C.1.2.1 dX3_wardVotes_41 (by decide) ?_
        exact hk_5 X M L x1 x2 (x3 + q4) (x4 + (1 : Int32)) _ _ _ hw (lv_sub hl [2, 3, 4, 1, 0] rfl) hf
set_option maxRecDepth 20000 in
set_option maxHeartbeats 2000000 in
theorem c_X3_wardVotes   {X M : TX} {L : TL} {x1 : Int32} {x2 : Int32} {ro : Int32} (hf : f_X3_wardVotes X x1 x2 = some ro) : CTi G l yX3_wardVotes cX3_wardVotes 5 (some .int) 2 43 [.ref (gA G 3), .int x1, .int x2] X M L X M L ro := by
  unfold f_X3_wardVotes at hf
  refine ct_of (by decide +kernel) (Nat.le_of_ble_eq_true rfl) (fun p e s m args below meth c H locs ls C hr hlk hw hl => ?_)
  have C : Cx G p s m args c cX3_wardVotes 5 RX3 := C
  have hl : lv_has ls 5 [(0, .ref (gA G 3)), (1, .int x1), (2, .int x2)] := hl
  refine lv_iconst (v := (0 : Int32)) C.1.1 C.1.2.1 dX3_wardVotes_0 rfl ?_
  refine lv_istore_n (lv' := [(3, .int (0 : Int32)), (0, .ref (gA G 3)), (1, .int x1), (2, .int x2)]) C.1.1 C.1.2.1 dX3_wardVotes_1 rfl hl (by decide) rfl (fun ls hl => ?_)
  refine lv_iconst (v := (0 : Int32)) C.1.1 C.1.2.1 dX3_wardVotes_2 rfl ?_
  refine lv_istore (lv' := [(4, .int (0 : Int32)), (3, .int (0 : Int32)), (0, .ref (gA G 3)), (1, .int x1), (2, .int x2)]) C.1.1 C.1.2.1 dX3_wardVotes_3 hl (by decide) rfl (fun ls hl => ?_)
  exact wL_X3_wardVotes_5 C hr hlk FU X M L x1 x2 (0 : Int32) (0 : Int32) _ _ _ hw (lv_sub hl [2, 3, 4, 1, 0] rfl) hf
end
/-! WinnerDraws$County.winner(I)I (('o', 'X', 3) ('i',)) -/
def f_X3_winner (X : TX) (x1 : Int32) : Option (Int32) := (f_X8_at 10 X x1).bind fun q1 => if q1 = 0 then (some (-1 : Int32)) else (if q1 ≤ 0 then (some (1 : Int32)) else (some (0 : Int32)))
section
variable {G : GP} {l : Launch}
set_option maxRecDepth 20000 in
set_option maxHeartbeats 2000000 in
theorem c_X3_winner   {X M : TX} {L : TL} {x1 : Int32} {ro : Int32} (hf : f_X3_winner X x1 = some ro) : CTi G l yX3_winner cX3_winner 3 (some .int) 1 21 [.ref (gA G 3), .int x1] X M L X M L ro := by
  unfold f_X3_winner at hf
  refine ct_of (by decide +kernel) (Nat.le_of_ble_eq_true rfl) (fun p e s m args below meth c H locs ls C hr hlk hw hl => ?_)
  have C : Cx G p s m args c cX3_winner 3 RX3 := C
  have hl : lv_has ls 3 [(0, .ref (gA G 3)), (1, .int x1)] := hl
  refine lv_aload_n C.1.1 C.1.2.1 dX3_winner_0 rfl (lv_at hl 0 rfl) ?_
  refine x_ref C hw fX_3_13 flX3_37 dX3_winner_1 ?_
  refine lv_iload_n C.1.1 C.1.2.1 dX3_winner_4 rfl (lv_at hl 1 rfl) ?_
  obtain ⟨q1, h1, hf⟩ := o_bind hf
  refine aft_i hw (run_S C hw clX3_66 (As := [.ref (gA G 10), .int x1]) (rest := []) (c_X8_at aX_10 h1) hl.1 rfl ⟨(Nat.le_of_ble_eq_true rfl), (Nat.le_of_ble_eq_true rfl)⟩ ⟨Nat.zero_le _, Nat.zero_le _⟩ rfl (Nat.le_of_ble_eq_true rfl) dX3_winner_5) (fun H locs hw => ?_)
  refine lv_istore_n (lv' := [(2, .int q1), (0, .ref (gA G 3)), (1, .int x1)]) C.1.1 C.1.2.1 dX3_winner_8 rfl hl (by decide) rfl (fun ls hl => ?_)
  refine lv_iload_n C.1.1 C.1.2.1 dX3_winner_9 rfl (lv_at hl 0 rfl) ?_
  refine lv_if_ne (tgt := 15) C.1.1 C.1.2.1 dX3_winner_10 (by decide) (fun c2 => ?_) (fun c2 => ?_)
  · have hf := o_f hf c2
    refine lv_iload_n C.1.1 C.1.2.1 dX3_winner_15 rfl (lv_at hl 0 rfl) ?_
    refine lv_if_le (tgt := 23) C.1.1 C.1.2.1 dX3_winner_16 (by decide) (fun c3 => ?_) (fun c3 => ?_)
    · have hf := o_t hf c3
      refine lv_iconst (v := (1 : Int32)) C.1.1 C.1.2.1 dX3_winner_23 rfl ?_
      obtain rfl := Option.some.inj hf
      exact ret_i C hr hlk hw dX3_winner_24
    · have hf := o_f hf c3
      refine lv_iconst (v := (0 : Int32)) C.1.1 C.1.2.1 dX3_winner_19 rfl ?_
      refine lv_goto (tgt := 24) C.1.1 C.1.2.1 dX3_winner_20 (by decide) ?_
      obtain rfl := Option.some.inj hf
      exact ret_i C hr hlk hw dX3_winner_24
  · have hf := o_t hf c2
    refine lv_iconst (v := (-1 : Int32)) C.1.1 C.1.2.1 dX3_winner_13 rfl ?_
    obtain rfl := Option.some.inj hf
    exact ret_i C hr hlk hw dX3_winner_14
end
/-! WinnerDraws$County.hangsTogether(I)Z (('o', 'X', 3) ('i',)) -/
def f_X3_hangsTogether (X : TX) (x1 : Int32) : Option (Int32) := (f_X3_reached X (x1 &&& (-x1)) x1).bind fun q1 => if q1 = x1 then (some (1 : Int32)) else (some (0 : Int32))
section
variable {G : GP} {l : Launch}
set_option maxRecDepth 20000 in
set_option maxHeartbeats 2000000 in
theorem c_X3_hangsTogether   {X M : TX} {L : TL} {x1 : Int32} {ro : Int32} (hf : f_X3_hangsTogether X x1 = some ro) : CTi G l yX3_hangsTogether cX3_hangsTogether 2 (some .boolean) 2 47 [.ref (gA G 3), .int x1] X M L X M L ro := by
  unfold f_X3_hangsTogether at hf
  refine ct_of (by decide +kernel) (Nat.le_of_ble_eq_true rfl) (fun p e s m args below meth c H locs ls C hr hlk hw hl => ?_)
  have C : Cx G p s m args c cX3_hangsTogether 2 RX3 := C
  have hl : lv_has ls 2 [(0, .ref (gA G 3)), (1, .int x1)] := hl
  refine lv_aload_n C.1.1 C.1.2.1 dX3_hangsTogether_0 rfl (lv_at hl 0 rfl) ?_
  refine lv_iload_n C.1.1 C.1.2.1 dX3_hangsTogether_1 rfl (lv_at hl 1 rfl) ?_
  refine lv_iload_n C.1.1 C.1.2.1 dX3_hangsTogether_2 rfl (lv_at hl 1 rfl) ?_
  refine lv_ineg C.1.1 C.1.2.1 dX3_hangsTogether_3 ?_
  refine lv_iand C.1.1 C.1.2.1 dX3_hangsTogether_4 ?_
  refine lv_iload_n C.1.1 C.1.2.1 dX3_hangsTogether_5 rfl (lv_at hl 1 rfl) ?_
  obtain ⟨q1, h1, hf⟩ := o_bind hf
  refine aft_i hw (run_VX C hw clX3_162 (As := [.int (x1 &&& (-x1)), .int x1]) (rest := []) oX_3 (c_X3_reached h1) rfl hl.1 rfl ⟨(Nat.le_of_ble_eq_true rfl), (Nat.le_of_ble_eq_true rfl)⟩ ⟨Nat.zero_le _, Nat.zero_le _⟩ rfl (Nat.le_of_ble_eq_true rfl) dX3_hangsTogether_6) (fun H locs hw => ?_)
  refine lv_iload_n C.1.1 C.1.2.1 dX3_hangsTogether_9 rfl (lv_at hl 1 rfl) ?_
  refine lv_icmp_ne (tgt := 17) C.1.1 C.1.2.1 dX3_hangsTogether_10 (by decide) (fun c2 => ?_) (fun c2 => ?_)
  · have hf := o_f hf c2
    refine lv_iconst (v := (0 : Int32)) C.1.1 C.1.2.1 dX3_hangsTogether_17 rfl ?_
    obtain rfl := Option.some.inj hf
    exact ret_z (r := (0 : Int32)) C hr hlk hw rfl dX3_hangsTogether_18
  · have hf := o_t hf c2
    refine lv_iconst (v := (1 : Int32)) C.1.1 C.1.2.1 dX3_hangsTogether_13 rfl ?_
    refine lv_goto (tgt := 18) C.1.1 C.1.2.1 dX3_hangsTogether_14 (by decide) ?_
    obtain rfl := Option.some.inj hf
    exact ret_z (r := (1 : Int32)) C hr hlk hw rfl dX3_hangsTogether_18
end
/-! WinnerDraws.ward(II)I (('o', 'X', 0) ('i',) ('i',)) -/
def B_X8_ward_20 (X : TX) (x1 : Int32) (x2 : Int32) (t0 : Int32) : Option (TX × (Int32 ⊕ Nat)) := (f_X8_need X t0).bind fun q3 => xb q3 (fun _ _ => if x2 = (0 : Int32) then ((f_X3_membersOf q3.1 x1).bind fun q5 => some (q3.1, .inl q5)) else (if x2 = (1 : Int32) then ((f_X3_wardVotes q3.1 (0 : Int32) x1).bind fun q7 => some (q3.1, .inl q7)) else (if x2 = (2 : Int32) then ((f_X3_wardVotes q3.1 (1 : Int32) x1).bind fun q9 => some (q3.1, .inl q9)) else (if x2 = (3 : Int32) then ((f_X3_winner q3.1 x1).bind fun q11 => some (q3.1, .inl q11)) else (((f_X3_membersOf q3.1 x1).bind fun q12 => (f_X3_hangsTogether q3.1 q12).bind fun q13 => if q13 = 0 then (some (q3.1, .inl (0 : Int32))) else (some (q3.1, .inl (1 : Int32)))))))))
def f_X8_ward (X : TX) (x1 : Int32) (x2 : Int32) : Option (TX × (Int32 ⊕ Nat)) := (f_X8_needWard X x1).bind fun q1 => xb q1 (fun _ _ => if x2 < 0 then (B_X8_ward_20 q1.1 x1 x2 (0 : Int32)) else (if (4 : Int32) < x2 then (B_X8_ward_20 q1.1 x1 x2 (0 : Int32)) else (B_X8_ward_20 q1.1 x1 x2 (1 : Int32))))
section
variable {G : GP} {l : Launch}
set_option maxRecDepth 20000 in
set_option maxHeartbeats 2000000 in
theorem wB_X8_ward_20 {p : Program} {e : Env} {s : State} {m : MethodId} {args : Array Value} {below : List Frame} {meth : Method} {c : Code} (C : Cx G p s m args c cX8_ward 3 RX8) (hr : meth.sig.returnType = (some .int)) (hlk : meth.locks = false) (hnt : ∀ x ∈ c.exceptionTable.toList, False) (hst : l.stackTraces = false) {ro : TX × (Int32 ⊕ Nat)} : ∀ (X : TX) (M : TX) (L : TL) (x1 : Int32) (x2 : Int32) (t0 : Int32) (H : Heap) (locs : List Loc) (ls : Array Slot), Wh G s X M L H locs → lv_has ls 3 [(0, .ref (gA G 0)), (1, .int x1), (2, .int x2)] → B_X8_ward_20 X x1 x2 t0 = some ro → W p l e (rx 8 162 2) s m args below meth c H locs 1 6 (vx_MQ below (Dxi G ro M L) (XD G ro M L) args s 2 (6 * 2) (AB G)) (F0 m 20 ls [.int t0, .ref (gA G 0)]) := by
  intro X M L x1 x2 t0 H locs ls hw hl hf
  unfold B_X8_ward_20 at hf
  obtain ⟨q3, h3, hf⟩ := o_bind hf
  refine aftx_v hw (runx_VX C hw clX8_158 (tb2 212 rfl rfl) (As := [.int t0]) (rest := []) oX_0 (c_X8_need hst h3) rfl hl.1 rfl ⟨(Nat.le_of_ble_eq_true rfl), (Nat.le_of_ble_eq_true rfl)⟩ ⟨Nat.le_of_ble_eq_true rfl, Nat.le_of_ble_eq_true rfl⟩ rfl (Nat.le_of_ble_eq_true rfl) dX8_ward_20) hf hnt hlk (Nat.le_of_ble_eq_true rfl) (Nat.le_of_ble_eq_true rfl) (fun hf H locs hw => ?_)
  refine lv_iload_n C.1.1 C.1.2.1 dX8_ward_23 rfl (lv_at hl 2 rfl) ?_
  by_cases c4 : x2 = (0 : Int32)
  · have hf := o_t hf c4
    refine lv_tableIn (tgt := 56) (off := 32) C.1.1 C.1.2.1 dX8_ward_24 (by rw [c4]; decide) (by rw [c4]; decide) (by rw [c4]; rfl) (by decide) ?_
    refine lv_aload_n C.1.1 C.1.2.1 dX8_ward_56 rfl (lv_at hl 0 rfl) ?_
    refine x_ref C hw fX_0_1 flX8_19 dX8_ward_57 ?_
    refine lv_iload_n C.1.1 C.1.2.1 dX8_ward_60 rfl (lv_at hl 1 rfl) ?_
    obtain ⟨q5, h5, hf⟩ := o_bind hf
    refine aft_i hw (run_VX C hw clX8_207 (As := [.int x1]) (rest := []) oX_3 (c_X3_membersOf h5) rfl hl.1 rfl ⟨(Nat.le_of_ble_eq_true rfl), (Nat.le_of_ble_eq_true rfl)⟩ ⟨Nat.le_of_ble_eq_true rfl, Nat.le_of_ble_eq_true rfl⟩ rfl (Nat.le_of_ble_eq_true rfl) dX8_ward_61) (fun H locs hw => ?_)
    exact retx_i C hr hlk hw (Option.some.inj hf).symm (Nat.le_of_ble_eq_true rfl) (Nat.le_of_ble_eq_true rfl) dX8_ward_64
  have hf := o_f hf c4
  by_cases c6 : x2 = (1 : Int32)
  · have hf := o_t hf c6
    refine lv_tableIn (tgt := 65) (off := 41) C.1.1 C.1.2.1 dX8_ward_24 (by rw [c6]; decide) (by rw [c6]; decide) (by rw [c6]; rfl) (by decide) ?_
    refine lv_aload_n C.1.1 C.1.2.1 dX8_ward_65 rfl (lv_at hl 0 rfl) ?_
    refine x_ref C hw fX_0_1 flX8_19 dX8_ward_66 ?_
    refine lv_iconst (v := (0 : Int32)) C.1.1 C.1.2.1 dX8_ward_69 rfl ?_
    refine lv_iload_n C.1.1 C.1.2.1 dX8_ward_70 rfl (lv_at hl 1 rfl) ?_
    obtain ⟨q7, h7, hf⟩ := o_bind hf
    refine aft_i hw (run_VX C hw clX8_210 (As := [.int (0 : Int32), .int x1]) (rest := []) oX_3 (c_X3_wardVotes h7) rfl hl.1 rfl ⟨(Nat.le_of_ble_eq_true rfl), (Nat.le_of_ble_eq_true rfl)⟩ ⟨Nat.le_of_ble_eq_true rfl, Nat.le_of_ble_eq_true rfl⟩ rfl (Nat.le_of_ble_eq_true rfl) dX8_ward_71) (fun H locs hw => ?_)
    exact retx_i C hr hlk hw (Option.some.inj hf).symm (Nat.le_of_ble_eq_true rfl) (Nat.le_of_ble_eq_true rfl) dX8_ward_74
  have hf := o_f hf c6
  by_cases c8 : x2 = (2 : Int32)
  · have hf := o_t hf c8
    refine lv_tableIn (tgt := 75) (off := 51) C.1.1 C.1.2.1 dX8_ward_24 (by rw [c8]; decide) (by rw [c8]; decide) (by rw [c8]; rfl) (by decide) ?_
    refine lv_aload_n C.1.1 C.1.2.1 dX8_ward_75 rfl (lv_at hl 0 rfl) ?_
    refine x_ref C hw fX_0_1 flX8_19 dX8_ward_76 ?_
    refine lv_iconst (v := (1 : Int32)) C.1.1 C.1.2.1 dX8_ward_79 rfl ?_
    refine lv_iload_n C.1.1 C.1.2.1 dX8_ward_80 rfl (lv_at hl 1 rfl) ?_
    obtain ⟨q9, h9, hf⟩ := o_bind hf
    refine aft_i hw (run_VX C hw clX8_210 (As := [.int (1 : Int32), .int x1]) (rest := []) oX_3 (c_X3_wardVotes h9) rfl hl.1 rfl ⟨(Nat.le_of_ble_eq_true rfl), (Nat.le_of_ble_eq_true rfl)⟩ ⟨Nat.le_of_ble_eq_true rfl, Nat.le_of_ble_eq_true rfl⟩ rfl (Nat.le_of_ble_eq_true rfl) dX8_ward_81) (fun H locs hw => ?_)
    exact retx_i C hr hlk hw (Option.some.inj hf).symm (Nat.le_of_ble_eq_true rfl) (Nat.le_of_ble_eq_true rfl) dX8_ward_84
  have hf := o_f hf c8
  by_cases c10 : x2 = (3 : Int32)
  · have hf := o_t hf c10
    refine lv_tableIn (tgt := 85) (off := 61) C.1.1 C.1.2.1 dX8_ward_24 (by rw [c10]; decide) (by rw [c10]; decide) (by rw [c10]; rfl) (by decide) ?_
    refine lv_aload_n C.1.1 C.1.2.1 dX8_ward_85 rfl (lv_at hl 0 rfl) ?_
    refine x_ref C hw fX_0_1 flX8_19 dX8_ward_86 ?_
    refine lv_iload_n C.1.1 C.1.2.1 dX8_ward_89 rfl (lv_at hl 1 rfl) ?_
    obtain ⟨q11, h11, hf⟩ := o_bind hf
    refine aft_i hw (run_VX C hw clX8_213 (As := [.int x1]) (rest := []) oX_3 (c_X3_winner h11) rfl hl.1 rfl ⟨(Nat.le_of_ble_eq_true rfl), (Nat.le_of_ble_eq_true rfl)⟩ ⟨Nat.le_of_ble_eq_true rfl, Nat.le_of_ble_eq_true rfl⟩ rfl (Nat.le_of_ble_eq_true rfl) dX8_ward_90) (fun H locs hw => ?_)
    exact retx_i C hr hlk hw (Option.some.inj hf).symm (Nat.le_of_ble_eq_true rfl) (Nat.le_of_ble_eq_true rfl) dX8_ward_93
  have hf := o_f hf c10
  have ho : (Int32.toInt x2) < 0 ∨ 3 < (Int32.toInt x2) := by
    rcases (by omega : (Int32.toInt x2) < 0 ∨ 3 < (Int32.toInt x2) ∨ (Int32.toInt x2) = 0 ∨ (Int32.toInt x2) = 1 ∨ (Int32.toInt x2) = 2 ∨ (Int32.toInt x2) = 3) with q | q | q | q | q | q
    · exact Or.inl q
    · exact Or.inr q
    · exact absurd (Int32.toInt_inj.mp (q.trans (by decide))) c4
    · exact absurd (Int32.toInt_inj.mp (q.trans (by decide))) c6
    · exact absurd (Int32.toInt_inj.mp (q.trans (by decide))) c8
    · exact absurd (Int32.toInt_inj.mp (q.trans (by decide))) c10
  refine lv_tableOut (tgt := 94) C.1.1 C.1.2.1 dX8_ward_24 ho (by decide) ?_
  refine lv_aload_n C.1.1 C.1.2.1 dX8_ward_94 rfl (lv_at hl 0 rfl) ?_
  refine x_ref C hw fX_0_1 flX8_19 dX8_ward_95 ?_
  refine lv_aload_n C.1.1 C.1.2.1 dX8_ward_98 rfl (lv_at hl 0 rfl) ?_
  refine x_ref C hw fX_0_1 flX8_19 dX8_ward_99 ?_
  refine lv_iload_n C.1.1 C.1.2.1 dX8_ward_102 rfl (lv_at hl 1 rfl) ?_
  obtain ⟨q12, h12, hf⟩ := o_bind hf
  refine aft_i hw (run_VX C hw clX8_207 (As := [.int x1]) (rest := [.ref (gA G 3)]) oX_3 (c_X3_membersOf h12) rfl hl.1 rfl ⟨(Nat.le_of_ble_eq_true rfl), (Nat.le_of_ble_eq_true rfl)⟩ ⟨Nat.le_of_ble_eq_true rfl, Nat.le_of_ble_eq_true rfl⟩ rfl (Nat.le_of_ble_eq_true rfl) dX8_ward_103) (fun H locs hw => ?_)
  obtain ⟨q13, h13, hf⟩ := o_bind hf
  refine aft_i hw (run_VX C hw clX8_216 (As := [.int q12]) (rest := []) oX_3 (c_X3_hangsTogether h13) rfl hl.1 rfl ⟨(Nat.le_of_ble_eq_true rfl), (Nat.le_of_ble_eq_true rfl)⟩ ⟨Nat.le_of_ble_eq_true rfl, Nat.le_of_ble_eq_true rfl⟩ rfl (Nat.le_of_ble_eq_true rfl) dX8_ward_106) (fun H locs hw => ?_)
  refine lv_if_eq (tgt := 116) C.1.1 C.1.2.1 dX8_ward_109 (by decide) (fun c14 => ?_) (fun c14 => ?_)
  · have hf := o_t hf c14
    refine lv_iconst (v := (0 : Int32)) C.1.1 C.1.2.1 dX8_ward_116 rfl ?_
    exact retx_i C hr hlk hw (Option.some.inj hf).symm (Nat.le_of_ble_eq_true rfl) (Nat.le_of_ble_eq_true rfl) dX8_ward_117
  · have hf := o_f hf c14
    refine lv_iconst (v := (1 : Int32)) C.1.1 C.1.2.1 dX8_ward_112 rfl ?_
    refine lv_goto (tgt := 117) C.1.1 C.1.2.1 dX8_ward_113 (by decide) ?_
    exact retx_i C hr hlk hw (Option.some.inj hf).symm (Nat.le_of_ble_eq_true rfl) (Nat.le_of_ble_eq_true rfl) dX8_ward_117
set_option maxRecDepth 20000 in
set_option maxHeartbeats 2000000 in
theorem c_X8_ward (hst : l.stackTraces = false)  {X M : TX} {L : TL} {x1 : Int32} {x2 : Int32} {ro : TX × (Int32 ⊕ Nat)} (hf : f_X8_ward X x1 x2 = some ro) : CXi G l yX8_ward cX8_ward 3 (some .int) 8 162 2 [.ref (gA G 0), .int x1, .int x2] X M L ro := by
  unfold f_X8_ward at hf
  refine cx_of (by decide +kernel) (Nat.le_of_ble_eq_true rfl) (fun p e s m args below meth c H locs ls C hr hlk hnt hw hl => ?_)
  have C : Cx G p s m args c cX8_ward 3 RX8 := C
  have hl : lv_has ls 3 [(0, .ref (gA G 0)), (1, .int x1), (2, .int x2)] := hl
  refine lv_aload_n C.1.1 C.1.2.1 dX8_ward_0 rfl (lv_at hl 0 rfl) ?_
  refine lv_iload_n C.1.1 C.1.2.1 dX8_ward_1 rfl (lv_at hl 1 rfl) ?_
  obtain ⟨q1, h1, hf⟩ := o_bind hf
  refine aftx_v hw (runx_VX C hw clX8_204 (tb5 19 rfl rfl) (As := [.int x1]) (rest := []) oX_0 (c_X8_needWard hst h1) rfl hl.1 rfl ⟨(Nat.le_of_ble_eq_true rfl), (Nat.le_of_ble_eq_true rfl)⟩ ⟨Nat.le_of_ble_eq_true rfl, Nat.le_of_ble_eq_true rfl⟩ rfl (Nat.le_of_ble_eq_true rfl) dX8_ward_2) hf hnt hlk (Nat.le_of_ble_eq_true rfl) (Nat.le_of_ble_eq_true rfl) (fun hf H locs hw => ?_)
  refine lv_aload_n C.1.1 C.1.2.1 dX8_ward_5 rfl (lv_at hl 0 rfl) ?_
  refine lv_iload_n C.1.1 C.1.2.1 dX8_ward_6 rfl (lv_at hl 2 rfl) ?_
  refine lv_if_lt (tgt := 19) C.1.1 C.1.2.1 dX8_ward_7 (by decide) (fun c2 => ?_) (fun c2 => ?_)
  · have hf := o_t hf c2
    refine lv_iconst (v := (0 : Int32)) C.1.1 C.1.2.1 dX8_ward_19 rfl ?_
    exact wB_X8_ward_20 C hr hlk hnt hst q1.1 M L x1 x2 (0 : Int32) _ _ _ hw (lv_sub hl [0, 1, 2] rfl) hf
  · have hf := o_f hf c2
    refine lv_iload_n C.1.1 C.1.2.1 dX8_ward_10 rfl (lv_at hl 2 rfl) ?_
    refine lv_iconst (v := (4 : Int32)) C.1.1 C.1.2.1 dX8_ward_11 rfl ?_
    refine lv_icmp_gt (tgt := 19) C.1.1 C.1.2.1 dX8_ward_12 (by decide) (fun c15 => ?_) (fun c15 => ?_)
    · have hf := o_t hf c15
      refine lv_iconst (v := (0 : Int32)) C.1.1 C.1.2.1 dX8_ward_19 rfl ?_
      exact wB_X8_ward_20 C hr hlk hnt hst q1.1 M L x1 x2 (0 : Int32) _ _ _ hw (lv_sub hl [0, 1, 2] rfl) hf
    · have hf := o_f hf c15
      refine lv_iconst (v := (1 : Int32)) C.1.1 C.1.2.1 dX8_ward_15 rfl ?_
      refine lv_goto (tgt := 20) C.1.1 C.1.2.1 dX8_ward_16 (by decide) ?_
      exact wB_X8_ward_20 C hr hlk hnt hst q1.1 M L x1 x2 (1 : Int32) _ _ _ hw (lv_sub hl [0, 1, 2] rfl) hf
end
/-! WinnerDraws.needSide(I)V (('o', 'X', 0) ('i',)) -/
def f_X8_needSide (X : TX) (x1 : Int32) : Option (TX × (Unit ⊕ Nat)) := if x1 < 0 then ((f_X8_needThere X (0 : Int32)).bind fun q2 => xb q2 (fun _ _ => some (q2.1, .inl ()))) else (if (2 : Int32) ≤ x1 then ((f_X8_needThere X (0 : Int32)).bind fun q4 => xb q4 (fun _ _ => some (q4.1, .inl ()))) else ((f_X8_needThere X (1 : Int32)).bind fun q5 => xb q5 (fun _ _ => some (q5.1, .inl ()))))
section
variable {G : GP} {l : Launch}
set_option maxRecDepth 20000 in
set_option maxHeartbeats 2000000 in
theorem c_X8_needSide (hst : l.stackTraces = false)  {X M : TX} {L : TL} {x1 : Int32} {ro : TX × (Unit ⊕ Nat)} (hf : f_X8_needSide X x1 = some ro) : CXv G l yX8_needSide cX8_needSide 2 none 7 141 1 [.ref (gA G 0), .int x1] X M L ro := by
  unfold f_X8_needSide at hf
  refine cx_of (by decide +kernel) (Nat.le_of_ble_eq_true rfl) (fun p e s m args below meth c H locs ls C hr hlk hnt hw hl => ?_)
  have C : Cx G p s m args c cX8_needSide 2 RX8 := C
  have hl : lv_has ls 2 [(0, .ref (gA G 0)), (1, .int x1)] := hl
  refine lv_aload_n C.1.1 C.1.2.1 dX8_needSide_0 rfl (lv_at hl 0 rfl) ?_
  refine lv_iload_n C.1.1 C.1.2.1 dX8_needSide_1 rfl (lv_at hl 1 rfl) ?_
  refine lv_if_lt (tgt := 14) C.1.1 C.1.2.1 dX8_needSide_2 (by decide) (fun c1 => ?_) (fun c1 => ?_)
  · have hf := o_t hf c1
    refine lv_iconst (v := (0 : Int32)) C.1.1 C.1.2.1 dX8_needSide_14 rfl ?_
    obtain ⟨q2, h2, hf⟩ := o_bind hf
    refine aftx_v hw (runx_VX C hw clX8_381 (tb4 230 rfl rfl) (As := [.int (0 : Int32)]) (rest := []) oX_0 (c_X8_needThere hst h2) rfl hl.1 rfl ⟨(Nat.le_of_ble_eq_true rfl), (Nat.le_of_ble_eq_true rfl)⟩ ⟨Nat.le_of_ble_eq_true rfl, Nat.le_of_ble_eq_true rfl⟩ rfl (Nat.le_of_ble_eq_true rfl) dX8_needSide_15) hf hnt hlk (Nat.le_of_ble_eq_true rfl) (Nat.le_of_ble_eq_true rfl) (fun hf H locs hw => ?_)
    exact retx_v C hr hlk hw (Option.some.inj hf).symm (Nat.le_of_ble_eq_true rfl) (Nat.le_of_ble_eq_true rfl) dX8_needSide_18
  · have hf := o_f hf c1
    refine lv_iload_n C.1.1 C.1.2.1 dX8_needSide_5 rfl (lv_at hl 1 rfl) ?_
    refine lv_iconst (v := (2 : Int32)) C.1.1 C.1.2.1 dX8_needSide_6 rfl ?_
    refine lv_icmp_ge (tgt := 14) C.1.1 C.1.2.1 dX8_needSide_7 (by decide) (fun c3 => ?_) (fun c3 => ?_)
    · have hf := o_t hf c3
      refine lv_iconst (v := (0 : Int32)) C.1.1 C.1.2.1 dX8_needSide_14 rfl ?_
      obtain ⟨q4, h4, hf⟩ := o_bind hf
      refine aftx_v hw (runx_VX C hw clX8_381 (tb4 230 rfl rfl) (As := [.int (0 : Int32)]) (rest := []) oX_0 (c_X8_needThere hst h4) rfl hl.1 rfl ⟨(Nat.le_of_ble_eq_true rfl), (Nat.le_of_ble_eq_true rfl)⟩ ⟨Nat.le_of_ble_eq_true rfl, Nat.le_of_ble_eq_true rfl⟩ rfl (Nat.le_of_ble_eq_true rfl) dX8_needSide_15) hf hnt hlk (Nat.le_of_ble_eq_true rfl) (Nat.le_of_ble_eq_true rfl) (fun hf H locs hw => ?_)
      exact retx_v C hr hlk hw (Option.some.inj hf).symm (Nat.le_of_ble_eq_true rfl) (Nat.le_of_ble_eq_true rfl) dX8_needSide_18
    · have hf := o_f hf c3
      refine lv_iconst (v := (1 : Int32)) C.1.1 C.1.2.1 dX8_needSide_10 rfl ?_
      refine lv_goto (tgt := 15) C.1.1 C.1.2.1 dX8_needSide_11 (by decide) ?_
      obtain ⟨q5, h5, hf⟩ := o_bind hf
      refine aftx_v hw (runx_VX C hw clX8_381 (tb4 230 rfl rfl) (As := [.int (1 : Int32)]) (rest := []) oX_0 (c_X8_needThere hst h5) rfl hl.1 rfl ⟨(Nat.le_of_ble_eq_true rfl), (Nat.le_of_ble_eq_true rfl)⟩ ⟨Nat.le_of_ble_eq_true rfl, Nat.le_of_ble_eq_true rfl⟩ rfl (Nat.le_of_ble_eq_true rfl) dX8_needSide_15) hf hnt hlk (Nat.le_of_ble_eq_true rfl) (Nat.le_of_ble_eq_true rfl) (fun hf H locs hw => ?_)
      exact retx_v C hr hlk hw (Option.some.inj hf).symm (Nat.le_of_ble_eq_true rfl) (Nat.le_of_ble_eq_true rfl) dX8_needSide_18
end
/-! WinnerDraws$County.wonBy(I)I (('o', 'X', 3) ('i',)) -/
def L_X3_wonBy_4 : Nat → TX → Int32 → Int32 → Int32 → Option (Int32)
  | 0 => fun _ _ _ _ => none
  | n + 1 => fun X x1 x2 x3 => if (4 : Int32) ≤ x3 then (some x2) else ((f_X3_winner X x3).bind fun q2 => if q2 = x1 then ((L_X3_wonBy_4 n) X x1 (x2 ||| ((1 : Int32) <<< (x3 &&& 31))) (x3 + (1 : Int32))) else ((L_X3_wonBy_4 n) X x1 x2 (x3 + (1 : Int32))))
def f_X3_wonBy (X : TX) (x1 : Int32) : Option (Int32) := L_X3_wonBy_4 FU X x1 (0 : Int32) (0 : Int32)
section
variable {G : GP} {l : Launch}
set_option maxRecDepth 20000 in
set_option maxHeartbeats 2000000 in
theorem wL_X3_wonBy_4 {p : Program} {e : Env} {s : State} {m : MethodId} {args : Array Value} {below : List Frame} {meth : Method} {c : Code} (C : Cx G p s m args c cX3_wonBy 4 RX3) (hr : meth.sig.returnType = (some .int)) (hlk : meth.locks = false) {ro : Int32} : ∀ (n : Nat), ∀ (X : TX) (M : TX) (L : TL) (x1 : Int32) (x2 : Int32) (x3 : Int32) (H : Heap) (locs : List Loc) (ls : Array Slot), Wh G s X M L H locs → lv_has ls 4 [(0, .ref (gA G 3)), (1, .int x1), (2, .int x2), (3, .int x3)] → L_X3_wonBy_4 n X x1 x2 x3 = some ro → W p l e (rz 2 43) s m args below meth c H locs 0 0 (MQ below (Di G X M L ro) args s 0 0 (AB G)) (F0 m 4 ls []) := by
  intro n
  induction n with
  | zero =>
    intro X M L x1 x2 x3 H locs ls hw hl hf
    cases hf
  | succ n hk_4 =>
    intro X M L x1 x2 x3 H locs ls hw hl hf
    rw [L_X3_wonBy_4] at hf
    refine lv_iload_n C.1.1 C.1.2.1 dX3_wonBy_4 rfl (lv_at hl 3 rfl) ?_
    refine lv_iconst (v := (4 : Int32)) C.1.1 C.1.2.1 dX3_wonBy_5 rfl ?_
    refine lv_icmp_ge (tgt := 30) C.1.1 C.1.2.1 dX3_wonBy_6 (by decide) (fun c1 => ?_) (fun c1 => ?_)
    · have hf := o_t hf c1
      refine lv_iload_n C.1.1 C.1.2.1 dX3_wonBy_30 rfl (lv_at hl 2 rfl) ?_
      obtain rfl := Option.some.inj hf
      exact ret_i C hr hlk hw dX3_wonBy_31
    · have hf := o_f hf c1
      refine lv_aload_n C.1.1 C.1.2.1 dX3_wonBy_9 rfl (lv_at hl 0 rfl) ?_
      refine lv_iload_n C.1.1 C.1.2.1 dX3_wonBy_10 rfl (lv_at hl 3 rfl) ?_
      obtain ⟨q2, h2, hf⟩ := o_bind hf
      refine aft_i hw (run_VX C hw clX3_134 (As := [.int x3]) (rest := []) oX_3 (c_X3_winner h2) rfl hl.1 rfl ⟨(Nat.le_of_ble_eq_true rfl), (Nat.le_of_ble_eq_true rfl)⟩ ⟨Nat.zero_le _, Nat.zero_le _⟩ rfl (Nat.le_of_ble_eq_true rfl) dX3_wonBy_11) (fun H locs hw => ?_)
      refine lv_iload_n C.1.1 C.1.2.1 dX3_wonBy_14 rfl (lv_at hl 1 rfl) ?_
      refine lv_icmp_ne (tgt := 24) C.1.1 C.1.2.1 dX3_wonBy_15 (by decide) (fun c3 => ?_) (fun c3 => ?_)
      · have hf := o_f hf c3
        refine lv_iinc (v := (x3 + (1 : Int32))) (lv' := [(3, .int (x3 + (1 : Int32))), (0, .ref (gA G 3)), (1, .int x1), (2, .int x2)]) C.1.1 C.1.2.1 dX3_wonBy_24 hl (k := 3) rfl rfl (by decide) rfl (fun ls hl => ?_)
        refine lv_goto (tgt := 4) C.1.1 C.1.2.1 dX3_wonBy_27 (by decide) ?_
        exact hk_4 X M L x1 x2 (x3 + (1 : Int32)) _ _ _ hw (lv_sub hl [1, 2, 3, 0] rfl) hf
      · have hf := o_t hf c3
        refine lv_iload_n C.1.1 C.1.2.1 dX3_wonBy_18 rfl (lv_at hl 2 rfl) ?_
        refine lv_iconst (v := (1 : Int32)) C.1.1 C.1.2.1 dX3_wonBy_19 rfl ?_
        refine lv_iload_n C.1.1 C.1.2.1 dX3_wonBy_20 rfl (lv_at hl 3 rfl) ?_
        refine lv_ishl C.1.1 C.1.2.1 dX3_wonBy_21 ?_
        refine lv_ior C.1.1 C.1.2.1 dX3_wonBy_22 ?_
        refine lv_istore_n (lv' := [(2, .int (x2 ||| ((1 : Int32) <<< (x3 &&& 31)))), (0, .ref (gA G 3)), (1, .int x1), (3, .int x3)]) C.1.1 C.1.2.1 dX3_wonBy_23 rfl hl (by decide) rfl (fun ls hl => ?_)
        refine lv_iinc (v := (x3 + (1 : Int32))) (lv' := [(3, .int (x3 + (1 : Int32))), (2, .int (x2 ||| ((1 : Int32) <<< (x3 &&& 31)))), (0, .ref (gA G 3)), (1, .int x1)]) C.1.1 C.1.2.1 dX3_wonBy_24 hl (k := 3) rfl rfl (by decide) rfl (fun ls hl => ?_)
        refine lv_goto (tgt := 4) C.1.1 C.1.2.1 dX3_wonBy_27 (by decide) ?_
        exact hk_4 X M L x1 (x2 ||| ((1 : Int32) <<< (x3 &&& 31))) (x3 + (1 : Int32)) _ _ _ hw (lv_sub hl [2, 3, 1, 0] rfl) hf
set_option maxRecDepth 20000 in
set_option maxHeartbeats 2000000 in
theorem c_X3_wonBy   {X M : TX} {L : TL} {x1 : Int32} {ro : Int32} (hf : f_X3_wonBy X x1 = some ro) : CTi G l yX3_wonBy cX3_wonBy 4 (some .int) 2 43 [.ref (gA G 3), .int x1] X M L X M L ro := by
  unfold f_X3_wonBy at hf
  refine ct_of (by decide +kernel) (Nat.le_of_ble_eq_true rfl) (fun p e s m args below meth c H locs ls C hr hlk hw hl => ?_)
  have C : Cx G p s m args c cX3_wonBy 4 RX3 := C
  have hl : lv_has ls 4 [(0, .ref (gA G 3)), (1, .int x1)] := hl
  refine lv_iconst (v := (0 : Int32)) C.1.1 C.1.2.1 dX3_wonBy_0 rfl ?_
  refine lv_istore_n (lv' := [(2, .int (0 : Int32)), (0, .ref (gA G 3)), (1, .int x1)]) C.1.1 C.1.2.1 dX3_wonBy_1 rfl hl (by decide) rfl (fun ls hl => ?_)
  refine lv_iconst (v := (0 : Int32)) C.1.1 C.1.2.1 dX3_wonBy_2 rfl ?_
  refine lv_istore_n (lv' := [(3, .int (0 : Int32)), (2, .int (0 : Int32)), (0, .ref (gA G 3)), (1, .int x1)]) C.1.1 C.1.2.1 dX3_wonBy_3 rfl hl (by decide) rfl (fun ls hl => ?_)
  exact wL_X3_wonBy_4 C hr hlk FU X M L x1 (0 : Int32) (0 : Int32) _ _ _ hw (lv_sub hl [2, 3, 1, 0] rfl) hf
end
/-! WinnerDraws.side(II)I (('o', 'X', 0) ('i',) ('i',)) -/
def B_X8_side_20 (X : TX) (x1 : Int32) (x2 : Int32) (t0 : Int32) : Option (TX × (Int32 ⊕ Nat)) := (f_X8_need X t0).bind fun q3 => xb q3 (fun _ _ => if x2 = (0 : Int32) then ((f_X3_wonBy q3.1 x1).bind fun q5 => (f_J6_bitCount_0f7a4 q5).bind fun q6 => some (q3.1, .inl q6)) else (if x2 = (1 : Int32) then ((f_X3_allVotes q3.1 x1).bind fun q8 => some (q3.1, .inl q8)) else (if x2 = (2 : Int32) then ((f_X3_margin q3.1 x1).bind fun q10 => some (q3.1, .inl q10)) else (((f_X3_wonBy q3.1 x1).bind fun q11 => some (q3.1, .inl q11))))))
def f_X8_side (X : TX) (x1 : Int32) (x2 : Int32) : Option (TX × (Int32 ⊕ Nat)) := (f_X8_needSide X x1).bind fun q1 => xb q1 (fun _ _ => if x2 < 0 then (B_X8_side_20 q1.1 x1 x2 (0 : Int32)) else (if (3 : Int32) < x2 then (B_X8_side_20 q1.1 x1 x2 (0 : Int32)) else (B_X8_side_20 q1.1 x1 x2 (1 : Int32))))
section
variable {G : GP} {l : Launch}
set_option maxRecDepth 20000 in
set_option maxHeartbeats 2000000 in
theorem wB_X8_side_20 {p : Program} {e : Env} {s : State} {m : MethodId} {args : Array Value} {below : List Frame} {meth : Method} {c : Code} (C : Cx G p s m args c cX8_side 3 RX8) (hr : meth.sig.returnType = (some .int)) (hlk : meth.locks = false) (hnt : ∀ x ∈ c.exceptionTable.toList, False) (hst : l.stackTraces = false) {ro : TX × (Int32 ⊕ Nat)} : ∀ (X : TX) (M : TX) (L : TL) (x1 : Int32) (x2 : Int32) (t0 : Int32) (H : Heap) (locs : List Loc) (ls : Array Slot), Wh G s X M L H locs → lv_has ls 3 [(0, .ref (gA G 0)), (1, .int x1), (2, .int x2)] → B_X8_side_20 X x1 x2 t0 = some ro → W p l e (rx 8 162 2) s m args below meth c H locs 1 6 (vx_MQ below (Dxi G ro M L) (XD G ro M L) args s 2 (6 * 2) (AB G)) (F0 m 20 ls [.int t0, .ref (gA G 0)]) := by
  intro X M L x1 x2 t0 H locs ls hw hl hf
  unfold B_X8_side_20 at hf
  obtain ⟨q3, h3, hf⟩ := o_bind hf
  refine aftx_v hw (runx_VX C hw clX8_158 (tb2 212 rfl rfl) (As := [.int t0]) (rest := []) oX_0 (c_X8_need hst h3) rfl hl.1 rfl ⟨(Nat.le_of_ble_eq_true rfl), (Nat.le_of_ble_eq_true rfl)⟩ ⟨Nat.le_of_ble_eq_true rfl, Nat.le_of_ble_eq_true rfl⟩ rfl (Nat.le_of_ble_eq_true rfl) dX8_side_20) hf hnt hlk (Nat.le_of_ble_eq_true rfl) (Nat.le_of_ble_eq_true rfl) (fun hf H locs hw => ?_)
  refine lv_iload_n C.1.1 C.1.2.1 dX8_side_23 rfl (lv_at hl 2 rfl) ?_
  by_cases c4 : x2 = (0 : Int32)
  · have hf := o_t hf c4
    refine lv_tableIn (tgt := 52) (off := 28) C.1.1 C.1.2.1 dX8_side_24 (by rw [c4]; decide) (by rw [c4]; decide) (by rw [c4]; rfl) (by decide) ?_
    refine lv_aload_n C.1.1 C.1.2.1 dX8_side_52 rfl (lv_at hl 0 rfl) ?_
    refine x_ref C hw fX_0_1 flX8_19 dX8_side_53 ?_
    refine lv_iload_n C.1.1 C.1.2.1 dX8_side_56 rfl (lv_at hl 1 rfl) ?_
    obtain ⟨q5, h5, hf⟩ := o_bind hf
    refine aft_i hw (run_VX C hw clX8_223 (As := [.int x1]) (rest := []) oX_3 (c_X3_wonBy h5) rfl hl.1 rfl ⟨(Nat.le_of_ble_eq_true rfl), (Nat.le_of_ble_eq_true rfl)⟩ ⟨Nat.le_of_ble_eq_true rfl, Nat.le_of_ble_eq_true rfl⟩ rfl (Nat.le_of_ble_eq_true rfl) dX8_side_57) (fun H locs hw => ?_)
    obtain ⟨q6, h6, hf⟩ := o_bind hf
    refine aft_i hw (run_S C hw clX8_226 (As := [.int q5]) (rest := []) (c_J6_bitCount_0f7a4 h6) hl.1 rfl ⟨(Nat.le_of_ble_eq_true rfl), (Nat.le_of_ble_eq_true rfl)⟩ ⟨Nat.le_of_ble_eq_true rfl, Nat.le_of_ble_eq_true rfl⟩ rfl (Nat.le_of_ble_eq_true rfl) dX8_side_60) (fun H locs hw => ?_)
    exact retx_i C hr hlk hw (Option.some.inj hf).symm (Nat.le_of_ble_eq_true rfl) (Nat.le_of_ble_eq_true rfl) dX8_side_63
  have hf := o_f hf c4
  by_cases c7 : x2 = (1 : Int32)
  · have hf := o_t hf c7
    refine lv_tableIn (tgt := 64) (off := 40) C.1.1 C.1.2.1 dX8_side_24 (by rw [c7]; decide) (by rw [c7]; decide) (by rw [c7]; rfl) (by decide) ?_
    refine lv_aload_n C.1.1 C.1.2.1 dX8_side_64 rfl (lv_at hl 0 rfl) ?_
    refine x_ref C hw fX_0_1 flX8_19 dX8_side_65 ?_
    refine lv_iload_n C.1.1 C.1.2.1 dX8_side_68 rfl (lv_at hl 1 rfl) ?_
    obtain ⟨q8, h8, hf⟩ := o_bind hf
    refine aft_i hw (run_VX C hw clX8_181 (As := [.int x1]) (rest := []) oX_3 (c_X3_allVotes h8) rfl hl.1 rfl ⟨(Nat.le_of_ble_eq_true rfl), (Nat.le_of_ble_eq_true rfl)⟩ ⟨Nat.le_of_ble_eq_true rfl, Nat.le_of_ble_eq_true rfl⟩ rfl (Nat.le_of_ble_eq_true rfl) dX8_side_69) (fun H locs hw => ?_)
    exact retx_i C hr hlk hw (Option.some.inj hf).symm (Nat.le_of_ble_eq_true rfl) (Nat.le_of_ble_eq_true rfl) dX8_side_72
  have hf := o_f hf c7
  by_cases c9 : x2 = (2 : Int32)
  · have hf := o_t hf c9
    refine lv_tableIn (tgt := 73) (off := 49) C.1.1 C.1.2.1 dX8_side_24 (by rw [c9]; decide) (by rw [c9]; decide) (by rw [c9]; rfl) (by decide) ?_
    refine lv_aload_n C.1.1 C.1.2.1 dX8_side_73 rfl (lv_at hl 0 rfl) ?_
    refine x_ref C hw fX_0_1 flX8_19 dX8_side_74 ?_
    refine lv_iload_n C.1.1 C.1.2.1 dX8_side_77 rfl (lv_at hl 1 rfl) ?_
    obtain ⟨q10, h10, hf⟩ := o_bind hf
    refine aft_i hw (run_VX C hw clX8_231 (As := [.int x1]) (rest := []) oX_3 (c_X3_margin h10) rfl hl.1 rfl ⟨(Nat.le_of_ble_eq_true rfl), (Nat.le_of_ble_eq_true rfl)⟩ ⟨Nat.le_of_ble_eq_true rfl, Nat.le_of_ble_eq_true rfl⟩ rfl (Nat.le_of_ble_eq_true rfl) dX8_side_78) (fun H locs hw => ?_)
    exact retx_i C hr hlk hw (Option.some.inj hf).symm (Nat.le_of_ble_eq_true rfl) (Nat.le_of_ble_eq_true rfl) dX8_side_81
  have hf := o_f hf c9
  have ho : (Int32.toInt x2) < 0 ∨ 2 < (Int32.toInt x2) := by
    rcases (by omega : (Int32.toInt x2) < 0 ∨ 2 < (Int32.toInt x2) ∨ (Int32.toInt x2) = 0 ∨ (Int32.toInt x2) = 1 ∨ (Int32.toInt x2) = 2) with q | q | q | q | q
    · exact Or.inl q
    · exact Or.inr q
    · exact absurd (Int32.toInt_inj.mp (q.trans (by decide))) c4
    · exact absurd (Int32.toInt_inj.mp (q.trans (by decide))) c7
    · exact absurd (Int32.toInt_inj.mp (q.trans (by decide))) c9
  refine lv_tableOut (tgt := 82) C.1.1 C.1.2.1 dX8_side_24 ho (by decide) ?_
  refine lv_aload_n C.1.1 C.1.2.1 dX8_side_82 rfl (lv_at hl 0 rfl) ?_
  refine x_ref C hw fX_0_1 flX8_19 dX8_side_83 ?_
  refine lv_iload_n C.1.1 C.1.2.1 dX8_side_86 rfl (lv_at hl 1 rfl) ?_
  obtain ⟨q11, h11, hf⟩ := o_bind hf
  refine aft_i hw (run_VX C hw clX8_223 (As := [.int x1]) (rest := []) oX_3 (c_X3_wonBy h11) rfl hl.1 rfl ⟨(Nat.le_of_ble_eq_true rfl), (Nat.le_of_ble_eq_true rfl)⟩ ⟨Nat.le_of_ble_eq_true rfl, Nat.le_of_ble_eq_true rfl⟩ rfl (Nat.le_of_ble_eq_true rfl) dX8_side_87) (fun H locs hw => ?_)
  exact retx_i C hr hlk hw (Option.some.inj hf).symm (Nat.le_of_ble_eq_true rfl) (Nat.le_of_ble_eq_true rfl) dX8_side_90
set_option maxRecDepth 20000 in
set_option maxHeartbeats 2000000 in
theorem c_X8_side (hst : l.stackTraces = false)  {X M : TX} {L : TL} {x1 : Int32} {x2 : Int32} {ro : TX × (Int32 ⊕ Nat)} (hf : f_X8_side X x1 x2 = some ro) : CXi G l yX8_side cX8_side 3 (some .int) 8 162 2 [.ref (gA G 0), .int x1, .int x2] X M L ro := by
  unfold f_X8_side at hf
  refine cx_of (by decide +kernel) (Nat.le_of_ble_eq_true rfl) (fun p e s m args below meth c H locs ls C hr hlk hnt hw hl => ?_)
  have C : Cx G p s m args c cX8_side 3 RX8 := C
  have hl : lv_has ls 3 [(0, .ref (gA G 0)), (1, .int x1), (2, .int x2)] := hl
  refine lv_aload_n C.1.1 C.1.2.1 dX8_side_0 rfl (lv_at hl 0 rfl) ?_
  refine lv_iload_n C.1.1 C.1.2.1 dX8_side_1 rfl (lv_at hl 1 rfl) ?_
  obtain ⟨q1, h1, hf⟩ := o_bind hf
  refine aftx_v hw (runx_VX C hw clX8_220 (tb5 43 rfl rfl) (As := [.int x1]) (rest := []) oX_0 (c_X8_needSide hst h1) rfl hl.1 rfl ⟨(Nat.le_of_ble_eq_true rfl), (Nat.le_of_ble_eq_true rfl)⟩ ⟨Nat.le_of_ble_eq_true rfl, Nat.le_of_ble_eq_true rfl⟩ rfl (Nat.le_of_ble_eq_true rfl) dX8_side_2) hf hnt hlk (Nat.le_of_ble_eq_true rfl) (Nat.le_of_ble_eq_true rfl) (fun hf H locs hw => ?_)
  refine lv_aload_n C.1.1 C.1.2.1 dX8_side_5 rfl (lv_at hl 0 rfl) ?_
  refine lv_iload_n C.1.1 C.1.2.1 dX8_side_6 rfl (lv_at hl 2 rfl) ?_
  refine lv_if_lt (tgt := 19) C.1.1 C.1.2.1 dX8_side_7 (by decide) (fun c2 => ?_) (fun c2 => ?_)
  · have hf := o_t hf c2
    refine lv_iconst (v := (0 : Int32)) C.1.1 C.1.2.1 dX8_side_19 rfl ?_
    exact wB_X8_side_20 C hr hlk hnt hst q1.1 M L x1 x2 (0 : Int32) _ _ _ hw (lv_sub hl [0, 1, 2] rfl) hf
  · have hf := o_f hf c2
    refine lv_iload_n C.1.1 C.1.2.1 dX8_side_10 rfl (lv_at hl 2 rfl) ?_
    refine lv_iconst (v := (3 : Int32)) C.1.1 C.1.2.1 dX8_side_11 rfl ?_
    refine lv_icmp_gt (tgt := 19) C.1.1 C.1.2.1 dX8_side_12 (by decide) (fun c12 => ?_) (fun c12 => ?_)
    · have hf := o_t hf c12
      refine lv_iconst (v := (0 : Int32)) C.1.1 C.1.2.1 dX8_side_19 rfl ?_
      exact wB_X8_side_20 C hr hlk hnt hst q1.1 M L x1 x2 (0 : Int32) _ _ _ hw (lv_sub hl [0, 1, 2] rfl) hf
    · have hf := o_f hf c12
      refine lv_iconst (v := (1 : Int32)) C.1.1 C.1.2.1 dX8_side_15 rfl ?_
      refine lv_goto (tgt := 20) C.1.1 C.1.2.1 dX8_side_16 (by decide) ?_
      exact wB_X8_side_20 C hr hlk hnt hst q1.1 M L x1 x2 (1 : Int32) _ _ _ hw (lv_sub hl [0, 1, 2] rfl) hf
end
/-! WinnerDraws.cost(II)I (('o', 'X', 0) ('i',) ('i',)) -/
def f_X8_cost (X : TX) (x1 : Int32) (x2 : Int32) : Option (TX × (Int32 ⊕ Nat)) := (f_X8_needParish X x1).bind fun q1 => xb q1 (fun _ _ => (f_X8_needWard q1.1 x2).bind fun q2 => xb q2 (fun _ _ => (f_X2_priceOf q2.1 x1 x2).bind fun q3 => some (q3.1, .inl q3.2)))
section
variable {G : GP} {l : Launch}
set_option maxRecDepth 20000 in
set_option maxHeartbeats 2000000 in
theorem c_X8_cost (hst : l.stackTraces = false)  {X M : TX} {L : TL} {x1 : Int32} {x2 : Int32} {ro : TX × (Int32 ⊕ Nat)} (hf : f_X8_cost X x1 x2 = some ro) : CXi G l yX8_cost cX8_cost 3 (some .int) 8 162 2 [.ref (gA G 0), .int x1, .int x2] X M L ro := by
  unfold f_X8_cost at hf
  refine cx_of (by decide +kernel) (Nat.le_of_ble_eq_true rfl) (fun p e s m args below meth c H locs ls C hr hlk hnt hw hl => ?_)
  have C : Cx G p s m args c cX8_cost 3 RX8 := C
  have hl : lv_has ls 3 [(0, .ref (gA G 0)), (1, .int x1), (2, .int x2)] := hl
  refine lv_aload_n C.1.1 C.1.2.1 dX8_cost_0 rfl (lv_at hl 0 rfl) ?_
  refine lv_iload_n C.1.1 C.1.2.1 dX8_cost_1 rfl (lv_at hl 1 rfl) ?_
  obtain ⟨q1, h1, hf⟩ := o_bind hf
  refine aftx_v hw (runx_VX C hw clX8_191 (tb4 226 rfl rfl) (As := [.int x1]) (rest := []) oX_0 (c_X8_needParish hst h1) rfl hl.1 rfl ⟨(Nat.le_of_ble_eq_true rfl), (Nat.le_of_ble_eq_true rfl)⟩ ⟨Nat.le_of_ble_eq_true rfl, Nat.le_of_ble_eq_true rfl⟩ rfl (Nat.le_of_ble_eq_true rfl) dX8_cost_2) hf hnt hlk (Nat.le_of_ble_eq_true rfl) (Nat.le_of_ble_eq_true rfl) (fun hf H locs hw => ?_)
  refine lv_aload_n C.1.1 C.1.2.1 dX8_cost_5 rfl (lv_at hl 0 rfl) ?_
  refine lv_iload_n C.1.1 C.1.2.1 dX8_cost_6 rfl (lv_at hl 2 rfl) ?_
  obtain ⟨q2, h2, hf⟩ := o_bind hf
  refine aftx_v hw (runx_VX C hw clX8_204 (tb5 19 rfl rfl) (As := [.int x2]) (rest := []) oX_0 (c_X8_needWard hst h2) rfl hl.1 rfl ⟨(Nat.le_of_ble_eq_true rfl), (Nat.le_of_ble_eq_true rfl)⟩ ⟨Nat.le_of_ble_eq_true rfl, Nat.le_of_ble_eq_true rfl⟩ rfl (Nat.le_of_ble_eq_true rfl) dX8_cost_7) hf hnt hlk (Nat.le_of_ble_eq_true rfl) (Nat.le_of_ble_eq_true rfl) (fun hf H locs hw => ?_)
  refine lv_aload_n C.1.1 C.1.2.1 dX8_cost_10 rfl (lv_at hl 0 rfl) ?_
  refine x_ref C hw fX_0_8 flX8_58 dX8_cost_11 ?_
  refine lv_iload_n C.1.1 C.1.2.1 dX8_cost_14 rfl (lv_at hl 1 rfl) ?_
  refine lv_iload_n C.1.1 C.1.2.1 dX8_cost_15 rfl (lv_at hl 2 rfl) ?_
  obtain ⟨q3, h3, hf⟩ := o_bind hf
  refine aft_i hw (run_VX C hw clX8_234 (As := [.int x1, .int x2]) (rest := []) oX_33 (c_X2_priceOf h3) rfl hl.1 rfl ⟨(Nat.le_of_ble_eq_true rfl), (Nat.le_of_ble_eq_true rfl)⟩ ⟨Nat.le_of_ble_eq_true rfl, Nat.le_of_ble_eq_true rfl⟩ rfl (Nat.le_of_ble_eq_true rfl) dX8_cost_16) (fun H locs hw => ?_)
  exact retx_i C hr hlk hw (Option.some.inj hf).symm (Nat.le_of_ble_eq_true rfl) (Nat.le_of_ble_eq_true rfl) dX8_cost_19
end
