/-! WinnerDraws.restore()I (('o', 'X', 0)) -/
def f_X8_restore (X : TX) : Option (TX × Int32) := if 0 < (X 37 4) then ((f_X0_takeImage X).bind fun q2 => some ((u2 q2 0 11 (0 : Int32)), ((u2 q2 0 11 (0 : Int32)) 37 4))) else (some (X, (-1 : Int32)))
section
variable {G : GP} {l : Launch}
set_option maxRecDepth 20000 in
set_option maxHeartbeats 2000000 in
theorem c_X8_restore   {X M : TX} {L : TL}  {ro : TX × Int32} (hf : f_X8_restore X = some ro) : CTi G l yX8_restore cX8_restore 1 (some .int) 4 91 [.ref (gA G 0)] X M L ro.1 M L ro.2 := by
  unfold f_X8_restore at hf
  refine ct_of (by decide +kernel) (Nat.le_of_ble_eq_true rfl) (fun p e s m args below meth c H locs ls C hr hlk hw hl => ?_)
  have C : Cx G p s m args c cX8_restore 1 RX8 := C
  have hl : lv_has ls 1 [(0, .ref (gA G 0))] := hl
  refine lv_aload_n C.1.1 C.1.2.1 dX8_restore_0 rfl (lv_at hl 0 rfl) ?_
  refine x_ref C hw fX_0_10 flX8_74 dX8_restore_1 ?_
  refine x_get C hw iX_37_4 flX8_360 dX8_restore_4 ?_
  refine lv_if_gt (tgt := 12) C.1.1 C.1.2.1 dX8_restore_7 (by decide) (fun c1 => ?_) (fun c1 => ?_)
  · have hf := o_t hf c1
    refine lv_aload_n C.1.1 C.1.2.1 dX8_restore_12 rfl (lv_at hl 0 rfl) ?_
    refine x_ref C hw fX_0_10 flX8_74 dX8_restore_13 ?_
    refine lv_aload_n C.1.1 C.1.2.1 dX8_restore_16 rfl (lv_at hl 0 rfl) ?_
    refine x_ref C hw fX_0_1 flX8_19 dX8_restore_17 ?_
    obtain ⟨q2, h2, hf⟩ := o_bind hf
    refine aft_v hw (run_VX C hw clX8_366 (As := [.ref (gA G 3)]) (rest := []) oX_37 (c_X0_takeImage h2) rfl hl.1 rfl ⟨(Nat.le_of_ble_eq_true rfl), (Nat.le_of_ble_eq_true rfl)⟩ ⟨Nat.zero_le _, Nat.zero_le _⟩ rfl (Nat.le_of_ble_eq_true rfl) dX8_restore_20) (fun H locs hw => ?_)
    refine lv_aload_n C.1.1 C.1.2.1 dX8_restore_23 rfl (lv_at hl 0 rfl) ?_
    refine lv_iconst (v := (0 : Int32)) C.1.1 C.1.2.1 dX8_restore_24 rfl ?_
    refine x_put C hw iX_0_11 flX8_109 dX8_restore_25 (fun H locs hw => ?_)
    refine lv_aload_n C.1.1 C.1.2.1 dX8_restore_28 rfl (lv_at hl 0 rfl) ?_
    refine x_ref C hw fX_0_10 flX8_74 dX8_restore_29 ?_
    refine x_get C hw iX_37_4 flX8_360 dX8_restore_32 ?_
    obtain rfl := Option.some.inj hf
    exact ret_i C hr hlk hw dX8_restore_35
  · have hf := o_f hf c1
    refine lv_iconst (v := (-1 : Int32)) C.1.1 C.1.2.1 dX8_restore_10 rfl ?_
    obtain rfl := Option.some.inj hf
    exact ret_i C hr hlk hw dX8_restore_11
end
/-! WinnerDraws.status(I)I (('o', 'X', 0) ('i',)) -/
def f_X8_status (X : TX) (x1 : Int32) : Option (Int32) := if x1 = (0 : Int32) then (some (X 0 12)) else (if x1 = (1 : Int32) then (some (X 0 13)) else ((some (-1 : Int32))))
section
variable {G : GP} {l : Launch}
set_option maxRecDepth 20000 in
set_option maxHeartbeats 2000000 in
theorem c_X8_status   {X M : TX} {L : TL} {x1 : Int32} {ro : Int32} (hf : f_X8_status X x1 = some ro) : CTi G l yX8_status cX8_status 2 (some .int) 0 0 [.ref (gA G 0), .int x1] X M L X M L ro := by
  unfold f_X8_status at hf
  refine ct_of (by decide +kernel) (Nat.le_of_ble_eq_true rfl) (fun p e s m args below meth c H locs ls C hr hlk hw hl => ?_)
  have C : Cx G p s m args c cX8_status 2 RX8 := C
  have hl : lv_has ls 2 [(0, .ref (gA G 0)), (1, .int x1)] := hl
  refine lv_iload_n C.1.1 C.1.2.1 dX8_status_0 rfl (lv_at hl 1 rfl) ?_
  by_cases c1 : x1 = (0 : Int32)
  · have hf := o_t hf c1
    refine lv_lookup (tgt := 28) (off := 27) C.1.1 C.1.2.1 dX8_status_1 (by decide) (by rw [c1]; rfl) (by decide) ?_
    refine lv_aload_n C.1.1 C.1.2.1 dX8_status_28 rfl (lv_at hl 0 rfl) ?_
    refine x_get C hw iX_0_12 flX8_369 dX8_status_29 ?_
    obtain rfl := Option.some.inj hf
    exact ret_i C hr hlk hw dX8_status_32
  have hf := o_f hf c1
  by_cases c2 : x1 = (1 : Int32)
  · have hf := o_t hf c2
    refine lv_lookup (tgt := 33) (off := 32) C.1.1 C.1.2.1 dX8_status_1 (by decide) (by rw [c2]; rfl) (by decide) ?_
    refine lv_aload_n C.1.1 C.1.2.1 dX8_status_33 rfl (lv_at hl 0 rfl) ?_
    refine x_get C hw iX_0_13 flX8_372 dX8_status_34 ?_
    obtain rfl := Option.some.inj hf
    exact ret_i C hr hlk hw dX8_status_37
  have hf := o_f hf c2
  have z1 : ¬ (Int32.toInt x1) = 0 := fun z => c1 (Int32.toInt_inj.mp (z.trans (by decide)))
  have z2 : ¬ (Int32.toInt x1) = 1 := fun z => c2 (Int32.toInt_inj.mp (z.trans (by decide)))
  refine lv_lookup (tgt := 38) (off := 37) C.1.1 C.1.2.1 dX8_status_1 (by decide) (by simp [Op.lookupswitch.offset, z1, Ne.symm z1, z2, Ne.symm z2]) (by decide) ?_
  refine lv_iconst (v := (-1 : Int32)) C.1.1 C.1.2.1 dX8_status_38 rfl ?_
  obtain rfl := Option.some.inj hf
  exact ret_i C hr hlk hw dX8_status_39
end
/-! WinnerDraws.count(I)I (('o', 'X', 0) ('i',)) -/
def f_X8_count (X : TX) (x1 : Int32) : Option (Int32) := if x1 = (0 : Int32) then (some (X 37 4)) else (if x1 = (1 : Int32) then (some (X 1 1)) else (if x1 = (2 : Int32) then (some (X 37 3)) else ((some (-1 : Int32)))))
section
variable {G : GP} {l : Launch}
set_option maxRecDepth 20000 in
set_option maxHeartbeats 2000000 in
theorem c_X8_count   {X M : TX} {L : TL} {x1 : Int32} {ro : Int32} (hf : f_X8_count X x1 = some ro) : CTi G l yX8_count cX8_count 2 (some .int) 0 0 [.ref (gA G 0), .int x1] X M L X M L ro := by
  unfold f_X8_count at hf
  refine ct_of (by decide +kernel) (Nat.le_of_ble_eq_true rfl) (fun p e s m args below meth c H locs ls C hr hlk hw hl => ?_)
  have C : Cx G p s m args c cX8_count 2 RX8 := C
  have hl : lv_has ls 2 [(0, .ref (gA G 0)), (1, .int x1)] := hl
  refine lv_iload_n C.1.1 C.1.2.1 dX8_count_0 rfl (lv_at hl 1 rfl) ?_
  by_cases c1 : x1 = (0 : Int32)
  · have hf := o_t hf c1
    refine lv_tableIn (tgt := 28) (off := 27) C.1.1 C.1.2.1 dX8_count_1 (by rw [c1]; decide) (by rw [c1]; decide) (by rw [c1]; rfl) (by decide) ?_
    refine lv_aload_n C.1.1 C.1.2.1 dX8_count_28 rfl (lv_at hl 0 rfl) ?_
    refine x_ref C hw fX_0_10 flX8_74 dX8_count_29 ?_
    refine x_get C hw iX_37_4 flX8_360 dX8_count_32 ?_
    obtain rfl := Option.some.inj hf
    exact ret_i C hr hlk hw dX8_count_35
  have hf := o_f hf c1
  by_cases c2 : x1 = (1 : Int32)
  · have hf := o_t hf c2
    refine lv_tableIn (tgt := 36) (off := 35) C.1.1 C.1.2.1 dX8_count_1 (by rw [c2]; decide) (by rw [c2]; decide) (by rw [c2]; rfl) (by decide) ?_
    refine lv_aload_n C.1.1 C.1.2.1 dX8_count_36 rfl (lv_at hl 0 rfl) ?_
    refine x_ref C hw fX_0_0 flX8_12 dX8_count_37 ?_
    refine x_get C hw iX_1_1 flX8_78 dX8_count_40 ?_
    obtain rfl := Option.some.inj hf
    exact ret_i C hr hlk hw dX8_count_43
  have hf := o_f hf c2
  by_cases c3 : x1 = (2 : Int32)
  · have hf := o_t hf c3
    refine lv_tableIn (tgt := 44) (off := 43) C.1.1 C.1.2.1 dX8_count_1 (by rw [c3]; decide) (by rw [c3]; decide) (by rw [c3]; rfl) (by decide) ?_
    refine lv_aload_n C.1.1 C.1.2.1 dX8_count_44 rfl (lv_at hl 0 rfl) ?_
    refine x_ref C hw fX_0_10 flX8_74 dX8_count_45 ?_
    refine x_get C hw iX_37_3 flX8_119 dX8_count_48 ?_
    obtain rfl := Option.some.inj hf
    exact ret_i C hr hlk hw dX8_count_51
  have hf := o_f hf c3
  have ho : (Int32.toInt x1) < 0 ∨ 2 < (Int32.toInt x1) := by
    rcases (by omega : (Int32.toInt x1) < 0 ∨ 2 < (Int32.toInt x1) ∨ (Int32.toInt x1) = 0 ∨ (Int32.toInt x1) = 1 ∨ (Int32.toInt x1) = 2) with q | q | q | q | q
    · exact Or.inl q
    · exact Or.inr q
    · exact absurd (Int32.toInt_inj.mp (q.trans (by decide))) c1
    · exact absurd (Int32.toInt_inj.mp (q.trans (by decide))) c2
    · exact absurd (Int32.toInt_inj.mp (q.trans (by decide))) c3
  refine lv_tableOut (tgt := 52) C.1.1 C.1.2.1 dX8_count_1 ho (by decide) ?_
  refine lv_iconst (v := (-1 : Int32)) C.1.1 C.1.2.1 dX8_count_52 rfl ?_
  obtain rfl := Option.some.inj hf
  exact ret_i C hr hlk hw dX8_count_53
end
