/-! WinnerDraws.tide(I)I (('o', 'X', 0) ('i',)) -/
def f_X8_tide (X : TX) (x1 : Int32) : Option (TX × (Int32 ⊕ Nat)) := (f_X8_isHalf x1).bind fun q1 => (f_X8_need X q1).bind fun q2 => xb q2 (fun _ _ => if (q2.1 3 6) = 0 then (some (q2.1, .inl (-1 : Int32))) else (if x1 = 0 then ((f_X3_comingSide q2.1).bind fun q6 => some (q2.1, .inl q6)) else ((f_X3_comingShare q2.1).bind fun q5 => some (q2.1, .inl q5))))
section
variable {G : GP} {l : Launch}
set_option maxRecDepth 20000 in
set_option maxHeartbeats 2000000 in
theorem c_X8_tide (hst : l.stackTraces = false)  {X M : TX} {L : TL} {x1 : Int32} {ro : TX × (Int32 ⊕ Nat)} (hf : f_X8_tide X x1 = some ro) : CXi G l yX8_tide cX8_tide 2 (some .int) 7 141 1 [.ref (gA G 0), .int x1] X M L ro := by
  unfold f_X8_tide at hf
  refine cx_of (by decide +kernel) (Nat.le_of_ble_eq_true rfl) (fun p e s m args below meth c H locs ls C hr hlk hnt hw hl => ?_)
  have C : Cx G p s m args c cX8_tide 2 RX8 := C
  have hl : lv_has ls 2 [(0, .ref (gA G 0)), (1, .int x1)] := hl
  refine lv_aload_n C.1.1 C.1.2.1 dX8_tide_0 rfl (lv_at hl 0 rfl) ?_
  refine lv_iload_n C.1.1 C.1.2.1 dX8_tide_1 rfl (lv_at hl 1 rfl) ?_
  obtain ⟨q1, h1, hf⟩ := o_bind hf
  refine aft_i hw (run_S C hw clX8_262 (As := [.int x1]) (rest := [.ref (gA G 0)]) (c_X8_isHalf h1) hl.1 rfl ⟨(Nat.le_of_ble_eq_true rfl), (Nat.le_of_ble_eq_true rfl)⟩ ⟨Nat.le_of_ble_eq_true rfl, Nat.le_of_ble_eq_true rfl⟩ rfl (Nat.le_of_ble_eq_true rfl) dX8_tide_2) (fun H locs hw => ?_)
  obtain ⟨q2, h2, hf⟩ := o_bind hf
  refine aftx_v hw (runx_VX C hw clX8_158 (tb2 212 rfl rfl) (As := [.int q1]) (rest := []) oX_0 (c_X8_need hst h2) rfl hl.1 rfl ⟨(Nat.le_of_ble_eq_true rfl), (Nat.le_of_ble_eq_true rfl)⟩ ⟨Nat.le_of_ble_eq_true rfl, Nat.le_of_ble_eq_true rfl⟩ rfl (Nat.le_of_ble_eq_true rfl) dX8_tide_5) hf hnt hlk (Nat.le_of_ble_eq_true rfl) (Nat.le_of_ble_eq_true rfl) (fun hf H locs hw => ?_)
  refine lv_aload_n C.1.1 C.1.2.1 dX8_tide_8 rfl (lv_at hl 0 rfl) ?_
  refine x_ref C hw fX_0_1 flX8_19 dX8_tide_9 ?_
  refine x_get C hw iX_3_6 flX8_165 dX8_tide_12 ?_
  refine lv_if_ne (tgt := 20) C.1.1 C.1.2.1 dX8_tide_15 (by decide) (fun c3 => ?_) (fun c3 => ?_)
  · have hf := o_f hf c3
    refine lv_iload_n C.1.1 C.1.2.1 dX8_tide_20 rfl (lv_at hl 1 rfl) ?_
    refine lv_if_ne (tgt := 34) C.1.1 C.1.2.1 dX8_tide_21 (by decide) (fun c4 => ?_) (fun c4 => ?_)
    · have hf := o_f hf c4
      refine lv_aload_n C.1.1 C.1.2.1 dX8_tide_34 rfl (lv_at hl 0 rfl) ?_
      refine x_ref C hw fX_0_1 flX8_19 dX8_tide_35 ?_
      obtain ⟨q5, h5, hf⟩ := o_bind hf
      refine aft_i hw (run_VX C hw clX8_334 (As := []) (rest := []) oX_3 (c_X3_comingShare h5) rfl hl.1 rfl ⟨(Nat.le_of_ble_eq_true rfl), (Nat.le_of_ble_eq_true rfl)⟩ ⟨Nat.le_of_ble_eq_true rfl, Nat.le_of_ble_eq_true rfl⟩ rfl (Nat.le_of_ble_eq_true rfl) dX8_tide_38) (fun H locs hw => ?_)
      exact retx_i C hr hlk hw (Option.some.inj hf).symm (Nat.le_of_ble_eq_true rfl) (Nat.le_of_ble_eq_true rfl) dX8_tide_41
    · have hf := o_t hf c4
      refine lv_aload_n C.1.1 C.1.2.1 dX8_tide_24 rfl (lv_at hl 0 rfl) ?_
      refine x_ref C hw fX_0_1 flX8_19 dX8_tide_25 ?_
      obtain ⟨q6, h6, hf⟩ := o_bind hf
      refine aft_i hw (run_VX C hw clX8_331 (As := []) (rest := []) oX_3 (c_X3_comingSide h6) rfl hl.1 rfl ⟨(Nat.le_of_ble_eq_true rfl), (Nat.le_of_ble_eq_true rfl)⟩ ⟨Nat.le_of_ble_eq_true rfl, Nat.le_of_ble_eq_true rfl⟩ rfl (Nat.le_of_ble_eq_true rfl) dX8_tide_28) (fun H locs hw => ?_)
      refine lv_goto (tgt := 41) C.1.1 C.1.2.1 dX8_tide_31 (by decide) ?_
      exact retx_i C hr hlk hw (Option.some.inj hf).symm (Nat.le_of_ble_eq_true rfl) (Nat.le_of_ble_eq_true rfl) dX8_tide_41
  · have hf := o_t hf c3
    refine lv_iconst (v := (-1 : Int32)) C.1.1 C.1.2.1 dX8_tide_18 rfl ?_
    exact retx_i C hr hlk hw (Option.some.inj hf).symm (Nat.le_of_ble_eq_true rfl) (Nat.le_of_ble_eq_true rfl) dX8_tide_19
end
/-! WinnerDraws.flip(I)I (('o', 'X', 0) ('i',)) -/
def f_X8_flip (X : TX) (x1 : Int32) : Option (TX × (Int32 ⊕ Nat)) := (f_X8_needWard X x1).bind fun q1 => xb q1 (fun _ _ => (f_X3_leadIn q1.1 x1).bind fun q2 => some (q1.1, .inl (((if 0 ≤ q2 then q2 else 0 - q2) + (1 : Int32)) / (2 : Int32))))
section
variable {G : GP} {l : Launch}
set_option maxRecDepth 20000 in
set_option maxHeartbeats 2000000 in
theorem c_X8_flip (hst : l.stackTraces = false)  {X M : TX} {L : TL} {x1 : Int32} {ro : TX × (Int32 ⊕ Nat)} (hf : f_X8_flip X x1 = some ro) : CXi G l yX8_flip cX8_flip 2 (some .int) 8 162 1 [.ref (gA G 0), .int x1] X M L ro := by
  unfold f_X8_flip at hf
  refine cx_of (by decide +kernel) (Nat.le_of_ble_eq_true rfl) (fun p e s m args below meth c H locs ls C hr hlk hnt hw hl => ?_)
  have C : Cx G p s m args c cX8_flip 2 RX8 := C
  have hl : lv_has ls 2 [(0, .ref (gA G 0)), (1, .int x1)] := hl
  refine lv_aload_n C.1.1 C.1.2.1 dX8_flip_0 rfl (lv_at hl 0 rfl) ?_
  refine lv_iload_n C.1.1 C.1.2.1 dX8_flip_1 rfl (lv_at hl 1 rfl) ?_
  obtain ⟨q1, h1, hf⟩ := o_bind hf
  refine aftx_v hw (runx_VX C hw clX8_204 (tb5 19 rfl rfl) (As := [.int x1]) (rest := []) oX_0 (c_X8_needWard hst h1) rfl hl.1 rfl ⟨(Nat.le_of_ble_eq_true rfl), (Nat.le_of_ble_eq_true rfl)⟩ ⟨Nat.le_of_ble_eq_true rfl, Nat.le_of_ble_eq_true rfl⟩ rfl (Nat.le_of_ble_eq_true rfl) dX8_flip_2) hf hnt hlk (Nat.le_of_ble_eq_true rfl) (Nat.le_of_ble_eq_true rfl) (fun hf H locs hw => ?_)
  refine lv_aload_n C.1.1 C.1.2.1 dX8_flip_5 rfl (lv_at hl 0 rfl) ?_
  refine x_ref C hw fX_0_1 flX8_19 dX8_flip_6 ?_
  refine lv_iload_n C.1.1 C.1.2.1 dX8_flip_9 rfl (lv_at hl 1 rfl) ?_
  obtain ⟨q2, h2, hf⟩ := o_bind hf
  refine aft_i hw (run_VX C hw clX8_322 (As := [.int x1]) (rest := []) oX_3 (c_X3_leadIn h2) rfl hl.1 rfl ⟨(Nat.le_of_ble_eq_true rfl), (Nat.le_of_ble_eq_true rfl)⟩ ⟨Nat.le_of_ble_eq_true rfl, Nat.le_of_ble_eq_true rfl⟩ rfl (Nat.le_of_ble_eq_true rfl) dX8_flip_10) (fun H locs hw => ?_)
  refine x_abs C clX8_325 (tb6 4 rfl rfl) hl.1 ⟨(Nat.le_of_ble_eq_true rfl), (Nat.le_of_ble_eq_true rfl)⟩ ⟨Nat.le_of_ble_eq_true rfl, Nat.le_of_ble_eq_true rfl⟩ dX8_flip_13 ?_
  refine lv_iconst (v := (1 : Int32)) C.1.1 C.1.2.1 dX8_flip_16 rfl ?_
  refine lv_iadd C.1.1 C.1.2.1 dX8_flip_17 ?_
  refine lv_iconst (v := (2 : Int32)) C.1.1 C.1.2.1 dX8_flip_18 rfl ?_
  refine lv_idiv C.1.1 C.1.2.1 dX8_flip_19 (by decide) ?_
  exact retx_i C hr hlk hw (Option.some.inj hf).symm (Nat.le_of_ble_eq_true rfl) (Nat.le_of_ble_eq_true rfl) dX8_flip_20
end
/-! WinnerDraws.lone()I (('o', 'X', 0)) -/
def L_X8_lone_4 : Nat → TX → Int32 → Int32 → Option (Int32)
  | 0 => fun _ _ _ => none
  | n + 1 => fun X x1 x2 => if (4 : Int32) ≤ x2 then (some x1) else ((f_X3_membersOf X x2).bind fun q2 => (f_J6_bitCount_0f7a4 q2).bind fun q3 => if q3 = (1 : Int32) then ((L_X8_lone_4 n) X (x1 ||| q2) (x2 + (1 : Int32))) else ((L_X8_lone_4 n) X x1 (x2 + (1 : Int32))))
def f_X8_lone (X : TX) : Option (Int32) := L_X8_lone_4 FU X (0 : Int32) (0 : Int32)
section
variable {G : GP} {l : Launch}
set_option maxRecDepth 20000 in
set_option maxHeartbeats 2000000 in
theorem wL_X8_lone_4 {p : Program} {e : Env} {s : State} {m : MethodId} {args : Array Value} {below : List Frame} {meth : Method} {c : Code} (C : Cx G p s m args c cX8_lone 4 RX8) (hr : meth.sig.returnType = (some .int)) (hlk : meth.locks = false) {ro : Int32} : ∀ (n : Nat), ∀ (X : TX) (M : TX) (L : TL) (x1 : Int32) (x2 : Int32) (H : Heap) (locs : List Loc) (ls : Array Slot), Wh G s X M L H locs → lv_has ls 4 [(0, .ref (gA G 0)), (1, .int x1), (2, .int x2)] → L_X8_lone_4 n X x1 x2 = some ro → W p l e (rz 2 42) s m args below meth c H locs 0 0 (MQ below (Di G X M L ro) args s 0 0 (AB G)) (F0 m 4 ls []) := by
  intro n
  induction n with
  | zero =>
    intro X M L x1 x2 H locs ls hw hl hf
    cases hf
  | succ n hk_4 =>
    intro X M L x1 x2 H locs ls hw hl hf
    rw [L_X8_lone_4] at hf
    refine lv_iload_n C.1.1 C.1.2.1 dX8_lone_4 rfl (lv_at hl 2 rfl) ?_
    refine lv_iconst (v := (4 : Int32)) C.1.1 C.1.2.1 dX8_lone_5 rfl ?_
    refine lv_icmp_ge (tgt := 36) C.1.1 C.1.2.1 dX8_lone_6 (by decide) (fun c1 => ?_) (fun c1 => ?_)
    · have hf := o_t hf c1
      refine lv_iload_n C.1.1 C.1.2.1 dX8_lone_36 rfl (lv_at hl 1 rfl) ?_
      obtain rfl := Option.some.inj hf
      exact ret_i C hr hlk hw dX8_lone_37
    · have hf := o_f hf c1
      refine lv_aload_n C.1.1 C.1.2.1 dX8_lone_9 rfl (lv_at hl 0 rfl) ?_
      refine x_ref C hw fX_0_1 flX8_19 dX8_lone_10 ?_
      refine lv_iload_n C.1.1 C.1.2.1 dX8_lone_13 rfl (lv_at hl 2 rfl) ?_
      obtain ⟨q2, h2, hf⟩ := o_bind hf
      refine aft_i hw (run_VX C hw clX8_207 (As := [.int x2]) (rest := []) oX_3 (c_X3_membersOf h2) rfl hl.1 rfl ⟨(Nat.le_of_ble_eq_true rfl), (Nat.le_of_ble_eq_true rfl)⟩ ⟨Nat.zero_le _, Nat.zero_le _⟩ rfl (Nat.le_of_ble_eq_true rfl) dX8_lone_14) (fun H locs hw => ?_)
      refine lv_istore_n (lv' := [(3, .int q2), (0, .ref (gA G 0)), (1, .int x1), (2, .int x2)]) C.1.1 C.1.2.1 dX8_lone_17 rfl hl (by decide) rfl (fun ls hl => ?_)
      refine lv_iload_n C.1.1 C.1.2.1 dX8_lone_18 rfl (lv_at hl 0 rfl) ?_
      obtain ⟨q3, h3, hf⟩ := o_bind hf
      refine aft_i hw (run_S C hw clX8_226 (As := [.int q2]) (rest := []) (c_J6_bitCount_0f7a4 h3) hl.1 rfl ⟨(Nat.le_of_ble_eq_true rfl), (Nat.le_of_ble_eq_true rfl)⟩ ⟨Nat.zero_le _, Nat.zero_le _⟩ rfl (Nat.le_of_ble_eq_true rfl) dX8_lone_19) (fun H locs hw => ?_)
      refine lv_iconst (v := (1 : Int32)) C.1.1 C.1.2.1 dX8_lone_22 rfl ?_
      refine lv_icmp_ne (tgt := 30) C.1.1 C.1.2.1 dX8_lone_23 (by decide) (fun c4 => ?_) (fun c4 => ?_)
      · have hf := o_f hf c4
        refine lv_iinc (v := (x2 + (1 : Int32))) (lv' := [(2, .int (x2 + (1 : Int32))), (3, .int q2), (0, .ref (gA G 0)), (1, .int x1)]) C.1.1 C.1.2.1 dX8_lone_30 hl (k := 3) rfl rfl (by decide) rfl (fun ls hl => ?_)
        refine lv_goto (tgt := 4) C.1.1 C.1.2.1 dX8_lone_33 (by decide) ?_
        exact hk_4 X M L x1 (x2 + (1 : Int32)) _ _ _ hw (lv_sub hl [2, 3, 0] rfl) hf
      · have hf := o_t hf c4
        refine lv_iload_n C.1.1 C.1.2.1 dX8_lone_26 rfl (lv_at hl 2 rfl) ?_
        refine lv_iload_n C.1.1 C.1.2.1 dX8_lone_27 rfl (lv_at hl 0 rfl) ?_
        refine lv_ior C.1.1 C.1.2.1 dX8_lone_28 ?_
        refine lv_istore_n (lv' := [(1, .int (x1 ||| q2)), (3, .int q2), (0, .ref (gA G 0)), (2, .int x2)]) C.1.1 C.1.2.1 dX8_lone_29 rfl hl (by decide) rfl (fun ls hl => ?_)
        refine lv_iinc (v := (x2 + (1 : Int32))) (lv' := [(2, .int (x2 + (1 : Int32))), (1, .int (x1 ||| q2)), (3, .int q2), (0, .ref (gA G 0))]) C.1.1 C.1.2.1 dX8_lone_30 hl (k := 3) rfl rfl (by decide) rfl (fun ls hl => ?_)
        refine lv_goto (tgt := 4) C.1.1 C.1.2.1 dX8_lone_33 (by decide) ?_
        exact hk_4 X M L (x1 ||| q2) (x2 + (1 : Int32)) _ _ _ hw (lv_sub hl [3, 1, 0] rfl) hf
set_option maxRecDepth 20000 in
set_option maxHeartbeats 2000000 in
theorem c_X8_lone   {X M : TX} {L : TL}  {ro : Int32} (hf : f_X8_lone X = some ro) : CTi G l yX8_lone cX8_lone 4 (some .int) 2 42 [.ref (gA G 0)] X M L X M L ro := by
  unfold f_X8_lone at hf
  refine ct_of (by decide +kernel) (Nat.le_of_ble_eq_true rfl) (fun p e s m args below meth c H locs ls C hr hlk hw hl => ?_)
  have C : Cx G p s m args c cX8_lone 4 RX8 := C
  have hl : lv_has ls 4 [(0, .ref (gA G 0))] := hl
  refine lv_iconst (v := (0 : Int32)) C.1.1 C.1.2.1 dX8_lone_0 rfl ?_
  refine lv_istore_n (lv' := [(1, .int (0 : Int32)), (0, .ref (gA G 0))]) C.1.1 C.1.2.1 dX8_lone_1 rfl hl (by decide) rfl (fun ls hl => ?_)
  refine lv_iconst (v := (0 : Int32)) C.1.1 C.1.2.1 dX8_lone_2 rfl ?_
  refine lv_istore_n (lv' := [(2, .int (0 : Int32)), (1, .int (0 : Int32)), (0, .ref (gA G 0))]) C.1.1 C.1.2.1 dX8_lone_3 rfl hl (by decide) rfl (fun ls hl => ?_)
  exact wL_X8_lone_4 C hr hlk FU X M L (0 : Int32) (0 : Int32) _ _ _ hw (lv_sub hl [2, 1, 0] rfl) hf
end
/-! WinnerDraws.cluster(I)I (('o', 'X', 0) ('i',)) -/
def f_X8_cluster (X : TX) (x1 : Int32) : Option (TX × (Int32 ⊕ Nat)) := (f_X8_needParish X x1).bind fun q1 => xb q1 (fun _ _ => (f_X3_wardOf q1.1 x1).bind fun q2 => (f_X3_membersOf q1.1 q2).bind fun q3 => (f_X3_reached q1.1 ((1 : Int32) <<< (x1 &&& 31)) q3).bind fun q4 => some (q1.1, .inl q4))
section
variable {G : GP} {l : Launch}
set_option maxRecDepth 20000 in
set_option maxHeartbeats 2000000 in
theorem c_X8_cluster (hst : l.stackTraces = false)  {X M : TX} {L : TL} {x1 : Int32} {ro : TX × (Int32 ⊕ Nat)} (hf : f_X8_cluster X x1 = some ro) : CXi G l yX8_cluster cX8_cluster 2 (some .int) 8 162 1 [.ref (gA G 0), .int x1] X M L ro := by
  unfold f_X8_cluster at hf
  refine cx_of (by decide +kernel) (Nat.le_of_ble_eq_true rfl) (fun p e s m args below meth c H locs ls C hr hlk hnt hw hl => ?_)
  have C : Cx G p s m args c cX8_cluster 2 RX8 := C
  have hl : lv_has ls 2 [(0, .ref (gA G 0)), (1, .int x1)] := hl
  refine lv_aload_n C.1.1 C.1.2.1 dX8_cluster_0 rfl (lv_at hl 0 rfl) ?_
  refine lv_iload_n C.1.1 C.1.2.1 dX8_cluster_1 rfl (lv_at hl 1 rfl) ?_
  obtain ⟨q1, h1, hf⟩ := o_bind hf
  refine aftx_v hw (runx_VX C hw clX8_191 (tb4 226 rfl rfl) (As := [.int x1]) (rest := []) oX_0 (c_X8_needParish hst h1) rfl hl.1 rfl ⟨(Nat.le_of_ble_eq_true rfl), (Nat.le_of_ble_eq_true rfl)⟩ ⟨Nat.le_of_ble_eq_true rfl, Nat.le_of_ble_eq_true rfl⟩ rfl (Nat.le_of_ble_eq_true rfl) dX8_cluster_2) hf hnt hlk (Nat.le_of_ble_eq_true rfl) (Nat.le_of_ble_eq_true rfl) (fun hf H locs hw => ?_)
  refine lv_aload_n C.1.1 C.1.2.1 dX8_cluster_5 rfl (lv_at hl 0 rfl) ?_
  refine x_ref C hw fX_0_1 flX8_19 dX8_cluster_6 ?_
  refine lv_iconst (v := (1 : Int32)) C.1.1 C.1.2.1 dX8_cluster_9 rfl ?_
  refine lv_iload_n C.1.1 C.1.2.1 dX8_cluster_10 rfl (lv_at hl 1 rfl) ?_
  refine lv_ishl C.1.1 C.1.2.1 dX8_cluster_11 ?_
  refine lv_aload_n C.1.1 C.1.2.1 dX8_cluster_12 rfl (lv_at hl 0 rfl) ?_
  refine x_ref C hw fX_0_1 flX8_19 dX8_cluster_13 ?_
  refine lv_aload_n C.1.1 C.1.2.1 dX8_cluster_16 rfl (lv_at hl 0 rfl) ?_
  refine x_ref C hw fX_0_1 flX8_19 dX8_cluster_17 ?_
  refine lv_iload_n C.1.1 C.1.2.1 dX8_cluster_20 rfl (lv_at hl 1 rfl) ?_
  obtain ⟨q2, h2, hf⟩ := o_bind hf
  refine aft_i hw (run_VX C hw clX8_194 (As := [.int x1]) (rest := [.ref (gA G 3), .int ((1 : Int32) <<< (x1 &&& 31)), .ref (gA G 3)]) oX_3 (c_X3_wardOf h2) rfl hl.1 rfl ⟨(Nat.le_of_ble_eq_true rfl), (Nat.le_of_ble_eq_true rfl)⟩ ⟨Nat.le_of_ble_eq_true rfl, Nat.le_of_ble_eq_true rfl⟩ rfl (Nat.le_of_ble_eq_true rfl) dX8_cluster_21) (fun H locs hw => ?_)
  obtain ⟨q3, h3, hf⟩ := o_bind hf
  refine aft_i hw (run_VX C hw clX8_207 (As := [.int q2]) (rest := [.int ((1 : Int32) <<< (x1 &&& 31)), .ref (gA G 3)]) oX_3 (c_X3_membersOf h3) rfl hl.1 rfl ⟨(Nat.le_of_ble_eq_true rfl), (Nat.le_of_ble_eq_true rfl)⟩ ⟨Nat.le_of_ble_eq_true rfl, Nat.le_of_ble_eq_true rfl⟩ rfl (Nat.le_of_ble_eq_true rfl) dX8_cluster_24) (fun H locs hw => ?_)
  obtain ⟨q4, h4, hf⟩ := o_bind hf
  refine aft_i hw (run_VX C hw clX8_337 (As := [.int ((1 : Int32) <<< (x1 &&& 31)), .int q3]) (rest := []) oX_3 (c_X3_reached h4) rfl hl.1 rfl ⟨(Nat.le_of_ble_eq_true rfl), (Nat.le_of_ble_eq_true rfl)⟩ ⟨Nat.le_of_ble_eq_true rfl, Nat.le_of_ble_eq_true rfl⟩ rfl (Nat.le_of_ble_eq_true rfl) dX8_cluster_27) (fun H locs hw => ?_)
  exact retx_i C hr hlk hw (Option.some.inj hf).symm (Nat.le_of_ble_eq_true rfl) (Nat.le_of_ble_eq_true rfl) dX8_cluster_30
end
/-! WinnerDraws.strongest(II)I (('o', 'X', 0) ('i',) ('i',)) -/
def L_X8_strongest_21 : Nat → TX → Int32 → Int32 → Int32 → Int32 → Int32 → Option (TX × (Int32 ⊕ Nat))
  | 0 => fun _ _ _ _ _ _ => none
  | n + 1 => fun X x1 x2 x3 x4 x5 => if (X 3 5) ≤ x5 then (if x2 = 0 then (some (X, .inl x3)) else (some (X, .inl x4))) else ((f_X3_votesOf X x1 x5).bind fun q6 => (f_X3_votesOf X ((1 : Int32) - x1) x5).bind fun q7 => if (q6 - q7) ≤ 0 then ((L_X8_strongest_21 n) X x1 x2 x3 x4 (x5 + (1 : Int32))) else (if (q6 - q7) ≤ x4 then ((L_X8_strongest_21 n) X x1 x2 x3 x4 (x5 + (1 : Int32))) else ((L_X8_strongest_21 n) X x1 x2 x5 (q6 - q7) (x5 + (1 : Int32)))))
def f_X8_strongest (X : TX) (x1 : Int32) (x2 : Int32) : Option (TX × (Int32 ⊕ Nat)) := (f_X8_needSide X x1).bind fun q1 => xb q1 (fun _ _ => (f_X8_isHalf x2).bind fun q2 => (f_X8_need q1.1 q2).bind fun q3 => xb q3 (fun _ _ => L_X8_strongest_21 FU q3.1 x1 x2 (-1 : Int32) (-1 : Int32) (0 : Int32)))
section
variable {G : GP} {l : Launch}
set_option maxRecDepth 20000 in
set_option maxHeartbeats 2000000 in
theorem wL_X8_strongest_21 {p : Program} {e : Env} {s : State} {m : MethodId} {args : Array Value} {below : List Frame} {meth : Method} {c : Code} (C : Cx G p s m args c cX8_strongest 7 RX8) (hr : meth.sig.returnType = (some .int)) (hlk : meth.locks = false) (hnt : ∀ x ∈ c.exceptionTable.toList, False) (hst : l.stackTraces = false) {ro : TX × (Int32 ⊕ Nat)} : ∀ (n : Nat), ∀ (X : TX) (M : TX) (L : TL) (x1 : Int32) (x2 : Int32) (x3 : Int32) (x4 : Int32) (x5 : Int32) (H : Heap) (locs : List Loc) (ls : Array Slot), Wh G s X M L H locs → lv_has ls 7 [(0, .ref (gA G 0)), (1, .int x1), (2, .int x2), (3, .int x3), (4, .int x4), (5, .int x5)] → L_X8_strongest_21 n X x1 x2 x3 x4 x5 = some ro → W p l e (rx 8 162 2) s m args below meth c H locs 2 12 (vx_MQ below (Dxi G ro M L) (XD G ro M L) args s 2 (6 * 2) (AB G)) (F0 m 21 ls []) := by
  intro n
  induction n with
  | zero =>
    intro X M L x1 x2 x3 x4 x5 H locs ls hw hl hf
    cases hf
  | succ n hk_21 =>
    intro X M L x1 x2 x3 x4 x5 H locs ls hw hl hf
    rw [L_X8_strongest_21] at hf
    refine lv_iload C.1.1 C.1.2.1 dX8_strongest_21 (lv_at hl 5 rfl) ?_
    refine lv_aload_n C.1.1 C.1.2.1 dX8_strongest_23 rfl (lv_at hl 0 rfl) ?_
    refine x_ref C hw fX_0_1 flX8_19 dX8_strongest_24 ?_
    refine x_get C hw iX_3_5 flX8_112 dX8_strongest_27 ?_
    refine lv_icmp_ge (tgt := 83) C.1.1 C.1.2.1 dX8_strongest_30 (by decide) (fun c4 => ?_) (fun c4 => ?_)
    · have hf := o_t hf c4
      refine lv_iload_n C.1.1 C.1.2.1 dX8_strongest_83 rfl (lv_at hl 2 rfl) ?_
      refine lv_if_ne (tgt := 91) C.1.1 C.1.2.1 dX8_strongest_84 (by decide) (fun c5 => ?_) (fun c5 => ?_)
      · have hf := o_f hf c5
        refine lv_iload C.1.1 C.1.2.1 dX8_strongest_91 (lv_at hl 4 rfl) ?_
        exact retx_i C hr hlk hw (Option.some.inj hf).symm (Nat.le_of_ble_eq_true rfl) (Nat.le_of_ble_eq_true rfl) dX8_strongest_93
      · have hf := o_t hf c5
        refine lv_iload_n C.1.1 C.1.2.1 dX8_strongest_87 rfl (lv_at hl 3 rfl) ?_
        refine lv_goto (tgt := 93) C.1.1 C.1.2.1 dX8_strongest_88 (by decide) ?_
        exact retx_i C hr hlk hw (Option.some.inj hf).symm (Nat.le_of_ble_eq_true rfl) (Nat.le_of_ble_eq_true rfl) dX8_strongest_93
    · have hf := o_f hf c4
      refine lv_aload_n C.1.1 C.1.2.1 dX8_strongest_33 rfl (lv_at hl 0 rfl) ?_
      refine x_ref C hw fX_0_1 flX8_19 dX8_strongest_34 ?_
      refine lv_iload_n C.1.1 C.1.2.1 dX8_strongest_37 rfl (lv_at hl 1 rfl) ?_
      refine lv_iload C.1.1 C.1.2.1 dX8_strongest_38 (lv_at hl 5 rfl) ?_
      obtain ⟨q6, h6, hf⟩ := o_bind hf
      refine aft_i hw (run_VX C hw clX8_197 (As := [.int x1, .int x5]) (rest := []) oX_3 (c_X3_votesOf h6) rfl hl.1 rfl ⟨(Nat.le_of_ble_eq_true rfl), (Nat.le_of_ble_eq_true rfl)⟩ ⟨Nat.le_of_ble_eq_true rfl, Nat.le_of_ble_eq_true rfl⟩ rfl (Nat.le_of_ble_eq_true rfl) dX8_strongest_40) (fun H locs hw => ?_)
      refine lv_aload_n C.1.1 C.1.2.1 dX8_strongest_43 rfl (lv_at hl 0 rfl) ?_
      refine x_ref C hw fX_0_1 flX8_19 dX8_strongest_44 ?_
      refine lv_iconst (v := (1 : Int32)) C.1.1 C.1.2.1 dX8_strongest_47 rfl ?_
      refine lv_iload_n C.1.1 C.1.2.1 dX8_strongest_48 rfl (lv_at hl 1 rfl) ?_
      refine lv_isub C.1.1 C.1.2.1 dX8_strongest_49 ?_
      refine lv_iload C.1.1 C.1.2.1 dX8_strongest_50 (lv_at hl 5 rfl) ?_
      obtain ⟨q7, h7, hf⟩ := o_bind hf
      refine aft_i hw (run_VX C hw clX8_197 (As := [.int ((1 : Int32) - x1), .int x5]) (rest := [.int q6]) oX_3 (c_X3_votesOf h7) rfl hl.1 rfl ⟨(Nat.le_of_ble_eq_true rfl), (Nat.le_of_ble_eq_true rfl)⟩ ⟨Nat.le_of_ble_eq_true rfl, Nat.le_of_ble_eq_true rfl⟩ rfl (Nat.le_of_ble_eq_true rfl) dX8_strongest_52) (fun H locs hw => ?_)
      refine lv_isub C.1.1 C.1.2.1 dX8_strongest_55 ?_
      refine lv_istore (lv' := [(6, .int (q6 - q7)), (0, .ref (gA G 0)), (1, .int x1), (2, .int x2), (3, .int x3), (4, .int x4), (5, .int x5)]) C.1.1 C.1.2.1 dX8_strongest_56 hl (by decide) rfl (fun ls hl => ?_)
      refine lv_iload C.1.1 C.1.2.1 dX8_strongest_58 (lv_at hl 0 rfl) ?_
      refine lv_if_le (tgt := 77) C.1.1 C.1.2.1 dX8_strongest_60 (by decide) (fun c8 => ?_) (fun c8 => ?_)
      · have hf := o_t hf c8
        refine lv_iinc (v := (x5 + (1 : Int32))) (lv' := [(5, .int (x5 + (1 : Int32))), (6, .int (q6 - q7)), (0, .ref (gA G 0)), (1, .int x1), (2, .int x2), (3, .int x3), (4, .int x4)]) C.1.1 C.1.2.1 dX8_strongest_77 hl (k := 6) rfl rfl (by decide) rfl (fun ls hl => ?_)
        refine lv_goto (tgt := 21) C.1.1 C.1.2.1 dX8_strongest_80 (by decide) ?_
        exact hk_21 X M L x1 x2 x3 x4 (x5 + (1 : Int32)) _ _ _ hw (lv_sub hl [2, 3, 4, 5, 6, 0] rfl) hf
      · have hf := o_f hf c8
        refine lv_iload C.1.1 C.1.2.1 dX8_strongest_63 (lv_at hl 0 rfl) ?_
        refine lv_iload C.1.1 C.1.2.1 dX8_strongest_65 (lv_at hl 5 rfl) ?_
        refine lv_icmp_le (tgt := 77) C.1.1 C.1.2.1 dX8_strongest_67 (by decide) (fun c9 => ?_) (fun c9 => ?_)
        · have hf := o_t hf c9
          refine lv_iinc (v := (x5 + (1 : Int32))) (lv' := [(5, .int (x5 + (1 : Int32))), (6, .int (q6 - q7)), (0, .ref (gA G 0)), (1, .int x1), (2, .int x2), (3, .int x3), (4, .int x4)]) C.1.1 C.1.2.1 dX8_strongest_77 hl (k := 6) rfl rfl (by decide) rfl (fun ls hl => ?_)
          refine lv_goto (tgt := 21) C.1.1 C.1.2.1 dX8_strongest_80 (by decide) ?_
          exact hk_21 X M L x1 x2 x3 x4 (x5 + (1 : Int32)) _ _ _ hw (lv_sub hl [2, 3, 4, 5, 6, 0] rfl) hf
        · have hf := o_f hf c9
          refine lv_iload C.1.1 C.1.2.1 dX8_strongest_70 (lv_at hl 6 rfl) ?_
          refine lv_istore_n (lv' := [(3, .int x5), (6, .int (q6 - q7)), (0, .ref (gA G 0)), (1, .int x1), (2, .int x2), (4, .int x4), (5, .int x5)]) C.1.1 C.1.2.1 dX8_strongest_72 rfl hl (by decide) rfl (fun ls hl => ?_)
          refine lv_iload C.1.1 C.1.2.1 dX8_strongest_73 (lv_at hl 1 rfl) ?_
          refine lv_istore (lv' := [(4, .int (q6 - q7)), (3, .int x5), (6, .int (q6 - q7)), (0, .ref (gA G 0)), (1, .int x1), (2, .int x2), (5, .int x5)]) C.1.1 C.1.2.1 dX8_strongest_75 hl (by decide) rfl (fun ls hl => ?_)
          refine lv_iinc (v := (x5 + (1 : Int32))) (lv' := [(5, .int (x5 + (1 : Int32))), (4, .int (q6 - q7)), (3, .int x5), (6, .int (q6 - q7)), (0, .ref (gA G 0)), (1, .int x1), (2, .int x2)]) C.1.1 C.1.2.1 dX8_strongest_77 hl (k := 6) rfl rfl (by decide) rfl (fun ls hl => ?_)
          refine lv_goto (tgt := 21) C.1.1 C.1.2.1 dX8_strongest_80 (by decide) ?_
          exact hk_21 X M L x1 x2 x5 (q6 - q7) (x5 + (1 : Int32)) _ _ _ hw (lv_sub hl [4, 5, 6, 2, 1, 0] rfl) hf
set_option maxRecDepth 20000 in
set_option maxHeartbeats 2000000 in
theorem c_X8_strongest (hst : l.stackTraces = false)  {X M : TX} {L : TL} {x1 : Int32} {x2 : Int32} {ro : TX × (Int32 ⊕ Nat)} (hf : f_X8_strongest X x1 x2 = some ro) : CXi G l yX8_strongest cX8_strongest 7 (some .int) 8 162 2 [.ref (gA G 0), .int x1, .int x2] X M L ro := by
  unfold f_X8_strongest at hf
  refine cx_of (by decide +kernel) (Nat.le_of_ble_eq_true rfl) (fun p e s m args below meth c H locs ls C hr hlk hnt hw hl => ?_)
  have C : Cx G p s m args c cX8_strongest 7 RX8 := C
  have hl : lv_has ls 7 [(0, .ref (gA G 0)), (1, .int x1), (2, .int x2)] := hl
  refine lv_aload_n C.1.1 C.1.2.1 dX8_strongest_0 rfl (lv_at hl 0 rfl) ?_
  refine lv_iload_n C.1.1 C.1.2.1 dX8_strongest_1 rfl (lv_at hl 1 rfl) ?_
  obtain ⟨q1, h1, hf⟩ := o_bind hf
  refine aftx_v hw (runx_VX C hw clX8_220 (tb5 43 rfl rfl) (As := [.int x1]) (rest := []) oX_0 (c_X8_needSide hst h1) rfl hl.1 rfl ⟨(Nat.le_of_ble_eq_true rfl), (Nat.le_of_ble_eq_true rfl)⟩ ⟨Nat.le_of_ble_eq_true rfl, Nat.le_of_ble_eq_true rfl⟩ rfl (Nat.le_of_ble_eq_true rfl) dX8_strongest_2) hf hnt hlk (Nat.le_of_ble_eq_true rfl) (Nat.le_of_ble_eq_true rfl) (fun hf H locs hw => ?_)
  refine lv_aload_n C.1.1 C.1.2.1 dX8_strongest_5 rfl (lv_at hl 0 rfl) ?_
  refine lv_iload_n C.1.1 C.1.2.1 dX8_strongest_6 rfl (lv_at hl 2 rfl) ?_
  obtain ⟨q2, h2, hf⟩ := o_bind hf
  refine aft_i hw (run_S C hw clX8_262 (As := [.int x2]) (rest := [.ref (gA G 0)]) (c_X8_isHalf h2) hl.1 rfl ⟨(Nat.le_of_ble_eq_true rfl), (Nat.le_of_ble_eq_true rfl)⟩ ⟨Nat.le_of_ble_eq_true rfl, Nat.le_of_ble_eq_true rfl⟩ rfl (Nat.le_of_ble_eq_true rfl) dX8_strongest_7) (fun H locs hw => ?_)
  obtain ⟨q3, h3, hf⟩ := o_bind hf
  refine aftx_v hw (runx_VX C hw clX8_158 (tb2 212 rfl rfl) (As := [.int q2]) (rest := []) oX_0 (c_X8_need hst h3) rfl hl.1 rfl ⟨(Nat.le_of_ble_eq_true rfl), (Nat.le_of_ble_eq_true rfl)⟩ ⟨Nat.le_of_ble_eq_true rfl, Nat.le_of_ble_eq_true rfl⟩ rfl (Nat.le_of_ble_eq_true rfl) dX8_strongest_10) hf hnt hlk (Nat.le_of_ble_eq_true rfl) (Nat.le_of_ble_eq_true rfl) (fun hf H locs hw => ?_)
  refine lv_iconst (v := (-1 : Int32)) C.1.1 C.1.2.1 dX8_strongest_13 rfl ?_
  refine lv_istore_n (lv' := [(3, .int (-1 : Int32)), (0, .ref (gA G 0)), (1, .int x1), (2, .int x2)]) C.1.1 C.1.2.1 dX8_strongest_14 rfl hl (by decide) rfl (fun ls hl => ?_)
  refine lv_iconst (v := (-1 : Int32)) C.1.1 C.1.2.1 dX8_strongest_15 rfl ?_
  refine lv_istore (lv' := [(4, .int (-1 : Int32)), (3, .int (-1 : Int32)), (0, .ref (gA G 0)), (1, .int x1), (2, .int x2)]) C.1.1 C.1.2.1 dX8_strongest_16 hl (by decide) rfl (fun ls hl => ?_)
  refine lv_iconst (v := (0 : Int32)) C.1.1 C.1.2.1 dX8_strongest_18 rfl ?_
  refine lv_istore (lv' := [(5, .int (0 : Int32)), (4, .int (-1 : Int32)), (3, .int (-1 : Int32)), (0, .ref (gA G 0)), (1, .int x1), (2, .int x2)]) C.1.1 C.1.2.1 dX8_strongest_19 hl (by decide) rfl (fun ls hl => ?_)
  exact wL_X8_strongest_21 C hr hlk hnt hst FU q3.1 M L x1 x2 (-1 : Int32) (-1 : Int32) (0 : Int32) _ _ _ hw (lv_sub hl [3, 4, 5, 2, 1, 0] rfl) hf
end
/-! WinnerDraws.isTime(II)Z (('i',) ('i',)) -/
def f_X8_isTime (x0 : Int32) (x1 : Int32) : Option (Int32) := if x0 < 0 then (some (0 : Int32)) else (if (16 : Int32) < x0 then (some (0 : Int32)) else (if x1 < (1 : Int32) then (some (0 : Int32)) else (if (48 : Int32) < x1 then (some (0 : Int32)) else (some (1 : Int32)))))
section
variable {G : GP} {l : Launch}
set_option maxRecDepth 20000 in
set_option maxHeartbeats 2000000 in
theorem c_X8_isTime   {X M : TX} {L : TL} {x0 : Int32} {x1 : Int32} {ro : Int32} (hf : f_X8_isTime x0 x1 = some ro) : CTi G l yX8_isTime cX8_isTime 2 (some .boolean) 0 0 [.int x0, .int x1] X M L X M L ro := by
  unfold f_X8_isTime at hf
  refine ct_of (by decide +kernel) (Nat.le_of_ble_eq_true rfl) (fun p e s m args below meth c H locs ls C hr hlk hw hl => ?_)
  have C : Cx G p s m args c cX8_isTime 2 RX8 := C
  have hl : lv_has ls 2 [(0, .int x0), (1, .int x1)] := hl
  refine lv_iload_n C.1.1 C.1.2.1 dX8_isTime_0 rfl (lv_at hl 0 rfl) ?_
  refine lv_if_lt (tgt := 25) C.1.1 C.1.2.1 dX8_isTime_1 (by decide) (fun c1 => ?_) (fun c1 => ?_)
  · have hf := o_t hf c1
    refine lv_iconst (v := (0 : Int32)) C.1.1 C.1.2.1 dX8_isTime_25 rfl ?_
    obtain rfl := Option.some.inj hf
    exact ret_z (r := (0 : Int32)) C hr hlk hw rfl dX8_isTime_26
  · have hf := o_f hf c1
    refine lv_iload_n C.1.1 C.1.2.1 dX8_isTime_4 rfl (lv_at hl 0 rfl) ?_
    refine lv_bipush (v := (16 : Int32)) C.1.1 C.1.2.1 dX8_isTime_5 rfl ?_
    refine lv_icmp_gt (tgt := 25) C.1.1 C.1.2.1 dX8_isTime_7 (by decide) (fun c2 => ?_) (fun c2 => ?_)
    · have hf := o_t hf c2
      refine lv_iconst (v := (0 : Int32)) C.1.1 C.1.2.1 dX8_isTime_25 rfl ?_
      obtain rfl := Option.some.inj hf
      exact ret_z (r := (0 : Int32)) C hr hlk hw rfl dX8_isTime_26
    · have hf := o_f hf c2
      refine lv_iload_n C.1.1 C.1.2.1 dX8_isTime_10 rfl (lv_at hl 1 rfl) ?_
      refine lv_iconst (v := (1 : Int32)) C.1.1 C.1.2.1 dX8_isTime_11 rfl ?_
      refine lv_icmp_lt (tgt := 25) C.1.1 C.1.2.1 dX8_isTime_12 (by decide) (fun c3 => ?_) (fun c3 => ?_)
      · have hf := o_t hf c3
        refine lv_iconst (v := (0 : Int32)) C.1.1 C.1.2.1 dX8_isTime_25 rfl ?_
        obtain rfl := Option.some.inj hf
        exact ret_z (r := (0 : Int32)) C hr hlk hw rfl dX8_isTime_26
      · have hf := o_f hf c3
        refine lv_iload_n C.1.1 C.1.2.1 dX8_isTime_15 rfl (lv_at hl 1 rfl) ?_
        refine lv_bipush (v := (48 : Int32)) C.1.1 C.1.2.1 dX8_isTime_16 rfl ?_
        refine lv_icmp_gt (tgt := 25) C.1.1 C.1.2.1 dX8_isTime_18 (by decide) (fun c4 => ?_) (fun c4 => ?_)
        · have hf := o_t hf c4
          refine lv_iconst (v := (0 : Int32)) C.1.1 C.1.2.1 dX8_isTime_25 rfl ?_
          obtain rfl := Option.some.inj hf
          exact ret_z (r := (0 : Int32)) C hr hlk hw rfl dX8_isTime_26
        · have hf := o_f hf c4
          refine lv_iconst (v := (1 : Int32)) C.1.1 C.1.2.1 dX8_isTime_21 rfl ?_
          refine lv_goto (tgt := 26) C.1.1 C.1.2.1 dX8_isTime_22 (by decide) ?_
          obtain rfl := Option.some.inj hf
          exact ret_z (r := (1 : Int32)) C hr hlk hw rfl dX8_isTime_26
end
/-! WinnerDraws$Outlook.drawn(I)I (('o', 'X', 34) ('i',)) -/
def f_X5_drawn (X : TX) (x1 : Int32) : Option (TX × Int32) := if x1 ≤ 0 then (some ((u2 X 34 4 (((X 34 4) * (1103515245 : Int32)) + (12345 : Int32))), (0 : Int32))) else (if x1 = 0 then none else (some ((u2 X 34 4 (((X 34 4) * (1103515245 : Int32)) + (12345 : Int32))), (((((Int32.toUInt32 ((u2 X 34 4 (((X 34 4) * (1103515245 : Int32)) + (12345 : Int32))) 34 4)) >>> ((Int32.toUInt32 (16 : Int32)) &&& Int32.toUInt32 31)).toInt32) &&& (32767 : Int32)) - ((((Int32.toUInt32 ((u2 X 34 4 (((X 34 4) * (1103515245 : Int32)) + (12345 : Int32))) 34 4)) >>> ((Int32.toUInt32 (16 : Int32)) &&& Int32.toUInt32 31)).toInt32) &&& (32767 : Int32)) / x1 * x1))))
section
variable {G : GP} {l : Launch}
set_option maxRecDepth 20000 in
set_option maxHeartbeats 2000000 in
theorem c_X5_drawn   {X M : TX} {L : TL} {x1 : Int32} {ro : TX × Int32} (hf : f_X5_drawn X x1 = some ro) : CTi G l yX5_drawn cX5_drawn 2 (some .int) 0 0 [.ref (gA G 34), .int x1] X M L ro.1 M L ro.2 := by
  unfold f_X5_drawn at hf
  refine ct_of (by decide +kernel) (Nat.le_of_ble_eq_true rfl) (fun p e s m args below meth c H locs ls C hr hlk hw hl => ?_)
  have C : Cx G p s m args c cX5_drawn 2 RX5 := C
  have hl : lv_has ls 2 [(0, .ref (gA G 34)), (1, .int x1)] := hl
  refine lv_aload_n C.1.1 C.1.2.1 dX5_drawn_0 rfl (lv_at hl 0 rfl) ?_
  refine lv_aload_n C.1.1 C.1.2.1 dX5_drawn_1 rfl (lv_at hl 0 rfl) ?_
  refine x_get C hw iX_34_4 flX5_75 dX5_drawn_2 ?_
  refine lv_ldc (v := (1103515245 : Int32)) C.1.1 C.1.2.1 C.1.2.2.2.1 (C.1.2.2.2.2 _ (tb6 54 rfl rfl)) dX5_drawn_5 ?_
  refine lv_imul C.1.1 C.1.2.1 dX5_drawn_7 ?_
  refine lv_sipush (v := (12345 : Int32)) C.1.1 C.1.2.1 dX5_drawn_8 rfl ?_
  refine lv_iadd C.1.1 C.1.2.1 dX5_drawn_11 ?_
  refine x_put C hw iX_34_4 flX5_75 dX5_drawn_12 (fun H locs hw => ?_)
  refine lv_iload_n C.1.1 C.1.2.1 dX5_drawn_15 rfl (lv_at hl 1 rfl) ?_
  refine lv_if_le (tgt := 35) C.1.1 C.1.2.1 dX5_drawn_16 (by decide) (fun c1 => ?_) (fun c1 => ?_)
  · have hf := o_t hf c1
    refine lv_iconst (v := (0 : Int32)) C.1.1 C.1.2.1 dX5_drawn_35 rfl ?_
    obtain rfl := Option.some.inj hf
    exact ret_i C hr hlk hw dX5_drawn_36
  · have hf := o_f hf c1
    refine lv_aload_n C.1.1 C.1.2.1 dX5_drawn_19 rfl (lv_at hl 0 rfl) ?_
    refine x_get C hw iX_34_4 flX5_75 dX5_drawn_20 ?_
    refine lv_bipush (v := (16 : Int32)) C.1.1 C.1.2.1 dX5_drawn_23 rfl ?_
    refine lv_iushr (v := (((Int32.toUInt32 ((u2 X 34 4 (((X 34 4) * (1103515245 : Int32)) + (12345 : Int32))) 34 4)) >>> ((Int32.toUInt32 (16 : Int32)) &&& Int32.toUInt32 31)).toInt32)) C.1.1 C.1.2.1 dX5_drawn_25 rfl ?_
    refine lv_sipush (v := (32767 : Int32)) C.1.1 C.1.2.1 dX5_drawn_26 rfl ?_
    refine lv_iand C.1.1 C.1.2.1 dX5_drawn_29 ?_
    refine lv_iload_n C.1.1 C.1.2.1 dX5_drawn_30 rfl (lv_at hl 1 rfl) ?_
    have g2 := o_n1 hf
    have hf := o_n2 hf
    refine lv_irem C.1.1 C.1.2.1 dX5_drawn_31 g2 ?_
    refine lv_goto (tgt := 36) C.1.1 C.1.2.1 dX5_drawn_32 (by decide) ?_
    obtain rfl := Option.some.inj hf
    exact ret_i C hr hlk hw dX5_drawn_36
end
/-! WinnerDraws$Outlook.live(III)V (('o', 'X', 34) ('i',) ('i',) ('i',)) -/
def L_X5_live_29 : Nat → TX → Int32 → Int32 → Int32 → Int32 → Option (TX)
  | 0 => fun _ _ _ _ _ => none
  | n + 1 => fun X x2 x3 x4 x5 => if x3 ≤ x5 then ((f_X3_margin (u2 X 34 5 (X 3 9)) (0 : Int32)).bind fun q3 => (f_X3_lines (u2 (u2 (u2 X 34 5 (X 3 9)) 34 9 q3) 34 10 (((u2 (u2 X 34 5 (X 3 9)) 34 9 q3) 3 11) - x4))).bind fun q4 => (f_X3_load 35 (u2 (u2 (u2 (u2 X 34 5 (X 3 9)) 34 9 q3) 34 10 (((u2 (u2 X 34 5 (X 3 9)) 34 9 q3) 3 11) - x4)) 34 11 q4) (0 : Int32)).bind fun q5 => some q5) else (if (X 3 5) ≤ 0 then ((f_X5_pass X).bind fun q7 => (L_X5_live_29 n) q7 x2 x3 x4 (x5 + (1 : Int32))) else ((f_X5_drawn X (X 3 5)).bind fun q8 => (f_X5_drawn q8.1 (4 : Int32)).bind fun q9 => (f_X5_drawn q9.1 (16 : Int32)).bind fun q10 => if x2 ≤ q10.2 then ((f_X5_pass q10.1).bind fun q12 => (L_X5_live_29 n) q12 x2 x3 x4 (x5 + (1 : Int32))) else ((f_X2_move q10.1 q8.2 q9.2).bind fun q13 => (f_X5_pass q13.1).bind fun q14 => (L_X5_live_29 n) q14 x2 x3 x4 (x5 + (1 : Int32)))))
def f_X5_live (X : TX) (x1 : Int32) (x2 : Int32) (x3 : Int32) : Option (TX) := (f_X3_save 35 X (0 : Int32)).bind fun q1 => L_X5_live_29 FU (u2 q1 34 4 x1) x2 x3 (q1 3 11) (0 : Int32)
section
variable {G : GP} {l : Launch}
set_option maxRecDepth 20000 in
set_option maxHeartbeats 2000000 in
theorem wL_X5_live_29 {p : Program} {e : Env} {s : State} {m : MethodId} {args : Array Value} {below : List Frame} {meth : Method} {c : Code} (C : Cx G p s m args c cX5_live 8 RX5) (hr : meth.sig.returnType = none) (hlk : meth.locks = false) {ro : TX} : ∀ (n : Nat), ∀ (X : TX) (M : TX) (L : TL) (x2 : Int32) (x3 : Int32) (x4 : Int32) (x5 : Int32) (H : Heap) (locs : List Loc) (ls : Array Slot), Wh G s X M L H locs → lv_has ls 8 [(0, .ref (gA G 34)), (2, .int x2), (3, .int x3), (4, .int x4), (5, .int x5)] → L_X5_live_29 n X x2 x3 x4 x5 = some ro → W p l e (rz 7 167) s m args below meth c H locs 0 0 (MQ below (Dv G ro M L) args s 0 0 (AB G)) (F0 m 29 ls []) := by
  intro n
  induction n with
  | zero =>
    intro X M L x2 x3 x4 x5 H locs ls hw hl hf
    cases hf
  | succ n hk_29 =>
    intro X M L x2 x3 x4 x5 H locs ls hw hl hf
    rw [L_X5_live_29] at hf
    refine lv_iload C.1.1 C.1.2.1 dX5_live_29 (lv_at hl 4 rfl) ?_
    refine lv_iload_n C.1.1 C.1.2.1 dX5_live_31 rfl (lv_at hl 2 rfl) ?_
    refine lv_icmp_ge (tgt := 97) C.1.1 C.1.2.1 dX5_live_32 (by decide) (fun c2 => ?_) (fun c2 => ?_)
    · have hf := o_t hf c2
      refine lv_aload_n C.1.1 C.1.2.1 dX5_live_97 rfl (lv_at hl 0 rfl) ?_
      refine lv_aload_n C.1.1 C.1.2.1 dX5_live_98 rfl (lv_at hl 0 rfl) ?_
      refine x_ref C hw fX_34_0 flX5_28 dX5_live_99 ?_
      refine x_get C hw iX_3_9 flX5_54 dX5_live_102 ?_
      refine x_put C hw iX_34_5 flX5_18 dX5_live_105 (fun H locs hw => ?_)
      refine lv_aload_n C.1.1 C.1.2.1 dX5_live_108 rfl (lv_at hl 0 rfl) ?_
      refine lv_aload_n C.1.1 C.1.2.1 dX5_live_109 rfl (lv_at hl 0 rfl) ?_
      refine x_ref C hw fX_34_0 flX5_28 dX5_live_110 ?_
      refine lv_iconst (v := (0 : Int32)) C.1.1 C.1.2.1 dX5_live_113 rfl ?_
      obtain ⟨q3, h3, hf⟩ := o_bind hf
      refine aft_i hw (run_VX C hw clX5_91 (As := [.int (0 : Int32)]) (rest := [.ref (gA G 34)]) oX_3 (c_X3_margin h3) rfl hl.1 rfl ⟨(Nat.le_of_ble_eq_true rfl), (Nat.le_of_ble_eq_true rfl)⟩ ⟨Nat.zero_le _, Nat.zero_le _⟩ rfl (Nat.le_of_ble_eq_true rfl) dX5_live_114) (fun H locs hw => ?_)
      refine x_put C hw iX_34_9 flX5_94 dX5_live_117 (fun H locs hw => ?_)
      refine lv_aload_n C.1.1 C.1.2.1 dX5_live_120 rfl (lv_at hl 0 rfl) ?_
      refine lv_aload_n C.1.1 C.1.2.1 dX5_live_121 rfl (lv_at hl 0 rfl) ?_
      refine x_ref C hw fX_34_0 flX5_28 dX5_live_122 ?_
      refine x_get C hw iX_3_11 flX5_79 dX5_live_125 ?_
      refine lv_iload C.1.1 C.1.2.1 dX5_live_128 (lv_at hl 3 rfl) ?_
      refine lv_isub C.1.1 C.1.2.1 dX5_live_130 ?_
      refine x_put C hw iX_34_10 flX5_97 dX5_live_131 (fun H locs hw => ?_)
      refine lv_aload_n C.1.1 C.1.2.1 dX5_live_134 rfl (lv_at hl 0 rfl) ?_
      refine lv_aload_n C.1.1 C.1.2.1 dX5_live_135 rfl (lv_at hl 0 rfl) ?_
      refine x_ref C hw fX_34_0 flX5_28 dX5_live_136 ?_
      obtain ⟨q4, h4, hf⟩ := o_bind hf
      refine aft_i hw (run_VX C hw clX5_100 (As := []) (rest := [.ref (gA G 34)]) oX_3 (c_X3_lines h4) rfl hl.1 rfl ⟨(Nat.le_of_ble_eq_true rfl), (Nat.le_of_ble_eq_true rfl)⟩ ⟨Nat.zero_le _, Nat.zero_le _⟩ rfl (Nat.le_of_ble_eq_true rfl) dX5_live_139) (fun H locs hw => ?_)
      refine x_put C hw iX_34_11 flX5_104 dX5_live_142 (fun H locs hw => ?_)
      refine lv_aload_n C.1.1 C.1.2.1 dX5_live_145 rfl (lv_at hl 0 rfl) ?_
      refine x_ref C hw fX_34_0 flX5_28 dX5_live_146 ?_
      refine lv_aload_n C.1.1 C.1.2.1 dX5_live_149 rfl (lv_at hl 0 rfl) ?_
      refine x_ref C hw fX_34_2 flX5_9 dX5_live_150 ?_
      refine lv_iconst (v := (0 : Int32)) C.1.1 C.1.2.1 dX5_live_153 rfl ?_
      obtain ⟨q5, h5, hf⟩ := o_bind hf
      refine aft_v hw (run_VX C hw clX5_60 (As := [.ref (gA G 35), .int (0 : Int32)]) (rest := []) oX_3 (c_X3_load aX_35 h5) rfl hl.1 rfl ⟨(Nat.le_of_ble_eq_true rfl), (Nat.le_of_ble_eq_true rfl)⟩ ⟨Nat.zero_le _, Nat.zero_le _⟩ rfl (Nat.le_of_ble_eq_true rfl) dX5_live_154) (fun H locs hw => ?_)
      obtain rfl := Option.some.inj hf
      exact ret_v C hr hlk hw dX5_live_157
    · have hf := o_f hf c2
      refine lv_aload_n C.1.1 C.1.2.1 dX5_live_35 rfl (lv_at hl 0 rfl) ?_
      refine x_ref C hw fX_34_0 flX5_28 dX5_live_36 ?_
      refine x_get C hw iX_3_5 flX5_82 dX5_live_39 ?_
      refine lv_if_le (tgt := 87) C.1.1 C.1.2.1 dX5_live_42 (by decide) (fun c6 => ?_) (fun c6 => ?_)
      · have hf := o_t hf c6
        refine lv_aload_n C.1.1 C.1.2.1 dX5_live_87 rfl (lv_at hl 0 rfl) ?_
        obtain ⟨q7, h7, hf⟩ := o_bind hf
        refine aft_v hw (run_VX C hw clX5_57 (As := []) (rest := []) oX_34 (c_X5_pass h7) rfl hl.1 rfl ⟨(Nat.le_of_ble_eq_true rfl), (Nat.le_of_ble_eq_true rfl)⟩ ⟨Nat.zero_le _, Nat.zero_le _⟩ rfl (Nat.le_of_ble_eq_true rfl) dX5_live_88) (fun H locs hw => ?_)
        refine lv_iinc (v := (x5 + (1 : Int32))) (lv' := [(5, .int (x5 + (1 : Int32))), (0, .ref (gA G 34)), (2, .int x2), (3, .int x3), (4, .int x4)]) C.1.1 C.1.2.1 dX5_live_91 hl (k := 4) rfl rfl (by decide) rfl (fun ls hl => ?_)
        refine lv_goto (tgt := 29) C.1.1 C.1.2.1 dX5_live_94 (by decide) ?_
        exact hk_29 q7 M L x2 x3 x4 (x5 + (1 : Int32)) _ _ _ hw (lv_sub hl [1, 2, 3, 4, 0] rfl) hf
      · have hf := o_f hf c6
        refine lv_aload_n C.1.1 C.1.2.1 dX5_live_45 rfl (lv_at hl 0 rfl) ?_
        refine lv_aload_n C.1.1 C.1.2.1 dX5_live_46 rfl (lv_at hl 0 rfl) ?_
        refine x_ref C hw fX_34_0 flX5_28 dX5_live_47 ?_
        refine x_get C hw iX_3_5 flX5_82 dX5_live_50 ?_
        obtain ⟨q8, h8, hf⟩ := o_bind hf
        refine aft_i hw (run_VX C hw clX5_85 (As := [.int (X 3 5)]) (rest := []) oX_34 (c_X5_drawn h8) rfl hl.1 rfl ⟨(Nat.le_of_ble_eq_true rfl), (Nat.le_of_ble_eq_true rfl)⟩ ⟨Nat.zero_le _, Nat.zero_le _⟩ rfl (Nat.le_of_ble_eq_true rfl) dX5_live_53) (fun H locs hw => ?_)
        refine lv_istore (lv' := [(6, .int q8.2), (0, .ref (gA G 34)), (2, .int x2), (3, .int x3), (4, .int x4), (5, .int x5)]) C.1.1 C.1.2.1 dX5_live_56 hl (by decide) rfl (fun ls hl => ?_)
        refine lv_aload_n C.1.1 C.1.2.1 dX5_live_58 rfl (lv_at hl 1 rfl) ?_
        refine lv_iconst (v := (4 : Int32)) C.1.1 C.1.2.1 dX5_live_59 rfl ?_
        obtain ⟨q9, h9, hf⟩ := o_bind hf
        refine aft_i hw (run_VX C hw clX5_85 (As := [.int (4 : Int32)]) (rest := []) oX_34 (c_X5_drawn h9) rfl hl.1 rfl ⟨(Nat.le_of_ble_eq_true rfl), (Nat.le_of_ble_eq_true rfl)⟩ ⟨Nat.zero_le _, Nat.zero_le _⟩ rfl (Nat.le_of_ble_eq_true rfl) dX5_live_60) (fun H locs hw => ?_)
        refine lv_istore (lv' := [(7, .int q9.2), (6, .int q8.2), (0, .ref (gA G 34)), (2, .int x2), (3, .int x3), (4, .int x4), (5, .int x5)]) C.1.1 C.1.2.1 dX5_live_63 hl (by decide) rfl (fun ls hl => ?_)
        refine lv_aload_n C.1.1 C.1.2.1 dX5_live_65 rfl (lv_at hl 2 rfl) ?_
        refine lv_bipush (v := (16 : Int32)) C.1.1 C.1.2.1 dX5_live_66 rfl ?_
        obtain ⟨q10, h10, hf⟩ := o_bind hf
        refine aft_i hw (run_VX C hw clX5_85 (As := [.int (16 : Int32)]) (rest := []) oX_34 (c_X5_drawn h10) rfl hl.1 rfl ⟨(Nat.le_of_ble_eq_true rfl), (Nat.le_of_ble_eq_true rfl)⟩ ⟨Nat.zero_le _, Nat.zero_le _⟩ rfl (Nat.le_of_ble_eq_true rfl) dX5_live_68) (fun H locs hw => ?_)
        refine lv_iload_n C.1.1 C.1.2.1 dX5_live_71 rfl (lv_at hl 3 rfl) ?_
        refine lv_icmp_ge (tgt := 87) C.1.1 C.1.2.1 dX5_live_72 (by decide) (fun c11 => ?_) (fun c11 => ?_)
        · have hf := o_t hf c11
          refine lv_aload_n C.1.1 C.1.2.1 dX5_live_87 rfl (lv_at hl 2 rfl) ?_
          obtain ⟨q12, h12, hf⟩ := o_bind hf
          refine aft_v hw (run_VX C hw clX5_57 (As := []) (rest := []) oX_34 (c_X5_pass h12) rfl hl.1 rfl ⟨(Nat.le_of_ble_eq_true rfl), (Nat.le_of_ble_eq_true rfl)⟩ ⟨Nat.zero_le _, Nat.zero_le _⟩ rfl (Nat.le_of_ble_eq_true rfl) dX5_live_88) (fun H locs hw => ?_)
          refine lv_iinc (v := (x5 + (1 : Int32))) (lv' := [(5, .int (x5 + (1 : Int32))), (7, .int q9.2), (6, .int q8.2), (0, .ref (gA G 34)), (2, .int x2), (3, .int x3), (4, .int x4)]) C.1.1 C.1.2.1 dX5_live_91 hl (k := 6) rfl rfl (by decide) rfl (fun ls hl => ?_)
          refine lv_goto (tgt := 29) C.1.1 C.1.2.1 dX5_live_94 (by decide) ?_
          exact hk_29 q12 M L x2 x3 x4 (x5 + (1 : Int32)) _ _ _ hw (lv_sub hl [3, 4, 5, 6, 0] rfl) hf
        · have hf := o_f hf c11
          refine lv_aload_n C.1.1 C.1.2.1 dX5_live_75 rfl (lv_at hl 2 rfl) ?_
          refine x_ref C hw fX_34_1 flX5_32 dX5_live_76 ?_
          refine lv_iload C.1.1 C.1.2.1 dX5_live_79 (lv_at hl 1 rfl) ?_
          refine lv_iload C.1.1 C.1.2.1 dX5_live_81 (lv_at hl 0 rfl) ?_
          obtain ⟨q13, h13, hf⟩ := o_bind hf
          refine aft_i hw (run_VX C hw clX5_88 (As := [.int q8.2, .int q9.2]) (rest := []) oX_33 (c_X2_move h13) rfl hl.1 rfl ⟨(Nat.le_of_ble_eq_true rfl), (Nat.le_of_ble_eq_true rfl)⟩ ⟨Nat.zero_le _, Nat.zero_le _⟩ rfl (Nat.le_of_ble_eq_true rfl) dX5_live_83) (fun H locs hw => ?_)
          refine lv_pop C.1.1 C.1.2.1 dX5_live_86 rfl ?_
          refine lv_aload_n C.1.1 C.1.2.1 dX5_live_87 rfl (lv_at hl 2 rfl) ?_
          obtain ⟨q14, h14, hf⟩ := o_bind hf
          refine aft_v hw (run_VX C hw clX5_57 (As := []) (rest := []) oX_34 (c_X5_pass h14) rfl hl.1 rfl ⟨(Nat.le_of_ble_eq_true rfl), (Nat.le_of_ble_eq_true rfl)⟩ ⟨Nat.zero_le _, Nat.zero_le _⟩ rfl (Nat.le_of_ble_eq_true rfl) dX5_live_88) (fun H locs hw => ?_)
          refine lv_iinc (v := (x5 + (1 : Int32))) (lv' := [(5, .int (x5 + (1 : Int32))), (7, .int q9.2), (6, .int q8.2), (0, .ref (gA G 34)), (2, .int x2), (3, .int x3), (4, .int x4)]) C.1.1 C.1.2.1 dX5_live_91 hl (k := 6) rfl rfl (by decide) rfl (fun ls hl => ?_)
          refine lv_goto (tgt := 29) C.1.1 C.1.2.1 dX5_live_94 (by decide) ?_
          exact hk_29 q14 M L x2 x3 x4 (x5 + (1 : Int32)) _ _ _ hw (lv_sub hl [3, 4, 5, 6, 0] rfl) hf
set_option maxRecDepth 20000 in
set_option maxHeartbeats 2000000 in
theorem c_X5_live   {X M : TX} {L : TL} {x1 : Int32} {x2 : Int32} {x3 : Int32} {ro : TX} (hf : f_X5_live X x1 x2 x3 = some ro) : CTv G l yX5_live cX5_live 8 none 7 167 [.ref (gA G 34), .int x1, .int x2, .int x3] X M L ro M L := by
  unfold f_X5_live at hf
  refine ct_of (by decide +kernel) (Nat.le_of_ble_eq_true rfl) (fun p e s m args below meth c H locs ls C hr hlk hw hl => ?_)
  have C : Cx G p s m args c cX5_live 8 RX5 := C
  have hl : lv_has ls 8 [(0, .ref (gA G 34)), (1, .int x1), (2, .int x2), (3, .int x3)] := hl
  refine lv_aload_n C.1.1 C.1.2.1 dX5_live_0 rfl (lv_at hl 0 rfl) ?_
  refine x_ref C hw fX_34_0 flX5_28 dX5_live_1 ?_
  refine lv_aload_n C.1.1 C.1.2.1 dX5_live_4 rfl (lv_at hl 0 rfl) ?_
  refine x_ref C hw fX_34_2 flX5_9 dX5_live_5 ?_
  refine lv_iconst (v := (0 : Int32)) C.1.1 C.1.2.1 dX5_live_8 rfl ?_
  obtain ⟨q1, h1, hf⟩ := o_bind hf
  refine aft_v hw (run_VX C hw clX5_47 (As := [.ref (gA G 35), .int (0 : Int32)]) (rest := []) oX_3 (c_X3_save aX_35 h1) rfl hl.1 rfl ⟨(Nat.le_of_ble_eq_true rfl), (Nat.le_of_ble_eq_true rfl)⟩ ⟨Nat.zero_le _, Nat.zero_le _⟩ rfl (Nat.le_of_ble_eq_true rfl) dX5_live_9) (fun H locs hw => ?_)
  refine lv_aload_n C.1.1 C.1.2.1 dX5_live_12 rfl (lv_at hl 0 rfl) ?_
  refine x_ref C hw fX_34_0 flX5_28 dX5_live_13 ?_
  refine x_get C hw iX_3_11 flX5_79 dX5_live_16 ?_
  refine lv_istore (lv' := [(4, .int (q1 3 11)), (0, .ref (gA G 34)), (1, .int x1), (2, .int x2), (3, .int x3)]) C.1.1 C.1.2.1 dX5_live_19 hl (by decide) rfl (fun ls hl => ?_)
  refine lv_aload_n C.1.1 C.1.2.1 dX5_live_21 rfl (lv_at hl 1 rfl) ?_
  refine lv_iload_n C.1.1 C.1.2.1 dX5_live_22 rfl (lv_at hl 2 rfl) ?_
  refine x_put C hw iX_34_4 flX5_75 dX5_live_23 (fun H locs hw => ?_)
  refine lv_iconst (v := (0 : Int32)) C.1.1 C.1.2.1 dX5_live_26 rfl ?_
  refine lv_istore (lv' := [(5, .int (0 : Int32)), (4, .int (q1 3 11)), (0, .ref (gA G 34)), (1, .int x1), (2, .int x2), (3, .int x3)]) C.1.1 C.1.2.1 dX5_live_27 hl (by decide) rfl (fun ls hl => ?_)
  exact wL_X5_live_29 C hr hlk FU (u2 q1 34 4 x1) M L x2 x3 (q1 3 11) (0 : Int32) _ _ _ hw (lv_sub hl [2, 4, 5, 1, 0] rfl) hf
end
/-! WinnerDraws.time(IIII)I (('o', 'X', 0) ('i',) ('i',) ('i',) ('i',)) -/
def B_X8_time_26 (X : TX) (x1 : Int32) (x2 : Int32) (x3 : Int32) (x4 : Int32) (t0 : Int32) : Option (TX × (Int32 ⊕ Nat)) := (f_X8_need X t0).bind fun q4 => xb q4 (fun _ _ => (f_X5_live q4.1 x1 x2 x3).bind fun q5 => if x4 = (0 : Int32) then (some (q5, .inl (q5 34 5))) else (if x4 = (1 : Int32) then (some (q5, .inl (q5 34 9))) else (if x4 = (2 : Int32) then (some (q5, .inl (q5 34 10))) else ((some (q5, .inl (q5 34 11)))))))
def f_X8_time (X : TX) (x1 : Int32) (x2 : Int32) (x3 : Int32) (x4 : Int32) : Option (TX × (Int32 ⊕ Nat)) := (f_X8_isTime x2 x3).bind fun q1 => (f_X8_need X q1).bind fun q2 => xb q2 (fun _ _ => if x4 < 0 then (B_X8_time_26 q2.1 x1 x2 x3 x4 (0 : Int32)) else (if (3 : Int32) < x4 then (B_X8_time_26 q2.1 x1 x2 x3 x4 (0 : Int32)) else (B_X8_time_26 q2.1 x1 x2 x3 x4 (1 : Int32))))
section
variable {G : GP} {l : Launch}
set_option maxRecDepth 20000 in
set_option maxHeartbeats 2000000 in
theorem wB_X8_time_26 {p : Program} {e : Env} {s : State} {m : MethodId} {args : Array Value} {below : List Frame} {meth : Method} {c : Code} (C : Cx G p s m args c cX8_time 5 RX8) (hr : meth.sig.returnType = (some .int)) (hlk : meth.locks = false) (hnt : ∀ x ∈ c.exceptionTable.toList, False) (hst : l.stackTraces = false) {ro : TX × (Int32 ⊕ Nat)} : ∀ (X : TX) (M : TX) (L : TL) (x1 : Int32) (x2 : Int32) (x3 : Int32) (x4 : Int32) (t0 : Int32) (H : Heap) (locs : List Loc) (ls : Array Slot), Wh G s X M L H locs → lv_has ls 5 [(0, .ref (gA G 0)), (1, .int x1), (2, .int x2), (3, .int x3), (4, .int x4)] → B_X8_time_26 X x1 x2 x3 x4 t0 = some ro → W p l e (rx 8 194 2) s m args below meth c H locs 1 6 (vx_MQ below (Dxi G ro M L) (XD G ro M L) args s 2 (6 * 2) (AB G)) (F0 m 26 ls [.int t0, .ref (gA G 0)]) := by
  intro X M L x1 x2 x3 x4 t0 H locs ls hw hl hf
  unfold B_X8_time_26 at hf
  obtain ⟨q4, h4, hf⟩ := o_bind hf
  refine aftx_v hw (runx_VX C hw clX8_158 (tb2 212 rfl rfl) (As := [.int t0]) (rest := []) oX_0 (c_X8_need hst h4) rfl hl.1 rfl ⟨(Nat.le_of_ble_eq_true rfl), (Nat.le_of_ble_eq_true rfl)⟩ ⟨Nat.le_of_ble_eq_true rfl, Nat.le_of_ble_eq_true rfl⟩ rfl (Nat.le_of_ble_eq_true rfl) dX8_time_26) hf hnt hlk (Nat.le_of_ble_eq_true rfl) (Nat.le_of_ble_eq_true rfl) (fun hf H locs hw => ?_)
  refine lv_aload_n C.1.1 C.1.2.1 dX8_time_29 rfl (lv_at hl 0 rfl) ?_
  refine x_ref C hw fX_0_9 flX8_67 dX8_time_30 ?_
  refine lv_iload_n C.1.1 C.1.2.1 dX8_time_33 rfl (lv_at hl 1 rfl) ?_
  refine lv_iload_n C.1.1 C.1.2.1 dX8_time_34 rfl (lv_at hl 2 rfl) ?_
  refine lv_iload_n C.1.1 C.1.2.1 dX8_time_35 rfl (lv_at hl 3 rfl) ?_
  obtain ⟨q5, h5, hf⟩ := o_bind hf
  refine aft_v hw (run_VX C hw clX8_344 (As := [.int x1, .int x2, .int x3]) (rest := []) oX_34 (c_X5_live h5) rfl hl.1 rfl ⟨(Nat.le_of_ble_eq_true rfl), (Nat.le_of_ble_eq_true rfl)⟩ ⟨Nat.le_of_ble_eq_true rfl, Nat.le_of_ble_eq_true rfl⟩ rfl (Nat.le_of_ble_eq_true rfl) dX8_time_36) (fun H locs hw => ?_)
  refine lv_iload C.1.1 C.1.2.1 dX8_time_39 (lv_at hl 4 rfl) ?_
  by_cases c6 : x4 = (0 : Int32)
  · have hf := o_t hf c6
    refine lv_tableIn (tgt := 68) (off := 27) C.1.1 C.1.2.1 dX8_time_41 (by rw [c6]; decide) (by rw [c6]; decide) (by rw [c6]; rfl) (by decide) ?_
    refine lv_aload_n C.1.1 C.1.2.1 dX8_time_68 rfl (lv_at hl 0 rfl) ?_
    refine x_ref C hw fX_0_9 flX8_67 dX8_time_69 ?_
    refine x_get C hw iX_34_5 flX8_268 dX8_time_72 ?_
    exact retx_i C hr hlk hw (Option.some.inj hf).symm (Nat.le_of_ble_eq_true rfl) (Nat.le_of_ble_eq_true rfl) dX8_time_75
  have hf := o_f hf c6
  by_cases c7 : x4 = (1 : Int32)
  · have hf := o_t hf c7
    refine lv_tableIn (tgt := 76) (off := 35) C.1.1 C.1.2.1 dX8_time_41 (by rw [c7]; decide) (by rw [c7]; decide) (by rw [c7]; rfl) (by decide) ?_
    refine lv_aload_n C.1.1 C.1.2.1 dX8_time_76 rfl (lv_at hl 0 rfl) ?_
    refine x_ref C hw fX_0_9 flX8_67 dX8_time_77 ?_
    refine x_get C hw iX_34_9 flX8_348 dX8_time_80 ?_
    exact retx_i C hr hlk hw (Option.some.inj hf).symm (Nat.le_of_ble_eq_true rfl) (Nat.le_of_ble_eq_true rfl) dX8_time_83
  have hf := o_f hf c7
  by_cases c8 : x4 = (2 : Int32)
  · have hf := o_t hf c8
    refine lv_tableIn (tgt := 84) (off := 43) C.1.1 C.1.2.1 dX8_time_41 (by rw [c8]; decide) (by rw [c8]; decide) (by rw [c8]; rfl) (by decide) ?_
    refine lv_aload_n C.1.1 C.1.2.1 dX8_time_84 rfl (lv_at hl 0 rfl) ?_
    refine x_ref C hw fX_0_9 flX8_67 dX8_time_85 ?_
    refine x_get C hw iX_34_10 flX8_351 dX8_time_88 ?_
    exact retx_i C hr hlk hw (Option.some.inj hf).symm (Nat.le_of_ble_eq_true rfl) (Nat.le_of_ble_eq_true rfl) dX8_time_91
  have hf := o_f hf c8
  have ho : (Int32.toInt x4) < 0 ∨ 2 < (Int32.toInt x4) := by
    rcases (by omega : (Int32.toInt x4) < 0 ∨ 2 < (Int32.toInt x4) ∨ (Int32.toInt x4) = 0 ∨ (Int32.toInt x4) = 1 ∨ (Int32.toInt x4) = 2) with q | q | q | q | q
    · exact Or.inl q
    · exact Or.inr q
    · exact absurd (Int32.toInt_inj.mp (q.trans (by decide))) c6
    · exact absurd (Int32.toInt_inj.mp (q.trans (by decide))) c7
    · exact absurd (Int32.toInt_inj.mp (q.trans (by decide))) c8
  refine lv_tableOut (tgt := 92) C.1.1 C.1.2.1 dX8_time_41 ho (by decide) ?_
  refine lv_aload_n C.1.1 C.1.2.1 dX8_time_92 rfl (lv_at hl 0 rfl) ?_
  refine x_ref C hw fX_0_9 flX8_67 dX8_time_93 ?_
  refine x_get C hw iX_34_11 flX8_354 dX8_time_96 ?_
  exact retx_i C hr hlk hw (Option.some.inj hf).symm (Nat.le_of_ble_eq_true rfl) (Nat.le_of_ble_eq_true rfl) dX8_time_99
set_option maxRecDepth 20000 in
set_option maxHeartbeats 2000000 in
theorem c_X8_time (hst : l.stackTraces = false)  {X M : TX} {L : TL} {x1 : Int32} {x2 : Int32} {x3 : Int32} {x4 : Int32} {ro : TX × (Int32 ⊕ Nat)} (hf : f_X8_time X x1 x2 x3 x4 = some ro) : CXi G l yX8_time cX8_time 5 (some .int) 8 194 2 [.ref (gA G 0), .int x1, .int x2, .int x3, .int x4] X M L ro := by
  unfold f_X8_time at hf
  refine cx_of (by decide +kernel) (Nat.le_of_ble_eq_true rfl) (fun p e s m args below meth c H locs ls C hr hlk hnt hw hl => ?_)
  have C : Cx G p s m args c cX8_time 5 RX8 := C
  have hl : lv_has ls 5 [(0, .ref (gA G 0)), (1, .int x1), (2, .int x2), (3, .int x3), (4, .int x4)] := hl
  refine lv_aload_n C.1.1 C.1.2.1 dX8_time_0 rfl (lv_at hl 0 rfl) ?_
  refine lv_iload_n C.1.1 C.1.2.1 dX8_time_1 rfl (lv_at hl 2 rfl) ?_
  refine lv_iload_n C.1.1 C.1.2.1 dX8_time_2 rfl (lv_at hl 3 rfl) ?_
  obtain ⟨q1, h1, hf⟩ := o_bind hf
  refine aft_i hw (run_S C hw clX8_340 (As := [.int x2, .int x3]) (rest := [.ref (gA G 0)]) (c_X8_isTime h1) hl.1 rfl ⟨(Nat.le_of_ble_eq_true rfl), (Nat.le_of_ble_eq_true rfl)⟩ ⟨Nat.le_of_ble_eq_true rfl, Nat.le_of_ble_eq_true rfl⟩ rfl (Nat.le_of_ble_eq_true rfl) dX8_time_3) (fun H locs hw => ?_)
  obtain ⟨q2, h2, hf⟩ := o_bind hf
  refine aftx_v hw (runx_VX C hw clX8_158 (tb2 212 rfl rfl) (As := [.int q1]) (rest := []) oX_0 (c_X8_need hst h2) rfl hl.1 rfl ⟨(Nat.le_of_ble_eq_true rfl), (Nat.le_of_ble_eq_true rfl)⟩ ⟨Nat.le_of_ble_eq_true rfl, Nat.le_of_ble_eq_true rfl⟩ rfl (Nat.le_of_ble_eq_true rfl) dX8_time_6) hf hnt hlk (Nat.le_of_ble_eq_true rfl) (Nat.le_of_ble_eq_true rfl) (fun hf H locs hw => ?_)
  refine lv_aload_n C.1.1 C.1.2.1 dX8_time_9 rfl (lv_at hl 0 rfl) ?_
  refine lv_iload C.1.1 C.1.2.1 dX8_time_10 (lv_at hl 4 rfl) ?_
  refine lv_if_lt (tgt := 25) C.1.1 C.1.2.1 dX8_time_12 (by decide) (fun c3 => ?_) (fun c3 => ?_)
  · have hf := o_t hf c3
    refine lv_iconst (v := (0 : Int32)) C.1.1 C.1.2.1 dX8_time_25 rfl ?_
    exact wB_X8_time_26 C hr hlk hnt hst q2.1 M L x1 x2 x3 x4 (0 : Int32) _ _ _ hw (lv_sub hl [0, 1, 2, 3, 4] rfl) hf
  · have hf := o_f hf c3
    refine lv_iload C.1.1 C.1.2.1 dX8_time_15 (lv_at hl 4 rfl) ?_
    refine lv_iconst (v := (3 : Int32)) C.1.1 C.1.2.1 dX8_time_17 rfl ?_
    refine lv_icmp_gt (tgt := 25) C.1.1 C.1.2.1 dX8_time_18 (by decide) (fun c9 => ?_) (fun c9 => ?_)
    · have hf := o_t hf c9
      refine lv_iconst (v := (0 : Int32)) C.1.1 C.1.2.1 dX8_time_25 rfl ?_
      exact wB_X8_time_26 C hr hlk hnt hst q2.1 M L x1 x2 x3 x4 (0 : Int32) _ _ _ hw (lv_sub hl [0, 1, 2, 3, 4] rfl) hf
    · have hf := o_f hf c9
      refine lv_iconst (v := (1 : Int32)) C.1.1 C.1.2.1 dX8_time_21 rfl ?_
      refine lv_goto (tgt := 26) C.1.1 C.1.2.1 dX8_time_22 (by decide) ?_
      exact wB_X8_time_26 C hr hlk hnt hst q2.1 M L x1 x2 x3 x4 (1 : Int32) _ _ _ hw (lv_sub hl [0, 1, 2, 3, 4] rfl) hf
end
/-! WinnerDraws.span(IIIIII)I (('o', 'X', 0) ('i',) ('i',) ('i',) ('i',) ('i',) ('i',)) -/
def L_X8_span_73 : Nat → TX → Int32 → Int32 → Int32 → Int32 → Int32 → Int32 → Int32 → Int32 → Int32 → Int32 → Option (TX × (Int32 ⊕ Nat))
  | 0 => fun _ _ _ _ _ _ _ _ _ _ _ => none
  | n + 1 => fun X x1 x2 x3 x4 x5 x6 x7 x8 x9 x10 => if x2 ≤ x10 then (if x5 = (0 : Int32) then (some (X, .inl x7)) else (if x5 = (1 : Int32) then (some (X, .inl x8)) else ((some (X, .inl x9))))) else ((f_X5_live X (x1 + x10) x3 x4).bind fun q8 => if (q8 34 5) = x6 then ((L_X8_span_73 n) q8 x1 x2 x3 x4 x5 x6 (if (q8 34 9) < x7 then (q8 34 9) else x7) (if x8 < (q8 34 9) then (q8 34 9) else x8) (x9 + (1 : Int32)) (x10 + (1 : Int32))) else ((L_X8_span_73 n) q8 x1 x2 x3 x4 x5 x6 (if (q8 34 9) < x7 then (q8 34 9) else x7) (if x8 < (q8 34 9) then (q8 34 9) else x8) (x9 + (0 : Int32)) (x10 + (1 : Int32))))
def B_X8_span_26 (X : TX) (x1 : Int32) (x2 : Int32) (x3 : Int32) (x4 : Int32) (x5 : Int32) (x6 : Int32) (t0 : Int32) : Option (TX × (Int32 ⊕ Nat)) := (f_X8_need X t0).bind fun q2 => xb q2 (fun _ _ => if x5 < 0 then ((f_X8_need q2.1 (0 : Int32)).bind fun q4 => xb q4 (fun _ _ => L_X8_span_73 FU q4.1 x1 x2 x3 x4 x5 x6 (4 : Int32) (-4 : Int32) (0 : Int32) (0 : Int32))) else (if (2 : Int32) < x5 then ((f_X8_need q2.1 (0 : Int32)).bind fun q13 => xb q13 (fun _ _ => L_X8_span_73 FU q13.1 x1 x2 x3 x4 x5 x6 (4 : Int32) (-4 : Int32) (0 : Int32) (0 : Int32))) else (if x6 < 0 then ((f_X8_need q2.1 (0 : Int32)).bind fun q15 => xb q15 (fun _ _ => L_X8_span_73 FU q15.1 x1 x2 x3 x4 x5 x6 (4 : Int32) (-4 : Int32) (0 : Int32) (0 : Int32))) else (if (2 : Int32) ≤ x6 then ((f_X8_need q2.1 (0 : Int32)).bind fun q17 => xb q17 (fun _ _ => L_X8_span_73 FU q17.1 x1 x2 x3 x4 x5 x6 (4 : Int32) (-4 : Int32) (0 : Int32) (0 : Int32))) else ((f_X8_need q2.1 (1 : Int32)).bind fun q18 => xb q18 (fun _ _ => L_X8_span_73 FU q18.1 x1 x2 x3 x4 x5 x6 (4 : Int32) (-4 : Int32) (0 : Int32) (0 : Int32)))))))
def f_X8_span (X : TX) (x1 : Int32) (x2 : Int32) (x3 : Int32) (x4 : Int32) (x5 : Int32) (x6 : Int32) : Option (TX × (Int32 ⊕ Nat)) := if x2 < (1 : Int32) then (B_X8_span_26 X x1 x2 x3 x4 x5 x6 (0 : Int32)) else (if (10 : Int32) < x2 then (B_X8_span_26 X x1 x2 x3 x4 x5 x6 (0 : Int32)) else ((f_X8_isTime x3 x4).bind fun q20 => if q20 = 0 then (B_X8_span_26 X x1 x2 x3 x4 x5 x6 (0 : Int32)) else (B_X8_span_26 X x1 x2 x3 x4 x5 x6 (1 : Int32))))
section
variable {G : GP} {l : Launch}
set_option maxRecDepth 20000 in
set_option maxHeartbeats 2000000 in
theorem wL_X8_span_73 {p : Program} {e : Env} {s : State} {m : MethodId} {args : Array Value} {below : List Frame} {meth : Method} {c : Code} (C : Cx G p s m args c cX8_span 11 RX8) (hr : meth.sig.returnType = (some .int)) (hlk : meth.locks = false) (hnt : ∀ x ∈ c.exceptionTable.toList, False) (hst : l.stackTraces = false) {ro : TX × (Int32 ⊕ Nat)} : ∀ (n : Nat), ∀ (X : TX) (M : TX) (L : TL) (x1 : Int32) (x2 : Int32) (x3 : Int32) (x4 : Int32) (x5 : Int32) (x6 : Int32) (x7 : Int32) (x8 : Int32) (x9 : Int32) (x10 : Int32) (H : Heap) (locs : List Loc) (ls : Array Slot), Wh G s X M L H locs → lv_has ls 11 [(0, .ref (gA G 0)), (1, .int x1), (2, .int x2), (3, .int x3), (4, .int x4), (5, .int x5), (6, .int x6), (7, .int x7), (8, .int x8), (9, .int x9), (10, .int x10)] → L_X8_span_73 n X x1 x2 x3 x4 x5 x6 x7 x8 x9 x10 = some ro → W p l e (rx 8 194 2) s m args below meth c H locs 2 12 (vx_MQ below (Dxi G ro M L) (XD G ro M L) args s 2 (6 * 2) (AB G)) (F0 m 73 ls []) := by
  intro n
  induction n with
  | zero =>
    intro X M L x1 x2 x3 x4 x5 x6 x7 x8 x9 x10 H locs ls hw hl hf
    cases hf
  | succ n hk_73 =>
    intro X M L x1 x2 x3 x4 x5 x6 x7 x8 x9 x10 H locs ls hw hl hf
    rw [L_X8_span_73] at hf
    refine lv_iload C.1.1 C.1.2.1 dX8_span_73 (lv_at hl 10 rfl) ?_
    refine lv_iload_n C.1.1 C.1.2.1 dX8_span_75 rfl (lv_at hl 2 rfl) ?_
    refine lv_icmp_ge (tgt := 149) C.1.1 C.1.2.1 dX8_span_76 (by decide) (fun c5 => ?_) (fun c5 => ?_)
    · have hf := o_t hf c5
      refine lv_iload C.1.1 C.1.2.1 dX8_span_149 (lv_at hl 5 rfl) ?_
      by_cases c6 : x5 = (0 : Int32)
      · have hf := o_t hf c6
        refine lv_lookup (tgt := 176) (off := 25) C.1.1 C.1.2.1 dX8_span_151 (by decide) (by rw [c6]; rfl) (by decide) ?_
        refine lv_iload C.1.1 C.1.2.1 dX8_span_176 (lv_at hl 7 rfl) ?_
        exact retx_i C hr hlk hw (Option.some.inj hf).symm (Nat.le_of_ble_eq_true rfl) (Nat.le_of_ble_eq_true rfl) dX8_span_178
      have hf := o_f hf c6
      by_cases c7 : x5 = (1 : Int32)
      · have hf := o_t hf c7
        refine lv_lookup (tgt := 179) (off := 28) C.1.1 C.1.2.1 dX8_span_151 (by decide) (by rw [c7]; rfl) (by decide) ?_
        refine lv_iload C.1.1 C.1.2.1 dX8_span_179 (lv_at hl 8 rfl) ?_
        exact retx_i C hr hlk hw (Option.some.inj hf).symm (Nat.le_of_ble_eq_true rfl) (Nat.le_of_ble_eq_true rfl) dX8_span_181
      have hf := o_f hf c7
      have z6 : ¬ (Int32.toInt x5) = 0 := fun z => c6 (Int32.toInt_inj.mp (z.trans (by decide)))
      have z7 : ¬ (Int32.toInt x5) = 1 := fun z => c7 (Int32.toInt_inj.mp (z.trans (by decide)))
      refine lv_lookup (tgt := 182) (off := 31) C.1.1 C.1.2.1 dX8_span_151 (by decide) (by simp [Op.lookupswitch.offset, z6, Ne.symm z6, z7, Ne.symm z7]) (by decide) ?_
      refine lv_iload C.1.1 C.1.2.1 dX8_span_182 (lv_at hl 9 rfl) ?_
      exact retx_i C hr hlk hw (Option.some.inj hf).symm (Nat.le_of_ble_eq_true rfl) (Nat.le_of_ble_eq_true rfl) dX8_span_184
    · have hf := o_f hf c5
      refine lv_aload_n C.1.1 C.1.2.1 dX8_span_79 rfl (lv_at hl 0 rfl) ?_
      refine x_ref C hw fX_0_9 flX8_67 dX8_span_80 ?_
      refine lv_iload_n C.1.1 C.1.2.1 dX8_span_83 rfl (lv_at hl 1 rfl) ?_
      refine lv_iload C.1.1 C.1.2.1 dX8_span_84 (lv_at hl 10 rfl) ?_
      refine lv_iadd C.1.1 C.1.2.1 dX8_span_86 ?_
      refine lv_iload_n C.1.1 C.1.2.1 dX8_span_87 rfl (lv_at hl 3 rfl) ?_
      refine lv_iload C.1.1 C.1.2.1 dX8_span_88 (lv_at hl 4 rfl) ?_
      obtain ⟨q8, h8, hf⟩ := o_bind hf
      refine aft_v hw (run_VX C hw clX8_344 (As := [.int (x1 + x10), .int x3, .int x4]) (rest := []) oX_34 (c_X5_live h8) rfl hl.1 rfl ⟨(Nat.le_of_ble_eq_true rfl), (Nat.le_of_ble_eq_true rfl)⟩ ⟨Nat.le_of_ble_eq_true rfl, Nat.le_of_ble_eq_true rfl⟩ rfl (Nat.le_of_ble_eq_true rfl) dX8_span_90) (fun H locs hw => ?_)
      refine lv_iload C.1.1 C.1.2.1 dX8_span_93 (lv_at hl 7 rfl) ?_
      refine lv_aload_n C.1.1 C.1.2.1 dX8_span_95 rfl (lv_at hl 0 rfl) ?_
      refine x_ref C hw fX_0_9 flX8_67 dX8_span_96 ?_
      refine x_get C hw iX_34_9 flX8_348 dX8_span_99 ?_
      refine x_min C clX8_357 (tb6 65 rfl rfl) hl.1 ⟨(Nat.le_of_ble_eq_true rfl), (Nat.le_of_ble_eq_true rfl)⟩ ⟨Nat.le_of_ble_eq_true rfl, Nat.le_of_ble_eq_true rfl⟩ dX8_span_102 ?_
      refine lv_istore (lv' := [(7, .int (if (q8 34 9) < x7 then (q8 34 9) else x7)), (0, .ref (gA G 0)), (1, .int x1), (2, .int x2), (3, .int x3), (4, .int x4), (5, .int x5), (6, .int x6), (8, .int x8), (9, .int x9), (10, .int x10)]) C.1.1 C.1.2.1 dX8_span_105 hl (by decide) rfl (fun ls hl => ?_)
      refine lv_iload C.1.1 C.1.2.1 dX8_span_107 (lv_at hl 8 rfl) ?_
      refine lv_aload_n C.1.1 C.1.2.1 dX8_span_109 rfl (lv_at hl 1 rfl) ?_
      refine x_ref C hw fX_0_9 flX8_67 dX8_span_110 ?_
      refine x_get C hw iX_34_9 flX8_348 dX8_span_113 ?_
      refine x_max C clX8_317 (tb5 235 rfl rfl) hl.1 ⟨(Nat.le_of_ble_eq_true rfl), (Nat.le_of_ble_eq_true rfl)⟩ ⟨Nat.le_of_ble_eq_true rfl, Nat.le_of_ble_eq_true rfl⟩ dX8_span_116 ?_
      refine lv_istore (lv' := [(8, .int (if x8 < (q8 34 9) then (q8 34 9) else x8)), (7, .int (if (q8 34 9) < x7 then (q8 34 9) else x7)), (0, .ref (gA G 0)), (1, .int x1), (2, .int x2), (3, .int x3), (4, .int x4), (5, .int x5), (6, .int x6), (9, .int x9), (10, .int x10)]) C.1.1 C.1.2.1 dX8_span_119 hl (by decide) rfl (fun ls hl => ?_)
      refine lv_iload C.1.1 C.1.2.1 dX8_span_121 (lv_at hl 9 rfl) ?_
      refine lv_aload_n C.1.1 C.1.2.1 dX8_span_123 rfl (lv_at hl 2 rfl) ?_
      refine x_ref C hw fX_0_9 flX8_67 dX8_span_124 ?_
      refine x_get C hw iX_34_5 flX8_268 dX8_span_127 ?_
      refine lv_iload C.1.1 C.1.2.1 dX8_span_130 (lv_at hl 8 rfl) ?_
      refine lv_icmp_ne (tgt := 139) C.1.1 C.1.2.1 dX8_span_132 (by decide) (fun c11 => ?_) (fun c11 => ?_)
      · have hf := o_f hf c11
        refine lv_iconst (v := (0 : Int32)) C.1.1 C.1.2.1 dX8_span_139 rfl ?_
        refine lv_iadd C.1.1 C.1.2.1 dX8_span_140 ?_
        refine lv_istore (lv' := [(9, .int (x9 + (0 : Int32))), (8, .int (if x8 < (q8 34 9) then (q8 34 9) else x8)), (7, .int (if (q8 34 9) < x7 then (q8 34 9) else x7)), (0, .ref (gA G 0)), (1, .int x1), (2, .int x2), (3, .int x3), (4, .int x4), (5, .int x5), (6, .int x6), (10, .int x10)]) C.1.1 C.1.2.1 dX8_span_141 hl (by decide) rfl (fun ls hl => ?_)
        refine lv_iinc (v := (x10 + (1 : Int32))) (lv' := [(10, .int (x10 + (1 : Int32))), (9, .int (x9 + (0 : Int32))), (8, .int (if x8 < (q8 34 9) then (q8 34 9) else x8)), (7, .int (if (q8 34 9) < x7 then (q8 34 9) else x7)), (0, .ref (gA G 0)), (1, .int x1), (2, .int x2), (3, .int x3), (4, .int x4), (5, .int x5), (6, .int x6)]) C.1.1 C.1.2.1 dX8_span_143 hl (k := 10) rfl rfl (by decide) rfl (fun ls hl => ?_)
        refine lv_goto (tgt := 73) C.1.1 C.1.2.1 dX8_span_146 (by decide) ?_
        exact hk_73 q8 M L x1 x2 x3 x4 x5 x6 (if (q8 34 9) < x7 then (q8 34 9) else x7) (if x8 < (q8 34 9) then (q8 34 9) else x8) (x9 + (0 : Int32)) (x10 + (1 : Int32)) _ _ _ hw (lv_sub hl [4, 5, 6, 7, 8, 9, 10, 3, 2, 1, 0] rfl) hf
      · have hf := o_t hf c11
        refine lv_iconst (v := (1 : Int32)) C.1.1 C.1.2.1 dX8_span_135 rfl ?_
        refine lv_goto (tgt := 140) C.1.1 C.1.2.1 dX8_span_136 (by decide) ?_
        refine lv_iadd C.1.1 C.1.2.1 dX8_span_140 ?_
        refine lv_istore (lv' := [(9, .int (x9 + (1 : Int32))), (8, .int (if x8 < (q8 34 9) then (q8 34 9) else x8)), (7, .int (if (q8 34 9) < x7 then (q8 34 9) else x7)), (0, .ref (gA G 0)), (1, .int x1), (2, .int x2), (3, .int x3), (4, .int x4), (5, .int x5), (6, .int x6), (10, .int x10)]) C.1.1 C.1.2.1 dX8_span_141 hl (by decide) rfl (fun ls hl => ?_)
        refine lv_iinc (v := (x10 + (1 : Int32))) (lv' := [(10, .int (x10 + (1 : Int32))), (9, .int (x9 + (1 : Int32))), (8, .int (if x8 < (q8 34 9) then (q8 34 9) else x8)), (7, .int (if (q8 34 9) < x7 then (q8 34 9) else x7)), (0, .ref (gA G 0)), (1, .int x1), (2, .int x2), (3, .int x3), (4, .int x4), (5, .int x5), (6, .int x6)]) C.1.1 C.1.2.1 dX8_span_143 hl (k := 10) rfl rfl (by decide) rfl (fun ls hl => ?_)
        refine lv_goto (tgt := 73) C.1.1 C.1.2.1 dX8_span_146 (by decide) ?_
        exact hk_73 q8 M L x1 x2 x3 x4 x5 x6 (if (q8 34 9) < x7 then (q8 34 9) else x7) (if x8 < (q8 34 9) then (q8 34 9) else x8) (x9 + (1 : Int32)) (x10 + (1 : Int32)) _ _ _ hw (lv_sub hl [4, 5, 6, 7, 8, 9, 10, 3, 2, 1, 0] rfl) hf
set_option maxRecDepth 20000 in
set_option maxHeartbeats 2000000 in
theorem wB_X8_span_26 {p : Program} {e : Env} {s : State} {m : MethodId} {args : Array Value} {below : List Frame} {meth : Method} {c : Code} (C : Cx G p s m args c cX8_span 11 RX8) (hr : meth.sig.returnType = (some .int)) (hlk : meth.locks = false) (hnt : ∀ x ∈ c.exceptionTable.toList, False) (hst : l.stackTraces = false) {ro : TX × (Int32 ⊕ Nat)} : ∀ (X : TX) (M : TX) (L : TL) (x1 : Int32) (x2 : Int32) (x3 : Int32) (x4 : Int32) (x5 : Int32) (x6 : Int32) (t0 : Int32) (H : Heap) (locs : List Loc) (ls : Array Slot), Wh G s X M L H locs → lv_has ls 11 [(0, .ref (gA G 0)), (1, .int x1), (2, .int x2), (3, .int x3), (4, .int x4), (5, .int x5), (6, .int x6)] → B_X8_span_26 X x1 x2 x3 x4 x5 x6 t0 = some ro → W p l e (rx 8 194 2) s m args below meth c H locs 0 0 (vx_MQ below (Dxi G ro M L) (XD G ro M L) args s 2 (6 * 2) (AB G)) (F0 m 26 ls [.int t0, .ref (gA G 0)]) := by
  intro X M L x1 x2 x3 x4 x5 x6 t0 H locs ls hw hl hf
  unfold B_X8_span_26 at hf
  obtain ⟨q2, h2, hf⟩ := o_bind hf
  refine aftx_v hw (runx_VX C hw clX8_158 (tb2 212 rfl rfl) (As := [.int t0]) (rest := []) oX_0 (c_X8_need hst h2) rfl hl.1 rfl ⟨(Nat.le_of_ble_eq_true rfl), (Nat.le_of_ble_eq_true rfl)⟩ ⟨Nat.le_of_ble_eq_true rfl, Nat.le_of_ble_eq_true rfl⟩ rfl (Nat.le_of_ble_eq_true rfl) dX8_span_26) hf hnt hlk (Nat.le_of_ble_eq_true rfl) (Nat.le_of_ble_eq_true rfl) (fun hf H locs hw => ?_)
  refine lv_aload_n C.1.1 C.1.2.1 dX8_span_29 rfl (lv_at hl 0 rfl) ?_
  refine lv_iload C.1.1 C.1.2.1 dX8_span_30 (lv_at hl 5 rfl) ?_
  refine lv_if_lt (tgt := 56) C.1.1 C.1.2.1 dX8_span_32 (by decide) (fun c3 => ?_) (fun c3 => ?_)
  · have hf := o_t hf c3
    refine lv_iconst (v := (0 : Int32)) C.1.1 C.1.2.1 dX8_span_56 rfl ?_
    obtain ⟨q4, h4, hf⟩ := o_bind hf
    refine aftx_v hw (runx_VX C hw clX8_158 (tb2 212 rfl rfl) (As := [.int (0 : Int32)]) (rest := []) oX_0 (c_X8_need hst h4) rfl hl.1 rfl ⟨(Nat.le_of_ble_eq_true rfl), (Nat.le_of_ble_eq_true rfl)⟩ ⟨Nat.le_of_ble_eq_true rfl, Nat.le_of_ble_eq_true rfl⟩ rfl (Nat.le_of_ble_eq_true rfl) dX8_span_57) hf hnt hlk (Nat.le_of_ble_eq_true rfl) (Nat.le_of_ble_eq_true rfl) (fun hf H locs hw => ?_)
    refine lv_iconst (v := (4 : Int32)) C.1.1 C.1.2.1 dX8_span_60 rfl ?_
    refine lv_istore (lv' := [(7, .int (4 : Int32)), (0, .ref (gA G 0)), (1, .int x1), (2, .int x2), (3, .int x3), (4, .int x4), (5, .int x5), (6, .int x6)]) C.1.1 C.1.2.1 dX8_span_61 hl (by decide) rfl (fun ls hl => ?_)
    refine lv_bipush (v := (-4 : Int32)) C.1.1 C.1.2.1 dX8_span_63 rfl ?_
    refine lv_istore (lv' := [(8, .int (-4 : Int32)), (7, .int (4 : Int32)), (0, .ref (gA G 0)), (1, .int x1), (2, .int x2), (3, .int x3), (4, .int x4), (5, .int x5), (6, .int x6)]) C.1.1 C.1.2.1 dX8_span_65 hl (by decide) rfl (fun ls hl => ?_)
    refine lv_iconst (v := (0 : Int32)) C.1.1 C.1.2.1 dX8_span_67 rfl ?_
    refine lv_istore (lv' := [(9, .int (0 : Int32)), (8, .int (-4 : Int32)), (7, .int (4 : Int32)), (0, .ref (gA G 0)), (1, .int x1), (2, .int x2), (3, .int x3), (4, .int x4), (5, .int x5), (6, .int x6)]) C.1.1 C.1.2.1 dX8_span_68 hl (by decide) rfl (fun ls hl => ?_)
    refine lv_iconst (v := (0 : Int32)) C.1.1 C.1.2.1 dX8_span_70 rfl ?_
    refine lv_istore (lv' := [(10, .int (0 : Int32)), (9, .int (0 : Int32)), (8, .int (-4 : Int32)), (7, .int (4 : Int32)), (0, .ref (gA G 0)), (1, .int x1), (2, .int x2), (3, .int x3), (4, .int x4), (5, .int x5), (6, .int x6)]) C.1.1 C.1.2.1 dX8_span_71 hl (by decide) rfl (fun ls hl => ?_)
    exact wL_X8_span_73 C hr hlk hnt hst FU q4.1 M L x1 x2 x3 x4 x5 x6 (4 : Int32) (-4 : Int32) (0 : Int32) (0 : Int32) _ _ _ hw (lv_sub hl [4, 5, 6, 7, 8, 9, 10, 3, 2, 1, 0] rfl) hf
  · have hf := o_f hf c3
    refine lv_iload C.1.1 C.1.2.1 dX8_span_35 (lv_at hl 5 rfl) ?_
    refine lv_iconst (v := (2 : Int32)) C.1.1 C.1.2.1 dX8_span_37 rfl ?_
    refine lv_icmp_gt (tgt := 56) C.1.1 C.1.2.1 dX8_span_38 (by decide) (fun c12 => ?_) (fun c12 => ?_)
    · have hf := o_t hf c12
      refine lv_iconst (v := (0 : Int32)) C.1.1 C.1.2.1 dX8_span_56 rfl ?_
      obtain ⟨q13, h13, hf⟩ := o_bind hf
      refine aftx_v hw (runx_VX C hw clX8_158 (tb2 212 rfl rfl) (As := [.int (0 : Int32)]) (rest := []) oX_0 (c_X8_need hst h13) rfl hl.1 rfl ⟨(Nat.le_of_ble_eq_true rfl), (Nat.le_of_ble_eq_true rfl)⟩ ⟨Nat.le_of_ble_eq_true rfl, Nat.le_of_ble_eq_true rfl⟩ rfl (Nat.le_of_ble_eq_true rfl) dX8_span_57) hf hnt hlk (Nat.le_of_ble_eq_true rfl) (Nat.le_of_ble_eq_true rfl) (fun hf H locs hw => ?_)
      refine lv_iconst (v := (4 : Int32)) C.1.1 C.1.2.1 dX8_span_60 rfl ?_
      refine lv_istore (lv' := [(7, .int (4 : Int32)), (0, .ref (gA G 0)), (1, .int x1), (2, .int x2), (3, .int x3), (4, .int x4), (5, .int x5), (6, .int x6)]) C.1.1 C.1.2.1 dX8_span_61 hl (by decide) rfl (fun ls hl => ?_)
      refine lv_bipush (v := (-4 : Int32)) C.1.1 C.1.2.1 dX8_span_63 rfl ?_
      refine lv_istore (lv' := [(8, .int (-4 : Int32)), (7, .int (4 : Int32)), (0, .ref (gA G 0)), (1, .int x1), (2, .int x2), (3, .int x3), (4, .int x4), (5, .int x5), (6, .int x6)]) C.1.1 C.1.2.1 dX8_span_65 hl (by decide) rfl (fun ls hl => ?_)
      refine lv_iconst (v := (0 : Int32)) C.1.1 C.1.2.1 dX8_span_67 rfl ?_
      refine lv_istore (lv' := [(9, .int (0 : Int32)), (8, .int (-4 : Int32)), (7, .int (4 : Int32)), (0, .ref (gA G 0)), (1, .int x1), (2, .int x2), (3, .int x3), (4, .int x4), (5, .int x5), (6, .int x6)]) C.1.1 C.1.2.1 dX8_span_68 hl (by decide) rfl (fun ls hl => ?_)
      refine lv_iconst (v := (0 : Int32)) C.1.1 C.1.2.1 dX8_span_70 rfl ?_
      refine lv_istore (lv' := [(10, .int (0 : Int32)), (9, .int (0 : Int32)), (8, .int (-4 : Int32)), (7, .int (4 : Int32)), (0, .ref (gA G 0)), (1, .int x1), (2, .int x2), (3, .int x3), (4, .int x4), (5, .int x5), (6, .int x6)]) C.1.1 C.1.2.1 dX8_span_71 hl (by decide) rfl (fun ls hl => ?_)
      exact wL_X8_span_73 C hr hlk hnt hst FU q13.1 M L x1 x2 x3 x4 x5 x6 (4 : Int32) (-4 : Int32) (0 : Int32) (0 : Int32) _ _ _ hw (lv_sub hl [4, 5, 6, 7, 8, 9, 10, 3, 2, 1, 0] rfl) hf
    · have hf := o_f hf c12
      refine lv_iload C.1.1 C.1.2.1 dX8_span_41 (lv_at hl 6 rfl) ?_
      refine lv_if_lt (tgt := 56) C.1.1 C.1.2.1 dX8_span_43 (by decide) (fun c14 => ?_) (fun c14 => ?_)
      · have hf := o_t hf c14
        refine lv_iconst (v := (0 : Int32)) C.1.1 C.1.2.1 dX8_span_56 rfl ?_
        obtain ⟨q15, h15, hf⟩ := o_bind hf
        refine aftx_v hw (runx_VX C hw clX8_158 (tb2 212 rfl rfl) (As := [.int (0 : Int32)]) (rest := []) oX_0 (c_X8_need hst h15) rfl hl.1 rfl ⟨(Nat.le_of_ble_eq_true rfl), (Nat.le_of_ble_eq_true rfl)⟩ ⟨Nat.le_of_ble_eq_true rfl, Nat.le_of_ble_eq_true rfl⟩ rfl (Nat.le_of_ble_eq_true rfl) dX8_span_57) hf hnt hlk (Nat.le_of_ble_eq_true rfl) (Nat.le_of_ble_eq_true rfl) (fun hf H locs hw => ?_)
        refine lv_iconst (v := (4 : Int32)) C.1.1 C.1.2.1 dX8_span_60 rfl ?_
        refine lv_istore (lv' := [(7, .int (4 : Int32)), (0, .ref (gA G 0)), (1, .int x1), (2, .int x2), (3, .int x3), (4, .int x4), (5, .int x5), (6, .int x6)]) C.1.1 C.1.2.1 dX8_span_61 hl (by decide) rfl (fun ls hl => ?_)
        refine lv_bipush (v := (-4 : Int32)) C.1.1 C.1.2.1 dX8_span_63 rfl ?_
        refine lv_istore (lv' := [(8, .int (-4 : Int32)), (7, .int (4 : Int32)), (0, .ref (gA G 0)), (1, .int x1), (2, .int x2), (3, .int x3), (4, .int x4), (5, .int x5), (6, .int x6)]) C.1.1 C.1.2.1 dX8_span_65 hl (by decide) rfl (fun ls hl => ?_)
        refine lv_iconst (v := (0 : Int32)) C.1.1 C.1.2.1 dX8_span_67 rfl ?_
        refine lv_istore (lv' := [(9, .int (0 : Int32)), (8, .int (-4 : Int32)), (7, .int (4 : Int32)), (0, .ref (gA G 0)), (1, .int x1), (2, .int x2), (3, .int x3), (4, .int x4), (5, .int x5), (6, .int x6)]) C.1.1 C.1.2.1 dX8_span_68 hl (by decide) rfl (fun ls hl => ?_)
        refine lv_iconst (v := (0 : Int32)) C.1.1 C.1.2.1 dX8_span_70 rfl ?_
        refine lv_istore (lv' := [(10, .int (0 : Int32)), (9, .int (0 : Int32)), (8, .int (-4 : Int32)), (7, .int (4 : Int32)), (0, .ref (gA G 0)), (1, .int x1), (2, .int x2), (3, .int x3), (4, .int x4), (5, .int x5), (6, .int x6)]) C.1.1 C.1.2.1 dX8_span_71 hl (by decide) rfl (fun ls hl => ?_)
        exact wL_X8_span_73 C hr hlk hnt hst FU q15.1 M L x1 x2 x3 x4 x5 x6 (4 : Int32) (-4 : Int32) (0 : Int32) (0 : Int32) _ _ _ hw (lv_sub hl [4, 5, 6, 7, 8, 9, 10, 3, 2, 1, 0] rfl) hf
      · have hf := o_f hf c14
        refine lv_iload C.1.1 C.1.2.1 dX8_span_46 (lv_at hl 6 rfl) ?_
        refine lv_iconst (v := (2 : Int32)) C.1.1 C.1.2.1 dX8_span_48 rfl ?_
        refine lv_icmp_ge (tgt := 56) C.1.1 C.1.2.1 dX8_span_49 (by decide) (fun c16 => ?_) (fun c16 => ?_)
        · have hf := o_t hf c16
          refine lv_iconst (v := (0 : Int32)) C.1.1 C.1.2.1 dX8_span_56 rfl ?_
          obtain ⟨q17, h17, hf⟩ := o_bind hf
          refine aftx_v hw (runx_VX C hw clX8_158 (tb2 212 rfl rfl) (As := [.int (0 : Int32)]) (rest := []) oX_0 (c_X8_need hst h17) rfl hl.1 rfl ⟨(Nat.le_of_ble_eq_true rfl), (Nat.le_of_ble_eq_true rfl)⟩ ⟨Nat.le_of_ble_eq_true rfl, Nat.le_of_ble_eq_true rfl⟩ rfl (Nat.le_of_ble_eq_true rfl) dX8_span_57) hf hnt hlk (Nat.le_of_ble_eq_true rfl) (Nat.le_of_ble_eq_true rfl) (fun hf H locs hw => ?_)
          refine lv_iconst (v := (4 : Int32)) C.1.1 C.1.2.1 dX8_span_60 rfl ?_
          refine lv_istore (lv' := [(7, .int (4 : Int32)), (0, .ref (gA G 0)), (1, .int x1), (2, .int x2), (3, .int x3), (4, .int x4), (5, .int x5), (6, .int x6)]) C.1.1 C.1.2.1 dX8_span_61 hl (by decide) rfl (fun ls hl => ?_)
          refine lv_bipush (v := (-4 : Int32)) C.1.1 C.1.2.1 dX8_span_63 rfl ?_
          refine lv_istore (lv' := [(8, .int (-4 : Int32)), (7, .int (4 : Int32)), (0, .ref (gA G 0)), (1, .int x1), (2, .int x2), (3, .int x3), (4, .int x4), (5, .int x5), (6, .int x6)]) C.1.1 C.1.2.1 dX8_span_65 hl (by decide) rfl (fun ls hl => ?_)
          refine lv_iconst (v := (0 : Int32)) C.1.1 C.1.2.1 dX8_span_67 rfl ?_
          refine lv_istore (lv' := [(9, .int (0 : Int32)), (8, .int (-4 : Int32)), (7, .int (4 : Int32)), (0, .ref (gA G 0)), (1, .int x1), (2, .int x2), (3, .int x3), (4, .int x4), (5, .int x5), (6, .int x6)]) C.1.1 C.1.2.1 dX8_span_68 hl (by decide) rfl (fun ls hl => ?_)
          refine lv_iconst (v := (0 : Int32)) C.1.1 C.1.2.1 dX8_span_70 rfl ?_
          refine lv_istore (lv' := [(10, .int (0 : Int32)), (9, .int (0 : Int32)), (8, .int (-4 : Int32)), (7, .int (4 : Int32)), (0, .ref (gA G 0)), (1, .int x1), (2, .int x2), (3, .int x3), (4, .int x4), (5, .int x5), (6, .int x6)]) C.1.1 C.1.2.1 dX8_span_71 hl (by decide) rfl (fun ls hl => ?_)
          exact wL_X8_span_73 C hr hlk hnt hst FU q17.1 M L x1 x2 x3 x4 x5 x6 (4 : Int32) (-4 : Int32) (0 : Int32) (0 : Int32) _ _ _ hw (lv_sub hl [4, 5, 6, 7, 8, 9, 10, 3, 2, 1, 0] rfl) hf
        · have hf := o_f hf c16
          refine lv_iconst (v := (1 : Int32)) C.1.1 C.1.2.1 dX8_span_52 rfl ?_
          refine lv_goto (tgt := 57) C.1.1 C.1.2.1 dX8_span_53 (by decide) ?_
          obtain ⟨q18, h18, hf⟩ := o_bind hf
          refine aftx_v hw (runx_VX C hw clX8_158 (tb2 212 rfl rfl) (As := [.int (1 : Int32)]) (rest := []) oX_0 (c_X8_need hst h18) rfl hl.1 rfl ⟨(Nat.le_of_ble_eq_true rfl), (Nat.le_of_ble_eq_true rfl)⟩ ⟨Nat.le_of_ble_eq_true rfl, Nat.le_of_ble_eq_true rfl⟩ rfl (Nat.le_of_ble_eq_true rfl) dX8_span_57) hf hnt hlk (Nat.le_of_ble_eq_true rfl) (Nat.le_of_ble_eq_true rfl) (fun hf H locs hw => ?_)
          refine lv_iconst (v := (4 : Int32)) C.1.1 C.1.2.1 dX8_span_60 rfl ?_
          refine lv_istore (lv' := [(7, .int (4 : Int32)), (0, .ref (gA G 0)), (1, .int x1), (2, .int x2), (3, .int x3), (4, .int x4), (5, .int x5), (6, .int x6)]) C.1.1 C.1.2.1 dX8_span_61 hl (by decide) rfl (fun ls hl => ?_)
          refine lv_bipush (v := (-4 : Int32)) C.1.1 C.1.2.1 dX8_span_63 rfl ?_
          refine lv_istore (lv' := [(8, .int (-4 : Int32)), (7, .int (4 : Int32)), (0, .ref (gA G 0)), (1, .int x1), (2, .int x2), (3, .int x3), (4, .int x4), (5, .int x5), (6, .int x6)]) C.1.1 C.1.2.1 dX8_span_65 hl (by decide) rfl (fun ls hl => ?_)
          refine lv_iconst (v := (0 : Int32)) C.1.1 C.1.2.1 dX8_span_67 rfl ?_
          refine lv_istore (lv' := [(9, .int (0 : Int32)), (8, .int (-4 : Int32)), (7, .int (4 : Int32)), (0, .ref (gA G 0)), (1, .int x1), (2, .int x2), (3, .int x3), (4, .int x4), (5, .int x5), (6, .int x6)]) C.1.1 C.1.2.1 dX8_span_68 hl (by decide) rfl (fun ls hl => ?_)
          refine lv_iconst (v := (0 : Int32)) C.1.1 C.1.2.1 dX8_span_70 rfl ?_
          refine lv_istore (lv' := [(10, .int (0 : Int32)), (9, .int (0 : Int32)), (8, .int (-4 : Int32)), (7, .int (4 : Int32)), (0, .ref (gA G 0)), (1, .int x1), (2, .int x2), (3, .int x3), (4, .int x4), (5, .int x5), (6, .int x6)]) C.1.1 C.1.2.1 dX8_span_71 hl (by decide) rfl (fun ls hl => ?_)
          exact wL_X8_span_73 C hr hlk hnt hst FU q18.1 M L x1 x2 x3 x4 x5 x6 (4 : Int32) (-4 : Int32) (0 : Int32) (0 : Int32) _ _ _ hw (lv_sub hl [4, 5, 6, 7, 8, 9, 10, 3, 2, 1, 0] rfl) hf
set_option maxRecDepth 20000 in
set_option maxHeartbeats 2000000 in
theorem c_X8_span (hst : l.stackTraces = false)  {X M : TX} {L : TL} {x1 : Int32} {x2 : Int32} {x3 : Int32} {x4 : Int32} {x5 : Int32} {x6 : Int32} {ro : TX × (Int32 ⊕ Nat)} (hf : f_X8_span X x1 x2 x3 x4 x5 x6 = some ro) : CXi G l yX8_span cX8_span 11 (some .int) 8 194 2 [.ref (gA G 0), .int x1, .int x2, .int x3, .int x4, .int x5, .int x6] X M L ro := by
  unfold f_X8_span at hf
  refine cx_of (by decide +kernel) (Nat.le_of_ble_eq_true rfl) (fun p e s m args below meth c H locs ls C hr hlk hnt hw hl => ?_)
  have C : Cx G p s m args c cX8_span 11 RX8 := C
  have hl : lv_has ls 11 [(0, .ref (gA G 0)), (1, .int x1), (2, .int x2), (3, .int x3), (4, .int x4), (5, .int x5), (6, .int x6)] := hl
  refine lv_aload_n C.1.1 C.1.2.1 dX8_span_0 rfl (lv_at hl 0 rfl) ?_
  refine lv_iload_n C.1.1 C.1.2.1 dX8_span_1 rfl (lv_at hl 2 rfl) ?_
  refine lv_iconst (v := (1 : Int32)) C.1.1 C.1.2.1 dX8_span_2 rfl ?_
  refine lv_icmp_lt (tgt := 25) C.1.1 C.1.2.1 dX8_span_3 (by decide) (fun c1 => ?_) (fun c1 => ?_)
  · have hf := o_t hf c1
    refine lv_iconst (v := (0 : Int32)) C.1.1 C.1.2.1 dX8_span_25 rfl ?_
    exact wB_X8_span_26 C hr hlk hnt hst X M L x1 x2 x3 x4 x5 x6 (0 : Int32) _ _ _ hw (lv_sub hl [0, 1, 2, 3, 4, 5, 6] rfl) hf
  · have hf := o_f hf c1
    refine lv_iload_n C.1.1 C.1.2.1 dX8_span_6 rfl (lv_at hl 2 rfl) ?_
    refine lv_bipush (v := (10 : Int32)) C.1.1 C.1.2.1 dX8_span_7 rfl ?_
    refine lv_icmp_gt (tgt := 25) C.1.1 C.1.2.1 dX8_span_9 (by decide) (fun c19 => ?_) (fun c19 => ?_)
    · have hf := o_t hf c19
      refine lv_iconst (v := (0 : Int32)) C.1.1 C.1.2.1 dX8_span_25 rfl ?_
      exact wB_X8_span_26 C hr hlk hnt hst X M L x1 x2 x3 x4 x5 x6 (0 : Int32) _ _ _ hw (lv_sub hl [0, 1, 2, 3, 4, 5, 6] rfl) hf
    · have hf := o_f hf c19
      refine lv_iload_n C.1.1 C.1.2.1 dX8_span_12 rfl (lv_at hl 3 rfl) ?_
      refine lv_iload C.1.1 C.1.2.1 dX8_span_13 (lv_at hl 4 rfl) ?_
      obtain ⟨q20, h20, hf⟩ := o_bind hf
      refine aft_i hw (run_S C hw clX8_340 (As := [.int x3, .int x4]) (rest := [.ref (gA G 0)]) (c_X8_isTime h20) hl.1 rfl ⟨(Nat.le_of_ble_eq_true rfl), (Nat.le_of_ble_eq_true rfl)⟩ ⟨Nat.le_of_ble_eq_true rfl, Nat.le_of_ble_eq_true rfl⟩ rfl (Nat.le_of_ble_eq_true rfl) dX8_span_15) (fun H locs hw => ?_)
      refine lv_if_eq (tgt := 25) C.1.1 C.1.2.1 dX8_span_18 (by decide) (fun c21 => ?_) (fun c21 => ?_)
      · have hf := o_t hf c21
        refine lv_iconst (v := (0 : Int32)) C.1.1 C.1.2.1 dX8_span_25 rfl ?_
        exact wB_X8_span_26 C hr hlk hnt hst X M L x1 x2 x3 x4 x5 x6 (0 : Int32) _ _ _ hw (lv_sub hl [0, 1, 2, 3, 4, 5, 6] rfl) hf
      · have hf := o_f hf c21
        refine lv_iconst (v := (1 : Int32)) C.1.1 C.1.2.1 dX8_span_21 rfl ?_
        refine lv_goto (tgt := 26) C.1.1 C.1.2.1 dX8_span_22 (by decide) ?_
        exact wB_X8_span_26 C hr hlk hnt hst X M L x1 x2 x3 x4 x5 x6 (1 : Int32) _ _ _ hw (lv_sub hl [0, 1, 2, 3, 4, 5, 6] rfl) hf
end
/-! WinnerDraws$Archive.keepImage(LWinnerDraws$County;)V (('o', 'X', 37) ('o', 'X', 3)) -/
def f_X0_keepImage (X : TX) : Option (TX) := (f_X3_save 39 X ((X 37 4) * (578 : Int32))).bind fun q1 => (f_X8_copy 38 39 q1 (0 : Int32) (((X 37 4) * (578 : Int32)) + (34 : Int32)) ((q1 37 3) * (34 : Int32))).bind fun q2 => (f_X8_put 40 q2 (q2 37 4) (q2 37 3)).bind fun q3 => some (u2 q3 37 4 ((q3 37 4) + (1 : Int32)))
section
variable {G : GP} {l : Launch}
set_option maxRecDepth 20000 in
set_option maxHeartbeats 2000000 in
theorem c_X0_keepImage   {X M : TX} {L : TL}  {ro : TX} (hf : f_X0_keepImage X = some ro) : CTv G l yX0_keepImage cX0_keepImage 3 none 3 69 [.ref (gA G 37), .ref (gA G 3)] X M L ro M L := by
  unfold f_X0_keepImage at hf
  refine ct_of (by decide +kernel) (Nat.le_of_ble_eq_true rfl) (fun p e s m args below meth c H locs ls C hr hlk hw hl => ?_)
  have C : Cx G p s m args c cX0_keepImage 3 RX0 := C
  have hl : lv_has ls 3 [(0, .ref (gA G 37)), (1, .ref (gA G 3))] := hl
  refine lv_aload_n C.1.1 C.1.2.1 dX0_keepImage_0 rfl (lv_at hl 0 rfl) ?_
  refine x_get C hw iX_37_4 flX0_25 dX0_keepImage_1 ?_
  refine lv_sipush (v := (578 : Int32)) C.1.1 C.1.2.1 dX0_keepImage_4 rfl ?_
  refine lv_imul C.1.1 C.1.2.1 dX0_keepImage_7 ?_
  refine lv_istore_n (lv' := [(2, .int ((X 37 4) * (578 : Int32))), (0, .ref (gA G 37)), (1, .ref (gA G 3))]) C.1.1 C.1.2.1 dX0_keepImage_8 rfl hl (by decide) rfl (fun ls hl => ?_)
  refine lv_aload_n C.1.1 C.1.2.1 dX0_keepImage_9 rfl (lv_at hl 2 rfl) ?_
  refine lv_aload_n C.1.1 C.1.2.1 dX0_keepImage_10 rfl (lv_at hl 1 rfl) ?_
  refine x_ref C hw fX_37_1 flX0_15 dX0_keepImage_11 ?_
  refine lv_iload_n C.1.1 C.1.2.1 dX0_keepImage_14 rfl (lv_at hl 0 rfl) ?_
  obtain ⟨q1, h1, hf⟩ := o_bind hf
  refine aft_v hw (run_VX C hw clX0_28 (As := [.ref (gA G 39), .int ((X 37 4) * (578 : Int32))]) (rest := []) oX_3 (c_X3_save aX_39 h1) rfl hl.1 rfl ⟨(Nat.le_of_ble_eq_true rfl), (Nat.le_of_ble_eq_true rfl)⟩ ⟨Nat.zero_le _, Nat.zero_le _⟩ rfl (Nat.le_of_ble_eq_true rfl) dX0_keepImage_15) (fun H locs hw => ?_)
  refine lv_aload_n C.1.1 C.1.2.1 dX0_keepImage_18 rfl (lv_at hl 1 rfl) ?_
  refine x_ref C hw fX_37_0 flX0_9 dX0_keepImage_19 ?_
  refine lv_iconst (v := (0 : Int32)) C.1.1 C.1.2.1 dX0_keepImage_22 rfl ?_
  refine lv_aload_n C.1.1 C.1.2.1 dX0_keepImage_23 rfl (lv_at hl 1 rfl) ?_
  refine x_ref C hw fX_37_1 flX0_15 dX0_keepImage_24 ?_
  refine lv_iload_n C.1.1 C.1.2.1 dX0_keepImage_27 rfl (lv_at hl 0 rfl) ?_
  refine lv_bipush (v := (34 : Int32)) C.1.1 C.1.2.1 dX0_keepImage_28 rfl ?_
  refine lv_iadd C.1.1 C.1.2.1 dX0_keepImage_30 ?_
  refine lv_aload_n C.1.1 C.1.2.1 dX0_keepImage_31 rfl (lv_at hl 1 rfl) ?_
  refine x_get C hw iX_37_3 flX0_21 dX0_keepImage_32 ?_
  refine lv_bipush (v := (34 : Int32)) C.1.1 C.1.2.1 dX0_keepImage_35 rfl ?_
  refine lv_imul C.1.1 C.1.2.1 dX0_keepImage_37 ?_
  obtain ⟨q2, h2, hf⟩ := o_bind hf
  refine aft_v hw (run_S C hw clX0_37 (As := [.ref (gA G 38), .int (0 : Int32), .ref (gA G 39), .int (((X 37 4) * (578 : Int32)) + (34 : Int32)), .int ((q1 37 3) * (34 : Int32))]) (rest := []) (c_X8_copy aX_38 aX_39 h2) hl.1 rfl ⟨(Nat.le_of_ble_eq_true rfl), (Nat.le_of_ble_eq_true rfl)⟩ ⟨Nat.zero_le _, Nat.zero_le _⟩ rfl (Nat.le_of_ble_eq_true rfl) dX0_keepImage_38) (fun H locs hw => ?_)
  refine lv_aload_n C.1.1 C.1.2.1 dX0_keepImage_41 rfl (lv_at hl 1 rfl) ?_
  refine x_ref C hw fX_37_2 flX0_18 dX0_keepImage_42 ?_
  refine lv_aload_n C.1.1 C.1.2.1 dX0_keepImage_45 rfl (lv_at hl 1 rfl) ?_
  refine x_get C hw iX_37_4 flX0_25 dX0_keepImage_46 ?_
  refine lv_aload_n C.1.1 C.1.2.1 dX0_keepImage_49 rfl (lv_at hl 1 rfl) ?_
  refine x_get C hw iX_37_3 flX0_21 dX0_keepImage_50 ?_
  obtain ⟨q3, h3, hf⟩ := o_bind hf
  refine aft_v hw (run_S C hw clX0_41 (As := [.ref (gA G 40), .int (q2 37 4), .int (q2 37 3)]) (rest := []) (c_X8_put aX_40 h3) hl.1 rfl ⟨(Nat.le_of_ble_eq_true rfl), (Nat.le_of_ble_eq_true rfl)⟩ ⟨Nat.zero_le _, Nat.zero_le _⟩ rfl (Nat.le_of_ble_eq_true rfl) dX0_keepImage_53) (fun H locs hw => ?_)
  refine lv_aload_n C.1.1 C.1.2.1 dX0_keepImage_56 rfl (lv_at hl 1 rfl) ?_
  refine lv_dup C.1.1 C.1.2.1 dX0_keepImage_57 rfl ?_
  refine x_get C hw iX_37_4 flX0_25 dX0_keepImage_58 ?_
  refine lv_iconst (v := (1 : Int32)) C.1.1 C.1.2.1 dX0_keepImage_61 rfl ?_
  refine lv_iadd C.1.1 C.1.2.1 dX0_keepImage_62 ?_
  refine x_put C hw iX_37_4 flX0_25 dX0_keepImage_63 (fun H locs hw => ?_)
  obtain rfl := Option.some.inj hf
  exact ret_v C hr hlk hw dX0_keepImage_66
end
/-! WinnerDraws.image()I (('o', 'X', 0)) -/
def f_X8_image (X : TX) : Option (TX × Int32) := if (X 37 4) < (3 : Int32) then ((f_X0_keepImage X).bind fun q2 => some (q2, (q2 37 4))) else (some (X, (-1 : Int32)))
section
variable {G : GP} {l : Launch}
set_option maxRecDepth 20000 in
set_option maxHeartbeats 2000000 in
theorem c_X8_image   {X M : TX} {L : TL}  {ro : TX × Int32} (hf : f_X8_image X = some ro) : CTi G l yX8_image cX8_image 1 (some .int) 4 91 [.ref (gA G 0)] X M L ro.1 M L ro.2 := by
  unfold f_X8_image at hf
  refine ct_of (by decide +kernel) (Nat.le_of_ble_eq_true rfl) (fun p e s m args below meth c H locs ls C hr hlk hw hl => ?_)
  have C : Cx G p s m args c cX8_image 1 RX8 := C
  have hl : lv_has ls 1 [(0, .ref (gA G 0))] := hl
  refine lv_aload_n C.1.1 C.1.2.1 dX8_image_0 rfl (lv_at hl 0 rfl) ?_
  refine x_ref C hw fX_0_10 flX8_74 dX8_image_1 ?_
  refine x_get C hw iX_37_4 flX8_360 dX8_image_4 ?_
  refine lv_iconst (v := (3 : Int32)) C.1.1 C.1.2.1 dX8_image_7 rfl ?_
  refine lv_icmp_lt (tgt := 13) C.1.1 C.1.2.1 dX8_image_8 (by decide) (fun c1 => ?_) (fun c1 => ?_)
  · have hf := o_t hf c1
    refine lv_aload_n C.1.1 C.1.2.1 dX8_image_13 rfl (lv_at hl 0 rfl) ?_
    refine x_ref C hw fX_0_10 flX8_74 dX8_image_14 ?_
    refine lv_aload_n C.1.1 C.1.2.1 dX8_image_17 rfl (lv_at hl 0 rfl) ?_
    refine x_ref C hw fX_0_1 flX8_19 dX8_image_18 ?_
    obtain ⟨q2, h2, hf⟩ := o_bind hf
    refine aft_v hw (run_VX C hw clX8_363 (As := [.ref (gA G 3)]) (rest := []) oX_37 (c_X0_keepImage h2) rfl hl.1 rfl ⟨(Nat.le_of_ble_eq_true rfl), (Nat.le_of_ble_eq_true rfl)⟩ ⟨Nat.zero_le _, Nat.zero_le _⟩ rfl (Nat.le_of_ble_eq_true rfl) dX8_image_21) (fun H locs hw => ?_)
    refine lv_aload_n C.1.1 C.1.2.1 dX8_image_24 rfl (lv_at hl 0 rfl) ?_
    refine x_ref C hw fX_0_10 flX8_74 dX8_image_25 ?_
    refine x_get C hw iX_37_4 flX8_360 dX8_image_28 ?_
    obtain rfl := Option.some.inj hf
    exact ret_i C hr hlk hw dX8_image_31
  · have hf := o_f hf c1
    refine lv_iconst (v := (-1 : Int32)) C.1.1 C.1.2.1 dX8_image_11 rfl ?_
    obtain rfl := Option.some.inj hf
    exact ret_i C hr hlk hw dX8_image_12
end
/-! WinnerDraws$Archive.takeImage(LWinnerDraws$County;)V (('o', 'X', 37) ('o', 'X', 3)) -/
def f_X0_takeImage (X : TX) : Option (TX) := (f_X3_load 39 (u2 X 37 4 ((X 37 4) - (1 : Int32))) (((u2 X 37 4 ((X 37 4) - (1 : Int32))) 37 4) * (578 : Int32))).bind fun q1 => (f_X8_at 40 q1 (q1 37 4)).bind fun q2 => (f_X8_copy 39 38 (u2 q1 37 3 q2) ((((u2 X 37 4 ((X 37 4) - (1 : Int32))) 37 4) * (578 : Int32)) + (34 : Int32)) (0 : Int32) (((u2 q1 37 3 q2) 37 3) * (34 : Int32))).bind fun q3 => some q3
section
variable {G : GP} {l : Launch}
set_option maxRecDepth 20000 in
set_option maxHeartbeats 2000000 in
theorem c_X0_takeImage   {X M : TX} {L : TL}  {ro : TX} (hf : f_X0_takeImage X = some ro) : CTv G l yX0_takeImage cX0_takeImage 3 none 3 69 [.ref (gA G 37), .ref (gA G 3)] X M L ro M L := by
  unfold f_X0_takeImage at hf
  refine ct_of (by decide +kernel) (Nat.le_of_ble_eq_true rfl) (fun p e s m args below meth c H locs ls C hr hlk hw hl => ?_)
  have C : Cx G p s m args c cX0_takeImage 3 RX0 := C
  have hl : lv_has ls 3 [(0, .ref (gA G 37)), (1, .ref (gA G 3))] := hl
  refine lv_aload_n C.1.1 C.1.2.1 dX0_takeImage_0 rfl (lv_at hl 0 rfl) ?_
  refine lv_dup C.1.1 C.1.2.1 dX0_takeImage_1 rfl ?_
  refine x_get C hw iX_37_4 flX0_25 dX0_takeImage_2 ?_
  refine lv_iconst (v := (1 : Int32)) C.1.1 C.1.2.1 dX0_takeImage_5 rfl ?_
  refine lv_isub C.1.1 C.1.2.1 dX0_takeImage_6 ?_
  refine x_put C hw iX_37_4 flX0_25 dX0_takeImage_7 (fun H locs hw => ?_)
  refine lv_aload_n C.1.1 C.1.2.1 dX0_takeImage_10 rfl (lv_at hl 0 rfl) ?_
  refine x_get C hw iX_37_4 flX0_25 dX0_takeImage_11 ?_
  refine lv_sipush (v := (578 : Int32)) C.1.1 C.1.2.1 dX0_takeImage_14 rfl ?_
  refine lv_imul C.1.1 C.1.2.1 dX0_takeImage_17 ?_
  refine lv_istore_n (lv' := [(2, .int (((u2 X 37 4 ((X 37 4) - (1 : Int32))) 37 4) * (578 : Int32))), (0, .ref (gA G 37)), (1, .ref (gA G 3))]) C.1.1 C.1.2.1 dX0_takeImage_18 rfl hl (by decide) rfl (fun ls hl => ?_)
  refine lv_aload_n C.1.1 C.1.2.1 dX0_takeImage_19 rfl (lv_at hl 2 rfl) ?_
  refine lv_aload_n C.1.1 C.1.2.1 dX0_takeImage_20 rfl (lv_at hl 1 rfl) ?_
  refine x_ref C hw fX_37_1 flX0_15 dX0_takeImage_21 ?_
  refine lv_iload_n C.1.1 C.1.2.1 dX0_takeImage_24 rfl (lv_at hl 0 rfl) ?_
  obtain ⟨q1, h1, hf⟩ := o_bind hf
  refine aft_v hw (run_VX C hw clX0_34 (As := [.ref (gA G 39), .int (((u2 X 37 4 ((X 37 4) - (1 : Int32))) 37 4) * (578 : Int32))]) (rest := []) oX_3 (c_X3_load aX_39 h1) rfl hl.1 rfl ⟨(Nat.le_of_ble_eq_true rfl), (Nat.le_of_ble_eq_true rfl)⟩ ⟨Nat.zero_le _, Nat.zero_le _⟩ rfl (Nat.le_of_ble_eq_true rfl) dX0_takeImage_25) (fun H locs hw => ?_)
  refine lv_aload_n C.1.1 C.1.2.1 dX0_takeImage_28 rfl (lv_at hl 1 rfl) ?_
  refine lv_aload_n C.1.1 C.1.2.1 dX0_takeImage_29 rfl (lv_at hl 1 rfl) ?_
  refine x_ref C hw fX_37_2 flX0_18 dX0_takeImage_30 ?_
  refine lv_aload_n C.1.1 C.1.2.1 dX0_takeImage_33 rfl (lv_at hl 1 rfl) ?_
  refine x_get C hw iX_37_4 flX0_25 dX0_takeImage_34 ?_
  obtain ⟨q2, h2, hf⟩ := o_bind hf
  refine aft_i hw (run_S C hw clX0_45 (As := [.ref (gA G 40), .int (q1 37 4)]) (rest := [.ref (gA G 37)]) (c_X8_at aX_40 h2) hl.1 rfl ⟨(Nat.le_of_ble_eq_true rfl), (Nat.le_of_ble_eq_true rfl)⟩ ⟨Nat.zero_le _, Nat.zero_le _⟩ rfl (Nat.le_of_ble_eq_true rfl) dX0_takeImage_37) (fun H locs hw => ?_)
  refine x_put C hw iX_37_3 flX0_21 dX0_takeImage_40 (fun H locs hw => ?_)
  refine lv_aload_n C.1.1 C.1.2.1 dX0_takeImage_43 rfl (lv_at hl 1 rfl) ?_
  refine x_ref C hw fX_37_1 flX0_15 dX0_takeImage_44 ?_
  refine lv_iload_n C.1.1 C.1.2.1 dX0_takeImage_47 rfl (lv_at hl 0 rfl) ?_
  refine lv_bipush (v := (34 : Int32)) C.1.1 C.1.2.1 dX0_takeImage_48 rfl ?_
  refine lv_iadd C.1.1 C.1.2.1 dX0_takeImage_50 ?_
  refine lv_aload_n C.1.1 C.1.2.1 dX0_takeImage_51 rfl (lv_at hl 1 rfl) ?_
  refine x_ref C hw fX_37_0 flX0_9 dX0_takeImage_52 ?_
  refine lv_iconst (v := (0 : Int32)) C.1.1 C.1.2.1 dX0_takeImage_55 rfl ?_
  refine lv_aload_n C.1.1 C.1.2.1 dX0_takeImage_56 rfl (lv_at hl 1 rfl) ?_
  refine x_get C hw iX_37_3 flX0_21 dX0_takeImage_57 ?_
  refine lv_bipush (v := (34 : Int32)) C.1.1 C.1.2.1 dX0_takeImage_60 rfl ?_
  refine lv_imul C.1.1 C.1.2.1 dX0_takeImage_62 ?_
  obtain ⟨q3, h3, hf⟩ := o_bind hf
  refine aft_v hw (run_S C hw clX0_37 (As := [.ref (gA G 39), .int ((((u2 X 37 4 ((X 37 4) - (1 : Int32))) 37 4) * (578 : Int32)) + (34 : Int32)), .ref (gA G 38), .int (0 : Int32), .int (((u2 q1 37 3 q2) 37 3) * (34 : Int32))]) (rest := []) (c_X8_copy aX_39 aX_38 h3) hl.1 rfl ⟨(Nat.le_of_ble_eq_true rfl), (Nat.le_of_ble_eq_true rfl)⟩ ⟨Nat.zero_le _, Nat.zero_le _⟩ rfl (Nat.le_of_ble_eq_true rfl) dX0_takeImage_63) (fun H locs hw => ?_)
  obtain rfl := Option.some.inj hf
  exact ret_v C hr hlk hw dX0_takeImage_66
end
