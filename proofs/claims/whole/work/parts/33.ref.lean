/-! WinnerDrawsModel.readSum()V (('o', 'M', 0)) -/
def B_X9_readSum_29 (rec : TX → Option (TX)) (k_4 : TX → Option (TX)) (M : TX) : Option (TX) := (f_X9_here M).bind fun q6 => if q6.2 = (43 : Int32) then ((f_X9_readProduct rec (u2 q6.1 0 4 ((q6.1 0 4) + (1 : Int32)))).bind fun q10 => (f_X9_emit q10 (2 : Int32) (0 : Int32)).bind fun q11 => k_4 q11) else ((f_X9_readProduct rec (u2 q6.1 0 4 ((q6.1 0 4) + (1 : Int32)))).bind fun q8 => (f_X9_emit q8 (3 : Int32) (0 : Int32)).bind fun q9 => k_4 q9)
def L_X9_readSum_4 (rec : TX → Option (TX)) : Nat → TX → Option (TX)
  | 0 => fun _ => none
  | n + 1 => fun M => (f_X9_fine M).bind fun q2 => if q2 = 0 then (some M) else ((f_X9_here M).bind fun q4 => if q4.2 = (43 : Int32) then (B_X9_readSum_29 rec (L_X9_readSum_4 rec n) q4.1) else ((f_X9_here q4.1).bind fun q12 => if q12.2 = (45 : Int32) then (B_X9_readSum_29 rec (L_X9_readSum_4 rec n) q12.1) else (some q12.1)))
def f_X9_readSum : Nat → TX → Option (TX)
  | 0 => fun _ => none
  | d + 1 => fun M => (f_X9_readProduct (f_X9_readSum d) M).bind fun q1 => L_X9_readSum_4 (f_X9_readSum d) FU q1
section
variable {G : GP} {l : Launch}
set_option maxRecDepth 20000 in
set_option maxHeartbeats 2000000 in
theorem wB_X9_readSum_29 {rec : TX → Option (TX)} {d : Nat} (hrec : ∀ {X M : TX} {L : TL} {ro : TX}, rec M = some ro → CTv G l yX9_readSum cX9_readSum 2 none (10 + 10 * d) (266 + 266 * d) [.ref (gA G (41 + 0))] X M L X ro L) {p : Program} {e : Env} {s : State} {m : MethodId} {args : Array Value} {below : List Frame} {meth : Method} {c : Code} (C : Cx G p s m args c cX9_readSum 2 RX9) (hr : meth.sig.returnType = none) (hlk : meth.locks = false) {ro : TX} {k_4 : TX → Option (TX)} (hk_4 : ∀ (X : TX) (M : TX) (L : TL)  (H : Heap) (locs : List Loc) (ls : Array Slot), Wh G s X M L H locs → lv_has ls 2 [(0, .ref (gA G (41 + 0)))] → k_4 M = some ro → W p l e (rz (10 + 10 * (d + 1)) (266 + 266 * (d + 1))) s m args below meth c H locs 0 0 (MQ below (Dv G X ro L) args s 0 0 (AB G)) (F0 m 4 ls [])) : ∀ (X : TX) (M : TX) (L : TL)  (H : Heap) (locs : List Loc) (ls : Array Slot), Wh G s X M L H locs → lv_has ls 2 [(0, .ref (gA G (41 + 0)))] → B_X9_readSum_29 rec k_4 M = some ro → W p l e (rz (10 + 10 * (d + 1)) (266 + 266 * (d + 1))) s m args below meth c H locs 0 0 (MQ below (Dv G X ro L) args s 0 0 (AB G)) (F0 m 29 ls []) := by
  intro X M L H locs ls hw hl hf
  unfold B_X9_readSum_29 at hf
  refine lv_aload_n C.1.1 C.1.2.1 dX9_readSum_29 rfl (lv_at hl 0 rfl) ?_
  obtain ⟨q6, h6, hf⟩ := o_bind hf
  refine aft_i hw (run_VM C hw clX9_117 (As := []) (rest := []) oM_0 (c_X9_here h6) rfl hl.1 rfl ⟨(by show 0 + 1 ≤ 10 + 10 * (d + 1); omega), (by show 8 + (1 + 11) + 0 ≤ 266 + 266 * (d + 1); omega)⟩ ⟨Nat.zero_le _, Nat.zero_le _⟩ rfl (Nat.le_of_ble_eq_true rfl) dX9_readSum_30) (fun H locs hw => ?_)
  refine lv_bipush (v := (43 : Int32)) C.1.1 C.1.2.1 dX9_readSum_33 rfl ?_
  refine lv_icmp_ne (tgt := 42) C.1.1 C.1.2.1 dX9_readSum_35 (by decide) (fun c7 => ?_) (fun c7 => ?_)
  · have hf := o_f hf c7
    refine lv_iconst (v := (3 : Int32)) C.1.1 C.1.2.1 dX9_readSum_42 rfl ?_
    refine lv_istore_n (lv' := [(1, .int (3 : Int32)), (0, .ref (gA G (41 + 0)))]) C.1.1 C.1.2.1 dX9_readSum_43 rfl hl (by decide) rfl (fun ls hl => ?_)
    refine lv_aload_n C.1.1 C.1.2.1 dX9_readSum_44 rfl (lv_at hl 1 rfl) ?_
    refine lv_dup C.1.1 C.1.2.1 dX9_readSum_45 rfl ?_
    refine m_get C hw iM_0_4 flX9_111 dX9_readSum_46 ?_
    refine lv_iconst (v := (1 : Int32)) C.1.1 C.1.2.1 dX9_readSum_49 rfl ?_
    refine lv_iadd C.1.1 C.1.2.1 dX9_readSum_50 ?_
    refine m_put C hw iM_0_4 flX9_111 dX9_readSum_51 (fun H locs hw => ?_)
    refine lv_aload_n C.1.1 C.1.2.1 dX9_readSum_54 rfl (lv_at hl 1 rfl) ?_
    obtain ⟨q8, h8, hf⟩ := o_bind hf
    refine aft_v hw (run_VM C hw clX9_236 (As := []) (rest := []) oM_0 (c_X9_readProduct hrec h8) rfl hl.1 rfl ⟨(by show (13 + 10 * d) + 1 ≤ 10 + 10 * (d + 1); omega), (by show 8 + (2 + 11) + (330 + 266 * d) ≤ 266 + 266 * (d + 1); omega)⟩ ⟨Nat.zero_le _, Nat.zero_le _⟩ rfl (Nat.le_of_ble_eq_true rfl) dX9_readSum_55) (fun H locs hw => ?_)
    refine lv_aload_n C.1.1 C.1.2.1 dX9_readSum_58 rfl (lv_at hl 1 rfl) ?_
    refine lv_iload_n C.1.1 C.1.2.1 dX9_readSum_59 rfl (lv_at hl 0 rfl) ?_
    refine lv_iconst (v := (0 : Int32)) C.1.1 C.1.2.1 dX9_readSum_60 rfl ?_
    obtain ⟨q9, h9, hf⟩ := o_bind hf
    refine aft_v hw (run_VM C hw clX9_239 (As := [.int (3 : Int32), .int (0 : Int32)]) (rest := []) oM_0 (c_X9_emit h9) rfl hl.1 rfl ⟨(by show 1 + 1 ≤ 10 + 10 * (d + 1); omega), (by show 8 + (3 + 11) + 20 ≤ 266 + 266 * (d + 1); omega)⟩ ⟨Nat.zero_le _, Nat.zero_le _⟩ rfl (Nat.le_of_ble_eq_true rfl) dX9_readSum_61) (fun H locs hw => ?_)
    refine lv_goto (tgt := 4) C.1.1 C.1.2.1 dX9_readSum_64 (by decide) ?_
    exact hk_4 X q9 L _ _ _ hw (lv_sub hl [1] rfl) hf
  · have hf := o_t hf c7
    refine lv_iconst (v := (2 : Int32)) C.1.1 C.1.2.1 dX9_readSum_38 rfl ?_
    refine lv_goto (tgt := 43) C.1.1 C.1.2.1 dX9_readSum_39 (by decide) ?_
    refine lv_istore_n (lv' := [(1, .int (2 : Int32)), (0, .ref (gA G (41 + 0)))]) C.1.1 C.1.2.1 dX9_readSum_43 rfl hl (by decide) rfl (fun ls hl => ?_)
    refine lv_aload_n C.1.1 C.1.2.1 dX9_readSum_44 rfl (lv_at hl 1 rfl) ?_
    refine lv_dup C.1.1 C.1.2.1 dX9_readSum_45 rfl ?_
    refine m_get C hw iM_0_4 flX9_111 dX9_readSum_46 ?_
    refine lv_iconst (v := (1 : Int32)) C.1.1 C.1.2.1 dX9_readSum_49 rfl ?_
    refine lv_iadd C.1.1 C.1.2.1 dX9_readSum_50 ?_
    refine m_put C hw iM_0_4 flX9_111 dX9_readSum_51 (fun H locs hw => ?_)
    refine lv_aload_n C.1.1 C.1.2.1 dX9_readSum_54 rfl (lv_at hl 1 rfl) ?_
    obtain ⟨q10, h10, hf⟩ := o_bind hf
    refine aft_v hw (run_VM C hw clX9_236 (As := []) (rest := []) oM_0 (c_X9_readProduct hrec h10) rfl hl.1 rfl ⟨(by show (13 + 10 * d) + 1 ≤ 10 + 10 * (d + 1); omega), (by show 8 + (2 + 11) + (330 + 266 * d) ≤ 266 + 266 * (d + 1); omega)⟩ ⟨Nat.zero_le _, Nat.zero_le _⟩ rfl (Nat.le_of_ble_eq_true rfl) dX9_readSum_55) (fun H locs hw => ?_)
    refine lv_aload_n C.1.1 C.1.2.1 dX9_readSum_58 rfl (lv_at hl 1 rfl) ?_
    refine lv_iload_n C.1.1 C.1.2.1 dX9_readSum_59 rfl (lv_at hl 0 rfl) ?_
    refine lv_iconst (v := (0 : Int32)) C.1.1 C.1.2.1 dX9_readSum_60 rfl ?_
    obtain ⟨q11, h11, hf⟩ := o_bind hf
    refine aft_v hw (run_VM C hw clX9_239 (As := [.int (2 : Int32), .int (0 : Int32)]) (rest := []) oM_0 (c_X9_emit h11) rfl hl.1 rfl ⟨(by show 1 + 1 ≤ 10 + 10 * (d + 1); omega), (by show 8 + (3 + 11) + 20 ≤ 266 + 266 * (d + 1); omega)⟩ ⟨Nat.zero_le _, Nat.zero_le _⟩ rfl (Nat.le_of_ble_eq_true rfl) dX9_readSum_61) (fun H locs hw => ?_)
    refine lv_goto (tgt := 4) C.1.1 C.1.2.1 dX9_readSum_64 (by decide) ?_
    exact hk_4 X q11 L _ _ _ hw (lv_sub hl [1] rfl) hf
set_option maxRecDepth 20000 in
set_option maxHeartbeats 2000000 in
theorem wL_X9_readSum_4 {rec : TX → Option (TX)} {d : Nat} (hrec : ∀ {X M : TX} {L : TL} {ro : TX}, rec M = some ro → CTv G l yX9_readSum cX9_readSum 2 none (10 + 10 * d) (266 + 266 * d) [.ref (gA G (41 + 0))] X M L X ro L) {p : Program} {e : Env} {s : State} {m : MethodId} {args : Array Value} {below : List Frame} {meth : Method} {c : Code} (C : Cx G p s m args c cX9_readSum 2 RX9) (hr : meth.sig.returnType = none) (hlk : meth.locks = false) {ro : TX} : ∀ (n : Nat), ∀ (X : TX) (M : TX) (L : TL)  (H : Heap) (locs : List Loc) (ls : Array Slot), Wh G s X M L H locs → lv_has ls 2 [(0, .ref (gA G (41 + 0)))] → L_X9_readSum_4 rec n M = some ro → W p l e (rz (10 + 10 * (d + 1)) (266 + 266 * (d + 1))) s m args below meth c H locs 0 0 (MQ below (Dv G X ro L) args s 0 0 (AB G)) (F0 m 4 ls []) := by
  intro n
  induction n with
  | zero =>
    intro X M L H locs ls hw hl hf
    cases hf
  | succ n hk_4 =>
    intro X M L H locs ls hw hl hf
    rw [L_X9_readSum_4] at hf
    refine lv_aload_n C.1.1 C.1.2.1 dX9_readSum_4 rfl (lv_at hl 0 rfl) ?_
    obtain ⟨q2, h2, hf⟩ := o_bind hf
    refine aft_i hw (run_VM C hw clX9_134 (As := []) (rest := []) oM_0 (c_X9_fine h2) rfl hl.1 rfl ⟨(by show 0 + 1 ≤ 10 + 10 * (d + 1); omega), (by show 8 + (1 + 11) + 0 ≤ 266 + 266 * (d + 1); omega)⟩ ⟨Nat.zero_le _, Nat.zero_le _⟩ rfl (Nat.le_of_ble_eq_true rfl) dX9_readSum_5) (fun H locs hw => ?_)
    refine lv_if_eq (tgt := 67) C.1.1 C.1.2.1 dX9_readSum_8 (by decide) (fun c3 => ?_) (fun c3 => ?_)
    · have hf := o_t hf c3
      obtain rfl := Option.some.inj hf
      exact ret_v C hr hlk hw dX9_readSum_67
    · have hf := o_f hf c3
      refine lv_aload_n C.1.1 C.1.2.1 dX9_readSum_11 rfl (lv_at hl 0 rfl) ?_
      obtain ⟨q4, h4, hf⟩ := o_bind hf
      refine aft_i hw (run_VM C hw clX9_117 (As := []) (rest := []) oM_0 (c_X9_here h4) rfl hl.1 rfl ⟨(by show 0 + 1 ≤ 10 + 10 * (d + 1); omega), (by show 8 + (1 + 11) + 0 ≤ 266 + 266 * (d + 1); omega)⟩ ⟨Nat.zero_le _, Nat.zero_le _⟩ rfl (Nat.le_of_ble_eq_true rfl) dX9_readSum_12) (fun H locs hw => ?_)
      refine lv_bipush (v := (43 : Int32)) C.1.1 C.1.2.1 dX9_readSum_15 rfl ?_
      refine lv_icmp_eq (tgt := 29) C.1.1 C.1.2.1 dX9_readSum_17 (by decide) (fun c5 => ?_) (fun c5 => ?_)
      · have hf := o_t hf c5
        exact wB_X9_readSum_29 hrec C hr hlk hk_4 X q4.1 L _ _ _ hw (lv_sub hl [0] rfl) hf
      · have hf := o_f hf c5
        refine lv_aload_n C.1.1 C.1.2.1 dX9_readSum_20 rfl (lv_at hl 0 rfl) ?_
        obtain ⟨q12, h12, hf⟩ := o_bind hf
        refine aft_i hw (run_VM C hw clX9_117 (As := []) (rest := []) oM_0 (c_X9_here h12) rfl hl.1 rfl ⟨(by show 0 + 1 ≤ 10 + 10 * (d + 1); omega), (by show 8 + (1 + 11) + 0 ≤ 266 + 266 * (d + 1); omega)⟩ ⟨Nat.zero_le _, Nat.zero_le _⟩ rfl (Nat.le_of_ble_eq_true rfl) dX9_readSum_21) (fun H locs hw => ?_)
        refine lv_bipush (v := (45 : Int32)) C.1.1 C.1.2.1 dX9_readSum_24 rfl ?_
        refine lv_icmp_ne (tgt := 67) C.1.1 C.1.2.1 dX9_readSum_26 (by decide) (fun c13 => ?_) (fun c13 => ?_)
        · have hf := o_f hf c13
          obtain rfl := Option.some.inj hf
          exact ret_v C hr hlk hw dX9_readSum_67
        · have hf := o_t hf c13
          exact wB_X9_readSum_29 hrec C hr hlk hk_4 X q12.1 L _ _ _ hw (lv_sub hl [0] rfl) hf
set_option maxRecDepth 20000 in
set_option maxHeartbeats 2000000 in
theorem c_X9_readSum : ∀ (d : Nat), ∀ {X M : TX} {L : TL} {ro : TX}, f_X9_readSum d M = some ro → CTv G l yX9_readSum cX9_readSum 2 none (10 + 10 * d) (266 + 266 * d) [.ref (gA G (41 + 0))] X M L X ro L := by
  intro d
  induction d with
  | zero =>
    intro X M L ro hf
    cases hf
  | succ d hrec =>
    intro X M L ro hf
    rw [f_X9_readSum] at hf
    refine ct_of (by decide +kernel) (Nat.le_of_ble_eq_true rfl) (fun p e s m args below meth c H locs ls C hr hlk hw hl => ?_)
    have C : Cx G p s m args c cX9_readSum 2 RX9 := C
    have hl : lv_has ls 2 [(0, .ref (gA G (41 + 0)))] := hl
    refine lv_aload_n C.1.1 C.1.2.1 dX9_readSum_0 rfl (lv_at hl 0 rfl) ?_
    obtain ⟨q1, h1, hf⟩ := o_bind hf
    refine aft_v hw (run_VM C hw clX9_236 (As := []) (rest := []) oM_0 (c_X9_readProduct hrec h1) rfl hl.1 rfl ⟨(by show (13 + 10 * d) + 1 ≤ 10 + 10 * (d + 1); omega), (by show 8 + (2 + 11) + (330 + 266 * d) ≤ 266 + 266 * (d + 1); omega)⟩ ⟨Nat.zero_le _, Nat.zero_le _⟩ rfl (Nat.le_of_ble_eq_true rfl) dX9_readSum_1) (fun H locs hw => ?_)
    exact wL_X9_readSum_4 hrec C hr hlk FU X q1 L _ _ _ hw (lv_sub hl [0] rfl) hf
end
/-! WinnerDrawsModel.law(I)I (('o', 'M', 0) ('i',)) -/
def B_X9_law_77 (M : TX) : Option (TX × Int32) := (f_X9_result M (1 : Int32)).bind fun q8 => if (q8.1 0 5) = (-1 : Int32) then ((f_X9_copies 9 11 (u2 q8.1 0 28 (q8.1 0 27)) ((u2 q8.1 0 28 (q8.1 0 27)) 0 27)).bind fun q10 => (f_X9_copies 10 12 q10 (q10 0 27)).bind fun q11 => some (q11, q8.2)) else (some (q8.1, q8.2))
def B_X9_law_30 (M : TX) (x1 : Int32) (t0 : Int32) : Option (TX × Int32) := (f_X9_lets M t0 (1 : Int32) (1 : Int32)).bind fun q2 => if q2.2 = 0 then (some (q2.1, (0 : Int32))) else ((f_X9_begins q2.1 x1).bind fun q4 => (f_X9_readSum 8 (u2 q4 0 27 (0 : Int32))).bind fun q5 => (f_X9_fine q5).bind fun q6 => if q6 = 0 then (B_X9_law_77 q5) else ((f_X9_isMore q5).bind fun q12 => if q12.2 = 0 then (B_X9_law_77 q12.1) else ((f_X9_wrong q12.1 (1 : Int32) (q12.1 0 4)).bind fun q14 => B_X9_law_77 q14)))
def f_X9_law (M : TX) (x1 : Int32) : Option (TX × Int32) := if x1 < 0 then (B_X9_law_30 (u2 M 0 0 (0 : Int32)) x1 (0 : Int32)) else (if ((u2 M 0 0 (0 : Int32)) 0 2) < x1 then (B_X9_law_30 (u2 M 0 0 (0 : Int32)) x1 (0 : Int32)) else (if (150 : Int32) < x1 then (B_X9_law_30 (u2 M 0 0 (0 : Int32)) x1 (0 : Int32)) else (B_X9_law_30 (u2 M 0 0 (0 : Int32)) x1 (1 : Int32))))
section
variable {G : GP} {l : Launch}
set_option maxRecDepth 20000 in
set_option maxHeartbeats 2000000 in
theorem wB_X9_law_77 {p : Program} {e : Env} {s : State} {m : MethodId} {args : Array Value} {below : List Frame} {meth : Method} {c : Code} (C : Cx G p s m args c cX9_law 3 RX9) (hr : meth.sig.returnType = (some .int)) (hlk : meth.locks = false) {ro : TX × Int32} : ∀ (X : TX) (M : TX) (L : TL)  (H : Heap) (locs : List Loc) (ls : Array Slot), Wh G s X M L H locs → lv_has ls 3 [(0, .ref (gA G (41 + 0)))] → B_X9_law_77 M = some ro → W p l e (rz 91 2415) s m args below meth c H locs 0 0 (MQ below (Di G X ro.1 L ro.2) args s 0 0 (AB G)) (F0 m 77 ls []) := by
  intro X M L H locs ls hw hl hf
  unfold B_X9_law_77 at hf
  refine lv_aload_n C.1.1 C.1.2.1 dX9_law_77 rfl (lv_at hl 0 rfl) ?_
  refine lv_iconst (v := (1 : Int32)) C.1.1 C.1.2.1 dX9_law_78 rfl ?_
  obtain ⟨q8, h8, hf⟩ := o_bind hf
  refine aft_i hw (run_VM C hw clX9_229 (As := [.int (1 : Int32)]) (rest := []) oM_0 (c_X9_result h8) rfl hl.1 rfl ⟨(Nat.le_of_ble_eq_true rfl), (Nat.le_of_ble_eq_true rfl)⟩ ⟨Nat.zero_le _, Nat.zero_le _⟩ rfl (Nat.le_of_ble_eq_true rfl) dX9_law_79) (fun H locs hw => ?_)
  refine lv_istore_n (lv' := [(2, .int q8.2), (0, .ref (gA G (41 + 0)))]) C.1.1 C.1.2.1 dX9_law_82 rfl hl (by decide) rfl (fun ls hl => ?_)
  refine lv_aload_n C.1.1 C.1.2.1 dX9_law_83 rfl (lv_at hl 1 rfl) ?_
  refine m_get C hw iM_0_5 flX9_105 dX9_law_84 ?_
  refine lv_iconst (v := (-1 : Int32)) C.1.1 C.1.2.1 dX9_law_87 rfl ?_
  refine lv_icmp_eq (tgt := 93) C.1.1 C.1.2.1 dX9_law_88 (by decide) (fun c9 => ?_) (fun c9 => ?_)
  · have hf := o_t hf c9
    refine lv_aload_n C.1.1 C.1.2.1 dX9_law_93 rfl (lv_at hl 1 rfl) ?_
    refine lv_aload_n C.1.1 C.1.2.1 dX9_law_94 rfl (lv_at hl 1 rfl) ?_
    refine m_get C hw iM_0_27 flX9_233 dX9_law_95 ?_
    refine m_put C hw iM_0_28 flX9_170 dX9_law_98 (fun H locs hw => ?_)
    refine lv_aload_n C.1.1 C.1.2.1 dX9_law_101 rfl (lv_at hl 1 rfl) ?_
    refine lv_aload_n C.1.1 C.1.2.1 dX9_law_102 rfl (lv_at hl 1 rfl) ?_
    refine m_ref C hw fM_0_22 flX9_41 dX9_law_103 ?_
    refine lv_aload_n C.1.1 C.1.2.1 dX9_law_106 rfl (lv_at hl 1 rfl) ?_
    refine m_ref C hw fM_0_24 flX9_47 dX9_law_107 ?_
    refine lv_aload_n C.1.1 C.1.2.1 dX9_law_110 rfl (lv_at hl 1 rfl) ?_
    refine m_get C hw iM_0_27 flX9_233 dX9_law_111 ?_
    obtain ⟨q10, h10, hf⟩ := o_bind hf
    refine aft_v hw (run_VM C hw clX9_166 (As := [.ref (gA G (41 + 9)), .ref (gA G (41 + 11)), .int ((u2 q8.1 0 28 (q8.1 0 27)) 0 27)]) (rest := []) oM_0 (c_X9_copies aM_9 aM_11 h10) rfl hl.1 rfl ⟨(Nat.le_of_ble_eq_true rfl), (Nat.le_of_ble_eq_true rfl)⟩ ⟨Nat.zero_le _, Nat.zero_le _⟩ rfl (Nat.le_of_ble_eq_true rfl) dX9_law_114) (fun H locs hw => ?_)
    refine lv_aload_n C.1.1 C.1.2.1 dX9_law_117 rfl (lv_at hl 1 rfl) ?_
    refine lv_aload_n C.1.1 C.1.2.1 dX9_law_118 rfl (lv_at hl 1 rfl) ?_
    refine m_ref C hw fM_0_23 flX9_44 dX9_law_119 ?_
    refine lv_aload_n C.1.1 C.1.2.1 dX9_law_122 rfl (lv_at hl 1 rfl) ?_
    refine m_ref C hw fM_0_25 flX9_50 dX9_law_123 ?_
    refine lv_aload_n C.1.1 C.1.2.1 dX9_law_126 rfl (lv_at hl 1 rfl) ?_
    refine m_get C hw iM_0_27 flX9_233 dX9_law_127 ?_
    obtain ⟨q11, h11, hf⟩ := o_bind hf
    refine aft_v hw (run_VM C hw clX9_166 (As := [.ref (gA G (41 + 10)), .ref (gA G (41 + 12)), .int (q10 0 27)]) (rest := []) oM_0 (c_X9_copies aM_10 aM_12 h11) rfl hl.1 rfl ⟨(Nat.le_of_ble_eq_true rfl), (Nat.le_of_ble_eq_true rfl)⟩ ⟨Nat.zero_le _, Nat.zero_le _⟩ rfl (Nat.le_of_ble_eq_true rfl) dX9_law_130) (fun H locs hw => ?_)
    refine lv_iload_n C.1.1 C.1.2.1 dX9_law_133 rfl (lv_at hl 0 rfl) ?_
    obtain rfl := Option.some.inj hf
    exact ret_i C hr hlk hw dX9_law_134
  · have hf := o_f hf c9
    refine lv_iload_n C.1.1 C.1.2.1 dX9_law_91 rfl (lv_at hl 0 rfl) ?_
    obtain rfl := Option.some.inj hf
    exact ret_i C hr hlk hw dX9_law_92
set_option maxRecDepth 20000 in
set_option maxHeartbeats 2000000 in
theorem wB_X9_law_30 {p : Program} {e : Env} {s : State} {m : MethodId} {args : Array Value} {below : List Frame} {meth : Method} {c : Code} (C : Cx G p s m args c cX9_law 3 RX9) (hr : meth.sig.returnType = (some .int)) (hlk : meth.locks = false) {ro : TX × Int32} : ∀ (X : TX) (M : TX) (L : TL) (x1 : Int32) (t0 : Int32) (H : Heap) (locs : List Loc) (ls : Array Slot), Wh G s X M L H locs → lv_has ls 3 [(0, .ref (gA G (41 + 0))), (1, .int x1)] → B_X9_law_30 M x1 t0 = some ro → W p l e (rz 91 2415) s m args below meth c H locs 0 0 (MQ below (Di G X ro.1 L ro.2) args s 0 0 (AB G)) (F0 m 30 ls [.int t0, .ref (gA G (41 + 0))]) := by
  intro X M L x1 t0 H locs ls hw hl hf
  unfold B_X9_law_30 at hf
  refine lv_iconst (v := (1 : Int32)) C.1.1 C.1.2.1 dX9_law_30 rfl ?_
  refine lv_iconst (v := (1 : Int32)) C.1.1 C.1.2.1 dX9_law_31 rfl ?_
  obtain ⟨q2, h2, hf⟩ := o_bind hf
  refine aft_i hw (run_VM C hw clX9_200 (As := [.int t0, .int (1 : Int32), .int (1 : Int32)]) (rest := []) oM_0 (c_X9_lets h2) rfl hl.1 rfl ⟨(Nat.le_of_ble_eq_true rfl), (Nat.le_of_ble_eq_true rfl)⟩ ⟨Nat.zero_le _, Nat.zero_le _⟩ rfl (Nat.le_of_ble_eq_true rfl) dX9_law_32) (fun H locs hw => ?_)
  refine lv_if_ne (tgt := 40) C.1.1 C.1.2.1 dX9_law_35 (by decide) (fun c3 => ?_) (fun c3 => ?_)
  · have hf := o_f hf c3
    refine lv_aload_n C.1.1 C.1.2.1 dX9_law_40 rfl (lv_at hl 0 rfl) ?_
    refine lv_iload_n C.1.1 C.1.2.1 dX9_law_41 rfl (lv_at hl 1 rfl) ?_
    obtain ⟨q4, h4, hf⟩ := o_bind hf
    refine aft_v hw (run_VM C hw clX9_204 (As := [.int x1]) (rest := []) oM_0 (c_X9_begins h4) rfl hl.1 rfl ⟨(Nat.le_of_ble_eq_true rfl), (Nat.le_of_ble_eq_true rfl)⟩ ⟨Nat.zero_le _, Nat.zero_le _⟩ rfl (Nat.le_of_ble_eq_true rfl) dX9_law_42) (fun H locs hw => ?_)
    refine lv_aload_n C.1.1 C.1.2.1 dX9_law_45 rfl (lv_at hl 0 rfl) ?_
    refine lv_iconst (v := (0 : Int32)) C.1.1 C.1.2.1 dX9_law_46 rfl ?_
    refine m_put C hw iM_0_27 flX9_233 dX9_law_47 (fun H locs hw => ?_)
    refine lv_aload_n C.1.1 C.1.2.1 dX9_law_50 rfl (lv_at hl 0 rfl) ?_
    obtain ⟨q5, h5, hf⟩ := o_bind hf
    refine aft_v hw (run_VM C hw clX9_248 (As := []) (rest := []) oM_0 (c_X9_readSum 8 h5) rfl hl.1 rfl ⟨(Nat.le_of_ble_eq_true rfl), (Nat.le_of_ble_eq_true rfl)⟩ ⟨Nat.zero_le _, Nat.zero_le _⟩ rfl (Nat.le_of_ble_eq_true rfl) dX9_law_51) (fun H locs hw => ?_)
    refine lv_aload_n C.1.1 C.1.2.1 dX9_law_54 rfl (lv_at hl 0 rfl) ?_
    obtain ⟨q6, h6, hf⟩ := o_bind hf
    refine aft_i hw (run_VM C hw clX9_134 (As := []) (rest := []) oM_0 (c_X9_fine h6) rfl hl.1 rfl ⟨(Nat.le_of_ble_eq_true rfl), (Nat.le_of_ble_eq_true rfl)⟩ ⟨Nat.zero_le _, Nat.zero_le _⟩ rfl (Nat.le_of_ble_eq_true rfl) dX9_law_55) (fun H locs hw => ?_)
    refine lv_if_eq (tgt := 77) C.1.1 C.1.2.1 dX9_law_58 (by decide) (fun c7 => ?_) (fun c7 => ?_)
    · have hf := o_t hf c7
      exact wB_X9_law_77 C hr hlk X q5 L _ _ _ hw (lv_sub hl [0] rfl) hf
    · have hf := o_f hf c7
      refine lv_aload_n C.1.1 C.1.2.1 dX9_law_61 rfl (lv_at hl 0 rfl) ?_
      obtain ⟨q12, h12, hf⟩ := o_bind hf
      refine aft_i hw (run_VM C hw clX9_208 (As := []) (rest := []) oM_0 (c_X9_isMore h12) rfl hl.1 rfl ⟨(Nat.le_of_ble_eq_true rfl), (Nat.le_of_ble_eq_true rfl)⟩ ⟨Nat.zero_le _, Nat.zero_le _⟩ rfl (Nat.le_of_ble_eq_true rfl) dX9_law_62) (fun H locs hw => ?_)
      refine lv_if_eq (tgt := 77) C.1.1 C.1.2.1 dX9_law_65 (by decide) (fun c13 => ?_) (fun c13 => ?_)
      · have hf := o_t hf c13
        exact wB_X9_law_77 C hr hlk X q12.1 L _ _ _ hw (lv_sub hl [0] rfl) hf
      · have hf := o_f hf c13
        refine lv_aload_n C.1.1 C.1.2.1 dX9_law_68 rfl (lv_at hl 0 rfl) ?_
        refine lv_iconst (v := (1 : Int32)) C.1.1 C.1.2.1 dX9_law_69 rfl ?_
        refine lv_aload_n C.1.1 C.1.2.1 dX9_law_70 rfl (lv_at hl 0 rfl) ?_
        refine m_get C hw iM_0_4 flX9_111 dX9_law_71 ?_
        obtain ⟨q14, h14, hf⟩ := o_bind hf
        refine aft_v hw (run_VM C hw clX9_141 (As := [.int (1 : Int32), .int (q12.1 0 4)]) (rest := []) oM_0 (c_X9_wrong h14) rfl hl.1 rfl ⟨(Nat.le_of_ble_eq_true rfl), (Nat.le_of_ble_eq_true rfl)⟩ ⟨Nat.zero_le _, Nat.zero_le _⟩ rfl (Nat.le_of_ble_eq_true rfl) dX9_law_74) (fun H locs hw => ?_)
        exact wB_X9_law_77 C hr hlk X q14 L _ _ _ hw (lv_sub hl [0] rfl) hf
  · have hf := o_t hf c3
    refine lv_iconst (v := (0 : Int32)) C.1.1 C.1.2.1 dX9_law_38 rfl ?_
    obtain rfl := Option.some.inj hf
    exact ret_i C hr hlk hw dX9_law_39
set_option maxRecDepth 20000 in
set_option maxHeartbeats 2000000 in
theorem c_X9_law   {X M : TX} {L : TL} {x1 : Int32} {ro : TX × Int32} (hf : f_X9_law M x1 = some ro) : CTi G l yX9_law cX9_law 3 (some .int) 91 2415 [.ref (gA G (41 + 0)), .int x1] X M L X ro.1 L ro.2 := by
  unfold f_X9_law at hf
  refine ct_of (by decide +kernel) (Nat.le_of_ble_eq_true rfl) (fun p e s m args below meth c H locs ls C hr hlk hw hl => ?_)
  have C : Cx G p s m args c cX9_law 3 RX9 := C
  have hl : lv_has ls 3 [(0, .ref (gA G (41 + 0))), (1, .int x1)] := hl
  refine lv_aload_n C.1.1 C.1.2.1 dX9_law_0 rfl (lv_at hl 0 rfl) ?_
  refine lv_iconst (v := (0 : Int32)) C.1.1 C.1.2.1 dX9_law_1 rfl ?_
  refine m_put C hw iM_0_0 flX9_3 dX9_law_2 (fun H locs hw => ?_)
  refine lv_aload_n C.1.1 C.1.2.1 dX9_law_5 rfl (lv_at hl 0 rfl) ?_
  refine lv_iload_n C.1.1 C.1.2.1 dX9_law_6 rfl (lv_at hl 1 rfl) ?_
  refine lv_if_lt (tgt := 29) C.1.1 C.1.2.1 dX9_law_7 (by decide) (fun c1 => ?_) (fun c1 => ?_)
  · have hf := o_t hf c1
    refine lv_iconst (v := (0 : Int32)) C.1.1 C.1.2.1 dX9_law_29 rfl ?_
    exact wB_X9_law_30 C hr hlk X (u2 M 0 0 (0 : Int32)) L x1 (0 : Int32) _ _ _ hw (lv_sub hl [0, 1] rfl) hf
  · have hf := o_f hf c1
    refine lv_iload_n C.1.1 C.1.2.1 dX9_law_10 rfl (lv_at hl 1 rfl) ?_
    refine lv_aload_n C.1.1 C.1.2.1 dX9_law_11 rfl (lv_at hl 0 rfl) ?_
    refine m_get C hw iM_0_2 flX9_102 dX9_law_12 ?_
    refine lv_icmp_gt (tgt := 29) C.1.1 C.1.2.1 dX9_law_15 (by decide) (fun c15 => ?_) (fun c15 => ?_)
    · have hf := o_t hf c15
      refine lv_iconst (v := (0 : Int32)) C.1.1 C.1.2.1 dX9_law_29 rfl ?_
      exact wB_X9_law_30 C hr hlk X (u2 M 0 0 (0 : Int32)) L x1 (0 : Int32) _ _ _ hw (lv_sub hl [0, 1] rfl) hf
    · have hf := o_f hf c15
      refine lv_iload_n C.1.1 C.1.2.1 dX9_law_18 rfl (lv_at hl 1 rfl) ?_
      refine lv_sipush (v := (150 : Int32)) C.1.1 C.1.2.1 dX9_law_19 rfl ?_
      refine lv_icmp_gt (tgt := 29) C.1.1 C.1.2.1 dX9_law_22 (by decide) (fun c16 => ?_) (fun c16 => ?_)
      · have hf := o_t hf c16
        refine lv_iconst (v := (0 : Int32)) C.1.1 C.1.2.1 dX9_law_29 rfl ?_
        exact wB_X9_law_30 C hr hlk X (u2 M 0 0 (0 : Int32)) L x1 (0 : Int32) _ _ _ hw (lv_sub hl [0, 1] rfl) hf
      · have hf := o_f hf c16
        refine lv_iconst (v := (1 : Int32)) C.1.1 C.1.2.1 dX9_law_25 rfl ?_
        refine lv_goto (tgt := 30) C.1.1 C.1.2.1 dX9_law_26 (by decide) ?_
        exact wB_X9_law_30 C hr hlk X (u2 M 0 0 (0 : Int32)) L x1 (1 : Int32) _ _ _ hw (lv_sub hl [0, 1] rfl) hf
end
/-! WinnerDrawsModel.both(III)I (('i',) ('i',) ('i',)) -/
def f_X9_both (x0 : Int32) (x1 : Int32) (x2 : Int32) : Option (Int32) := if x0 = (2 : Int32) then (some (x1 + x2)) else (if x0 = (3 : Int32) then (some (x1 - x2)) else (if x0 = (4 : Int32) then (some (x1 * x2)) else (if x0 = (5 : Int32) then (if x2 = 0 then (some (0 : Int32)) else (if x0 = (5 : Int32) then (if x2 = 0 then none else (some (x1 / x2))) else (if x2 = 0 then none else (some (x1 - x1 / x2 * x2))))) else (if x0 = (8 : Int32) then (if x2 = 0 then (some (0 : Int32)) else (if x0 = (5 : Int32) then (if x2 = 0 then none else (some (x1 / x2))) else (if x2 = 0 then none else (some (x1 - x1 / x2 * x2))))) else (if x2 ≤ x1 then (if x0 = (6 : Int32) then (some x2) else (some x1)) else (if x0 = (6 : Int32) then (some x1) else (some x2)))))))
section
variable {G : GP} {l : Launch}
set_option maxRecDepth 20000 in
set_option maxHeartbeats 2000000 in
theorem c_X9_both   {X M : TX} {L : TL} {x0 : Int32} {x1 : Int32} {x2 : Int32} {ro : Int32} (hf : f_X9_both x0 x1 x2 = some ro) : CTi G l yX9_both cX9_both 3 (some .int) 0 0 [.int x0, .int x1, .int x2] X M L X M L ro := by
  unfold f_X9_both at hf
  refine ct_of (by decide +kernel) (Nat.le_of_ble_eq_true rfl) (fun p e s m args below meth c H locs ls C hr hlk hw hl => ?_)
  have C : Cx G p s m args c cX9_both 3 RX9 := C
  have hl : lv_has ls 3 [(0, .int x0), (1, .int x1), (2, .int x2)] := hl
  refine lv_iload_n C.1.1 C.1.2.1 dX9_both_0 rfl (lv_at hl 0 rfl) ?_
  refine lv_iconst (v := (2 : Int32)) C.1.1 C.1.2.1 dX9_both_1 rfl ?_
  refine lv_icmp_ne (tgt := 9) C.1.1 C.1.2.1 dX9_both_2 (by decide) (fun c1 => ?_) (fun c1 => ?_)
  · have hf := o_f hf c1
    refine lv_iload_n C.1.1 C.1.2.1 dX9_both_9 rfl (lv_at hl 0 rfl) ?_
    refine lv_iconst (v := (3 : Int32)) C.1.1 C.1.2.1 dX9_both_10 rfl ?_
    refine lv_icmp_ne (tgt := 18) C.1.1 C.1.2.1 dX9_both_11 (by decide) (fun c2 => ?_) (fun c2 => ?_)
    · have hf := o_f hf c2
      refine lv_iload_n C.1.1 C.1.2.1 dX9_both_18 rfl (lv_at hl 0 rfl) ?_
      refine lv_iconst (v := (4 : Int32)) C.1.1 C.1.2.1 dX9_both_19 rfl ?_
      refine lv_icmp_ne (tgt := 27) C.1.1 C.1.2.1 dX9_both_20 (by decide) (fun c3 => ?_) (fun c3 => ?_)
      · have hf := o_f hf c3
        refine lv_iload_n C.1.1 C.1.2.1 dX9_both_27 rfl (lv_at hl 0 rfl) ?_
        refine lv_iconst (v := (5 : Int32)) C.1.1 C.1.2.1 dX9_both_28 rfl ?_
        refine lv_icmp_eq (tgt := 38) C.1.1 C.1.2.1 dX9_both_29 (by decide) (fun c4 => ?_) (fun c4 => ?_)
        · have hf := o_t hf c4
          refine lv_iload_n C.1.1 C.1.2.1 dX9_both_38 rfl (lv_at hl 2 rfl) ?_
          refine lv_if_ne (tgt := 46) C.1.1 C.1.2.1 dX9_both_39 (by decide) (fun c5 => ?_) (fun c5 => ?_)
          · have hf := o_f hf c5
            refine lv_iload_n C.1.1 C.1.2.1 dX9_both_46 rfl (lv_at hl 0 rfl) ?_
            refine lv_iconst (v := (5 : Int32)) C.1.1 C.1.2.1 dX9_both_47 rfl ?_
            refine lv_icmp_ne (tgt := 57) C.1.1 C.1.2.1 dX9_both_48 (by decide) (fun c6 => ?_) (fun c6 => ?_)
            · have hf := o_f hf c6
              refine lv_iload_n C.1.1 C.1.2.1 dX9_both_57 rfl (lv_at hl 1 rfl) ?_
              refine lv_iload_n C.1.1 C.1.2.1 dX9_both_58 rfl (lv_at hl 2 rfl) ?_
              have g7 := o_n1 hf
              have hf := o_n2 hf
              refine lv_irem C.1.1 C.1.2.1 dX9_both_59 g7 ?_
              obtain rfl := Option.some.inj hf
              exact ret_i C hr hlk hw dX9_both_60
            · have hf := o_t hf c6
              refine lv_iload_n C.1.1 C.1.2.1 dX9_both_51 rfl (lv_at hl 1 rfl) ?_
              refine lv_iload_n C.1.1 C.1.2.1 dX9_both_52 rfl (lv_at hl 2 rfl) ?_
              have g8 := o_n1 hf
              have hf := o_n2 hf
              refine lv_idiv C.1.1 C.1.2.1 dX9_both_53 g8 ?_
              refine lv_goto (tgt := 60) C.1.1 C.1.2.1 dX9_both_54 (by decide) ?_
              obtain rfl := Option.some.inj hf
              exact ret_i C hr hlk hw dX9_both_60
          · have hf := o_t hf c5
            refine lv_iconst (v := (0 : Int32)) C.1.1 C.1.2.1 dX9_both_42 rfl ?_
            refine lv_goto (tgt := 60) C.1.1 C.1.2.1 dX9_both_43 (by decide) ?_
            obtain rfl := Option.some.inj hf
            exact ret_i C hr hlk hw dX9_both_60
        · have hf := o_f hf c4
          refine lv_iload_n C.1.1 C.1.2.1 dX9_both_32 rfl (lv_at hl 0 rfl) ?_
          refine lv_bipush (v := (8 : Int32)) C.1.1 C.1.2.1 dX9_both_33 rfl ?_
          refine lv_icmp_ne (tgt := 61) C.1.1 C.1.2.1 dX9_both_35 (by decide) (fun c9 => ?_) (fun c9 => ?_)
          · have hf := o_f hf c9
            refine lv_iload_n C.1.1 C.1.2.1 dX9_both_61 rfl (lv_at hl 1 rfl) ?_
            refine lv_iload_n C.1.1 C.1.2.1 dX9_both_62 rfl (lv_at hl 2 rfl) ?_
            refine lv_icmp_ge (tgt := 70) C.1.1 C.1.2.1 dX9_both_63 (by decide) (fun c10 => ?_) (fun c10 => ?_)
            · have hf := o_t hf c10
              refine lv_iconst (v := (0 : Int32)) C.1.1 C.1.2.1 dX9_both_70 rfl ?_
              refine lv_iload_n C.1.1 C.1.2.1 dX9_both_71 rfl (lv_at hl 0 rfl) ?_
              refine lv_bipush (v := (6 : Int32)) C.1.1 C.1.2.1 dX9_both_72 rfl ?_
              refine lv_icmp_ne (tgt := 81) C.1.1 C.1.2.1 dX9_both_74 (by decide) (fun c11 => ?_) (fun c11 => ?_)
              · have hf := o_f hf c11
                refine lv_iconst (v := (0 : Int32)) C.1.1 C.1.2.1 dX9_both_81 rfl ?_
                refine lv_icmp_ne (tgt := 89) C.1.1 C.1.2.1 dX9_both_82 (by decide) (fun z => absurd (by decide) z) (fun _ => ?_)
                refine lv_iload_n C.1.1 C.1.2.1 dX9_both_85 rfl (lv_at hl 1 rfl) ?_
                refine lv_goto (tgt := 90) C.1.1 C.1.2.1 dX9_both_86 (by decide) ?_
                obtain rfl := Option.some.inj hf
                exact ret_i C hr hlk hw dX9_both_90
              · have hf := o_t hf c11
                refine lv_iconst (v := (1 : Int32)) C.1.1 C.1.2.1 dX9_both_77 rfl ?_
                refine lv_goto (tgt := 82) C.1.1 C.1.2.1 dX9_both_78 (by decide) ?_
                refine lv_icmp_ne (tgt := 89) C.1.1 C.1.2.1 dX9_both_82 (by decide) (fun _ => ?_) (fun z => absurd z (by decide))
                refine lv_iload_n C.1.1 C.1.2.1 dX9_both_89 rfl (lv_at hl 2 rfl) ?_
                obtain rfl := Option.some.inj hf
                exact ret_i C hr hlk hw dX9_both_90
            · have hf := o_f hf c10
              refine lv_iconst (v := (1 : Int32)) C.1.1 C.1.2.1 dX9_both_66 rfl ?_
              refine lv_goto (tgt := 71) C.1.1 C.1.2.1 dX9_both_67 (by decide) ?_
              refine lv_iload_n C.1.1 C.1.2.1 dX9_both_71 rfl (lv_at hl 0 rfl) ?_
              refine lv_bipush (v := (6 : Int32)) C.1.1 C.1.2.1 dX9_both_72 rfl ?_
              refine lv_icmp_ne (tgt := 81) C.1.1 C.1.2.1 dX9_both_74 (by decide) (fun c12 => ?_) (fun c12 => ?_)
              · have hf := o_f hf c12
                refine lv_iconst (v := (0 : Int32)) C.1.1 C.1.2.1 dX9_both_81 rfl ?_
                refine lv_icmp_ne (tgt := 89) C.1.1 C.1.2.1 dX9_both_82 (by decide) (fun _ => ?_) (fun z => absurd z (by decide))
                refine lv_iload_n C.1.1 C.1.2.1 dX9_both_89 rfl (lv_at hl 2 rfl) ?_
                obtain rfl := Option.some.inj hf
                exact ret_i C hr hlk hw dX9_both_90
              · have hf := o_t hf c12
                refine lv_iconst (v := (1 : Int32)) C.1.1 C.1.2.1 dX9_both_77 rfl ?_
                refine lv_goto (tgt := 82) C.1.1 C.1.2.1 dX9_both_78 (by decide) ?_
                refine lv_icmp_ne (tgt := 89) C.1.1 C.1.2.1 dX9_both_82 (by decide) (fun z => absurd (by decide) z) (fun _ => ?_)
                refine lv_iload_n C.1.1 C.1.2.1 dX9_both_85 rfl (lv_at hl 1 rfl) ?_
                refine lv_goto (tgt := 90) C.1.1 C.1.2.1 dX9_both_86 (by decide) ?_
                obtain rfl := Option.some.inj hf
                exact ret_i C hr hlk hw dX9_both_90
          · have hf := o_t hf c9
            refine lv_iload_n C.1.1 C.1.2.1 dX9_both_38 rfl (lv_at hl 2 rfl) ?_
            refine lv_if_ne (tgt := 46) C.1.1 C.1.2.1 dX9_both_39 (by decide) (fun c13 => ?_) (fun c13 => ?_)
            · have hf := o_f hf c13
              refine lv_iload_n C.1.1 C.1.2.1 dX9_both_46 rfl (lv_at hl 0 rfl) ?_
              refine lv_iconst (v := (5 : Int32)) C.1.1 C.1.2.1 dX9_both_47 rfl ?_
              refine lv_icmp_ne (tgt := 57) C.1.1 C.1.2.1 dX9_both_48 (by decide) (fun c14 => ?_) (fun c14 => ?_)
              · have hf := o_f hf c14
                refine lv_iload_n C.1.1 C.1.2.1 dX9_both_57 rfl (lv_at hl 1 rfl) ?_
                refine lv_iload_n C.1.1 C.1.2.1 dX9_both_58 rfl (lv_at hl 2 rfl) ?_
                have g15 := o_n1 hf
                have hf := o_n2 hf
                refine lv_irem C.1.1 C.1.2.1 dX9_both_59 g15 ?_
                obtain rfl := Option.some.inj hf
                exact ret_i C hr hlk hw dX9_both_60
              · have hf := o_t hf c14
                refine lv_iload_n C.1.1 C.1.2.1 dX9_both_51 rfl (lv_at hl 1 rfl) ?_
                refine lv_iload_n C.1.1 C.1.2.1 dX9_both_52 rfl (lv_at hl 2 rfl) ?_
                have g16 := o_n1 hf
                have hf := o_n2 hf
                refine lv_idiv C.1.1 C.1.2.1 dX9_both_53 g16 ?_
                refine lv_goto (tgt := 60) C.1.1 C.1.2.1 dX9_both_54 (by decide) ?_
                obtain rfl := Option.some.inj hf
                exact ret_i C hr hlk hw dX9_both_60
            · have hf := o_t hf c13
              refine lv_iconst (v := (0 : Int32)) C.1.1 C.1.2.1 dX9_both_42 rfl ?_
              refine lv_goto (tgt := 60) C.1.1 C.1.2.1 dX9_both_43 (by decide) ?_
              obtain rfl := Option.some.inj hf
              exact ret_i C hr hlk hw dX9_both_60
      · have hf := o_t hf c3
        refine lv_iload_n C.1.1 C.1.2.1 dX9_both_23 rfl (lv_at hl 1 rfl) ?_
        refine lv_iload_n C.1.1 C.1.2.1 dX9_both_24 rfl (lv_at hl 2 rfl) ?_
        refine lv_imul C.1.1 C.1.2.1 dX9_both_25 ?_
        obtain rfl := Option.some.inj hf
        exact ret_i C hr hlk hw dX9_both_26
    · have hf := o_t hf c2
      refine lv_iload_n C.1.1 C.1.2.1 dX9_both_14 rfl (lv_at hl 1 rfl) ?_
      refine lv_iload_n C.1.1 C.1.2.1 dX9_both_15 rfl (lv_at hl 2 rfl) ?_
      refine lv_isub C.1.1 C.1.2.1 dX9_both_16 ?_
      obtain rfl := Option.some.inj hf
      exact ret_i C hr hlk hw dX9_both_17
  · have hf := o_t hf c1
    refine lv_iload_n C.1.1 C.1.2.1 dX9_both_5 rfl (lv_at hl 1 rfl) ?_
    refine lv_iload_n C.1.1 C.1.2.1 dX9_both_6 rfl (lv_at hl 2 rfl) ?_
    refine lv_iadd C.1.1 C.1.2.1 dX9_both_7 ?_
    obtain rfl := Option.some.inj hf
    exact ret_i C hr hlk hw dX9_both_8
end
/-! WinnerDrawsModel.valueNow()I (('o', 'M', 0)) -/
def L_X9_valueNow_4 : Nat → TX → Int32 → Int32 → Option (TX × Int32)
  | 0 => fun _ _ _ => none
  | n + 1 => fun M x1 x2 => if (M 0 28) ≤ x2 then (if inb (0 : Int32) 150 = true then (some (M, (M 13 (Int32.toNatClampNeg (0 : Int32))))) else none) else (if inb x2 150 = true then (if (1 : Int32) < (M 11 (Int32.toNatClampNeg x2)) then (if inb ((x1 + (-1 : Int32)) - (1 : Int32)) 150 = true then (if inb (x1 + (-1 : Int32)) 150 = true then ((f_X9_both (M 11 (Int32.toNatClampNeg x2)) (M 13 (Int32.toNatClampNeg ((x1 + (-1 : Int32)) - (1 : Int32)))) (M 13 (Int32.toNatClampNeg (x1 + (-1 : Int32))))).bind fun q7 => if inb ((x1 + (-1 : Int32)) - (1 : Int32)) 150 = true then ((L_X9_valueNow_4 n) (u2 M 13 (Int32.toNatClampNeg ((x1 + (-1 : Int32)) - (1 : Int32))) q7) (x1 + (-1 : Int32)) (x2 + (1 : Int32))) else none) else none) else none) else (if (M 11 (Int32.toNatClampNeg x2)) = 0 then (if inb x2 150 = true then (if inb x1 150 = true then ((L_X9_valueNow_4 n) (u2 M 13 (Int32.toNatClampNeg x1) (M 12 (Int32.toNatClampNeg x2))) (x1 + (1 : Int32)) (x2 + (1 : Int32))) else none) else none) else (if inb x2 150 = true then (if inb (M 12 (Int32.toNatClampNeg x2)) 8 = true then (if inb x1 150 = true then ((L_X9_valueNow_4 n) (u2 M 13 (Int32.toNatClampNeg x1) (M 14 (Int32.toNatClampNeg (M 12 (Int32.toNatClampNeg x2))))) (x1 + (1 : Int32)) (x2 + (1 : Int32))) else none) else none) else none))) else none)
def f_X9_valueNow (M : TX) : Option (TX × Int32) := L_X9_valueNow_4 FU M (0 : Int32) (0 : Int32)
section
variable {G : GP} {l : Launch}
set_option maxRecDepth 20000 in
set_option maxHeartbeats 2000000 in
theorem wL_X9_valueNow_4 {p : Program} {e : Env} {s : State} {m : MethodId} {args : Array Value} {below : List Frame} {meth : Method} {c : Code} (C : Cx G p s m args c cX9_valueNow 4 RX9) (hr : meth.sig.returnType = (some .int)) (hlk : meth.locks = false) {ro : TX × Int32} : ∀ (n : Nat), ∀ (X : TX) (M : TX) (L : TL) (x1 : Int32) (x2 : Int32) (H : Heap) (locs : List Loc) (ls : Array Slot), Wh G s X M L H locs → lv_has ls 4 [(0, .ref (gA G (41 + 0))), (1, .int x1), (2, .int x2)] → L_X9_valueNow_4 n M x1 x2 = some ro → W p l e (rz 1 22) s m args below meth c H locs 0 0 (MQ below (Di G X ro.1 L ro.2) args s 0 0 (AB G)) (F0 m 4 ls []) := by
  intro n
  induction n with
  | zero =>
    intro X M L x1 x2 H locs ls hw hl hf
    cases hf
  | succ n hk_4 =>
    intro X M L x1 x2 H locs ls hw hl hf
    rw [L_X9_valueNow_4] at hf
    refine lv_iload_n C.1.1 C.1.2.1 dX9_valueNow_4 rfl (lv_at hl 2 rfl) ?_
    refine lv_aload_n C.1.1 C.1.2.1 dX9_valueNow_5 rfl (lv_at hl 0 rfl) ?_
    refine m_get C hw iM_0_28 flX9_170 dX9_valueNow_6 ?_
    refine lv_icmp_ge (tgt := 95) C.1.1 C.1.2.1 dX9_valueNow_9 (by decide) (fun c1 => ?_) (fun c1 => ?_)
    · have hf := o_t hf c1
      refine lv_aload_n C.1.1 C.1.2.1 dX9_valueNow_95 rfl (lv_at hl 0 rfl) ?_
      refine m_ref C hw fM_0_26 flX9_53 dX9_valueNow_96 ?_
      refine lv_iconst (v := (0 : Int32)) C.1.1 C.1.2.1 dX9_valueNow_99 rfl ?_
      have g2 := inb_in (o_g hf).1
      have hf := (o_g hf).2
      refine m_ald C hw aM_13 g2 dX9_valueNow_100 ?_
      obtain rfl := Option.some.inj hf
      exact ret_i C hr hlk hw dX9_valueNow_101
    · have hf := o_f hf c1
      refine lv_aload_n C.1.1 C.1.2.1 dX9_valueNow_12 rfl (lv_at hl 0 rfl) ?_
      refine m_ref C hw fM_0_24 flX9_47 dX9_valueNow_13 ?_
      refine lv_iload_n C.1.1 C.1.2.1 dX9_valueNow_16 rfl (lv_at hl 2 rfl) ?_
      have g3 := inb_in (o_g hf).1
      have hf := (o_g hf).2
      refine m_ald C hw aM_11 g3 dX9_valueNow_17 ?_
      refine lv_istore_n (lv' := [(3, .int (M 11 (Int32.toNatClampNeg x2))), (0, .ref (gA G (41 + 0))), (1, .int x1), (2, .int x2)]) C.1.1 C.1.2.1 dX9_valueNow_18 rfl hl (by decide) rfl (fun ls hl => ?_)
      refine lv_iload_n C.1.1 C.1.2.1 dX9_valueNow_19 rfl (lv_at hl 0 rfl) ?_
      refine lv_iconst (v := (1 : Int32)) C.1.1 C.1.2.1 dX9_valueNow_20 rfl ?_
      refine lv_icmp_gt (tgt := 60) C.1.1 C.1.2.1 dX9_valueNow_21 (by decide) (fun c4 => ?_) (fun c4 => ?_)
      · have hf := o_t hf c4
        refine lv_iinc (v := (x1 + (-1 : Int32))) (lv' := [(1, .int (x1 + (-1 : Int32))), (3, .int (M 11 (Int32.toNatClampNeg x2))), (0, .ref (gA G (41 + 0))), (2, .int x2)]) C.1.1 C.1.2.1 dX9_valueNow_60 hl (k := 2) rfl rfl (by decide) rfl (fun ls hl => ?_)
        refine lv_aload_n C.1.1 C.1.2.1 dX9_valueNow_63 rfl (lv_at hl 2 rfl) ?_
        refine m_ref C hw fM_0_26 flX9_53 dX9_valueNow_64 ?_
        refine lv_iload_n C.1.1 C.1.2.1 dX9_valueNow_67 rfl (lv_at hl 0 rfl) ?_
        refine lv_iconst (v := (1 : Int32)) C.1.1 C.1.2.1 dX9_valueNow_68 rfl ?_
        refine lv_isub C.1.1 C.1.2.1 dX9_valueNow_69 ?_
        refine lv_iload_n C.1.1 C.1.2.1 dX9_valueNow_70 rfl (lv_at hl 1 rfl) ?_
        refine lv_aload_n C.1.1 C.1.2.1 dX9_valueNow_71 rfl (lv_at hl 2 rfl) ?_
        refine m_ref C hw fM_0_26 flX9_53 dX9_valueNow_72 ?_
        refine lv_iload_n C.1.1 C.1.2.1 dX9_valueNow_75 rfl (lv_at hl 0 rfl) ?_
        refine lv_iconst (v := (1 : Int32)) C.1.1 C.1.2.1 dX9_valueNow_76 rfl ?_
        refine lv_isub C.1.1 C.1.2.1 dX9_valueNow_77 ?_
        have g5 := inb_in (o_g hf).1
        have hf := (o_g hf).2
        refine m_ald C hw aM_13 g5 dX9_valueNow_78 ?_
        refine lv_aload_n C.1.1 C.1.2.1 dX9_valueNow_79 rfl (lv_at hl 2 rfl) ?_
        refine m_ref C hw fM_0_26 flX9_53 dX9_valueNow_80 ?_
        refine lv_iload_n C.1.1 C.1.2.1 dX9_valueNow_83 rfl (lv_at hl 0 rfl) ?_
        have g6 := inb_in (o_g hf).1
        have hf := (o_g hf).2
        refine m_ald C hw aM_13 g6 dX9_valueNow_84 ?_
        obtain ⟨q7, h7, hf⟩ := o_bind hf
        refine aft_i hw (run_S C hw clX9_274 (As := [.int (M 11 (Int32.toNatClampNeg x2)), .int (M 13 (Int32.toNatClampNeg ((x1 + (-1 : Int32)) - (1 : Int32)))), .int (M 13 (Int32.toNatClampNeg (x1 + (-1 : Int32))))]) (rest := [.int ((x1 + (-1 : Int32)) - (1 : Int32)), .ref (gA G (41 + 13))]) (c_X9_both h7) hl.1 rfl ⟨(Nat.le_of_ble_eq_true rfl), (Nat.le_of_ble_eq_true rfl)⟩ ⟨Nat.zero_le _, Nat.zero_le _⟩ rfl (Nat.le_of_ble_eq_true rfl) dX9_valueNow_85) (fun H locs hw => ?_)
        have g8 := inb_in (o_g hf).1
        have hf := (o_g hf).2
        refine m_ast C hw aM_13 g8 dX9_valueNow_88 (fun H locs hw => ?_)
        refine lv_iinc (v := (x2 + (1 : Int32))) (lv' := [(2, .int (x2 + (1 : Int32))), (1, .int (x1 + (-1 : Int32))), (3, .int (M 11 (Int32.toNatClampNeg x2))), (0, .ref (gA G (41 + 0)))]) C.1.1 C.1.2.1 dX9_valueNow_89 hl (k := 3) rfl rfl (by decide) rfl (fun ls hl => ?_)
        refine lv_goto (tgt := 4) C.1.1 C.1.2.1 dX9_valueNow_92 (by decide) ?_
        exact hk_4 X (u2 M 13 (Int32.toNatClampNeg ((x1 + (-1 : Int32)) - (1 : Int32))) q7) L (x1 + (-1 : Int32)) (x2 + (1 : Int32)) _ _ _ hw (lv_sub hl [3, 1, 0] rfl) hf
      · have hf := o_f hf c4
        refine lv_aload_n C.1.1 C.1.2.1 dX9_valueNow_24 rfl (lv_at hl 1 rfl) ?_
        refine m_ref C hw fM_0_26 flX9_53 dX9_valueNow_25 ?_
        refine lv_iload_n C.1.1 C.1.2.1 dX9_valueNow_28 rfl (lv_at hl 2 rfl) ?_
        refine lv_iload_n C.1.1 C.1.2.1 dX9_valueNow_29 rfl (lv_at hl 0 rfl) ?_
        refine lv_if_ne (tgt := 42) C.1.1 C.1.2.1 dX9_valueNow_30 (by decide) (fun c9 => ?_) (fun c9 => ?_)
        · have hf := o_f hf c9
          refine lv_aload_n C.1.1 C.1.2.1 dX9_valueNow_42 rfl (lv_at hl 1 rfl) ?_
          refine m_ref C hw fM_0_29 flX9_56 dX9_valueNow_43 ?_
          refine lv_aload_n C.1.1 C.1.2.1 dX9_valueNow_46 rfl (lv_at hl 1 rfl) ?_
          refine m_ref C hw fM_0_25 flX9_50 dX9_valueNow_47 ?_
          refine lv_iload_n C.1.1 C.1.2.1 dX9_valueNow_50 rfl (lv_at hl 3 rfl) ?_
          have g10 := inb_in (o_g hf).1
          have hf := (o_g hf).2
          refine m_ald C hw aM_12 g10 dX9_valueNow_51 ?_
          have g11 := inb_in (o_g hf).1
          have hf := (o_g hf).2
          refine m_ald C hw aM_14 g11 dX9_valueNow_52 ?_
          have g12 := inb_in (o_g hf).1
          have hf := (o_g hf).2
          refine m_ast C hw aM_13 g12 dX9_valueNow_53 (fun H locs hw => ?_)
          refine lv_iinc (v := (x1 + (1 : Int32))) (lv' := [(1, .int (x1 + (1 : Int32))), (3, .int (M 11 (Int32.toNatClampNeg x2))), (0, .ref (gA G (41 + 0))), (2, .int x2)]) C.1.1 C.1.2.1 dX9_valueNow_54 hl (k := 2) rfl rfl (by decide) rfl (fun ls hl => ?_)
          refine lv_goto (tgt := 89) C.1.1 C.1.2.1 dX9_valueNow_57 (by decide) ?_
          refine lv_iinc (v := (x2 + (1 : Int32))) (lv' := [(2, .int (x2 + (1 : Int32))), (1, .int (x1 + (1 : Int32))), (3, .int (M 11 (Int32.toNatClampNeg x2))), (0, .ref (gA G (41 + 0)))]) C.1.1 C.1.2.1 dX9_valueNow_89 hl (k := 3) rfl rfl (by decide) rfl (fun ls hl => ?_)
          refine lv_goto (tgt := 4) C.1.1 C.1.2.1 dX9_valueNow_92 (by decide) ?_
          exact hk_4 X (u2 M 13 (Int32.toNatClampNeg x1) (M 14 (Int32.toNatClampNeg (M 12 (Int32.toNatClampNeg x2))))) L (x1 + (1 : Int32)) (x2 + (1 : Int32)) _ _ _ hw (lv_sub hl [3, 1, 0] rfl) hf
        · have hf := o_t hf c9
          refine lv_aload_n C.1.1 C.1.2.1 dX9_valueNow_33 rfl (lv_at hl 1 rfl) ?_
          refine m_ref C hw fM_0_25 flX9_50 dX9_valueNow_34 ?_
          refine lv_iload_n C.1.1 C.1.2.1 dX9_valueNow_37 rfl (lv_at hl 3 rfl) ?_
          have g13 := inb_in (o_g hf).1
          have hf := (o_g hf).2
          refine m_ald C hw aM_12 g13 dX9_valueNow_38 ?_
          refine lv_goto (tgt := 53) C.1.1 C.1.2.1 dX9_valueNow_39 (by decide) ?_
          have g14 := inb_in (o_g hf).1
          have hf := (o_g hf).2
          refine m_ast C hw aM_13 g14 dX9_valueNow_53 (fun H locs hw => ?_)
          refine lv_iinc (v := (x1 + (1 : Int32))) (lv' := [(1, .int (x1 + (1 : Int32))), (3, .int (M 11 (Int32.toNatClampNeg x2))), (0, .ref (gA G (41 + 0))), (2, .int x2)]) C.1.1 C.1.2.1 dX9_valueNow_54 hl (k := 2) rfl rfl (by decide) rfl (fun ls hl => ?_)
          refine lv_goto (tgt := 89) C.1.1 C.1.2.1 dX9_valueNow_57 (by decide) ?_
          refine lv_iinc (v := (x2 + (1 : Int32))) (lv' := [(2, .int (x2 + (1 : Int32))), (1, .int (x1 + (1 : Int32))), (3, .int (M 11 (Int32.toNatClampNeg x2))), (0, .ref (gA G (41 + 0)))]) C.1.1 C.1.2.1 dX9_valueNow_89 hl (k := 3) rfl rfl (by decide) rfl (fun ls hl => ?_)
          refine lv_goto (tgt := 4) C.1.1 C.1.2.1 dX9_valueNow_92 (by decide) ?_
          exact hk_4 X (u2 M 13 (Int32.toNatClampNeg x1) (M 12 (Int32.toNatClampNeg x2))) L (x1 + (1 : Int32)) (x2 + (1 : Int32)) _ _ _ hw (lv_sub hl [3, 1, 0] rfl) hf
set_option maxRecDepth 20000 in
set_option maxHeartbeats 2000000 in
theorem c_X9_valueNow   {X M : TX} {L : TL}  {ro : TX × Int32} (hf : f_X9_valueNow M = some ro) : CTi G l yX9_valueNow cX9_valueNow 4 (some .int) 1 22 [.ref (gA G (41 + 0))] X M L X ro.1 L ro.2 := by
  unfold f_X9_valueNow at hf
  refine ct_of (by decide +kernel) (Nat.le_of_ble_eq_true rfl) (fun p e s m args below meth c H locs ls C hr hlk hw hl => ?_)
  have C : Cx G p s m args c cX9_valueNow 4 RX9 := C
  have hl : lv_has ls 4 [(0, .ref (gA G (41 + 0)))] := hl
  refine lv_iconst (v := (0 : Int32)) C.1.1 C.1.2.1 dX9_valueNow_0 rfl ?_
  refine lv_istore_n (lv' := [(1, .int (0 : Int32)), (0, .ref (gA G (41 + 0)))]) C.1.1 C.1.2.1 dX9_valueNow_1 rfl hl (by decide) rfl (fun ls hl => ?_)
  refine lv_iconst (v := (0 : Int32)) C.1.1 C.1.2.1 dX9_valueNow_2 rfl ?_
  refine lv_istore_n (lv' := [(2, .int (0 : Int32)), (1, .int (0 : Int32)), (0, .ref (gA G (41 + 0)))]) C.1.1 C.1.2.1 dX9_valueNow_3 rfl hl (by decide) rfl (fun ls hl => ?_)
  exact wL_X9_valueNow_4 C hr hlk FU X M L (0 : Int32) (0 : Int32) _ _ _ hw (lv_sub hl [2, 1, 0] rfl) hf
end
/-! WinnerDrawsModel.costNow()I (('o', 'M', 0)) -/
def f_X9_costNow (M : TX) : Option (TX × Int32) := if (M 0 28) = 0 then (some (M, (1 : Int32))) else ((f_X9_valueNow M).bind fun q2 => if 0 ≤ q2.2 then (if q2.2 ≤ (60 : Int32) then (some (q2.1, q2.2)) else (some (q2.1, (60 : Int32)))) else (some (q2.1, (0 : Int32))))
section
variable {G : GP} {l : Launch}
set_option maxRecDepth 20000 in
set_option maxHeartbeats 2000000 in
theorem c_X9_costNow   {X M : TX} {L : TL}  {ro : TX × Int32} (hf : f_X9_costNow M = some ro) : CTi G l yX9_costNow cX9_costNow 2 (some .int) 2 45 [.ref (gA G (41 + 0))] X M L X ro.1 L ro.2 := by
  unfold f_X9_costNow at hf
  refine ct_of (by decide +kernel) (Nat.le_of_ble_eq_true rfl) (fun p e s m args below meth c H locs ls C hr hlk hw hl => ?_)
  have C : Cx G p s m args c cX9_costNow 2 RX9 := C
  have hl : lv_has ls 2 [(0, .ref (gA G (41 + 0)))] := hl
  refine lv_aload_n C.1.1 C.1.2.1 dX9_costNow_0 rfl (lv_at hl 0 rfl) ?_
  refine m_get C hw iM_0_28 flX9_170 dX9_costNow_1 ?_
  refine lv_if_ne (tgt := 11) C.1.1 C.1.2.1 dX9_costNow_4 (by decide) (fun c1 => ?_) (fun c1 => ?_)
  · have hf := o_f hf c1
    refine lv_aload_n C.1.1 C.1.2.1 dX9_costNow_11 rfl (lv_at hl 0 rfl) ?_
    obtain ⟨q2, h2, hf⟩ := o_bind hf
    refine aft_i hw (run_VM C hw clX9_278 (As := []) (rest := []) oM_0 (c_X9_valueNow h2) rfl hl.1 rfl ⟨(Nat.le_of_ble_eq_true rfl), (Nat.le_of_ble_eq_true rfl)⟩ ⟨Nat.zero_le _, Nat.zero_le _⟩ rfl (Nat.le_of_ble_eq_true rfl) dX9_costNow_12) (fun H locs hw => ?_)
    refine lv_istore_n (lv' := [(1, .int q2.2), (0, .ref (gA G (41 + 0)))]) C.1.1 C.1.2.1 dX9_costNow_15 rfl hl (by decide) rfl (fun ls hl => ?_)
    refine lv_iload_n C.1.1 C.1.2.1 dX9_costNow_16 rfl (lv_at hl 0 rfl) ?_
    refine lv_if_ge (tgt := 24) C.1.1 C.1.2.1 dX9_costNow_17 (by decide) (fun c3 => ?_) (fun c3 => ?_)
    · have hf := o_t hf c3
      refine lv_iload_n C.1.1 C.1.2.1 dX9_costNow_24 rfl (lv_at hl 0 rfl) ?_
      refine lv_bipush (v := (60 : Int32)) C.1.1 C.1.2.1 dX9_costNow_25 rfl ?_
      refine lv_icmp_le (tgt := 35) C.1.1 C.1.2.1 dX9_costNow_27 (by decide) (fun c4 => ?_) (fun c4 => ?_)
      · have hf := o_t hf c4
        refine lv_iload_n C.1.1 C.1.2.1 dX9_costNow_35 rfl (lv_at hl 0 rfl) ?_
        obtain rfl := Option.some.inj hf
        exact ret_i C hr hlk hw dX9_costNow_36
      · have hf := o_f hf c4
        refine lv_bipush (v := (60 : Int32)) C.1.1 C.1.2.1 dX9_costNow_30 rfl ?_
        refine lv_goto (tgt := 36) C.1.1 C.1.2.1 dX9_costNow_32 (by decide) ?_
        obtain rfl := Option.some.inj hf
        exact ret_i C hr hlk hw dX9_costNow_36
    · have hf := o_f hf c3
      refine lv_iconst (v := (0 : Int32)) C.1.1 C.1.2.1 dX9_costNow_20 rfl ?_
      refine lv_goto (tgt := 36) C.1.1 C.1.2.1 dX9_costNow_21 (by decide) ?_
      obtain rfl := Option.some.inj hf
      exact ret_i C hr hlk hw dX9_costNow_36
  · have hf := o_t hf c1
    refine lv_iconst (v := (1 : Int32)) C.1.1 C.1.2.1 dX9_costNow_7 rfl ?_
    refine lv_goto (tgt := 15) C.1.1 C.1.2.1 dX9_costNow_8 (by decide) ?_
    refine lv_istore_n (lv' := [(1, .int (1 : Int32)), (0, .ref (gA G (41 + 0)))]) C.1.1 C.1.2.1 dX9_costNow_15 rfl hl (by decide) rfl (fun ls hl => ?_)
    refine lv_iload_n C.1.1 C.1.2.1 dX9_costNow_16 rfl (lv_at hl 0 rfl) ?_
    refine lv_if_ge (tgt := 24) C.1.1 C.1.2.1 dX9_costNow_17 (by decide) (fun _ => ?_) (fun z => absurd (by decide) z)
    refine lv_iload_n C.1.1 C.1.2.1 dX9_costNow_24 rfl (lv_at hl 0 rfl) ?_
    refine lv_bipush (v := (60 : Int32)) C.1.1 C.1.2.1 dX9_costNow_25 rfl ?_
    refine lv_icmp_le (tgt := 35) C.1.1 C.1.2.1 dX9_costNow_27 (by decide) (fun _ => ?_) (fun z => absurd (by decide) z)
    refine lv_iload_n C.1.1 C.1.2.1 dX9_costNow_35 rfl (lv_at hl 0 rfl) ?_
    obtain rfl := Option.some.inj hf
    exact ret_i C hr hlk hw dX9_costNow_36
end
/-! WinnerDrawsModel.tellsStep(IIII)V (('o', 'M', 0) ('i',) ('i',) ('i',) ('i',)) -/
def f_X9_tellsStep (M : TX) (x1 : Int32) (x2 : Int32) (x3 : Int32) (x4 : Int32) : Option (TX) := (f_X9_fine M).bind fun q1 => if q1 = 0 then (some M) else (if inb (M 0 32) 200 = true then (if inb (((u2 M 15 (Int32.toNatClampNeg (M 0 32)) x1) 0 32) + (1 : Int32)) 200 = true then (if inb (((u2 (u2 M 15 (Int32.toNatClampNeg (M 0 32)) x1) 15 (Int32.toNatClampNeg (((u2 M 15 (Int32.toNatClampNeg (M 0 32)) x1) 0 32) + (1 : Int32))) x2) 0 32) + (2 : Int32)) 200 = true then (if inb (((u2 (u2 (u2 M 15 (Int32.toNatClampNeg (M 0 32)) x1) 15 (Int32.toNatClampNeg (((u2 M 15 (Int32.toNatClampNeg (M 0 32)) x1) 0 32) + (1 : Int32))) x2) 15 (Int32.toNatClampNeg (((u2 (u2 M 15 (Int32.toNatClampNeg (M 0 32)) x1) 15 (Int32.toNatClampNeg (((u2 M 15 (Int32.toNatClampNeg (M 0 32)) x1) 0 32) + (1 : Int32))) x2) 0 32) + (2 : Int32))) x3) 0 32) + (3 : Int32)) 200 = true then (some (u2 (u2 (u2 (u2 (u2 M 15 (Int32.toNatClampNeg (M 0 32)) x1) 15 (Int32.toNatClampNeg (((u2 M 15 (Int32.toNatClampNeg (M 0 32)) x1) 0 32) + (1 : Int32))) x2) 15 (Int32.toNatClampNeg (((u2 (u2 M 15 (Int32.toNatClampNeg (M 0 32)) x1) 15 (Int32.toNatClampNeg (((u2 M 15 (Int32.toNatClampNeg (M 0 32)) x1) 0 32) + (1 : Int32))) x2) 0 32) + (2 : Int32))) x3) 15 (Int32.toNatClampNeg (((u2 (u2 (u2 M 15 (Int32.toNatClampNeg (M 0 32)) x1) 15 (Int32.toNatClampNeg (((u2 M 15 (Int32.toNatClampNeg (M 0 32)) x1) 0 32) + (1 : Int32))) x2) 15 (Int32.toNatClampNeg (((u2 (u2 M 15 (Int32.toNatClampNeg (M 0 32)) x1) 15 (Int32.toNatClampNeg (((u2 M 15 (Int32.toNatClampNeg (M 0 32)) x1) 0 32) + (1 : Int32))) x2) 0 32) + (2 : Int32))) x3) 0 32) + (3 : Int32))) x4) 0 32 (((u2 (u2 (u2 (u2 M 15 (Int32.toNatClampNeg (M 0 32)) x1) 15 (Int32.toNatClampNeg (((u2 M 15 (Int32.toNatClampNeg (M 0 32)) x1) 0 32) + (1 : Int32))) x2) 15 (Int32.toNatClampNeg (((u2 (u2 M 15 (Int32.toNatClampNeg (M 0 32)) x1) 15 (Int32.toNatClampNeg (((u2 M 15 (Int32.toNatClampNeg (M 0 32)) x1) 0 32) + (1 : Int32))) x2) 0 32) + (2 : Int32))) x3) 15 (Int32.toNatClampNeg (((u2 (u2 (u2 M 15 (Int32.toNatClampNeg (M 0 32)) x1) 15 (Int32.toNatClampNeg (((u2 M 15 (Int32.toNatClampNeg (M 0 32)) x1) 0 32) + (1 : Int32))) x2) 15 (Int32.toNatClampNeg (((u2 (u2 M 15 (Int32.toNatClampNeg (M 0 32)) x1) 15 (Int32.toNatClampNeg (((u2 M 15 (Int32.toNatClampNeg (M 0 32)) x1) 0 32) + (1 : Int32))) x2) 0 32) + (2 : Int32))) x3) 0 32) + (3 : Int32))) x4) 0 32) + (4 : Int32)))) else none) else none) else none) else none)
section
variable {G : GP} {l : Launch}
set_option maxRecDepth 20000 in
set_option maxHeartbeats 2000000 in
theorem c_X9_tellsStep   {X M : TX} {L : TL} {x1 : Int32} {x2 : Int32} {x3 : Int32} {x4 : Int32} {ro : TX} (hf : f_X9_tellsStep M x1 x2 x3 x4 = some ro) : CTv G l yX9_tellsStep cX9_tellsStep 5 none 1 20 [.ref (gA G (41 + 0)), .int x1, .int x2, .int x3, .int x4] X M L X ro L := by
  unfold f_X9_tellsStep at hf
  refine ct_of (by decide +kernel) (Nat.le_of_ble_eq_true rfl) (fun p e s m args below meth c H locs ls C hr hlk hw hl => ?_)
  have C : Cx G p s m args c cX9_tellsStep 5 RX9 := C
  have hl : lv_has ls 5 [(0, .ref (gA G (41 + 0))), (1, .int x1), (2, .int x2), (3, .int x3), (4, .int x4)] := hl
  refine lv_aload_n C.1.1 C.1.2.1 dX9_tellsStep_0 rfl (lv_at hl 0 rfl) ?_
  obtain ⟨q1, h1, hf⟩ := o_bind hf
  refine aft_i hw (run_VM C hw clX9_134 (As := []) (rest := []) oM_0 (c_X9_fine h1) rfl hl.1 rfl ⟨(Nat.le_of_ble_eq_true rfl), (Nat.le_of_ble_eq_true rfl)⟩ ⟨Nat.zero_le _, Nat.zero_le _⟩ rfl (Nat.le_of_ble_eq_true rfl) dX9_tellsStep_1) (fun H locs hw => ?_)
  refine lv_if_ne (tgt := 8) C.1.1 C.1.2.1 dX9_tellsStep_4 (by decide) (fun c2 => ?_) (fun c2 => ?_)
  · have hf := o_f hf c2
    refine lv_aload_n C.1.1 C.1.2.1 dX9_tellsStep_8 rfl (lv_at hl 0 rfl) ?_
    refine m_ref C hw fM_0_30 flX9_59 dX9_tellsStep_9 ?_
    refine lv_aload_n C.1.1 C.1.2.1 dX9_tellsStep_12 rfl (lv_at hl 0 rfl) ?_
    refine m_get C hw iM_0_32 flX9_281 dX9_tellsStep_13 ?_
    refine lv_iload_n C.1.1 C.1.2.1 dX9_tellsStep_16 rfl (lv_at hl 1 rfl) ?_
    have g3 := inb_in (o_g hf).1
    have hf := (o_g hf).2
    refine m_ast C hw aM_15 g3 dX9_tellsStep_17 (fun H locs hw => ?_)
    refine lv_aload_n C.1.1 C.1.2.1 dX9_tellsStep_18 rfl (lv_at hl 0 rfl) ?_
    refine m_ref C hw fM_0_30 flX9_59 dX9_tellsStep_19 ?_
    refine lv_aload_n C.1.1 C.1.2.1 dX9_tellsStep_22 rfl (lv_at hl 0 rfl) ?_
    refine m_get C hw iM_0_32 flX9_281 dX9_tellsStep_23 ?_
    refine lv_iconst (v := (1 : Int32)) C.1.1 C.1.2.1 dX9_tellsStep_26 rfl ?_
    refine lv_iadd C.1.1 C.1.2.1 dX9_tellsStep_27 ?_
    refine lv_iload_n C.1.1 C.1.2.1 dX9_tellsStep_28 rfl (lv_at hl 2 rfl) ?_
    have g4 := inb_in (o_g hf).1
    have hf := (o_g hf).2
    refine m_ast C hw aM_15 g4 dX9_tellsStep_29 (fun H locs hw => ?_)
    refine lv_aload_n C.1.1 C.1.2.1 dX9_tellsStep_30 rfl (lv_at hl 0 rfl) ?_
    refine m_ref C hw fM_0_30 flX9_59 dX9_tellsStep_31 ?_
    refine lv_aload_n C.1.1 C.1.2.1 dX9_tellsStep_34 rfl (lv_at hl 0 rfl) ?_
    refine m_get C hw iM_0_32 flX9_281 dX9_tellsStep_35 ?_
    refine lv_iconst (v := (2 : Int32)) C.1.1 C.1.2.1 dX9_tellsStep_38 rfl ?_
    refine lv_iadd C.1.1 C.1.2.1 dX9_tellsStep_39 ?_
    refine lv_iload_n C.1.1 C.1.2.1 dX9_tellsStep_40 rfl (lv_at hl 3 rfl) ?_
    have g5 := inb_in (o_g hf).1
    have hf := (o_g hf).2
    refine m_ast C hw aM_15 g5 dX9_tellsStep_41 (fun H locs hw => ?_)
    refine lv_aload_n C.1.1 C.1.2.1 dX9_tellsStep_42 rfl (lv_at hl 0 rfl) ?_
    refine m_ref C hw fM_0_30 flX9_59 dX9_tellsStep_43 ?_
    refine lv_aload_n C.1.1 C.1.2.1 dX9_tellsStep_46 rfl (lv_at hl 0 rfl) ?_
    refine m_get C hw iM_0_32 flX9_281 dX9_tellsStep_47 ?_
    refine lv_iconst (v := (3 : Int32)) C.1.1 C.1.2.1 dX9_tellsStep_50 rfl ?_
    refine lv_iadd C.1.1 C.1.2.1 dX9_tellsStep_51 ?_
    refine lv_iload C.1.1 C.1.2.1 dX9_tellsStep_52 (lv_at hl 4 rfl) ?_
    have g6 := inb_in (o_g hf).1
    have hf := (o_g hf).2
    refine m_ast C hw aM_15 g6 dX9_tellsStep_54 (fun H locs hw => ?_)
    refine lv_aload_n C.1.1 C.1.2.1 dX9_tellsStep_55 rfl (lv_at hl 0 rfl) ?_
    refine lv_dup C.1.1 C.1.2.1 dX9_tellsStep_56 rfl ?_
    refine m_get C hw iM_0_32 flX9_281 dX9_tellsStep_57 ?_
    refine lv_iconst (v := (4 : Int32)) C.1.1 C.1.2.1 dX9_tellsStep_60 rfl ?_
    refine lv_iadd C.1.1 C.1.2.1 dX9_tellsStep_61 ?_
    refine m_put C hw iM_0_32 flX9_281 dX9_tellsStep_62 (fun H locs hw => ?_)
    obtain rfl := Option.some.inj hf
    exact ret_v C hr hlk hw dX9_tellsStep_65
  · have hf := o_t hf c2
    obtain rfl := Option.some.inj hf
    exact ret_v C hr hlk hw dX9_tellsStep_7
end
/-! WinnerDrawsModel.stepOf(I)I (('i',)) -/
def f_X9_stepOf (x0 : Int32) : Option (Int32) := (f_X9_of 16).bind fun q1 => if x0 = q1 then (some (0 : Int32)) else ((f_X9_of 2).bind fun q3 => if x0 = q3 then (some (1 : Int32)) else ((f_X9_of 7).bind fun q5 => if x0 = q5 then (some (2 : Int32)) else ((f_X9_of 1).bind fun q7 => if x0 = q7 then (some (3 : Int32)) else ((f_X9_of 0).bind fun q9 => if x0 = q9 then (some (4 : Int32)) else (some (-1 : Int32))))))
section
variable {G : GP} {l : Launch}
set_option maxRecDepth 20000 in
set_option maxHeartbeats 2000000 in
theorem c_X9_stepOf   {X M : TX} {L : TL} {x0 : Int32} {ro : Int32} (hf : f_X9_stepOf x0 = some ro) : CTi G l yX9_stepOf cX9_stepOf 1 (some .int) 7 203 [.int x0] X M L X M L ro := by
  unfold f_X9_stepOf at hf
  refine ct_of (by decide +kernel) (Nat.le_of_ble_eq_true rfl) (fun p e s m args below meth c H locs ls C hr hlk hw hl => ?_)
  have C : Cx G p s m args c cX9_stepOf 1 RX9 := C
  have hl : lv_has ls 1 [(0, .int x0)] := hl
  refine lv_iload_n C.1.1 C.1.2.1 dX9_stepOf_0 rfl (lv_at hl 0 rfl) ?_
  refine x_ldcSW C (i := 16) (tx := "vote") (List.mem_of_getElem? (i := 32) rfl) dX9_stepOf_1 ?_
  obtain ⟨q1, h1, hf⟩ := o_bind hf
  refine aft_i hw (run_S C hw clX9_186 (As := [.ref (gK G 16)]) (rest := [.int x0]) (c_X9_of (by decide) h1) hl.1 rfl ⟨(Nat.le_of_ble_eq_true rfl), (Nat.le_of_ble_eq_true rfl)⟩ ⟨Nat.zero_le _, Nat.zero_le _⟩ rfl (Nat.le_of_ble_eq_true rfl) dX9_stepOf_4) (fun H locs hw => ?_)
  refine lv_icmp_ne (tgt := 14) C.1.1 C.1.2.1 dX9_stepOf_7 (by decide) (fun c2 => ?_) (fun c2 => ?_)
  · have hf := o_f hf c2
    refine lv_iload_n C.1.1 C.1.2.1 dX9_stepOf_14 rfl (lv_at hl 0 rfl) ?_
    refine x_ldcSW C (i := 2) (tx := "draw") (List.mem_of_getElem? (i := 33) rfl) dX9_stepOf_15 ?_
    obtain ⟨q3, h3, hf⟩ := o_bind hf
    refine aft_i hw (run_S C hw clX9_186 (As := [.ref (gK G 2)]) (rest := [.int x0]) (c_X9_of (by decide) h3) hl.1 rfl ⟨(Nat.le_of_ble_eq_true rfl), (Nat.le_of_ble_eq_true rfl)⟩ ⟨Nat.zero_le _, Nat.zero_le _⟩ rfl (Nat.le_of_ble_eq_true rfl) dX9_stepOf_18) (fun H locs hw => ?_)
    refine lv_icmp_ne (tgt := 28) C.1.1 C.1.2.1 dX9_stepOf_21 (by decide) (fun c4 => ?_) (fun c4 => ?_)
    · have hf := o_f hf c4
      refine lv_iload_n C.1.1 C.1.2.1 dX9_stepOf_28 rfl (lv_at hl 0 rfl) ?_
      refine x_ldcSW C (i := 7) (tx := "move") (List.mem_of_getElem? (i := 34) rfl) dX9_stepOf_29 ?_
      obtain ⟨q5, h5, hf⟩ := o_bind hf
      refine aft_i hw (run_S C hw clX9_186 (As := [.ref (gK G 7)]) (rest := [.int x0]) (c_X9_of (by decide) h5) hl.1 rfl ⟨(Nat.le_of_ble_eq_true rfl), (Nat.le_of_ble_eq_true rfl)⟩ ⟨Nat.zero_le _, Nat.zero_le _⟩ rfl (Nat.le_of_ble_eq_true rfl) dX9_stepOf_32) (fun H locs hw => ?_)
      refine lv_icmp_ne (tgt := 42) C.1.1 C.1.2.1 dX9_stepOf_35 (by decide) (fun c6 => ?_) (fun c6 => ?_)
      · have hf := o_f hf c6
        refine lv_iload_n C.1.1 C.1.2.1 dX9_stepOf_42 rfl (lv_at hl 0 rfl) ?_
        refine x_ldcSW C (i := 1) (tx := "count") (List.mem_of_getElem? (i := 35) rfl) dX9_stepOf_43 ?_
        obtain ⟨q7, h7, hf⟩ := o_bind hf
        refine aft_i hw (run_S C hw clX9_186 (As := [.ref (gK G 1)]) (rest := [.int x0]) (c_X9_of (by decide) h7) hl.1 rfl ⟨(Nat.le_of_ble_eq_true rfl), (Nat.le_of_ble_eq_true rfl)⟩ ⟨Nat.zero_le _, Nat.zero_le _⟩ rfl (Nat.le_of_ble_eq_true rfl) dX9_stepOf_46) (fun H locs hw => ?_)
        refine lv_icmp_ne (tgt := 56) C.1.1 C.1.2.1 dX9_stepOf_49 (by decide) (fun c8 => ?_) (fun c8 => ?_)
        · have hf := o_f hf c8
          refine lv_iload_n C.1.1 C.1.2.1 dX9_stepOf_56 rfl (lv_at hl 0 rfl) ?_
          refine x_ldcSW C (i := 0) (tx := "again") (List.mem_of_getElem? (i := 36) rfl) dX9_stepOf_57 ?_
          obtain ⟨q9, h9, hf⟩ := o_bind hf
          refine aft_i hw (run_S C hw clX9_186 (As := [.ref (gK G 0)]) (rest := [.int x0]) (c_X9_of (by decide) h9) hl.1 rfl ⟨(Nat.le_of_ble_eq_true rfl), (Nat.le_of_ble_eq_true rfl)⟩ ⟨Nat.zero_le _, Nat.zero_le _⟩ rfl (Nat.le_of_ble_eq_true rfl) dX9_stepOf_60) (fun H locs hw => ?_)
          refine lv_icmp_ne (tgt := 70) C.1.1 C.1.2.1 dX9_stepOf_63 (by decide) (fun c10 => ?_) (fun c10 => ?_)
          · have hf := o_f hf c10
            refine lv_iconst (v := (-1 : Int32)) C.1.1 C.1.2.1 dX9_stepOf_70 rfl ?_
            obtain rfl := Option.some.inj hf
            exact ret_i C hr hlk hw dX9_stepOf_71
          · have hf := o_t hf c10
            refine lv_iconst (v := (4 : Int32)) C.1.1 C.1.2.1 dX9_stepOf_66 rfl ?_
            refine lv_goto (tgt := 71) C.1.1 C.1.2.1 dX9_stepOf_67 (by decide) ?_
            obtain rfl := Option.some.inj hf
            exact ret_i C hr hlk hw dX9_stepOf_71
        · have hf := o_t hf c8
          refine lv_iconst (v := (3 : Int32)) C.1.1 C.1.2.1 dX9_stepOf_52 rfl ?_
          refine lv_goto (tgt := 71) C.1.1 C.1.2.1 dX9_stepOf_53 (by decide) ?_
          obtain rfl := Option.some.inj hf
          exact ret_i C hr hlk hw dX9_stepOf_71
      · have hf := o_t hf c6
        refine lv_iconst (v := (2 : Int32)) C.1.1 C.1.2.1 dX9_stepOf_38 rfl ?_
        refine lv_goto (tgt := 71) C.1.1 C.1.2.1 dX9_stepOf_39 (by decide) ?_
        obtain rfl := Option.some.inj hf
        exact ret_i C hr hlk hw dX9_stepOf_71
    · have hf := o_t hf c4
      refine lv_iconst (v := (1 : Int32)) C.1.1 C.1.2.1 dX9_stepOf_24 rfl ?_
      refine lv_goto (tgt := 71) C.1.1 C.1.2.1 dX9_stepOf_25 (by decide) ?_
      obtain rfl := Option.some.inj hf
      exact ret_i C hr hlk hw dX9_stepOf_71
  · have hf := o_t hf c2
    refine lv_iconst (v := (0 : Int32)) C.1.1 C.1.2.1 dX9_stepOf_10 rfl ?_
    refine lv_goto (tgt := 71) C.1.1 C.1.2.1 dX9_stepOf_11 (by decide) ?_
    obtain rfl := Option.some.inj hf
    exact ret_i C hr hlk hw dX9_stepOf_71
end
/-! WinnerDrawsModel.readAgain()V (('o', 'M', 0)) -/
def L_X9_readAgain_32 (rec : TX → Option (TX)) : Nat → TX → Int32 → Option (TX)
  | 0 => fun _ _ => none
  | n + 1 => fun M x2 => (f_X9_fine M).bind fun q5 => if q5 = 0 then ((f_X9_sign M (93 : Int32)).bind fun q7 => (f_X9_fine (u2 q7 0 7 ((q7 0 7) - (1 : Int32)))).bind fun q8 => if q8 = 0 then (some (u2 q7 0 7 ((q7 0 7) - (1 : Int32)))) else (if inb (x2 + (2 : Int32)) 200 = true then (some (u2 (u2 q7 0 7 ((q7 0 7) - (1 : Int32))) 15 (Int32.toNatClampNeg (x2 + (2 : Int32))) ((u2 q7 0 7 ((q7 0 7) - (1 : Int32))) 0 32))) else none)) else ((f_X9_here M).bind fun q11 => if q11.2 = (93 : Int32) then ((f_X9_sign q11.1 (93 : Int32)).bind fun q13 => (f_X9_fine (u2 q13 0 7 ((q13 0 7) - (1 : Int32)))).bind fun q14 => if q14 = 0 then (some (u2 q13 0 7 ((q13 0 7) - (1 : Int32)))) else (if inb (x2 + (2 : Int32)) 200 = true then (some (u2 (u2 q13 0 7 ((q13 0 7) - (1 : Int32))) 15 (Int32.toNatClampNeg (x2 + (2 : Int32))) ((u2 q13 0 7 ((q13 0 7) - (1 : Int32))) 0 32))) else none)) else ((rec q11.1).bind fun q17 => (L_X9_readAgain_32 rec n) q17 x2))
def f_X9_readAgain (rec : TX → Option (TX)) (M : TX) : Option (TX) := (f_X9_opensOne M (5 : Int32)).bind fun q1 => (f_X9_readNumber q1 (0 : Int32) (40 : Int32)).bind fun q2 => (f_X9_sign q2.1 (91 : Int32)).bind fun q3 => (f_X9_tellsStep q3 (4 : Int32) q2.2 (0 : Int32) (0 : Int32)).bind fun q4 => L_X9_readAgain_32 rec FU q4 (q3 0 32)
section
variable {G : GP} {l : Launch}
set_option maxRecDepth 20000 in
set_option maxHeartbeats 2000000 in
theorem wL_X9_readAgain_32 {rec : TX → Option (TX)} {d : Nat} (hrec : ∀ {X M : TX} {L : TL} {ro : TX}, rec M = some ro → CTv G l yX9_readStep cX9_readStep 4 none (8 + 8 * d) (223 + 223 * d) [.ref (gA G (41 + 0))] X M L X ro L) {p : Program} {e : Env} {s : State} {m : MethodId} {args : Array Value} {below : List Frame} {meth : Method} {c : Code} (C : Cx G p s m args c cX9_readAgain 3 RX9) (hr : meth.sig.returnType = none) (hlk : meth.locks = false) {ro : TX} : ∀ (n : Nat), ∀ (X : TX) (M : TX) (L : TL) (x2 : Int32) (H : Heap) (locs : List Loc) (ls : Array Slot), Wh G s X M L H locs → lv_has ls 3 [(0, .ref (gA G (41 + 0))), (2, .int x2)] → L_X9_readAgain_32 rec n M x2 = some ro → W p l e (rz (9 + 8 * d) (246 + 223 * d)) s m args below meth c H locs 0 0 (MQ below (Dv G X ro L) args s 0 0 (AB G)) (F0 m 32 ls []) := by
  intro n
  induction n with
  | zero =>
    intro X M L x2 H locs ls hw hl hf
    cases hf
  | succ n hk_32 =>
    intro X M L x2 H locs ls hw hl hf
    rw [L_X9_readAgain_32] at hf
    refine lv_aload_n C.1.1 C.1.2.1 dX9_readAgain_32 rfl (lv_at hl 0 rfl) ?_
    obtain ⟨q5, h5, hf⟩ := o_bind hf
    refine aft_i hw (run_VM C hw clX9_134 (As := []) (rest := []) oM_0 (c_X9_fine h5) rfl hl.1 rfl ⟨(by show 0 + 1 ≤ 9 + 8 * d; omega), (by show 8 + (1 + 11) + 0 ≤ 246 + 223 * d; omega)⟩ ⟨Nat.zero_le _, Nat.zero_le _⟩ rfl (Nat.le_of_ble_eq_true rfl) dX9_readAgain_33) (fun H locs hw => ?_)
    refine lv_if_eq (tgt := 55) C.1.1 C.1.2.1 dX9_readAgain_36 (by decide) (fun c6 => ?_) (fun c6 => ?_)
    · have hf := o_t hf c6
      refine lv_aload_n C.1.1 C.1.2.1 dX9_readAgain_55 rfl (lv_at hl 0 rfl) ?_
      refine lv_bipush (v := (93 : Int32)) C.1.1 C.1.2.1 dX9_readAgain_56 rfl ?_
      obtain ⟨q7, h7, hf⟩ := o_bind hf
      refine aft_v hw (run_VM C hw clX9_226 (As := [.int (93 : Int32)]) (rest := []) oM_0 (c_X9_sign h7) rfl hl.1 rfl ⟨(by show 1 + 1 ≤ 9 + 8 * d; omega), (by show 8 + (2 + 11) + 22 ≤ 246 + 223 * d; omega)⟩ ⟨Nat.zero_le _, Nat.zero_le _⟩ rfl (Nat.le_of_ble_eq_true rfl) dX9_readAgain_58) (fun H locs hw => ?_)
      refine lv_aload_n C.1.1 C.1.2.1 dX9_readAgain_61 rfl (lv_at hl 0 rfl) ?_
      refine lv_dup C.1.1 C.1.2.1 dX9_readAgain_62 rfl ?_
      refine m_get C hw iM_0_7 flX9_145 dX9_readAgain_63 ?_
      refine lv_iconst (v := (1 : Int32)) C.1.1 C.1.2.1 dX9_readAgain_66 rfl ?_
      refine lv_isub C.1.1 C.1.2.1 dX9_readAgain_67 ?_
      refine m_put C hw iM_0_7 flX9_145 dX9_readAgain_68 (fun H locs hw => ?_)
      refine lv_aload_n C.1.1 C.1.2.1 dX9_readAgain_71 rfl (lv_at hl 0 rfl) ?_
      obtain ⟨q8, h8, hf⟩ := o_bind hf
      refine aft_i hw (run_VM C hw clX9_134 (As := []) (rest := []) oM_0 (c_X9_fine h8) rfl hl.1 rfl ⟨(by show 0 + 1 ≤ 9 + 8 * d; omega), (by show 8 + (1 + 11) + 0 ≤ 246 + 223 * d; omega)⟩ ⟨Nat.zero_le _, Nat.zero_le _⟩ rfl (Nat.le_of_ble_eq_true rfl) dX9_readAgain_72) (fun H locs hw => ?_)
      refine lv_if_eq (tgt := 90) C.1.1 C.1.2.1 dX9_readAgain_75 (by decide) (fun c9 => ?_) (fun c9 => ?_)
      · have hf := o_t hf c9
        obtain rfl := Option.some.inj hf
        exact ret_v C hr hlk hw dX9_readAgain_90
      · have hf := o_f hf c9
        refine lv_aload_n C.1.1 C.1.2.1 dX9_readAgain_78 rfl (lv_at hl 0 rfl) ?_
        refine m_ref C hw fM_0_30 flX9_59 dX9_readAgain_79 ?_
        refine lv_iload_n C.1.1 C.1.2.1 dX9_readAgain_82 rfl (lv_at hl 1 rfl) ?_
        refine lv_iconst (v := (2 : Int32)) C.1.1 C.1.2.1 dX9_readAgain_83 rfl ?_
        refine lv_iadd C.1.1 C.1.2.1 dX9_readAgain_84 ?_
        refine lv_aload_n C.1.1 C.1.2.1 dX9_readAgain_85 rfl (lv_at hl 0 rfl) ?_
        refine m_get C hw iM_0_32 flX9_281 dX9_readAgain_86 ?_
        have g10 := inb_in (o_g hf).1
        have hf := (o_g hf).2
        refine m_ast C hw aM_15 g10 dX9_readAgain_89 (fun H locs hw => ?_)
        obtain rfl := Option.some.inj hf
        exact ret_v C hr hlk hw dX9_readAgain_90
    · have hf := o_f hf c6
      refine lv_aload_n C.1.1 C.1.2.1 dX9_readAgain_39 rfl (lv_at hl 0 rfl) ?_
      obtain ⟨q11, h11, hf⟩ := o_bind hf
      refine aft_i hw (run_VM C hw clX9_117 (As := []) (rest := []) oM_0 (c_X9_here h11) rfl hl.1 rfl ⟨(by show 0 + 1 ≤ 9 + 8 * d; omega), (by show 8 + (1 + 11) + 0 ≤ 246 + 223 * d; omega)⟩ ⟨Nat.zero_le _, Nat.zero_le _⟩ rfl (Nat.le_of_ble_eq_true rfl) dX9_readAgain_40) (fun H locs hw => ?_)
      refine lv_bipush (v := (93 : Int32)) C.1.1 C.1.2.1 dX9_readAgain_43 rfl ?_
      refine lv_icmp_eq (tgt := 55) C.1.1 C.1.2.1 dX9_readAgain_45 (by decide) (fun c12 => ?_) (fun c12 => ?_)
      · have hf := o_t hf c12
        refine lv_aload_n C.1.1 C.1.2.1 dX9_readAgain_55 rfl (lv_at hl 0 rfl) ?_
        refine lv_bipush (v := (93 : Int32)) C.1.1 C.1.2.1 dX9_readAgain_56 rfl ?_
        obtain ⟨q13, h13, hf⟩ := o_bind hf
        refine aft_v hw (run_VM C hw clX9_226 (As := [.int (93 : Int32)]) (rest := []) oM_0 (c_X9_sign h13) rfl hl.1 rfl ⟨(by show 1 + 1 ≤ 9 + 8 * d; omega), (by show 8 + (2 + 11) + 22 ≤ 246 + 223 * d; omega)⟩ ⟨Nat.zero_le _, Nat.zero_le _⟩ rfl (Nat.le_of_ble_eq_true rfl) dX9_readAgain_58) (fun H locs hw => ?_)
        refine lv_aload_n C.1.1 C.1.2.1 dX9_readAgain_61 rfl (lv_at hl 0 rfl) ?_
        refine lv_dup C.1.1 C.1.2.1 dX9_readAgain_62 rfl ?_
        refine m_get C hw iM_0_7 flX9_145 dX9_readAgain_63 ?_
        refine lv_iconst (v := (1 : Int32)) C.1.1 C.1.2.1 dX9_readAgain_66 rfl ?_
        refine lv_isub C.1.1 C.1.2.1 dX9_readAgain_67 ?_
        refine m_put C hw iM_0_7 flX9_145 dX9_readAgain_68 (fun H locs hw => ?_)
        refine lv_aload_n C.1.1 C.1.2.1 dX9_readAgain_71 rfl (lv_at hl 0 rfl) ?_
        obtain ⟨q14, h14, hf⟩ := o_bind hf
        refine aft_i hw (run_VM C hw clX9_134 (As := []) (rest := []) oM_0 (c_X9_fine h14) rfl hl.1 rfl ⟨(by show 0 + 1 ≤ 9 + 8 * d; omega), (by show 8 + (1 + 11) + 0 ≤ 246 + 223 * d; omega)⟩ ⟨Nat.zero_le _, Nat.zero_le _⟩ rfl (Nat.le_of_ble_eq_true rfl) dX9_readAgain_72) (fun H locs hw => ?_)
        refine lv_if_eq (tgt := 90) C.1.1 C.1.2.1 dX9_readAgain_75 (by decide) (fun c15 => ?_) (fun c15 => ?_)
        · have hf := o_t hf c15
          obtain rfl := Option.some.inj hf
          exact ret_v C hr hlk hw dX9_readAgain_90
        · have hf := o_f hf c15
          refine lv_aload_n C.1.1 C.1.2.1 dX9_readAgain_78 rfl (lv_at hl 0 rfl) ?_
          refine m_ref C hw fM_0_30 flX9_59 dX9_readAgain_79 ?_
          refine lv_iload_n C.1.1 C.1.2.1 dX9_readAgain_82 rfl (lv_at hl 1 rfl) ?_
          refine lv_iconst (v := (2 : Int32)) C.1.1 C.1.2.1 dX9_readAgain_83 rfl ?_
          refine lv_iadd C.1.1 C.1.2.1 dX9_readAgain_84 ?_
          refine lv_aload_n C.1.1 C.1.2.1 dX9_readAgain_85 rfl (lv_at hl 0 rfl) ?_
          refine m_get C hw iM_0_32 flX9_281 dX9_readAgain_86 ?_
          have g16 := inb_in (o_g hf).1
          have hf := (o_g hf).2
          refine m_ast C hw aM_15 g16 dX9_readAgain_89 (fun H locs hw => ?_)
          obtain rfl := Option.some.inj hf
          exact ret_v C hr hlk hw dX9_readAgain_90
      · have hf := o_f hf c12
        refine lv_aload_n C.1.1 C.1.2.1 dX9_readAgain_48 rfl (lv_at hl 0 rfl) ?_
        obtain ⟨q17, h17, hf⟩ := o_bind hf
        refine aft_v hw (run_VM C hw clX9_298 (As := []) (rest := []) oM_0 (hrec h17) rfl hl.1 rfl ⟨(by show (8 + 8 * d) + 1 ≤ 9 + 8 * d; omega), (by show 8 + (4 + 11) + (223 + 223 * d) ≤ 246 + 223 * d; omega)⟩ ⟨Nat.zero_le _, Nat.zero_le _⟩ rfl (Nat.le_of_ble_eq_true rfl) dX9_readAgain_49) (fun H locs hw => ?_)
        refine lv_goto (tgt := 32) C.1.1 C.1.2.1 dX9_readAgain_52 (by decide) ?_
        exact hk_32 X q17 L x2 _ _ _ hw (lv_sub hl [0, 1] rfl) hf
set_option maxRecDepth 20000 in
set_option maxHeartbeats 2000000 in
theorem c_X9_readAgain {rec : TX → Option (TX)} {d : Nat} (hrec : ∀ {X M : TX} {L : TL} {ro : TX}, rec M = some ro → CTv G l yX9_readStep cX9_readStep 4 none (8 + 8 * d) (223 + 223 * d) [.ref (gA G (41 + 0))] X M L X ro L)  {X M : TX} {L : TL}  {ro : TX} (hf : f_X9_readAgain rec M = some ro) : CTv G l yX9_readAgain cX9_readAgain 3 none (9 + 8 * d) (246 + 223 * d) [.ref (gA G (41 + 0))] X M L X ro L := by
  unfold f_X9_readAgain at hf
  refine ct_of (by decide +kernel) (Nat.le_of_ble_eq_true rfl) (fun p e s m args below meth c H locs ls C hr hlk hw hl => ?_)
  have C : Cx G p s m args c cX9_readAgain 3 RX9 := C
  have hl : lv_has ls 3 [(0, .ref (gA G (41 + 0)))] := hl
  refine lv_aload_n C.1.1 C.1.2.1 dX9_readAgain_0 rfl (lv_at hl 0 rfl) ?_
  refine lv_iconst (v := (5 : Int32)) C.1.1 C.1.2.1 dX9_readAgain_1 rfl ?_
  obtain ⟨q1, h1, hf⟩ := o_bind hf
  refine aft_v hw (run_VM C hw clX9_245 (As := [.int (5 : Int32)]) (rest := []) oM_0 (c_X9_opensOne h1) rfl hl.1 rfl ⟨(by show 1 + 1 ≤ 9 + 8 * d; omega), (by show 8 + (2 + 11) + 22 ≤ 246 + 223 * d; omega)⟩ ⟨Nat.zero_le _, Nat.zero_le _⟩ rfl (Nat.le_of_ble_eq_true rfl) dX9_readAgain_2) (fun H locs hw => ?_)
  refine lv_aload_n C.1.1 C.1.2.1 dX9_readAgain_5 rfl (lv_at hl 0 rfl) ?_
  refine lv_iconst (v := (0 : Int32)) C.1.1 C.1.2.1 dX9_readAgain_6 rfl ?_
  refine lv_bipush (v := (40 : Int32)) C.1.1 C.1.2.1 dX9_readAgain_7 rfl ?_
  obtain ⟨q2, h2, hf⟩ := o_bind hf
  refine aft_i hw (run_VM C hw clX9_193 (As := [.int (0 : Int32), .int (40 : Int32)]) (rest := []) oM_0 (c_X9_readNumber h2) rfl hl.1 rfl ⟨(by show 1 + 1 ≤ 9 + 8 * d; omega), (by show 8 + (6 + 11) + 22 ≤ 246 + 223 * d; omega)⟩ ⟨Nat.zero_le _, Nat.zero_le _⟩ rfl (Nat.le_of_ble_eq_true rfl) dX9_readAgain_9) (fun H locs hw => ?_)
  refine lv_istore_n (lv' := [(1, .int q2.2), (0, .ref (gA G (41 + 0)))]) C.1.1 C.1.2.1 dX9_readAgain_12 rfl hl (by decide) rfl (fun ls hl => ?_)
  refine lv_aload_n C.1.1 C.1.2.1 dX9_readAgain_13 rfl (lv_at hl 1 rfl) ?_
  refine lv_bipush (v := (91 : Int32)) C.1.1 C.1.2.1 dX9_readAgain_14 rfl ?_
  obtain ⟨q3, h3, hf⟩ := o_bind hf
  refine aft_v hw (run_VM C hw clX9_226 (As := [.int (91 : Int32)]) (rest := []) oM_0 (c_X9_sign h3) rfl hl.1 rfl ⟨(by show 1 + 1 ≤ 9 + 8 * d; omega), (by show 8 + (2 + 11) + 22 ≤ 246 + 223 * d; omega)⟩ ⟨Nat.zero_le _, Nat.zero_le _⟩ rfl (Nat.le_of_ble_eq_true rfl) dX9_readAgain_16) (fun H locs hw => ?_)
  refine lv_aload_n C.1.1 C.1.2.1 dX9_readAgain_19 rfl (lv_at hl 1 rfl) ?_
  refine m_get C hw iM_0_32 flX9_281 dX9_readAgain_20 ?_
  refine lv_istore_n (lv' := [(2, .int (q3 0 32)), (1, .int q2.2), (0, .ref (gA G (41 + 0)))]) C.1.1 C.1.2.1 dX9_readAgain_23 rfl hl (by decide) rfl (fun ls hl => ?_)
  refine lv_aload_n C.1.1 C.1.2.1 dX9_readAgain_24 rfl (lv_at hl 2 rfl) ?_
  refine lv_iconst (v := (4 : Int32)) C.1.1 C.1.2.1 dX9_readAgain_25 rfl ?_
  refine lv_iload_n C.1.1 C.1.2.1 dX9_readAgain_26 rfl (lv_at hl 1 rfl) ?_
  refine lv_iconst (v := (0 : Int32)) C.1.1 C.1.2.1 dX9_readAgain_27 rfl ?_
  refine lv_iconst (v := (0 : Int32)) C.1.1 C.1.2.1 dX9_readAgain_28 rfl ?_
  obtain ⟨q4, h4, hf⟩ := o_bind hf
  refine aft_v hw (run_VM C hw clX9_294 (As := [.int (4 : Int32), .int q2.2, .int (0 : Int32), .int (0 : Int32)]) (rest := []) oM_0 (c_X9_tellsStep h4) rfl hl.1 rfl ⟨(by show 1 + 1 ≤ 9 + 8 * d; omega), (by show 8 + (5 + 11) + 20 ≤ 246 + 223 * d; omega)⟩ ⟨Nat.zero_le _, Nat.zero_le _⟩ rfl (Nat.le_of_ble_eq_true rfl) dX9_readAgain_29) (fun H locs hw => ?_)
  exact wL_X9_readAgain_32 hrec C hr hlk FU X q4 L (q3 0 32) _ _ _ hw (lv_sub hl [2, 0] rfl) hf
end
