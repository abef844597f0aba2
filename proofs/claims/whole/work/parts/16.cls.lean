/-! WinnerDraws$Plan.run(LWinnerDraws$Plan;LWinnerDraws$Council;III)V (('o', 'X', 31) ('o', 'X', 33) ('i',) ('i',) ('i',)) -/
def L_X6_run_77 (rec : TX → Int32 → Int32 → Int32 → Option (TX)) (k_14 : TX → Int32 → Int32 → Int32 → Int32 → Option (TX)) : Nat → TX → Int32 → Int32 → Int32 → Int32 → Int32 → Int32 → Option (TX)
  | 0 => fun _ _ _ _ _ _ _ => none
  | n + 1 => fun X x3 x4 x5 x6 x7 x8 => (f_X8_at 32 X (x5 + (1 : Int32))).bind fun q12 => if q12 ≤ x8 then (k_14 X x3 x4 x7 (x6 + (1 : Int32))) else ((rec X (x5 + (4 : Int32)) x7 (x4 + (1 : Int32))).bind fun q14 => (L_X6_run_77 rec k_14 n) q14 x3 x4 x5 x6 x7 (x8 + (1 : Int32)))
def L_X6_run_14 (rec : TX → Int32 → Int32 → Int32 → Option (TX)) : Nat → TX → Int32 → Int32 → Int32 → Int32 → Option (TX)
  | 0 => fun _ _ _ _ _ => none
  | n + 1 => fun X x3 x4 x5 x6 => if (200 : Int32) ≤ x6 then (some X) else (if x3 ≤ x5 then (some X) else (if (200 : Int32) ≤ (X 31 3) then (some X) else ((f_X8_at 32 (u2 X 31 3 ((X 31 3) + (1 : Int32))) x5).bind fun q5 => if q5 = (5 : Int32) then ((f_X8_at 32 (u2 X 31 3 ((X 31 3) + (1 : Int32))) (x5 + (2 : Int32))).bind fun q11 => L_X6_run_77 rec (L_X6_run_14 rec n) FU (u2 X 31 3 ((X 31 3) + (1 : Int32))) x3 x4 x5 x6 q11 (0 : Int32)) else ((f_X6_runStep (u2 X 31 3 ((X 31 3) + (1 : Int32))) x5).bind fun q7 => if q7.2 = 0 then (if q7.2 = 0 then ((L_X6_run_14 rec n) (u2 (u2 q7.1 31 4 ((q7.1 31 4) + (0 : Int32))) 31 5 (((u2 q7.1 31 4 ((q7.1 31 4) + (0 : Int32))) 31 5) + (1 : Int32))) x3 x4 (x5 + (4 : Int32)) (x6 + (1 : Int32))) else ((L_X6_run_14 rec n) (u2 (u2 q7.1 31 4 ((q7.1 31 4) + (0 : Int32))) 31 5 (((u2 q7.1 31 4 ((q7.1 31 4) + (0 : Int32))) 31 5) + (0 : Int32))) x3 x4 (x5 + (4 : Int32)) (x6 + (1 : Int32)))) else (if q7.2 = 0 then ((L_X6_run_14 rec n) (u2 (u2 q7.1 31 4 ((q7.1 31 4) + (1 : Int32))) 31 5 (((u2 q7.1 31 4 ((q7.1 31 4) + (1 : Int32))) 31 5) + (1 : Int32))) x3 x4 (x5 + (4 : Int32)) (x6 + (1 : Int32))) else ((L_X6_run_14 rec n) (u2 (u2 q7.1 31 4 ((q7.1 31 4) + (1 : Int32))) 31 5 (((u2 q7.1 31 4 ((q7.1 31 4) + (1 : Int32))) 31 5) + (0 : Int32))) x3 x4 (x5 + (4 : Int32)) (x6 + (1 : Int32))))))))
def f_X6_run : Nat → TX → Int32 → Int32 → Int32 → Option (TX)
  | 0 => fun _ _ _ _ => none
  | d + 1 => fun X x2 x3 x4 => if x4 ≤ (6 : Int32) then (L_X6_run_14 (f_X6_run d) FU X x3 x4 x2 (0 : Int32)) else (some X)
section
variable {G : GP} {l : Launch}
set_option maxRecDepth 20000 in
set_option maxHeartbeats 2000000 in
theorem wL_X6_run_77 {rec : TX → Int32 → Int32 → Int32 → Option (TX)} {d : Nat} (hrec : ∀ {X M : TX} {L : TL} {x2 : Int32} {x3 : Int32} {x4 : Int32} {ro : TX}, rec X x2 x3 x4 = some ro → CTv G l yX6_run cX6_run 9 none (7 + 7 * d) (169 + 169 * d) [.ref (gA G 31), .ref (gA G 33), .int x2, .int x3, .int x4] X M L ro M L) {p : Program} {e : Env} {s : State} {m : MethodId} {args : Array Value} {below : List Frame} {meth : Method} {c : Code} (C : Cx G p s m args c cX6_run 9 RX6) (hr : meth.sig.returnType = none) (hlk : meth.locks = false) {ro : TX} {k_14 : TX → Int32 → Int32 → Int32 → Int32 → Option (TX)} (hk_14 : ∀ (X : TX) (M : TX) (L : TL) (x3 : Int32) (x4 : Int32) (x5 : Int32) (x6 : Int32) (H : Heap) (locs : List Loc) (ls : Array Slot), Wh G s X M L H locs → lv_has ls 9 [(0, .ref (gA G 31)), (1, .ref (gA G 33)), (3, .int x3), (4, .int x4), (5, .int x5), (6, .int x6)] → k_14 X x3 x4 x5 x6 = some ro → W p l e (rz (7 + 7 * (d + 1)) (169 + 169 * (d + 1))) s m args below meth c H locs 0 0 (MQ below (Dv G ro M L) args s 0 0 (AB G)) (F0 m 14 ls [])) : ∀ (n : Nat), ∀ (X : TX) (M : TX) (L : TL) (x3 : Int32) (x4 : Int32) (x5 : Int32) (x6 : Int32) (x7 : Int32) (x8 : Int32) (H : Heap) (locs : List Loc) (ls : Array Slot), Wh G s X M L H locs → lv_has ls 9 [(0, .ref (gA G 31)), (1, .ref (gA G 33)), (3, .int x3), (4, .int x4), (5, .int x5), (6, .int x6), (7, .int x7), (8, .int x8)] → L_X6_run_77 rec k_14 n X x3 x4 x5 x6 x7 x8 = some ro → W p l e (rz (7 + 7 * (d + 1)) (169 + 169 * (d + 1))) s m args below meth c H locs 0 0 (MQ below (Dv G ro M L) args s 0 0 (AB G)) (F0 m 77 ls []) := by
  intro n
  induction n with
  | zero =>
    intro X M L x3 x4 x5 x6 x7 x8 H locs ls hw hl hf
    cases hf
  | succ n hk_77 =>
    intro X M L x3 x4 x5 x6 x7 x8 H locs ls hw hl hf
    rw [L_X6_run_77] at hf
    refine lv_iload C.1.1 C.1.2.1 dX6_run_77 (lv_at hl 7 rfl) ?_
    refine lv_aload_n C.1.1 C.1.2.1 dX6_run_79 rfl (lv_at hl 0 rfl) ?_
    refine x_ref C hw fX_31_0 flX6_9 dX6_run_80 ?_
    refine lv_iload C.1.1 C.1.2.1 dX6_run_83 (lv_at hl 4 rfl) ?_
    refine lv_iconst (v := (1 : Int32)) C.1.1 C.1.2.1 dX6_run_85 rfl ?_
    refine lv_iadd C.1.1 C.1.2.1 dX6_run_86 ?_
    obtain ⟨q12, h12, hf⟩ := o_bind hf
    refine aft_i hw (run_S C hw clX6_89 (As := [.ref (gA G 32), .int (x5 + (1 : Int32))]) (rest := [.int x8]) (c_X8_at aX_32 h12) hl.1 rfl ⟨(by show 0 + 1 ≤ 7 + 7 * (d + 1); omega), (by show 8 + (2 + 11) + 0 ≤ 169 + 169 * (d + 1); omega)⟩ ⟨Nat.zero_le _, Nat.zero_le _⟩ rfl (Nat.le_of_ble_eq_true rfl) dX6_run_87) (fun H locs hw => ?_)
    refine lv_icmp_ge (tgt := 114) C.1.1 C.1.2.1 dX6_run_90 (by decide) (fun c13 => ?_) (fun c13 => ?_)
    · have hf := o_t hf c13
      refine lv_iload C.1.1 C.1.2.1 dX6_run_114 (lv_at hl 6 rfl) ?_
      refine lv_istore (lv' := [(5, .int x7), (0, .ref (gA G 31)), (1, .ref (gA G 33)), (3, .int x3), (4, .int x4), (6, .int x6), (7, .int x7), (8, .int x8)]) C.1.1 C.1.2.1 dX6_run_116 hl (by decide) rfl (fun ls hl => ?_)
      refine lv_goto (tgt := 171) C.1.1 C.1.2.1 dX6_run_118 (by decide) ?_
      refine lv_iinc (v := (x6 + (1 : Int32))) (lv' := [(6, .int (x6 + (1 : Int32))), (5, .int x7), (0, .ref (gA G 31)), (1, .ref (gA G 33)), (3, .int x3), (4, .int x4), (7, .int x7), (8, .int x8)]) C.1.1 C.1.2.1 dX6_run_171 hl (k := 5) rfl rfl (by decide) rfl (fun ls hl => ?_)
      refine lv_goto (tgt := 14) C.1.1 C.1.2.1 dX6_run_174 (by decide) ?_
      exact hk_14 X M L x3 x4 x7 (x6 + (1 : Int32)) _ _ _ hw (lv_sub hl [2, 3, 4, 5, 1, 0] rfl) hf
    · have hf := o_f hf c13
      refine lv_aload_n C.1.1 C.1.2.1 dX6_run_93 rfl (lv_at hl 0 rfl) ?_
      refine lv_aload_n C.1.1 C.1.2.1 dX6_run_94 rfl (lv_at hl 1 rfl) ?_
      refine lv_iload C.1.1 C.1.2.1 dX6_run_95 (lv_at hl 4 rfl) ?_
      refine lv_iconst (v := (4 : Int32)) C.1.1 C.1.2.1 dX6_run_97 rfl ?_
      refine lv_iadd C.1.1 C.1.2.1 dX6_run_98 ?_
      refine lv_iload C.1.1 C.1.2.1 dX6_run_99 (lv_at hl 6 rfl) ?_
      refine lv_iload C.1.1 C.1.2.1 dX6_run_101 (lv_at hl 3 rfl) ?_
      refine lv_iconst (v := (1 : Int32)) C.1.1 C.1.2.1 dX6_run_103 rfl ?_
      refine lv_iadd C.1.1 C.1.2.1 dX6_run_104 ?_
      obtain ⟨q14, h14, hf⟩ := o_bind hf
      refine aft_v hw (run_S C hw clX6_93 (As := [.ref (gA G 31), .ref (gA G 33), .int (x5 + (4 : Int32)), .int x7, .int (x4 + (1 : Int32))]) (rest := []) (hrec h14) hl.1 rfl ⟨(by show (7 + 7 * d) + 1 ≤ 7 + 7 * (d + 1); omega), (by show 8 + (9 + 11) + (169 + 169 * d) ≤ 169 + 169 * (d + 1); omega)⟩ ⟨Nat.zero_le _, Nat.zero_le _⟩ rfl (Nat.le_of_ble_eq_true rfl) dX6_run_105) (fun H locs hw => ?_)
      refine lv_iinc (v := (x8 + (1 : Int32))) (lv' := [(8, .int (x8 + (1 : Int32))), (0, .ref (gA G 31)), (1, .ref (gA G 33)), (3, .int x3), (4, .int x4), (5, .int x5), (6, .int x6), (7, .int x7)]) C.1.1 C.1.2.1 dX6_run_108 hl (k := 7) rfl rfl (by decide) rfl (fun ls hl => ?_)
      refine lv_goto (tgt := 77) C.1.1 C.1.2.1 dX6_run_111 (by decide) ?_
      exact hk_77 q14 M L x3 x4 x5 x6 x7 (x8 + (1 : Int32)) _ _ _ hw (lv_sub hl [1, 2, 3, 4, 5, 6, 7, 0] rfl) hf
set_option maxRecDepth 20000 in
set_option maxHeartbeats 2000000 in
theorem wL_X6_run_14 {rec : TX → Int32 → Int32 → Int32 → Option (TX)} {d : Nat} (hrec : ∀ {X M : TX} {L : TL} {x2 : Int32} {x3 : Int32} {x4 : Int32} {ro : TX}, rec X x2 x3 x4 = some ro → CTv G l yX6_run cX6_run 9 none (7 + 7 * d) (169 + 169 * d) [.ref (gA G 31), .ref (gA G 33), .int x2, .int x3, .int x4] X M L ro M L) {p : Program} {e : Env} {s : State} {m : MethodId} {args : Array Value} {below : List Frame} {meth : Method} {c : Code} (C : Cx G p s m args c cX6_run 9 RX6) (hr : meth.sig.returnType = none) (hlk : meth.locks = false) {ro : TX} : ∀ (n : Nat), ∀ (X : TX) (M : TX) (L : TL) (x3 : Int32) (x4 : Int32) (x5 : Int32) (x6 : Int32) (H : Heap) (locs : List Loc) (ls : Array Slot), Wh G s X M L H locs → lv_has ls 9 [(0, .ref (gA G 31)), (1, .ref (gA G 33)), (3, .int x3), (4, .int x4), (5, .int x5), (6, .int x6)] → L_X6_run_14 rec n X x3 x4 x5 x6 = some ro → W p l e (rz (7 + 7 * (d + 1)) (169 + 169 * (d + 1))) s m args below meth c H locs 0 0 (MQ below (Dv G ro M L) args s 0 0 (AB G)) (F0 m 14 ls []) := by
  intro n
  induction n with
  | zero =>
    intro X M L x3 x4 x5 x6 H locs ls hw hl hf
    cases hf
  | succ n hk_14 =>
    intro X M L x3 x4 x5 x6 H locs ls hw hl hf
    rw [L_X6_run_14] at hf
    refine lv_iload C.1.1 C.1.2.1 dX6_run_14 (lv_at hl 5 rfl) ?_
    refine lv_sipush (v := (200 : Int32)) C.1.1 C.1.2.1 dX6_run_16 rfl ?_
    refine lv_icmp_ge (tgt := 177) C.1.1 C.1.2.1 dX6_run_19 (by decide) (fun c2 => ?_) (fun c2 => ?_)
    · have hf := o_t hf c2
      obtain rfl := Option.some.inj hf
      exact ret_v C hr hlk hw dX6_run_177
    · have hf := o_f hf c2
      refine lv_iload C.1.1 C.1.2.1 dX6_run_22 (lv_at hl 4 rfl) ?_
      refine lv_iload_n C.1.1 C.1.2.1 dX6_run_24 rfl (lv_at hl 2 rfl) ?_
      refine lv_icmp_ge (tgt := 177) C.1.1 C.1.2.1 dX6_run_25 (by decide) (fun c3 => ?_) (fun c3 => ?_)
      · have hf := o_t hf c3
        obtain rfl := Option.some.inj hf
        exact ret_v C hr hlk hw dX6_run_177
      · have hf := o_f hf c3
        refine lv_aload_n C.1.1 C.1.2.1 dX6_run_28 rfl (lv_at hl 0 rfl) ?_
        refine x_get C hw iX_31_3 flX6_19 dX6_run_29 ?_
        refine lv_sipush (v := (200 : Int32)) C.1.1 C.1.2.1 dX6_run_32 rfl ?_
        refine lv_icmp_ge (tgt := 177) C.1.1 C.1.2.1 dX6_run_35 (by decide) (fun c4 => ?_) (fun c4 => ?_)
        · have hf := o_t hf c4
          obtain rfl := Option.some.inj hf
          exact ret_v C hr hlk hw dX6_run_177
        · have hf := o_f hf c4
          refine lv_aload_n C.1.1 C.1.2.1 dX6_run_38 rfl (lv_at hl 0 rfl) ?_
          refine lv_dup C.1.1 C.1.2.1 dX6_run_39 rfl ?_
          refine x_get C hw iX_31_3 flX6_19 dX6_run_40 ?_
          refine lv_iconst (v := (1 : Int32)) C.1.1 C.1.2.1 dX6_run_43 rfl ?_
          refine lv_iadd C.1.1 C.1.2.1 dX6_run_44 ?_
          refine x_put C hw iX_31_3 flX6_19 dX6_run_45 (fun H locs hw => ?_)
          refine lv_aload_n C.1.1 C.1.2.1 dX6_run_48 rfl (lv_at hl 0 rfl) ?_
          refine x_ref C hw fX_31_0 flX6_9 dX6_run_49 ?_
          refine lv_iload C.1.1 C.1.2.1 dX6_run_52 (lv_at hl 4 rfl) ?_
          obtain ⟨q5, h5, hf⟩ := o_bind hf
          refine aft_i hw (run_S C hw clX6_89 (As := [.ref (gA G 32), .int x5]) (rest := []) (c_X8_at aX_32 h5) hl.1 rfl ⟨(by show 0 + 1 ≤ 7 + 7 * (d + 1); omega), (by show 8 + (2 + 11) + 0 ≤ 169 + 169 * (d + 1); omega)⟩ ⟨Nat.zero_le _, Nat.zero_le _⟩ rfl (Nat.le_of_ble_eq_true rfl) dX6_run_54) (fun H locs hw => ?_)
          refine lv_iconst (v := (5 : Int32)) C.1.1 C.1.2.1 dX6_run_57 rfl ?_
          refine lv_icmp_ne (tgt := 121) C.1.1 C.1.2.1 dX6_run_58 (by decide) (fun c6 => ?_) (fun c6 => ?_)
          · have hf := o_f hf c6
            refine lv_aload_n C.1.1 C.1.2.1 dX6_run_121 rfl (lv_at hl 0 rfl) ?_
            refine lv_aload_n C.1.1 C.1.2.1 dX6_run_122 rfl (lv_at hl 1 rfl) ?_
            refine lv_iload C.1.1 C.1.2.1 dX6_run_123 (lv_at hl 4 rfl) ?_
            obtain ⟨q7, h7, hf⟩ := o_bind hf
            refine aft_i hw (run_VX C hw clX6_97 (As := [.ref (gA G 33), .int x5]) (rest := []) oX_31 (c_X6_runStep h7) rfl hl.1 rfl ⟨(by show 6 + 1 ≤ 7 + 7 * (d + 1); omega), (by show 8 + (3 + 11) + 147 ≤ 169 + 169 * (d + 1); omega)⟩ ⟨Nat.zero_le _, Nat.zero_le _⟩ rfl (Nat.le_of_ble_eq_true rfl) dX6_run_125) (fun H locs hw => ?_)
            refine lv_istore (lv' := [(7, .int q7.2), (0, .ref (gA G 31)), (1, .ref (gA G 33)), (3, .int x3), (4, .int x4), (5, .int x5), (6, .int x6)]) C.1.1 C.1.2.1 dX6_run_128 hl (by decide) rfl (fun ls hl => ?_)
            refine lv_aload_n C.1.1 C.1.2.1 dX6_run_130 rfl (lv_at hl 1 rfl) ?_
            refine lv_dup C.1.1 C.1.2.1 dX6_run_131 rfl ?_
            refine x_get C hw iX_31_4 flX6_22 dX6_run_132 ?_
            refine lv_iload C.1.1 C.1.2.1 dX6_run_135 (lv_at hl 0 rfl) ?_
            refine lv_if_eq (tgt := 144) C.1.1 C.1.2.1 dX6_run_137 (by decide) (fun c8 => ?_) (fun c8 => ?_)
            · have hf := o_t hf c8
              refine lv_iconst (v := (0 : Int32)) C.1.1 C.1.2.1 dX6_run_144 rfl ?_
              refine lv_iadd C.1.1 C.1.2.1 dX6_run_145 ?_
              refine x_put C hw iX_31_4 flX6_22 dX6_run_146 (fun H locs hw => ?_)
              refine lv_aload_n C.1.1 C.1.2.1 dX6_run_149 rfl (lv_at hl 1 rfl) ?_
              refine lv_dup C.1.1 C.1.2.1 dX6_run_150 rfl ?_
              refine x_get C hw iX_31_5 flX6_25 dX6_run_151 ?_
              refine lv_iload C.1.1 C.1.2.1 dX6_run_154 (lv_at hl 0 rfl) ?_
              refine lv_if_eq (tgt := 163) C.1.1 C.1.2.1 dX6_run_156 (by decide) (fun c9 => ?_) (fun c9 => ?_)
              · have hf := o_t hf c9
                refine lv_iconst (v := (1 : Int32)) C.1.1 C.1.2.1 dX6_run_163 rfl ?_
                refine lv_iadd C.1.1 C.1.2.1 dX6_run_164 ?_
                refine x_put C hw iX_31_5 flX6_25 dX6_run_165 (fun H locs hw => ?_)
                refine lv_iinc (v := (x5 + (4 : Int32))) (lv' := [(5, .int (x5 + (4 : Int32))), (7, .int q7.2), (0, .ref (gA G 31)), (1, .ref (gA G 33)), (3, .int x3), (4, .int x4), (6, .int x6)]) C.1.1 C.1.2.1 dX6_run_168 hl (k := 5) rfl rfl (by decide) rfl (fun ls hl => ?_)
                refine lv_iinc (v := (x6 + (1 : Int32))) (lv' := [(6, .int (x6 + (1 : Int32))), (5, .int (x5 + (4 : Int32))), (7, .int q7.2), (0, .ref (gA G 31)), (1, .ref (gA G 33)), (3, .int x3), (4, .int x4)]) C.1.1 C.1.2.1 dX6_run_171 hl (k := 6) rfl rfl (by decide) rfl (fun ls hl => ?_)
                refine lv_goto (tgt := 14) C.1.1 C.1.2.1 dX6_run_174 (by decide) ?_
                exact hk_14 (u2 (u2 q7.1 31 4 ((q7.1 31 4) + (0 : Int32))) 31 5 (((u2 q7.1 31 4 ((q7.1 31 4) + (0 : Int32))) 31 5) + (1 : Int32))) M L x3 x4 (x5 + (4 : Int32)) (x6 + (1 : Int32)) _ _ _ hw (lv_sub hl [3, 4, 5, 6, 1, 0] rfl) hf
              · have hf := o_f hf c9
                refine lv_iconst (v := (0 : Int32)) C.1.1 C.1.2.1 dX6_run_159 rfl ?_
                refine lv_goto (tgt := 164) C.1.1 C.1.2.1 dX6_run_160 (by decide) ?_
                refine lv_iadd C.1.1 C.1.2.1 dX6_run_164 ?_
                refine x_put C hw iX_31_5 flX6_25 dX6_run_165 (fun H locs hw => ?_)
                refine lv_iinc (v := (x5 + (4 : Int32))) (lv' := [(5, .int (x5 + (4 : Int32))), (7, .int q7.2), (0, .ref (gA G 31)), (1, .ref (gA G 33)), (3, .int x3), (4, .int x4), (6, .int x6)]) C.1.1 C.1.2.1 dX6_run_168 hl (k := 5) rfl rfl (by decide) rfl (fun ls hl => ?_)
                refine lv_iinc (v := (x6 + (1 : Int32))) (lv' := [(6, .int (x6 + (1 : Int32))), (5, .int (x5 + (4 : Int32))), (7, .int q7.2), (0, .ref (gA G 31)), (1, .ref (gA G 33)), (3, .int x3), (4, .int x4)]) C.1.1 C.1.2.1 dX6_run_171 hl (k := 6) rfl rfl (by decide) rfl (fun ls hl => ?_)
                refine lv_goto (tgt := 14) C.1.1 C.1.2.1 dX6_run_174 (by decide) ?_
                exact hk_14 (u2 (u2 q7.1 31 4 ((q7.1 31 4) + (0 : Int32))) 31 5 (((u2 q7.1 31 4 ((q7.1 31 4) + (0 : Int32))) 31 5) + (0 : Int32))) M L x3 x4 (x5 + (4 : Int32)) (x6 + (1 : Int32)) _ _ _ hw (lv_sub hl [3, 4, 5, 6, 1, 0] rfl) hf
            · have hf := o_f hf c8
              refine lv_iconst (v := (1 : Int32)) C.1.1 C.1.2.1 dX6_run_140 rfl ?_
              refine lv_goto (tgt := 145) C.1.1 C.1.2.1 dX6_run_141 (by decide) ?_
              refine lv_iadd C.1.1 C.1.2.1 dX6_run_145 ?_
              refine x_put C hw iX_31_4 flX6_22 dX6_run_146 (fun H locs hw => ?_)
              refine lv_aload_n C.1.1 C.1.2.1 dX6_run_149 rfl (lv_at hl 1 rfl) ?_
              refine lv_dup C.1.1 C.1.2.1 dX6_run_150 rfl ?_
              refine x_get C hw iX_31_5 flX6_25 dX6_run_151 ?_
              refine lv_iload C.1.1 C.1.2.1 dX6_run_154 (lv_at hl 0 rfl) ?_
              refine lv_if_eq (tgt := 163) C.1.1 C.1.2.1 dX6_run_156 (by decide) (fun c10 => ?_) (fun c10 => ?_)
              · have hf := o_t hf c10
                refine lv_iconst (v := (1 : Int32)) C.1.1 C.1.2.1 dX6_run_163 rfl ?_
                refine lv_iadd C.1.1 C.1.2.1 dX6_run_164 ?_
                refine x_put C hw iX_31_5 flX6_25 dX6_run_165 (fun H locs hw => ?_)
                refine lv_iinc (v := (x5 + (4 : Int32))) (lv' := [(5, .int (x5 + (4 : Int32))), (7, .int q7.2), (0, .ref (gA G 31)), (1, .ref (gA G 33)), (3, .int x3), (4, .int x4), (6, .int x6)]) C.1.1 C.1.2.1 dX6_run_168 hl (k := 5) rfl rfl (by decide) rfl (fun ls hl => ?_)
                refine lv_iinc (v := (x6 + (1 : Int32))) (lv' := [(6, .int (x6 + (1 : Int32))), (5, .int (x5 + (4 : Int32))), (7, .int q7.2), (0, .ref (gA G 31)), (1, .ref (gA G 33)), (3, .int x3), (4, .int x4)]) C.1.1 C.1.2.1 dX6_run_171 hl (k := 6) rfl rfl (by decide) rfl (fun ls hl => ?_)
                refine lv_goto (tgt := 14) C.1.1 C.1.2.1 dX6_run_174 (by decide) ?_
                exact hk_14 (u2 (u2 q7.1 31 4 ((q7.1 31 4) + (1 : Int32))) 31 5 (((u2 q7.1 31 4 ((q7.1 31 4) + (1 : Int32))) 31 5) + (1 : Int32))) M L x3 x4 (x5 + (4 : Int32)) (x6 + (1 : Int32)) _ _ _ hw (lv_sub hl [3, 4, 5, 6, 1, 0] rfl) hf
              · have hf := o_f hf c10
                refine lv_iconst (v := (0 : Int32)) C.1.1 C.1.2.1 dX6_run_159 rfl ?_
                refine lv_goto (tgt := 164) C.1.1 C.1.2.1 dX6_run_160 (by decide) ?_
                refine lv_iadd C.1.1 C.1.2.1 dX6_run_164 ?_
                refine x_put C hw iX_31_5 flX6_25 dX6_run_165 (fun H locs hw => ?_)
                refine lv_iinc (v := (x5 + (4 : Int32))) (lv' := [(5, .int (x5 + (4 : Int32))), (7, .int q7.2), (0, .ref (gA G 31)), (1, .ref (gA G 33)), (3, .int x3), (4, .int x4), (6, .int x6)]) C.1.1 C.1.2.1 dX6_run_168 hl (k := 5) rfl rfl (by decide) rfl (fun ls hl => ?_)
                refine lv_iinc (v := (x6 + (1 : Int32))) (lv' := [(6, .int (x6 + (1 : Int32))), (5, .int (x5 + (4 : Int32))), (7, .int q7.2), (0, .ref (gA G 31)), (1, .ref (gA G 33)), (3, .int x3), (4, .int x4)]) C.1.1 C.1.2.1 dX6_run_171 hl (k := 6) rfl rfl (by decide) rfl (fun ls hl => ?_)
                refine lv_goto (tgt := 14) C.1.1 C.1.2.1 dX6_run_174 (by decide) ?_
                exact hk_14 (u2 (u2 q7.1 31 4 ((q7.1 31 4) + (1 : Int32))) 31 5 (((u2 q7.1 31 4 ((q7.1 31 4) + (1 : Int32))) 31 5) + (0 : Int32))) M L x3 x4 (x5 + (4 : Int32)) (x6 + (1 : Int32)) _ _ _ hw (lv_sub hl [3, 4, 5, 6, 1, 0] rfl) hf
          · have hf := o_t hf c6
            refine lv_aload_n C.1.1 C.1.2.1 dX6_run_61 rfl (lv_at hl 0 rfl) ?_
            refine x_ref C hw fX_31_0 flX6_9 dX6_run_62 ?_
            refine lv_iload C.1.1 C.1.2.1 dX6_run_65 (lv_at hl 4 rfl) ?_
            refine lv_iconst (v := (2 : Int32)) C.1.1 C.1.2.1 dX6_run_67 rfl ?_
            refine lv_iadd C.1.1 C.1.2.1 dX6_run_68 ?_
            obtain ⟨q11, h11, hf⟩ := o_bind hf
            refine aft_i hw (run_S C hw clX6_89 (As := [.ref (gA G 32), .int (x5 + (2 : Int32))]) (rest := []) (c_X8_at aX_32 h11) hl.1 rfl ⟨(by show 0 + 1 ≤ 7 + 7 * (d + 1); omega), (by show 8 + (2 + 11) + 0 ≤ 169 + 169 * (d + 1); omega)⟩ ⟨Nat.zero_le _, Nat.zero_le _⟩ rfl (Nat.le_of_ble_eq_true rfl) dX6_run_69) (fun H locs hw => ?_)
            refine lv_istore (lv' := [(7, .int q11), (0, .ref (gA G 31)), (1, .ref (gA G 33)), (3, .int x3), (4, .int x4), (5, .int x5), (6, .int x6)]) C.1.1 C.1.2.1 dX6_run_72 hl (by decide) rfl (fun ls hl => ?_)
            refine lv_iconst (v := (0 : Int32)) C.1.1 C.1.2.1 dX6_run_74 rfl ?_
            refine lv_istore (lv' := [(8, .int (0 : Int32)), (7, .int q11), (0, .ref (gA G 31)), (1, .ref (gA G 33)), (3, .int x3), (4, .int x4), (5, .int x5), (6, .int x6)]) C.1.1 C.1.2.1 dX6_run_75 hl (by decide) rfl (fun ls hl => ?_)
            exact wL_X6_run_77 hrec C hr hlk hk_14 FU (u2 X 31 3 ((X 31 3) + (1 : Int32))) M L x3 x4 x5 x6 q11 (0 : Int32) _ _ _ hw (lv_sub hl [2, 3, 4, 5, 6, 7, 1, 0] rfl) hf
set_option maxRecDepth 20000 in
set_option maxHeartbeats 2000000 in
theorem c_X6_run : ∀ (d : Nat), ∀ {X M : TX} {L : TL} {x2 : Int32} {x3 : Int32} {x4 : Int32} {ro : TX}, f_X6_run d X x2 x3 x4 = some ro → CTv G l yX6_run cX6_run 9 none (7 + 7 * d) (169 + 169 * d) [.ref (gA G 31), .ref (gA G 33), .int x2, .int x3, .int x4] X M L ro M L := by
  intro d
  induction d with
  | zero =>
    intro X M L x2 x3 x4 ro hf
    cases hf
  | succ d hrec =>
    intro X M L x2 x3 x4 ro hf
    rw [f_X6_run] at hf
    refine ct_of (by decide +kernel) (Nat.le_of_ble_eq_true rfl) (fun p e s m args below meth c H locs ls C hr hlk hw hl => ?_)
    have C : Cx G p s m args c cX6_run 9 RX6 := C
    have hl : lv_has ls 9 [(0, .ref (gA G 31)), (1, .ref (gA G 33)), (2, .int x2), (3, .int x3), (4, .int x4)] := hl
    refine lv_iload C.1.1 C.1.2.1 dX6_run_0 (lv_at hl 4 rfl) ?_
    refine lv_bipush (v := (6 : Int32)) C.1.1 C.1.2.1 dX6_run_2 rfl ?_
    refine lv_icmp_le (tgt := 8) C.1.1 C.1.2.1 dX6_run_4 (by decide) (fun c1 => ?_) (fun c1 => ?_)
    · have hf := o_t hf c1
      refine lv_iload_n C.1.1 C.1.2.1 dX6_run_8 rfl (lv_at hl 2 rfl) ?_
      refine lv_istore (lv' := [(5, .int x2), (0, .ref (gA G 31)), (1, .ref (gA G 33)), (2, .int x2), (3, .int x3), (4, .int x4)]) C.1.1 C.1.2.1 dX6_run_9 hl (by decide) rfl (fun ls hl => ?_)
      refine lv_iconst (v := (0 : Int32)) C.1.1 C.1.2.1 dX6_run_11 rfl ?_
      refine lv_istore (lv' := [(6, .int (0 : Int32)), (5, .int x2), (0, .ref (gA G 31)), (1, .ref (gA G 33)), (2, .int x2), (3, .int x3), (4, .int x4)]) C.1.1 C.1.2.1 dX6_run_12 hl (by decide) rfl (fun ls hl => ?_)
      exact wL_X6_run_14 hrec C hr hlk FU X M L x3 x4 x2 (0 : Int32) _ _ _ hw (lv_sub hl [2, 3, 5, 6, 1, 0] rfl) hf
    · have hf := o_f hf c1
      obtain rfl := Option.some.inj hf
      exact ret_v C hr hlk hw dX6_run_7
end
/-! WinnerDraws.work(I)I (('o', 'X', 0) ('i',)) -/
def f_X8_work (X : TX) (x1 : Int32) : Option (TX × (Int32 ⊕ Nat)) := (f_X8_needText X x1 (150 : Int32)).bind fun q1 => xb q1 (fun _ _ => (f_X7_open q1.1 x1).bind fun q2 => if (q2 37 3) < (16 : Int32) then ((f_X6_clear q2 (q2 3 5)).bind fun q4 => (f_X6_readSteps 8 q4 (0 : Int32)).bind fun q5 => if q5.2 = 0 then (some (q5.1, .inl ((q5.1 1 6) - (10 : Int32)))) else ((f_X0_keepWork q5.1).bind fun q7 => (f_X6_run 8 q7 (0 : Int32) (q7 31 1) (0 : Int32)).bind fun q8 => some ((u2 q8 0 11 (q8 31 5)), .inl ((u2 q8 0 11 (q8 31 5)) 31 4)))) else (some (q2, .inl (-20 : Int32))))
section
variable {G : GP} {l : Launch}
set_option maxRecDepth 20000 in
set_option maxHeartbeats 2000000 in
theorem c_X8_work (hst : l.stackTraces = false)  {X M : TX} {L : TL} {x1 : Int32} {ro : TX × (Int32 ⊕ Nat)} (hf : f_X8_work X x1 = some ro) : CXi G l yX8_work cX8_work 2 (some .int) 73 2058 1 [.ref (gA G 0), .int x1] X M L ro := by
  unfold f_X8_work at hf
  refine cx_of (by decide +kernel) (Nat.le_of_ble_eq_true rfl) (fun p e s m args below meth c H locs ls C hr hlk hnt hw hl => ?_)
  have C : Cx G p s m args c cX8_work 2 RX8 := C
  have hl : lv_has ls 2 [(0, .ref (gA G 0)), (1, .int x1)] := hl
  refine lv_aload_n C.1.1 C.1.2.1 dX8_work_0 rfl (lv_at hl 0 rfl) ?_
  refine lv_iload_n C.1.1 C.1.2.1 dX8_work_1 rfl (lv_at hl 1 rfl) ?_
  refine lv_sipush (v := (150 : Int32)) C.1.1 C.1.2.1 dX8_work_2 rfl ?_
  obtain ⟨q1, h1, hf⟩ := o_bind hf
  refine aftx_v hw (runx_VX C hw clX8_86 (tb2 208 rfl rfl) (As := [.int x1, .int (150 : Int32)]) (rest := []) oX_0 (c_X8_needText hst h1) rfl hl.1 rfl ⟨(Nat.le_of_ble_eq_true rfl), (Nat.le_of_ble_eq_true rfl)⟩ ⟨Nat.le_of_ble_eq_true rfl, Nat.le_of_ble_eq_true rfl⟩ rfl (Nat.le_of_ble_eq_true rfl) dX8_work_5) hf hnt hlk (Nat.le_of_ble_eq_true rfl) (Nat.le_of_ble_eq_true rfl) (fun hf H locs hw => ?_)
  refine lv_aload_n C.1.1 C.1.2.1 dX8_work_8 rfl (lv_at hl 0 rfl) ?_
  refine x_ref C hw fX_0_0 flX8_12 dX8_work_9 ?_
  refine lv_iload_n C.1.1 C.1.2.1 dX8_work_12 rfl (lv_at hl 1 rfl) ?_
  obtain ⟨q2, h2, hf⟩ := o_bind hf
  refine aft_v hw (run_VX C hw clX8_90 (As := [.int x1]) (rest := []) oX_1 (c_X7_open h2) rfl hl.1 rfl ⟨(Nat.le_of_ble_eq_true rfl), (Nat.le_of_ble_eq_true rfl)⟩ ⟨Nat.le_of_ble_eq_true rfl, Nat.le_of_ble_eq_true rfl⟩ rfl (Nat.le_of_ble_eq_true rfl) dX8_work_13) (fun H locs hw => ?_)
  refine lv_aload_n C.1.1 C.1.2.1 dX8_work_16 rfl (lv_at hl 0 rfl) ?_
  refine x_ref C hw fX_0_10 flX8_74 dX8_work_17 ?_
  refine x_get C hw iX_37_3 flX8_119 dX8_work_20 ?_
  refine lv_bipush (v := (16 : Int32)) C.1.1 C.1.2.1 dX8_work_23 rfl ?_
  refine lv_icmp_lt (tgt := 31) C.1.1 C.1.2.1 dX8_work_25 (by decide) (fun c3 => ?_) (fun c3 => ?_)
  · have hf := o_t hf c3
    refine lv_aload_n C.1.1 C.1.2.1 dX8_work_31 rfl (lv_at hl 0 rfl) ?_
    refine x_ref C hw fX_0_7 flX8_49 dX8_work_32 ?_
    refine lv_aload_n C.1.1 C.1.2.1 dX8_work_35 rfl (lv_at hl 0 rfl) ?_
    refine x_ref C hw fX_0_1 flX8_19 dX8_work_36 ?_
    refine x_get C hw iX_3_5 flX8_112 dX8_work_39 ?_
    obtain ⟨q4, h4, hf⟩ := o_bind hf
    refine aft_v hw (run_VX C hw clX8_122 (As := [.int (q2 3 5)]) (rest := []) oX_31 (c_X6_clear h4) rfl hl.1 rfl ⟨(Nat.le_of_ble_eq_true rfl), (Nat.le_of_ble_eq_true rfl)⟩ ⟨Nat.le_of_ble_eq_true rfl, Nat.le_of_ble_eq_true rfl⟩ rfl (Nat.le_of_ble_eq_true rfl) dX8_work_42) (fun H locs hw => ?_)
    refine lv_aload_n C.1.1 C.1.2.1 dX8_work_45 rfl (lv_at hl 0 rfl) ?_
    refine x_ref C hw fX_0_7 flX8_49 dX8_work_46 ?_
    refine lv_aload_n C.1.1 C.1.2.1 dX8_work_49 rfl (lv_at hl 0 rfl) ?_
    refine x_ref C hw fX_0_0 flX8_12 dX8_work_50 ?_
    refine lv_iconst (v := (0 : Int32)) C.1.1 C.1.2.1 dX8_work_53 rfl ?_
    obtain ⟨q5, h5, hf⟩ := o_bind hf
    refine aft_i hw (run_VX C hw clX8_124 (As := [.ref (gA G 1), .int (0 : Int32)]) (rest := []) oX_31 (c_X6_readSteps 8 h5) rfl hl.1 rfl ⟨(Nat.le_of_ble_eq_true rfl), (Nat.le_of_ble_eq_true rfl)⟩ ⟨Nat.le_of_ble_eq_true rfl, Nat.le_of_ble_eq_true rfl⟩ rfl (Nat.le_of_ble_eq_true rfl) dX8_work_54) (fun H locs hw => ?_)
    refine lv_if_ne (tgt := 71) C.1.1 C.1.2.1 dX8_work_57 (by decide) (fun c6 => ?_) (fun c6 => ?_)
    · have hf := o_f hf c6
      refine lv_aload_n C.1.1 C.1.2.1 dX8_work_71 rfl (lv_at hl 0 rfl) ?_
      refine x_ref C hw fX_0_10 flX8_74 dX8_work_72 ?_
      refine lv_aload_n C.1.1 C.1.2.1 dX8_work_75 rfl (lv_at hl 0 rfl) ?_
      refine x_ref C hw fX_0_1 flX8_19 dX8_work_76 ?_
      obtain ⟨q7, h7, hf⟩ := o_bind hf
      refine aft_v hw (run_VX C hw clX8_128 (As := [.ref (gA G 3)]) (rest := []) oX_37 (c_X0_keepWork h7) rfl hl.1 rfl ⟨(Nat.le_of_ble_eq_true rfl), (Nat.le_of_ble_eq_true rfl)⟩ ⟨Nat.le_of_ble_eq_true rfl, Nat.le_of_ble_eq_true rfl⟩ rfl (Nat.le_of_ble_eq_true rfl) dX8_work_79) (fun H locs hw => ?_)
      refine lv_aload_n C.1.1 C.1.2.1 dX8_work_82 rfl (lv_at hl 0 rfl) ?_
      refine x_ref C hw fX_0_7 flX8_49 dX8_work_83 ?_
      refine lv_aload_n C.1.1 C.1.2.1 dX8_work_86 rfl (lv_at hl 0 rfl) ?_
      refine x_ref C hw fX_0_8 flX8_58 dX8_work_87 ?_
      refine lv_iconst (v := (0 : Int32)) C.1.1 C.1.2.1 dX8_work_90 rfl ?_
      refine lv_aload_n C.1.1 C.1.2.1 dX8_work_91 rfl (lv_at hl 0 rfl) ?_
      refine x_ref C hw fX_0_7 flX8_49 dX8_work_92 ?_
      refine x_get C hw iX_31_1 flX8_131 dX8_work_95 ?_
      refine lv_iconst (v := (0 : Int32)) C.1.1 C.1.2.1 dX8_work_98 rfl ?_
      obtain ⟨q8, h8, hf⟩ := o_bind hf
      refine aft_v hw (run_S C hw clX8_134 (As := [.ref (gA G 31), .ref (gA G 33), .int (0 : Int32), .int (q7 31 1), .int (0 : Int32)]) (rest := []) (c_X6_run 8 h8) hl.1 rfl ⟨(Nat.le_of_ble_eq_true rfl), (Nat.le_of_ble_eq_true rfl)⟩ ⟨Nat.le_of_ble_eq_true rfl, Nat.le_of_ble_eq_true rfl⟩ rfl (Nat.le_of_ble_eq_true rfl) dX8_work_99) (fun H locs hw => ?_)
      refine lv_aload_n C.1.1 C.1.2.1 dX8_work_102 rfl (lv_at hl 0 rfl) ?_
      refine lv_aload_n C.1.1 C.1.2.1 dX8_work_103 rfl (lv_at hl 0 rfl) ?_
      refine x_ref C hw fX_0_7 flX8_49 dX8_work_104 ?_
      refine x_get C hw iX_31_5 flX8_138 dX8_work_107 ?_
      refine x_put C hw iX_0_11 flX8_109 dX8_work_110 (fun H locs hw => ?_)
      refine lv_aload_n C.1.1 C.1.2.1 dX8_work_113 rfl (lv_at hl 0 rfl) ?_
      refine x_ref C hw fX_0_7 flX8_49 dX8_work_114 ?_
      refine x_get C hw iX_31_4 flX8_141 dX8_work_117 ?_
      exact retx_i C hr hlk hw (Option.some.inj hf).symm (Nat.le_of_ble_eq_true rfl) (Nat.le_of_ble_eq_true rfl) dX8_work_120
    · have hf := o_t hf c6
      refine lv_aload_n C.1.1 C.1.2.1 dX8_work_60 rfl (lv_at hl 0 rfl) ?_
      refine x_ref C hw fX_0_0 flX8_12 dX8_work_61 ?_
      refine x_get C hw iX_1_6 flX8_97 dX8_work_64 ?_
      refine lv_bipush (v := (10 : Int32)) C.1.1 C.1.2.1 dX8_work_67 rfl ?_
      refine lv_isub C.1.1 C.1.2.1 dX8_work_69 ?_
      exact retx_i C hr hlk hw (Option.some.inj hf).symm (Nat.le_of_ble_eq_true rfl) (Nat.le_of_ble_eq_true rfl) dX8_work_70
  · have hf := o_f hf c3
    refine lv_bipush (v := (-20 : Int32)) C.1.1 C.1.2.1 dX8_work_28 rfl ?_
    exact retx_i C hr hlk hw (Option.some.inj hf).symm (Nat.le_of_ble_eq_true rfl) (Nat.le_of_ble_eq_true rfl) dX8_work_30
end
/-! WinnerDraws$Book.hasLine(I)Z (('o', 'X', 29) ('i',)) -/
def f_X1_hasLine (X : TX) (x1 : Int32) : Option (Int32) := (f_X8_has (X 29 1) x1).bind fun q1 => if q1 &&& 1 = q1 then (some q1) else none
section
variable {G : GP} {l : Launch}
set_option maxRecDepth 20000 in
set_option maxHeartbeats 2000000 in
theorem c_X1_hasLine   {X M : TX} {L : TL} {x1 : Int32} {ro : Int32} (hf : f_X1_hasLine X x1 = some ro) : CTi G l yX1_hasLine cX1_hasLine 2 (some .boolean) 1 21 [.ref (gA G 29), .int x1] X M L X M L ro := by
  unfold f_X1_hasLine at hf
  refine ct_of (by decide +kernel) (Nat.le_of_ble_eq_true rfl) (fun p e s m args below meth c H locs ls C hr hlk hw hl => ?_)
  have C : Cx G p s m args c cX1_hasLine 2 RX1 := C
  have hl : lv_has ls 2 [(0, .ref (gA G 29)), (1, .int x1)] := hl
  refine lv_aload_n C.1.1 C.1.2.1 dX1_hasLine_0 rfl (lv_at hl 0 rfl) ?_
  refine x_get C hw iX_29_1 flX1_19 dX1_hasLine_1 ?_
  refine lv_iload_n C.1.1 C.1.2.1 dX1_hasLine_4 rfl (lv_at hl 1 rfl) ?_
  obtain ⟨q1, h1, hf⟩ := o_bind hf
  refine aft_i hw (run_S C hw clX1_66 (As := [.int (X 29 1), .int x1]) (rest := []) (c_X8_has h1) hl.1 rfl ⟨(Nat.le_of_ble_eq_true rfl), (Nat.le_of_ble_eq_true rfl)⟩ ⟨Nat.zero_le _, Nat.zero_le _⟩ rfl (Nat.le_of_ble_eq_true rfl) dX1_hasLine_5) (fun H locs hw => ?_)
  have g2 := (o_g hf).1
  have hf := (o_g hf).2
  obtain rfl := Option.some.inj hf
  exact ret_z (r := q1) C hr hlk hw (nar_z g2) dX1_hasLine_8
end
/-! WinnerDraws$Book.readLine(LWinnerDraws$Text;)Z (('o', 'X', 29) ('o', 'X', 1)) -/
def f_X1_readLine (X : TX) : Option (TX × Int32) := (f_X7_number X (3 : Int32)).bind fun q1 => if q1.2 = 0 then (some (q1.1, (0 : Int32))) else ((f_X1_hasLine q1.1 (q1.1 1 5)).bind fun q3 => if q3 = 0 then ((f_X7_number q1.1 (2 : Int32)).bind fun q5 => if q5.2 = 0 then (some (q5.1, (0 : Int32))) else (if (q5.1 1 5) = (2 : Int32) then ((f_X8_put 30 q5.1 (q1.1 1 5) (-1 : Int32)).bind fun q9 => some ((u2 q9 29 1 ((q9 29 1) ||| ((1 : Int32) <<< ((q1.1 1 5) &&& 31)))), (1 : Int32))) else ((f_X8_put 30 q5.1 (q1.1 1 5) (q5.1 1 5)).bind fun q8 => some ((u2 q8 29 1 ((q8 29 1) ||| ((1 : Int32) <<< ((q1.1 1 5) &&& 31)))), (1 : Int32))))) else ((f_X7_fail q1.1 (2 : Int32) (q1.1 1 4)).bind fun q10 => if q10.2 &&& 1 = q10.2 then (some (q10.1, q10.2)) else none))
section
variable {G : GP} {l : Launch}
set_option maxRecDepth 20000 in
set_option maxHeartbeats 2000000 in
theorem c_X1_readLine   {X M : TX} {L : TL}  {ro : TX × Int32} (hf : f_X1_readLine X = some ro) : CTi G l yX1_readLine cX1_readLine 3 (some .boolean) 3 62 [.ref (gA G 29), .ref (gA G 1)] X M L ro.1 M L ro.2 := by
  unfold f_X1_readLine at hf
  refine ct_of (by decide +kernel) (Nat.le_of_ble_eq_true rfl) (fun p e s m args below meth c H locs ls C hr hlk hw hl => ?_)
  have C : Cx G p s m args c cX1_readLine 3 RX1 := C
  have hl : lv_has ls 3 [(0, .ref (gA G 29)), (1, .ref (gA G 1))] := hl
  refine lv_aload_n C.1.1 C.1.2.1 dX1_readLine_0 rfl (lv_at hl 1 rfl) ?_
  refine lv_iconst (v := (3 : Int32)) C.1.1 C.1.2.1 dX1_readLine_1 rfl ?_
  obtain ⟨q1, h1, hf⟩ := o_bind hf
  refine aft_i hw (run_VX C hw clX1_40 (As := [.int (3 : Int32)]) (rest := []) oX_1 (c_X7_number h1) rfl hl.1 rfl ⟨(Nat.le_of_ble_eq_true rfl), (Nat.le_of_ble_eq_true rfl)⟩ ⟨Nat.zero_le _, Nat.zero_le _⟩ rfl (Nat.le_of_ble_eq_true rfl) dX1_readLine_2) (fun H locs hw => ?_)
  refine lv_if_ne (tgt := 10) C.1.1 C.1.2.1 dX1_readLine_5 (by decide) (fun c2 => ?_) (fun c2 => ?_)
  · have hf := o_f hf c2
    refine lv_aload_n C.1.1 C.1.2.1 dX1_readLine_10 rfl (lv_at hl 1 rfl) ?_
    refine x_get C hw iX_1_5 flX1_43 dX1_readLine_11 ?_
    refine lv_istore_n (lv' := [(2, .int (q1.1 1 5)), (0, .ref (gA G 29)), (1, .ref (gA G 1))]) C.1.1 C.1.2.1 dX1_readLine_14 rfl hl (by decide) rfl (fun ls hl => ?_)
    refine lv_aload_n C.1.1 C.1.2.1 dX1_readLine_15 rfl (lv_at hl 1 rfl) ?_
    refine lv_iload_n C.1.1 C.1.2.1 dX1_readLine_16 rfl (lv_at hl 0 rfl) ?_
    obtain ⟨q3, h3, hf⟩ := o_bind hf
    refine aft_i hw (run_VX C hw clX1_46 (As := [.int (q1.1 1 5)]) (rest := []) oX_29 (c_X1_hasLine h3) rfl hl.1 rfl ⟨(Nat.le_of_ble_eq_true rfl), (Nat.le_of_ble_eq_true rfl)⟩ ⟨Nat.zero_le _, Nat.zero_le _⟩ rfl (Nat.le_of_ble_eq_true rfl) dX1_readLine_17) (fun H locs hw => ?_)
    refine lv_if_eq (tgt := 33) C.1.1 C.1.2.1 dX1_readLine_20 (by decide) (fun c4 => ?_) (fun c4 => ?_)
    · have hf := o_t hf c4
      refine lv_aload_n C.1.1 C.1.2.1 dX1_readLine_33 rfl (lv_at hl 2 rfl) ?_
      refine lv_iconst (v := (2 : Int32)) C.1.1 C.1.2.1 dX1_readLine_34 rfl ?_
      obtain ⟨q5, h5, hf⟩ := o_bind hf
      refine aft_i hw (run_VX C hw clX1_40 (As := [.int (2 : Int32)]) (rest := []) oX_1 (c_X7_number h5) rfl hl.1 rfl ⟨(Nat.le_of_ble_eq_true rfl), (Nat.le_of_ble_eq_true rfl)⟩ ⟨Nat.zero_le _, Nat.zero_le _⟩ rfl (Nat.le_of_ble_eq_true rfl) dX1_readLine_35) (fun H locs hw => ?_)
      refine lv_if_ne (tgt := 43) C.1.1 C.1.2.1 dX1_readLine_38 (by decide) (fun c6 => ?_) (fun c6 => ?_)
      · have hf := o_f hf c6
        refine lv_aload_n C.1.1 C.1.2.1 dX1_readLine_43 rfl (lv_at hl 1 rfl) ?_
        refine x_ref C hw fX_29_0 flX1_9 dX1_readLine_44 ?_
        refine lv_iload_n C.1.1 C.1.2.1 dX1_readLine_47 rfl (lv_at hl 0 rfl) ?_
        refine lv_aload_n C.1.1 C.1.2.1 dX1_readLine_48 rfl (lv_at hl 2 rfl) ?_
        refine x_get C hw iX_1_5 flX1_43 dX1_readLine_49 ?_
        refine lv_iconst (v := (2 : Int32)) C.1.1 C.1.2.1 dX1_readLine_52 rfl ?_
        refine lv_icmp_ne (tgt := 60) C.1.1 C.1.2.1 dX1_readLine_53 (by decide) (fun c7 => ?_) (fun c7 => ?_)
        · have hf := o_f hf c7
          refine lv_aload_n C.1.1 C.1.2.1 dX1_readLine_60 rfl (lv_at hl 2 rfl) ?_
          refine x_get C hw iX_1_5 flX1_43 dX1_readLine_61 ?_
          obtain ⟨q8, h8, hf⟩ := o_bind hf
          refine aft_v hw (run_S C hw clX1_56 (As := [.ref (gA G 30), .int (q1.1 1 5), .int (q5.1 1 5)]) (rest := []) (c_X8_put aX_30 h8) hl.1 rfl ⟨(Nat.le_of_ble_eq_true rfl), (Nat.le_of_ble_eq_true rfl)⟩ ⟨Nat.zero_le _, Nat.zero_le _⟩ rfl (Nat.le_of_ble_eq_true rfl) dX1_readLine_64) (fun H locs hw => ?_)
          refine lv_aload_n C.1.1 C.1.2.1 dX1_readLine_67 rfl (lv_at hl 1 rfl) ?_
          refine lv_dup C.1.1 C.1.2.1 dX1_readLine_68 rfl ?_
          refine x_get C hw iX_29_1 flX1_19 dX1_readLine_69 ?_
          refine lv_iconst (v := (1 : Int32)) C.1.1 C.1.2.1 dX1_readLine_72 rfl ?_
          refine lv_iload_n C.1.1 C.1.2.1 dX1_readLine_73 rfl (lv_at hl 0 rfl) ?_
          refine lv_ishl C.1.1 C.1.2.1 dX1_readLine_74 ?_
          refine lv_ior C.1.1 C.1.2.1 dX1_readLine_75 ?_
          refine x_put C hw iX_29_1 flX1_19 dX1_readLine_76 (fun H locs hw => ?_)
          refine lv_iconst (v := (1 : Int32)) C.1.1 C.1.2.1 dX1_readLine_79 rfl ?_
          obtain rfl := Option.some.inj hf
          exact ret_z (r := (1 : Int32)) C hr hlk hw rfl dX1_readLine_80
        · have hf := o_t hf c7
          refine lv_iconst (v := (-1 : Int32)) C.1.1 C.1.2.1 dX1_readLine_56 rfl ?_
          refine lv_goto (tgt := 64) C.1.1 C.1.2.1 dX1_readLine_57 (by decide) ?_
          obtain ⟨q9, h9, hf⟩ := o_bind hf
          refine aft_v hw (run_S C hw clX1_56 (As := [.ref (gA G 30), .int (q1.1 1 5), .int (-1 : Int32)]) (rest := []) (c_X8_put aX_30 h9) hl.1 rfl ⟨(Nat.le_of_ble_eq_true rfl), (Nat.le_of_ble_eq_true rfl)⟩ ⟨Nat.zero_le _, Nat.zero_le _⟩ rfl (Nat.le_of_ble_eq_true rfl) dX1_readLine_64) (fun H locs hw => ?_)
          refine lv_aload_n C.1.1 C.1.2.1 dX1_readLine_67 rfl (lv_at hl 1 rfl) ?_
          refine lv_dup C.1.1 C.1.2.1 dX1_readLine_68 rfl ?_
          refine x_get C hw iX_29_1 flX1_19 dX1_readLine_69 ?_
          refine lv_iconst (v := (1 : Int32)) C.1.1 C.1.2.1 dX1_readLine_72 rfl ?_
          refine lv_iload_n C.1.1 C.1.2.1 dX1_readLine_73 rfl (lv_at hl 0 rfl) ?_
          refine lv_ishl C.1.1 C.1.2.1 dX1_readLine_74 ?_
          refine lv_ior C.1.1 C.1.2.1 dX1_readLine_75 ?_
          refine x_put C hw iX_29_1 flX1_19 dX1_readLine_76 (fun H locs hw => ?_)
          refine lv_iconst (v := (1 : Int32)) C.1.1 C.1.2.1 dX1_readLine_79 rfl ?_
          obtain rfl := Option.some.inj hf
          exact ret_z (r := (1 : Int32)) C hr hlk hw rfl dX1_readLine_80
      · have hf := o_t hf c6
        refine lv_iconst (v := (0 : Int32)) C.1.1 C.1.2.1 dX1_readLine_41 rfl ?_
        obtain rfl := Option.some.inj hf
        exact ret_z (r := (0 : Int32)) C hr hlk hw rfl dX1_readLine_42
    · have hf := o_f hf c4
      refine lv_aload_n C.1.1 C.1.2.1 dX1_readLine_23 rfl (lv_at hl 2 rfl) ?_
      refine lv_iconst (v := (2 : Int32)) C.1.1 C.1.2.1 dX1_readLine_24 rfl ?_
      refine lv_aload_n C.1.1 C.1.2.1 dX1_readLine_25 rfl (lv_at hl 2 rfl) ?_
      refine x_get C hw iX_1_4 flX1_49 dX1_readLine_26 ?_
      obtain ⟨q10, h10, hf⟩ := o_bind hf
      refine aft_i hw (run_VX C hw clX1_52 (As := [.int (2 : Int32), .int (q1.1 1 4)]) (rest := []) oX_1 (c_X7_fail h10) rfl hl.1 rfl ⟨(Nat.le_of_ble_eq_true rfl), (Nat.le_of_ble_eq_true rfl)⟩ ⟨Nat.zero_le _, Nat.zero_le _⟩ rfl (Nat.le_of_ble_eq_true rfl) dX1_readLine_29) (fun H locs hw => ?_)
      have g11 := (o_g hf).1
      have hf := (o_g hf).2
      obtain rfl := Option.some.inj hf
      exact ret_z (r := q10.2) C hr hlk hw (nar_z g11) dX1_readLine_32
  · have hf := o_t hf c2
    refine lv_iconst (v := (0 : Int32)) C.1.1 C.1.2.1 dX1_readLine_8 rfl ?_
    obtain rfl := Option.some.inj hf
    exact ret_z (r := (0 : Int32)) C hr hlk hw rfl dX1_readLine_9
end
/-! WinnerDraws$Book.read(LWinnerDraws$Text;)Z (('o', 'X', 29) ('o', 'X', 1)) -/
def L_X1_read_7 : Nat → TX → Int32 → Option (TX × Int32)
  | 0 => fun _ _ => none
  | n + 1 => fun X x2 => if (4 : Int32) < x2 then (some (X, (1 : Int32))) else ((f_X7_ahead X).bind fun q2 => if q2.2 = (-1 : Int32) then (some (q2.1, (1 : Int32))) else ((f_X1_readLine q2.1).bind fun q4 => if q4.2 = 0 then (some (q4.1, (0 : Int32))) else ((f_X7_sign q4.1 (59 : Int32)).bind fun q6 => if q6.2 = 0 then (some (q6.1, (0 : Int32))) else ((L_X1_read_7 n) q6.1 (x2 + (1 : Int32))))))
def f_X1_read (X : TX) : Option (TX × Int32) := L_X1_read_7 FU (u2 X 29 1 (0 : Int32)) (0 : Int32)
section
variable {G : GP} {l : Launch}
set_option maxRecDepth 20000 in
set_option maxHeartbeats 2000000 in
theorem wL_X1_read_7 {p : Program} {e : Env} {s : State} {m : MethodId} {args : Array Value} {below : List Frame} {meth : Method} {c : Code} (C : Cx G p s m args c cX1_read 3 RX1) (hr : meth.sig.returnType = (some .boolean)) (hlk : meth.locks = false) {ro : TX × Int32} : ∀ (n : Nat), ∀ (X : TX) (M : TX) (L : TL) (x2 : Int32) (H : Heap) (locs : List Loc) (ls : Array Slot), Wh G s X M L H locs → lv_has ls 3 [(0, .ref (gA G 29)), (1, .ref (gA G 1)), (2, .int x2)] → L_X1_read_7 n X x2 = some ro → W p l e (rz 4 84) s m args below meth c H locs 0 0 (MQ below (Di G ro.1 M L ro.2) args s 0 0 (AB G)) (F0 m 7 ls []) := by
  intro n
  induction n with
  | zero =>
    intro X M L x2 H locs ls hw hl hf
    cases hf
  | succ n hk_7 =>
    intro X M L x2 H locs ls hw hl hf
    rw [L_X1_read_7] at hf
    refine lv_iload_n C.1.1 C.1.2.1 dX1_read_7 rfl (lv_at hl 2 rfl) ?_
    refine lv_iconst (v := (4 : Int32)) C.1.1 C.1.2.1 dX1_read_8 rfl ?_
    refine lv_icmp_gt (tgt := 47) C.1.1 C.1.2.1 dX1_read_9 (by decide) (fun c1 => ?_) (fun c1 => ?_)
    · have hf := o_t hf c1
      refine lv_iconst (v := (1 : Int32)) C.1.1 C.1.2.1 dX1_read_47 rfl ?_
      obtain rfl := Option.some.inj hf
      exact ret_z (r := (1 : Int32)) C hr hlk hw rfl dX1_read_48
    · have hf := o_f hf c1
      refine lv_aload_n C.1.1 C.1.2.1 dX1_read_12 rfl (lv_at hl 1 rfl) ?_
      obtain ⟨q2, h2, hf⟩ := o_bind hf
      refine aft_i hw (run_VX C hw clX1_26 (As := []) (rest := []) oX_1 (c_X7_ahead h2) rfl hl.1 rfl ⟨(Nat.le_of_ble_eq_true rfl), (Nat.le_of_ble_eq_true rfl)⟩ ⟨Nat.zero_le _, Nat.zero_le _⟩ rfl (Nat.le_of_ble_eq_true rfl) dX1_read_13) (fun H locs hw => ?_)
      refine lv_iconst (v := (-1 : Int32)) C.1.1 C.1.2.1 dX1_read_16 rfl ?_
      refine lv_icmp_ne (tgt := 22) C.1.1 C.1.2.1 dX1_read_17 (by decide) (fun c3 => ?_) (fun c3 => ?_)
      · have hf := o_f hf c3
        refine lv_aload_n C.1.1 C.1.2.1 dX1_read_22 rfl (lv_at hl 0 rfl) ?_
        refine lv_aload_n C.1.1 C.1.2.1 dX1_read_23 rfl (lv_at hl 1 rfl) ?_
        obtain ⟨q4, h4, hf⟩ := o_bind hf
        refine aft_i hw (run_VX C hw clX1_32 (As := [.ref (gA G 1)]) (rest := []) oX_29 (c_X1_readLine h4) rfl hl.1 rfl ⟨(Nat.le_of_ble_eq_true rfl), (Nat.le_of_ble_eq_true rfl)⟩ ⟨Nat.zero_le _, Nat.zero_le _⟩ rfl (Nat.le_of_ble_eq_true rfl) dX1_read_24) (fun H locs hw => ?_)
        refine lv_if_eq (tgt := 39) C.1.1 C.1.2.1 dX1_read_27 (by decide) (fun c5 => ?_) (fun c5 => ?_)
        · have hf := o_t hf c5
          refine lv_iconst (v := (0 : Int32)) C.1.1 C.1.2.1 dX1_read_39 rfl ?_
          obtain rfl := Option.some.inj hf
          exact ret_z (r := (0 : Int32)) C hr hlk hw rfl dX1_read_40
        · have hf := o_f hf c5
          refine lv_aload_n C.1.1 C.1.2.1 dX1_read_30 rfl (lv_at hl 1 rfl) ?_
          refine lv_bipush (v := (59 : Int32)) C.1.1 C.1.2.1 dX1_read_31 rfl ?_
          obtain ⟨q6, h6, hf⟩ := o_bind hf
          refine aft_i hw (run_VX C hw clX1_36 (As := [.int (59 : Int32)]) (rest := []) oX_1 (c_X7_sign h6) rfl hl.1 rfl ⟨(Nat.le_of_ble_eq_true rfl), (Nat.le_of_ble_eq_true rfl)⟩ ⟨Nat.zero_le _, Nat.zero_le _⟩ rfl (Nat.le_of_ble_eq_true rfl) dX1_read_33) (fun H locs hw => ?_)
          refine lv_if_ne (tgt := 41) C.1.1 C.1.2.1 dX1_read_36 (by decide) (fun c7 => ?_) (fun c7 => ?_)
          · have hf := o_f hf c7
            refine lv_iinc (v := (x2 + (1 : Int32))) (lv' := [(2, .int (x2 + (1 : Int32))), (0, .ref (gA G 29)), (1, .ref (gA G 1))]) C.1.1 C.1.2.1 dX1_read_41 hl (k := 2) rfl rfl (by decide) rfl (fun ls hl => ?_)
            refine lv_goto (tgt := 7) C.1.1 C.1.2.1 dX1_read_44 (by decide) ?_
            exact hk_7 q6.1 M L (x2 + (1 : Int32)) _ _ _ hw (lv_sub hl [1, 2, 0] rfl) hf
          · have hf := o_t hf c7
            refine lv_iconst (v := (0 : Int32)) C.1.1 C.1.2.1 dX1_read_39 rfl ?_
            obtain rfl := Option.some.inj hf
            exact ret_z (r := (0 : Int32)) C hr hlk hw rfl dX1_read_40
      · have hf := o_t hf c3
        refine lv_iconst (v := (1 : Int32)) C.1.1 C.1.2.1 dX1_read_20 rfl ?_
        obtain rfl := Option.some.inj hf
        exact ret_z (r := (1 : Int32)) C hr hlk hw rfl dX1_read_21
set_option maxRecDepth 20000 in
set_option maxHeartbeats 2000000 in
theorem c_X1_read   {X M : TX} {L : TL}  {ro : TX × Int32} (hf : f_X1_read X = some ro) : CTi G l yX1_read cX1_read 3 (some .boolean) 4 84 [.ref (gA G 29), .ref (gA G 1)] X M L ro.1 M L ro.2 := by
  unfold f_X1_read at hf
  refine ct_of (by decide +kernel) (Nat.le_of_ble_eq_true rfl) (fun p e s m args below meth c H locs ls C hr hlk hw hl => ?_)
  have C : Cx G p s m args c cX1_read 3 RX1 := C
  have hl : lv_has ls 3 [(0, .ref (gA G 29)), (1, .ref (gA G 1))] := hl
  refine lv_aload_n C.1.1 C.1.2.1 dX1_read_0 rfl (lv_at hl 0 rfl) ?_
  refine lv_iconst (v := (0 : Int32)) C.1.1 C.1.2.1 dX1_read_1 rfl ?_
  refine x_put C hw iX_29_1 flX1_19 dX1_read_2 (fun H locs hw => ?_)
  refine lv_iconst (v := (0 : Int32)) C.1.1 C.1.2.1 dX1_read_5 rfl ?_
  refine lv_istore_n (lv' := [(2, .int (0 : Int32)), (0, .ref (gA G 29)), (1, .ref (gA G 1))]) C.1.1 C.1.2.1 dX1_read_6 rfl hl (by decide) rfl (fun ls hl => ?_)
  exact wL_X1_read_7 C hr hlk FU (u2 X 29 1 (0 : Int32)) M L (0 : Int32) _ _ _ hw (lv_sub hl [1, 2, 0] rfl) hf
end
/-! WinnerDraws$Book.copyFrom(LWinnerDraws$Book;)V (('o', 'X', 27) ('o', 'X', 29)) -/
def f_X1_copyFrom (X : TX) : Option (TX) := (f_X8_copy 30 28 X (0 : Int32) (0 : Int32) (4 : Int32)).bind fun q1 => some (u2 q1 27 1 (q1 29 1))
section
variable {G : GP} {l : Launch}
set_option maxRecDepth 20000 in
set_option maxHeartbeats 2000000 in
theorem c_X1_copyFrom   {X M : TX} {L : TL}  {ro : TX} (hf : f_X1_copyFrom X = some ro) : CTv G l yX1_copyFrom cX1_copyFrom 2 none 2 47 [.ref (gA G 27), .ref (gA G 29)] X M L ro M L := by
  unfold f_X1_copyFrom at hf
  refine ct_of (by decide +kernel) (Nat.le_of_ble_eq_true rfl) (fun p e s m args below meth c H locs ls C hr hlk hw hl => ?_)
  have C : Cx G p s m args c cX1_copyFrom 2 RX1 := C
  have hl : lv_has ls 2 [(0, .ref (gA G 27)), (1, .ref (gA G 29))] := hl
  refine lv_aload_n C.1.1 C.1.2.1 dX1_copyFrom_0 rfl (lv_at hl 1 rfl) ?_
  refine x_ref C hw fX_29_0 flX1_9 dX1_copyFrom_1 ?_
  refine lv_iconst (v := (0 : Int32)) C.1.1 C.1.2.1 dX1_copyFrom_4 rfl ?_
  refine lv_aload_n C.1.1 C.1.2.1 dX1_copyFrom_5 rfl (lv_at hl 0 rfl) ?_
  refine x_ref C hw fX_27_0 flX1_9 dX1_copyFrom_6 ?_
  refine lv_iconst (v := (0 : Int32)) C.1.1 C.1.2.1 dX1_copyFrom_9 rfl ?_
  refine lv_iconst (v := (4 : Int32)) C.1.1 C.1.2.1 dX1_copyFrom_10 rfl ?_
  obtain ⟨q1, h1, hf⟩ := o_bind hf
  refine aft_v hw (run_S C hw clX1_22 (As := [.ref (gA G 30), .int (0 : Int32), .ref (gA G 28), .int (0 : Int32), .int (4 : Int32)]) (rest := []) (c_X8_copy aX_30 aX_28 h1) hl.1 rfl ⟨(Nat.le_of_ble_eq_true rfl), (Nat.le_of_ble_eq_true rfl)⟩ ⟨Nat.zero_le _, Nat.zero_le _⟩ rfl (Nat.le_of_ble_eq_true rfl) dX1_copyFrom_11) (fun H locs hw => ?_)
  refine lv_aload_n C.1.1 C.1.2.1 dX1_copyFrom_14 rfl (lv_at hl 0 rfl) ?_
  refine lv_aload_n C.1.1 C.1.2.1 dX1_copyFrom_15 rfl (lv_at hl 1 rfl) ?_
  refine x_get C hw iX_29_1 flX1_19 dX1_copyFrom_16 ?_
  refine x_put C hw iX_27_1 flX1_19 dX1_copyFrom_19 (fun H locs hw => ?_)
  obtain rfl := Option.some.inj hf
  exact ret_v C hr hlk hw dX1_copyFrom_22
end
/-! WinnerDraws$Book.lines()I (('o', 'X', 27)) -/
def f_X1_lines (X : TX) : Option (Int32) := (f_J6_bitCount_0f7a4 (X 27 1)).bind fun q1 => some q1
section
variable {G : GP} {l : Launch}
set_option maxRecDepth 20000 in
set_option maxHeartbeats 2000000 in
theorem c_X1_lines   {X M : TX} {L : TL}  {ro : Int32} (hf : f_X1_lines X = some ro) : CTi G l yX1_lines cX1_lines 1 (some .int) 1 20 [.ref (gA G 27)] X M L X M L ro := by
  unfold f_X1_lines at hf
  refine ct_of (by decide +kernel) (Nat.le_of_ble_eq_true rfl) (fun p e s m args below meth c H locs ls C hr hlk hw hl => ?_)
  have C : Cx G p s m args c cX1_lines 1 RX1 := C
  have hl : lv_has ls 1 [(0, .ref (gA G 27))] := hl
  refine lv_aload_n C.1.1 C.1.2.1 dX1_lines_0 rfl (lv_at hl 0 rfl) ?_
  refine x_get C hw iX_27_1 flX1_19 dX1_lines_1 ?_
  obtain ⟨q1, h1, hf⟩ := o_bind hf
  refine aft_i hw (run_S C hw clX1_60 (As := [.int (X 27 1)]) (rest := []) (c_J6_bitCount_0f7a4 h1) hl.1 rfl ⟨(Nat.le_of_ble_eq_true rfl), (Nat.le_of_ble_eq_true rfl)⟩ ⟨Nat.zero_le _, Nat.zero_le _⟩ rfl (Nat.le_of_ble_eq_true rfl) dX1_lines_4) (fun H locs hw => ?_)
  obtain rfl := Option.some.inj hf
  exact ret_i C hr hlk hw dX1_lines_7
end
/-! WinnerDraws.book(I)I (('o', 'X', 0) ('i',)) -/
def f_X8_book (X : TX) (x1 : Int32) : Option (TX × (Int32 ⊕ Nat)) := (f_X8_needText X x1 (60 : Int32)).bind fun q1 => xb q1 (fun _ _ => (f_X7_open q1.1 x1).bind fun q2 => (f_X1_read q2).bind fun q3 => if q3.2 = 0 then (some (q3.1, .inl ((q3.1 1 6) - (10 : Int32)))) else ((f_X1_copyFrom q3.1).bind fun q5 => (f_X1_lines q5).bind fun q6 => some (q5, .inl q6)))
section
variable {G : GP} {l : Launch}
set_option maxRecDepth 20000 in
set_option maxHeartbeats 2000000 in
theorem c_X8_book (hst : l.stackTraces = false)  {X M : TX} {L : TL} {x1 : Int32} {ro : TX × (Int32 ⊕ Nat)} (hf : f_X8_book X x1 = some ro) : CXi G l yX8_book cX8_book 2 (some .int) 8 163 1 [.ref (gA G 0), .int x1] X M L ro := by
  unfold f_X8_book at hf
  refine cx_of (by decide +kernel) (Nat.le_of_ble_eq_true rfl) (fun p e s m args below meth c H locs ls C hr hlk hnt hw hl => ?_)
  have C : Cx G p s m args c cX8_book 2 RX8 := C
  have hl : lv_has ls 2 [(0, .ref (gA G 0)), (1, .int x1)] := hl
  refine lv_aload_n C.1.1 C.1.2.1 dX8_book_0 rfl (lv_at hl 0 rfl) ?_
  refine lv_iload_n C.1.1 C.1.2.1 dX8_book_1 rfl (lv_at hl 1 rfl) ?_
  refine lv_bipush (v := (60 : Int32)) C.1.1 C.1.2.1 dX8_book_2 rfl ?_
  obtain ⟨q1, h1, hf⟩ := o_bind hf
  refine aftx_v hw (runx_VX C hw clX8_86 (tb2 208 rfl rfl) (As := [.int x1, .int (60 : Int32)]) (rest := []) oX_0 (c_X8_needText hst h1) rfl hl.1 rfl ⟨(Nat.le_of_ble_eq_true rfl), (Nat.le_of_ble_eq_true rfl)⟩ ⟨Nat.le_of_ble_eq_true rfl, Nat.le_of_ble_eq_true rfl⟩ rfl (Nat.le_of_ble_eq_true rfl) dX8_book_4) hf hnt hlk (Nat.le_of_ble_eq_true rfl) (Nat.le_of_ble_eq_true rfl) (fun hf H locs hw => ?_)
  refine lv_aload_n C.1.1 C.1.2.1 dX8_book_7 rfl (lv_at hl 0 rfl) ?_
  refine x_ref C hw fX_0_0 flX8_12 dX8_book_8 ?_
  refine lv_iload_n C.1.1 C.1.2.1 dX8_book_11 rfl (lv_at hl 1 rfl) ?_
  obtain ⟨q2, h2, hf⟩ := o_bind hf
  refine aft_v hw (run_VX C hw clX8_90 (As := [.int x1]) (rest := []) oX_1 (c_X7_open h2) rfl hl.1 rfl ⟨(Nat.le_of_ble_eq_true rfl), (Nat.le_of_ble_eq_true rfl)⟩ ⟨Nat.le_of_ble_eq_true rfl, Nat.le_of_ble_eq_true rfl⟩ rfl (Nat.le_of_ble_eq_true rfl) dX8_book_12) (fun H locs hw => ?_)
  refine lv_aload_n C.1.1 C.1.2.1 dX8_book_15 rfl (lv_at hl 0 rfl) ?_
  refine x_ref C hw fX_0_6 flX8_43 dX8_book_16 ?_
  refine lv_aload_n C.1.1 C.1.2.1 dX8_book_19 rfl (lv_at hl 0 rfl) ?_
  refine x_ref C hw fX_0_0 flX8_12 dX8_book_20 ?_
  obtain ⟨q3, h3, hf⟩ := o_bind hf
  refine aft_i hw (run_VX C hw clX8_144 (As := [.ref (gA G 1)]) (rest := []) oX_29 (c_X1_read h3) rfl hl.1 rfl ⟨(Nat.le_of_ble_eq_true rfl), (Nat.le_of_ble_eq_true rfl)⟩ ⟨Nat.le_of_ble_eq_true rfl, Nat.le_of_ble_eq_true rfl⟩ rfl (Nat.le_of_ble_eq_true rfl) dX8_book_23) (fun H locs hw => ?_)
  refine lv_if_ne (tgt := 40) C.1.1 C.1.2.1 dX8_book_26 (by decide) (fun c4 => ?_) (fun c4 => ?_)
  · have hf := o_f hf c4
    refine lv_aload_n C.1.1 C.1.2.1 dX8_book_40 rfl (lv_at hl 0 rfl) ?_
    refine x_ref C hw fX_0_5 flX8_39 dX8_book_41 ?_
    refine lv_aload_n C.1.1 C.1.2.1 dX8_book_44 rfl (lv_at hl 0 rfl) ?_
    refine x_ref C hw fX_0_6 flX8_43 dX8_book_45 ?_
    obtain ⟨q5, h5, hf⟩ := o_bind hf
    refine aft_v hw (run_VX C hw clX8_145 (As := [.ref (gA G 29)]) (rest := []) oX_27 (c_X1_copyFrom h5) rfl hl.1 rfl ⟨(Nat.le_of_ble_eq_true rfl), (Nat.le_of_ble_eq_true rfl)⟩ ⟨Nat.le_of_ble_eq_true rfl, Nat.le_of_ble_eq_true rfl⟩ rfl (Nat.le_of_ble_eq_true rfl) dX8_book_48) (fun H locs hw => ?_)
    refine lv_aload_n C.1.1 C.1.2.1 dX8_book_51 rfl (lv_at hl 0 rfl) ?_
    refine x_ref C hw fX_0_5 flX8_39 dX8_book_52 ?_
    obtain ⟨q6, h6, hf⟩ := o_bind hf
    refine aft_i hw (run_VX C hw clX8_148 (As := []) (rest := []) oX_27 (c_X1_lines h6) rfl hl.1 rfl ⟨(Nat.le_of_ble_eq_true rfl), (Nat.le_of_ble_eq_true rfl)⟩ ⟨Nat.le_of_ble_eq_true rfl, Nat.le_of_ble_eq_true rfl⟩ rfl (Nat.le_of_ble_eq_true rfl) dX8_book_55) (fun H locs hw => ?_)
    exact retx_i C hr hlk hw (Option.some.inj hf).symm (Nat.le_of_ble_eq_true rfl) (Nat.le_of_ble_eq_true rfl) dX8_book_58
  · have hf := o_t hf c4
    refine lv_aload_n C.1.1 C.1.2.1 dX8_book_29 rfl (lv_at hl 0 rfl) ?_
    refine x_ref C hw fX_0_0 flX8_12 dX8_book_30 ?_
    refine x_get C hw iX_1_6 flX8_97 dX8_book_33 ?_
    refine lv_bipush (v := (10 : Int32)) C.1.1 C.1.2.1 dX8_book_36 rfl ?_
    refine lv_isub C.1.1 C.1.2.1 dX8_book_38 ?_
    exact retx_i C hr hlk hw (Option.some.inj hf).symm (Nat.le_of_ble_eq_true rfl) (Nat.le_of_ble_eq_true rfl) dX8_book_39
end
/-! WinnerDraws.fault()I (('o', 'X', 0)) -/
def f_X8_fault (X : TX) : Option (Int32) := some (X 1 7)
section
variable {G : GP} {l : Launch}
set_option maxRecDepth 20000 in
set_option maxHeartbeats 2000000 in
theorem c_X8_fault   {X M : TX} {L : TL}  {ro : Int32} (hf : f_X8_fault X = some ro) : CTi G l yX8_fault cX8_fault 1 (some .int) 0 0 [.ref (gA G 0)] X M L X M L ro := by
  unfold f_X8_fault at hf
  refine ct_of (by decide +kernel) (Nat.le_of_ble_eq_true rfl) (fun p e s m args below meth c H locs ls C hr hlk hw hl => ?_)
  have C : Cx G p s m args c cX8_fault 1 RX8 := C
  have hl : lv_has ls 1 [(0, .ref (gA G 0))] := hl
  refine lv_aload_n C.1.1 C.1.2.1 dX8_fault_0 rfl (lv_at hl 0 rfl) ?_
  refine x_ref C hw fX_0_0 flX8_12 dX8_fault_1 ?_
  refine x_get C hw iX_1_7 flX8_152 dX8_fault_4 ?_
  obtain rfl := Option.some.inj hf
  exact ret_i C hr hlk hw dX8_fault_7
end
/-! WinnerDraws$County.load([II)V (('o', 'X', 3) ('a', 'X') ('i',)) -/
def f_X3_load (k1 : Nat) (X : TX) (x2 : Int32) : Option (TX) := (f_X8_copy k1 4 X x2 (0 : Int32) (10 : Int32)).bind fun q1 => (f_X8_copy k1 5 q1 (x2 + (10 : Int32)) (0 : Int32) (20 : Int32)).bind fun q2 => (f_X8_at k1 q2 (x2 + (30 : Int32))).bind fun q3 => (f_X8_at k1 (u2 q2 3 9 q3) (x2 + (31 : Int32))).bind fun q4 => (f_X8_at k1 (u2 (u2 q2 3 9 q3) 3 8 q4) (x2 + (32 : Int32))).bind fun q5 => (f_X8_at k1 (u2 (u2 (u2 q2 3 9 q3) 3 8 q4) 3 10 q5) (x2 + (33 : Int32))).bind fun q6 => (f_X3_tally (u2 (u2 (u2 (u2 q2 3 9 q3) 3 8 q4) 3 10 q5) 3 11 q6)).bind fun q7 => some q7
section
variable {G : GP} {l : Launch}
set_option maxRecDepth 20000 in
set_option maxHeartbeats 2000000 in
theorem c_X3_load  {k1 : Nat} (hk1 : AX k1 (lenX k1)) {X M : TX} {L : TL} {x2 : Int32} {ro : TX} (hf : f_X3_load k1 X x2 = some ro) : CTv G l yX3_load cX3_load 3 none 2 47 [.ref (gA G 3), .ref (gA G k1), .int x2] X M L ro M L := by
  unfold f_X3_load at hf
  refine ct_of (by decide +kernel) (Nat.le_of_ble_eq_true rfl) (fun p e s m args below meth c H locs ls C hr hlk hw hl => ?_)
  have C : Cx G p s m args c cX3_load 3 RX3 := C
  have hl : lv_has ls 3 [(0, .ref (gA G 3)), (1, .ref (gA G k1)), (2, .int x2)] := hl
  refine lv_aload_n C.1.1 C.1.2.1 dX3_load_0 rfl (lv_at hl 1 rfl) ?_
  refine lv_iload_n C.1.1 C.1.2.1 dX3_load_1 rfl (lv_at hl 2 rfl) ?_
  refine lv_aload_n C.1.1 C.1.2.1 dX3_load_2 rfl (lv_at hl 0 rfl) ?_
  refine x_ref C hw fX_3_0 flX3_9 dX3_load_3 ?_
  refine lv_iconst (v := (0 : Int32)) C.1.1 C.1.2.1 dX3_load_6 rfl ?_
  refine lv_bipush (v := (10 : Int32)) C.1.1 C.1.2.1 dX3_load_7 rfl ?_
  obtain ⟨q1, h1, hf⟩ := o_bind hf
  refine aft_v hw (run_S C hw clX3_59 (As := [.ref (gA G k1), .int x2, .ref (gA G 4), .int (0 : Int32), .int (10 : Int32)]) (rest := []) (c_X8_copy hk1 aX_4 h1) hl.1 rfl ⟨(Nat.le_of_ble_eq_true rfl), (Nat.le_of_ble_eq_true rfl)⟩ ⟨Nat.zero_le _, Nat.zero_le _⟩ rfl (Nat.le_of_ble_eq_true rfl) dX3_load_9) (fun H locs hw => ?_)
  refine lv_aload_n C.1.1 C.1.2.1 dX3_load_12 rfl (lv_at hl 1 rfl) ?_
  refine lv_iload_n C.1.1 C.1.2.1 dX3_load_13 rfl (lv_at hl 2 rfl) ?_
  refine lv_bipush (v := (10 : Int32)) C.1.1 C.1.2.1 dX3_load_14 rfl ?_
  refine lv_iadd C.1.1 C.1.2.1 dX3_load_16 ?_
  refine lv_aload_n C.1.1 C.1.2.1 dX3_load_17 rfl (lv_at hl 0 rfl) ?_
  refine x_ref C hw fX_3_1 flX3_15 dX3_load_18 ?_
  refine lv_iconst (v := (0 : Int32)) C.1.1 C.1.2.1 dX3_load_21 rfl ?_
  refine lv_bipush (v := (20 : Int32)) C.1.1 C.1.2.1 dX3_load_22 rfl ?_
  obtain ⟨q2, h2, hf⟩ := o_bind hf
  refine aft_v hw (run_S C hw clX3_59 (As := [.ref (gA G k1), .int (x2 + (10 : Int32)), .ref (gA G 5), .int (0 : Int32), .int (20 : Int32)]) (rest := []) (c_X8_copy hk1 aX_5 h2) hl.1 rfl ⟨(Nat.le_of_ble_eq_true rfl), (Nat.le_of_ble_eq_true rfl)⟩ ⟨Nat.zero_le _, Nat.zero_le _⟩ rfl (Nat.le_of_ble_eq_true rfl) dX3_load_24) (fun H locs hw => ?_)
  refine lv_aload_n C.1.1 C.1.2.1 dX3_load_27 rfl (lv_at hl 0 rfl) ?_
  refine lv_aload_n C.1.1 C.1.2.1 dX3_load_28 rfl (lv_at hl 1 rfl) ?_
  refine lv_iload_n C.1.1 C.1.2.1 dX3_load_29 rfl (lv_at hl 2 rfl) ?_
  refine lv_bipush (v := (30 : Int32)) C.1.1 C.1.2.1 dX3_load_30 rfl ?_
  refine lv_iadd C.1.1 C.1.2.1 dX3_load_32 ?_
  obtain ⟨q3, h3, hf⟩ := o_bind hf
  refine aft_i hw (run_S C hw clX3_66 (As := [.ref (gA G k1), .int (x2 + (30 : Int32))]) (rest := [.ref (gA G 3)]) (c_X8_at hk1 h3) hl.1 rfl ⟨(Nat.le_of_ble_eq_true rfl), (Nat.le_of_ble_eq_true rfl)⟩ ⟨Nat.zero_le _, Nat.zero_le _⟩ rfl (Nat.le_of_ble_eq_true rfl) dX3_load_33) (fun H locs hw => ?_)
  refine x_put C hw iX_3_9 flX3_31 dX3_load_36 (fun H locs hw => ?_)
  refine lv_aload_n C.1.1 C.1.2.1 dX3_load_39 rfl (lv_at hl 0 rfl) ?_
  refine lv_aload_n C.1.1 C.1.2.1 dX3_load_40 rfl (lv_at hl 1 rfl) ?_
  refine lv_iload_n C.1.1 C.1.2.1 dX3_load_41 rfl (lv_at hl 2 rfl) ?_
  refine lv_bipush (v := (31 : Int32)) C.1.1 C.1.2.1 dX3_load_42 rfl ?_
  refine lv_iadd C.1.1 C.1.2.1 dX3_load_44 ?_
  obtain ⟨q4, h4, hf⟩ := o_bind hf
  refine aft_i hw (run_S C hw clX3_66 (As := [.ref (gA G k1), .int (x2 + (31 : Int32))]) (rest := [.ref (gA G 3)]) (c_X8_at hk1 h4) hl.1 rfl ⟨(Nat.le_of_ble_eq_true rfl), (Nat.le_of_ble_eq_true rfl)⟩ ⟨Nat.zero_le _, Nat.zero_le _⟩ rfl (Nat.le_of_ble_eq_true rfl) dX3_load_45) (fun H locs hw => ?_)
  refine x_put C hw iX_3_8 flX3_50 dX3_load_48 (fun H locs hw => ?_)
  refine lv_aload_n C.1.1 C.1.2.1 dX3_load_51 rfl (lv_at hl 0 rfl) ?_
  refine lv_aload_n C.1.1 C.1.2.1 dX3_load_52 rfl (lv_at hl 1 rfl) ?_
  refine lv_iload_n C.1.1 C.1.2.1 dX3_load_53 rfl (lv_at hl 2 rfl) ?_
  refine lv_bipush (v := (32 : Int32)) C.1.1 C.1.2.1 dX3_load_54 rfl ?_
  refine lv_iadd C.1.1 C.1.2.1 dX3_load_56 ?_
  obtain ⟨q5, h5, hf⟩ := o_bind hf
  refine aft_i hw (run_S C hw clX3_66 (As := [.ref (gA G k1), .int (x2 + (32 : Int32))]) (rest := [.ref (gA G 3)]) (c_X8_at hk1 h5) hl.1 rfl ⟨(Nat.le_of_ble_eq_true rfl), (Nat.le_of_ble_eq_true rfl)⟩ ⟨Nat.zero_le _, Nat.zero_le _⟩ rfl (Nat.le_of_ble_eq_true rfl) dX3_load_57) (fun H locs hw => ?_)
  refine x_put C hw iX_3_10 flX3_53 dX3_load_60 (fun H locs hw => ?_)
  refine lv_aload_n C.1.1 C.1.2.1 dX3_load_63 rfl (lv_at hl 0 rfl) ?_
  refine lv_aload_n C.1.1 C.1.2.1 dX3_load_64 rfl (lv_at hl 1 rfl) ?_
  refine lv_iload_n C.1.1 C.1.2.1 dX3_load_65 rfl (lv_at hl 2 rfl) ?_
  refine lv_bipush (v := (33 : Int32)) C.1.1 C.1.2.1 dX3_load_66 rfl ?_
  refine lv_iadd C.1.1 C.1.2.1 dX3_load_68 ?_
  obtain ⟨q6, h6, hf⟩ := o_bind hf
  refine aft_i hw (run_S C hw clX3_66 (As := [.ref (gA G k1), .int (x2 + (33 : Int32))]) (rest := [.ref (gA G 3)]) (c_X8_at hk1 h6) hl.1 rfl ⟨(Nat.le_of_ble_eq_true rfl), (Nat.le_of_ble_eq_true rfl)⟩ ⟨Nat.zero_le _, Nat.zero_le _⟩ rfl (Nat.le_of_ble_eq_true rfl) dX3_load_69) (fun H locs hw => ?_)
  refine x_put C hw iX_3_11 flX3_56 dX3_load_72 (fun H locs hw => ?_)
  refine lv_aload_n C.1.1 C.1.2.1 dX3_load_75 rfl (lv_at hl 0 rfl) ?_
  obtain ⟨q7, h7, hf⟩ := o_bind hf
  refine aft_v hw (run_VX C hw clX3_63 (As := []) (rest := []) oX_3 (c_X3_tally h7) rfl hl.1 rfl ⟨(Nat.le_of_ble_eq_true rfl), (Nat.le_of_ble_eq_true rfl)⟩ ⟨Nat.zero_le _, Nat.zero_le _⟩ rfl (Nat.le_of_ble_eq_true rfl) dX3_load_76) (fun H locs hw => ?_)
  obtain rfl := Option.some.inj hf
  exact ret_v C hr hlk hw dX3_load_79
end
/-! WinnerDraws$Archive.takeBackWork(LWinnerDraws$County;)V (('o', 'X', 37) ('o', 'X', 3)) -/
def f_X0_takeBackWork (X : TX) : Option (TX) := (f_X3_load 38 (u2 X 37 3 ((X 37 3) - (1 : Int32))) (((u2 X 37 3 ((X 37 3) - (1 : Int32))) 37 3) * (34 : Int32))).bind fun q1 => some q1
section
variable {G : GP} {l : Launch}
set_option maxRecDepth 20000 in
set_option maxHeartbeats 2000000 in
theorem c_X0_takeBackWork   {X M : TX} {L : TL}  {ro : TX} (hf : f_X0_takeBackWork X = some ro) : CTv G l yX0_takeBackWork cX0_takeBackWork 2 none 3 69 [.ref (gA G 37), .ref (gA G 3)] X M L ro M L := by
  unfold f_X0_takeBackWork at hf
  refine ct_of (by decide +kernel) (Nat.le_of_ble_eq_true rfl) (fun p e s m args below meth c H locs ls C hr hlk hw hl => ?_)
  have C : Cx G p s m args c cX0_takeBackWork 2 RX0 := C
  have hl : lv_has ls 2 [(0, .ref (gA G 37)), (1, .ref (gA G 3))] := hl
  refine lv_aload_n C.1.1 C.1.2.1 dX0_takeBackWork_0 rfl (lv_at hl 0 rfl) ?_
  refine lv_dup C.1.1 C.1.2.1 dX0_takeBackWork_1 rfl ?_
  refine x_get C hw iX_37_3 flX0_21 dX0_takeBackWork_2 ?_
  refine lv_iconst (v := (1 : Int32)) C.1.1 C.1.2.1 dX0_takeBackWork_5 rfl ?_
  refine lv_isub C.1.1 C.1.2.1 dX0_takeBackWork_6 ?_
  refine x_put C hw iX_37_3 flX0_21 dX0_takeBackWork_7 (fun H locs hw => ?_)
  refine lv_aload_n C.1.1 C.1.2.1 dX0_takeBackWork_10 rfl (lv_at hl 1 rfl) ?_
  refine lv_aload_n C.1.1 C.1.2.1 dX0_takeBackWork_11 rfl (lv_at hl 0 rfl) ?_
  refine x_ref C hw fX_37_0 flX0_9 dX0_takeBackWork_12 ?_
  refine lv_aload_n C.1.1 C.1.2.1 dX0_takeBackWork_15 rfl (lv_at hl 0 rfl) ?_
  refine x_get C hw iX_37_3 flX0_21 dX0_takeBackWork_16 ?_
  refine lv_bipush (v := (34 : Int32)) C.1.1 C.1.2.1 dX0_takeBackWork_19 rfl ?_
  refine lv_imul C.1.1 C.1.2.1 dX0_takeBackWork_21 ?_
  obtain ⟨q1, h1, hf⟩ := o_bind hf
  refine aft_v hw (run_VX C hw clX0_34 (As := [.ref (gA G 38), .int (((u2 X 37 3 ((X 37 3) - (1 : Int32))) 37 3) * (34 : Int32))]) (rest := []) oX_3 (c_X3_load aX_38 h1) rfl hl.1 rfl ⟨(Nat.le_of_ble_eq_true rfl), (Nat.le_of_ble_eq_true rfl)⟩ ⟨Nat.zero_le _, Nat.zero_le _⟩ rfl (Nat.le_of_ble_eq_true rfl) dX0_takeBackWork_22) (fun H locs hw => ?_)
  obtain rfl := Option.some.inj hf
  exact ret_v C hr hlk hw dX0_takeBackWork_25
end
/-! WinnerDraws.undo()I (('o', 'X', 0)) -/
def f_X8_undo (X : TX) : Option (TX × Int32) := if 0 < (X 37 3) then ((f_X0_takeBackWork X).bind fun q2 => some ((u2 q2 0 11 (0 : Int32)), ((u2 q2 0 11 (0 : Int32)) 37 3))) else (some (X, (-1 : Int32)))
section
variable {G : GP} {l : Launch}
set_option maxRecDepth 20000 in
set_option maxHeartbeats 2000000 in
theorem c_X8_undo   {X M : TX} {L : TL}  {ro : TX × Int32} (hf : f_X8_undo X = some ro) : CTi G l yX8_undo cX8_undo 1 (some .int) 4 90 [.ref (gA G 0)] X M L ro.1 M L ro.2 := by
  unfold f_X8_undo at hf
  refine ct_of (by decide +kernel) (Nat.le_of_ble_eq_true rfl) (fun p e s m args below meth c H locs ls C hr hlk hw hl => ?_)
  have C : Cx G p s m args c cX8_undo 1 RX8 := C
  have hl : lv_has ls 1 [(0, .ref (gA G 0))] := hl
  refine lv_aload_n C.1.1 C.1.2.1 dX8_undo_0 rfl (lv_at hl 0 rfl) ?_
  refine x_ref C hw fX_0_10 flX8_74 dX8_undo_1 ?_
  refine x_get C hw iX_37_3 flX8_119 dX8_undo_4 ?_
  refine lv_if_gt (tgt := 12) C.1.1 C.1.2.1 dX8_undo_7 (by decide) (fun c1 => ?_) (fun c1 => ?_)
  · have hf := o_t hf c1
    refine lv_aload_n C.1.1 C.1.2.1 dX8_undo_12 rfl (lv_at hl 0 rfl) ?_
    refine x_ref C hw fX_0_10 flX8_74 dX8_undo_13 ?_
    refine lv_aload_n C.1.1 C.1.2.1 dX8_undo_16 rfl (lv_at hl 0 rfl) ?_
    refine x_ref C hw fX_0_1 flX8_19 dX8_undo_17 ?_
    obtain ⟨q2, h2, hf⟩ := o_bind hf
    refine aft_v hw (run_VX C hw clX8_155 (As := [.ref (gA G 3)]) (rest := []) oX_37 (c_X0_takeBackWork h2) rfl hl.1 rfl ⟨(Nat.le_of_ble_eq_true rfl), (Nat.le_of_ble_eq_true rfl)⟩ ⟨Nat.zero_le _, Nat.zero_le _⟩ rfl (Nat.le_of_ble_eq_true rfl) dX8_undo_20) (fun H locs hw => ?_)
    refine lv_aload_n C.1.1 C.1.2.1 dX8_undo_23 rfl (lv_at hl 0 rfl) ?_
    refine lv_iconst (v := (0 : Int32)) C.1.1 C.1.2.1 dX8_undo_24 rfl ?_
    refine x_put C hw iX_0_11 flX8_109 dX8_undo_25 (fun H locs hw => ?_)
    refine lv_aload_n C.1.1 C.1.2.1 dX8_undo_28 rfl (lv_at hl 0 rfl) ?_
    refine x_ref C hw fX_0_10 flX8_74 dX8_undo_29 ?_
    refine x_get C hw iX_37_3 flX8_119 dX8_undo_32 ?_
    obtain rfl := Option.some.inj hf
    exact ret_i C hr hlk hw dX8_undo_35
  · have hf := o_f hf c1
    refine lv_iconst (v := (-1 : Int32)) C.1.1 C.1.2.1 dX8_undo_10 rfl ?_
    obtain rfl := Option.some.inj hf
    exact ret_i C hr hlk hw dX8_undo_11
end
/-! WinnerDraws$County.roadsFrom(I)I (('o', 'X', 3) ('i',)) -/
def f_X3_roadsFrom (X : TX) (x1 : Int32) : Option (Int32) := (f_X8_at 6 X x1).bind fun q1 => some q1
section
variable {G : GP} {l : Launch}
set_option maxRecDepth 20000 in
set_option maxHeartbeats 2000000 in
theorem c_X3_roadsFrom   {X M : TX} {L : TL} {x1 : Int32} {ro : Int32} (hf : f_X3_roadsFrom X x1 = some ro) : CTi G l yX3_roadsFrom cX3_roadsFrom 2 (some .int) 1 21 [.ref (gA G 3), .int x1] X M L X M L ro := by
  unfold f_X3_roadsFrom at hf
  refine ct_of (by decide +kernel) (Nat.le_of_ble_eq_true rfl) (fun p e s m args below meth c H locs ls C hr hlk hw hl => ?_)
  have C : Cx G p s m args c cX3_roadsFrom 2 RX3 := C
  have hl : lv_has ls 2 [(0, .ref (gA G 3)), (1, .int x1)] := hl
  refine lv_aload_n C.1.1 C.1.2.1 dX3_roadsFrom_0 rfl (lv_at hl 0 rfl) ?_
  refine x_ref C hw fX_3_2 flX3_18 dX3_roadsFrom_1 ?_
  refine lv_iload_n C.1.1 C.1.2.1 dX3_roadsFrom_4 rfl (lv_at hl 1 rfl) ?_
  obtain ⟨q1, h1, hf⟩ := o_bind hf
  refine aft_i hw (run_S C hw clX3_66 (As := [.ref (gA G 6), .int x1]) (rest := []) (c_X8_at aX_6 h1) hl.1 rfl ⟨(Nat.le_of_ble_eq_true rfl), (Nat.le_of_ble_eq_true rfl)⟩ ⟨Nat.zero_le _, Nat.zero_le _⟩ rfl (Nat.le_of_ble_eq_true rfl) dX3_roadsFrom_5) (fun H locs hw => ?_)
  obtain rfl := Option.some.inj hf
  exact ret_i C hr hlk hw dX3_roadsFrom_8
end
/-! WinnerDraws$County.roadCount()I (('o', 'X', 3)) -/
def L_X3_roadCount_4 : Nat → TX → Int32 → Int32 → Option (Int32)
  | 0 => fun _ _ _ => none
  | n + 1 => fun X x1 x2 => if (X 3 5) ≤ x2 then (some (x1 / (2 : Int32))) else ((f_X3_roadsFrom X x2).bind fun q2 => (f_J6_bitCount_0f7a4 q2).bind fun q3 => (L_X3_roadCount_4 n) X (x1 + q3) (x2 + (1 : Int32)))
def f_X3_roadCount (X : TX) : Option (Int32) := L_X3_roadCount_4 FU X (0 : Int32) (0 : Int32)
section
variable {G : GP} {l : Launch}
set_option maxRecDepth 20000 in
set_option maxHeartbeats 2000000 in
theorem wL_X3_roadCount_4 {p : Program} {e : Env} {s : State} {m : MethodId} {args : Array Value} {below : List Frame} {meth : Method} {c : Code} (C : Cx G p s m args c cX3_roadCount 3 RX3) (hr : meth.sig.returnType = (some .int)) (hlk : meth.locks = false) {ro : Int32} : ∀ (n : Nat), ∀ (X : TX) (M : TX) (L : TL) (x1 : Int32) (x2 : Int32) (H : Heap) (locs : List Loc) (ls : Array Slot), Wh G s X M L H locs → lv_has ls 3 [(0, .ref (gA G 3)), (1, .int x1), (2, .int x2)] → L_X3_roadCount_4 n X x1 x2 = some ro → W p l e (rz 2 42) s m args below meth c H locs 0 0 (MQ below (Di G X M L ro) args s 0 0 (AB G)) (F0 m 4 ls []) := by
  intro n
  induction n with
  | zero =>
    intro X M L x1 x2 H locs ls hw hl hf
    cases hf
  | succ n hk_4 =>
    intro X M L x1 x2 H locs ls hw hl hf
    rw [L_X3_roadCount_4] at hf
    refine lv_iload_n C.1.1 C.1.2.1 dX3_roadCount_4 rfl (lv_at hl 2 rfl) ?_
    refine lv_aload_n C.1.1 C.1.2.1 dX3_roadCount_5 rfl (lv_at hl 0 rfl) ?_
    refine x_get C hw iX_3_5 flX3_44 dX3_roadCount_6 ?_
    refine lv_icmp_ge (tgt := 29) C.1.1 C.1.2.1 dX3_roadCount_9 (by decide) (fun c1 => ?_) (fun c1 => ?_)
    · have hf := o_t hf c1
      refine lv_iload_n C.1.1 C.1.2.1 dX3_roadCount_29 rfl (lv_at hl 1 rfl) ?_
      refine lv_iconst (v := (2 : Int32)) C.1.1 C.1.2.1 dX3_roadCount_30 rfl ?_
      refine lv_idiv C.1.1 C.1.2.1 dX3_roadCount_31 (by decide) ?_
      obtain rfl := Option.some.inj hf
      exact ret_i C hr hlk hw dX3_roadCount_32
    · have hf := o_f hf c1
      refine lv_iload_n C.1.1 C.1.2.1 dX3_roadCount_12 rfl (lv_at hl 1 rfl) ?_
      refine lv_aload_n C.1.1 C.1.2.1 dX3_roadCount_13 rfl (lv_at hl 0 rfl) ?_
      refine lv_iload_n C.1.1 C.1.2.1 dX3_roadCount_14 rfl (lv_at hl 2 rfl) ?_
      obtain ⟨q2, h2, hf⟩ := o_bind hf
      refine aft_i hw (run_VX C hw clX3_150 (As := [.int x2]) (rest := [.int x1]) oX_3 (c_X3_roadsFrom h2) rfl hl.1 rfl ⟨(Nat.le_of_ble_eq_true rfl), (Nat.le_of_ble_eq_true rfl)⟩ ⟨Nat.zero_le _, Nat.zero_le _⟩ rfl (Nat.le_of_ble_eq_true rfl) dX3_roadCount_15) (fun H locs hw => ?_)
      obtain ⟨q3, h3, hf⟩ := o_bind hf
      refine aft_i hw (run_S C hw clX3_153 (As := [.int q2]) (rest := [.int x1]) (c_J6_bitCount_0f7a4 h3) hl.1 rfl ⟨(Nat.le_of_ble_eq_true rfl), (Nat.le_of_ble_eq_true rfl)⟩ ⟨Nat.zero_le _, Nat.zero_le _⟩ rfl (Nat.le_of_ble_eq_true rfl) dX3_roadCount_18) (fun H locs hw => ?_)
      refine lv_iadd C.1.1 C.1.2.1 dX3_roadCount_21 ?_
      refine lv_istore_n (lv' := [(1, .int (x1 + q3)), (0, .ref (gA G 3)), (2, .int x2)]) C.1.1 C.1.2.1 dX3_roadCount_22 rfl hl (by decide) rfl (fun ls hl => ?_)
      refine lv_iinc (v := (x2 + (1 : Int32))) (lv' := [(2, .int (x2 + (1 : Int32))), (1, .int (x1 + q3)), (0, .ref (gA G 3))]) C.1.1 C.1.2.1 dX3_roadCount_23 hl (k := 2) rfl rfl (by decide) rfl (fun ls hl => ?_)
      refine lv_goto (tgt := 4) C.1.1 C.1.2.1 dX3_roadCount_26 (by decide) ?_
      exact hk_4 X M L (x1 + q3) (x2 + (1 : Int32)) _ _ _ hw (lv_sub hl [2, 1, 0] rfl) hf
set_option maxRecDepth 20000 in
set_option maxHeartbeats 2000000 in
theorem c_X3_roadCount   {X M : TX} {L : TL}  {ro : Int32} (hf : f_X3_roadCount X = some ro) : CTi G l yX3_roadCount cX3_roadCount 3 (some .int) 2 42 [.ref (gA G 3)] X M L X M L ro := by
  unfold f_X3_roadCount at hf
  refine ct_of (by decide +kernel) (Nat.le_of_ble_eq_true rfl) (fun p e s m args below meth c H locs ls C hr hlk hw hl => ?_)
  have C : Cx G p s m args c cX3_roadCount 3 RX3 := C
  have hl : lv_has ls 3 [(0, .ref (gA G 3))] := hl
  refine lv_iconst (v := (0 : Int32)) C.1.1 C.1.2.1 dX3_roadCount_0 rfl ?_
  refine lv_istore_n (lv' := [(1, .int (0 : Int32)), (0, .ref (gA G 3))]) C.1.1 C.1.2.1 dX3_roadCount_1 rfl hl (by decide) rfl (fun ls hl => ?_)
  refine lv_iconst (v := (0 : Int32)) C.1.1 C.1.2.1 dX3_roadCount_2 rfl ?_
  refine lv_istore_n (lv' := [(2, .int (0 : Int32)), (1, .int (0 : Int32)), (0, .ref (gA G 3))]) C.1.1 C.1.2.1 dX3_roadCount_3 rfl hl (by decide) rfl (fun ls hl => ?_)
  exact wL_X3_roadCount_4 C hr hlk FU X M L (0 : Int32) (0 : Int32) _ _ _ hw (lv_sub hl [2, 1, 0] rfl) hf
end
/-! WinnerDraws$County.heldWards()I (('o', 'X', 3)) -/
def L_X3_heldWards_4 : Nat → TX → Int32 → Int32 → Option (Int32)
  | 0 => fun _ _ _ => none
  | n + 1 => fun X x1 x2 => if (4 : Int32) ≤ x2 then (some x1) else ((f_X3_membersOf X x2).bind fun q2 => if q2 = 0 then ((L_X3_heldWards_4 n) X x1 (x2 + (1 : Int32))) else ((L_X3_heldWards_4 n) X (x1 ||| ((1 : Int32) <<< (x2 &&& 31))) (x2 + (1 : Int32))))
def f_X3_heldWards (X : TX) : Option (Int32) := L_X3_heldWards_4 FU X (0 : Int32) (0 : Int32)
section
variable {G : GP} {l : Launch}
set_option maxRecDepth 20000 in
set_option maxHeartbeats 2000000 in
theorem wL_X3_heldWards_4 {p : Program} {e : Env} {s : State} {m : MethodId} {args : Array Value} {below : List Frame} {meth : Method} {c : Code} (C : Cx G p s m args c cX3_heldWards 3 RX3) (hr : meth.sig.returnType = (some .int)) (hlk : meth.locks = false) {ro : Int32} : ∀ (n : Nat), ∀ (X : TX) (M : TX) (L : TL) (x1 : Int32) (x2 : Int32) (H : Heap) (locs : List Loc) (ls : Array Slot), Wh G s X M L H locs → lv_has ls 3 [(0, .ref (gA G 3)), (1, .int x1), (2, .int x2)] → L_X3_heldWards_4 n X x1 x2 = some ro → W p l e (rz 2 42) s m args below meth c H locs 0 0 (MQ below (Di G X M L ro) args s 0 0 (AB G)) (F0 m 4 ls []) := by
  intro n
  induction n with
  | zero =>
    intro X M L x1 x2 H locs ls hw hl hf
    cases hf
  | succ n hk_4 =>
    intro X M L x1 x2 H locs ls hw hl hf
    rw [L_X3_heldWards_4] at hf
    refine lv_iload_n C.1.1 C.1.2.1 dX3_heldWards_4 rfl (lv_at hl 2 rfl) ?_
    refine lv_iconst (v := (4 : Int32)) C.1.1 C.1.2.1 dX3_heldWards_5 rfl ?_
    refine lv_icmp_ge (tgt := 29) C.1.1 C.1.2.1 dX3_heldWards_6 (by decide) (fun c1 => ?_) (fun c1 => ?_)
    · have hf := o_t hf c1
      refine lv_iload_n C.1.1 C.1.2.1 dX3_heldWards_29 rfl (lv_at hl 1 rfl) ?_
      obtain rfl := Option.some.inj hf
      exact ret_i C hr hlk hw dX3_heldWards_30
    · have hf := o_f hf c1
      refine lv_aload_n C.1.1 C.1.2.1 dX3_heldWards_9 rfl (lv_at hl 0 rfl) ?_
      refine lv_iload_n C.1.1 C.1.2.1 dX3_heldWards_10 rfl (lv_at hl 2 rfl) ?_
      obtain ⟨q2, h2, hf⟩ := o_bind hf
      refine aft_i hw (run_VX C hw clX3_156 (As := [.int x2]) (rest := []) oX_3 (c_X3_membersOf h2) rfl hl.1 rfl ⟨(Nat.le_of_ble_eq_true rfl), (Nat.le_of_ble_eq_true rfl)⟩ ⟨Nat.zero_le _, Nat.zero_le _⟩ rfl (Nat.le_of_ble_eq_true rfl) dX3_heldWards_11) (fun H locs hw => ?_)
      refine lv_if_eq (tgt := 23) C.1.1 C.1.2.1 dX3_heldWards_14 (by decide) (fun c3 => ?_) (fun c3 => ?_)
      · have hf := o_t hf c3
        refine lv_iinc (v := (x2 + (1 : Int32))) (lv' := [(2, .int (x2 + (1 : Int32))), (0, .ref (gA G 3)), (1, .int x1)]) C.1.1 C.1.2.1 dX3_heldWards_23 hl (k := 2) rfl rfl (by decide) rfl (fun ls hl => ?_)
        refine lv_goto (tgt := 4) C.1.1 C.1.2.1 dX3_heldWards_26 (by decide) ?_
        exact hk_4 X M L x1 (x2 + (1 : Int32)) _ _ _ hw (lv_sub hl [1, 2, 0] rfl) hf
      · have hf := o_f hf c3
        refine lv_iload_n C.1.1 C.1.2.1 dX3_heldWards_17 rfl (lv_at hl 1 rfl) ?_
        refine lv_iconst (v := (1 : Int32)) C.1.1 C.1.2.1 dX3_heldWards_18 rfl ?_
        refine lv_iload_n C.1.1 C.1.2.1 dX3_heldWards_19 rfl (lv_at hl 2 rfl) ?_
        refine lv_ishl C.1.1 C.1.2.1 dX3_heldWards_20 ?_
        refine lv_ior C.1.1 C.1.2.1 dX3_heldWards_21 ?_
        refine lv_istore_n (lv' := [(1, .int (x1 ||| ((1 : Int32) <<< (x2 &&& 31)))), (0, .ref (gA G 3)), (2, .int x2)]) C.1.1 C.1.2.1 dX3_heldWards_22 rfl hl (by decide) rfl (fun ls hl => ?_)
        refine lv_iinc (v := (x2 + (1 : Int32))) (lv' := [(2, .int (x2 + (1 : Int32))), (1, .int (x1 ||| ((1 : Int32) <<< (x2 &&& 31)))), (0, .ref (gA G 3))]) C.1.1 C.1.2.1 dX3_heldWards_23 hl (k := 2) rfl rfl (by decide) rfl (fun ls hl => ?_)
        refine lv_goto (tgt := 4) C.1.1 C.1.2.1 dX3_heldWards_26 (by decide) ?_
        exact hk_4 X M L (x1 ||| ((1 : Int32) <<< (x2 &&& 31))) (x2 + (1 : Int32)) _ _ _ hw (lv_sub hl [2, 1, 0] rfl) hf
set_option maxRecDepth 20000 in
set_option maxHeartbeats 2000000 in
theorem c_X3_heldWards   {X M : TX} {L : TL}  {ro : Int32} (hf : f_X3_heldWards X = some ro) : CTi G l yX3_heldWards cX3_heldWards 3 (some .int) 2 42 [.ref (gA G 3)] X M L X M L ro := by
  unfold f_X3_heldWards at hf
  refine ct_of (by decide +kernel) (Nat.le_of_ble_eq_true rfl) (fun p e s m args below meth c H locs ls C hr hlk hw hl => ?_)
  have C : Cx G p s m args c cX3_heldWards 3 RX3 := C
  have hl : lv_has ls 3 [(0, .ref (gA G 3))] := hl
  refine lv_iconst (v := (0 : Int32)) C.1.1 C.1.2.1 dX3_heldWards_0 rfl ?_
  refine lv_istore_n (lv' := [(1, .int (0 : Int32)), (0, .ref (gA G 3))]) C.1.1 C.1.2.1 dX3_heldWards_1 rfl hl (by decide) rfl (fun ls hl => ?_)
  refine lv_iconst (v := (0 : Int32)) C.1.1 C.1.2.1 dX3_heldWards_2 rfl ?_
  refine lv_istore_n (lv' := [(2, .int (0 : Int32)), (1, .int (0 : Int32)), (0, .ref (gA G 3))]) C.1.1 C.1.2.1 dX3_heldWards_3 rfl hl (by decide) rfl (fun ls hl => ?_)
  exact wL_X3_heldWards_4 C hr hlk FU X M L (0 : Int32) (0 : Int32) _ _ _ hw (lv_sub hl [2, 1, 0] rfl) hf
end
