/-! WinnerDrawsModel.smallest(I)I (('o', 'M', 0) ('i',)) -/
def L_X9_smallest_33 : Nat → TX → Int32 → Int32 → Int32 → Int32 → Option (TX × Int32)
  | 0 => fun _ _ _ _ _ => none
  | n + 1 => fun M x1 x2 x3 x4 => if (4 : Int32) ≤ x4 then (if x1 = 0 then (some (M, x2)) else (if x2 = (-1 : Int32) then (some (M, x2)) else ((f_X9_votersOf M x2).bind fun q8 => some (M, (x3 - q8))))) else ((f_X9_setOf M x4).bind fun q9 => if q9 = 0 then ((L_X9_smallest_33 n) M x1 x2 x3 (x4 + (1 : Int32))) else (if x2 = (-1 : Int32) then ((f_X9_votersOf M x4).bind fun q12 => if q12 ≤ x3 then ((L_X9_smallest_33 n) M x1 x4 x3 (x4 + (1 : Int32))) else ((f_X9_votersOf M x4).bind fun q14 => (L_X9_smallest_33 n) M x1 x4 q14 (x4 + (1 : Int32)))) else ((f_X9_votersOf M x4).bind fun q15 => (f_X9_votersOf M x2).bind fun q16 => if q16 ≤ q15 then ((f_X9_votersOf M x4).bind fun q18 => if q18 ≤ x3 then ((L_X9_smallest_33 n) M x1 x2 x3 (x4 + (1 : Int32))) else ((f_X9_votersOf M x4).bind fun q20 => (L_X9_smallest_33 n) M x1 x2 q20 (x4 + (1 : Int32)))) else ((f_X9_votersOf M x4).bind fun q21 => if q21 ≤ x3 then ((L_X9_smallest_33 n) M x1 x4 x3 (x4 + (1 : Int32))) else ((f_X9_votersOf M x4).bind fun q23 => (L_X9_smallest_33 n) M x1 x4 q23 (x4 + (1 : Int32)))))))
def f_X9_smallest (M : TX) (x1 : Int32) : Option (TX × Int32) := (f_X9_within x1 (0 : Int32) (1 : Int32)).bind fun q1 => (f_X9_lets (u2 M 0 0 (0 : Int32)) q1 (1 : Int32) (1 : Int32)).bind fun q2 => if q2.2 = 0 then (some (q2.1, (0 : Int32))) else ((f_X9_take q2.1).bind fun q4 => L_X9_smallest_33 FU q4 x1 (-1 : Int32) (0 : Int32) (0 : Int32))
section
variable {G : GP} {l : Launch}
set_option maxRecDepth 20000 in
set_option maxHeartbeats 2000000 in
theorem wL_X9_smallest_33 {p : Program} {e : Env} {s : State} {m : MethodId} {args : Array Value} {below : List Frame} {meth : Method} {c : Code} (C : Cx G p s m args c cX9_smallest 5 RX9) (hr : meth.sig.returnType = (some .int)) (hlk : meth.locks = false) {ro : TX × Int32} : ∀ (n : Nat), ∀ (X : TX) (M : TX) (L : TL) (x1 : Int32) (x2 : Int32) (x3 : Int32) (x4 : Int32) (H : Heap) (locs : List Loc) (ls : Array Slot), Wh G s X M L H locs → lv_has ls 5 [(0, .ref (gA G (41 + 0))), (1, .int x1), (2, .int x2), (3, .int x3), (4, .int x4)] → L_X9_smallest_33 n M x1 x2 x3 x4 = some ro → W p l e (rz 3 67) s m args below meth c H locs 0 0 (MQ below (Di G X ro.1 L ro.2) args s 0 0 (AB G)) (F0 m 33 ls []) := by
  intro n
  induction n with
  | zero =>
    intro X M L x1 x2 x3 x4 H locs ls hw hl hf
    cases hf
  | succ n hk_33 =>
    intro X M L x1 x2 x3 x4 H locs ls hw hl hf
    rw [L_X9_smallest_33] at hf
    refine lv_iload C.1.1 C.1.2.1 dX9_smallest_33 (lv_at hl 4 rfl) ?_
    refine lv_iconst (v := (4 : Int32)) C.1.1 C.1.2.1 dX9_smallest_35 rfl ?_
    refine lv_icmp_ge (tgt := 100) C.1.1 C.1.2.1 dX9_smallest_36 (by decide) (fun c5 => ?_) (fun c5 => ?_)
    · have hf := o_t hf c5
      refine lv_iload_n C.1.1 C.1.2.1 dX9_smallest_100 rfl (lv_at hl 1 rfl) ?_
      refine lv_if_eq (tgt := 109) C.1.1 C.1.2.1 dX9_smallest_101 (by decide) (fun c6 => ?_) (fun c6 => ?_)
      · have hf := o_t hf c6
        refine lv_iload_n C.1.1 C.1.2.1 dX9_smallest_109 rfl (lv_at hl 2 rfl) ?_
        refine lv_goto (tgt := 120) C.1.1 C.1.2.1 dX9_smallest_110 (by decide) ?_
        obtain rfl := Option.some.inj hf
        exact ret_i C hr hlk hw dX9_smallest_120
      · have hf := o_f hf c6
        refine lv_iload_n C.1.1 C.1.2.1 dX9_smallest_104 rfl (lv_at hl 2 rfl) ?_
        refine lv_iconst (v := (-1 : Int32)) C.1.1 C.1.2.1 dX9_smallest_105 rfl ?_
        refine lv_icmp_ne (tgt := 113) C.1.1 C.1.2.1 dX9_smallest_106 (by decide) (fun c7 => ?_) (fun c7 => ?_)
        · have hf := o_f hf c7
          refine lv_iload_n C.1.1 C.1.2.1 dX9_smallest_113 rfl (lv_at hl 3 rfl) ?_
          refine lv_aload_n C.1.1 C.1.2.1 dX9_smallest_114 rfl (lv_at hl 0 rfl) ?_
          refine lv_iload_n C.1.1 C.1.2.1 dX9_smallest_115 rfl (lv_at hl 2 rfl) ?_
          obtain ⟨q8, h8, hf⟩ := o_bind hf
          refine aft_i hw (run_VM C hw clX9_415 (As := [.int x2]) (rest := [.int x3]) oM_0 (c_X9_votersOf h8) rfl hl.1 rfl ⟨(Nat.le_of_ble_eq_true rfl), (Nat.le_of_ble_eq_true rfl)⟩ ⟨Nat.zero_le _, Nat.zero_le _⟩ rfl (Nat.le_of_ble_eq_true rfl) dX9_smallest_116) (fun H locs hw => ?_)
          refine lv_isub C.1.1 C.1.2.1 dX9_smallest_119 ?_
          obtain rfl := Option.some.inj hf
          exact ret_i C hr hlk hw dX9_smallest_120
        · have hf := o_t hf c7
          refine lv_iload_n C.1.1 C.1.2.1 dX9_smallest_109 rfl (lv_at hl 2 rfl) ?_
          refine lv_goto (tgt := 120) C.1.1 C.1.2.1 dX9_smallest_110 (by decide) ?_
          obtain rfl := Option.some.inj hf
          exact ret_i C hr hlk hw dX9_smallest_120
    · have hf := o_f hf c5
      refine lv_aload_n C.1.1 C.1.2.1 dX9_smallest_39 rfl (lv_at hl 0 rfl) ?_
      refine lv_iload C.1.1 C.1.2.1 dX9_smallest_40 (lv_at hl 4 rfl) ?_
      obtain ⟨q9, h9, hf⟩ := o_bind hf
      refine aft_i hw (run_VM C hw clX9_329 (As := [.int x4]) (rest := []) oM_0 (c_X9_setOf h9) rfl hl.1 rfl ⟨(Nat.le_of_ble_eq_true rfl), (Nat.le_of_ble_eq_true rfl)⟩ ⟨Nat.zero_le _, Nat.zero_le _⟩ rfl (Nat.le_of_ble_eq_true rfl) dX9_smallest_42) (fun H locs hw => ?_)
      refine lv_if_ne (tgt := 51) C.1.1 C.1.2.1 dX9_smallest_45 (by decide) (fun c10 => ?_) (fun c10 => ?_)
      · have hf := o_f hf c10
        refine lv_iload_n C.1.1 C.1.2.1 dX9_smallest_51 rfl (lv_at hl 2 rfl) ?_
        refine lv_iconst (v := (-1 : Int32)) C.1.1 C.1.2.1 dX9_smallest_52 rfl ?_
        refine lv_icmp_eq (tgt := 70) C.1.1 C.1.2.1 dX9_smallest_53 (by decide) (fun c11 => ?_) (fun c11 => ?_)
        · have hf := o_t hf c11
          refine lv_iload C.1.1 C.1.2.1 dX9_smallest_70 (lv_at hl 4 rfl) ?_
          refine lv_istore_n (lv' := [(2, .int x4), (0, .ref (gA G (41 + 0))), (1, .int x1), (3, .int x3), (4, .int x4)]) C.1.1 C.1.2.1 dX9_smallest_72 rfl hl (by decide) rfl (fun ls hl => ?_)
          refine lv_aload_n C.1.1 C.1.2.1 dX9_smallest_73 rfl (lv_at hl 1 rfl) ?_
          refine lv_iload C.1.1 C.1.2.1 dX9_smallest_74 (lv_at hl 4 rfl) ?_
          obtain ⟨q12, h12, hf⟩ := o_bind hf
          refine aft_i hw (run_VM C hw clX9_415 (As := [.int x4]) (rest := []) oM_0 (c_X9_votersOf h12) rfl hl.1 rfl ⟨(Nat.le_of_ble_eq_true rfl), (Nat.le_of_ble_eq_true rfl)⟩ ⟨Nat.zero_le _, Nat.zero_le _⟩ rfl (Nat.le_of_ble_eq_true rfl) dX9_smallest_76) (fun H locs hw => ?_)
          refine lv_iload_n C.1.1 C.1.2.1 dX9_smallest_79 rfl (lv_at hl 3 rfl) ?_
          refine lv_icmp_le (tgt := 92) C.1.1 C.1.2.1 dX9_smallest_80 (by decide) (fun c13 => ?_) (fun c13 => ?_)
          · have hf := o_t hf c13
            refine lv_iload_n C.1.1 C.1.2.1 dX9_smallest_92 rfl (lv_at hl 3 rfl) ?_
            refine lv_istore_n (lv' := [(3, .int x3), (2, .int x4), (0, .ref (gA G (41 + 0))), (1, .int x1), (4, .int x4)]) C.1.1 C.1.2.1 dX9_smallest_93 rfl hl (by decide) rfl (fun ls hl => ?_)
            refine lv_iinc (v := (x4 + (1 : Int32))) (lv' := [(4, .int (x4 + (1 : Int32))), (3, .int x3), (2, .int x4), (0, .ref (gA G (41 + 0))), (1, .int x1)]) C.1.1 C.1.2.1 dX9_smallest_94 hl (k := 4) rfl rfl (by decide) rfl (fun ls hl => ?_)
            refine lv_goto (tgt := 33) C.1.1 C.1.2.1 dX9_smallest_97 (by decide) ?_
            exact hk_33 X M L x1 x4 x3 (x4 + (1 : Int32)) _ _ _ hw (lv_sub hl [3, 4, 2, 1, 0] rfl) hf
          · have hf := o_f hf c13
            refine lv_aload_n C.1.1 C.1.2.1 dX9_smallest_83 rfl (lv_at hl 1 rfl) ?_
            refine lv_iload C.1.1 C.1.2.1 dX9_smallest_84 (lv_at hl 4 rfl) ?_
            obtain ⟨q14, h14, hf⟩ := o_bind hf
            refine aft_i hw (run_VM C hw clX9_415 (As := [.int x4]) (rest := []) oM_0 (c_X9_votersOf h14) rfl hl.1 rfl ⟨(Nat.le_of_ble_eq_true rfl), (Nat.le_of_ble_eq_true rfl)⟩ ⟨Nat.zero_le _, Nat.zero_le _⟩ rfl (Nat.le_of_ble_eq_true rfl) dX9_smallest_86) (fun H locs hw => ?_)
            refine lv_goto (tgt := 93) C.1.1 C.1.2.1 dX9_smallest_89 (by decide) ?_
            refine lv_istore_n (lv' := [(3, .int q14), (2, .int x4), (0, .ref (gA G (41 + 0))), (1, .int x1), (4, .int x4)]) C.1.1 C.1.2.1 dX9_smallest_93 rfl hl (by decide) rfl (fun ls hl => ?_)
            refine lv_iinc (v := (x4 + (1 : Int32))) (lv' := [(4, .int (x4 + (1 : Int32))), (3, .int q14), (2, .int x4), (0, .ref (gA G (41 + 0))), (1, .int x1)]) C.1.1 C.1.2.1 dX9_smallest_94 hl (k := 4) rfl rfl (by decide) rfl (fun ls hl => ?_)
            refine lv_goto (tgt := 33) C.1.1 C.1.2.1 dX9_smallest_97 (by decide) ?_
            exact hk_33 X M L x1 x4 q14 (x4 + (1 : Int32)) _ _ _ hw (lv_sub hl [3, 4, 2, 1, 0] rfl) hf
        · have hf := o_f hf c11
          refine lv_aload_n C.1.1 C.1.2.1 dX9_smallest_56 rfl (lv_at hl 0 rfl) ?_
          refine lv_iload C.1.1 C.1.2.1 dX9_smallest_57 (lv_at hl 4 rfl) ?_
          obtain ⟨q15, h15, hf⟩ := o_bind hf
          refine aft_i hw (run_VM C hw clX9_415 (As := [.int x4]) (rest := []) oM_0 (c_X9_votersOf h15) rfl hl.1 rfl ⟨(Nat.le_of_ble_eq_true rfl), (Nat.le_of_ble_eq_true rfl)⟩ ⟨Nat.zero_le _, Nat.zero_le _⟩ rfl (Nat.le_of_ble_eq_true rfl) dX9_smallest_59) (fun H locs hw => ?_)
          refine lv_aload_n C.1.1 C.1.2.1 dX9_smallest_62 rfl (lv_at hl 0 rfl) ?_
          refine lv_iload_n C.1.1 C.1.2.1 dX9_smallest_63 rfl (lv_at hl 2 rfl) ?_
          obtain ⟨q16, h16, hf⟩ := o_bind hf
          refine aft_i hw (run_VM C hw clX9_415 (As := [.int x2]) (rest := [.int q15]) oM_0 (c_X9_votersOf h16) rfl hl.1 rfl ⟨(Nat.le_of_ble_eq_true rfl), (Nat.le_of_ble_eq_true rfl)⟩ ⟨Nat.zero_le _, Nat.zero_le _⟩ rfl (Nat.le_of_ble_eq_true rfl) dX9_smallest_64) (fun H locs hw => ?_)
          refine lv_icmp_ge (tgt := 73) C.1.1 C.1.2.1 dX9_smallest_67 (by decide) (fun c17 => ?_) (fun c17 => ?_)
          · have hf := o_t hf c17
            refine lv_aload_n C.1.1 C.1.2.1 dX9_smallest_73 rfl (lv_at hl 0 rfl) ?_
            refine lv_iload C.1.1 C.1.2.1 dX9_smallest_74 (lv_at hl 4 rfl) ?_
            obtain ⟨q18, h18, hf⟩ := o_bind hf
            refine aft_i hw (run_VM C hw clX9_415 (As := [.int x4]) (rest := []) oM_0 (c_X9_votersOf h18) rfl hl.1 rfl ⟨(Nat.le_of_ble_eq_true rfl), (Nat.le_of_ble_eq_true rfl)⟩ ⟨Nat.zero_le _, Nat.zero_le _⟩ rfl (Nat.le_of_ble_eq_true rfl) dX9_smallest_76) (fun H locs hw => ?_)
            refine lv_iload_n C.1.1 C.1.2.1 dX9_smallest_79 rfl (lv_at hl 3 rfl) ?_
            refine lv_icmp_le (tgt := 92) C.1.1 C.1.2.1 dX9_smallest_80 (by decide) (fun c19 => ?_) (fun c19 => ?_)
            · have hf := o_t hf c19
              refine lv_iload_n C.1.1 C.1.2.1 dX9_smallest_92 rfl (lv_at hl 3 rfl) ?_
              refine lv_istore_n (lv' := [(3, .int x3), (0, .ref (gA G (41 + 0))), (1, .int x1), (2, .int x2), (4, .int x4)]) C.1.1 C.1.2.1 dX9_smallest_93 rfl hl (by decide) rfl (fun ls hl => ?_)
              refine lv_iinc (v := (x4 + (1 : Int32))) (lv' := [(4, .int (x4 + (1 : Int32))), (3, .int x3), (0, .ref (gA G (41 + 0))), (1, .int x1), (2, .int x2)]) C.1.1 C.1.2.1 dX9_smallest_94 hl (k := 4) rfl rfl (by decide) rfl (fun ls hl => ?_)
              refine lv_goto (tgt := 33) C.1.1 C.1.2.1 dX9_smallest_97 (by decide) ?_
              exact hk_33 X M L x1 x2 x3 (x4 + (1 : Int32)) _ _ _ hw (lv_sub hl [2, 3, 4, 1, 0] rfl) hf
            · have hf := o_f hf c19
              refine lv_aload_n C.1.1 C.1.2.1 dX9_smallest_83 rfl (lv_at hl 0 rfl) ?_
              refine lv_iload C.1.1 C.1.2.1 dX9_smallest_84 (lv_at hl 4 rfl) ?_
              obtain ⟨q20, h20, hf⟩ := o_bind hf
              refine aft_i hw (run_VM C hw clX9_415 (As := [.int x4]) (rest := []) oM_0 (c_X9_votersOf h20) rfl hl.1 rfl ⟨(Nat.le_of_ble_eq_true rfl), (Nat.le_of_ble_eq_true rfl)⟩ ⟨Nat.zero_le _, Nat.zero_le _⟩ rfl (Nat.le_of_ble_eq_true rfl) dX9_smallest_86) (fun H locs hw => ?_)
              refine lv_goto (tgt := 93) C.1.1 C.1.2.1 dX9_smallest_89 (by decide) ?_
              refine lv_istore_n (lv' := [(3, .int q20), (0, .ref (gA G (41 + 0))), (1, .int x1), (2, .int x2), (4, .int x4)]) C.1.1 C.1.2.1 dX9_smallest_93 rfl hl (by decide) rfl (fun ls hl => ?_)
              refine lv_iinc (v := (x4 + (1 : Int32))) (lv' := [(4, .int (x4 + (1 : Int32))), (3, .int q20), (0, .ref (gA G (41 + 0))), (1, .int x1), (2, .int x2)]) C.1.1 C.1.2.1 dX9_smallest_94 hl (k := 4) rfl rfl (by decide) rfl (fun ls hl => ?_)
              refine lv_goto (tgt := 33) C.1.1 C.1.2.1 dX9_smallest_97 (by decide) ?_
              exact hk_33 X M L x1 x2 q20 (x4 + (1 : Int32)) _ _ _ hw (lv_sub hl [2, 3, 4, 1, 0] rfl) hf
          · have hf := o_f hf c17
            refine lv_iload C.1.1 C.1.2.1 dX9_smallest_70 (lv_at hl 4 rfl) ?_
            refine lv_istore_n (lv' := [(2, .int x4), (0, .ref (gA G (41 + 0))), (1, .int x1), (3, .int x3), (4, .int x4)]) C.1.1 C.1.2.1 dX9_smallest_72 rfl hl (by decide) rfl (fun ls hl => ?_)
            refine lv_aload_n C.1.1 C.1.2.1 dX9_smallest_73 rfl (lv_at hl 1 rfl) ?_
            refine lv_iload C.1.1 C.1.2.1 dX9_smallest_74 (lv_at hl 4 rfl) ?_
            obtain ⟨q21, h21, hf⟩ := o_bind hf
            refine aft_i hw (run_VM C hw clX9_415 (As := [.int x4]) (rest := []) oM_0 (c_X9_votersOf h21) rfl hl.1 rfl ⟨(Nat.le_of_ble_eq_true rfl), (Nat.le_of_ble_eq_true rfl)⟩ ⟨Nat.zero_le _, Nat.zero_le _⟩ rfl (Nat.le_of_ble_eq_true rfl) dX9_smallest_76) (fun H locs hw => ?_)
            refine lv_iload_n C.1.1 C.1.2.1 dX9_smallest_79 rfl (lv_at hl 3 rfl) ?_
            refine lv_icmp_le (tgt := 92) C.1.1 C.1.2.1 dX9_smallest_80 (by decide) (fun c22 => ?_) (fun c22 => ?_)
            · have hf := o_t hf c22
              refine lv_iload_n C.1.1 C.1.2.1 dX9_smallest_92 rfl (lv_at hl 3 rfl) ?_
              refine lv_istore_n (lv' := [(3, .int x3), (2, .int x4), (0, .ref (gA G (41 + 0))), (1, .int x1), (4, .int x4)]) C.1.1 C.1.2.1 dX9_smallest_93 rfl hl (by decide) rfl (fun ls hl => ?_)
              refine lv_iinc (v := (x4 + (1 : Int32))) (lv' := [(4, .int (x4 + (1 : Int32))), (3, .int x3), (2, .int x4), (0, .ref (gA G (41 + 0))), (1, .int x1)]) C.1.1 C.1.2.1 dX9_smallest_94 hl (k := 4) rfl rfl (by decide) rfl (fun ls hl => ?_)
              refine lv_goto (tgt := 33) C.1.1 C.1.2.1 dX9_smallest_97 (by decide) ?_
              exact hk_33 X M L x1 x4 x3 (x4 + (1 : Int32)) _ _ _ hw (lv_sub hl [3, 4, 2, 1, 0] rfl) hf
            · have hf := o_f hf c22
              refine lv_aload_n C.1.1 C.1.2.1 dX9_smallest_83 rfl (lv_at hl 1 rfl) ?_
              refine lv_iload C.1.1 C.1.2.1 dX9_smallest_84 (lv_at hl 4 rfl) ?_
              obtain ⟨q23, h23, hf⟩ := o_bind hf
              refine aft_i hw (run_VM C hw clX9_415 (As := [.int x4]) (rest := []) oM_0 (c_X9_votersOf h23) rfl hl.1 rfl ⟨(Nat.le_of_ble_eq_true rfl), (Nat.le_of_ble_eq_true rfl)⟩ ⟨Nat.zero_le _, Nat.zero_le _⟩ rfl (Nat.le_of_ble_eq_true rfl) dX9_smallest_86) (fun H locs hw => ?_)
              refine lv_goto (tgt := 93) C.1.1 C.1.2.1 dX9_smallest_89 (by decide) ?_
              refine lv_istore_n (lv' := [(3, .int q23), (2, .int x4), (0, .ref (gA G (41 + 0))), (1, .int x1), (4, .int x4)]) C.1.1 C.1.2.1 dX9_smallest_93 rfl hl (by decide) rfl (fun ls hl => ?_)
              refine lv_iinc (v := (x4 + (1 : Int32))) (lv' := [(4, .int (x4 + (1 : Int32))), (3, .int q23), (2, .int x4), (0, .ref (gA G (41 + 0))), (1, .int x1)]) C.1.1 C.1.2.1 dX9_smallest_94 hl (k := 4) rfl rfl (by decide) rfl (fun ls hl => ?_)
              refine lv_goto (tgt := 33) C.1.1 C.1.2.1 dX9_smallest_97 (by decide) ?_
              exact hk_33 X M L x1 x4 q23 (x4 + (1 : Int32)) _ _ _ hw (lv_sub hl [3, 4, 2, 1, 0] rfl) hf
      · have hf := o_t hf c10
        refine lv_goto (tgt := 94) C.1.1 C.1.2.1 dX9_smallest_48 (by decide) ?_
        refine lv_iinc (v := (x4 + (1 : Int32))) (lv' := [(4, .int (x4 + (1 : Int32))), (0, .ref (gA G (41 + 0))), (1, .int x1), (2, .int x2), (3, .int x3)]) C.1.1 C.1.2.1 dX9_smallest_94 hl (k := 4) rfl rfl (by decide) rfl (fun ls hl => ?_)
        refine lv_goto (tgt := 33) C.1.1 C.1.2.1 dX9_smallest_97 (by decide) ?_
        exact hk_33 X M L x1 x2 x3 (x4 + (1 : Int32)) _ _ _ hw (lv_sub hl [1, 2, 3, 4, 0] rfl) hf
set_option maxRecDepth 20000 in
set_option maxHeartbeats 2000000 in
theorem c_X9_smallest   {X M : TX} {L : TL} {x1 : Int32} {ro : TX × Int32} (hf : f_X9_smallest M x1 = some ro) : CTi G l yX9_smallest cX9_smallest 5 (some .int) 3 67 [.ref (gA G (41 + 0)), .int x1] X M L X ro.1 L ro.2 := by
  unfold f_X9_smallest at hf
  refine ct_of (by decide +kernel) (Nat.le_of_ble_eq_true rfl) (fun p e s m args below meth c H locs ls C hr hlk hw hl => ?_)
  have C : Cx G p s m args c cX9_smallest 5 RX9 := C
  have hl : lv_has ls 5 [(0, .ref (gA G (41 + 0))), (1, .int x1)] := hl
  refine lv_aload_n C.1.1 C.1.2.1 dX9_smallest_0 rfl (lv_at hl 0 rfl) ?_
  refine lv_iconst (v := (0 : Int32)) C.1.1 C.1.2.1 dX9_smallest_1 rfl ?_
  refine m_put C hw iM_0_0 flX9_3 dX9_smallest_2 (fun H locs hw => ?_)
  refine lv_aload_n C.1.1 C.1.2.1 dX9_smallest_5 rfl (lv_at hl 0 rfl) ?_
  refine lv_iload_n C.1.1 C.1.2.1 dX9_smallest_6 rfl (lv_at hl 1 rfl) ?_
  refine lv_iconst (v := (0 : Int32)) C.1.1 C.1.2.1 dX9_smallest_7 rfl ?_
  refine lv_iconst (v := (1 : Int32)) C.1.1 C.1.2.1 dX9_smallest_8 rfl ?_
  obtain ⟨q1, h1, hf⟩ := o_bind hf
  refine aft_i hw (run_S C hw clX9_385 (As := [.int x1, .int (0 : Int32), .int (1 : Int32)]) (rest := [.ref (gA G (41 + 0))]) (c_X9_within h1) hl.1 rfl ⟨(Nat.le_of_ble_eq_true rfl), (Nat.le_of_ble_eq_true rfl)⟩ ⟨Nat.zero_le _, Nat.zero_le _⟩ rfl (Nat.le_of_ble_eq_true rfl) dX9_smallest_9) (fun H locs hw => ?_)
  refine lv_iconst (v := (1 : Int32)) C.1.1 C.1.2.1 dX9_smallest_12 rfl ?_
  refine lv_iconst (v := (1 : Int32)) C.1.1 C.1.2.1 dX9_smallest_13 rfl ?_
  obtain ⟨q2, h2, hf⟩ := o_bind hf
  refine aft_i hw (run_VM C hw clX9_200 (As := [.int q1, .int (1 : Int32), .int (1 : Int32)]) (rest := []) oM_0 (c_X9_lets h2) rfl hl.1 rfl ⟨(Nat.le_of_ble_eq_true rfl), (Nat.le_of_ble_eq_true rfl)⟩ ⟨Nat.zero_le _, Nat.zero_le _⟩ rfl (Nat.le_of_ble_eq_true rfl) dX9_smallest_14) (fun H locs hw => ?_)
  refine lv_if_ne (tgt := 22) C.1.1 C.1.2.1 dX9_smallest_17 (by decide) (fun c3 => ?_) (fun c3 => ?_)
  · have hf := o_f hf c3
    refine lv_aload_n C.1.1 C.1.2.1 dX9_smallest_22 rfl (lv_at hl 0 rfl) ?_
    obtain ⟨q4, h4, hf⟩ := o_bind hf
    refine aft_v hw (run_VM C hw clX9_307 (As := []) (rest := []) oM_0 (c_X9_take h4) rfl hl.1 rfl ⟨(Nat.le_of_ble_eq_true rfl), (Nat.le_of_ble_eq_true rfl)⟩ ⟨Nat.zero_le _, Nat.zero_le _⟩ rfl (Nat.le_of_ble_eq_true rfl) dX9_smallest_23) (fun H locs hw => ?_)
    refine lv_iconst (v := (-1 : Int32)) C.1.1 C.1.2.1 dX9_smallest_26 rfl ?_
    refine lv_istore_n (lv' := [(2, .int (-1 : Int32)), (0, .ref (gA G (41 + 0))), (1, .int x1)]) C.1.1 C.1.2.1 dX9_smallest_27 rfl hl (by decide) rfl (fun ls hl => ?_)
    refine lv_iconst (v := (0 : Int32)) C.1.1 C.1.2.1 dX9_smallest_28 rfl ?_
    refine lv_istore_n (lv' := [(3, .int (0 : Int32)), (2, .int (-1 : Int32)), (0, .ref (gA G (41 + 0))), (1, .int x1)]) C.1.1 C.1.2.1 dX9_smallest_29 rfl hl (by decide) rfl (fun ls hl => ?_)
    refine lv_iconst (v := (0 : Int32)) C.1.1 C.1.2.1 dX9_smallest_30 rfl ?_
    refine lv_istore (lv' := [(4, .int (0 : Int32)), (3, .int (0 : Int32)), (2, .int (-1 : Int32)), (0, .ref (gA G (41 + 0))), (1, .int x1)]) C.1.1 C.1.2.1 dX9_smallest_31 hl (by decide) rfl (fun ls hl => ?_)
    exact wL_X9_smallest_33 C hr hlk FU X q4 L x1 (-1 : Int32) (0 : Int32) (0 : Int32) _ _ _ hw (lv_sub hl [3, 4, 2, 1, 0] rfl) hf
  · have hf := o_t hf c3
    refine lv_iconst (v := (0 : Int32)) C.1.1 C.1.2.1 dX9_smallest_20 rfl ?_
    obtain rfl := Option.some.inj hf
    exact ret_i C hr hlk hw dX9_smallest_21
end
/-! WinnerDrawsModel.leadOf(I)I (('o', 'M', 0) ('i',)) -/
def f_X9_leadOf (M : TX) (x1 : Int32) : Option (Int32) := (f_X9_setOf M x1).bind fun q1 => (f_X9_votesIn M q1 (0 : Int32)).bind fun q2 => (f_X9_setOf M x1).bind fun q3 => (f_X9_votesIn M q3 (1 : Int32)).bind fun q4 => if 0 ≤ (q2 - q4) then (some (q2 - q4)) else (some (-(q2 - q4)))
section
variable {G : GP} {l : Launch}
set_option maxRecDepth 20000 in
set_option maxHeartbeats 2000000 in
theorem c_X9_leadOf   {X M : TX} {L : TL} {x1 : Int32} {ro : Int32} (hf : f_X9_leadOf M x1 = some ro) : CTi G l yX9_leadOf cX9_leadOf 3 (some .int) 2 46 [.ref (gA G (41 + 0)), .int x1] X M L X M L ro := by
  unfold f_X9_leadOf at hf
  refine ct_of (by decide +kernel) (Nat.le_of_ble_eq_true rfl) (fun p e s m args below meth c H locs ls C hr hlk hw hl => ?_)
  have C : Cx G p s m args c cX9_leadOf 3 RX9 := C
  have hl : lv_has ls 3 [(0, .ref (gA G (41 + 0))), (1, .int x1)] := hl
  refine lv_aload_n C.1.1 C.1.2.1 dX9_leadOf_0 rfl (lv_at hl 0 rfl) ?_
  refine lv_aload_n C.1.1 C.1.2.1 dX9_leadOf_1 rfl (lv_at hl 0 rfl) ?_
  refine lv_iload_n C.1.1 C.1.2.1 dX9_leadOf_2 rfl (lv_at hl 1 rfl) ?_
  obtain ⟨q1, h1, hf⟩ := o_bind hf
  refine aft_i hw (run_VM C hw clX9_329 (As := [.int x1]) (rest := [.ref (gA G (41 + 0))]) oM_0 (c_X9_setOf h1) rfl hl.1 rfl ⟨(Nat.le_of_ble_eq_true rfl), (Nat.le_of_ble_eq_true rfl)⟩ ⟨Nat.zero_le _, Nat.zero_le _⟩ rfl (Nat.le_of_ble_eq_true rfl) dX9_leadOf_3) (fun H locs hw => ?_)
  refine lv_iconst (v := (0 : Int32)) C.1.1 C.1.2.1 dX9_leadOf_6 rfl ?_
  obtain ⟨q2, h2, hf⟩ := o_bind hf
  refine aft_i hw (run_VM C hw clX9_332 (As := [.int q1, .int (0 : Int32)]) (rest := []) oM_0 (c_X9_votesIn h2) rfl hl.1 rfl ⟨(Nat.le_of_ble_eq_true rfl), (Nat.le_of_ble_eq_true rfl)⟩ ⟨Nat.zero_le _, Nat.zero_le _⟩ rfl (Nat.le_of_ble_eq_true rfl) dX9_leadOf_7) (fun H locs hw => ?_)
  refine lv_aload_n C.1.1 C.1.2.1 dX9_leadOf_10 rfl (lv_at hl 0 rfl) ?_
  refine lv_aload_n C.1.1 C.1.2.1 dX9_leadOf_11 rfl (lv_at hl 0 rfl) ?_
  refine lv_iload_n C.1.1 C.1.2.1 dX9_leadOf_12 rfl (lv_at hl 1 rfl) ?_
  obtain ⟨q3, h3, hf⟩ := o_bind hf
  refine aft_i hw (run_VM C hw clX9_329 (As := [.int x1]) (rest := [.ref (gA G (41 + 0)), .int q2]) oM_0 (c_X9_setOf h3) rfl hl.1 rfl ⟨(Nat.le_of_ble_eq_true rfl), (Nat.le_of_ble_eq_true rfl)⟩ ⟨Nat.zero_le _, Nat.zero_le _⟩ rfl (Nat.le_of_ble_eq_true rfl) dX9_leadOf_13) (fun H locs hw => ?_)
  refine lv_iconst (v := (1 : Int32)) C.1.1 C.1.2.1 dX9_leadOf_16 rfl ?_
  obtain ⟨q4, h4, hf⟩ := o_bind hf
  refine aft_i hw (run_VM C hw clX9_332 (As := [.int q3, .int (1 : Int32)]) (rest := [.int q2]) oM_0 (c_X9_votesIn h4) rfl hl.1 rfl ⟨(Nat.le_of_ble_eq_true rfl), (Nat.le_of_ble_eq_true rfl)⟩ ⟨Nat.zero_le _, Nat.zero_le _⟩ rfl (Nat.le_of_ble_eq_true rfl) dX9_leadOf_17) (fun H locs hw => ?_)
  refine lv_isub C.1.1 C.1.2.1 dX9_leadOf_20 ?_
  refine lv_istore_n (lv' := [(2, .int (q2 - q4)), (0, .ref (gA G (41 + 0))), (1, .int x1)]) C.1.1 C.1.2.1 dX9_leadOf_21 rfl hl (by decide) rfl (fun ls hl => ?_)
  refine lv_iload_n C.1.1 C.1.2.1 dX9_leadOf_22 rfl (lv_at hl 0 rfl) ?_
  refine lv_if_ge (tgt := 31) C.1.1 C.1.2.1 dX9_leadOf_23 (by decide) (fun c5 => ?_) (fun c5 => ?_)
  · have hf := o_t hf c5
    refine lv_iload_n C.1.1 C.1.2.1 dX9_leadOf_31 rfl (lv_at hl 0 rfl) ?_
    obtain rfl := Option.some.inj hf
    exact ret_i C hr hlk hw dX9_leadOf_32
  · have hf := o_f hf c5
    refine lv_iload_n C.1.1 C.1.2.1 dX9_leadOf_26 rfl (lv_at hl 0 rfl) ?_
    refine lv_ineg C.1.1 C.1.2.1 dX9_leadOf_27 ?_
    refine lv_goto (tgt := 32) C.1.1 C.1.2.1 dX9_leadOf_28 (by decide) ?_
    obtain rfl := Option.some.inj hf
    exact ret_i C hr hlk hw dX9_leadOf_32
end
/-! WinnerDrawsModel.closest(I)I (('o', 'M', 0) ('i',)) -/
def L_X9_closest_30 : Nat → TX → Int32 → Int32 → Int32 → Option (TX × Int32)
  | 0 => fun _ _ _ _ => none
  | n + 1 => fun M x1 x2 x3 => if (4 : Int32) ≤ x3 then (if x1 = 0 then (some (M, x2)) else (if x2 = (-1 : Int32) then (some (M, x2)) else ((f_X9_leadOf M x2).bind fun q8 => some (M, q8)))) else ((f_X9_leadOf M x3).bind fun q9 => if q9 ≤ 0 then ((L_X9_closest_30 n) M x1 x2 (x3 + (1 : Int32))) else (if x2 = (-1 : Int32) then ((L_X9_closest_30 n) M x1 x3 (x3 + (1 : Int32))) else ((f_X9_leadOf M x3).bind fun q12 => (f_X9_leadOf M x2).bind fun q13 => if q13 ≤ q12 then ((L_X9_closest_30 n) M x1 x2 (x3 + (1 : Int32))) else ((L_X9_closest_30 n) M x1 x3 (x3 + (1 : Int32))))))
def f_X9_closest (M : TX) (x1 : Int32) : Option (TX × Int32) := (f_X9_within x1 (0 : Int32) (1 : Int32)).bind fun q1 => (f_X9_lets (u2 M 0 0 (0 : Int32)) q1 (1 : Int32) (1 : Int32)).bind fun q2 => if q2.2 = 0 then (some (q2.1, (0 : Int32))) else ((f_X9_take q2.1).bind fun q4 => L_X9_closest_30 FU q4 x1 (-1 : Int32) (0 : Int32))
section
variable {G : GP} {l : Launch}
set_option maxRecDepth 20000 in
set_option maxHeartbeats 2000000 in
theorem wL_X9_closest_30 {p : Program} {e : Env} {s : State} {m : MethodId} {args : Array Value} {below : List Frame} {meth : Method} {c : Code} (C : Cx G p s m args c cX9_closest 4 RX9) (hr : meth.sig.returnType = (some .int)) (hlk : meth.locks = false) {ro : TX × Int32} : ∀ (n : Nat), ∀ (X : TX) (M : TX) (L : TL) (x1 : Int32) (x2 : Int32) (x3 : Int32) (H : Heap) (locs : List Loc) (ls : Array Slot), Wh G s X M L H locs → lv_has ls 4 [(0, .ref (gA G (41 + 0))), (1, .int x1), (2, .int x2), (3, .int x3)] → L_X9_closest_30 n M x1 x2 x3 = some ro → W p l e (rz 3 68) s m args below meth c H locs 0 0 (MQ below (Di G X ro.1 L ro.2) args s 0 0 (AB G)) (F0 m 30 ls []) := by
  intro n
  induction n with
  | zero =>
    intro X M L x1 x2 x3 H locs ls hw hl hf
    cases hf
  | succ n hk_30 =>
    intro X M L x1 x2 x3 H locs ls hw hl hf
    rw [L_X9_closest_30] at hf
    refine lv_iload_n C.1.1 C.1.2.1 dX9_closest_30 rfl (lv_at hl 3 rfl) ?_
    refine lv_iconst (v := (4 : Int32)) C.1.1 C.1.2.1 dX9_closest_31 rfl ?_
    refine lv_icmp_ge (tgt := 69) C.1.1 C.1.2.1 dX9_closest_32 (by decide) (fun c5 => ?_) (fun c5 => ?_)
    · have hf := o_t hf c5
      refine lv_iload_n C.1.1 C.1.2.1 dX9_closest_69 rfl (lv_at hl 1 rfl) ?_
      refine lv_if_eq (tgt := 78) C.1.1 C.1.2.1 dX9_closest_70 (by decide) (fun c6 => ?_) (fun c6 => ?_)
      · have hf := o_t hf c6
        refine lv_iload_n C.1.1 C.1.2.1 dX9_closest_78 rfl (lv_at hl 2 rfl) ?_
        refine lv_goto (tgt := 87) C.1.1 C.1.2.1 dX9_closest_79 (by decide) ?_
        obtain rfl := Option.some.inj hf
        exact ret_i C hr hlk hw dX9_closest_87
      · have hf := o_f hf c6
        refine lv_iload_n C.1.1 C.1.2.1 dX9_closest_73 rfl (lv_at hl 2 rfl) ?_
        refine lv_iconst (v := (-1 : Int32)) C.1.1 C.1.2.1 dX9_closest_74 rfl ?_
        refine lv_icmp_ne (tgt := 82) C.1.1 C.1.2.1 dX9_closest_75 (by decide) (fun c7 => ?_) (fun c7 => ?_)
        · have hf := o_f hf c7
          refine lv_aload_n C.1.1 C.1.2.1 dX9_closest_82 rfl (lv_at hl 0 rfl) ?_
          refine lv_iload_n C.1.1 C.1.2.1 dX9_closest_83 rfl (lv_at hl 2 rfl) ?_
          obtain ⟨q8, h8, hf⟩ := o_bind hf
          refine aft_i hw (run_VM C hw clX9_418 (As := [.int x2]) (rest := []) oM_0 (c_X9_leadOf h8) rfl hl.1 rfl ⟨(Nat.le_of_ble_eq_true rfl), (Nat.le_of_ble_eq_true rfl)⟩ ⟨Nat.zero_le _, Nat.zero_le _⟩ rfl (Nat.le_of_ble_eq_true rfl) dX9_closest_84) (fun H locs hw => ?_)
          obtain rfl := Option.some.inj hf
          exact ret_i C hr hlk hw dX9_closest_87
        · have hf := o_t hf c7
          refine lv_iload_n C.1.1 C.1.2.1 dX9_closest_78 rfl (lv_at hl 2 rfl) ?_
          refine lv_goto (tgt := 87) C.1.1 C.1.2.1 dX9_closest_79 (by decide) ?_
          obtain rfl := Option.some.inj hf
          exact ret_i C hr hlk hw dX9_closest_87
    · have hf := o_f hf c5
      refine lv_aload_n C.1.1 C.1.2.1 dX9_closest_35 rfl (lv_at hl 0 rfl) ?_
      refine lv_iload_n C.1.1 C.1.2.1 dX9_closest_36 rfl (lv_at hl 3 rfl) ?_
      obtain ⟨q9, h9, hf⟩ := o_bind hf
      refine aft_i hw (run_VM C hw clX9_418 (As := [.int x3]) (rest := []) oM_0 (c_X9_leadOf h9) rfl hl.1 rfl ⟨(Nat.le_of_ble_eq_true rfl), (Nat.le_of_ble_eq_true rfl)⟩ ⟨Nat.zero_le _, Nat.zero_le _⟩ rfl (Nat.le_of_ble_eq_true rfl) dX9_closest_37) (fun H locs hw => ?_)
      refine lv_if_le (tgt := 63) C.1.1 C.1.2.1 dX9_closest_40 (by decide) (fun c10 => ?_) (fun c10 => ?_)
      · have hf := o_t hf c10
        refine lv_iinc (v := (x3 + (1 : Int32))) (lv' := [(3, .int (x3 + (1 : Int32))), (0, .ref (gA G (41 + 0))), (1, .int x1), (2, .int x2)]) C.1.1 C.1.2.1 dX9_closest_63 hl (k := 3) rfl rfl (by decide) rfl (fun ls hl => ?_)
        refine lv_goto (tgt := 30) C.1.1 C.1.2.1 dX9_closest_66 (by decide) ?_
        exact hk_30 X M L x1 x2 (x3 + (1 : Int32)) _ _ _ hw (lv_sub hl [1, 2, 3, 0] rfl) hf
      · have hf := o_f hf c10
        refine lv_iload_n C.1.1 C.1.2.1 dX9_closest_43 rfl (lv_at hl 2 rfl) ?_
        refine lv_iconst (v := (-1 : Int32)) C.1.1 C.1.2.1 dX9_closest_44 rfl ?_
        refine lv_icmp_eq (tgt := 61) C.1.1 C.1.2.1 dX9_closest_45 (by decide) (fun c11 => ?_) (fun c11 => ?_)
        · have hf := o_t hf c11
          refine lv_iload_n C.1.1 C.1.2.1 dX9_closest_61 rfl (lv_at hl 3 rfl) ?_
          refine lv_istore_n (lv' := [(2, .int x3), (0, .ref (gA G (41 + 0))), (1, .int x1), (3, .int x3)]) C.1.1 C.1.2.1 dX9_closest_62 rfl hl (by decide) rfl (fun ls hl => ?_)
          refine lv_iinc (v := (x3 + (1 : Int32))) (lv' := [(3, .int (x3 + (1 : Int32))), (2, .int x3), (0, .ref (gA G (41 + 0))), (1, .int x1)]) C.1.1 C.1.2.1 dX9_closest_63 hl (k := 3) rfl rfl (by decide) rfl (fun ls hl => ?_)
          refine lv_goto (tgt := 30) C.1.1 C.1.2.1 dX9_closest_66 (by decide) ?_
          exact hk_30 X M L x1 x3 (x3 + (1 : Int32)) _ _ _ hw (lv_sub hl [2, 3, 1, 0] rfl) hf
        · have hf := o_f hf c11
          refine lv_aload_n C.1.1 C.1.2.1 dX9_closest_48 rfl (lv_at hl 0 rfl) ?_
          refine lv_iload_n C.1.1 C.1.2.1 dX9_closest_49 rfl (lv_at hl 3 rfl) ?_
          obtain ⟨q12, h12, hf⟩ := o_bind hf
          refine aft_i hw (run_VM C hw clX9_418 (As := [.int x3]) (rest := []) oM_0 (c_X9_leadOf h12) rfl hl.1 rfl ⟨(Nat.le_of_ble_eq_true rfl), (Nat.le_of_ble_eq_true rfl)⟩ ⟨Nat.zero_le _, Nat.zero_le _⟩ rfl (Nat.le_of_ble_eq_true rfl) dX9_closest_50) (fun H locs hw => ?_)
          refine lv_aload_n C.1.1 C.1.2.1 dX9_closest_53 rfl (lv_at hl 0 rfl) ?_
          refine lv_iload_n C.1.1 C.1.2.1 dX9_closest_54 rfl (lv_at hl 2 rfl) ?_
          obtain ⟨q13, h13, hf⟩ := o_bind hf
          refine aft_i hw (run_VM C hw clX9_418 (As := [.int x2]) (rest := [.int q12]) oM_0 (c_X9_leadOf h13) rfl hl.1 rfl ⟨(Nat.le_of_ble_eq_true rfl), (Nat.le_of_ble_eq_true rfl)⟩ ⟨Nat.zero_le _, Nat.zero_le _⟩ rfl (Nat.le_of_ble_eq_true rfl) dX9_closest_55) (fun H locs hw => ?_)
          refine lv_icmp_ge (tgt := 63) C.1.1 C.1.2.1 dX9_closest_58 (by decide) (fun c14 => ?_) (fun c14 => ?_)
          · have hf := o_t hf c14
            refine lv_iinc (v := (x3 + (1 : Int32))) (lv' := [(3, .int (x3 + (1 : Int32))), (0, .ref (gA G (41 + 0))), (1, .int x1), (2, .int x2)]) C.1.1 C.1.2.1 dX9_closest_63 hl (k := 3) rfl rfl (by decide) rfl (fun ls hl => ?_)
            refine lv_goto (tgt := 30) C.1.1 C.1.2.1 dX9_closest_66 (by decide) ?_
            exact hk_30 X M L x1 x2 (x3 + (1 : Int32)) _ _ _ hw (lv_sub hl [1, 2, 3, 0] rfl) hf
          · have hf := o_f hf c14
            refine lv_iload_n C.1.1 C.1.2.1 dX9_closest_61 rfl (lv_at hl 3 rfl) ?_
            refine lv_istore_n (lv' := [(2, .int x3), (0, .ref (gA G (41 + 0))), (1, .int x1), (3, .int x3)]) C.1.1 C.1.2.1 dX9_closest_62 rfl hl (by decide) rfl (fun ls hl => ?_)
            refine lv_iinc (v := (x3 + (1 : Int32))) (lv' := [(3, .int (x3 + (1 : Int32))), (2, .int x3), (0, .ref (gA G (41 + 0))), (1, .int x1)]) C.1.1 C.1.2.1 dX9_closest_63 hl (k := 3) rfl rfl (by decide) rfl (fun ls hl => ?_)
            refine lv_goto (tgt := 30) C.1.1 C.1.2.1 dX9_closest_66 (by decide) ?_
            exact hk_30 X M L x1 x3 (x3 + (1 : Int32)) _ _ _ hw (lv_sub hl [2, 3, 1, 0] rfl) hf
set_option maxRecDepth 20000 in
set_option maxHeartbeats 2000000 in
theorem c_X9_closest   {X M : TX} {L : TL} {x1 : Int32} {ro : TX × Int32} (hf : f_X9_closest M x1 = some ro) : CTi G l yX9_closest cX9_closest 4 (some .int) 3 68 [.ref (gA G (41 + 0)), .int x1] X M L X ro.1 L ro.2 := by
  unfold f_X9_closest at hf
  refine ct_of (by decide +kernel) (Nat.le_of_ble_eq_true rfl) (fun p e s m args below meth c H locs ls C hr hlk hw hl => ?_)
  have C : Cx G p s m args c cX9_closest 4 RX9 := C
  have hl : lv_has ls 4 [(0, .ref (gA G (41 + 0))), (1, .int x1)] := hl
  refine lv_aload_n C.1.1 C.1.2.1 dX9_closest_0 rfl (lv_at hl 0 rfl) ?_
  refine lv_iconst (v := (0 : Int32)) C.1.1 C.1.2.1 dX9_closest_1 rfl ?_
  refine m_put C hw iM_0_0 flX9_3 dX9_closest_2 (fun H locs hw => ?_)
  refine lv_aload_n C.1.1 C.1.2.1 dX9_closest_5 rfl (lv_at hl 0 rfl) ?_
  refine lv_iload_n C.1.1 C.1.2.1 dX9_closest_6 rfl (lv_at hl 1 rfl) ?_
  refine lv_iconst (v := (0 : Int32)) C.1.1 C.1.2.1 dX9_closest_7 rfl ?_
  refine lv_iconst (v := (1 : Int32)) C.1.1 C.1.2.1 dX9_closest_8 rfl ?_
  obtain ⟨q1, h1, hf⟩ := o_bind hf
  refine aft_i hw (run_S C hw clX9_385 (As := [.int x1, .int (0 : Int32), .int (1 : Int32)]) (rest := [.ref (gA G (41 + 0))]) (c_X9_within h1) hl.1 rfl ⟨(Nat.le_of_ble_eq_true rfl), (Nat.le_of_ble_eq_true rfl)⟩ ⟨Nat.zero_le _, Nat.zero_le _⟩ rfl (Nat.le_of_ble_eq_true rfl) dX9_closest_9) (fun H locs hw => ?_)
  refine lv_iconst (v := (1 : Int32)) C.1.1 C.1.2.1 dX9_closest_12 rfl ?_
  refine lv_iconst (v := (1 : Int32)) C.1.1 C.1.2.1 dX9_closest_13 rfl ?_
  obtain ⟨q2, h2, hf⟩ := o_bind hf
  refine aft_i hw (run_VM C hw clX9_200 (As := [.int q1, .int (1 : Int32), .int (1 : Int32)]) (rest := []) oM_0 (c_X9_lets h2) rfl hl.1 rfl ⟨(Nat.le_of_ble_eq_true rfl), (Nat.le_of_ble_eq_true rfl)⟩ ⟨Nat.zero_le _, Nat.zero_le _⟩ rfl (Nat.le_of_ble_eq_true rfl) dX9_closest_14) (fun H locs hw => ?_)
  refine lv_if_ne (tgt := 22) C.1.1 C.1.2.1 dX9_closest_17 (by decide) (fun c3 => ?_) (fun c3 => ?_)
  · have hf := o_f hf c3
    refine lv_aload_n C.1.1 C.1.2.1 dX9_closest_22 rfl (lv_at hl 0 rfl) ?_
    obtain ⟨q4, h4, hf⟩ := o_bind hf
    refine aft_v hw (run_VM C hw clX9_307 (As := []) (rest := []) oM_0 (c_X9_take h4) rfl hl.1 rfl ⟨(Nat.le_of_ble_eq_true rfl), (Nat.le_of_ble_eq_true rfl)⟩ ⟨Nat.zero_le _, Nat.zero_le _⟩ rfl (Nat.le_of_ble_eq_true rfl) dX9_closest_23) (fun H locs hw => ?_)
    refine lv_iconst (v := (-1 : Int32)) C.1.1 C.1.2.1 dX9_closest_26 rfl ?_
    refine lv_istore_n (lv' := [(2, .int (-1 : Int32)), (0, .ref (gA G (41 + 0))), (1, .int x1)]) C.1.1 C.1.2.1 dX9_closest_27 rfl hl (by decide) rfl (fun ls hl => ?_)
    refine lv_iconst (v := (0 : Int32)) C.1.1 C.1.2.1 dX9_closest_28 rfl ?_
    refine lv_istore_n (lv' := [(3, .int (0 : Int32)), (2, .int (-1 : Int32)), (0, .ref (gA G (41 + 0))), (1, .int x1)]) C.1.1 C.1.2.1 dX9_closest_29 rfl hl (by decide) rfl (fun ls hl => ?_)
    exact wL_X9_closest_30 C hr hlk FU X q4 L x1 (-1 : Int32) (0 : Int32) _ _ _ hw (lv_sub hl [2, 3, 1, 0] rfl) hf
  · have hf := o_t hf c3
    refine lv_iconst (v := (0 : Int32)) C.1.1 C.1.2.1 dX9_closest_20 rfl ?_
    obtain rfl := Option.some.inj hf
    exact ret_i C hr hlk hw dX9_closest_21
end
/-! WinnerDrawsModel.border()I (('o', 'M', 0)) -/
def L_X9_border_13 : Nat → TX → Int32 → Int32 → Option (TX × Int32)
  | 0 => fun _ _ _ => none
  | n + 1 => fun M x1 x2 => if (M 0 19) ≤ x2 then (some (M, x1)) else (if inb x2 10 = true then (if inb ((0 : Int32) + x2) 34 = true then ((f_X9_setOf M (M 20 (Int32.toNatClampNeg ((0 : Int32) + x2)))).bind fun q5 => if ((M 7 (Int32.toNatClampNeg x2)) &&& (q5 ^^^ (-1 : Int32))) = 0 then ((L_X9_border_13 n) M (x1 ||| (0 : Int32)) (x2 + (1 : Int32))) else ((L_X9_border_13 n) M (x1 ||| ((1 : Int32) <<< (x2 &&& 31))) (x2 + (1 : Int32)))) else none) else none)
def f_X9_border (M : TX) : Option (TX × Int32) := (f_X9_take (u2 M 0 0 (0 : Int32))).bind fun q1 => L_X9_border_13 FU q1 (0 : Int32) (0 : Int32)
section
variable {G : GP} {l : Launch}
set_option maxRecDepth 20000 in
set_option maxHeartbeats 2000000 in
theorem wL_X9_border_13 {p : Program} {e : Env} {s : State} {m : MethodId} {args : Array Value} {below : List Frame} {meth : Method} {c : Code} (C : Cx G p s m args c cX9_border 3 RX9) (hr : meth.sig.returnType = (some .int)) (hlk : meth.locks = false) {ro : TX × Int32} : ∀ (n : Nat), ∀ (X : TX) (M : TX) (L : TL) (x1 : Int32) (x2 : Int32) (H : Heap) (locs : List Loc) (ls : Array Slot), Wh G s X M L H locs → lv_has ls 3 [(0, .ref (gA G (41 + 0))), (1, .int x1), (2, .int x2)] → L_X9_border_13 n M x1 x2 = some ro → W p l e (rz 2 44) s m args below meth c H locs 0 0 (MQ below (Di G X ro.1 L ro.2) args s 0 0 (AB G)) (F0 m 13 ls []) := by
  intro n
  induction n with
  | zero =>
    intro X M L x1 x2 H locs ls hw hl hf
    cases hf
  | succ n hk_13 =>
    intro X M L x1 x2 H locs ls hw hl hf
    rw [L_X9_border_13] at hf
    refine lv_iload_n C.1.1 C.1.2.1 dX9_border_13 rfl (lv_at hl 2 rfl) ?_
    refine lv_aload_n C.1.1 C.1.2.1 dX9_border_14 rfl (lv_at hl 0 rfl) ?_
    refine m_get C hw iM_0_19 flX9_157 dX9_border_15 ?_
    refine lv_icmp_ge (tgt := 61) C.1.1 C.1.2.1 dX9_border_18 (by decide) (fun c2 => ?_) (fun c2 => ?_)
    · have hf := o_t hf c2
      refine lv_iload_n C.1.1 C.1.2.1 dX9_border_61 rfl (lv_at hl 1 rfl) ?_
      obtain rfl := Option.some.inj hf
      exact ret_i C hr hlk hw dX9_border_62
    · have hf := o_f hf c2
      refine lv_iload_n C.1.1 C.1.2.1 dX9_border_21 rfl (lv_at hl 1 rfl) ?_
      refine lv_aload_n C.1.1 C.1.2.1 dX9_border_22 rfl (lv_at hl 0 rfl) ?_
      refine m_ref C hw fM_0_14 flX9_35 dX9_border_23 ?_
      refine lv_iload_n C.1.1 C.1.2.1 dX9_border_26 rfl (lv_at hl 2 rfl) ?_
      have g3 := inb_in (o_g hf).1
      have hf := (o_g hf).2
      refine m_ald C hw aM_7 g3 dX9_border_27 ?_
      refine lv_aload_n C.1.1 C.1.2.1 dX9_border_28 rfl (lv_at hl 0 rfl) ?_
      refine lv_aload_n C.1.1 C.1.2.1 dX9_border_29 rfl (lv_at hl 0 rfl) ?_
      refine m_ref C hw fM_0_42 flX9_74 dX9_border_30 ?_
      refine lv_iconst (v := (0 : Int32)) C.1.1 C.1.2.1 dX9_border_33 rfl ?_
      refine lv_iload_n C.1.1 C.1.2.1 dX9_border_34 rfl (lv_at hl 2 rfl) ?_
      refine lv_iadd C.1.1 C.1.2.1 dX9_border_35 ?_
      have g4 := inb_in (o_g hf).1
      have hf := (o_g hf).2
      refine m_ald C hw aM_20 g4 dX9_border_36 ?_
      obtain ⟨q5, h5, hf⟩ := o_bind hf
      refine aft_i hw (run_VM C hw clX9_329 (As := [.int (M 20 (Int32.toNatClampNeg ((0 : Int32) + x2)))]) (rest := [.int (M 7 (Int32.toNatClampNeg x2)), .int x1]) oM_0 (c_X9_setOf h5) rfl hl.1 rfl ⟨(Nat.le_of_ble_eq_true rfl), (Nat.le_of_ble_eq_true rfl)⟩ ⟨Nat.zero_le _, Nat.zero_le _⟩ rfl (Nat.le_of_ble_eq_true rfl) dX9_border_37) (fun H locs hw => ?_)
      refine lv_iconst (v := (-1 : Int32)) C.1.1 C.1.2.1 dX9_border_40 rfl ?_
      refine lv_ixor C.1.1 C.1.2.1 dX9_border_41 ?_
      refine lv_iand C.1.1 C.1.2.1 dX9_border_42 ?_
      refine lv_if_eq (tgt := 52) C.1.1 C.1.2.1 dX9_border_43 (by decide) (fun c6 => ?_) (fun c6 => ?_)
      · have hf := o_t hf c6
        refine lv_iconst (v := (0 : Int32)) C.1.1 C.1.2.1 dX9_border_52 rfl ?_
        refine lv_ior C.1.1 C.1.2.1 dX9_border_53 ?_
        refine lv_istore_n (lv' := [(1, .int (x1 ||| (0 : Int32))), (0, .ref (gA G (41 + 0))), (2, .int x2)]) C.1.1 C.1.2.1 dX9_border_54 rfl hl (by decide) rfl (fun ls hl => ?_)
        refine lv_iinc (v := (x2 + (1 : Int32))) (lv' := [(2, .int (x2 + (1 : Int32))), (1, .int (x1 ||| (0 : Int32))), (0, .ref (gA G (41 + 0)))]) C.1.1 C.1.2.1 dX9_border_55 hl (k := 2) rfl rfl (by decide) rfl (fun ls hl => ?_)
        refine lv_goto (tgt := 13) C.1.1 C.1.2.1 dX9_border_58 (by decide) ?_
        exact hk_13 X M L (x1 ||| (0 : Int32)) (x2 + (1 : Int32)) _ _ _ hw (lv_sub hl [2, 1, 0] rfl) hf
      · have hf := o_f hf c6
        refine lv_iconst (v := (1 : Int32)) C.1.1 C.1.2.1 dX9_border_46 rfl ?_
        refine lv_iload_n C.1.1 C.1.2.1 dX9_border_47 rfl (lv_at hl 2 rfl) ?_
        refine lv_ishl C.1.1 C.1.2.1 dX9_border_48 ?_
        refine lv_goto (tgt := 53) C.1.1 C.1.2.1 dX9_border_49 (by decide) ?_
        refine lv_ior C.1.1 C.1.2.1 dX9_border_53 ?_
        refine lv_istore_n (lv' := [(1, .int (x1 ||| ((1 : Int32) <<< (x2 &&& 31)))), (0, .ref (gA G (41 + 0))), (2, .int x2)]) C.1.1 C.1.2.1 dX9_border_54 rfl hl (by decide) rfl (fun ls hl => ?_)
        refine lv_iinc (v := (x2 + (1 : Int32))) (lv' := [(2, .int (x2 + (1 : Int32))), (1, .int (x1 ||| ((1 : Int32) <<< (x2 &&& 31)))), (0, .ref (gA G (41 + 0)))]) C.1.1 C.1.2.1 dX9_border_55 hl (k := 2) rfl rfl (by decide) rfl (fun ls hl => ?_)
        refine lv_goto (tgt := 13) C.1.1 C.1.2.1 dX9_border_58 (by decide) ?_
        exact hk_13 X M L (x1 ||| ((1 : Int32) <<< (x2 &&& 31))) (x2 + (1 : Int32)) _ _ _ hw (lv_sub hl [2, 1, 0] rfl) hf
set_option maxRecDepth 20000 in
set_option maxHeartbeats 2000000 in
theorem c_X9_border   {X M : TX} {L : TL}  {ro : TX × Int32} (hf : f_X9_border M = some ro) : CTi G l yX9_border cX9_border 3 (some .int) 2 44 [.ref (gA G (41 + 0))] X M L X ro.1 L ro.2 := by
  unfold f_X9_border at hf
  refine ct_of (by decide +kernel) (Nat.le_of_ble_eq_true rfl) (fun p e s m args below meth c H locs ls C hr hlk hw hl => ?_)
  have C : Cx G p s m args c cX9_border 3 RX9 := C
  have hl : lv_has ls 3 [(0, .ref (gA G (41 + 0)))] := hl
  refine lv_aload_n C.1.1 C.1.2.1 dX9_border_0 rfl (lv_at hl 0 rfl) ?_
  refine lv_iconst (v := (0 : Int32)) C.1.1 C.1.2.1 dX9_border_1 rfl ?_
  refine m_put C hw iM_0_0 flX9_3 dX9_border_2 (fun H locs hw => ?_)
  refine lv_aload_n C.1.1 C.1.2.1 dX9_border_5 rfl (lv_at hl 0 rfl) ?_
  obtain ⟨q1, h1, hf⟩ := o_bind hf
  refine aft_v hw (run_VM C hw clX9_307 (As := []) (rest := []) oM_0 (c_X9_take h1) rfl hl.1 rfl ⟨(Nat.le_of_ble_eq_true rfl), (Nat.le_of_ble_eq_true rfl)⟩ ⟨Nat.zero_le _, Nat.zero_le _⟩ rfl (Nat.le_of_ble_eq_true rfl) dX9_border_6) (fun H locs hw => ?_)
  refine lv_iconst (v := (0 : Int32)) C.1.1 C.1.2.1 dX9_border_9 rfl ?_
  refine lv_istore_n (lv' := [(1, .int (0 : Int32)), (0, .ref (gA G (41 + 0)))]) C.1.1 C.1.2.1 dX9_border_10 rfl hl (by decide) rfl (fun ls hl => ?_)
  refine lv_iconst (v := (0 : Int32)) C.1.1 C.1.2.1 dX9_border_11 rfl ?_
  refine lv_istore_n (lv' := [(2, .int (0 : Int32)), (1, .int (0 : Int32)), (0, .ref (gA G (41 + 0)))]) C.1.1 C.1.2.1 dX9_border_12 rfl hl (by decide) rfl (fun ls hl => ?_)
  exact wL_X9_border_13 C hr hlk FU X q1 L (0 : Int32) (0 : Int32) _ _ _ hw (lv_sub hl [2, 1, 0] rfl) hf
end
/-! WinnerDrawsModel.tide(I)I (('o', 'M', 0) ('i',)) -/
def f_X9_tide (M : TX) (x1 : Int32) : Option (TX × Int32) := (f_X9_within x1 (0 : Int32) (1 : Int32)).bind fun q1 => (f_X9_lets (u2 M 0 0 (0 : Int32)) q1 (1 : Int32) (1 : Int32)).bind fun q2 => if q2.2 = 0 then (some (q2.1, (0 : Int32))) else (if (q2.1 0 20) = 0 then (some (q2.1, (-1 : Int32))) else (if inb (32 : Int32) 34 = true then (if (q2.1 0 20) = 0 then none else (if inb (((2 : Int32) * ((q2.1 19 (Int32.toNatClampNeg (32 : Int32))) - (q2.1 19 (Int32.toNatClampNeg (32 : Int32))) / (q2.1 0 20) * (q2.1 0 20))) + x1) 12 = true then (some (q2.1, (q2.1 8 (Int32.toNatClampNeg (((2 : Int32) * ((q2.1 19 (Int32.toNatClampNeg (32 : Int32))) - (q2.1 19 (Int32.toNatClampNeg (32 : Int32))) / (q2.1 0 20) * (q2.1 0 20))) + x1))))) else none)) else none))
section
variable {G : GP} {l : Launch}
set_option maxRecDepth 20000 in
set_option maxHeartbeats 2000000 in
theorem c_X9_tide   {X M : TX} {L : TL} {x1 : Int32} {ro : TX × Int32} (hf : f_X9_tide M x1 = some ro) : CTi G l yX9_tide cX9_tide 2 (some .int) 1 23 [.ref (gA G (41 + 0)), .int x1] X M L X ro.1 L ro.2 := by
  unfold f_X9_tide at hf
  refine ct_of (by decide +kernel) (Nat.le_of_ble_eq_true rfl) (fun p e s m args below meth c H locs ls C hr hlk hw hl => ?_)
  have C : Cx G p s m args c cX9_tide 2 RX9 := C
  have hl : lv_has ls 2 [(0, .ref (gA G (41 + 0))), (1, .int x1)] := hl
  refine lv_aload_n C.1.1 C.1.2.1 dX9_tide_0 rfl (lv_at hl 0 rfl) ?_
  refine lv_iconst (v := (0 : Int32)) C.1.1 C.1.2.1 dX9_tide_1 rfl ?_
  refine m_put C hw iM_0_0 flX9_3 dX9_tide_2 (fun H locs hw => ?_)
  refine lv_aload_n C.1.1 C.1.2.1 dX9_tide_5 rfl (lv_at hl 0 rfl) ?_
  refine lv_iload_n C.1.1 C.1.2.1 dX9_tide_6 rfl (lv_at hl 1 rfl) ?_
  refine lv_iconst (v := (0 : Int32)) C.1.1 C.1.2.1 dX9_tide_7 rfl ?_
  refine lv_iconst (v := (1 : Int32)) C.1.1 C.1.2.1 dX9_tide_8 rfl ?_
  obtain ⟨q1, h1, hf⟩ := o_bind hf
  refine aft_i hw (run_S C hw clX9_385 (As := [.int x1, .int (0 : Int32), .int (1 : Int32)]) (rest := [.ref (gA G (41 + 0))]) (c_X9_within h1) hl.1 rfl ⟨(Nat.le_of_ble_eq_true rfl), (Nat.le_of_ble_eq_true rfl)⟩ ⟨Nat.zero_le _, Nat.zero_le _⟩ rfl (Nat.le_of_ble_eq_true rfl) dX9_tide_9) (fun H locs hw => ?_)
  refine lv_iconst (v := (1 : Int32)) C.1.1 C.1.2.1 dX9_tide_12 rfl ?_
  refine lv_iconst (v := (1 : Int32)) C.1.1 C.1.2.1 dX9_tide_13 rfl ?_
  obtain ⟨q2, h2, hf⟩ := o_bind hf
  refine aft_i hw (run_VM C hw clX9_200 (As := [.int q1, .int (1 : Int32), .int (1 : Int32)]) (rest := []) oM_0 (c_X9_lets h2) rfl hl.1 rfl ⟨(Nat.le_of_ble_eq_true rfl), (Nat.le_of_ble_eq_true rfl)⟩ ⟨Nat.zero_le _, Nat.zero_le _⟩ rfl (Nat.le_of_ble_eq_true rfl) dX9_tide_14) (fun H locs hw => ?_)
  refine lv_if_ne (tgt := 22) C.1.1 C.1.2.1 dX9_tide_17 (by decide) (fun c3 => ?_) (fun c3 => ?_)
  · have hf := o_f hf c3
    refine lv_aload_n C.1.1 C.1.2.1 dX9_tide_22 rfl (lv_at hl 0 rfl) ?_
    refine m_get C hw iM_0_20 flX9_160 dX9_tide_23 ?_
    refine lv_if_ne (tgt := 33) C.1.1 C.1.2.1 dX9_tide_26 (by decide) (fun c4 => ?_) (fun c4 => ?_)
    · have hf := o_f hf c4
      refine lv_aload_n C.1.1 C.1.2.1 dX9_tide_33 rfl (lv_at hl 0 rfl) ?_
      refine m_ref C hw fM_0_15 flX9_38 dX9_tide_34 ?_
      refine lv_iconst (v := (2 : Int32)) C.1.1 C.1.2.1 dX9_tide_37 rfl ?_
      refine lv_aload_n C.1.1 C.1.2.1 dX9_tide_38 rfl (lv_at hl 0 rfl) ?_
      refine m_ref C hw fM_0_41 flX9_71 dX9_tide_39 ?_
      refine lv_bipush (v := (32 : Int32)) C.1.1 C.1.2.1 dX9_tide_42 rfl ?_
      have g5 := inb_in (o_g hf).1
      have hf := (o_g hf).2
      refine m_ald C hw aM_19 g5 dX9_tide_44 ?_
      refine lv_aload_n C.1.1 C.1.2.1 dX9_tide_45 rfl (lv_at hl 0 rfl) ?_
      refine m_get C hw iM_0_20 flX9_160 dX9_tide_46 ?_
      have g6 := o_n1 hf
      have hf := o_n2 hf
      refine lv_irem C.1.1 C.1.2.1 dX9_tide_49 g6 ?_
      refine lv_imul C.1.1 C.1.2.1 dX9_tide_50 ?_
      refine lv_iload_n C.1.1 C.1.2.1 dX9_tide_51 rfl (lv_at hl 1 rfl) ?_
      refine lv_iadd C.1.1 C.1.2.1 dX9_tide_52 ?_
      have g7 := inb_in (o_g hf).1
      have hf := (o_g hf).2
      refine m_ald C hw aM_8 g7 dX9_tide_53 ?_
      obtain rfl := Option.some.inj hf
      exact ret_i C hr hlk hw dX9_tide_54
    · have hf := o_t hf c4
      refine lv_iconst (v := (-1 : Int32)) C.1.1 C.1.2.1 dX9_tide_29 rfl ?_
      refine lv_goto (tgt := 54) C.1.1 C.1.2.1 dX9_tide_30 (by decide) ?_
      obtain rfl := Option.some.inj hf
      exact ret_i C hr hlk hw dX9_tide_54
  · have hf := o_t hf c3
    refine lv_iconst (v := (0 : Int32)) C.1.1 C.1.2.1 dX9_tide_20 rfl ?_
    obtain rfl := Option.some.inj hf
    exact ret_i C hr hlk hw dX9_tide_21
end
/-! WinnerDrawsModel.flip(I)I (('o', 'M', 0) ('i',)) -/
def f_X9_flip (M : TX) (x1 : Int32) : Option (TX × Int32) := (f_X9_isThere (u2 M 0 0 (0 : Int32)) x1 (4 : Int32)).bind fun q1 => if q1.2 = 0 then (some (q1.1, (0 : Int32))) else ((f_X9_take q1.1).bind fun q3 => (f_X9_leadOf q3 x1).bind fun q4 => some (q3, ((q4 + (1 : Int32)) / (2 : Int32))))
section
variable {G : GP} {l : Launch}
set_option maxRecDepth 20000 in
set_option maxHeartbeats 2000000 in
theorem c_X9_flip   {X M : TX} {L : TL} {x1 : Int32} {ro : TX × Int32} (hf : f_X9_flip M x1 = some ro) : CTi G l yX9_flip cX9_flip 2 (some .int) 3 68 [.ref (gA G (41 + 0)), .int x1] X M L X ro.1 L ro.2 := by
  unfold f_X9_flip at hf
  refine ct_of (by decide +kernel) (Nat.le_of_ble_eq_true rfl) (fun p e s m args below meth c H locs ls C hr hlk hw hl => ?_)
  have C : Cx G p s m args c cX9_flip 2 RX9 := C
  have hl : lv_has ls 2 [(0, .ref (gA G (41 + 0))), (1, .int x1)] := hl
  refine lv_aload_n C.1.1 C.1.2.1 dX9_flip_0 rfl (lv_at hl 0 rfl) ?_
  refine lv_iconst (v := (0 : Int32)) C.1.1 C.1.2.1 dX9_flip_1 rfl ?_
  refine m_put C hw iM_0_0 flX9_3 dX9_flip_2 (fun H locs hw => ?_)
  refine lv_aload_n C.1.1 C.1.2.1 dX9_flip_5 rfl (lv_at hl 0 rfl) ?_
  refine lv_iload_n C.1.1 C.1.2.1 dX9_flip_6 rfl (lv_at hl 1 rfl) ?_
  refine lv_iconst (v := (4 : Int32)) C.1.1 C.1.2.1 dX9_flip_7 rfl ?_
  obtain ⟨q1, h1, hf⟩ := o_bind hf
  refine aft_i hw (run_VM C hw clX9_389 (As := [.int x1, .int (4 : Int32)]) (rest := []) oM_0 (c_X9_isThere h1) rfl hl.1 rfl ⟨(Nat.le_of_ble_eq_true rfl), (Nat.le_of_ble_eq_true rfl)⟩ ⟨Nat.zero_le _, Nat.zero_le _⟩ rfl (Nat.le_of_ble_eq_true rfl) dX9_flip_8) (fun H locs hw => ?_)
  refine lv_if_ne (tgt := 16) C.1.1 C.1.2.1 dX9_flip_11 (by decide) (fun c2 => ?_) (fun c2 => ?_)
  · have hf := o_f hf c2
    refine lv_aload_n C.1.1 C.1.2.1 dX9_flip_16 rfl (lv_at hl 0 rfl) ?_
    obtain ⟨q3, h3, hf⟩ := o_bind hf
    refine aft_v hw (run_VM C hw clX9_307 (As := []) (rest := []) oM_0 (c_X9_take h3) rfl hl.1 rfl ⟨(Nat.le_of_ble_eq_true rfl), (Nat.le_of_ble_eq_true rfl)⟩ ⟨Nat.zero_le _, Nat.zero_le _⟩ rfl (Nat.le_of_ble_eq_true rfl) dX9_flip_17) (fun H locs hw => ?_)
    refine lv_aload_n C.1.1 C.1.2.1 dX9_flip_20 rfl (lv_at hl 0 rfl) ?_
    refine lv_iload_n C.1.1 C.1.2.1 dX9_flip_21 rfl (lv_at hl 1 rfl) ?_
    obtain ⟨q4, h4, hf⟩ := o_bind hf
    refine aft_i hw (run_VM C hw clX9_418 (As := [.int x1]) (rest := []) oM_0 (c_X9_leadOf h4) rfl hl.1 rfl ⟨(Nat.le_of_ble_eq_true rfl), (Nat.le_of_ble_eq_true rfl)⟩ ⟨Nat.zero_le _, Nat.zero_le _⟩ rfl (Nat.le_of_ble_eq_true rfl) dX9_flip_22) (fun H locs hw => ?_)
    refine lv_iconst (v := (1 : Int32)) C.1.1 C.1.2.1 dX9_flip_25 rfl ?_
    refine lv_iadd C.1.1 C.1.2.1 dX9_flip_26 ?_
    refine lv_iconst (v := (2 : Int32)) C.1.1 C.1.2.1 dX9_flip_27 rfl ?_
    refine lv_idiv C.1.1 C.1.2.1 dX9_flip_28 (by decide) ?_
    obtain rfl := Option.some.inj hf
    exact ret_i C hr hlk hw dX9_flip_29
  · have hf := o_t hf c2
    refine lv_iconst (v := (0 : Int32)) C.1.1 C.1.2.1 dX9_flip_14 rfl ?_
    obtain rfl := Option.some.inj hf
    exact ret_i C hr hlk hw dX9_flip_15
end
/-! WinnerDrawsModel.strongest(II)I (('o', 'M', 0) ('i',) ('i',)) -/
def L_X9_strongest_43 : Nat → TX → Int32 → Int32 → Int32 → Int32 → Int32 → Option (TX × Int32)
  | 0 => fun _ _ _ _ _ _ => none
  | n + 1 => fun M x1 x2 x3 x4 x5 => if (M 0 19) ≤ x5 then (if x2 = 0 then (some (M, x3)) else (if x3 = (-1 : Int32) then (some (M, x3)) else (some (M, x4)))) else ((f_X9_votesOf M x5 x1).bind fun q10 => (f_X9_votesOf M x5 ((1 : Int32) - x1)).bind fun q11 => if x4 < (q10 - q11) then ((L_X9_strongest_43 n) M x1 x2 x5 (q10 - q11) (x5 + (1 : Int32))) else ((L_X9_strongest_43 n) M x1 x2 x3 x4 (x5 + (1 : Int32))))
def f_X9_strongest (M : TX) (x1 : Int32) (x2 : Int32) : Option (TX × Int32) := (f_X9_isThere (u2 M 0 0 (0 : Int32)) x1 (2 : Int32)).bind fun q1 => if q1.2 = 0 then (some (q1.1, (0 : Int32))) else ((f_X9_within x2 (0 : Int32) (1 : Int32)).bind fun q3 => (f_X9_lets q1.1 q3 (2 : Int32) (1 : Int32)).bind fun q4 => if q4.2 = 0 then (some (q4.1, (0 : Int32))) else ((f_X9_take q4.1).bind fun q6 => L_X9_strongest_43 FU q6 x1 x2 (-1 : Int32) (0 : Int32) (0 : Int32)))
section
variable {G : GP} {l : Launch}
set_option maxRecDepth 20000 in
set_option maxHeartbeats 2000000 in
theorem wL_X9_strongest_43 {p : Program} {e : Env} {s : State} {m : MethodId} {args : Array Value} {below : List Frame} {meth : Method} {c : Code} (C : Cx G p s m args c cX9_strongest 7 RX9) (hr : meth.sig.returnType = (some .int)) (hlk : meth.locks = false) {ro : TX × Int32} : ∀ (n : Nat), ∀ (X : TX) (M : TX) (L : TL) (x1 : Int32) (x2 : Int32) (x3 : Int32) (x4 : Int32) (x5 : Int32) (H : Heap) (locs : List Loc) (ls : Array Slot), Wh G s X M L H locs → lv_has ls 7 [(0, .ref (gA G (41 + 0))), (1, .int x1), (2, .int x2), (3, .int x3), (4, .int x4), (5, .int x5)] → L_X9_strongest_43 n M x1 x2 x3 x4 x5 = some ro → W p l e (rz 2 45) s m args below meth c H locs 0 0 (MQ below (Di G X ro.1 L ro.2) args s 0 0 (AB G)) (F0 m 43 ls []) := by
  intro n
  induction n with
  | zero =>
    intro X M L x1 x2 x3 x4 x5 H locs ls hw hl hf
    cases hf
  | succ n hk_43 =>
    intro X M L x1 x2 x3 x4 x5 H locs ls hw hl hf
    rw [L_X9_strongest_43] at hf
    refine lv_iload C.1.1 C.1.2.1 dX9_strongest_43 (lv_at hl 5 rfl) ?_
    refine lv_aload_n C.1.1 C.1.2.1 dX9_strongest_45 rfl (lv_at hl 0 rfl) ?_
    refine m_get C hw iM_0_19 flX9_157 dX9_strongest_46 ?_
    refine lv_icmp_ge (tgt := 94) C.1.1 C.1.2.1 dX9_strongest_49 (by decide) (fun c7 => ?_) (fun c7 => ?_)
    · have hf := o_t hf c7
      refine lv_iload_n C.1.1 C.1.2.1 dX9_strongest_94 rfl (lv_at hl 2 rfl) ?_
      refine lv_if_eq (tgt := 103) C.1.1 C.1.2.1 dX9_strongest_95 (by decide) (fun c8 => ?_) (fun c8 => ?_)
      · have hf := o_t hf c8
        refine lv_iload_n C.1.1 C.1.2.1 dX9_strongest_103 rfl (lv_at hl 3 rfl) ?_
        refine lv_goto (tgt := 109) C.1.1 C.1.2.1 dX9_strongest_104 (by decide) ?_
        obtain rfl := Option.some.inj hf
        exact ret_i C hr hlk hw dX9_strongest_109
      · have hf := o_f hf c8
        refine lv_iload_n C.1.1 C.1.2.1 dX9_strongest_98 rfl (lv_at hl 3 rfl) ?_
        refine lv_iconst (v := (-1 : Int32)) C.1.1 C.1.2.1 dX9_strongest_99 rfl ?_
        refine lv_icmp_ne (tgt := 107) C.1.1 C.1.2.1 dX9_strongest_100 (by decide) (fun c9 => ?_) (fun c9 => ?_)
        · have hf := o_f hf c9
          refine lv_iload C.1.1 C.1.2.1 dX9_strongest_107 (lv_at hl 4 rfl) ?_
          obtain rfl := Option.some.inj hf
          exact ret_i C hr hlk hw dX9_strongest_109
        · have hf := o_t hf c9
          refine lv_iload_n C.1.1 C.1.2.1 dX9_strongest_103 rfl (lv_at hl 3 rfl) ?_
          refine lv_goto (tgt := 109) C.1.1 C.1.2.1 dX9_strongest_104 (by decide) ?_
          obtain rfl := Option.some.inj hf
          exact ret_i C hr hlk hw dX9_strongest_109
    · have hf := o_f hf c7
      refine lv_aload_n C.1.1 C.1.2.1 dX9_strongest_52 rfl (lv_at hl 0 rfl) ?_
      refine lv_iload C.1.1 C.1.2.1 dX9_strongest_53 (lv_at hl 5 rfl) ?_
      refine lv_iload_n C.1.1 C.1.2.1 dX9_strongest_55 rfl (lv_at hl 1 rfl) ?_
      obtain ⟨q10, h10, hf⟩ := o_bind hf
      refine aft_i hw (run_VM C hw clX9_326 (As := [.int x5, .int x1]) (rest := []) oM_0 (c_X9_votesOf h10) rfl hl.1 rfl ⟨(Nat.le_of_ble_eq_true rfl), (Nat.le_of_ble_eq_true rfl)⟩ ⟨Nat.zero_le _, Nat.zero_le _⟩ rfl (Nat.le_of_ble_eq_true rfl) dX9_strongest_56) (fun H locs hw => ?_)
      refine lv_aload_n C.1.1 C.1.2.1 dX9_strongest_59 rfl (lv_at hl 0 rfl) ?_
      refine lv_iload C.1.1 C.1.2.1 dX9_strongest_60 (lv_at hl 5 rfl) ?_
      refine lv_iconst (v := (1 : Int32)) C.1.1 C.1.2.1 dX9_strongest_62 rfl ?_
      refine lv_iload_n C.1.1 C.1.2.1 dX9_strongest_63 rfl (lv_at hl 1 rfl) ?_
      refine lv_isub C.1.1 C.1.2.1 dX9_strongest_64 ?_
      obtain ⟨q11, h11, hf⟩ := o_bind hf
      refine aft_i hw (run_VM C hw clX9_326 (As := [.int x5, .int ((1 : Int32) - x1)]) (rest := [.int q10]) oM_0 (c_X9_votesOf h11) rfl hl.1 rfl ⟨(Nat.le_of_ble_eq_true rfl), (Nat.le_of_ble_eq_true rfl)⟩ ⟨Nat.zero_le _, Nat.zero_le _⟩ rfl (Nat.le_of_ble_eq_true rfl) dX9_strongest_65) (fun H locs hw => ?_)
      refine lv_isub C.1.1 C.1.2.1 dX9_strongest_68 ?_
      refine lv_istore (lv' := [(6, .int (q10 - q11)), (0, .ref (gA G (41 + 0))), (1, .int x1), (2, .int x2), (3, .int x3), (4, .int x4), (5, .int x5)]) C.1.1 C.1.2.1 dX9_strongest_69 hl (by decide) rfl (fun ls hl => ?_)
      refine lv_iload C.1.1 C.1.2.1 dX9_strongest_71 (lv_at hl 0 rfl) ?_
      refine lv_iload C.1.1 C.1.2.1 dX9_strongest_73 (lv_at hl 5 rfl) ?_
      refine lv_icmp_gt (tgt := 81) C.1.1 C.1.2.1 dX9_strongest_75 (by decide) (fun c12 => ?_) (fun c12 => ?_)
      · have hf := o_t hf c12
        refine lv_iload C.1.1 C.1.2.1 dX9_strongest_81 (lv_at hl 6 rfl) ?_
        refine lv_istore_n (lv' := [(3, .int x5), (6, .int (q10 - q11)), (0, .ref (gA G (41 + 0))), (1, .int x1), (2, .int x2), (4, .int x4), (5, .int x5)]) C.1.1 C.1.2.1 dX9_strongest_83 rfl hl (by decide) rfl (fun ls hl => ?_)
        refine lv_iload C.1.1 C.1.2.1 dX9_strongest_84 (lv_at hl 1 rfl) ?_
        refine lv_istore (lv' := [(4, .int (q10 - q11)), (3, .int x5), (6, .int (q10 - q11)), (0, .ref (gA G (41 + 0))), (1, .int x1), (2, .int x2), (5, .int x5)]) C.1.1 C.1.2.1 dX9_strongest_86 hl (by decide) rfl (fun ls hl => ?_)
        refine lv_iinc (v := (x5 + (1 : Int32))) (lv' := [(5, .int (x5 + (1 : Int32))), (4, .int (q10 - q11)), (3, .int x5), (6, .int (q10 - q11)), (0, .ref (gA G (41 + 0))), (1, .int x1), (2, .int x2)]) C.1.1 C.1.2.1 dX9_strongest_88 hl (k := 6) rfl rfl (by decide) rfl (fun ls hl => ?_)
        refine lv_goto (tgt := 43) C.1.1 C.1.2.1 dX9_strongest_91 (by decide) ?_
        exact hk_43 X M L x1 x2 x5 (q10 - q11) (x5 + (1 : Int32)) _ _ _ hw (lv_sub hl [4, 5, 6, 2, 1, 0] rfl) hf
      · have hf := o_f hf c12
        refine lv_goto (tgt := 88) C.1.1 C.1.2.1 dX9_strongest_78 (by decide) ?_
        refine lv_iinc (v := (x5 + (1 : Int32))) (lv' := [(5, .int (x5 + (1 : Int32))), (6, .int (q10 - q11)), (0, .ref (gA G (41 + 0))), (1, .int x1), (2, .int x2), (3, .int x3), (4, .int x4)]) C.1.1 C.1.2.1 dX9_strongest_88 hl (k := 6) rfl rfl (by decide) rfl (fun ls hl => ?_)
        refine lv_goto (tgt := 43) C.1.1 C.1.2.1 dX9_strongest_91 (by decide) ?_
        exact hk_43 X M L x1 x2 x3 x4 (x5 + (1 : Int32)) _ _ _ hw (lv_sub hl [2, 3, 4, 5, 6, 0] rfl) hf
set_option maxRecDepth 20000 in
set_option maxHeartbeats 2000000 in
theorem c_X9_strongest   {X M : TX} {L : TL} {x1 : Int32} {x2 : Int32} {ro : TX × Int32} (hf : f_X9_strongest M x1 x2 = some ro) : CTi G l yX9_strongest cX9_strongest 7 (some .int) 2 45 [.ref (gA G (41 + 0)), .int x1, .int x2] X M L X ro.1 L ro.2 := by
  unfold f_X9_strongest at hf
  refine ct_of (by decide +kernel) (Nat.le_of_ble_eq_true rfl) (fun p e s m args below meth c H locs ls C hr hlk hw hl => ?_)
  have C : Cx G p s m args c cX9_strongest 7 RX9 := C
  have hl : lv_has ls 7 [(0, .ref (gA G (41 + 0))), (1, .int x1), (2, .int x2)] := hl
  refine lv_aload_n C.1.1 C.1.2.1 dX9_strongest_0 rfl (lv_at hl 0 rfl) ?_
  refine lv_iconst (v := (0 : Int32)) C.1.1 C.1.2.1 dX9_strongest_1 rfl ?_
  refine m_put C hw iM_0_0 flX9_3 dX9_strongest_2 (fun H locs hw => ?_)
  refine lv_aload_n C.1.1 C.1.2.1 dX9_strongest_5 rfl (lv_at hl 0 rfl) ?_
  refine lv_iload_n C.1.1 C.1.2.1 dX9_strongest_6 rfl (lv_at hl 1 rfl) ?_
  refine lv_iconst (v := (2 : Int32)) C.1.1 C.1.2.1 dX9_strongest_7 rfl ?_
  obtain ⟨q1, h1, hf⟩ := o_bind hf
  refine aft_i hw (run_VM C hw clX9_389 (As := [.int x1, .int (2 : Int32)]) (rest := []) oM_0 (c_X9_isThere h1) rfl hl.1 rfl ⟨(Nat.le_of_ble_eq_true rfl), (Nat.le_of_ble_eq_true rfl)⟩ ⟨Nat.zero_le _, Nat.zero_le _⟩ rfl (Nat.le_of_ble_eq_true rfl) dX9_strongest_8) (fun H locs hw => ?_)
  refine lv_if_eq (tgt := 29) C.1.1 C.1.2.1 dX9_strongest_11 (by decide) (fun c2 => ?_) (fun c2 => ?_)
  · have hf := o_t hf c2
    refine lv_iconst (v := (0 : Int32)) C.1.1 C.1.2.1 dX9_strongest_29 rfl ?_
    obtain rfl := Option.some.inj hf
    exact ret_i C hr hlk hw dX9_strongest_30
  · have hf := o_f hf c2
    refine lv_aload_n C.1.1 C.1.2.1 dX9_strongest_14 rfl (lv_at hl 0 rfl) ?_
    refine lv_iload_n C.1.1 C.1.2.1 dX9_strongest_15 rfl (lv_at hl 2 rfl) ?_
    refine lv_iconst (v := (0 : Int32)) C.1.1 C.1.2.1 dX9_strongest_16 rfl ?_
    refine lv_iconst (v := (1 : Int32)) C.1.1 C.1.2.1 dX9_strongest_17 rfl ?_
    obtain ⟨q3, h3, hf⟩ := o_bind hf
    refine aft_i hw (run_S C hw clX9_385 (As := [.int x2, .int (0 : Int32), .int (1 : Int32)]) (rest := [.ref (gA G (41 + 0))]) (c_X9_within h3) hl.1 rfl ⟨(Nat.le_of_ble_eq_true rfl), (Nat.le_of_ble_eq_true rfl)⟩ ⟨Nat.zero_le _, Nat.zero_le _⟩ rfl (Nat.le_of_ble_eq_true rfl) dX9_strongest_18) (fun H locs hw => ?_)
    refine lv_iconst (v := (2 : Int32)) C.1.1 C.1.2.1 dX9_strongest_21 rfl ?_
    refine lv_iconst (v := (1 : Int32)) C.1.1 C.1.2.1 dX9_strongest_22 rfl ?_
    obtain ⟨q4, h4, hf⟩ := o_bind hf
    refine aft_i hw (run_VM C hw clX9_200 (As := [.int q3, .int (2 : Int32), .int (1 : Int32)]) (rest := []) oM_0 (c_X9_lets h4) rfl hl.1 rfl ⟨(Nat.le_of_ble_eq_true rfl), (Nat.le_of_ble_eq_true rfl)⟩ ⟨Nat.zero_le _, Nat.zero_le _⟩ rfl (Nat.le_of_ble_eq_true rfl) dX9_strongest_23) (fun H locs hw => ?_)
    refine lv_if_ne (tgt := 31) C.1.1 C.1.2.1 dX9_strongest_26 (by decide) (fun c5 => ?_) (fun c5 => ?_)
    · have hf := o_f hf c5
      refine lv_aload_n C.1.1 C.1.2.1 dX9_strongest_31 rfl (lv_at hl 0 rfl) ?_
      obtain ⟨q6, h6, hf⟩ := o_bind hf
      refine aft_v hw (run_VM C hw clX9_307 (As := []) (rest := []) oM_0 (c_X9_take h6) rfl hl.1 rfl ⟨(Nat.le_of_ble_eq_true rfl), (Nat.le_of_ble_eq_true rfl)⟩ ⟨Nat.zero_le _, Nat.zero_le _⟩ rfl (Nat.le_of_ble_eq_true rfl) dX9_strongest_32) (fun H locs hw => ?_)
      refine lv_iconst (v := (-1 : Int32)) C.1.1 C.1.2.1 dX9_strongest_35 rfl ?_
      refine lv_istore_n (lv' := [(3, .int (-1 : Int32)), (0, .ref (gA G (41 + 0))), (1, .int x1), (2, .int x2)]) C.1.1 C.1.2.1 dX9_strongest_36 rfl hl (by decide) rfl (fun ls hl => ?_)
      refine lv_iconst (v := (0 : Int32)) C.1.1 C.1.2.1 dX9_strongest_37 rfl ?_
      refine lv_istore (lv' := [(4, .int (0 : Int32)), (3, .int (-1 : Int32)), (0, .ref (gA G (41 + 0))), (1, .int x1), (2, .int x2)]) C.1.1 C.1.2.1 dX9_strongest_38 hl (by decide) rfl (fun ls hl => ?_)
      refine lv_iconst (v := (0 : Int32)) C.1.1 C.1.2.1 dX9_strongest_40 rfl ?_
      refine lv_istore (lv' := [(5, .int (0 : Int32)), (4, .int (0 : Int32)), (3, .int (-1 : Int32)), (0, .ref (gA G (41 + 0))), (1, .int x1), (2, .int x2)]) C.1.1 C.1.2.1 dX9_strongest_41 hl (by decide) rfl (fun ls hl => ?_)
      exact wL_X9_strongest_43 C hr hlk FU X q6 L x1 x2 (-1 : Int32) (0 : Int32) (0 : Int32) _ _ _ hw (lv_sub hl [3, 4, 5, 2, 1, 0] rfl) hf
    · have hf := o_t hf c5
      refine lv_iconst (v := (0 : Int32)) C.1.1 C.1.2.1 dX9_strongest_29 rfl ?_
      obtain rfl := Option.some.inj hf
      exact ret_i C hr hlk hw dX9_strongest_30
end
/-! WinnerDrawsModel.lone()I (('o', 'M', 0)) -/
def L_X9_lone_13 : Nat → TX → Int32 → Int32 → Option (TX × Int32)
  | 0 => fun _ _ _ => none
  | n + 1 => fun M x1 x2 => if (M 0 19) ≤ x2 then (some (M, x1)) else (if inb ((0 : Int32) + x2) 34 = true then ((f_X9_setOf M (M 20 (Int32.toNatClampNeg ((0 : Int32) + x2)))).bind fun q4 => (f_X9_ones q4).bind fun q5 => if q5 = (1 : Int32) then ((L_X9_lone_13 n) M (x1 ||| ((1 : Int32) <<< (x2 &&& 31))) (x2 + (1 : Int32))) else ((L_X9_lone_13 n) M (x1 ||| (0 : Int32)) (x2 + (1 : Int32)))) else none)
def f_X9_lone (M : TX) : Option (TX × Int32) := (f_X9_take (u2 M 0 0 (0 : Int32))).bind fun q1 => L_X9_lone_13 FU q1 (0 : Int32) (0 : Int32)
section
variable {G : GP} {l : Launch}
set_option maxRecDepth 20000 in
set_option maxHeartbeats 2000000 in
theorem wL_X9_lone_13 {p : Program} {e : Env} {s : State} {m : MethodId} {args : Array Value} {below : List Frame} {meth : Method} {c : Code} (C : Cx G p s m args c cX9_lone 3 RX9) (hr : meth.sig.returnType = (some .int)) (hlk : meth.locks = false) {ro : TX × Int32} : ∀ (n : Nat), ∀ (X : TX) (M : TX) (L : TL) (x1 : Int32) (x2 : Int32) (H : Heap) (locs : List Loc) (ls : Array Slot), Wh G s X M L H locs → lv_has ls 3 [(0, .ref (gA G (41 + 0))), (1, .int x1), (2, .int x2)] → L_X9_lone_13 n M x1 x2 = some ro → W p l e (rz 2 44) s m args below meth c H locs 0 0 (MQ below (Di G X ro.1 L ro.2) args s 0 0 (AB G)) (F0 m 13 ls []) := by
  intro n
  induction n with
  | zero =>
    intro X M L x1 x2 H locs ls hw hl hf
    cases hf
  | succ n hk_13 =>
    intro X M L x1 x2 H locs ls hw hl hf
    rw [L_X9_lone_13] at hf
    refine lv_iload_n C.1.1 C.1.2.1 dX9_lone_13 rfl (lv_at hl 2 rfl) ?_
    refine lv_aload_n C.1.1 C.1.2.1 dX9_lone_14 rfl (lv_at hl 0 rfl) ?_
    refine m_get C hw iM_0_19 flX9_157 dX9_lone_15 ?_
    refine lv_icmp_ge (tgt := 56) C.1.1 C.1.2.1 dX9_lone_18 (by decide) (fun c2 => ?_) (fun c2 => ?_)
    · have hf := o_t hf c2
      refine lv_iload_n C.1.1 C.1.2.1 dX9_lone_56 rfl (lv_at hl 1 rfl) ?_
      obtain rfl := Option.some.inj hf
      exact ret_i C hr hlk hw dX9_lone_57
    · have hf := o_f hf c2
      refine lv_iload_n C.1.1 C.1.2.1 dX9_lone_21 rfl (lv_at hl 1 rfl) ?_
      refine lv_aload_n C.1.1 C.1.2.1 dX9_lone_22 rfl (lv_at hl 0 rfl) ?_
      refine lv_aload_n C.1.1 C.1.2.1 dX9_lone_23 rfl (lv_at hl 0 rfl) ?_
      refine m_ref C hw fM_0_42 flX9_74 dX9_lone_24 ?_
      refine lv_iconst (v := (0 : Int32)) C.1.1 C.1.2.1 dX9_lone_27 rfl ?_
      refine lv_iload_n C.1.1 C.1.2.1 dX9_lone_28 rfl (lv_at hl 2 rfl) ?_
      refine lv_iadd C.1.1 C.1.2.1 dX9_lone_29 ?_
      have g3 := inb_in (o_g hf).1
      have hf := (o_g hf).2
      refine m_ald C hw aM_20 g3 dX9_lone_30 ?_
      obtain ⟨q4, h4, hf⟩ := o_bind hf
      refine aft_i hw (run_VM C hw clX9_329 (As := [.int (M 20 (Int32.toNatClampNeg ((0 : Int32) + x2)))]) (rest := [.int x1]) oM_0 (c_X9_setOf h4) rfl hl.1 rfl ⟨(Nat.le_of_ble_eq_true rfl), (Nat.le_of_ble_eq_true rfl)⟩ ⟨Nat.zero_le _, Nat.zero_le _⟩ rfl (Nat.le_of_ble_eq_true rfl) dX9_lone_31) (fun H locs hw => ?_)
      obtain ⟨q5, h5, hf⟩ := o_bind hf
      refine aft_i hw (run_S C hw clX9_344 (As := [.int q4]) (rest := [.int x1]) (c_X9_ones h5) hl.1 rfl ⟨(Nat.le_of_ble_eq_true rfl), (Nat.le_of_ble_eq_true rfl)⟩ ⟨Nat.zero_le _, Nat.zero_le _⟩ rfl (Nat.le_of_ble_eq_true rfl) dX9_lone_34) (fun H locs hw => ?_)
      refine lv_iconst (v := (1 : Int32)) C.1.1 C.1.2.1 dX9_lone_37 rfl ?_
      refine lv_icmp_ne (tgt := 47) C.1.1 C.1.2.1 dX9_lone_38 (by decide) (fun c6 => ?_) (fun c6 => ?_)
      · have hf := o_f hf c6
        refine lv_iconst (v := (0 : Int32)) C.1.1 C.1.2.1 dX9_lone_47 rfl ?_
        refine lv_ior C.1.1 C.1.2.1 dX9_lone_48 ?_
        refine lv_istore_n (lv' := [(1, .int (x1 ||| (0 : Int32))), (0, .ref (gA G (41 + 0))), (2, .int x2)]) C.1.1 C.1.2.1 dX9_lone_49 rfl hl (by decide) rfl (fun ls hl => ?_)
        refine lv_iinc (v := (x2 + (1 : Int32))) (lv' := [(2, .int (x2 + (1 : Int32))), (1, .int (x1 ||| (0 : Int32))), (0, .ref (gA G (41 + 0)))]) C.1.1 C.1.2.1 dX9_lone_50 hl (k := 2) rfl rfl (by decide) rfl (fun ls hl => ?_)
        refine lv_goto (tgt := 13) C.1.1 C.1.2.1 dX9_lone_53 (by decide) ?_
        exact hk_13 X M L (x1 ||| (0 : Int32)) (x2 + (1 : Int32)) _ _ _ hw (lv_sub hl [2, 1, 0] rfl) hf
      · have hf := o_t hf c6
        refine lv_iconst (v := (1 : Int32)) C.1.1 C.1.2.1 dX9_lone_41 rfl ?_
        refine lv_iload_n C.1.1 C.1.2.1 dX9_lone_42 rfl (lv_at hl 2 rfl) ?_
        refine lv_ishl C.1.1 C.1.2.1 dX9_lone_43 ?_
        refine lv_goto (tgt := 48) C.1.1 C.1.2.1 dX9_lone_44 (by decide) ?_
        refine lv_ior C.1.1 C.1.2.1 dX9_lone_48 ?_
        refine lv_istore_n (lv' := [(1, .int (x1 ||| ((1 : Int32) <<< (x2 &&& 31)))), (0, .ref (gA G (41 + 0))), (2, .int x2)]) C.1.1 C.1.2.1 dX9_lone_49 rfl hl (by decide) rfl (fun ls hl => ?_)
        refine lv_iinc (v := (x2 + (1 : Int32))) (lv' := [(2, .int (x2 + (1 : Int32))), (1, .int (x1 ||| ((1 : Int32) <<< (x2 &&& 31)))), (0, .ref (gA G (41 + 0)))]) C.1.1 C.1.2.1 dX9_lone_50 hl (k := 2) rfl rfl (by decide) rfl (fun ls hl => ?_)
        refine lv_goto (tgt := 13) C.1.1 C.1.2.1 dX9_lone_53 (by decide) ?_
        exact hk_13 X M L (x1 ||| ((1 : Int32) <<< (x2 &&& 31))) (x2 + (1 : Int32)) _ _ _ hw (lv_sub hl [2, 1, 0] rfl) hf
set_option maxRecDepth 20000 in
set_option maxHeartbeats 2000000 in
theorem c_X9_lone   {X M : TX} {L : TL}  {ro : TX × Int32} (hf : f_X9_lone M = some ro) : CTi G l yX9_lone cX9_lone 3 (some .int) 2 44 [.ref (gA G (41 + 0))] X M L X ro.1 L ro.2 := by
  unfold f_X9_lone at hf
  refine ct_of (by decide +kernel) (Nat.le_of_ble_eq_true rfl) (fun p e s m args below meth c H locs ls C hr hlk hw hl => ?_)
  have C : Cx G p s m args c cX9_lone 3 RX9 := C
  have hl : lv_has ls 3 [(0, .ref (gA G (41 + 0)))] := hl
  refine lv_aload_n C.1.1 C.1.2.1 dX9_lone_0 rfl (lv_at hl 0 rfl) ?_
  refine lv_iconst (v := (0 : Int32)) C.1.1 C.1.2.1 dX9_lone_1 rfl ?_
  refine m_put C hw iM_0_0 flX9_3 dX9_lone_2 (fun H locs hw => ?_)
  refine lv_aload_n C.1.1 C.1.2.1 dX9_lone_5 rfl (lv_at hl 0 rfl) ?_
  obtain ⟨q1, h1, hf⟩ := o_bind hf
  refine aft_v hw (run_VM C hw clX9_307 (As := []) (rest := []) oM_0 (c_X9_take h1) rfl hl.1 rfl ⟨(Nat.le_of_ble_eq_true rfl), (Nat.le_of_ble_eq_true rfl)⟩ ⟨Nat.zero_le _, Nat.zero_le _⟩ rfl (Nat.le_of_ble_eq_true rfl) dX9_lone_6) (fun H locs hw => ?_)
  refine lv_iconst (v := (0 : Int32)) C.1.1 C.1.2.1 dX9_lone_9 rfl ?_
  refine lv_istore_n (lv' := [(1, .int (0 : Int32)), (0, .ref (gA G (41 + 0)))]) C.1.1 C.1.2.1 dX9_lone_10 rfl hl (by decide) rfl (fun ls hl => ?_)
  refine lv_iconst (v := (0 : Int32)) C.1.1 C.1.2.1 dX9_lone_11 rfl ?_
  refine lv_istore_n (lv' := [(2, .int (0 : Int32)), (1, .int (0 : Int32)), (0, .ref (gA G (41 + 0)))]) C.1.1 C.1.2.1 dX9_lone_12 rfl hl (by decide) rfl (fun ls hl => ?_)
  exact wL_X9_lone_13 C hr hlk FU X q1 L (0 : Int32) (0 : Int32) _ _ _ hw (lv_sub hl [2, 1, 0] rfl) hf
end
/-! WinnerDrawsModel.cluster(I)I (('o', 'M', 0) ('i',)) -/
def L_X9_cluster_55 (k_43 : TX → Int32 → Int32 → Int32 → Option (TX × Int32)) : Nat → TX → Int32 → Int32 → Int32 → Int32 → Option (TX × Int32)
  | 0 => fun _ _ _ _ _ => none
  | n + 1 => fun M x2 x3 x4 x5 => if (M 0 19) ≤ x5 then (k_43 M x2 x3 (x4 + (1 : Int32))) else (if ((x3 >>> (x5 &&& 31)) &&& (1 : Int32)) = (1 : Int32) then (if inb x5 10 = true then ((L_X9_cluster_55 k_43 n) M x2 (x3 ||| ((M 7 (Int32.toNatClampNeg x5)) &&& x2)) x4 (x5 + (1 : Int32))) else none) else ((L_X9_cluster_55 k_43 n) M x2 (x3 ||| (0 : Int32)) x4 (x5 + (1 : Int32))))
def L_X9_cluster_43 : Nat → TX → Int32 → Int32 → Int32 → Option (TX × Int32)
  | 0 => fun _ _ _ _ => none
  | n + 1 => fun M x2 x3 x4 => if (M 0 19) ≤ x4 then (some (M, x3)) else (L_X9_cluster_55 (L_X9_cluster_43 n) FU M x2 x3 x4 (0 : Int32))
def f_X9_cluster (M : TX) (x1 : Int32) : Option (TX × Int32) := (f_X9_isThere (u2 M 0 0 (0 : Int32)) x1 ((u2 M 0 0 (0 : Int32)) 0 19)).bind fun q1 => if q1.2 = 0 then (some (q1.1, (0 : Int32))) else ((f_X9_take q1.1).bind fun q3 => if inb ((0 : Int32) + x1) 34 = true then ((f_X9_setOf q3 (q3 20 (Int32.toNatClampNeg ((0 : Int32) + x1)))).bind fun q5 => L_X9_cluster_43 FU q3 q5 ((1 : Int32) <<< (x1 &&& 31)) (0 : Int32)) else none)
section
variable {G : GP} {l : Launch}
set_option maxRecDepth 20000 in
set_option maxHeartbeats 2000000 in
theorem wL_X9_cluster_55 {p : Program} {e : Env} {s : State} {m : MethodId} {args : Array Value} {below : List Frame} {meth : Method} {c : Code} (C : Cx G p s m args c cX9_cluster 6 RX9) (hr : meth.sig.returnType = (some .int)) (hlk : meth.locks = false) {ro : TX × Int32} {k_43 : TX → Int32 → Int32 → Int32 → Option (TX × Int32)} (hk_43 : ∀ (X : TX) (M : TX) (L : TL) (x2 : Int32) (x3 : Int32) (x4 : Int32) (H : Heap) (locs : List Loc) (ls : Array Slot), Wh G s X M L H locs → lv_has ls 6 [(0, .ref (gA G (41 + 0))), (2, .int x2), (3, .int x3), (4, .int x4)] → k_43 M x2 x3 x4 = some ro → W p l e (rz 2 45) s m args below meth c H locs 0 0 (MQ below (Di G X ro.1 L ro.2) args s 0 0 (AB G)) (F0 m 43 ls [])) : ∀ (n : Nat), ∀ (X : TX) (M : TX) (L : TL) (x2 : Int32) (x3 : Int32) (x4 : Int32) (x5 : Int32) (H : Heap) (locs : List Loc) (ls : Array Slot), Wh G s X M L H locs → lv_has ls 6 [(0, .ref (gA G (41 + 0))), (2, .int x2), (3, .int x3), (4, .int x4), (5, .int x5)] → L_X9_cluster_55 k_43 n M x2 x3 x4 x5 = some ro → W p l e (rz 2 45) s m args below meth c H locs 0 0 (MQ below (Di G X ro.1 L ro.2) args s 0 0 (AB G)) (F0 m 55 ls []) := by
  intro n
  induction n with
  | zero =>
    intro X M L x2 x3 x4 x5 H locs ls hw hl hf
    cases hf
  | succ n hk_55 =>
    intro X M L x2 x3 x4 x5 H locs ls hw hl hf
    rw [L_X9_cluster_55] at hf
    refine lv_iload C.1.1 C.1.2.1 dX9_cluster_55 (lv_at hl 4 rfl) ?_
    refine lv_aload_n C.1.1 C.1.2.1 dX9_cluster_57 rfl (lv_at hl 0 rfl) ?_
    refine m_get C hw iM_0_19 flX9_157 dX9_cluster_58 ?_
    refine lv_icmp_ge (tgt := 96) C.1.1 C.1.2.1 dX9_cluster_61 (by decide) (fun c7 => ?_) (fun c7 => ?_)
    · have hf := o_t hf c7
      refine lv_iinc (v := (x4 + (1 : Int32))) (lv' := [(4, .int (x4 + (1 : Int32))), (0, .ref (gA G (41 + 0))), (2, .int x2), (3, .int x3), (5, .int x5)]) C.1.1 C.1.2.1 dX9_cluster_96 hl (k := 3) rfl rfl (by decide) rfl (fun ls hl => ?_)
      refine lv_goto (tgt := 43) C.1.1 C.1.2.1 dX9_cluster_99 (by decide) ?_
      exact hk_43 X M L x2 x3 (x4 + (1 : Int32)) _ _ _ hw (lv_sub hl [1, 2, 3, 0] rfl) hf
    · have hf := o_f hf c7
      refine lv_iload_n C.1.1 C.1.2.1 dX9_cluster_64 rfl (lv_at hl 2 rfl) ?_
      refine lv_iload_n C.1.1 C.1.2.1 dX9_cluster_65 rfl (lv_at hl 2 rfl) ?_
      refine lv_iload C.1.1 C.1.2.1 dX9_cluster_66 (lv_at hl 4 rfl) ?_
      refine lv_ishr C.1.1 C.1.2.1 dX9_cluster_68 ?_
      refine lv_iconst (v := (1 : Int32)) C.1.1 C.1.2.1 dX9_cluster_69 rfl ?_
      refine lv_iand C.1.1 C.1.2.1 dX9_cluster_70 ?_
      refine lv_iconst (v := (1 : Int32)) C.1.1 C.1.2.1 dX9_cluster_71 rfl ?_
      refine lv_icmp_ne (tgt := 87) C.1.1 C.1.2.1 dX9_cluster_72 (by decide) (fun c8 => ?_) (fun c8 => ?_)
      · have hf := o_f hf c8
        refine lv_iconst (v := (0 : Int32)) C.1.1 C.1.2.1 dX9_cluster_87 rfl ?_
        refine lv_ior C.1.1 C.1.2.1 dX9_cluster_88 ?_
        refine lv_istore_n (lv' := [(3, .int (x3 ||| (0 : Int32))), (0, .ref (gA G (41 + 0))), (2, .int x2), (4, .int x4), (5, .int x5)]) C.1.1 C.1.2.1 dX9_cluster_89 rfl hl (by decide) rfl (fun ls hl => ?_)
        refine lv_iinc (v := (x5 + (1 : Int32))) (lv' := [(5, .int (x5 + (1 : Int32))), (3, .int (x3 ||| (0 : Int32))), (0, .ref (gA G (41 + 0))), (2, .int x2), (4, .int x4)]) C.1.1 C.1.2.1 dX9_cluster_90 hl (k := 4) rfl rfl (by decide) rfl (fun ls hl => ?_)
        refine lv_goto (tgt := 55) C.1.1 C.1.2.1 dX9_cluster_93 (by decide) ?_
        exact hk_55 X M L x2 (x3 ||| (0 : Int32)) x4 (x5 + (1 : Int32)) _ _ _ hw (lv_sub hl [2, 3, 1, 4, 0] rfl) hf
      · have hf := o_t hf c8
        refine lv_aload_n C.1.1 C.1.2.1 dX9_cluster_75 rfl (lv_at hl 0 rfl) ?_
        refine m_ref C hw fM_0_14 flX9_35 dX9_cluster_76 ?_
        refine lv_iload C.1.1 C.1.2.1 dX9_cluster_79 (lv_at hl 4 rfl) ?_
        have g9 := inb_in (o_g hf).1
        have hf := (o_g hf).2
        refine m_ald C hw aM_7 g9 dX9_cluster_81 ?_
        refine lv_iload_n C.1.1 C.1.2.1 dX9_cluster_82 rfl (lv_at hl 1 rfl) ?_
        refine lv_iand C.1.1 C.1.2.1 dX9_cluster_83 ?_
        refine lv_goto (tgt := 88) C.1.1 C.1.2.1 dX9_cluster_84 (by decide) ?_
        refine lv_ior C.1.1 C.1.2.1 dX9_cluster_88 ?_
        refine lv_istore_n (lv' := [(3, .int (x3 ||| ((M 7 (Int32.toNatClampNeg x5)) &&& x2))), (0, .ref (gA G (41 + 0))), (2, .int x2), (4, .int x4), (5, .int x5)]) C.1.1 C.1.2.1 dX9_cluster_89 rfl hl (by decide) rfl (fun ls hl => ?_)
        refine lv_iinc (v := (x5 + (1 : Int32))) (lv' := [(5, .int (x5 + (1 : Int32))), (3, .int (x3 ||| ((M 7 (Int32.toNatClampNeg x5)) &&& x2))), (0, .ref (gA G (41 + 0))), (2, .int x2), (4, .int x4)]) C.1.1 C.1.2.1 dX9_cluster_90 hl (k := 4) rfl rfl (by decide) rfl (fun ls hl => ?_)
        refine lv_goto (tgt := 55) C.1.1 C.1.2.1 dX9_cluster_93 (by decide) ?_
        exact hk_55 X M L x2 (x3 ||| ((M 7 (Int32.toNatClampNeg x5)) &&& x2)) x4 (x5 + (1 : Int32)) _ _ _ hw (lv_sub hl [2, 3, 1, 4, 0] rfl) hf
set_option maxRecDepth 20000 in
set_option maxHeartbeats 2000000 in
theorem wL_X9_cluster_43 {p : Program} {e : Env} {s : State} {m : MethodId} {args : Array Value} {below : List Frame} {meth : Method} {c : Code} (C : Cx G p s m args c cX9_cluster 6 RX9) (hr : meth.sig.returnType = (some .int)) (hlk : meth.locks = false) {ro : TX × Int32} : ∀ (n : Nat), ∀ (X : TX) (M : TX) (L : TL) (x2 : Int32) (x3 : Int32) (x4 : Int32) (H : Heap) (locs : List Loc) (ls : Array Slot), Wh G s X M L H locs → lv_has ls 6 [(0, .ref (gA G (41 + 0))), (2, .int x2), (3, .int x3), (4, .int x4)] → L_X9_cluster_43 n M x2 x3 x4 = some ro → W p l e (rz 2 45) s m args below meth c H locs 0 0 (MQ below (Di G X ro.1 L ro.2) args s 0 0 (AB G)) (F0 m 43 ls []) := by
  intro n
  induction n with
  | zero =>
    intro X M L x2 x3 x4 H locs ls hw hl hf
    cases hf
  | succ n hk_43 =>
    intro X M L x2 x3 x4 H locs ls hw hl hf
    rw [L_X9_cluster_43] at hf
    refine lv_iload C.1.1 C.1.2.1 dX9_cluster_43 (lv_at hl 3 rfl) ?_
    refine lv_aload_n C.1.1 C.1.2.1 dX9_cluster_45 rfl (lv_at hl 0 rfl) ?_
    refine m_get C hw iM_0_19 flX9_157 dX9_cluster_46 ?_
    refine lv_icmp_ge (tgt := 102) C.1.1 C.1.2.1 dX9_cluster_49 (by decide) (fun c6 => ?_) (fun c6 => ?_)
    · have hf := o_t hf c6
      refine lv_iload_n C.1.1 C.1.2.1 dX9_cluster_102 rfl (lv_at hl 2 rfl) ?_
      obtain rfl := Option.some.inj hf
      exact ret_i C hr hlk hw dX9_cluster_103
    · have hf := o_f hf c6
      refine lv_iconst (v := (0 : Int32)) C.1.1 C.1.2.1 dX9_cluster_52 rfl ?_
      refine lv_istore (lv' := [(5, .int (0 : Int32)), (0, .ref (gA G (41 + 0))), (2, .int x2), (3, .int x3), (4, .int x4)]) C.1.1 C.1.2.1 dX9_cluster_53 hl (by decide) rfl (fun ls hl => ?_)
      exact wL_X9_cluster_55 C hr hlk hk_43 FU X M L x2 x3 x4 (0 : Int32) _ _ _ hw (lv_sub hl [1, 2, 3, 4, 0] rfl) hf
set_option maxRecDepth 20000 in
set_option maxHeartbeats 2000000 in
theorem c_X9_cluster   {X M : TX} {L : TL} {x1 : Int32} {ro : TX × Int32} (hf : f_X9_cluster M x1 = some ro) : CTi G l yX9_cluster cX9_cluster 6 (some .int) 2 45 [.ref (gA G (41 + 0)), .int x1] X M L X ro.1 L ro.2 := by
  unfold f_X9_cluster at hf
  refine ct_of (by decide +kernel) (Nat.le_of_ble_eq_true rfl) (fun p e s m args below meth c H locs ls C hr hlk hw hl => ?_)
  have C : Cx G p s m args c cX9_cluster 6 RX9 := C
  have hl : lv_has ls 6 [(0, .ref (gA G (41 + 0))), (1, .int x1)] := hl
  refine lv_aload_n C.1.1 C.1.2.1 dX9_cluster_0 rfl (lv_at hl 0 rfl) ?_
  refine lv_iconst (v := (0 : Int32)) C.1.1 C.1.2.1 dX9_cluster_1 rfl ?_
  refine m_put C hw iM_0_0 flX9_3 dX9_cluster_2 (fun H locs hw => ?_)
  refine lv_aload_n C.1.1 C.1.2.1 dX9_cluster_5 rfl (lv_at hl 0 rfl) ?_
  refine lv_iload_n C.1.1 C.1.2.1 dX9_cluster_6 rfl (lv_at hl 1 rfl) ?_
  refine lv_aload_n C.1.1 C.1.2.1 dX9_cluster_7 rfl (lv_at hl 0 rfl) ?_
  refine m_get C hw iM_0_19 flX9_157 dX9_cluster_8 ?_
  obtain ⟨q1, h1, hf⟩ := o_bind hf
  refine aft_i hw (run_VM C hw clX9_389 (As := [.int x1, .int ((u2 M 0 0 (0 : Int32)) 0 19)]) (rest := []) oM_0 (c_X9_isThere h1) rfl hl.1 rfl ⟨(Nat.le_of_ble_eq_true rfl), (Nat.le_of_ble_eq_true rfl)⟩ ⟨Nat.zero_le _, Nat.zero_le _⟩ rfl (Nat.le_of_ble_eq_true rfl) dX9_cluster_11) (fun H locs hw => ?_)
  refine lv_if_ne (tgt := 19) C.1.1 C.1.2.1 dX9_cluster_14 (by decide) (fun c2 => ?_) (fun c2 => ?_)
  · have hf := o_f hf c2
    refine lv_aload_n C.1.1 C.1.2.1 dX9_cluster_19 rfl (lv_at hl 0 rfl) ?_
    obtain ⟨q3, h3, hf⟩ := o_bind hf
    refine aft_v hw (run_VM C hw clX9_307 (As := []) (rest := []) oM_0 (c_X9_take h3) rfl hl.1 rfl ⟨(Nat.le_of_ble_eq_true rfl), (Nat.le_of_ble_eq_true rfl)⟩ ⟨Nat.zero_le _, Nat.zero_le _⟩ rfl (Nat.le_of_ble_eq_true rfl) dX9_cluster_20) (fun H locs hw => ?_)
    refine lv_aload_n C.1.1 C.1.2.1 dX9_cluster_23 rfl (lv_at hl 0 rfl) ?_
    refine lv_aload_n C.1.1 C.1.2.1 dX9_cluster_24 rfl (lv_at hl 0 rfl) ?_
    refine m_ref C hw fM_0_42 flX9_74 dX9_cluster_25 ?_
    refine lv_iconst (v := (0 : Int32)) C.1.1 C.1.2.1 dX9_cluster_28 rfl ?_
    refine lv_iload_n C.1.1 C.1.2.1 dX9_cluster_29 rfl (lv_at hl 1 rfl) ?_
    refine lv_iadd C.1.1 C.1.2.1 dX9_cluster_30 ?_
    have g4 := inb_in (o_g hf).1
    have hf := (o_g hf).2
    refine m_ald C hw aM_20 g4 dX9_cluster_31 ?_
    obtain ⟨q5, h5, hf⟩ := o_bind hf
    refine aft_i hw (run_VM C hw clX9_329 (As := [.int (q3 20 (Int32.toNatClampNeg ((0 : Int32) + x1)))]) (rest := []) oM_0 (c_X9_setOf h5) rfl hl.1 rfl ⟨(Nat.le_of_ble_eq_true rfl), (Nat.le_of_ble_eq_true rfl)⟩ ⟨Nat.zero_le _, Nat.zero_le _⟩ rfl (Nat.le_of_ble_eq_true rfl) dX9_cluster_32) (fun H locs hw => ?_)
    refine lv_istore_n (lv' := [(2, .int q5), (0, .ref (gA G (41 + 0))), (1, .int x1)]) C.1.1 C.1.2.1 dX9_cluster_35 rfl hl (by decide) rfl (fun ls hl => ?_)
    refine lv_iconst (v := (1 : Int32)) C.1.1 C.1.2.1 dX9_cluster_36 rfl ?_
    refine lv_iload_n C.1.1 C.1.2.1 dX9_cluster_37 rfl (lv_at hl 2 rfl) ?_
    refine lv_ishl C.1.1 C.1.2.1 dX9_cluster_38 ?_
    refine lv_istore_n (lv' := [(3, .int ((1 : Int32) <<< (x1 &&& 31))), (2, .int q5), (0, .ref (gA G (41 + 0))), (1, .int x1)]) C.1.1 C.1.2.1 dX9_cluster_39 rfl hl (by decide) rfl (fun ls hl => ?_)
    refine lv_iconst (v := (0 : Int32)) C.1.1 C.1.2.1 dX9_cluster_40 rfl ?_
    refine lv_istore (lv' := [(4, .int (0 : Int32)), (3, .int ((1 : Int32) <<< (x1 &&& 31))), (2, .int q5), (0, .ref (gA G (41 + 0))), (1, .int x1)]) C.1.1 C.1.2.1 dX9_cluster_41 hl (by decide) rfl (fun ls hl => ?_)
    exact wL_X9_cluster_43 C hr hlk FU X q3 L q5 ((1 : Int32) <<< (x1 &&& 31)) (0 : Int32) _ _ _ hw (lv_sub hl [3, 2, 1, 0] rfl) hf
  · have hf := o_t hf c2
    refine lv_iconst (v := (0 : Int32)) C.1.1 C.1.2.1 dX9_cluster_17 rfl ?_
    obtain rfl := Option.some.inj hf
    exact ret_i C hr hlk hw dX9_cluster_18
end
/-! WinnerDrawsModel.draws(I)I (('o', 'M', 0) ('i',)) -/
def f_X9_draws (M : TX) (x1 : Int32) : Option (TX × Int32) := if x1 = 0 then none else (some ((u2 M 0 48 (((M 0 48) * (1103515245 : Int32)) + (12345 : Int32))), (((((u2 M 0 48 (((M 0 48) * (1103515245 : Int32)) + (12345 : Int32))) 0 48) >>> ((16 : Int32) &&& 31)) &&& (32767 : Int32)) - ((((u2 M 0 48 (((M 0 48) * (1103515245 : Int32)) + (12345 : Int32))) 0 48) >>> ((16 : Int32) &&& 31)) &&& (32767 : Int32)) / x1 * x1)))
section
variable {G : GP} {l : Launch}
set_option maxRecDepth 20000 in
set_option maxHeartbeats 2000000 in
theorem c_X9_draws   {X M : TX} {L : TL} {x1 : Int32} {ro : TX × Int32} (hf : f_X9_draws M x1 = some ro) : CTi G l yX9_draws cX9_draws 2 (some .int) 0 0 [.ref (gA G (41 + 0)), .int x1] X M L X ro.1 L ro.2 := by
  unfold f_X9_draws at hf
  refine ct_of (by decide +kernel) (Nat.le_of_ble_eq_true rfl) (fun p e s m args below meth c H locs ls C hr hlk hw hl => ?_)
  have C : Cx G p s m args c cX9_draws 2 RX9 := C
  have hl : lv_has ls 2 [(0, .ref (gA G (41 + 0))), (1, .int x1)] := hl
  refine lv_aload_n C.1.1 C.1.2.1 dX9_draws_0 rfl (lv_at hl 0 rfl) ?_
  refine lv_aload_n C.1.1 C.1.2.1 dX9_draws_1 rfl (lv_at hl 0 rfl) ?_
  refine m_get C hw iM_0_48 flX9_421 dX9_draws_2 ?_
  refine lv_ldcw (v := (1103515245 : Int32)) C.1.1 C.1.2.1 C.1.2.2.2.1 (C.1.2.2.2.2 _ (tb8 174 rfl rfl)) dX9_draws_5 ?_
  refine lv_imul C.1.1 C.1.2.1 dX9_draws_8 ?_
  refine lv_sipush (v := (12345 : Int32)) C.1.1 C.1.2.1 dX9_draws_9 rfl ?_
  refine lv_iadd C.1.1 C.1.2.1 dX9_draws_12 ?_
  refine m_put C hw iM_0_48 flX9_421 dX9_draws_13 (fun H locs hw => ?_)
  refine lv_aload_n C.1.1 C.1.2.1 dX9_draws_16 rfl (lv_at hl 0 rfl) ?_
  refine m_get C hw iM_0_48 flX9_421 dX9_draws_17 ?_
  refine lv_bipush (v := (16 : Int32)) C.1.1 C.1.2.1 dX9_draws_20 rfl ?_
  refine lv_ishr C.1.1 C.1.2.1 dX9_draws_22 ?_
  refine lv_sipush (v := (32767 : Int32)) C.1.1 C.1.2.1 dX9_draws_23 rfl ?_
  refine lv_iand C.1.1 C.1.2.1 dX9_draws_26 ?_
  refine lv_iload_n C.1.1 C.1.2.1 dX9_draws_27 rfl (lv_at hl 1 rfl) ?_
  have g1 := o_n1 hf
  have hf := o_n2 hf
  refine lv_irem C.1.1 C.1.2.1 dX9_draws_28 g1 ?_
  obtain rfl := Option.some.inj hf
  exact ret_i C hr hlk hw dX9_draws_29
end
