theorem clJ0_335 : CL RJ0 335 yJ0_coder_7d493 cJ0_coder_7d493 1 (some .byte) 0 false := ⟨(tb3 82 rfl rfl), (tb1 15 rfl rfl), by decide +kernel, Or.inl (tb3 79 rfl rfl), ⟨(tb3 80 rfl rfl), (tb3 81 rfl rfl)⟩⟩
theorem clJ0_492 : CL RJ0 492 yJ0_isLatin1_aae02 cJ0_isLatin1_aae02 1 (some .boolean) 0 false := ⟨(tb3 92 rfl rfl), (tb1 15 rfl rfl), by decide +kernel, Or.inl (tb3 89 rfl rfl), ⟨(tb3 90 rfl rfl), (tb3 91 rfl rfl)⟩⟩
theorem clJ0_495 : CL RJ0 495 yJ1_charAt_3b067 cJ1_charAt_3b067 2 (some .char) 2 true := ⟨(tb3 95 rfl rfl), (tb1 16 rfl rfl), by decide +kernel, Or.inl (tb3 93 rfl rfl), (tb3 94 rfl rfl)⟩
theorem clJ0_1059 : CL RJ0 1059 yJ3_checkIndex_8e157 cJ3_checkIndex_8e157 3 (some .int) 3 true := ⟨(tb3 103 rfl rfl), (tb1 17 rfl rfl), by decide +kernel, Or.inl (tb3 101 rfl rfl), (tb3 102 rfl rfl)⟩
theorem clJ1_9 : CL RJ1 9 yJ0_checkIndex_df160 cJ0_checkIndex_df160 2 none 2 true := ⟨(tb3 98 rfl rfl), (tb1 15 rfl rfl), by decide +kernel, Or.inl (tb3 96 rfl rfl), (tb3 97 rfl rfl)⟩
theorem flJ0_9 : Cond.fieldLink RJ0 9 "java/lang/String" "value" "[B" ∈ TB := (tb8 218 rfl rfl)
theorem flJ0_15 : Cond.fieldLink RJ0 15 "java/lang/String" "coder" "B" ∈ TB := (tb8 219 rfl rfl)
theorem flJ0_38 : Cond.fieldLink RJ0 38 "java/lang/String" "COMPACT_STRINGS" "Z" ∈ TB := (tb3 83 rfl rfl)
theorem flJ0_1053 : Cond.fieldLink RJ0 1053 "jdk/internal/util/Preconditions" "SIOOBE_FORMATTER" "Ljava/util/function/BiFunction;" ∈ TB := (tb3 99 rfl rfl)
section STRS
variable {p : Program} {l : Launch} {e : Env} {R : Room} {s : State} {m : MethodId} {args : Array Value} {below : List Frame} {meth : Method} {c : Code} {H : Heap} {locs : List Loc} {cells slots : Nat} {Q : State → Prop}
variable {cc : ByteArray} {pc : Nat} {ls : Array Slot} {rest : List Value} {G : GP} {nL : Nat} {own : String} {X M : TX} {L : TL}
theorem EnvS.str (h : EnvS G s) : StrE G s := h.2.2.2.2.2
theorem x_ldcS (C : Cx G p s m args c cc nL own) {idx i : Nat} {tx : String} (h : (own, idx, tx, i) ∈ SR) (hdg : decode cc pc = .ok (.ldc idx, 2))
    (k : W p l e R s m args below meth c H locs cells slots Q (F0 m (pc + 2) ls (.ref (gK G i) :: rest))) : W p l e R s m args below meth c H locs cells slots Q (F0 m pc ls rest) :=
  va_ldcS C.1.1 C.1.2.1 C.1.2.2.2.1 (C.2.str.2.1 _ h) hdg k
theorem x_ldcw {T : State} (X9 : Stand p l e R s m args below meth c T locs cells slots) (hexec : p.tables.exec = Jvm.exec) {text : String} {index : Nat} {a : Addr} (hown : s.vm.findClass own = some m.cls)
    (hconst : (Cond.stringRef own index text).before args s = true) (hev : (Term.string own index).eval args s none [] s = some (.ref a)) {g : JFrame} (hg : g.method = m) (hdg : decode c.code g.pc = .ok (.ldc_w index, 3)) :
    ∀ target, Steps p.tables e below (T.setTop { g with pc := g.pc + 3, stack := .ref a :: g.stack }) target → Steps p.tables e below (T.setTop g) target := by
  obtain ⟨k, cf, i, a', hk, hcf, hcp, -, hr, hev'⟩ := Cond.stringRef_spec hown hconst
  cases hev.symm.trans hev'
  obtain ⟨k', hk', he⟩ := X9.warmed.alike.2.2 _ _ hk
  have hr' : k'.resolved[index]? = some (some (.string a)) := by
    rcases X9.warmed.entry hk hk' index with h | ⟨h, -⟩
    · rw [h]; exact hr
    · rw [hr] at h; cases h
  intro target hrest
  subst hg
  jvm_step X9.here [hexec, hdg, ldc_w.wp_string (e := e) (s := T) (f := g) X9.here.top hk' (by rw [he]; exact hcf) hcp hr']
  exact hrest
theorem x_ldcSW (C : Cx G p s m args c cc nL own) {idx i : Nat} {tx : String} (h : (own, idx, tx, i) ∈ SR) (hdg : decode cc pc = .ok (.ldc_w idx, 3))
    (k : W p l e R s m args below meth c H locs cells slots Q (F0 m (pc + 3) ls (.ref (gK G i) :: rest))) : W p l e R s m args below meth c H locs cells slots Q (F0 m pc ls rest) := by
  obtain ⟨h1, h2⟩ := C.2.str.2.1 _ h
  have hb := C.1.2.1
  intro T hT X9
  obtain ⟨t, a, b⟩ := k T hT X9
  exact ⟨t, x_ldcw X9 C.1.1 (text := tx) (a := gK G i) C.1.2.2.2.1 h1 h2 (g := F0 m pc ls rest) rfl (by rw [hb]; exact hdg) t a, b⟩
theorem run_VS {Qc : Array Value → State → Outcome → State → Prop} (C : Cx G p s m args c cc nL own) (hw : Wh G s X M L H locs) {idx : Nat} {y : MethodName} {c1 : ByteArray} {maxL np f lo : Nat} {ret : Option FieldType} (hL : CL own idx y c1 maxL ret np false) {i : Nat} {As st0 : List Value} (hi : i < SN)
    (hM : Met l y (.code y c1 maxL ret :: TB) (rz f lo) (Pd G (.ref (gK G i) :: As) X M L) Qc 0 0 (AB G))
    (hcl : y.cls = "java/lang/String") (hls : ls.size = nL) (hn : As.length = np) (hR : f + 1 ≤ R.frames ∧ 8 + (maxL + 11) + lo ≤ R.locals) (hc0 : cells ≤ R.cells ∧ slots ≤ R.slots)
    (hst : st0 = As.reverse ++ .ref (gK G i) :: rest) (hcat : (rest.map fun v => v.category).sum ≤ 8) (hdg : decode cc pc = .ok (.invokevirtual idx, 3)) :
    va_Run p l e R s m args below meth c H locs cells slots 0 0 (F0 m pc ls st0) rest (Qc (Value.ref (gK G i) :: As).toArray) (AB G) := by
  obtain ⟨hcode, hini, hd, hlk, hin, hsel⟩ := hL
  have hts := C.1.2.2.2.2
  have hp : PreV s H y.cls (gK G i) (Pd G (.ref (gK G i) :: As) X M L) As := ⟨Pd_blind, by
    obtain ⟨cell, h1, h2, h3, -⟩ := ((C.2.str.1 i hi).1).kept hw.2.2.1
    rw [hcl]
    exact ⟨cell, h1, h2, h3⟩, fun U hU hW => ⟨rfl, Wd.start C.2 hw hU hW⟩⟩
  rcases hlk with hlk | ⟨host, hlk⟩
  · exact va_runV (As := As) (rest := rest) C.1 hM ⟨callB_of np hts (goodTB hcode) rfl rfl rfl (hts _ hini) (hts _ hlk) hd hR, hts _ hin, hts _ hsel⟩ hp rfl hn hls hst (lv_room hcat) hdg ⟨hc0.1, hc0.2⟩
  · exact va_runVN (As := As) (rest := rest) C.1 hM ⟨va_cnB np hts (goodTB hcode) rfl rfl rfl (C.2.2.1 _ hlk) (hts _ hini) hd hR, hts _ hin, hts _ hsel⟩ hp rfl hn hls hst (lv_room hcat) hdg ⟨hc0.1, hc0.2⟩
theorem s_value (C : Cx G p s m args c cc nL RJ0) (hw : Wh G s X M L H locs) {i : Nat} (hi : i < SN) (hdg : decode cc pc = .ok (.getfield 9, 3))
    (kk : W p l e R s m args below meth c H locs cells slots Q (F0 m (pc + 3) ls (.ref (gV G i) :: rest))) : W p l e R s m args below meth c H locs cells slots Q (F0 m pc ls (.ref (gK G i) :: rest)) :=
  vk_getf C.1.1 C.1.2.1 (C.2.str.1 i hi).2.2.1 hw.2 C.1.2.2.2.1 (C.1.2.2.2.2 _ flJ0_9) (fun _ h => h) hdg kk
theorem s_coder (C : Cx G p s m args c cc nL RJ0) (hw : Wh G s X M L H locs) {i : Nat} (hi : i < SN) (hdg : decode cc pc = .ok (.getfield 15, 3))
    (kk : W p l e R s m args below meth c H locs cells slots Q (F0 m (pc + 3) ls (.int 0 :: rest))) : W p l e R s m args below meth c H locs cells slots Q (F0 m pc ls (.ref (gK G i) :: rest)) :=
  vk_getf C.1.1 C.1.2.1 (C.2.str.1 i hi).2.1 hw.2 C.1.2.2.2.1 (C.1.2.2.2.2 _ flJ0_15) (fun _ h => h) hdg kk
theorem s_compact (C : Cx G p s m args c cc nL RJ0) (hw : Wh G s X M L H locs) (hdg : decode cc pc = .ok (.getstatic 38, 3))
    (kk : W p l e R s m args below meth c H locs cells slots Q (F0 m (pc + 3) ls (.int 1 :: rest))) : W p l e R s m args below meth c H locs cells slots Q (F0 m pc ls rest) :=
  va_gets C.1.1 C.1.2.1 C.2.str.2.2.1 hw.2 C.1.2.2.2.1 (C.1.2.2.2.2 _ flJ0_38) (fun _ h => h) hdg kk
theorem s_formatter (C : Cx G p s m args c cc nL RJ0) (hw : Wh G s X M L H locs) (hdg : decode cc pc = .ok (.getstatic 1053, 3))
    (k0 : W p l e R s m args below meth c H locs cells slots Q (F0 m (pc + 3) ls (.null :: rest))) (k1 : ∀ t : Nat, W p l e R s m args below meth c H locs cells slots Q (F0 m (pc + 3) ls (.ref t :: rest))) : W p l e R s m args below meth c H locs cells slots Q (F0 m pc ls rest) := by
  rcases C.2.str.2.2.2.1 with h | ⟨t, h⟩
  · exact va_gets C.1.1 C.1.2.1 h hw.2 C.1.2.2.2.1 (C.1.2.2.2.2 _ flJ0_1053) (fun _ h => h) hdg k0
  · exact va_gets C.1.1 C.1.2.1 h hw.2 C.1.2.2.2.1 (C.1.2.2.2.2 _ flJ0_1053) (fun _ h => h) hdg (k1 t)
end STRS
section STRM
variable {G : GP} {l : Launch}
theorem c_J0_coder {i : Nat} (hi : i < SN) {X M : TX} {L : TL} : CTi G l yJ0_coder_7d493 cJ0_coder_7d493 1 (some .byte) 0 0 [.ref (gK G i)] X M L X M L 0 := by
  refine ct_of (by decide +kernel) (Nat.le_of_ble_eq_true rfl) (fun p e s m args below meth c H locs ls C hr hlk hw hl => ?_)
  have C : Cx G p s m args c cJ0_coder_7d493 1 RJ0 := C
  have hl : lv_has ls 1 [(0, .ref (gK G i))] := hl
  refine s_compact C hw dJ0_coder_7d493_0 ?_
  refine lv_if_eq (tgt := 13) C.1.1 C.1.2.1 dJ0_coder_7d493_3 (by decide) (fun z => absurd z (by decide)) (fun _ => ?_)
  refine lv_aload_n C.1.1 C.1.2.1 dJ0_coder_7d493_6 rfl (lv_at hl 0 rfl) ?_
  refine s_coder C hw hi dJ0_coder_7d493_7 ?_
  refine lv_goto (tgt := 14) C.1.1 C.1.2.1 dJ0_coder_7d493_10 (by decide) ?_
  exact ret_z C hr hlk hw rfl dJ0_coder_7d493_14
theorem c_J0_isLatin1 {i : Nat} (hi : i < SN) {X M : TX} {L : TL} : CTi G l yJ0_isLatin1_aae02 cJ0_isLatin1_aae02 1 (some .boolean) 0 0 [.ref (gK G i)] X M L X M L 1 := by
  refine ct_of (by decide +kernel) (Nat.le_of_ble_eq_true rfl) (fun p e s m args below meth c H locs ls C hr hlk hw hl => ?_)
  have C : Cx G p s m args c cJ0_isLatin1_aae02 1 RJ0 := C
  have hl : lv_has ls 1 [(0, .ref (gK G i))] := hl
  refine s_compact C hw dJ0_isLatin1_aae02_0 ?_
  refine lv_if_eq (tgt := 17) C.1.1 C.1.2.1 dJ0_isLatin1_aae02_3 (by decide) (fun z => absurd z (by decide)) (fun _ => ?_)
  refine lv_aload_n C.1.1 C.1.2.1 dJ0_isLatin1_aae02_6 rfl (lv_at hl 0 rfl) ?_
  refine s_coder C hw hi dJ0_isLatin1_aae02_7 ?_
  refine lv_if_ne (tgt := 17) C.1.1 C.1.2.1 dJ0_isLatin1_aae02_10 (by decide) (fun z => absurd rfl z) (fun _ => ?_)
  refine lv_iconst (v := (1 : Int32)) C.1.1 C.1.2.1 dJ0_isLatin1_aae02_13 rfl ?_
  refine lv_goto (tgt := 18) C.1.1 C.1.2.1 dJ0_isLatin1_aae02_14 (by decide) ?_
  exact ret_z C hr hlk hw rfl dJ0_isLatin1_aae02_18
theorem SL_small : ∀ i, i < SN → SL.getD i 0 < 100 := by decide +kernel
theorem c_J0_length {i : Nat} (hi : i < SN) {X M : TX} {L : TL} : CTi G l yJ0_length_8abf5 cJ0_length_8abf5 1 (some .int) 1 20 [.ref (gK G i)] X M L X M L (nI (SL.getD i 0)) := by
  refine ct_of (by decide +kernel) (Nat.le_of_ble_eq_true rfl) (fun p e s m args below meth c H locs ls C hr hlk hw hl => ?_)
  have C : Cx G p s m args c cJ0_length_8abf5 1 RJ0 := C
  have hl : lv_has ls 1 [(0, .ref (gK G i))] := hl
  refine lv_aload_n C.1.1 C.1.2.1 dJ0_length_8abf5_0 rfl (lv_at hl 0 rfl) ?_
  refine s_value C hw hi dJ0_length_8abf5_1 ?_
  refine va_tlen C.1.1 C.1.2.1 (C.2.str.1 i hi).2.2.2 hw.2 (v := nI (SL.getD i 0)) rfl dJ0_length_8abf5_4 ?_
  refine lv_aload_n C.1.1 C.1.2.1 dJ0_length_8abf5_5 rfl (lv_at hl 0 rfl) ?_
  refine aft_i hw (run_VS C hw clJ0_335 (As := []) (rest := [.int (nI (SL.getD i 0))]) hi (c_J0_coder hi) rfl hl.1 rfl ⟨Nat.le_of_ble_eq_true rfl, Nat.le_of_ble_eq_true rfl⟩ ⟨Nat.zero_le _, Nat.zero_le _⟩ rfl (Nat.le_of_ble_eq_true rfl) dJ0_length_8abf5_6) (fun H locs hw => ?_)
  refine lv_ishr C.1.1 C.1.2.1 dJ0_length_8abf5_9 ?_
  rw [sc_shr0 (Nat.lt_trans (SL_small i hi) (by decide))]
  exact ret_i C hr hlk hw dJ0_length_8abf5_10
theorem c_J3_check {v : Value} (hv : v = .null ∨ ∃ t, v = .ref t) {i n : Int32} (h0 : ¬ i < 0) (h1 : i < n) {X M : TX} {L : TL} : CTi G l yJ3_checkIndex_8e157 cJ3_checkIndex_8e157 3 (some .int) 0 0 [.int i, .int n, v] X M L X M L i := by
  have hlen : (lg_sl [.int i, .int n, v]).length ≤ 3 := by
    rcases hv with rfl | ⟨t, rfl⟩ <;> exact Nat.le_of_ble_eq_true rfl
  refine ct_of (by decide +kernel) hlen (fun p e s m args below meth c H locs ls C hr hlk hw hl => ?_)
  have C : Cx G p s m args c cJ3_checkIndex_8e157 3 RJ3 := C
  have hl : lv_has ls 3 [(0, .int i), (1, .int n), (2, v)] := hl
  refine lv_iload_n C.1.1 C.1.2.1 dJ3_checkIndex_8e157_0 rfl (lv_at hl 0 rfl) ?_
  refine lv_if_lt (tgt := 9) C.1.1 C.1.2.1 dJ3_checkIndex_8e157_1 (by decide) (fun z => absurd z h0) (fun _ => ?_)
  refine lv_iload_n C.1.1 C.1.2.1 dJ3_checkIndex_8e157_4 rfl (lv_at hl 0 rfl) ?_
  refine lv_iload_n C.1.1 C.1.2.1 dJ3_checkIndex_8e157_5 rfl (lv_at hl 1 rfl) ?_
  refine lv_icmp_lt (tgt := 16) C.1.1 C.1.2.1 dJ3_checkIndex_8e157_6 (by decide) (fun _ => ?_) (fun z => absurd h1 z)
  refine lv_iload_n C.1.1 C.1.2.1 dJ3_checkIndex_8e157_16 rfl (lv_at hl 0 rfl) ?_
  exact ret_i C hr hlk hw dJ3_checkIndex_8e157_17
theorem c_J0_check {i n : Int32} (h0 : ¬ i < 0) (h1 : i < n) {X M : TX} {L : TL} : CTv G l yJ0_checkIndex_df160 cJ0_checkIndex_df160 2 none 1 22 [.int i, .int n] X M L X M L := by
  refine ct_of (by decide +kernel) (Nat.le_of_ble_eq_true rfl) (fun p e s m args below meth c H locs ls C hr hlk hw hl => ?_)
  have C : Cx G p s m args c cJ0_checkIndex_df160 2 RJ0 := C
  have hl : lv_has ls 2 [(0, .int i), (1, .int n)] := hl
  refine lv_iload_n C.1.1 C.1.2.1 dJ0_checkIndex_df160_0 rfl (lv_at hl 0 rfl) ?_
  refine lv_iload_n C.1.1 C.1.2.1 dJ0_checkIndex_df160_1 rfl (lv_at hl 1 rfl) ?_
  refine s_formatter C hw dJ0_checkIndex_df160_2 ?_ (fun t => ?_)
  · refine aft_i hw (run_S C hw clJ0_1059 (As := [.int i, .int n, .null]) (rest := []) (c_J3_check (Or.inl rfl) h0 h1) hl.1 rfl ⟨Nat.le_of_ble_eq_true rfl, Nat.le_of_ble_eq_true rfl⟩ ⟨Nat.zero_le _, Nat.zero_le _⟩ rfl (Nat.le_of_ble_eq_true rfl) dJ0_checkIndex_df160_5) (fun H locs hw => ?_)
    refine lv_pop C.1.1 C.1.2.1 dJ0_checkIndex_df160_8 rfl ?_
    exact ret_v C hr hlk hw dJ0_checkIndex_df160_9
  · refine aft_i hw (run_S C hw clJ0_1059 (As := [.int i, .int n, .ref t]) (rest := []) (c_J3_check (Or.inr ⟨t, rfl⟩) h0 h1) hl.1 rfl ⟨Nat.le_of_ble_eq_true rfl, Nat.le_of_ble_eq_true rfl⟩ ⟨Nat.zero_le _, Nat.zero_le _⟩ rfl (Nat.le_of_ble_eq_true rfl) dJ0_checkIndex_df160_5) (fun H locs hw => ?_)
    refine lv_pop C.1.1 C.1.2.1 dJ0_checkIndex_df160_8 rfl ?_
    exact ret_v C hr hlk hw dJ0_checkIndex_df160_9
theorem SB_byte : ∀ i, i < SN → ∀ j, j < SL.getD i 0 → (((SB.getD i []).getD j 0 &&& 255).toUInt32 % 65536).toInt32 = (SB.getD i []).getD j 0 ∧ narrow .char (.int ((SB.getD i []).getD j 0)) = .int ((SB.getD i []).getD j 0) := by decide +kernel
theorem c_J1_charAt {i : Nat} (hi : i < SN) {j : Int32} (hj : vp_in j (SL.getD i 0)) {X M : TX} {L : TL} : CTi G l yJ1_charAt_3b067 cJ1_charAt_3b067 2 (some .char) 2 43 [.ref (gV G i), .int j] X M L X M L ((SB.getD i []).getD j.toNatClampNeg 0) := by
  refine ct_of (by decide +kernel) (Nat.le_of_ble_eq_true rfl) (fun p e s m args below meth c H locs ls C hr hlk hw hl => ?_)
  have C : Cx G p s m args c cJ1_charAt_3b067 2 RJ1 := C
  have hl : lv_has ls 2 [(0, .ref (gV G i)), (1, .int j)] := hl
  have hT := (C.2.str.1 i hi).2.2.2
  have hlt := Nat.lt_trans (SL_small i hi) (show 100 < 2 ^ 31 by decide)
  obtain ⟨k, hk, rfl⟩ := vp_in_of hj hlt
  obtain ⟨b1, b2⟩ := SB_byte i hi k hk
  have ek : (nI k).toNatClampNeg = k := nI_clamp (Nat.lt_trans hk hlt)
  rw [ek]
  refine lv_iload_n C.1.1 C.1.2.1 dJ1_charAt_3b067_0 rfl (lv_at hl 1 rfl) ?_
  refine lv_aload_n C.1.1 C.1.2.1 dJ1_charAt_3b067_1 rfl (lv_at hl 0 rfl) ?_
  refine va_tlen C.1.1 C.1.2.1 hT hw.2 (v := nI (SL.getD i 0)) rfl dJ1_charAt_3b067_2 ?_
  refine aft_v hw (run_S C hw clJ1_9 (As := [.int (nI k), .int (nI (SL.getD i 0))]) (rest := []) (c_J0_check (nI_pos (Nat.lt_trans hk hlt)) (nI_lt hk hlt)) hl.1 rfl ⟨Nat.le_of_ble_eq_true rfl, Nat.le_of_ble_eq_true rfl⟩ ⟨Nat.zero_le _, Nat.zero_le _⟩ rfl (Nat.le_of_ble_eq_true rfl) dJ1_charAt_3b067_3) (fun H locs hw => ?_)
  refine lv_aload_n C.1.1 C.1.2.1 dJ1_charAt_3b067_6 rfl (lv_at hl 0 rfl) ?_
  refine lv_iload_n C.1.1 C.1.2.1 dJ1_charAt_3b067_7 rfl (lv_at hl 1 rfl) ?_
  refine va_tb C.1.1 C.1.2.1 hT hw.2 hj (v := .int ((SB.getD i []).getD k 0)) (by rw [ek]) dJ1_charAt_3b067_8 ?_
  refine lv_sipush (v := (255 : Int32)) C.1.1 C.1.2.1 dJ1_charAt_3b067_9 rfl ?_
  refine lv_iand C.1.1 C.1.2.1 dJ1_charAt_3b067_12 ?_
  refine lv_i2c (v := (SB.getD i []).getD k 0) C.1.1 C.1.2.1 dJ1_charAt_3b067_13 b1 ?_
  exact ret_z C hr hlk hw b2 dJ1_charAt_3b067_14
theorem c_J0_charAt {i : Nat} (hi : i < SN) {j : Int32} (hj : vp_in j (SL.getD i 0)) {X M : TX} {L : TL} : CTi G l yJ0_charAt_5068e cJ0_charAt_5068e 2 (some .char) 3 64 [.ref (gK G i), .int j] X M L X M L ((SB.getD i []).getD j.toNatClampNeg 0) := by
  refine ct_of (by decide +kernel) (Nat.le_of_ble_eq_true rfl) (fun p e s m args below meth c H locs ls C hr hlk hw hl => ?_)
  have C : Cx G p s m args c cJ0_charAt_5068e 2 RJ0 := C
  have hl : lv_has ls 2 [(0, .ref (gK G i)), (1, .int j)] := hl
  have hlt := Nat.lt_trans (SL_small i hi) (show 100 < 2 ^ 31 by decide)
  have b2 : narrow .char (.int ((SB.getD i []).getD j.toNatClampNeg 0)) = .int ((SB.getD i []).getD j.toNatClampNeg 0) := by
    obtain ⟨k, hk, rfl⟩ := vp_in_of hj hlt
    rw [nI_clamp (Nat.lt_trans hk hlt)]
    exact (SB_byte i hi k hk).2
  refine lv_aload_n C.1.1 C.1.2.1 dJ0_charAt_5068e_0 rfl (lv_at hl 0 rfl) ?_
  refine aft_i hw (run_VS C hw clJ0_492 (As := []) (rest := []) hi (c_J0_isLatin1 hi) rfl hl.1 rfl ⟨Nat.le_of_ble_eq_true rfl, Nat.le_of_ble_eq_true rfl⟩ ⟨Nat.zero_le _, Nat.zero_le _⟩ rfl (Nat.le_of_ble_eq_true rfl) dJ0_charAt_5068e_1) (fun H locs hw => ?_)
  refine lv_if_eq (tgt := 16) C.1.1 C.1.2.1 dJ0_charAt_5068e_4 (by decide) (fun z => absurd z (by decide)) (fun _ => ?_)
  refine lv_aload_n C.1.1 C.1.2.1 dJ0_charAt_5068e_7 rfl (lv_at hl 0 rfl) ?_
  refine s_value C hw hi dJ0_charAt_5068e_8 ?_
  refine lv_iload_n C.1.1 C.1.2.1 dJ0_charAt_5068e_11 rfl (lv_at hl 1 rfl) ?_
  refine aft_i hw (run_S C hw clJ0_495 (As := [.ref (gV G i), .int j]) (rest := []) (c_J1_charAt hi hj) hl.1 rfl ⟨Nat.le_of_ble_eq_true rfl, Nat.le_of_ble_eq_true rfl⟩ ⟨Nat.zero_le _, Nat.zero_le _⟩ rfl (Nat.le_of_ble_eq_true rfl) dJ0_charAt_5068e_12) (fun H locs hw => ?_)
  exact ret_z C hr hlk hw b2 dJ0_charAt_5068e_15
end STRM
section STRX
variable {p : Program} {l : Launch} {e : Env} {R : Room} {s : State} {m : MethodId} {args : Array Value} {below : List Frame} {meth : Method} {c : Code} {H : Heap} {locs : List Loc} {cells slots : Nat} {Q : State → Prop}
variable {cc : ByteArray} {pc : Nat} {ls : Array Slot} {rest : List Value} {G : GP} {nL : Nat} {own : String} {X M : TX} {L : TL}
theorem x_slen (C : Cx G p s m args c cc nL own) (hw : Wh G s X M L H locs) {idx : Nat} (hL : CL own idx yJ0_length_8abf5 cJ0_length_8abf5 1 (some .int) 0 false) {i : Nat} (hi : i < SN) (hls : ls.size = nL) (hR : 2 ≤ R.frames ∧ 60 ≤ R.locals) (hc0 : cells ≤ R.cells ∧ slots ≤ R.slots) (hcat : (rest.map fun v => v.category).sum ≤ 8) (hdg : decode cc pc = .ok (.invokevirtual idx, 3))
    (kk : ∀ (H1 : Heap) (locs1 : List Loc), Wh G s X M L H1 locs1 → W p l e R s m args below meth c H1 locs1 cells slots Q (F0 m (pc + 3) ls (.int (nI (SL.getD i 0)) :: rest))) : W p l e R s m args below meth c H locs cells slots Q (F0 m pc ls (.ref (gK G i) :: rest)) :=
  aft_i hw (run_VS C hw hL (As := []) (rest := rest) hi (c_J0_length hi) rfl hls rfl ⟨hR.1, by omega⟩ hc0 rfl hcat hdg) kk
theorem x_schr (C : Cx G p s m args c cc nL own) (hw : Wh G s X M L H locs) {idx : Nat} (hL : CL own idx yJ0_charAt_5068e cJ0_charAt_5068e 2 (some .char) 1 false) {i : Nat} (hi : i < SN) {j : Int32} (hj : vp_in j (SL.getD i 0)) (hls : ls.size = nL) (hR : 6 ≤ R.frames ∧ 181 ≤ R.locals) (hc0 : cells ≤ R.cells ∧ slots ≤ R.slots) (hcat : (rest.map fun v => v.category).sum ≤ 8) (hdg : decode cc pc = .ok (.invokevirtual idx, 3))
    (kk : ∀ (H1 : Heap) (locs1 : List Loc), Wh G s X M L H1 locs1 → W p l e R s m args below meth c H1 locs1 cells slots Q (F0 m (pc + 3) ls (.int ((SB.getD i []).getD j.toNatClampNeg 0) :: rest))) : W p l e R s m args below meth c H locs cells slots Q (F0 m pc ls (.int j :: .ref (gK G i) :: rest)) :=
  aft_i hw (run_VS C hw hL (As := [.int j]) (rest := rest) hi (c_J0_charAt hi hj) rfl hls rfl ⟨by omega, by omega⟩ hc0 rfl hcat hdg) kk
end STRX
section MATHS
variable {p : Program} {l : Launch} {e : Env} {R : Room} {s : State} {m : MethodId} {args : Array Value} {below : List Frame} {meth : Method} {c : Code} {H : Heap} {locs : List Loc} {cells slots : Nat} {Q : State → Prop}
variable {cc : ByteArray} {pc : Nat} {ls : Array Slot} {rest : List Value} {G : GP} {nL : Nat} {own : String} {X M : TX} {L : TL}
theorem x_max (C : Cx G p s m args c cc nL own) {idx : Nat} (hL : CL own idx yJ9_max_7cf53 cJ9_max_7cf53 2 (some .int) 2 true) (hpl : Cond.methodLink own idx Lib.Math.max.name ∈ TB) (hls : ls.size = nL) (hR : 1 ≤ R.frames ∧ (rest.map fun v => v.category).sum + 13 ≤ R.locals) (hc0 : cells ≤ R.cells ∧ slots ≤ R.slots) {x y : Int32} (hdg : decode cc pc = .ok (.invokestatic idx, 3))
    (kk : W p l e R s m args below meth c H locs cells slots Q (F0 m (pc + 3) ls (.int (if x < y then y else x) :: rest))) : W p l e R s m args below meth c H locs cells slots Q (F0 m pc ls (.int y :: .int x :: rest)) :=
  va_mmax C.1.1 C.1.2.1 (C.1.2.2.1.trans hls.symm) C.1.2.2.2.1 (C.1.2.2.2.2 _ hpl) (C.1.2.2.2.2 _ (show Cond.static yJ9_max_7cf53 ∈ TB from hL.2.2.2.2)) (C.1.2.2.2.2 _ hL.2.1) (C.1.2.2.2.2 _ hL.1) hR.1 hR.2 hc0.1 hc0.2 hdg kk
theorem x_min (C : Cx G p s m args c cc nL own) {idx : Nat} (hL : CL own idx yJ9_min_7cf53 cJ9_min_7cf53 2 (some .int) 2 true) (hpl : Cond.methodLink own idx Lib.Math.min.name ∈ TB) (hls : ls.size = nL) (hR : 1 ≤ R.frames ∧ (rest.map fun v => v.category).sum + 13 ≤ R.locals) (hc0 : cells ≤ R.cells ∧ slots ≤ R.slots) {x y : Int32} (hdg : decode cc pc = .ok (.invokestatic idx, 3))
    (kk : W p l e R s m args below meth c H locs cells slots Q (F0 m (pc + 3) ls (.int (if y < x then y else x) :: rest))) : W p l e R s m args below meth c H locs cells slots Q (F0 m pc ls (.int y :: .int x :: rest)) :=
  va_mmin C.1.1 C.1.2.1 (C.1.2.2.1.trans hls.symm) C.1.2.2.2.1 (C.1.2.2.2.2 _ hpl) (C.1.2.2.2.2 _ (show Cond.static yJ9_min_7cf53 ∈ TB from hL.2.2.2.2)) (C.1.2.2.2.2 _ hL.2.1) (C.1.2.2.2.2 _ hL.1) hR.1 hR.2 hc0.1 hc0.2 hdg kk
theorem x_abs (C : Cx G p s m args c cc nL own) {idx : Nat} (hL : CL own idx yJ9_abs_0f7a4 cJ9_abs_0f7a4 1 (some .int) 1 true) (hpl : Cond.methodLink own idx Lib.Math.abs.name ∈ TB) (hls : ls.size = nL) (hR : 1 ≤ R.frames ∧ (rest.map fun v => v.category).sum + 13 ≤ R.locals) (hc0 : cells ≤ R.cells ∧ slots ≤ R.slots) {x : Int32} (hdg : decode cc pc = .ok (.invokestatic idx, 3))
    (kk : W p l e R s m args below meth c H locs cells slots Q (F0 m (pc + 3) ls (.int (if 0 ≤ x then x else 0 - x) :: rest))) : W p l e R s m args below meth c H locs cells slots Q (F0 m pc ls (.int x :: rest)) :=
  va_mabs C.1.1 C.1.2.1 (C.1.2.2.1.trans hls.symm) C.1.2.2.2.1 (C.1.2.2.2.2 _ hpl) (C.1.2.2.2.2 _ (show Cond.static yJ9_abs_0f7a4 ∈ TB from hL.2.2.2.2)) (C.1.2.2.2.2 _ hL.2.1) (C.1.2.2.2.2 _ hL.1) hR.1 hR.2 hc0.1 hc0.2 hdg kk
end MATHS

