/-! the law's own small methods: they catch -/
def wrp (q : TX × (Int32 ⊕ Nat)) (L : TL) (c0 c1 : Option Int32) : Option (TX × TL × Int32) := match q.2 with
  | .inl r => some (q.1, u2L L 27 0 r.toInt64, 0)
  | .inr k => (if k = 0 then c0 else c1).map fun z => (q.1, L, z)
def wrpL (q : TX × (Int64 ⊕ Nat)) (L : TL) (c0 c1 : Option Int32) : Option (TX × TL × Int32) := match q.2 with
  | .inl r => some (q.1, u2L L 27 0 r, 0)
  | .inr k => (if k = 0 then c0 else c1).map fun z => (q.1, L, z)
theorem wrp_l {q : TX × (Int32 ⊕ Nat)} {L : TL} {c0 c1 : Option Int32} {ro : TX × TL × Int32} {r : Int32} (h : wrp q L c0 c1 = some ro) (e : q.2 = .inl r) : ro = (q.1, u2L L 27 0 r.toInt64, 0) := by
  unfold wrp at h
  rw [e] at h
  exact (Option.some.inj h).symm
theorem wrpL_l {q : TX × (Int64 ⊕ Nat)} {L : TL} {c0 c1 : Option Int32} {ro : TX × TL × Int32} {r : Int64} (h : wrpL q L c0 c1 = some ro) (e : q.2 = .inl r) : ro = (q.1, u2L L 27 0 r, 0) := by
  unfold wrpL at h
  rw [e] at h
  exact (Option.some.inj h).symm
theorem wrp_r {q : TX × (Int32 ⊕ Nat)} {L : TL} {c0 c1 : Option Int32} {ro : TX × TL × Int32} {k : Nat} (h : wrp q L c0 c1 = some ro) (e : q.2 = .inr k) : (if k = 0 then c0 else c1) = some ro.2.2 ∧ ro.1 = q.1 ∧ ro.2.1 = L := by
  unfold wrp at h
  rw [e] at h
  obtain ⟨z, h1, h2⟩ := Option.map_eq_some_iff.mp h
  subst h2
  exact ⟨h1, rfl, rfl⟩
theorem wrpL_r {q : TX × (Int64 ⊕ Nat)} {L : TL} {c0 c1 : Option Int32} {ro : TX × TL × Int32} {k : Nat} (h : wrpL q L c0 c1 = some ro) (e : q.2 = .inr k) : (if k = 0 then c0 else c1) = some ro.2.2 ∧ ro.1 = q.1 ∧ ro.2.1 = L := by
  unfold wrpL at h
  rw [e] at h
  obtain ⟨z, h1, h2⟩ := Option.map_eq_some_iff.mp h
  subst h2
  exact ⟨h1, rfl, rfl⟩
abbrev XF (G : GP) : String → State → State → Prop := vx_X (fun (_ : Unit) => False) (fun _ _ _ => True) (AB G)
abbrev CWi (G : GP) (l : Launch) (y : MethodName) (cc : ByteArray) (maxL : Nat) (hh : List (Nat × Nat × Nat × Nat)) (f lo n : Nat) (av : List Value) (X M : TX) (L : TL) (ro : TX × TL × Int32) : Prop :=
  vx_Met l y (.codeWith y cc maxL (some .int) hh :: TB) (rx f lo n) (Pd G av X M L) (Di G ro.1 M ro.2.1 ro.2.2) (XF G) n (6 * n) (AB G)
section WRAP
variable {p : Program} {l : Launch} {e : Env} {R : Room} {s : State} {m : MethodId} {args : Array Value} {below : List Frame} {meth : Method} {c : Code} {H : Heap} {locs : List Loc} {cells slots : Nat} {Q : State → Prop}
variable {cc : ByteArray} {pc : Nat} {ls : Array Slot} {rest : List Value} {G : GP} {nL : Nat} {own : String} {X M : TX} {L : TL}
theorem exn_0 : exn 0 = "java/util/NoSuchElementException" := rfl
theorem exn_s {k : Nat} (h : ¬ k = 0) : exn k = "java/lang/IllegalArgumentException" := if_neg h
theorem x_catchN (C : Cx G p s m args c cc nL RL) {en h : Nat} {suf : List ExceptionTableEntry} (htab : c.exceptionTable.toList = ⟨0, en, h, 31⟩ :: suf) {ce : Cell} {q : Addr} (hpc : covers ⟨0, en, h, 31⟩ pc = true) (hcell : H[q]? = some ce) (hv : ce.vm = .none) (hcl : s.vm.findClass "java/util/NoSuchElementException" = some ce.cls)
    (kk : W p l e R s m args below meth c H locs cells slots Q (F0 m h ls [.ref q])) : vx_W p l e R s m args below meth c H locs cells slots Q (F0 m pc ls rest) q :=
  vx_catch C.1.2.2.2.1 [] ⟨0, en, h, 31⟩ suf htab (fun _ z => absurd z List.not_mem_nil) hpc (by show (31 : Nat) ≠ 0; decide) (C.1.2.2.2.2 _ (tb4 221 rfl rfl)) (va_Nw.use rfl (C.2.2.1 _ (nw4 236 rfl rfl))) hcell hv hcl kk
theorem x_catchI (C : Cx G p s m args c cc nL RL) {en h : Nat} {suf : List ExceptionTableEntry} (htab : c.exceptionTable.toList = ⟨0, en, h, 13⟩ :: suf) {ce : Cell} {q : Addr} (hpc : covers ⟨0, en, h, 13⟩ pc = true) (hcell : H[q]? = some ce) (hv : ce.vm = .none) (hcl : s.vm.findClass "java/lang/IllegalArgumentException" = some ce.cls)
    (kk : W p l e R s m args below meth c H locs cells slots Q (F0 m h ls [.ref q])) : vx_W p l e R s m args below meth c H locs cells slots Q (F0 m pc ls rest) q :=
  vx_catch C.1.2.2.2.1 [] ⟨0, en, h, 13⟩ suf htab (fun _ z => absurd z List.not_mem_nil) hpc (by show (13 : Nat) ≠ 0; decide) (C.1.2.2.2.2 _ (tb2 203 rfl rfl)) (va_Nw.use rfl (C.2.2.1 _ (nw2 218 rfl rfl))) hcell hv hcl kk
theorem x_catchI2 (C : Cx G p s m args c cc nL RL) {en h0 h : Nat} {suf : List ExceptionTableEntry} (htab : c.exceptionTable.toList = ⟨0, en, h0, 31⟩ :: ⟨0, en, h, 13⟩ :: suf) {ce : Cell} {q : Addr} (hpc : covers ⟨0, en, h, 13⟩ pc = true) (hcell : H[q]? = some ce) (hv : ce.vm = .none) (hcl : s.vm.findClass "java/lang/IllegalArgumentException" = some ce.cls)
    (kk : W p l e R s m args below meth c H locs cells slots Q (F0 m h ls [.ref q])) : vx_W p l e R s m args below meth c H locs cells slots Q (F0 m pc ls rest) q :=
  vx_catch C.1.2.2.2.1 [⟨0, en, h0, 31⟩] ⟨0, en, h, 13⟩ suf htab (fun z hz => by
      rw [List.mem_singleton.mp hz]
      exact Or.inr ⟨by show (31 : Nat) ≠ 0; decide, _, C.1.2.2.2.2 (Cond.classLink RL 31 "java/util/NoSuchElementException") (tb4 221 rfl rfl), C.2.str.2.2.2.2.2.2⟩)
    hpc (by show (13 : Nat) ≠ 0; decide) (C.1.2.2.2.2 _ (tb2 203 rfl rfl)) (va_Nw.use rfl (C.2.2.1 _ (nw2 218 rfl rfl))) hcell hv hcl kk
theorem retw {r : Int32} {ro : TX × TL × Int32} {mc ms : Nat} {XC : String → State → State → Prop} (C : Cx G p s m args c cc nL own) (hr : meth.sig.returnType = some .int) (hlk : meth.locks = false) (hw : Wh G s X M L H locs) (h1 : ro.1 = X) (h2 : ro.2.1 = L) (h3 : ro.2.2 = r) (hc : cells ≤ mc) (hs : slots ≤ ms) (hdg : decode cc pc = .ok (.ireturn, 1)) :
    W p l e R s m args below meth c H locs cells slots (vx_MQ below (Di G ro.1 M ro.2.1 ro.2.2) XC args s mc ms (AB G)) (F0 m pc ls [.int r]) := by
  rw [h1, h2, h3]
  exact vx_ret (W.widen hc hs (W.iret C.1.1 C.1.2.1 hr (fun t ht hW => ⟨⟨r, (), rfl, rfl, Wd.start C.2 hw ht hW⟩, hw.2.F ht⟩) hw.2.2.2 hdg hlk))
end WRAP
section ENTRYW
variable {l : Launch} {G : GP} {y : MethodName} {cc : ByteArray} {maxL f lo n : Nat} {hh : List (Nat × Nat × Nat × Nat)} {av : List Value} {X M : TX} {L : TL}
theorem cw_of {Qc : Array Value → State → Outcome → State → Prop} {XC : String → State → State → Prop} (hy : plainName y.cls = true) (hsz : (lg_sl av).length ≤ maxL) {tab : List ExceptionTableEntry} (htb : tableOf hh = tab)
    (body : ∀ (p : Program) (e : Env) (s : State) (m : MethodId) (args : Array Value) (below : List Frame) (meth : Method) (c : Code) (H : Heap) (locs : List Loc) (ls : Array Slot), Cx G p s m args c cc maxL y.cls → meth.sig.returnType = some .int → meth.locks = false → c.exceptionTable.toList = tab → Wh G s X M L H locs → lv_has ls maxL (lv_args 0 av) → W p l e (rx f lo n) s m args below meth c H locs 0 0 (vx_MQ below Qc XC args s n (6 * n) (AB G)) (F0 m 0 ls [])) :
    vx_Met l y (.codeWith y cc maxL (some .int) hh :: TB) (rx f lo n) (Pd G av X M L) Qc XC n (6 * n) (AB G) := by
  refine vx_ofWH (cc := cc) (maxL := maxL) (ret := some .int) (hh := hh) hy rfl ?_
  intro p e s m args below meth c s₁ B hml hv
  obtain ⟨rfl, hE, hP⟩ := hv
  have hts := atoms_spec (ws := .codeWith y cc maxL (some .int) hh :: TB) B.pre
  have hl := lv_entry av (n := maxL) hsz
  rw [lg_entry_eq]
  exact body p e s m _ below meth c s.heap [] _ ⟨⟨B.exec, B.bytes, hml, findClass_of_methodNamed B.named, fun w hw => hts w (List.mem_cons_of_mem _ hw)⟩, hE⟩ B.returns B.notSynchronized ((vx_table (x := y) B (hts _ List.mem_cons_self)).trans htb) ⟨hP, va_S.rf⟩ hl
end ENTRYW

def f_L_county (X : TX) (L : TL) (x1 : Int32) : Option (TX × TL × Int32) := (f_X8_county X x1).bind fun q => wrp q L none (some (1 : Int32))
set_option maxRecDepth 20000 in
set_option maxHeartbeats 2000000 in
theorem c_L_county {G : GP} {l : Launch} (hst : l.stackTraces = false) (hnL : 41 + 27 < gN G) {X M : TX} {L : TL} {x1 : Int32} {ro : TX × TL × Int32} (hf : f_L_county X L x1 = some ro) : CWi G l yL_county cL_county 4 [(0, 9, 12, 13)] 11 289 1 [.ref (gA G 0), .int x1, .ref (gA G (41 + 27))] X M L ro := by
  unfold f_L_county at hf
  obtain ⟨q, h5, hf⟩ := o_bind hf
  refine cw_of (by decide +kernel) (Nat.le_of_ble_eq_true rfl) (tab := [⟨0, 9, 12, 13⟩]) rfl (fun p e s m args below meth c H locs ls C hr hlk htab hw hl => ?_)
  have C : Cx G p s m args c cL_county 4 RL := C
  have hl : lv_has ls 4 [(0, .ref (gA G 0)), (1, .int x1), (2, .ref (gA G (41 + 27)))] := hl
  refine lv_aload_n C.1.1 C.1.2.1 dL_county_0 rfl (lv_at hl 2 rfl) ?_
  refine lv_iconst (v := (0 : Int32)) C.1.1 C.1.2.1 dL_county_1 rfl ?_
  refine lv_aload_n C.1.1 C.1.2.1 dL_county_2 rfl (lv_at hl 0 rfl) ?_
  refine lv_iload_n C.1.1 C.1.2.1 dL_county_3 rfl (lv_at hl 1 rfl) ?_
  refine vx_calli (runx_VX C hw clL_7 (tb2 204 rfl rfl) (As := [.int x1]) (rest := [.int (0 : Int32), .ref (gA G (41 + 27))]) oX_0 (c_X8_county hst h5) rfl hl.1 rfl ⟨Nat.le_of_ble_eq_true rfl, Nat.le_of_ble_eq_true rfl⟩ ⟨Nat.le_of_ble_eq_true rfl, Nat.le_of_ble_eq_true rfl⟩ rfl (Nat.le_of_ble_eq_true rfl) dL_county_4) hw.2 (fun _ _ h => h) (fun _ h => h) (fun _ _ h => h) (fun E ce q9 u t H1 locs1 ht hvm _ hB _ _ hS hce hcv hcls => ?_) (fun r u t H1 locs1 ht _ hp hB _ _ hS => ?_)
  · obtain ⟨⟨k, e1, e2⟩, hP⟩ := hB
    obtain ⟨z1, z2, z3⟩ := wrp_r hf e1
    have hw1 : Wh G s q.1 M L H1 locs1 := ⟨by rw [← ht]; exact hP, hS⟩
    subst e2
    by_cases hk : k = 0
    · subst hk
      have z1 := (if_pos rfl).symm.trans z1
      cases z1
    · have z1 := (if_neg hk).symm.trans z1
      rw [exn_s hk] at hcls
      refine x_catchI C htab rfl hce hcv hcls ?_
      refine lv_astore_n (lv' := [(3, .ref q9), (0, .ref (gA G 0)), (1, .int x1), (2, .ref (gA G (41 + 27)))]) C.1.1 C.1.2.1 dL_county_12 rfl hl (by decide) rfl (fun ls hl => ?_)
      refine lv_iconst (v := (1 : Int32)) C.1.1 C.1.2.1 dL_county_13 rfl ?_
      exact retw C hr hlk hw1 z2 z3 (Option.some.inj z1).symm (Nat.le_of_ble_eq_true rfl) (Nat.le_of_ble_eq_true rfl) dL_county_14
  · have hro := wrp_l hf hp
    subst hro
    have hw1 : Wh G s q.1 M L H1 locs1 := ⟨by rw [← ht]; exact hB.2, hS⟩
    refine lv_i2l (v := r.toInt64) C.1.1 C.1.2.1 dL_county_7 rfl ?_
    refine l_ast C hw1 lM_27 hnL (inb_in (by decide)) dL_county_8 (fun H locs hw => ?_)
    refine lv_goto (tgt := 15) C.1.1 C.1.2.1 dL_county_9 (by decide) ?_
    refine lv_iconst (v := (0 : Int32)) C.1.1 C.1.2.1 dL_county_15 rfl ?_
    exact retw C hr hlk hw rfl rfl rfl (Nat.le_of_ble_eq_true rfl) (Nat.le_of_ble_eq_true rfl) dL_county_16
def f_L_law (X : TX) (L : TL) (x1 : Int32) : Option (TX × TL × Int32) := (f_X8_law X x1).bind fun q => wrp q L none (some (1 : Int32))
set_option maxRecDepth 20000 in
set_option maxHeartbeats 2000000 in
theorem c_L_law {G : GP} {l : Launch} (hst : l.stackTraces = false) (hnL : 41 + 27 < gN G) {X M : TX} {L : TL} {x1 : Int32} {ro : TX × TL × Int32} (hf : f_L_law X L x1 = some ro) : CWi G l yL_law cL_law 4 [(0, 9, 12, 13)] 93 2514 1 [.ref (gA G 0), .int x1, .ref (gA G (41 + 27))] X M L ro := by
  unfold f_L_law at hf
  obtain ⟨q, h5, hf⟩ := o_bind hf
  refine cw_of (by decide +kernel) (Nat.le_of_ble_eq_true rfl) (tab := [⟨0, 9, 12, 13⟩]) rfl (fun p e s m args below meth c H locs ls C hr hlk htab hw hl => ?_)
  have C : Cx G p s m args c cL_law 4 RL := C
  have hl : lv_has ls 4 [(0, .ref (gA G 0)), (1, .int x1), (2, .ref (gA G (41 + 27)))] := hl
  refine lv_aload_n C.1.1 C.1.2.1 dL_law_0 rfl (lv_at hl 2 rfl) ?_
  refine lv_iconst (v := (0 : Int32)) C.1.1 C.1.2.1 dL_law_1 rfl ?_
  refine lv_aload_n C.1.1 C.1.2.1 dL_law_2 rfl (lv_at hl 0 rfl) ?_
  refine lv_iload_n C.1.1 C.1.2.1 dL_law_3 rfl (lv_at hl 1 rfl) ?_
  refine vx_calli (runx_VX C hw clL_15 (tb3 181 rfl rfl) (As := [.int x1]) (rest := [.int (0 : Int32), .ref (gA G (41 + 27))]) oX_0 (c_X8_law hst h5) rfl hl.1 rfl ⟨Nat.le_of_ble_eq_true rfl, Nat.le_of_ble_eq_true rfl⟩ ⟨Nat.le_of_ble_eq_true rfl, Nat.le_of_ble_eq_true rfl⟩ rfl (Nat.le_of_ble_eq_true rfl) dL_law_4) hw.2 (fun _ _ h => h) (fun _ h => h) (fun _ _ h => h) (fun E ce q9 u t H1 locs1 ht hvm _ hB _ _ hS hce hcv hcls => ?_) (fun r u t H1 locs1 ht _ hp hB _ _ hS => ?_)
  · obtain ⟨⟨k, e1, e2⟩, hP⟩ := hB
    obtain ⟨z1, z2, z3⟩ := wrp_r hf e1
    have hw1 : Wh G s q.1 M L H1 locs1 := ⟨by rw [← ht]; exact hP, hS⟩
    subst e2
    by_cases hk : k = 0
    · subst hk
      have z1 := (if_pos rfl).symm.trans z1
      cases z1
    · have z1 := (if_neg hk).symm.trans z1
      rw [exn_s hk] at hcls
      refine x_catchI C htab rfl hce hcv hcls ?_
      refine lv_astore_n (lv' := [(3, .ref q9), (0, .ref (gA G 0)), (1, .int x1), (2, .ref (gA G (41 + 27)))]) C.1.1 C.1.2.1 dL_law_12 rfl hl (by decide) rfl (fun ls hl => ?_)
      refine lv_iconst (v := (1 : Int32)) C.1.1 C.1.2.1 dL_law_13 rfl ?_
      exact retw C hr hlk hw1 z2 z3 (Option.some.inj z1).symm (Nat.le_of_ble_eq_true rfl) (Nat.le_of_ble_eq_true rfl) dL_law_14
  · have hro := wrp_l hf hp
    subst hro
    have hw1 : Wh G s q.1 M L H1 locs1 := ⟨by rw [← ht]; exact hB.2, hS⟩
    refine lv_i2l (v := r.toInt64) C.1.1 C.1.2.1 dL_law_7 rfl ?_
    refine l_ast C hw1 lM_27 hnL (inb_in (by decide)) dL_law_8 (fun H locs hw => ?_)
    refine lv_goto (tgt := 15) C.1.1 C.1.2.1 dL_law_9 (by decide) ?_
    refine lv_iconst (v := (0 : Int32)) C.1.1 C.1.2.1 dL_law_15 rfl ?_
    exact retw C hr hlk hw rfl rfl rfl (Nat.le_of_ble_eq_true rfl) (Nat.le_of_ble_eq_true rfl) dL_law_16
def f_L_work (X : TX) (L : TL) (x1 : Int32) : Option (TX × TL × Int32) := (f_X8_work X x1).bind fun q => wrp q L none (some (1 : Int32))
set_option maxRecDepth 20000 in
set_option maxHeartbeats 2000000 in
theorem c_L_work {G : GP} {l : Launch} (hst : l.stackTraces = false) (hnL : 41 + 27 < gN G) {X M : TX} {L : TL} {x1 : Int32} {ro : TX × TL × Int32} (hf : f_L_work X L x1 = some ro) : CWi G l yL_work cL_work 4 [(0, 9, 12, 13)] 74 2079 1 [.ref (gA G 0), .int x1, .ref (gA G (41 + 27))] X M L ro := by
  unfold f_L_work at hf
  obtain ⟨q, h5, hf⟩ := o_bind hf
  refine cw_of (by decide +kernel) (Nat.le_of_ble_eq_true rfl) (tab := [⟨0, 9, 12, 13⟩]) rfl (fun p e s m args below meth c H locs ls C hr hlk htab hw hl => ?_)
  have C : Cx G p s m args c cL_work 4 RL := C
  have hl : lv_has ls 4 [(0, .ref (gA G 0)), (1, .int x1), (2, .ref (gA G (41 + 27)))] := hl
  refine lv_aload_n C.1.1 C.1.2.1 dL_work_0 rfl (lv_at hl 2 rfl) ?_
  refine lv_iconst (v := (0 : Int32)) C.1.1 C.1.2.1 dL_work_1 rfl ?_
  refine lv_aload_n C.1.1 C.1.2.1 dL_work_2 rfl (lv_at hl 0 rfl) ?_
  refine lv_iload_n C.1.1 C.1.2.1 dL_work_3 rfl (lv_at hl 1 rfl) ?_
  refine vx_calli (runx_VX C hw clL_18 (tb3 234 rfl rfl) (As := [.int x1]) (rest := [.int (0 : Int32), .ref (gA G (41 + 27))]) oX_0 (c_X8_work hst h5) rfl hl.1 rfl ⟨Nat.le_of_ble_eq_true rfl, Nat.le_of_ble_eq_true rfl⟩ ⟨Nat.le_of_ble_eq_true rfl, Nat.le_of_ble_eq_true rfl⟩ rfl (Nat.le_of_ble_eq_true rfl) dL_work_4) hw.2 (fun _ _ h => h) (fun _ h => h) (fun _ _ h => h) (fun E ce q9 u t H1 locs1 ht hvm _ hB _ _ hS hce hcv hcls => ?_) (fun r u t H1 locs1 ht _ hp hB _ _ hS => ?_)
  · obtain ⟨⟨k, e1, e2⟩, hP⟩ := hB
    obtain ⟨z1, z2, z3⟩ := wrp_r hf e1
    have hw1 : Wh G s q.1 M L H1 locs1 := ⟨by rw [← ht]; exact hP, hS⟩
    subst e2
    by_cases hk : k = 0
    · subst hk
      have z1 := (if_pos rfl).symm.trans z1
      cases z1
    · have z1 := (if_neg hk).symm.trans z1
      rw [exn_s hk] at hcls
      refine x_catchI C htab rfl hce hcv hcls ?_
      refine lv_astore_n (lv' := [(3, .ref q9), (0, .ref (gA G 0)), (1, .int x1), (2, .ref (gA G (41 + 27)))]) C.1.1 C.1.2.1 dL_work_12 rfl hl (by decide) rfl (fun ls hl => ?_)
      refine lv_iconst (v := (1 : Int32)) C.1.1 C.1.2.1 dL_work_13 rfl ?_
      exact retw C hr hlk hw1 z2 z3 (Option.some.inj z1).symm (Nat.le_of_ble_eq_true rfl) (Nat.le_of_ble_eq_true rfl) dL_work_14
  · have hro := wrp_l hf hp
    subst hro
    have hw1 : Wh G s q.1 M L H1 locs1 := ⟨by rw [← ht]; exact hB.2, hS⟩
    refine lv_i2l (v := r.toInt64) C.1.1 C.1.2.1 dL_work_7 rfl ?_
    refine l_ast C hw1 lM_27 hnL (inb_in (by decide)) dL_work_8 (fun H locs hw => ?_)
    refine lv_goto (tgt := 15) C.1.1 C.1.2.1 dL_work_9 (by decide) ?_
    refine lv_iconst (v := (0 : Int32)) C.1.1 C.1.2.1 dL_work_15 rfl ?_
    exact retw C hr hlk hw rfl rfl rfl (Nat.le_of_ble_eq_true rfl) (Nat.le_of_ble_eq_true rfl) dL_work_16
def f_L_book (X : TX) (L : TL) (x1 : Int32) : Option (TX × TL × Int32) := (f_X8_book X x1).bind fun q => wrp q L none (some (1 : Int32))
set_option maxRecDepth 20000 in
set_option maxHeartbeats 2000000 in
theorem c_L_book {G : GP} {l : Launch} (hst : l.stackTraces = false) (hnL : 41 + 27 < gN G) {X M : TX} {L : TL} {x1 : Int32} {ro : TX × TL × Int32} (hf : f_L_book X L x1 = some ro) : CWi G l yL_book cL_book 4 [(0, 9, 12, 13)] 9 184 1 [.ref (gA G 0), .int x1, .ref (gA G (41 + 27))] X M L ro := by
  unfold f_L_book at hf
  obtain ⟨q, h5, hf⟩ := o_bind hf
  refine cw_of (by decide +kernel) (Nat.le_of_ble_eq_true rfl) (tab := [⟨0, 9, 12, 13⟩]) rfl (fun p e s m args below meth c H locs ls C hr hlk htab hw hl => ?_)
  have C : Cx G p s m args c cL_book 4 RL := C
  have hl : lv_has ls 4 [(0, .ref (gA G 0)), (1, .int x1), (2, .ref (gA G (41 + 27)))] := hl
  refine lv_aload_n C.1.1 C.1.2.1 dL_book_0 rfl (lv_at hl 2 rfl) ?_
  refine lv_iconst (v := (0 : Int32)) C.1.1 C.1.2.1 dL_book_1 rfl ?_
  refine lv_aload_n C.1.1 C.1.2.1 dL_book_2 rfl (lv_at hl 0 rfl) ?_
  refine lv_iload_n C.1.1 C.1.2.1 dL_book_3 rfl (lv_at hl 1 rfl) ?_
  refine vx_calli (runx_VX C hw clL_21 (tb4 164 rfl rfl) (As := [.int x1]) (rest := [.int (0 : Int32), .ref (gA G (41 + 27))]) oX_0 (c_X8_book hst h5) rfl hl.1 rfl ⟨Nat.le_of_ble_eq_true rfl, Nat.le_of_ble_eq_true rfl⟩ ⟨Nat.le_of_ble_eq_true rfl, Nat.le_of_ble_eq_true rfl⟩ rfl (Nat.le_of_ble_eq_true rfl) dL_book_4) hw.2 (fun _ _ h => h) (fun _ h => h) (fun _ _ h => h) (fun E ce q9 u t H1 locs1 ht hvm _ hB _ _ hS hce hcv hcls => ?_) (fun r u t H1 locs1 ht _ hp hB _ _ hS => ?_)
  · obtain ⟨⟨k, e1, e2⟩, hP⟩ := hB
    obtain ⟨z1, z2, z3⟩ := wrp_r hf e1
    have hw1 : Wh G s q.1 M L H1 locs1 := ⟨by rw [← ht]; exact hP, hS⟩
    subst e2
    by_cases hk : k = 0
    · subst hk
      have z1 := (if_pos rfl).symm.trans z1
      cases z1
    · have z1 := (if_neg hk).symm.trans z1
      rw [exn_s hk] at hcls
      refine x_catchI C htab rfl hce hcv hcls ?_
      refine lv_astore_n (lv' := [(3, .ref q9), (0, .ref (gA G 0)), (1, .int x1), (2, .ref (gA G (41 + 27)))]) C.1.1 C.1.2.1 dL_book_12 rfl hl (by decide) rfl (fun ls hl => ?_)
      refine lv_iconst (v := (1 : Int32)) C.1.1 C.1.2.1 dL_book_13 rfl ?_
      exact retw C hr hlk hw1 z2 z3 (Option.some.inj z1).symm (Nat.le_of_ble_eq_true rfl) (Nat.le_of_ble_eq_true rfl) dL_book_14
  · have hro := wrp_l hf hp
    subst hro
    have hw1 : Wh G s q.1 M L H1 locs1 := ⟨by rw [← ht]; exact hB.2, hS⟩
    refine lv_i2l (v := r.toInt64) C.1.1 C.1.2.1 dL_book_7 rfl ?_
    refine l_ast C hw1 lM_27 hnL (inb_in (by decide)) dL_book_8 (fun H locs hw => ?_)
    refine lv_goto (tgt := 15) C.1.1 C.1.2.1 dL_book_9 (by decide) ?_
    refine lv_iconst (v := (0 : Int32)) C.1.1 C.1.2.1 dL_book_15 rfl ?_
    exact retw C hr hlk hw rfl rfl rfl (Nat.le_of_ble_eq_true rfl) (Nat.le_of_ble_eq_true rfl) dL_book_16
def f_L_told (X : TX) (L : TL) (x1 : Int32) : Option (TX × TL × Int32) := (f_X8_told X x1).bind fun q => wrp q L none (some (1 : Int32))
set_option maxRecDepth 20000 in
set_option maxHeartbeats 2000000 in
theorem c_L_told {G : GP} {l : Launch} (hst : l.stackTraces = false) (hnL : 41 + 27 < gN G) {X M : TX} {L : TL} {x1 : Int32} {ro : TX × TL × Int32} (hf : f_L_told X L x1 = some ro) : CWi G l yL_told cL_told 4 [(0, 9, 12, 13)] 8 162 1 [.ref (gA G 0), .int x1, .ref (gA G (41 + 27))] X M L ro := by
  unfold f_L_told at hf
  obtain ⟨q, h5, hf⟩ := o_bind hf
  refine cw_of (by decide +kernel) (Nat.le_of_ble_eq_true rfl) (tab := [⟨0, 9, 12, 13⟩]) rfl (fun p e s m args below meth c H locs ls C hr hlk htab hw hl => ?_)
  have C : Cx G p s m args c cL_told 4 RL := C
  have hl : lv_has ls 4 [(0, .ref (gA G 0)), (1, .int x1), (2, .ref (gA G (41 + 27)))] := hl
  refine lv_aload_n C.1.1 C.1.2.1 dL_told_0 rfl (lv_at hl 2 rfl) ?_
  refine lv_iconst (v := (0 : Int32)) C.1.1 C.1.2.1 dL_told_1 rfl ?_
  refine lv_aload_n C.1.1 C.1.2.1 dL_told_2 rfl (lv_at hl 0 rfl) ?_
  refine lv_iload_n C.1.1 C.1.2.1 dL_told_3 rfl (lv_at hl 1 rfl) ?_
  refine vx_calli (runx_VX C hw clL_24 (tb4 199 rfl rfl) (As := [.int x1]) (rest := [.int (0 : Int32), .ref (gA G (41 + 27))]) oX_0 (c_X8_told hst h5) rfl hl.1 rfl ⟨Nat.le_of_ble_eq_true rfl, Nat.le_of_ble_eq_true rfl⟩ ⟨Nat.le_of_ble_eq_true rfl, Nat.le_of_ble_eq_true rfl⟩ rfl (Nat.le_of_ble_eq_true rfl) dL_told_4) hw.2 (fun _ _ h => h) (fun _ h => h) (fun _ _ h => h) (fun E ce q9 u t H1 locs1 ht hvm _ hB _ _ hS hce hcv hcls => ?_) (fun r u t H1 locs1 ht _ hp hB _ _ hS => ?_)
  · obtain ⟨⟨k, e1, e2⟩, hP⟩ := hB
    obtain ⟨z1, z2, z3⟩ := wrp_r hf e1
    have hw1 : Wh G s q.1 M L H1 locs1 := ⟨by rw [← ht]; exact hP, hS⟩
    subst e2
    by_cases hk : k = 0
    · subst hk
      have z1 := (if_pos rfl).symm.trans z1
      cases z1
    · have z1 := (if_neg hk).symm.trans z1
      rw [exn_s hk] at hcls
      refine x_catchI C htab rfl hce hcv hcls ?_
      refine lv_astore_n (lv' := [(3, .ref q9), (0, .ref (gA G 0)), (1, .int x1), (2, .ref (gA G (41 + 27)))]) C.1.1 C.1.2.1 dL_told_12 rfl hl (by decide) rfl (fun ls hl => ?_)
      refine lv_iconst (v := (1 : Int32)) C.1.1 C.1.2.1 dL_told_13 rfl ?_
      exact retw C hr hlk hw1 z2 z3 (Option.some.inj z1).symm (Nat.le_of_ble_eq_true rfl) (Nat.le_of_ble_eq_true rfl) dL_told_14
  · have hro := wrp_l hf hp
    subst hro
    have hw1 : Wh G s q.1 M L H1 locs1 := ⟨by rw [← ht]; exact hB.2, hS⟩
    refine lv_i2l (v := r.toInt64) C.1.1 C.1.2.1 dL_told_7 rfl ?_
    refine l_ast C hw1 lM_27 hnL (inb_in (by decide)) dL_told_8 (fun H locs hw => ?_)
    refine lv_goto (tgt := 15) C.1.1 C.1.2.1 dL_told_9 (by decide) ?_
    refine lv_iconst (v := (0 : Int32)) C.1.1 C.1.2.1 dL_told_15 rfl ?_
    exact retw C hr hlk hw rfl rfl rfl (Nat.le_of_ble_eq_true rfl) (Nat.le_of_ble_eq_true rfl) dL_told_16
def f_L_parish (X : TX) (L : TL) (x1 : Int32) (x2 : Int32) : Option (TX × TL × Int32) := (f_X8_parish X x1 x2).bind fun q => wrp q L (some (1 : Int32)) (some (2 : Int32))
set_option maxRecDepth 20000 in
set_option maxHeartbeats 2000000 in
theorem c_L_parish {G : GP} {l : Launch} (hst : l.stackTraces = false) (hnL : 41 + 27 < gN G) {X M : TX} {L : TL} {x1 : Int32} {x2 : Int32} {ro : TX × TL × Int32} (hf : f_L_parish X L x1 x2 = some ro) : CWi G l yL_parish cL_parish 5 [(0, 10, 13, 31), (0, 10, 17, 13)] 9 184 2 [.ref (gA G 0), .int x1, .int x2, .ref (gA G (41 + 27))] X M L ro := by
  unfold f_L_parish at hf
  obtain ⟨q, h5, hf⟩ := o_bind hf
  refine cw_of (by decide +kernel) (Nat.le_of_ble_eq_true rfl) (tab := [⟨0, 10, 13, 31⟩, ⟨0, 10, 17, 13⟩]) rfl (fun p e s m args below meth c H locs ls C hr hlk htab hw hl => ?_)
  have C : Cx G p s m args c cL_parish 5 RL := C
  have hl : lv_has ls 5 [(0, .ref (gA G 0)), (1, .int x1), (2, .int x2), (3, .ref (gA G (41 + 27)))] := hl
  refine lv_aload_n C.1.1 C.1.2.1 dL_parish_0 rfl (lv_at hl 3 rfl) ?_
  refine lv_iconst (v := (0 : Int32)) C.1.1 C.1.2.1 dL_parish_1 rfl ?_
  refine lv_aload_n C.1.1 C.1.2.1 dL_parish_2 rfl (lv_at hl 0 rfl) ?_
  refine lv_iload_n C.1.1 C.1.2.1 dL_parish_3 rfl (lv_at hl 1 rfl) ?_
  refine lv_iload_n C.1.1 C.1.2.1 dL_parish_4 rfl (lv_at hl 2 rfl) ?_
  refine vx_calli (runx_VX C hw clL_27 (tb4 222 rfl rfl) (As := [.int x1, .int x2]) (rest := [.int (0 : Int32), .ref (gA G (41 + 27))]) oX_0 (c_X8_parish hst h5) rfl hl.1 rfl ⟨Nat.le_of_ble_eq_true rfl, Nat.le_of_ble_eq_true rfl⟩ ⟨Nat.le_of_ble_eq_true rfl, Nat.le_of_ble_eq_true rfl⟩ rfl (Nat.le_of_ble_eq_true rfl) dL_parish_5) hw.2 (fun _ _ h => h) (fun _ h => h) (fun _ _ h => h) (fun E ce q9 u t H1 locs1 ht hvm _ hB _ _ hS hce hcv hcls => ?_) (fun r u t H1 locs1 ht _ hp hB _ _ hS => ?_)
  · obtain ⟨⟨k, e1, e2⟩, hP⟩ := hB
    obtain ⟨z1, z2, z3⟩ := wrp_r hf e1
    have hw1 : Wh G s q.1 M L H1 locs1 := ⟨by rw [← ht]; exact hP, hS⟩
    subst e2
    by_cases hk : k = 0
    · subst hk
      have z1 := (if_pos rfl).symm.trans z1
      refine x_catchN C htab rfl hce hcv hcls ?_
      refine lv_astore (lv' := [(4, .ref q9), (0, .ref (gA G 0)), (1, .int x1), (2, .int x2), (3, .ref (gA G (41 + 27)))]) C.1.1 C.1.2.1 dL_parish_13 hl (by decide) rfl (fun ls hl => ?_)
      refine lv_iconst (v := (1 : Int32)) C.1.1 C.1.2.1 dL_parish_15 rfl ?_
      exact retw C hr hlk hw1 z2 z3 (Option.some.inj z1).symm (Nat.le_of_ble_eq_true rfl) (Nat.le_of_ble_eq_true rfl) dL_parish_16
    · have z1 := (if_neg hk).symm.trans z1
      rw [exn_s hk] at hcls
      refine x_catchI2 C htab rfl hce hcv hcls ?_
      refine lv_astore (lv' := [(4, .ref q9), (0, .ref (gA G 0)), (1, .int x1), (2, .int x2), (3, .ref (gA G (41 + 27)))]) C.1.1 C.1.2.1 dL_parish_17 hl (by decide) rfl (fun ls hl => ?_)
      refine lv_iconst (v := (2 : Int32)) C.1.1 C.1.2.1 dL_parish_19 rfl ?_
      exact retw C hr hlk hw1 z2 z3 (Option.some.inj z1).symm (Nat.le_of_ble_eq_true rfl) (Nat.le_of_ble_eq_true rfl) dL_parish_20
  · have hro := wrp_l hf hp
    subst hro
    have hw1 : Wh G s q.1 M L H1 locs1 := ⟨by rw [← ht]; exact hB.2, hS⟩
    refine lv_i2l (v := r.toInt64) C.1.1 C.1.2.1 dL_parish_8 rfl ?_
    refine l_ast C hw1 lM_27 hnL (inb_in (by decide)) dL_parish_9 (fun H locs hw => ?_)
    refine lv_goto (tgt := 21) C.1.1 C.1.2.1 dL_parish_10 (by decide) ?_
    refine lv_iconst (v := (0 : Int32)) C.1.1 C.1.2.1 dL_parish_21 rfl ?_
    exact retw C hr hlk hw rfl rfl rfl (Nat.le_of_ble_eq_true rfl) (Nat.le_of_ble_eq_true rfl) dL_parish_22
def f_L_ward (X : TX) (L : TL) (x1 : Int32) (x2 : Int32) : Option (TX × TL × Int32) := (f_X8_ward X x1 x2).bind fun q => wrp q L (some (1 : Int32)) (some (2 : Int32))
set_option maxRecDepth 20000 in
set_option maxHeartbeats 2000000 in
theorem c_L_ward {G : GP} {l : Launch} (hst : l.stackTraces = false) (hnL : 41 + 27 < gN G) {X M : TX} {L : TL} {x1 : Int32} {x2 : Int32} {ro : TX × TL × Int32} (hf : f_L_ward X L x1 x2 = some ro) : CWi G l yL_ward cL_ward 5 [(0, 10, 13, 31), (0, 10, 17, 13)] 9 184 2 [.ref (gA G 0), .int x1, .int x2, .ref (gA G (41 + 27))] X M L ro := by
  unfold f_L_ward at hf
  obtain ⟨q, h5, hf⟩ := o_bind hf
  refine cw_of (by decide +kernel) (Nat.le_of_ble_eq_true rfl) (tab := [⟨0, 10, 13, 31⟩, ⟨0, 10, 17, 13⟩]) rfl (fun p e s m args below meth c H locs ls C hr hlk htab hw hl => ?_)
  have C : Cx G p s m args c cL_ward 5 RL := C
  have hl : lv_has ls 5 [(0, .ref (gA G 0)), (1, .int x1), (2, .int x2), (3, .ref (gA G (41 + 27)))] := hl
  refine lv_aload_n C.1.1 C.1.2.1 dL_ward_0 rfl (lv_at hl 3 rfl) ?_
  refine lv_iconst (v := (0 : Int32)) C.1.1 C.1.2.1 dL_ward_1 rfl ?_
  refine lv_aload_n C.1.1 C.1.2.1 dL_ward_2 rfl (lv_at hl 0 rfl) ?_
  refine lv_iload_n C.1.1 C.1.2.1 dL_ward_3 rfl (lv_at hl 1 rfl) ?_
  refine lv_iload_n C.1.1 C.1.2.1 dL_ward_4 rfl (lv_at hl 2 rfl) ?_
  refine vx_calli (runx_VX C hw clL_33 (tb5 15 rfl rfl) (As := [.int x1, .int x2]) (rest := [.int (0 : Int32), .ref (gA G (41 + 27))]) oX_0 (c_X8_ward hst h5) rfl hl.1 rfl ⟨Nat.le_of_ble_eq_true rfl, Nat.le_of_ble_eq_true rfl⟩ ⟨Nat.le_of_ble_eq_true rfl, Nat.le_of_ble_eq_true rfl⟩ rfl (Nat.le_of_ble_eq_true rfl) dL_ward_5) hw.2 (fun _ _ h => h) (fun _ h => h) (fun _ _ h => h) (fun E ce q9 u t H1 locs1 ht hvm _ hB _ _ hS hce hcv hcls => ?_) (fun r u t H1 locs1 ht _ hp hB _ _ hS => ?_)
  · obtain ⟨⟨k, e1, e2⟩, hP⟩ := hB
    obtain ⟨z1, z2, z3⟩ := wrp_r hf e1
    have hw1 : Wh G s q.1 M L H1 locs1 := ⟨by rw [← ht]; exact hP, hS⟩
    subst e2
    by_cases hk : k = 0
    · subst hk
      have z1 := (if_pos rfl).symm.trans z1
      refine x_catchN C htab rfl hce hcv hcls ?_
      refine lv_astore (lv' := [(4, .ref q9), (0, .ref (gA G 0)), (1, .int x1), (2, .int x2), (3, .ref (gA G (41 + 27)))]) C.1.1 C.1.2.1 dL_ward_13 hl (by decide) rfl (fun ls hl => ?_)
      refine lv_iconst (v := (1 : Int32)) C.1.1 C.1.2.1 dL_ward_15 rfl ?_
      exact retw C hr hlk hw1 z2 z3 (Option.some.inj z1).symm (Nat.le_of_ble_eq_true rfl) (Nat.le_of_ble_eq_true rfl) dL_ward_16
    · have z1 := (if_neg hk).symm.trans z1
      rw [exn_s hk] at hcls
      refine x_catchI2 C htab rfl hce hcv hcls ?_
      refine lv_astore (lv' := [(4, .ref q9), (0, .ref (gA G 0)), (1, .int x1), (2, .int x2), (3, .ref (gA G (41 + 27)))]) C.1.1 C.1.2.1 dL_ward_17 hl (by decide) rfl (fun ls hl => ?_)
      refine lv_iconst (v := (2 : Int32)) C.1.1 C.1.2.1 dL_ward_19 rfl ?_
      exact retw C hr hlk hw1 z2 z3 (Option.some.inj z1).symm (Nat.le_of_ble_eq_true rfl) (Nat.le_of_ble_eq_true rfl) dL_ward_20
  · have hro := wrp_l hf hp
    subst hro
    have hw1 : Wh G s q.1 M L H1 locs1 := ⟨by rw [← ht]; exact hB.2, hS⟩
    refine lv_i2l (v := r.toInt64) C.1.1 C.1.2.1 dL_ward_8 rfl ?_
    refine l_ast C hw1 lM_27 hnL (inb_in (by decide)) dL_ward_9 (fun H locs hw => ?_)
    refine lv_goto (tgt := 21) C.1.1 C.1.2.1 dL_ward_10 (by decide) ?_
    refine lv_iconst (v := (0 : Int32)) C.1.1 C.1.2.1 dL_ward_21 rfl ?_
    exact retw C hr hlk hw rfl rfl rfl (Nat.le_of_ble_eq_true rfl) (Nat.le_of_ble_eq_true rfl) dL_ward_22
def f_L_side (X : TX) (L : TL) (x1 : Int32) (x2 : Int32) : Option (TX × TL × Int32) := (f_X8_side X x1 x2).bind fun q => wrp q L (some (1 : Int32)) (some (2 : Int32))
set_option maxRecDepth 20000 in
set_option maxHeartbeats 2000000 in
theorem c_L_side {G : GP} {l : Launch} (hst : l.stackTraces = false) (hnL : 41 + 27 < gN G) {X M : TX} {L : TL} {x1 : Int32} {x2 : Int32} {ro : TX × TL × Int32} (hf : f_L_side X L x1 x2 = some ro) : CWi G l yL_side cL_side 5 [(0, 10, 13, 31), (0, 10, 17, 13)] 9 184 2 [.ref (gA G 0), .int x1, .int x2, .ref (gA G (41 + 27))] X M L ro := by
  unfold f_L_side at hf
  obtain ⟨q, h5, hf⟩ := o_bind hf
  refine cw_of (by decide +kernel) (Nat.le_of_ble_eq_true rfl) (tab := [⟨0, 10, 13, 31⟩, ⟨0, 10, 17, 13⟩]) rfl (fun p e s m args below meth c H locs ls C hr hlk htab hw hl => ?_)
  have C : Cx G p s m args c cL_side 5 RL := C
  have hl : lv_has ls 5 [(0, .ref (gA G 0)), (1, .int x1), (2, .int x2), (3, .ref (gA G (41 + 27)))] := hl
  refine lv_aload_n C.1.1 C.1.2.1 dL_side_0 rfl (lv_at hl 3 rfl) ?_
  refine lv_iconst (v := (0 : Int32)) C.1.1 C.1.2.1 dL_side_1 rfl ?_
  refine lv_aload_n C.1.1 C.1.2.1 dL_side_2 rfl (lv_at hl 0 rfl) ?_
  refine lv_iload_n C.1.1 C.1.2.1 dL_side_3 rfl (lv_at hl 1 rfl) ?_
  refine lv_iload_n C.1.1 C.1.2.1 dL_side_4 rfl (lv_at hl 2 rfl) ?_
  refine vx_calli (runx_VX C hw clL_36 (tb5 39 rfl rfl) (As := [.int x1, .int x2]) (rest := [.int (0 : Int32), .ref (gA G (41 + 27))]) oX_0 (c_X8_side hst h5) rfl hl.1 rfl ⟨Nat.le_of_ble_eq_true rfl, Nat.le_of_ble_eq_true rfl⟩ ⟨Nat.le_of_ble_eq_true rfl, Nat.le_of_ble_eq_true rfl⟩ rfl (Nat.le_of_ble_eq_true rfl) dL_side_5) hw.2 (fun _ _ h => h) (fun _ h => h) (fun _ _ h => h) (fun E ce q9 u t H1 locs1 ht hvm _ hB _ _ hS hce hcv hcls => ?_) (fun r u t H1 locs1 ht _ hp hB _ _ hS => ?_)
  · obtain ⟨⟨k, e1, e2⟩, hP⟩ := hB
    obtain ⟨z1, z2, z3⟩ := wrp_r hf e1
    have hw1 : Wh G s q.1 M L H1 locs1 := ⟨by rw [← ht]; exact hP, hS⟩
    subst e2
    by_cases hk : k = 0
    · subst hk
      have z1 := (if_pos rfl).symm.trans z1
      refine x_catchN C htab rfl hce hcv hcls ?_
      refine lv_astore (lv' := [(4, .ref q9), (0, .ref (gA G 0)), (1, .int x1), (2, .int x2), (3, .ref (gA G (41 + 27)))]) C.1.1 C.1.2.1 dL_side_13 hl (by decide) rfl (fun ls hl => ?_)
      refine lv_iconst (v := (1 : Int32)) C.1.1 C.1.2.1 dL_side_15 rfl ?_
      exact retw C hr hlk hw1 z2 z3 (Option.some.inj z1).symm (Nat.le_of_ble_eq_true rfl) (Nat.le_of_ble_eq_true rfl) dL_side_16
    · have z1 := (if_neg hk).symm.trans z1
      rw [exn_s hk] at hcls
      refine x_catchI2 C htab rfl hce hcv hcls ?_
      refine lv_astore (lv' := [(4, .ref q9), (0, .ref (gA G 0)), (1, .int x1), (2, .int x2), (3, .ref (gA G (41 + 27)))]) C.1.1 C.1.2.1 dL_side_17 hl (by decide) rfl (fun ls hl => ?_)
      refine lv_iconst (v := (2 : Int32)) C.1.1 C.1.2.1 dL_side_19 rfl ?_
      exact retw C hr hlk hw1 z2 z3 (Option.some.inj z1).symm (Nat.le_of_ble_eq_true rfl) (Nat.le_of_ble_eq_true rfl) dL_side_20
  · have hro := wrp_l hf hp
    subst hro
    have hw1 : Wh G s q.1 M L H1 locs1 := ⟨by rw [← ht]; exact hB.2, hS⟩
    refine lv_i2l (v := r.toInt64) C.1.1 C.1.2.1 dL_side_8 rfl ?_
    refine l_ast C hw1 lM_27 hnL (inb_in (by decide)) dL_side_9 (fun H locs hw => ?_)
    refine lv_goto (tgt := 21) C.1.1 C.1.2.1 dL_side_10 (by decide) ?_
    refine lv_iconst (v := (0 : Int32)) C.1.1 C.1.2.1 dL_side_21 rfl ?_
    exact retw C hr hlk hw rfl rfl rfl (Nat.le_of_ble_eq_true rfl) (Nat.le_of_ble_eq_true rfl) dL_side_22
def f_L_cost (X : TX) (L : TL) (x1 : Int32) (x2 : Int32) : Option (TX × TL × Int32) := (f_X8_cost X x1 x2).bind fun q => wrp q L (some (1 : Int32)) none
set_option maxRecDepth 20000 in
set_option maxHeartbeats 2000000 in
theorem c_L_cost {G : GP} {l : Launch} (hst : l.stackTraces = false) (hnL : 41 + 27 < gN G) {X M : TX} {L : TL} {x1 : Int32} {x2 : Int32} {ro : TX × TL × Int32} (hf : f_L_cost X L x1 x2 = some ro) : CWi G l yL_cost cL_cost 5 [(0, 10, 13, 31)] 9 184 2 [.ref (gA G 0), .int x1, .int x2, .ref (gA G (41 + 27))] X M L ro := by
  unfold f_L_cost at hf
  obtain ⟨q, h5, hf⟩ := o_bind hf
  refine cw_of (by decide +kernel) (Nat.le_of_ble_eq_true rfl) (tab := [⟨0, 10, 13, 31⟩]) rfl (fun p e s m args below meth c H locs ls C hr hlk htab hw hl => ?_)
  have C : Cx G p s m args c cL_cost 5 RL := C
  have hl : lv_has ls 5 [(0, .ref (gA G 0)), (1, .int x1), (2, .int x2), (3, .ref (gA G (41 + 27)))] := hl
  refine lv_aload_n C.1.1 C.1.2.1 dL_cost_0 rfl (lv_at hl 3 rfl) ?_
  refine lv_iconst (v := (0 : Int32)) C.1.1 C.1.2.1 dL_cost_1 rfl ?_
  refine lv_aload_n C.1.1 C.1.2.1 dL_cost_2 rfl (lv_at hl 0 rfl) ?_
  refine lv_iload_n C.1.1 C.1.2.1 dL_cost_3 rfl (lv_at hl 1 rfl) ?_
  refine lv_iload_n C.1.1 C.1.2.1 dL_cost_4 rfl (lv_at hl 2 rfl) ?_
  refine vx_calli (runx_VX C hw clL_39 (tb5 56 rfl rfl) (As := [.int x1, .int x2]) (rest := [.int (0 : Int32), .ref (gA G (41 + 27))]) oX_0 (c_X8_cost hst h5) rfl hl.1 rfl ⟨Nat.le_of_ble_eq_true rfl, Nat.le_of_ble_eq_true rfl⟩ ⟨Nat.le_of_ble_eq_true rfl, Nat.le_of_ble_eq_true rfl⟩ rfl (Nat.le_of_ble_eq_true rfl) dL_cost_5) hw.2 (fun _ _ h => h) (fun _ h => h) (fun _ _ h => h) (fun E ce q9 u t H1 locs1 ht hvm _ hB _ _ hS hce hcv hcls => ?_) (fun r u t H1 locs1 ht _ hp hB _ _ hS => ?_)
  · obtain ⟨⟨k, e1, e2⟩, hP⟩ := hB
    obtain ⟨z1, z2, z3⟩ := wrp_r hf e1
    have hw1 : Wh G s q.1 M L H1 locs1 := ⟨by rw [← ht]; exact hP, hS⟩
    subst e2
    by_cases hk : k = 0
    · subst hk
      have z1 := (if_pos rfl).symm.trans z1
      refine x_catchN C htab rfl hce hcv hcls ?_
      refine lv_astore (lv' := [(4, .ref q9), (0, .ref (gA G 0)), (1, .int x1), (2, .int x2), (3, .ref (gA G (41 + 27)))]) C.1.1 C.1.2.1 dL_cost_13 hl (by decide) rfl (fun ls hl => ?_)
      refine lv_iconst (v := (1 : Int32)) C.1.1 C.1.2.1 dL_cost_15 rfl ?_
      exact retw C hr hlk hw1 z2 z3 (Option.some.inj z1).symm (Nat.le_of_ble_eq_true rfl) (Nat.le_of_ble_eq_true rfl) dL_cost_16
    · have z1 := (if_neg hk).symm.trans z1
      cases z1
  · have hro := wrp_l hf hp
    subst hro
    have hw1 : Wh G s q.1 M L H1 locs1 := ⟨by rw [← ht]; exact hB.2, hS⟩
    refine lv_i2l (v := r.toInt64) C.1.1 C.1.2.1 dL_cost_8 rfl ?_
    refine l_ast C hw1 lM_27 hnL (inb_in (by decide)) dL_cost_9 (fun H locs hw => ?_)
    refine lv_goto (tgt := 17) C.1.1 C.1.2.1 dL_cost_10 (by decide) ?_
    refine lv_iconst (v := (0 : Int32)) C.1.1 C.1.2.1 dL_cost_17 rfl ?_
    exact retw C hr hlk hw rfl rfl rfl (Nat.le_of_ble_eq_true rfl) (Nat.le_of_ble_eq_true rfl) dL_cost_18
def f_L_would (X : TX) (L : TL) (x1 : Int32) (x2 : Int32) (x3 : Int32) (x4 : Int32) (x5 : Int32) (x6 : Int32) (x7 : Int32) (x8 : Int32) : Option (TX × TL × Int32) := (f_X8_would X x1 x2 x3 x4 x5 x6 x7 x8).bind fun q => wrp q L none (some (1 : Int32))
set_option maxRecDepth 20000 in
set_option maxHeartbeats 2000000 in
theorem c_L_would {G : GP} {l : Launch} (hst : l.stackTraces = false) (hnL : 41 + 27 < gN G) {X M : TX} {L : TL} {x1 : Int32} {x2 : Int32} {x3 : Int32} {x4 : Int32} {x5 : Int32} {x6 : Int32} {x7 : Int32} {x8 : Int32} {ro : TX × TL × Int32} (hf : f_L_would X L x1 x2 x3 x4 x5 x6 x7 x8 = some ro) : CWi G l yL_would cL_would 11 [(0, 22, 25, 13)] 8 169 4 [.ref (gA G 0), .int x1, .int x2, .int x3, .int x4, .int x5, .int x6, .int x7, .int x8, .ref (gA G (41 + 27))] X M L ro := by
  unfold f_L_would at hf
  obtain ⟨q, h5, hf⟩ := o_bind hf
  refine cw_of (by decide +kernel) (Nat.le_of_ble_eq_true rfl) (tab := [⟨0, 22, 25, 13⟩]) rfl (fun p e s m args below meth c H locs ls C hr hlk htab hw hl => ?_)
  have C : Cx G p s m args c cL_would 11 RL := C
  have hl : lv_has ls 11 [(0, .ref (gA G 0)), (1, .int x1), (2, .int x2), (3, .int x3), (4, .int x4), (5, .int x5), (6, .int x6), (7, .int x7), (8, .int x8), (9, .ref (gA G (41 + 27)))] := hl
  refine lv_aload C.1.1 C.1.2.1 dL_would_0 (lv_at hl 9 rfl) ?_
  refine lv_iconst (v := (0 : Int32)) C.1.1 C.1.2.1 dL_would_2 rfl ?_
  refine lv_aload_n C.1.1 C.1.2.1 dL_would_3 rfl (lv_at hl 0 rfl) ?_
  refine lv_iload_n C.1.1 C.1.2.1 dL_would_4 rfl (lv_at hl 1 rfl) ?_
  refine lv_iload_n C.1.1 C.1.2.1 dL_would_5 rfl (lv_at hl 2 rfl) ?_
  refine lv_iload_n C.1.1 C.1.2.1 dL_would_6 rfl (lv_at hl 3 rfl) ?_
  refine lv_iload C.1.1 C.1.2.1 dL_would_7 (lv_at hl 4 rfl) ?_
  refine lv_iload C.1.1 C.1.2.1 dL_would_9 (lv_at hl 5 rfl) ?_
  refine lv_iload C.1.1 C.1.2.1 dL_would_11 (lv_at hl 6 rfl) ?_
  refine lv_iload C.1.1 C.1.2.1 dL_would_13 (lv_at hl 7 rfl) ?_
  refine lv_iload C.1.1 C.1.2.1 dL_would_15 (lv_at hl 8 rfl) ?_
  refine vx_calli (runx_VX C hw clL_42 (tb5 64 rfl rfl) (As := [.int x1, .int x2, .int x3, .int x4, .int x5, .int x6, .int x7, .int x8]) (rest := [.int (0 : Int32), .ref (gA G (41 + 27))]) oX_0 (c_X8_would hst h5) rfl hl.1 rfl ⟨Nat.le_of_ble_eq_true rfl, Nat.le_of_ble_eq_true rfl⟩ ⟨Nat.le_of_ble_eq_true rfl, Nat.le_of_ble_eq_true rfl⟩ rfl (Nat.le_of_ble_eq_true rfl) dL_would_17) hw.2 (fun _ _ h => h) (fun _ h => h) (fun _ _ h => h) (fun E ce q9 u t H1 locs1 ht hvm _ hB _ _ hS hce hcv hcls => ?_) (fun r u t H1 locs1 ht _ hp hB _ _ hS => ?_)
  · obtain ⟨⟨k, e1, e2⟩, hP⟩ := hB
    obtain ⟨z1, z2, z3⟩ := wrp_r hf e1
    have hw1 : Wh G s q.1 M L H1 locs1 := ⟨by rw [← ht]; exact hP, hS⟩
    subst e2
    by_cases hk : k = 0
    · subst hk
      have z1 := (if_pos rfl).symm.trans z1
      cases z1
    · have z1 := (if_neg hk).symm.trans z1
      rw [exn_s hk] at hcls
      refine x_catchI C htab rfl hce hcv hcls ?_
      refine lv_astore (lv' := [(10, .ref q9), (0, .ref (gA G 0)), (1, .int x1), (2, .int x2), (3, .int x3), (4, .int x4), (5, .int x5), (6, .int x6), (7, .int x7), (8, .int x8), (9, .ref (gA G (41 + 27)))]) C.1.1 C.1.2.1 dL_would_25 hl (by decide) rfl (fun ls hl => ?_)
      refine lv_iconst (v := (1 : Int32)) C.1.1 C.1.2.1 dL_would_27 rfl ?_
      exact retw C hr hlk hw1 z2 z3 (Option.some.inj z1).symm (Nat.le_of_ble_eq_true rfl) (Nat.le_of_ble_eq_true rfl) dL_would_28
  · have hro := wrp_l hf hp
    subst hro
    have hw1 : Wh G s q.1 M L H1 locs1 := ⟨by rw [← ht]; exact hB.2, hS⟩
    refine lv_i2l (v := r.toInt64) C.1.1 C.1.2.1 dL_would_20 rfl ?_
    refine l_ast C hw1 lM_27 hnL (inb_in (by decide)) dL_would_21 (fun H locs hw => ?_)
    refine lv_goto (tgt := 29) C.1.1 C.1.2.1 dL_would_22 (by decide) ?_
    refine lv_iconst (v := (0 : Int32)) C.1.1 C.1.2.1 dL_would_29 rfl ?_
    exact retw C hr hlk hw rfl rfl rfl (Nat.le_of_ble_eq_true rfl) (Nat.le_of_ble_eq_true rfl) dL_would_30
def f_L_may (X : TX) (L : TL) (x1 : Int32) : Option (TX × TL × Int32) := (f_X8_may X x1).bind fun q => wrp q L (some (1 : Int32)) none
set_option maxRecDepth 20000 in
set_option maxHeartbeats 2000000 in
theorem c_L_may {G : GP} {l : Launch} (hst : l.stackTraces = false) (hnL : 41 + 27 < gN G) {X M : TX} {L : TL} {x1 : Int32} {ro : TX × TL × Int32} (hf : f_L_may X L x1 = some ro) : CWi G l yL_may cL_may 4 [(0, 9, 12, 31)] 9 183 1 [.ref (gA G 0), .int x1, .ref (gA G (41 + 27))] X M L ro := by
  unfold f_L_may at hf
  obtain ⟨q, h5, hf⟩ := o_bind hf
  refine cw_of (by decide +kernel) (Nat.le_of_ble_eq_true rfl) (tab := [⟨0, 9, 12, 31⟩]) rfl (fun p e s m args below meth c H locs ls C hr hlk htab hw hl => ?_)
  have C : Cx G p s m args c cL_may 4 RL := C
  have hl : lv_has ls 4 [(0, .ref (gA G 0)), (1, .int x1), (2, .ref (gA G (41 + 27)))] := hl
  refine lv_aload_n C.1.1 C.1.2.1 dL_may_0 rfl (lv_at hl 2 rfl) ?_
  refine lv_iconst (v := (0 : Int32)) C.1.1 C.1.2.1 dL_may_1 rfl ?_
  refine lv_aload_n C.1.1 C.1.2.1 dL_may_2 rfl (lv_at hl 0 rfl) ?_
  refine lv_iload_n C.1.1 C.1.2.1 dL_may_3 rfl (lv_at hl 1 rfl) ?_
  refine vx_calli (runx_VX C hw clL_46 (tb5 73 rfl rfl) (As := [.int x1]) (rest := [.int (0 : Int32), .ref (gA G (41 + 27))]) oX_0 (c_X8_may hst h5) rfl hl.1 rfl ⟨Nat.le_of_ble_eq_true rfl, Nat.le_of_ble_eq_true rfl⟩ ⟨Nat.le_of_ble_eq_true rfl, Nat.le_of_ble_eq_true rfl⟩ rfl (Nat.le_of_ble_eq_true rfl) dL_may_4) hw.2 (fun _ _ h => h) (fun _ h => h) (fun _ _ h => h) (fun E ce q9 u t H1 locs1 ht hvm _ hB _ _ hS hce hcv hcls => ?_) (fun r u t H1 locs1 ht _ hp hB _ _ hS => ?_)
  · obtain ⟨⟨k, e1, e2⟩, hP⟩ := hB
    obtain ⟨z1, z2, z3⟩ := wrp_r hf e1
    have hw1 : Wh G s q.1 M L H1 locs1 := ⟨by rw [← ht]; exact hP, hS⟩
    subst e2
    by_cases hk : k = 0
    · subst hk
      have z1 := (if_pos rfl).symm.trans z1
      refine x_catchN C htab rfl hce hcv hcls ?_
      refine lv_astore_n (lv' := [(3, .ref q9), (0, .ref (gA G 0)), (1, .int x1), (2, .ref (gA G (41 + 27)))]) C.1.1 C.1.2.1 dL_may_12 rfl hl (by decide) rfl (fun ls hl => ?_)
      refine lv_iconst (v := (1 : Int32)) C.1.1 C.1.2.1 dL_may_13 rfl ?_
      exact retw C hr hlk hw1 z2 z3 (Option.some.inj z1).symm (Nat.le_of_ble_eq_true rfl) (Nat.le_of_ble_eq_true rfl) dL_may_14
    · have z1 := (if_neg hk).symm.trans z1
      cases z1
  · have hro := wrp_l hf hp
    subst hro
    have hw1 : Wh G s q.1 M L H1 locs1 := ⟨by rw [← ht]; exact hB.2, hS⟩
    refine lv_i2l (v := r.toInt64) C.1.1 C.1.2.1 dL_may_7 rfl ?_
    refine l_ast C hw1 lM_27 hnL (inb_in (by decide)) dL_may_8 (fun H locs hw => ?_)
    refine lv_goto (tgt := 15) C.1.1 C.1.2.1 dL_may_9 (by decide) ?_
    refine lv_iconst (v := (0 : Int32)) C.1.1 C.1.2.1 dL_may_15 rfl ?_
    exact retw C hr hlk hw rfl rfl rfl (Nat.le_of_ble_eq_true rfl) (Nat.le_of_ble_eq_true rfl) dL_may_16
def f_L_best (X : TX) (L : TL) (x1 : Int32) (x2 : Int32) : Option (TX × TL × Int32) := (f_X8_best X x1 x2).bind fun q => wrp q L (some (1 : Int32)) (some (2 : Int32))
set_option maxRecDepth 20000 in
set_option maxHeartbeats 2000000 in
theorem c_L_best {G : GP} {l : Launch} (hst : l.stackTraces = false) (hnL : 41 + 27 < gN G) {X M : TX} {L : TL} {x1 : Int32} {x2 : Int32} {ro : TX × TL × Int32} (hf : f_L_best X L x1 x2 = some ro) : CWi G l yL_best cL_best 5 [(0, 10, 13, 31), (0, 10, 17, 13)] 9 184 2 [.ref (gA G 0), .int x1, .int x2, .ref (gA G (41 + 27))] X M L ro := by
  unfold f_L_best at hf
  obtain ⟨q, h5, hf⟩ := o_bind hf
  refine cw_of (by decide +kernel) (Nat.le_of_ble_eq_true rfl) (tab := [⟨0, 10, 13, 31⟩, ⟨0, 10, 17, 13⟩]) rfl (fun p e s m args below meth c H locs ls C hr hlk htab hw hl => ?_)
  have C : Cx G p s m args c cL_best 5 RL := C
  have hl : lv_has ls 5 [(0, .ref (gA G 0)), (1, .int x1), (2, .int x2), (3, .ref (gA G (41 + 27)))] := hl
  refine lv_aload_n C.1.1 C.1.2.1 dL_best_0 rfl (lv_at hl 3 rfl) ?_
  refine lv_iconst (v := (0 : Int32)) C.1.1 C.1.2.1 dL_best_1 rfl ?_
  refine lv_aload_n C.1.1 C.1.2.1 dL_best_2 rfl (lv_at hl 0 rfl) ?_
  refine lv_iload_n C.1.1 C.1.2.1 dL_best_3 rfl (lv_at hl 1 rfl) ?_
  refine lv_iload_n C.1.1 C.1.2.1 dL_best_4 rfl (lv_at hl 2 rfl) ?_
  refine vx_calli (runx_VX C hw clL_49 (tb5 81 rfl rfl) (As := [.int x1, .int x2]) (rest := [.int (0 : Int32), .ref (gA G (41 + 27))]) oX_0 (c_X8_best hst h5) rfl hl.1 rfl ⟨Nat.le_of_ble_eq_true rfl, Nat.le_of_ble_eq_true rfl⟩ ⟨Nat.le_of_ble_eq_true rfl, Nat.le_of_ble_eq_true rfl⟩ rfl (Nat.le_of_ble_eq_true rfl) dL_best_5) hw.2 (fun _ _ h => h) (fun _ h => h) (fun _ _ h => h) (fun E ce q9 u t H1 locs1 ht hvm _ hB _ _ hS hce hcv hcls => ?_) (fun r u t H1 locs1 ht _ hp hB _ _ hS => ?_)
  · obtain ⟨⟨k, e1, e2⟩, hP⟩ := hB
    obtain ⟨z1, z2, z3⟩ := wrp_r hf e1
    have hw1 : Wh G s q.1 M L H1 locs1 := ⟨by rw [← ht]; exact hP, hS⟩
    subst e2
    by_cases hk : k = 0
    · subst hk
      have z1 := (if_pos rfl).symm.trans z1
      refine x_catchN C htab rfl hce hcv hcls ?_
      refine lv_astore (lv' := [(4, .ref q9), (0, .ref (gA G 0)), (1, .int x1), (2, .int x2), (3, .ref (gA G (41 + 27)))]) C.1.1 C.1.2.1 dL_best_13 hl (by decide) rfl (fun ls hl => ?_)
      refine lv_iconst (v := (1 : Int32)) C.1.1 C.1.2.1 dL_best_15 rfl ?_
      exact retw C hr hlk hw1 z2 z3 (Option.some.inj z1).symm (Nat.le_of_ble_eq_true rfl) (Nat.le_of_ble_eq_true rfl) dL_best_16
    · have z1 := (if_neg hk).symm.trans z1
      rw [exn_s hk] at hcls
      refine x_catchI2 C htab rfl hce hcv hcls ?_
      refine lv_astore (lv' := [(4, .ref q9), (0, .ref (gA G 0)), (1, .int x1), (2, .int x2), (3, .ref (gA G (41 + 27)))]) C.1.1 C.1.2.1 dL_best_17 hl (by decide) rfl (fun ls hl => ?_)
      refine lv_iconst (v := (2 : Int32)) C.1.1 C.1.2.1 dL_best_19 rfl ?_
      exact retw C hr hlk hw1 z2 z3 (Option.some.inj z1).symm (Nat.le_of_ble_eq_true rfl) (Nat.le_of_ble_eq_true rfl) dL_best_20
  · have hro := wrp_l hf hp
    subst hro
    have hw1 : Wh G s q.1 M L H1 locs1 := ⟨by rw [← ht]; exact hB.2, hS⟩
    refine lv_i2l (v := r.toInt64) C.1.1 C.1.2.1 dL_best_8 rfl ?_
    refine l_ast C hw1 lM_27 hnL (inb_in (by decide)) dL_best_9 (fun H locs hw => ?_)
    refine lv_goto (tgt := 21) C.1.1 C.1.2.1 dL_best_10 (by decide) ?_
    refine lv_iconst (v := (0 : Int32)) C.1.1 C.1.2.1 dL_best_21 rfl ?_
    exact retw C hr hlk hw rfl rfl rfl (Nat.le_of_ble_eq_true rfl) (Nat.le_of_ble_eq_true rfl) dL_best_22
def f_L_redrawn (X : TX) (L : TL) (x1 : Int32) (x2 : Int32) : Option (TX × TL × Int32) := (f_X8_redrawn X x1 x2).bind fun q => wrp q L (some (1 : Int32)) (some (2 : Int32))
set_option maxRecDepth 20000 in
set_option maxHeartbeats 2000000 in
theorem c_L_redrawn {G : GP} {l : Launch} (hst : l.stackTraces = false) (hnL : 41 + 27 < gN G) {X M : TX} {L : TL} {x1 : Int32} {x2 : Int32} {ro : TX × TL × Int32} (hf : f_L_redrawn X L x1 x2 = some ro) : CWi G l yL_redrawn cL_redrawn 5 [(0, 10, 13, 31), (0, 10, 17, 13)] 20 482 2 [.ref (gA G 0), .int x1, .int x2, .ref (gA G (41 + 27))] X M L ro := by
  unfold f_L_redrawn at hf
  obtain ⟨q, h5, hf⟩ := o_bind hf
  refine cw_of (by decide +kernel) (Nat.le_of_ble_eq_true rfl) (tab := [⟨0, 10, 13, 31⟩, ⟨0, 10, 17, 13⟩]) rfl (fun p e s m args below meth c H locs ls C hr hlk htab hw hl => ?_)
  have C : Cx G p s m args c cL_redrawn 5 RL := C
  have hl : lv_has ls 5 [(0, .ref (gA G 0)), (1, .int x1), (2, .int x2), (3, .ref (gA G (41 + 27)))] := hl
  refine lv_aload_n C.1.1 C.1.2.1 dL_redrawn_0 rfl (lv_at hl 3 rfl) ?_
  refine lv_iconst (v := (0 : Int32)) C.1.1 C.1.2.1 dL_redrawn_1 rfl ?_
  refine lv_aload_n C.1.1 C.1.2.1 dL_redrawn_2 rfl (lv_at hl 0 rfl) ?_
  refine lv_iload_n C.1.1 C.1.2.1 dL_redrawn_3 rfl (lv_at hl 1 rfl) ?_
  refine lv_iload_n C.1.1 C.1.2.1 dL_redrawn_4 rfl (lv_at hl 2 rfl) ?_
  refine vx_calli (runx_VX C hw clL_52 (tb5 89 rfl rfl) (As := [.int x1, .int x2]) (rest := [.int (0 : Int32), .ref (gA G (41 + 27))]) oX_0 (c_X8_redrawn hst h5) rfl hl.1 rfl ⟨Nat.le_of_ble_eq_true rfl, Nat.le_of_ble_eq_true rfl⟩ ⟨Nat.le_of_ble_eq_true rfl, Nat.le_of_ble_eq_true rfl⟩ rfl (Nat.le_of_ble_eq_true rfl) dL_redrawn_5) hw.2 (fun _ _ h => h) (fun _ h => h) (fun _ _ h => h) (fun E ce q9 u t H1 locs1 ht hvm _ hB _ _ hS hce hcv hcls => ?_) (fun r u t H1 locs1 ht _ hp hB _ _ hS => ?_)
  · obtain ⟨⟨k, e1, e2⟩, hP⟩ := hB
    obtain ⟨z1, z2, z3⟩ := wrp_r hf e1
    have hw1 : Wh G s q.1 M L H1 locs1 := ⟨by rw [← ht]; exact hP, hS⟩
    subst e2
    by_cases hk : k = 0
    · subst hk
      have z1 := (if_pos rfl).symm.trans z1
      refine x_catchN C htab rfl hce hcv hcls ?_
      refine lv_astore (lv' := [(4, .ref q9), (0, .ref (gA G 0)), (1, .int x1), (2, .int x2), (3, .ref (gA G (41 + 27)))]) C.1.1 C.1.2.1 dL_redrawn_13 hl (by decide) rfl (fun ls hl => ?_)
      refine lv_iconst (v := (1 : Int32)) C.1.1 C.1.2.1 dL_redrawn_15 rfl ?_
      exact retw C hr hlk hw1 z2 z3 (Option.some.inj z1).symm (Nat.le_of_ble_eq_true rfl) (Nat.le_of_ble_eq_true rfl) dL_redrawn_16
    · have z1 := (if_neg hk).symm.trans z1
      rw [exn_s hk] at hcls
      refine x_catchI2 C htab rfl hce hcv hcls ?_
      refine lv_astore (lv' := [(4, .ref q9), (0, .ref (gA G 0)), (1, .int x1), (2, .int x2), (3, .ref (gA G (41 + 27)))]) C.1.1 C.1.2.1 dL_redrawn_17 hl (by decide) rfl (fun ls hl => ?_)
      refine lv_iconst (v := (2 : Int32)) C.1.1 C.1.2.1 dL_redrawn_19 rfl ?_
      exact retw C hr hlk hw1 z2 z3 (Option.some.inj z1).symm (Nat.le_of_ble_eq_true rfl) (Nat.le_of_ble_eq_true rfl) dL_redrawn_20
  · have hro := wrp_l hf hp
    subst hro
    have hw1 : Wh G s q.1 M L H1 locs1 := ⟨by rw [← ht]; exact hB.2, hS⟩
    refine lv_i2l (v := r.toInt64) C.1.1 C.1.2.1 dL_redrawn_8 rfl ?_
    refine l_ast C hw1 lM_27 hnL (inb_in (by decide)) dL_redrawn_9 (fun H locs hw => ?_)
    refine lv_goto (tgt := 21) C.1.1 C.1.2.1 dL_redrawn_10 (by decide) ?_
    refine lv_iconst (v := (0 : Int32)) C.1.1 C.1.2.1 dL_redrawn_21 rfl ?_
    exact retw C hr hlk hw rfl rfl rfl (Nat.le_of_ble_eq_true rfl) (Nat.le_of_ble_eq_true rfl) dL_redrawn_22
def f_L_turned (X : TX) (L : TL) (x1 : Int32) : Option (TX × TL × Int32) := (f_X8_turned X x1).bind fun q => wrp q L none (some (1 : Int32))
set_option maxRecDepth 20000 in
set_option maxHeartbeats 2000000 in
theorem c_L_turned {G : GP} {l : Launch} (hst : l.stackTraces = false) (hnL : 41 + 27 < gN G) {X M : TX} {L : TL} {x1 : Int32} {ro : TX × TL × Int32} (hf : f_L_turned X L x1 = some ro) : CWi G l yL_turned cL_turned 4 [(0, 9, 12, 13)] 20 481 1 [.ref (gA G 0), .int x1, .ref (gA G (41 + 27))] X M L ro := by
  unfold f_L_turned at hf
  obtain ⟨q, h5, hf⟩ := o_bind hf
  refine cw_of (by decide +kernel) (Nat.le_of_ble_eq_true rfl) (tab := [⟨0, 9, 12, 13⟩]) rfl (fun p e s m args below meth c H locs ls C hr hlk htab hw hl => ?_)
  have C : Cx G p s m args c cL_turned 4 RL := C
  have hl : lv_has ls 4 [(0, .ref (gA G 0)), (1, .int x1), (2, .ref (gA G (41 + 27)))] := hl
  refine lv_aload_n C.1.1 C.1.2.1 dL_turned_0 rfl (lv_at hl 2 rfl) ?_
  refine lv_iconst (v := (0 : Int32)) C.1.1 C.1.2.1 dL_turned_1 rfl ?_
  refine lv_aload_n C.1.1 C.1.2.1 dL_turned_2 rfl (lv_at hl 0 rfl) ?_
  refine lv_iload_n C.1.1 C.1.2.1 dL_turned_3 rfl (lv_at hl 1 rfl) ?_
  refine vx_calli (runx_VX C hw clL_55 (tb5 104 rfl rfl) (As := [.int x1]) (rest := [.int (0 : Int32), .ref (gA G (41 + 27))]) oX_0 (c_X8_turned hst h5) rfl hl.1 rfl ⟨Nat.le_of_ble_eq_true rfl, Nat.le_of_ble_eq_true rfl⟩ ⟨Nat.le_of_ble_eq_true rfl, Nat.le_of_ble_eq_true rfl⟩ rfl (Nat.le_of_ble_eq_true rfl) dL_turned_4) hw.2 (fun _ _ h => h) (fun _ h => h) (fun _ _ h => h) (fun E ce q9 u t H1 locs1 ht hvm _ hB _ _ hS hce hcv hcls => ?_) (fun r u t H1 locs1 ht _ hp hB _ _ hS => ?_)
  · obtain ⟨⟨k, e1, e2⟩, hP⟩ := hB
    obtain ⟨z1, z2, z3⟩ := wrp_r hf e1
    have hw1 : Wh G s q.1 M L H1 locs1 := ⟨by rw [← ht]; exact hP, hS⟩
    subst e2
    by_cases hk : k = 0
    · subst hk
      have z1 := (if_pos rfl).symm.trans z1
      cases z1
    · have z1 := (if_neg hk).symm.trans z1
      rw [exn_s hk] at hcls
      refine x_catchI C htab rfl hce hcv hcls ?_
      refine lv_astore_n (lv' := [(3, .ref q9), (0, .ref (gA G 0)), (1, .int x1), (2, .ref (gA G (41 + 27)))]) C.1.1 C.1.2.1 dL_turned_12 rfl hl (by decide) rfl (fun ls hl => ?_)
      refine lv_iconst (v := (1 : Int32)) C.1.1 C.1.2.1 dL_turned_13 rfl ?_
      exact retw C hr hlk hw1 z2 z3 (Option.some.inj z1).symm (Nat.le_of_ble_eq_true rfl) (Nat.le_of_ble_eq_true rfl) dL_turned_14
  · have hro := wrp_l hf hp
    subst hro
    have hw1 : Wh G s q.1 M L H1 locs1 := ⟨by rw [← ht]; exact hB.2, hS⟩
    refine lv_i2l (v := r.toInt64) C.1.1 C.1.2.1 dL_turned_7 rfl ?_
    refine l_ast C hw1 lM_27 hnL (inb_in (by decide)) dL_turned_8 (fun H locs hw => ?_)
    refine lv_goto (tgt := 15) C.1.1 C.1.2.1 dL_turned_9 (by decide) ?_
    refine lv_iconst (v := (0 : Int32)) C.1.1 C.1.2.1 dL_turned_15 rfl ?_
    exact retw C hr hlk hw rfl rfl rfl (Nat.le_of_ble_eq_true rfl) (Nat.le_of_ble_eq_true rfl) dL_turned_16
def f_L_reigns (X : TX) (L : TL) (x1 : Int32) (x2 : Int32) : Option (TX × TL × Int32) := (f_X8_reigns X x1 x2).bind fun q => wrp q L none (some (1 : Int32))
set_option maxRecDepth 20000 in
set_option maxHeartbeats 2000000 in
theorem c_L_reigns {G : GP} {l : Launch} (hst : l.stackTraces = false) (hnL : 41 + 27 < gN G) {X M : TX} {L : TL} {x1 : Int32} {x2 : Int32} {ro : TX × TL × Int32} (hf : f_L_reigns X L x1 x2 = some ro) : CWi G l yL_reigns cL_reigns 5 [(0, 10, 13, 13)] 9 212 2 [.ref (gA G 0), .int x1, .int x2, .ref (gA G (41 + 27))] X M L ro := by
  unfold f_L_reigns at hf
  obtain ⟨q, h5, hf⟩ := o_bind hf
  refine cw_of (by decide +kernel) (Nat.le_of_ble_eq_true rfl) (tab := [⟨0, 10, 13, 13⟩]) rfl (fun p e s m args below meth c H locs ls C hr hlk htab hw hl => ?_)
  have C : Cx G p s m args c cL_reigns 5 RL := C
  have hl : lv_has ls 5 [(0, .ref (gA G 0)), (1, .int x1), (2, .int x2), (3, .ref (gA G (41 + 27)))] := hl
  refine lv_aload_n C.1.1 C.1.2.1 dL_reigns_0 rfl (lv_at hl 3 rfl) ?_
  refine lv_iconst (v := (0 : Int32)) C.1.1 C.1.2.1 dL_reigns_1 rfl ?_
  refine lv_aload_n C.1.1 C.1.2.1 dL_reigns_2 rfl (lv_at hl 0 rfl) ?_
  refine lv_iload_n C.1.1 C.1.2.1 dL_reigns_3 rfl (lv_at hl 1 rfl) ?_
  refine lv_iload_n C.1.1 C.1.2.1 dL_reigns_4 rfl (lv_at hl 2 rfl) ?_
  refine vx_calli (runx_VX C hw clL_58 (tb5 111 rfl rfl) (As := [.int x1, .int x2]) (rest := [.int (0 : Int32), .ref (gA G (41 + 27))]) oX_0 (c_X8_reigns hst h5) rfl hl.1 rfl ⟨Nat.le_of_ble_eq_true rfl, Nat.le_of_ble_eq_true rfl⟩ ⟨Nat.le_of_ble_eq_true rfl, Nat.le_of_ble_eq_true rfl⟩ rfl (Nat.le_of_ble_eq_true rfl) dL_reigns_5) hw.2 (fun _ _ h => h) (fun _ h => h) (fun _ _ h => h) (fun E ce q9 u t H1 locs1 ht hvm _ hB _ _ hS hce hcv hcls => ?_) (fun r u t H1 locs1 ht _ hp hB _ _ hS => ?_)
  · obtain ⟨⟨k, e1, e2⟩, hP⟩ := hB
    obtain ⟨z1, z2, z3⟩ := wrp_r hf e1
    have hw1 : Wh G s q.1 M L H1 locs1 := ⟨by rw [← ht]; exact hP, hS⟩
    subst e2
    by_cases hk : k = 0
    · subst hk
      have z1 := (if_pos rfl).symm.trans z1
      cases z1
    · have z1 := (if_neg hk).symm.trans z1
      rw [exn_s hk] at hcls
      refine x_catchI C htab rfl hce hcv hcls ?_
      refine lv_astore (lv' := [(4, .ref q9), (0, .ref (gA G 0)), (1, .int x1), (2, .int x2), (3, .ref (gA G (41 + 27)))]) C.1.1 C.1.2.1 dL_reigns_13 hl (by decide) rfl (fun ls hl => ?_)
      refine lv_iconst (v := (1 : Int32)) C.1.1 C.1.2.1 dL_reigns_15 rfl ?_
      exact retw C hr hlk hw1 z2 z3 (Option.some.inj z1).symm (Nat.le_of_ble_eq_true rfl) (Nat.le_of_ble_eq_true rfl) dL_reigns_16
  · have hro := wrp_l hf hp
    subst hro
    have hw1 : Wh G s q.1 M L H1 locs1 := ⟨by rw [← ht]; exact hB.2, hS⟩
    refine lv_i2l (v := r.toInt64) C.1.1 C.1.2.1 dL_reigns_8 rfl ?_
    refine l_ast C hw1 lM_27 hnL (inb_in (by decide)) dL_reigns_9 (fun H locs hw => ?_)
    refine lv_goto (tgt := 17) C.1.1 C.1.2.1 dL_reigns_10 (by decide) ?_
    refine lv_iconst (v := (0 : Int32)) C.1.1 C.1.2.1 dL_reigns_17 rfl ?_
    exact retw C hr hlk hw rfl rfl rfl (Nat.le_of_ble_eq_true rfl) (Nat.le_of_ble_eq_true rfl) dL_reigns_18
def f_L_round (X : TX) (L : TL) (x1 : Int32) : Option (TX × TL × Int32) := (f_X8_round X x1).bind fun q => wrp q L none (some (1 : Int32))
set_option maxRecDepth 20000 in
set_option maxHeartbeats 2000000 in
theorem c_L_round {G : GP} {l : Launch} (hst : l.stackTraces = false) (hnL : 41 + 27 < gN G) {X M : TX} {L : TL} {x1 : Int32} {ro : TX × TL × Int32} (hf : f_L_round X L x1 = some ro) : CWi G l yL_round cL_round 4 [(0, 9, 12, 13)] 9 210 1 [.ref (gA G 0), .int x1, .ref (gA G (41 + 27))] X M L ro := by
  unfold f_L_round at hf
  obtain ⟨q, h5, hf⟩ := o_bind hf
  refine cw_of (by decide +kernel) (Nat.le_of_ble_eq_true rfl) (tab := [⟨0, 9, 12, 13⟩]) rfl (fun p e s m args below meth c H locs ls C hr hlk htab hw hl => ?_)
  have C : Cx G p s m args c cL_round 4 RL := C
  have hl : lv_has ls 4 [(0, .ref (gA G 0)), (1, .int x1), (2, .ref (gA G (41 + 27)))] := hl
  refine lv_aload_n C.1.1 C.1.2.1 dL_round_0 rfl (lv_at hl 2 rfl) ?_
  refine lv_iconst (v := (0 : Int32)) C.1.1 C.1.2.1 dL_round_1 rfl ?_
  refine lv_aload_n C.1.1 C.1.2.1 dL_round_2 rfl (lv_at hl 0 rfl) ?_
  refine lv_iload_n C.1.1 C.1.2.1 dL_round_3 rfl (lv_at hl 1 rfl) ?_
  refine vx_calli (runx_VX C hw clL_61 (tb5 133 rfl rfl) (As := [.int x1]) (rest := [.int (0 : Int32), .ref (gA G (41 + 27))]) oX_0 (c_X8_round hst h5) rfl hl.1 rfl ⟨Nat.le_of_ble_eq_true rfl, Nat.le_of_ble_eq_true rfl⟩ ⟨Nat.le_of_ble_eq_true rfl, Nat.le_of_ble_eq_true rfl⟩ rfl (Nat.le_of_ble_eq_true rfl) dL_round_4) hw.2 (fun _ _ h => h) (fun _ h => h) (fun _ _ h => h) (fun E ce q9 u t H1 locs1 ht hvm _ hB _ _ hS hce hcv hcls => ?_) (fun r u t H1 locs1 ht _ hp hB _ _ hS => ?_)
  · obtain ⟨⟨k, e1, e2⟩, hP⟩ := hB
    obtain ⟨z1, z2, z3⟩ := wrp_r hf e1
    have hw1 : Wh G s q.1 M L H1 locs1 := ⟨by rw [← ht]; exact hP, hS⟩
    subst e2
    by_cases hk : k = 0
    · subst hk
      have z1 := (if_pos rfl).symm.trans z1
      cases z1
    · have z1 := (if_neg hk).symm.trans z1
      rw [exn_s hk] at hcls
      refine x_catchI C htab rfl hce hcv hcls ?_
      refine lv_astore_n (lv' := [(3, .ref q9), (0, .ref (gA G 0)), (1, .int x1), (2, .ref (gA G (41 + 27)))]) C.1.1 C.1.2.1 dL_round_12 rfl hl (by decide) rfl (fun ls hl => ?_)
      refine lv_iconst (v := (1 : Int32)) C.1.1 C.1.2.1 dL_round_13 rfl ?_
      exact retw C hr hlk hw1 z2 z3 (Option.some.inj z1).symm (Nat.le_of_ble_eq_true rfl) (Nat.le_of_ble_eq_true rfl) dL_round_14
  · have hro := wrp_l hf hp
    subst hro
    have hw1 : Wh G s q.1 M L H1 locs1 := ⟨by rw [← ht]; exact hB.2, hS⟩
    refine lv_i2l (v := r.toInt64) C.1.1 C.1.2.1 dL_round_7 rfl ?_
    refine l_ast C hw1 lM_27 hnL (inb_in (by decide)) dL_round_8 (fun H locs hw => ?_)
    refine lv_goto (tgt := 15) C.1.1 C.1.2.1 dL_round_9 (by decide) ?_
    refine lv_iconst (v := (0 : Int32)) C.1.1 C.1.2.1 dL_round_15 rfl ?_
    exact retw C hr hlk hw rfl rfl rfl (Nat.le_of_ble_eq_true rfl) (Nat.le_of_ble_eq_true rfl) dL_round_16
def f_L_swing (X : TX) (L : TL) (x1 : Int32) : Option (TX × TL × Int32) := (f_X8_swing X x1).bind fun q => wrp q L (some (1 : Int32)) none
set_option maxRecDepth 20000 in
set_option maxHeartbeats 2000000 in
theorem c_L_swing {G : GP} {l : Launch} (hst : l.stackTraces = false) (hnL : 41 + 27 < gN G) {X M : TX} {L : TL} {x1 : Int32} {ro : TX × TL × Int32} (hf : f_L_swing X L x1 = some ro) : CWi G l yL_swing cL_swing 4 [(0, 9, 12, 31)] 9 184 1 [.ref (gA G 0), .int x1, .ref (gA G (41 + 27))] X M L ro := by
  unfold f_L_swing at hf
  obtain ⟨q, h5, hf⟩ := o_bind hf
  refine cw_of (by decide +kernel) (Nat.le_of_ble_eq_true rfl) (tab := [⟨0, 9, 12, 31⟩]) rfl (fun p e s m args below meth c H locs ls C hr hlk htab hw hl => ?_)
  have C : Cx G p s m args c cL_swing 4 RL := C
  have hl : lv_has ls 4 [(0, .ref (gA G 0)), (1, .int x1), (2, .ref (gA G (41 + 27)))] := hl
  refine lv_aload_n C.1.1 C.1.2.1 dL_swing_0 rfl (lv_at hl 2 rfl) ?_
  refine lv_iconst (v := (0 : Int32)) C.1.1 C.1.2.1 dL_swing_1 rfl ?_
  refine lv_aload_n C.1.1 C.1.2.1 dL_swing_2 rfl (lv_at hl 0 rfl) ?_
  refine lv_iload_n C.1.1 C.1.2.1 dL_swing_3 rfl (lv_at hl 1 rfl) ?_
  refine vx_calli (runx_VX C hw clL_64 (tb5 150 rfl rfl) (As := [.int x1]) (rest := [.int (0 : Int32), .ref (gA G (41 + 27))]) oX_0 (c_X8_swing hst h5) rfl hl.1 rfl ⟨Nat.le_of_ble_eq_true rfl, Nat.le_of_ble_eq_true rfl⟩ ⟨Nat.le_of_ble_eq_true rfl, Nat.le_of_ble_eq_true rfl⟩ rfl (Nat.le_of_ble_eq_true rfl) dL_swing_4) hw.2 (fun _ _ h => h) (fun _ h => h) (fun _ _ h => h) (fun E ce q9 u t H1 locs1 ht hvm _ hB _ _ hS hce hcv hcls => ?_) (fun r u t H1 locs1 ht _ hp hB _ _ hS => ?_)
  · obtain ⟨⟨k, e1, e2⟩, hP⟩ := hB
    obtain ⟨z1, z2, z3⟩ := wrp_r hf e1
    have hw1 : Wh G s q.1 M L H1 locs1 := ⟨by rw [← ht]; exact hP, hS⟩
    subst e2
    by_cases hk : k = 0
    · subst hk
      have z1 := (if_pos rfl).symm.trans z1
      refine x_catchN C htab rfl hce hcv hcls ?_
      refine lv_astore_n (lv' := [(3, .ref q9), (0, .ref (gA G 0)), (1, .int x1), (2, .ref (gA G (41 + 27)))]) C.1.1 C.1.2.1 dL_swing_12 rfl hl (by decide) rfl (fun ls hl => ?_)
      refine lv_iconst (v := (1 : Int32)) C.1.1 C.1.2.1 dL_swing_13 rfl ?_
      exact retw C hr hlk hw1 z2 z3 (Option.some.inj z1).symm (Nat.le_of_ble_eq_true rfl) (Nat.le_of_ble_eq_true rfl) dL_swing_14
    · have z1 := (if_neg hk).symm.trans z1
      cases z1
  · have hro := wrp_l hf hp
    subst hro
    have hw1 : Wh G s q.1 M L H1 locs1 := ⟨by rw [← ht]; exact hB.2, hS⟩
    refine lv_i2l (v := r.toInt64) C.1.1 C.1.2.1 dL_swing_7 rfl ?_
    refine l_ast C hw1 lM_27 hnL (inb_in (by decide)) dL_swing_8 (fun H locs hw => ?_)
    refine lv_goto (tgt := 15) C.1.1 C.1.2.1 dL_swing_9 (by decide) ?_
    refine lv_iconst (v := (0 : Int32)) C.1.1 C.1.2.1 dL_swing_15 rfl ?_
    exact retw C hr hlk hw rfl rfl rfl (Nat.le_of_ble_eq_true rfl) (Nat.le_of_ble_eq_true rfl) dL_swing_16
def f_L_waste (X : TX) (L : TL) (x1 : Int32) (x2 : Int32) : Option (TX × TL × Int32) := (f_X8_waste X x1 x2).bind fun q => wrp q L (some (1 : Int32)) (some (2 : Int32))
set_option maxRecDepth 20000 in
set_option maxHeartbeats 2000000 in
theorem c_L_waste {G : GP} {l : Launch} (hst : l.stackTraces = false) (hnL : 41 + 27 < gN G) {X M : TX} {L : TL} {x1 : Int32} {x2 : Int32} {ro : TX × TL × Int32} (hf : f_L_waste X L x1 x2 = some ro) : CWi G l yL_waste cL_waste 5 [(0, 10, 13, 31), (0, 10, 17, 13)] 9 184 2 [.ref (gA G 0), .int x1, .int x2, .ref (gA G (41 + 27))] X M L ro := by
  unfold f_L_waste at hf
  obtain ⟨q, h5, hf⟩ := o_bind hf
  refine cw_of (by decide +kernel) (Nat.le_of_ble_eq_true rfl) (tab := [⟨0, 10, 13, 31⟩, ⟨0, 10, 17, 13⟩]) rfl (fun p e s m args below meth c H locs ls C hr hlk htab hw hl => ?_)
  have C : Cx G p s m args c cL_waste 5 RL := C
  have hl : lv_has ls 5 [(0, .ref (gA G 0)), (1, .int x1), (2, .int x2), (3, .ref (gA G (41 + 27)))] := hl
  refine lv_aload_n C.1.1 C.1.2.1 dL_waste_0 rfl (lv_at hl 3 rfl) ?_
  refine lv_iconst (v := (0 : Int32)) C.1.1 C.1.2.1 dL_waste_1 rfl ?_
  refine lv_aload_n C.1.1 C.1.2.1 dL_waste_2 rfl (lv_at hl 0 rfl) ?_
  refine lv_iload_n C.1.1 C.1.2.1 dL_waste_3 rfl (lv_at hl 1 rfl) ?_
  refine lv_iload_n C.1.1 C.1.2.1 dL_waste_4 rfl (lv_at hl 2 rfl) ?_
  refine vx_calli (runx_VX C hw clL_67 (tb5 161 rfl rfl) (As := [.int x1, .int x2]) (rest := [.int (0 : Int32), .ref (gA G (41 + 27))]) oX_0 (c_X8_waste hst h5) rfl hl.1 rfl ⟨Nat.le_of_ble_eq_true rfl, Nat.le_of_ble_eq_true rfl⟩ ⟨Nat.le_of_ble_eq_true rfl, Nat.le_of_ble_eq_true rfl⟩ rfl (Nat.le_of_ble_eq_true rfl) dL_waste_5) hw.2 (fun _ _ h => h) (fun _ h => h) (fun _ _ h => h) (fun E ce q9 u t H1 locs1 ht hvm _ hB _ _ hS hce hcv hcls => ?_) (fun r u t H1 locs1 ht _ hp hB _ _ hS => ?_)
  · obtain ⟨⟨k, e1, e2⟩, hP⟩ := hB
    obtain ⟨z1, z2, z3⟩ := wrp_r hf e1
    have hw1 : Wh G s q.1 M L H1 locs1 := ⟨by rw [← ht]; exact hP, hS⟩
    subst e2
    by_cases hk : k = 0
    · subst hk
      have z1 := (if_pos rfl).symm.trans z1
      refine x_catchN C htab rfl hce hcv hcls ?_
      refine lv_astore (lv' := [(4, .ref q9), (0, .ref (gA G 0)), (1, .int x1), (2, .int x2), (3, .ref (gA G (41 + 27)))]) C.1.1 C.1.2.1 dL_waste_13 hl (by decide) rfl (fun ls hl => ?_)
      refine lv_iconst (v := (1 : Int32)) C.1.1 C.1.2.1 dL_waste_15 rfl ?_
      exact retw C hr hlk hw1 z2 z3 (Option.some.inj z1).symm (Nat.le_of_ble_eq_true rfl) (Nat.le_of_ble_eq_true rfl) dL_waste_16
    · have z1 := (if_neg hk).symm.trans z1
      rw [exn_s hk] at hcls
      refine x_catchI2 C htab rfl hce hcv hcls ?_
      refine lv_astore (lv' := [(4, .ref q9), (0, .ref (gA G 0)), (1, .int x1), (2, .int x2), (3, .ref (gA G (41 + 27)))]) C.1.1 C.1.2.1 dL_waste_17 hl (by decide) rfl (fun ls hl => ?_)
      refine lv_iconst (v := (2 : Int32)) C.1.1 C.1.2.1 dL_waste_19 rfl ?_
      exact retw C hr hlk hw1 z2 z3 (Option.some.inj z1).symm (Nat.le_of_ble_eq_true rfl) (Nat.le_of_ble_eq_true rfl) dL_waste_20
  · have hro := wrp_l hf hp
    subst hro
    have hw1 : Wh G s q.1 M L H1 locs1 := ⟨by rw [← ht]; exact hB.2, hS⟩
    refine lv_i2l (v := r.toInt64) C.1.1 C.1.2.1 dL_waste_8 rfl ?_
    refine l_ast C hw1 lM_27 hnL (inb_in (by decide)) dL_waste_9 (fun H locs hw => ?_)
    refine lv_goto (tgt := 21) C.1.1 C.1.2.1 dL_waste_10 (by decide) ?_
    refine lv_iconst (v := (0 : Int32)) C.1.1 C.1.2.1 dL_waste_21 rfl ?_
    exact retw C hr hlk hw rfl rfl rfl (Nat.le_of_ble_eq_true rfl) (Nat.le_of_ble_eq_true rfl) dL_waste_22
def f_L_fits (X : TX) (L : TL) (x1 : Int32) : Option (TX × TL × Int32) := (f_X8_fits X x1).bind fun q => wrp q L none (some (1 : Int32))
set_option maxRecDepth 20000 in
set_option maxHeartbeats 2000000 in
theorem c_L_fits {G : GP} {l : Launch} (hst : l.stackTraces = false) (hnL : 41 + 27 < gN G) {X M : TX} {L : TL} {x1 : Int32} {ro : TX × TL × Int32} (hf : f_L_fits X L x1 = some ro) : CWi G l yL_fits cL_fits 4 [(0, 9, 12, 13)] 8 163 1 [.ref (gA G 0), .int x1, .ref (gA G (41 + 27))] X M L ro := by
  unfold f_L_fits at hf
  obtain ⟨q, h5, hf⟩ := o_bind hf
  refine cw_of (by decide +kernel) (Nat.le_of_ble_eq_true rfl) (tab := [⟨0, 9, 12, 13⟩]) rfl (fun p e s m args below meth c H locs ls C hr hlk htab hw hl => ?_)
  have C : Cx G p s m args c cL_fits 4 RL := C
  have hl : lv_has ls 4 [(0, .ref (gA G 0)), (1, .int x1), (2, .ref (gA G (41 + 27)))] := hl
  refine lv_aload_n C.1.1 C.1.2.1 dL_fits_0 rfl (lv_at hl 2 rfl) ?_
  refine lv_iconst (v := (0 : Int32)) C.1.1 C.1.2.1 dL_fits_1 rfl ?_
  refine lv_aload_n C.1.1 C.1.2.1 dL_fits_2 rfl (lv_at hl 0 rfl) ?_
  refine lv_iload_n C.1.1 C.1.2.1 dL_fits_3 rfl (lv_at hl 1 rfl) ?_
  refine vx_calli (runx_VX C hw clL_70 (tb5 183 rfl rfl) (As := [.int x1]) (rest := [.int (0 : Int32), .ref (gA G (41 + 27))]) oX_0 (c_X8_fits hst h5) rfl hl.1 rfl ⟨Nat.le_of_ble_eq_true rfl, Nat.le_of_ble_eq_true rfl⟩ ⟨Nat.le_of_ble_eq_true rfl, Nat.le_of_ble_eq_true rfl⟩ rfl (Nat.le_of_ble_eq_true rfl) dL_fits_4) hw.2 (fun _ _ h => h) (fun _ h => h) (fun _ _ h => h) (fun E ce q9 u t H1 locs1 ht hvm _ hB _ _ hS hce hcv hcls => ?_) (fun r u t H1 locs1 ht _ hp hB _ _ hS => ?_)
  · obtain ⟨⟨k, e1, e2⟩, hP⟩ := hB
    obtain ⟨z1, z2, z3⟩ := wrp_r hf e1
    have hw1 : Wh G s q.1 M L H1 locs1 := ⟨by rw [← ht]; exact hP, hS⟩
    subst e2
    by_cases hk : k = 0
    · subst hk
      have z1 := (if_pos rfl).symm.trans z1
      cases z1
    · have z1 := (if_neg hk).symm.trans z1
      rw [exn_s hk] at hcls
      refine x_catchI C htab rfl hce hcv hcls ?_
      refine lv_astore_n (lv' := [(3, .ref q9), (0, .ref (gA G 0)), (1, .int x1), (2, .ref (gA G (41 + 27)))]) C.1.1 C.1.2.1 dL_fits_12 rfl hl (by decide) rfl (fun ls hl => ?_)
      refine lv_iconst (v := (1 : Int32)) C.1.1 C.1.2.1 dL_fits_13 rfl ?_
      exact retw C hr hlk hw1 z2 z3 (Option.some.inj z1).symm (Nat.le_of_ble_eq_true rfl) (Nat.le_of_ble_eq_true rfl) dL_fits_14
  · have hro := wrp_l hf hp
    subst hro
    have hw1 : Wh G s q.1 M L H1 locs1 := ⟨by rw [← ht]; exact hB.2, hS⟩
    refine lv_i2l (v := r.toInt64) C.1.1 C.1.2.1 dL_fits_7 rfl ?_
    refine l_ast C hw1 lM_27 hnL (inb_in (by decide)) dL_fits_8 (fun H locs hw => ?_)
    refine lv_goto (tgt := 15) C.1.1 C.1.2.1 dL_fits_9 (by decide) ?_
    refine lv_iconst (v := (0 : Int32)) C.1.1 C.1.2.1 dL_fits_15 rfl ?_
    exact retw C hr hlk hw rfl rfl rfl (Nat.le_of_ble_eq_true rfl) (Nat.le_of_ble_eq_true rfl) dL_fits_16
def f_L_look (X : TX) (L : TL) (x1 : Int32) : Option (TX × TL × Int32) := (f_X8_look X x1).bind fun q => wrp q L none (some (1 : Int32))
set_option maxRecDepth 20000 in
set_option maxHeartbeats 2000000 in
theorem c_L_look {G : GP} {l : Launch} (hst : l.stackTraces = false) (hnL : 41 + 27 < gN G) {X M : TX} {L : TL} {x1 : Int32} {ro : TX × TL × Int32} (hf : f_L_look X L x1 = some ro) : CWi G l yL_look cL_look 4 [(0, 9, 12, 13)] 8 166 1 [.ref (gA G 0), .int x1, .ref (gA G (41 + 27))] X M L ro := by
  unfold f_L_look at hf
  obtain ⟨q, h5, hf⟩ := o_bind hf
  refine cw_of (by decide +kernel) (Nat.le_of_ble_eq_true rfl) (tab := [⟨0, 9, 12, 13⟩]) rfl (fun p e s m args below meth c H locs ls C hr hlk htab hw hl => ?_)
  have C : Cx G p s m args c cL_look 4 RL := C
  have hl : lv_has ls 4 [(0, .ref (gA G 0)), (1, .int x1), (2, .ref (gA G (41 + 27)))] := hl
  refine lv_aload_n C.1.1 C.1.2.1 dL_look_0 rfl (lv_at hl 2 rfl) ?_
  refine lv_iconst (v := (0 : Int32)) C.1.1 C.1.2.1 dL_look_1 rfl ?_
  refine lv_aload_n C.1.1 C.1.2.1 dL_look_2 rfl (lv_at hl 0 rfl) ?_
  refine lv_iload_n C.1.1 C.1.2.1 dL_look_3 rfl (lv_at hl 1 rfl) ?_
  refine vx_calli (runx_VX C hw clL_73 (tb5 203 rfl rfl) (As := [.int x1]) (rest := [.int (0 : Int32), .ref (gA G (41 + 27))]) oX_0 (c_X8_look hst h5) rfl hl.1 rfl ⟨Nat.le_of_ble_eq_true rfl, Nat.le_of_ble_eq_true rfl⟩ ⟨Nat.le_of_ble_eq_true rfl, Nat.le_of_ble_eq_true rfl⟩ rfl (Nat.le_of_ble_eq_true rfl) dL_look_4) hw.2 (fun _ _ h => h) (fun _ h => h) (fun _ _ h => h) (fun E ce q9 u t H1 locs1 ht hvm _ hB _ _ hS hce hcv hcls => ?_) (fun r u t H1 locs1 ht _ hp hB _ _ hS => ?_)
  · obtain ⟨⟨k, e1, e2⟩, hP⟩ := hB
    obtain ⟨z1, z2, z3⟩ := wrp_r hf e1
    have hw1 : Wh G s q.1 M L H1 locs1 := ⟨by rw [← ht]; exact hP, hS⟩
    subst e2
    by_cases hk : k = 0
    · subst hk
      have z1 := (if_pos rfl).symm.trans z1
      cases z1
    · have z1 := (if_neg hk).symm.trans z1
      rw [exn_s hk] at hcls
      refine x_catchI C htab rfl hce hcv hcls ?_
      refine lv_astore_n (lv' := [(3, .ref q9), (0, .ref (gA G 0)), (1, .int x1), (2, .ref (gA G (41 + 27)))]) C.1.1 C.1.2.1 dL_look_12 rfl hl (by decide) rfl (fun ls hl => ?_)
      refine lv_iconst (v := (1 : Int32)) C.1.1 C.1.2.1 dL_look_13 rfl ?_
      exact retw C hr hlk hw1 z2 z3 (Option.some.inj z1).symm (Nat.le_of_ble_eq_true rfl) (Nat.le_of_ble_eq_true rfl) dL_look_14
  · have hro := wrp_l hf hp
    subst hro
    have hw1 : Wh G s q.1 M L H1 locs1 := ⟨by rw [← ht]; exact hB.2, hS⟩
    refine lv_i2l (v := r.toInt64) C.1.1 C.1.2.1 dL_look_7 rfl ?_
    refine l_ast C hw1 lM_27 hnL (inb_in (by decide)) dL_look_8 (fun H locs hw => ?_)
    refine lv_goto (tgt := 15) C.1.1 C.1.2.1 dL_look_9 (by decide) ?_
    refine lv_iconst (v := (0 : Int32)) C.1.1 C.1.2.1 dL_look_15 rfl ?_
    exact retw C hr hlk hw rfl rfl rfl (Nat.le_of_ble_eq_true rfl) (Nat.le_of_ble_eq_true rfl) dL_look_16
def f_L_recount (X : TX) (L : TL) (x1 : Int32) (x2 : Int32) (x3 : Int32) (x4 : Int32) : Option (TX × TL × Int32) := (f_X8_recount X x1 x2 x3 x4).bind fun q => wrpL q L none (some (1 : Int32))
set_option maxRecDepth 20000 in
set_option maxHeartbeats 2000000 in
theorem c_L_recount {G : GP} {l : Launch} (hst : l.stackTraces = false) (hnL : 41 + 27 < gN G) {X M : TX} {L : TL} {x1 : Int32} {x2 : Int32} {x3 : Int32} {x4 : Int32} {ro : TX × TL × Int32} (hf : f_L_recount X L x1 x2 x3 x4 = some ro) : CWi G l yL_recount cL_recount 7 [(0, 13, 16, 13)] 8 168 2 [.ref (gA G 0), .int x1, .int x2, .int x3, .int x4, .ref (gA G (41 + 27))] X M L ro := by
  unfold f_L_recount at hf
  obtain ⟨q, h5, hf⟩ := o_bind hf
  refine cw_of (by decide +kernel) (Nat.le_of_ble_eq_true rfl) (tab := [⟨0, 13, 16, 13⟩]) rfl (fun p e s m args below meth c H locs ls C hr hlk htab hw hl => ?_)
  have C : Cx G p s m args c cL_recount 7 RL := C
  have hl : lv_has ls 7 [(0, .ref (gA G 0)), (1, .int x1), (2, .int x2), (3, .int x3), (4, .int x4), (5, .ref (gA G (41 + 27)))] := hl
  refine lv_aload C.1.1 C.1.2.1 dL_recount_0 (lv_at hl 5 rfl) ?_
  refine lv_iconst (v := (0 : Int32)) C.1.1 C.1.2.1 dL_recount_2 rfl ?_
  refine lv_aload_n C.1.1 C.1.2.1 dL_recount_3 rfl (lv_at hl 0 rfl) ?_
  refine lv_iload_n C.1.1 C.1.2.1 dL_recount_4 rfl (lv_at hl 1 rfl) ?_
  refine lv_iload_n C.1.1 C.1.2.1 dL_recount_5 rfl (lv_at hl 2 rfl) ?_
  refine lv_iload_n C.1.1 C.1.2.1 dL_recount_6 rfl (lv_at hl 3 rfl) ?_
  refine lv_iload C.1.1 C.1.2.1 dL_recount_7 (lv_at hl 4 rfl) ?_
  refine vx_calll (runx_VX C hw clL_76 (tb5 217 rfl rfl) (As := [.int x1, .int x2, .int x3, .int x4]) (rest := [.int (0 : Int32), .ref (gA G (41 + 27))]) oX_0 (c_X8_recount hst h5) rfl hl.1 rfl ⟨Nat.le_of_ble_eq_true rfl, Nat.le_of_ble_eq_true rfl⟩ ⟨Nat.le_of_ble_eq_true rfl, Nat.le_of_ble_eq_true rfl⟩ rfl (Nat.le_of_ble_eq_true rfl) dL_recount_9) hw.2 (fun _ _ h => h) (fun _ h => h) (fun _ _ h => h) (fun E ce q9 u t H1 locs1 ht hvm _ hB _ _ hS hce hcv hcls => ?_) (fun r u t H1 locs1 ht _ hp hB _ _ hS => ?_)
  · obtain ⟨⟨k, e1, e2⟩, hP⟩ := hB
    obtain ⟨z1, z2, z3⟩ := wrpL_r hf e1
    have hw1 : Wh G s q.1 M L H1 locs1 := ⟨by rw [← ht]; exact hP, hS⟩
    subst e2
    by_cases hk : k = 0
    · subst hk
      have z1 := (if_pos rfl).symm.trans z1
      cases z1
    · have z1 := (if_neg hk).symm.trans z1
      rw [exn_s hk] at hcls
      refine x_catchI C htab rfl hce hcv hcls ?_
      refine lv_astore (lv' := [(6, .ref q9), (0, .ref (gA G 0)), (1, .int x1), (2, .int x2), (3, .int x3), (4, .int x4), (5, .ref (gA G (41 + 27)))]) C.1.1 C.1.2.1 dL_recount_16 hl (by decide) rfl (fun ls hl => ?_)
      refine lv_iconst (v := (1 : Int32)) C.1.1 C.1.2.1 dL_recount_18 rfl ?_
      exact retw C hr hlk hw1 z2 z3 (Option.some.inj z1).symm (Nat.le_of_ble_eq_true rfl) (Nat.le_of_ble_eq_true rfl) dL_recount_19
  · have hro := wrpL_l hf hp
    subst hro
    have hw1 : Wh G s q.1 M L H1 locs1 := ⟨by rw [← ht]; exact hB.2, hS⟩
    refine l_ast C hw1 lM_27 hnL (inb_in (by decide)) dL_recount_12 (fun H locs hw => ?_)
    refine lv_goto (tgt := 20) C.1.1 C.1.2.1 dL_recount_13 (by decide) ?_
    refine lv_iconst (v := (0 : Int32)) C.1.1 C.1.2.1 dL_recount_20 rfl ?_
    exact retw C hr hlk hw rfl rfl rfl (Nat.le_of_ble_eq_true rfl) (Nat.le_of_ble_eq_true rfl) dL_recount_21
def f_L_smallest (X : TX) (L : TL) (x1 : Int32) : Option (TX × TL × Int32) := (f_X8_smallest X x1).bind fun q => wrp q L none (some (1 : Int32))
set_option maxRecDepth 20000 in
set_option maxHeartbeats 2000000 in
theorem c_L_smallest {G : GP} {l : Launch} (hst : l.stackTraces = false) (hnL : 41 + 27 < gN G) {X M : TX} {L : TL} {x1 : Int32} {ro : TX × TL × Int32} (hf : f_L_smallest X L x1 = some ro) : CWi G l yL_smallest cL_smallest 4 [(0, 9, 12, 13)] 8 167 1 [.ref (gA G 0), .int x1, .ref (gA G (41 + 27))] X M L ro := by
  unfold f_L_smallest at hf
  obtain ⟨q, h5, hf⟩ := o_bind hf
  refine cw_of (by decide +kernel) (Nat.le_of_ble_eq_true rfl) (tab := [⟨0, 9, 12, 13⟩]) rfl (fun p e s m args below meth c H locs ls C hr hlk htab hw hl => ?_)
  have C : Cx G p s m args c cL_smallest 4 RL := C
  have hl : lv_has ls 4 [(0, .ref (gA G 0)), (1, .int x1), (2, .ref (gA G (41 + 27)))] := hl
  refine lv_aload_n C.1.1 C.1.2.1 dL_smallest_0 rfl (lv_at hl 2 rfl) ?_
  refine lv_iconst (v := (0 : Int32)) C.1.1 C.1.2.1 dL_smallest_1 rfl ?_
  refine lv_aload_n C.1.1 C.1.2.1 dL_smallest_2 rfl (lv_at hl 0 rfl) ?_
  refine lv_iload_n C.1.1 C.1.2.1 dL_smallest_3 rfl (lv_at hl 1 rfl) ?_
  refine vx_calli (runx_VX C hw clL_80 (tb5 231 rfl rfl) (As := [.int x1]) (rest := [.int (0 : Int32), .ref (gA G (41 + 27))]) oX_0 (c_X8_smallest hst h5) rfl hl.1 rfl ⟨Nat.le_of_ble_eq_true rfl, Nat.le_of_ble_eq_true rfl⟩ ⟨Nat.le_of_ble_eq_true rfl, Nat.le_of_ble_eq_true rfl⟩ rfl (Nat.le_of_ble_eq_true rfl) dL_smallest_4) hw.2 (fun _ _ h => h) (fun _ h => h) (fun _ _ h => h) (fun E ce q9 u t H1 locs1 ht hvm _ hB _ _ hS hce hcv hcls => ?_) (fun r u t H1 locs1 ht _ hp hB _ _ hS => ?_)
  · obtain ⟨⟨k, e1, e2⟩, hP⟩ := hB
    obtain ⟨z1, z2, z3⟩ := wrp_r hf e1
    have hw1 : Wh G s q.1 M L H1 locs1 := ⟨by rw [← ht]; exact hP, hS⟩
    subst e2
    by_cases hk : k = 0
    · subst hk
      have z1 := (if_pos rfl).symm.trans z1
      cases z1
    · have z1 := (if_neg hk).symm.trans z1
      rw [exn_s hk] at hcls
      refine x_catchI C htab rfl hce hcv hcls ?_
      refine lv_astore_n (lv' := [(3, .ref q9), (0, .ref (gA G 0)), (1, .int x1), (2, .ref (gA G (41 + 27)))]) C.1.1 C.1.2.1 dL_smallest_12 rfl hl (by decide) rfl (fun ls hl => ?_)
      refine lv_iconst (v := (1 : Int32)) C.1.1 C.1.2.1 dL_smallest_13 rfl ?_
      exact retw C hr hlk hw1 z2 z3 (Option.some.inj z1).symm (Nat.le_of_ble_eq_true rfl) (Nat.le_of_ble_eq_true rfl) dL_smallest_14
  · have hro := wrp_l hf hp
    subst hro
    have hw1 : Wh G s q.1 M L H1 locs1 := ⟨by rw [← ht]; exact hB.2, hS⟩
    refine lv_i2l (v := r.toInt64) C.1.1 C.1.2.1 dL_smallest_7 rfl ?_
    refine l_ast C hw1 lM_27 hnL (inb_in (by decide)) dL_smallest_8 (fun H locs hw => ?_)
    refine lv_goto (tgt := 15) C.1.1 C.1.2.1 dL_smallest_9 (by decide) ?_
    refine lv_iconst (v := (0 : Int32)) C.1.1 C.1.2.1 dL_smallest_15 rfl ?_
    exact retw C hr hlk hw rfl rfl rfl (Nat.le_of_ble_eq_true rfl) (Nat.le_of_ble_eq_true rfl) dL_smallest_16
def f_L_closest (X : TX) (L : TL) (x1 : Int32) : Option (TX × TL × Int32) := (f_X8_closest X x1).bind fun q => wrp q L none (some (1 : Int32))
set_option maxRecDepth 20000 in
set_option maxHeartbeats 2000000 in
theorem c_L_closest {G : GP} {l : Launch} (hst : l.stackTraces = false) (hnL : 41 + 27 < gN G) {X M : TX} {L : TL} {x1 : Int32} {ro : TX × TL × Int32} (hf : f_L_closest X L x1 = some ro) : CWi G l yL_closest cL_closest 4 [(0, 9, 12, 13)] 8 166 1 [.ref (gA G 0), .int x1, .ref (gA G (41 + 27))] X M L ro := by
  unfold f_L_closest at hf
  obtain ⟨q, h5, hf⟩ := o_bind hf
  refine cw_of (by decide +kernel) (Nat.le_of_ble_eq_true rfl) (tab := [⟨0, 9, 12, 13⟩]) rfl (fun p e s m args below meth c H locs ls C hr hlk htab hw hl => ?_)
  have C : Cx G p s m args c cL_closest 4 RL := C
  have hl : lv_has ls 4 [(0, .ref (gA G 0)), (1, .int x1), (2, .ref (gA G (41 + 27)))] := hl
  refine lv_aload_n C.1.1 C.1.2.1 dL_closest_0 rfl (lv_at hl 2 rfl) ?_
  refine lv_iconst (v := (0 : Int32)) C.1.1 C.1.2.1 dL_closest_1 rfl ?_
  refine lv_aload_n C.1.1 C.1.2.1 dL_closest_2 rfl (lv_at hl 0 rfl) ?_
  refine lv_iload_n C.1.1 C.1.2.1 dL_closest_3 rfl (lv_at hl 1 rfl) ?_
  refine vx_calli (runx_VX C hw clL_83 (tb5 239 rfl rfl) (As := [.int x1]) (rest := [.int (0 : Int32), .ref (gA G (41 + 27))]) oX_0 (c_X8_closest hst h5) rfl hl.1 rfl ⟨Nat.le_of_ble_eq_true rfl, Nat.le_of_ble_eq_true rfl⟩ ⟨Nat.le_of_ble_eq_true rfl, Nat.le_of_ble_eq_true rfl⟩ rfl (Nat.le_of_ble_eq_true rfl) dL_closest_4) hw.2 (fun _ _ h => h) (fun _ h => h) (fun _ _ h => h) (fun E ce q9 u t H1 locs1 ht hvm _ hB _ _ hS hce hcv hcls => ?_) (fun r u t H1 locs1 ht _ hp hB _ _ hS => ?_)
  · obtain ⟨⟨k, e1, e2⟩, hP⟩ := hB
    obtain ⟨z1, z2, z3⟩ := wrp_r hf e1
    have hw1 : Wh G s q.1 M L H1 locs1 := ⟨by rw [← ht]; exact hP, hS⟩
    subst e2
    by_cases hk : k = 0
    · subst hk
      have z1 := (if_pos rfl).symm.trans z1
      cases z1
    · have z1 := (if_neg hk).symm.trans z1
      rw [exn_s hk] at hcls
      refine x_catchI C htab rfl hce hcv hcls ?_
      refine lv_astore_n (lv' := [(3, .ref q9), (0, .ref (gA G 0)), (1, .int x1), (2, .ref (gA G (41 + 27)))]) C.1.1 C.1.2.1 dL_closest_12 rfl hl (by decide) rfl (fun ls hl => ?_)
      refine lv_iconst (v := (1 : Int32)) C.1.1 C.1.2.1 dL_closest_13 rfl ?_
      exact retw C hr hlk hw1 z2 z3 (Option.some.inj z1).symm (Nat.le_of_ble_eq_true rfl) (Nat.le_of_ble_eq_true rfl) dL_closest_14
  · have hro := wrp_l hf hp
    subst hro
    have hw1 : Wh G s q.1 M L H1 locs1 := ⟨by rw [← ht]; exact hB.2, hS⟩
    refine lv_i2l (v := r.toInt64) C.1.1 C.1.2.1 dL_closest_7 rfl ?_
    refine l_ast C hw1 lM_27 hnL (inb_in (by decide)) dL_closest_8 (fun H locs hw => ?_)
    refine lv_goto (tgt := 15) C.1.1 C.1.2.1 dL_closest_9 (by decide) ?_
    refine lv_iconst (v := (0 : Int32)) C.1.1 C.1.2.1 dL_closest_15 rfl ?_
    exact retw C hr hlk hw rfl rfl rfl (Nat.le_of_ble_eq_true rfl) (Nat.le_of_ble_eq_true rfl) dL_closest_16
def f_L_tide (X : TX) (L : TL) (x1 : Int32) : Option (TX × TL × Int32) := (f_X8_tide X x1).bind fun q => wrp q L none (some (1 : Int32))
set_option maxRecDepth 20000 in
set_option maxHeartbeats 2000000 in
theorem c_L_tide {G : GP} {l : Launch} (hst : l.stackTraces = false) (hnL : 41 + 27 < gN G) {X M : TX} {L : TL} {x1 : Int32} {ro : TX × TL × Int32} (hf : f_L_tide X L x1 = some ro) : CWi G l yL_tide cL_tide 4 [(0, 9, 12, 13)] 8 162 1 [.ref (gA G 0), .int x1, .ref (gA G (41 + 27))] X M L ro := by
  unfold f_L_tide at hf
  obtain ⟨q, h5, hf⟩ := o_bind hf
  refine cw_of (by decide +kernel) (Nat.le_of_ble_eq_true rfl) (tab := [⟨0, 9, 12, 13⟩]) rfl (fun p e s m args below meth c H locs ls C hr hlk htab hw hl => ?_)
  have C : Cx G p s m args c cL_tide 4 RL := C
  have hl : lv_has ls 4 [(0, .ref (gA G 0)), (1, .int x1), (2, .ref (gA G (41 + 27)))] := hl
  refine lv_aload_n C.1.1 C.1.2.1 dL_tide_0 rfl (lv_at hl 2 rfl) ?_
  refine lv_iconst (v := (0 : Int32)) C.1.1 C.1.2.1 dL_tide_1 rfl ?_
  refine lv_aload_n C.1.1 C.1.2.1 dL_tide_2 rfl (lv_at hl 0 rfl) ?_
  refine lv_iload_n C.1.1 C.1.2.1 dL_tide_3 rfl (lv_at hl 1 rfl) ?_
  refine vx_calli (runx_VX C hw clL_86 (tb6 8 rfl rfl) (As := [.int x1]) (rest := [.int (0 : Int32), .ref (gA G (41 + 27))]) oX_0 (c_X8_tide hst h5) rfl hl.1 rfl ⟨Nat.le_of_ble_eq_true rfl, Nat.le_of_ble_eq_true rfl⟩ ⟨Nat.le_of_ble_eq_true rfl, Nat.le_of_ble_eq_true rfl⟩ rfl (Nat.le_of_ble_eq_true rfl) dL_tide_4) hw.2 (fun _ _ h => h) (fun _ h => h) (fun _ _ h => h) (fun E ce q9 u t H1 locs1 ht hvm _ hB _ _ hS hce hcv hcls => ?_) (fun r u t H1 locs1 ht _ hp hB _ _ hS => ?_)
  · obtain ⟨⟨k, e1, e2⟩, hP⟩ := hB
    obtain ⟨z1, z2, z3⟩ := wrp_r hf e1
    have hw1 : Wh G s q.1 M L H1 locs1 := ⟨by rw [← ht]; exact hP, hS⟩
    subst e2
    by_cases hk : k = 0
    · subst hk
      have z1 := (if_pos rfl).symm.trans z1
      cases z1
    · have z1 := (if_neg hk).symm.trans z1
      rw [exn_s hk] at hcls
      refine x_catchI C htab rfl hce hcv hcls ?_
      refine lv_astore_n (lv' := [(3, .ref q9), (0, .ref (gA G 0)), (1, .int x1), (2, .ref (gA G (41 + 27)))]) C.1.1 C.1.2.1 dL_tide_12 rfl hl (by decide) rfl (fun ls hl => ?_)
      refine lv_iconst (v := (1 : Int32)) C.1.1 C.1.2.1 dL_tide_13 rfl ?_
      exact retw C hr hlk hw1 z2 z3 (Option.some.inj z1).symm (Nat.le_of_ble_eq_true rfl) (Nat.le_of_ble_eq_true rfl) dL_tide_14
  · have hro := wrp_l hf hp
    subst hro
    have hw1 : Wh G s q.1 M L H1 locs1 := ⟨by rw [← ht]; exact hB.2, hS⟩
    refine lv_i2l (v := r.toInt64) C.1.1 C.1.2.1 dL_tide_7 rfl ?_
    refine l_ast C hw1 lM_27 hnL (inb_in (by decide)) dL_tide_8 (fun H locs hw => ?_)
    refine lv_goto (tgt := 15) C.1.1 C.1.2.1 dL_tide_9 (by decide) ?_
    refine lv_iconst (v := (0 : Int32)) C.1.1 C.1.2.1 dL_tide_15 rfl ?_
    exact retw C hr hlk hw rfl rfl rfl (Nat.le_of_ble_eq_true rfl) (Nat.le_of_ble_eq_true rfl) dL_tide_16
def f_L_flip (X : TX) (L : TL) (x1 : Int32) : Option (TX × TL × Int32) := (f_X8_flip X x1).bind fun q => wrp q L (some (1 : Int32)) none
set_option maxRecDepth 20000 in
set_option maxHeartbeats 2000000 in
theorem c_L_flip {G : GP} {l : Launch} (hst : l.stackTraces = false) (hnL : 41 + 27 < gN G) {X M : TX} {L : TL} {x1 : Int32} {ro : TX × TL × Int32} (hf : f_L_flip X L x1 = some ro) : CWi G l yL_flip cL_flip 4 [(0, 9, 12, 31)] 9 183 1 [.ref (gA G 0), .int x1, .ref (gA G (41 + 27))] X M L ro := by
  unfold f_L_flip at hf
  obtain ⟨q, h5, hf⟩ := o_bind hf
  refine cw_of (by decide +kernel) (Nat.le_of_ble_eq_true rfl) (tab := [⟨0, 9, 12, 31⟩]) rfl (fun p e s m args below meth c H locs ls C hr hlk htab hw hl => ?_)
  have C : Cx G p s m args c cL_flip 4 RL := C
  have hl : lv_has ls 4 [(0, .ref (gA G 0)), (1, .int x1), (2, .ref (gA G (41 + 27)))] := hl
  refine lv_aload_n C.1.1 C.1.2.1 dL_flip_0 rfl (lv_at hl 2 rfl) ?_
  refine lv_iconst (v := (0 : Int32)) C.1.1 C.1.2.1 dL_flip_1 rfl ?_
  refine lv_aload_n C.1.1 C.1.2.1 dL_flip_2 rfl (lv_at hl 0 rfl) ?_
  refine lv_iload_n C.1.1 C.1.2.1 dL_flip_3 rfl (lv_at hl 1 rfl) ?_
  refine vx_calli (runx_VX C hw clL_89 (tb6 17 rfl rfl) (As := [.int x1]) (rest := [.int (0 : Int32), .ref (gA G (41 + 27))]) oX_0 (c_X8_flip hst h5) rfl hl.1 rfl ⟨Nat.le_of_ble_eq_true rfl, Nat.le_of_ble_eq_true rfl⟩ ⟨Nat.le_of_ble_eq_true rfl, Nat.le_of_ble_eq_true rfl⟩ rfl (Nat.le_of_ble_eq_true rfl) dL_flip_4) hw.2 (fun _ _ h => h) (fun _ h => h) (fun _ _ h => h) (fun E ce q9 u t H1 locs1 ht hvm _ hB _ _ hS hce hcv hcls => ?_) (fun r u t H1 locs1 ht _ hp hB _ _ hS => ?_)
  · obtain ⟨⟨k, e1, e2⟩, hP⟩ := hB
    obtain ⟨z1, z2, z3⟩ := wrp_r hf e1
    have hw1 : Wh G s q.1 M L H1 locs1 := ⟨by rw [← ht]; exact hP, hS⟩
    subst e2
    by_cases hk : k = 0
    · subst hk
      have z1 := (if_pos rfl).symm.trans z1
      refine x_catchN C htab rfl hce hcv hcls ?_
      refine lv_astore_n (lv' := [(3, .ref q9), (0, .ref (gA G 0)), (1, .int x1), (2, .ref (gA G (41 + 27)))]) C.1.1 C.1.2.1 dL_flip_12 rfl hl (by decide) rfl (fun ls hl => ?_)
      refine lv_iconst (v := (1 : Int32)) C.1.1 C.1.2.1 dL_flip_13 rfl ?_
      exact retw C hr hlk hw1 z2 z3 (Option.some.inj z1).symm (Nat.le_of_ble_eq_true rfl) (Nat.le_of_ble_eq_true rfl) dL_flip_14
    · have z1 := (if_neg hk).symm.trans z1
      cases z1
  · have hro := wrp_l hf hp
    subst hro
    have hw1 : Wh G s q.1 M L H1 locs1 := ⟨by rw [← ht]; exact hB.2, hS⟩
    refine lv_i2l (v := r.toInt64) C.1.1 C.1.2.1 dL_flip_7 rfl ?_
    refine l_ast C hw1 lM_27 hnL (inb_in (by decide)) dL_flip_8 (fun H locs hw => ?_)
    refine lv_goto (tgt := 15) C.1.1 C.1.2.1 dL_flip_9 (by decide) ?_
    refine lv_iconst (v := (0 : Int32)) C.1.1 C.1.2.1 dL_flip_15 rfl ?_
    exact retw C hr hlk hw rfl rfl rfl (Nat.le_of_ble_eq_true rfl) (Nat.le_of_ble_eq_true rfl) dL_flip_16
def f_L_cluster (X : TX) (L : TL) (x1 : Int32) : Option (TX × TL × Int32) := (f_X8_cluster X x1).bind fun q => wrp q L (some (1 : Int32)) none
set_option maxRecDepth 20000 in
set_option maxHeartbeats 2000000 in
theorem c_L_cluster {G : GP} {l : Launch} (hst : l.stackTraces = false) (hnL : 41 + 27 < gN G) {X M : TX} {L : TL} {x1 : Int32} {ro : TX × TL × Int32} (hf : f_L_cluster X L x1 = some ro) : CWi G l yL_cluster cL_cluster 4 [(0, 9, 12, 31)] 9 183 1 [.ref (gA G 0), .int x1, .ref (gA G (41 + 27))] X M L ro := by
  unfold f_L_cluster at hf
  obtain ⟨q, h5, hf⟩ := o_bind hf
  refine cw_of (by decide +kernel) (Nat.le_of_ble_eq_true rfl) (tab := [⟨0, 9, 12, 31⟩]) rfl (fun p e s m args below meth c H locs ls C hr hlk htab hw hl => ?_)
  have C : Cx G p s m args c cL_cluster 4 RL := C
  have hl : lv_has ls 4 [(0, .ref (gA G 0)), (1, .int x1), (2, .ref (gA G (41 + 27)))] := hl
  refine lv_aload_n C.1.1 C.1.2.1 dL_cluster_0 rfl (lv_at hl 2 rfl) ?_
  refine lv_iconst (v := (0 : Int32)) C.1.1 C.1.2.1 dL_cluster_1 rfl ?_
  refine lv_aload_n C.1.1 C.1.2.1 dL_cluster_2 rfl (lv_at hl 0 rfl) ?_
  refine lv_iload_n C.1.1 C.1.2.1 dL_cluster_3 rfl (lv_at hl 1 rfl) ?_
  refine vx_calli (runx_VX C hw clL_92 (tb6 24 rfl rfl) (As := [.int x1]) (rest := [.int (0 : Int32), .ref (gA G (41 + 27))]) oX_0 (c_X8_cluster hst h5) rfl hl.1 rfl ⟨Nat.le_of_ble_eq_true rfl, Nat.le_of_ble_eq_true rfl⟩ ⟨Nat.le_of_ble_eq_true rfl, Nat.le_of_ble_eq_true rfl⟩ rfl (Nat.le_of_ble_eq_true rfl) dL_cluster_4) hw.2 (fun _ _ h => h) (fun _ h => h) (fun _ _ h => h) (fun E ce q9 u t H1 locs1 ht hvm _ hB _ _ hS hce hcv hcls => ?_) (fun r u t H1 locs1 ht _ hp hB _ _ hS => ?_)
  · obtain ⟨⟨k, e1, e2⟩, hP⟩ := hB
    obtain ⟨z1, z2, z3⟩ := wrp_r hf e1
    have hw1 : Wh G s q.1 M L H1 locs1 := ⟨by rw [← ht]; exact hP, hS⟩
    subst e2
    by_cases hk : k = 0
    · subst hk
      have z1 := (if_pos rfl).symm.trans z1
      refine x_catchN C htab rfl hce hcv hcls ?_
      refine lv_astore_n (lv' := [(3, .ref q9), (0, .ref (gA G 0)), (1, .int x1), (2, .ref (gA G (41 + 27)))]) C.1.1 C.1.2.1 dL_cluster_12 rfl hl (by decide) rfl (fun ls hl => ?_)
      refine lv_iconst (v := (1 : Int32)) C.1.1 C.1.2.1 dL_cluster_13 rfl ?_
      exact retw C hr hlk hw1 z2 z3 (Option.some.inj z1).symm (Nat.le_of_ble_eq_true rfl) (Nat.le_of_ble_eq_true rfl) dL_cluster_14
    · have z1 := (if_neg hk).symm.trans z1
      cases z1
  · have hro := wrp_l hf hp
    subst hro
    have hw1 : Wh G s q.1 M L H1 locs1 := ⟨by rw [← ht]; exact hB.2, hS⟩
    refine lv_i2l (v := r.toInt64) C.1.1 C.1.2.1 dL_cluster_7 rfl ?_
    refine l_ast C hw1 lM_27 hnL (inb_in (by decide)) dL_cluster_8 (fun H locs hw => ?_)
    refine lv_goto (tgt := 15) C.1.1 C.1.2.1 dL_cluster_9 (by decide) ?_
    refine lv_iconst (v := (0 : Int32)) C.1.1 C.1.2.1 dL_cluster_15 rfl ?_
    exact retw C hr hlk hw rfl rfl rfl (Nat.le_of_ble_eq_true rfl) (Nat.le_of_ble_eq_true rfl) dL_cluster_16
def f_L_strongest (X : TX) (L : TL) (x1 : Int32) (x2 : Int32) : Option (TX × TL × Int32) := (f_X8_strongest X x1 x2).bind fun q => wrp q L (some (1 : Int32)) (some (2 : Int32))
set_option maxRecDepth 20000 in
set_option maxHeartbeats 2000000 in
theorem c_L_strongest {G : GP} {l : Launch} (hst : l.stackTraces = false) (hnL : 41 + 27 < gN G) {X M : TX} {L : TL} {x1 : Int32} {x2 : Int32} {ro : TX × TL × Int32} (hf : f_L_strongest X L x1 x2 = some ro) : CWi G l yL_strongest cL_strongest 5 [(0, 10, 13, 31), (0, 10, 17, 13)] 9 188 2 [.ref (gA G 0), .int x1, .int x2, .ref (gA G (41 + 27))] X M L ro := by
  unfold f_L_strongest at hf
  obtain ⟨q, h5, hf⟩ := o_bind hf
  refine cw_of (by decide +kernel) (Nat.le_of_ble_eq_true rfl) (tab := [⟨0, 10, 13, 31⟩, ⟨0, 10, 17, 13⟩]) rfl (fun p e s m args below meth c H locs ls C hr hlk htab hw hl => ?_)
  have C : Cx G p s m args c cL_strongest 5 RL := C
  have hl : lv_has ls 5 [(0, .ref (gA G 0)), (1, .int x1), (2, .int x2), (3, .ref (gA G (41 + 27)))] := hl
  refine lv_aload_n C.1.1 C.1.2.1 dL_strongest_0 rfl (lv_at hl 3 rfl) ?_
  refine lv_iconst (v := (0 : Int32)) C.1.1 C.1.2.1 dL_strongest_1 rfl ?_
  refine lv_aload_n C.1.1 C.1.2.1 dL_strongest_2 rfl (lv_at hl 0 rfl) ?_
  refine lv_iload_n C.1.1 C.1.2.1 dL_strongest_3 rfl (lv_at hl 1 rfl) ?_
  refine lv_iload_n C.1.1 C.1.2.1 dL_strongest_4 rfl (lv_at hl 2 rfl) ?_
  refine vx_calli (runx_VX C hw clL_95 (tb6 32 rfl rfl) (As := [.int x1, .int x2]) (rest := [.int (0 : Int32), .ref (gA G (41 + 27))]) oX_0 (c_X8_strongest hst h5) rfl hl.1 rfl ⟨Nat.le_of_ble_eq_true rfl, Nat.le_of_ble_eq_true rfl⟩ ⟨Nat.le_of_ble_eq_true rfl, Nat.le_of_ble_eq_true rfl⟩ rfl (Nat.le_of_ble_eq_true rfl) dL_strongest_5) hw.2 (fun _ _ h => h) (fun _ h => h) (fun _ _ h => h) (fun E ce q9 u t H1 locs1 ht hvm _ hB _ _ hS hce hcv hcls => ?_) (fun r u t H1 locs1 ht _ hp hB _ _ hS => ?_)
  · obtain ⟨⟨k, e1, e2⟩, hP⟩ := hB
    obtain ⟨z1, z2, z3⟩ := wrp_r hf e1
    have hw1 : Wh G s q.1 M L H1 locs1 := ⟨by rw [← ht]; exact hP, hS⟩
    subst e2
    by_cases hk : k = 0
    · subst hk
      have z1 := (if_pos rfl).symm.trans z1
      refine x_catchN C htab rfl hce hcv hcls ?_
      refine lv_astore (lv' := [(4, .ref q9), (0, .ref (gA G 0)), (1, .int x1), (2, .int x2), (3, .ref (gA G (41 + 27)))]) C.1.1 C.1.2.1 dL_strongest_13 hl (by decide) rfl (fun ls hl => ?_)
      refine lv_iconst (v := (1 : Int32)) C.1.1 C.1.2.1 dL_strongest_15 rfl ?_
      exact retw C hr hlk hw1 z2 z3 (Option.some.inj z1).symm (Nat.le_of_ble_eq_true rfl) (Nat.le_of_ble_eq_true rfl) dL_strongest_16
    · have z1 := (if_neg hk).symm.trans z1
      rw [exn_s hk] at hcls
      refine x_catchI2 C htab rfl hce hcv hcls ?_
      refine lv_astore (lv' := [(4, .ref q9), (0, .ref (gA G 0)), (1, .int x1), (2, .int x2), (3, .ref (gA G (41 + 27)))]) C.1.1 C.1.2.1 dL_strongest_17 hl (by decide) rfl (fun ls hl => ?_)
      refine lv_iconst (v := (2 : Int32)) C.1.1 C.1.2.1 dL_strongest_19 rfl ?_
      exact retw C hr hlk hw1 z2 z3 (Option.some.inj z1).symm (Nat.le_of_ble_eq_true rfl) (Nat.le_of_ble_eq_true rfl) dL_strongest_20
  · have hro := wrp_l hf hp
    subst hro
    have hw1 : Wh G s q.1 M L H1 locs1 := ⟨by rw [← ht]; exact hB.2, hS⟩
    refine lv_i2l (v := r.toInt64) C.1.1 C.1.2.1 dL_strongest_8 rfl ?_
    refine l_ast C hw1 lM_27 hnL (inb_in (by decide)) dL_strongest_9 (fun H locs hw => ?_)
    refine lv_goto (tgt := 21) C.1.1 C.1.2.1 dL_strongest_10 (by decide) ?_
    refine lv_iconst (v := (0 : Int32)) C.1.1 C.1.2.1 dL_strongest_21 rfl ?_
    exact retw C hr hlk hw rfl rfl rfl (Nat.le_of_ble_eq_true rfl) (Nat.le_of_ble_eq_true rfl) dL_strongest_22
def f_L_time (X : TX) (L : TL) (x1 : Int32) (x2 : Int32) (x3 : Int32) (x4 : Int32) : Option (TX × TL × Int32) := (f_X8_time X x1 x2 x3 x4).bind fun q => wrp q L none (some (1 : Int32))
set_option maxRecDepth 20000 in
set_option maxHeartbeats 2000000 in
theorem c_L_time {G : GP} {l : Launch} (hst : l.stackTraces = false) (hnL : 41 + 27 < gN G) {X M : TX} {L : TL} {x1 : Int32} {x2 : Int32} {x3 : Int32} {x4 : Int32} {ro : TX × TL × Int32} (hf : f_L_time X L x1 x2 x3 x4 = some ro) : CWi G l yL_time cL_time 7 [(0, 14, 17, 13)] 9 218 2 [.ref (gA G 0), .int x1, .int x2, .int x3, .int x4, .ref (gA G (41 + 27))] X M L ro := by
  unfold f_L_time at hf
  obtain ⟨q, h5, hf⟩ := o_bind hf
  refine cw_of (by decide +kernel) (Nat.le_of_ble_eq_true rfl) (tab := [⟨0, 14, 17, 13⟩]) rfl (fun p e s m args below meth c H locs ls C hr hlk htab hw hl => ?_)
  have C : Cx G p s m args c cL_time 7 RL := C
  have hl : lv_has ls 7 [(0, .ref (gA G 0)), (1, .int x1), (2, .int x2), (3, .int x3), (4, .int x4), (5, .ref (gA G (41 + 27)))] := hl
  refine lv_aload C.1.1 C.1.2.1 dL_time_0 (lv_at hl 5 rfl) ?_
  refine lv_iconst (v := (0 : Int32)) C.1.1 C.1.2.1 dL_time_2 rfl ?_
  refine lv_aload_n C.1.1 C.1.2.1 dL_time_3 rfl (lv_at hl 0 rfl) ?_
  refine lv_iload_n C.1.1 C.1.2.1 dL_time_4 rfl (lv_at hl 1 rfl) ?_
  refine lv_iload_n C.1.1 C.1.2.1 dL_time_5 rfl (lv_at hl 2 rfl) ?_
  refine lv_iload_n C.1.1 C.1.2.1 dL_time_6 rfl (lv_at hl 3 rfl) ?_
  refine lv_iload C.1.1 C.1.2.1 dL_time_7 (lv_at hl 4 rfl) ?_
  refine vx_calli (runx_VX C hw clL_98 (tb6 39 rfl rfl) (As := [.int x1, .int x2, .int x3, .int x4]) (rest := [.int (0 : Int32), .ref (gA G (41 + 27))]) oX_0 (c_X8_time hst h5) rfl hl.1 rfl ⟨Nat.le_of_ble_eq_true rfl, Nat.le_of_ble_eq_true rfl⟩ ⟨Nat.le_of_ble_eq_true rfl, Nat.le_of_ble_eq_true rfl⟩ rfl (Nat.le_of_ble_eq_true rfl) dL_time_9) hw.2 (fun _ _ h => h) (fun _ h => h) (fun _ _ h => h) (fun E ce q9 u t H1 locs1 ht hvm _ hB _ _ hS hce hcv hcls => ?_) (fun r u t H1 locs1 ht _ hp hB _ _ hS => ?_)
  · obtain ⟨⟨k, e1, e2⟩, hP⟩ := hB
    obtain ⟨z1, z2, z3⟩ := wrp_r hf e1
    have hw1 : Wh G s q.1 M L H1 locs1 := ⟨by rw [← ht]; exact hP, hS⟩
    subst e2
    by_cases hk : k = 0
    · subst hk
      have z1 := (if_pos rfl).symm.trans z1
      cases z1
    · have z1 := (if_neg hk).symm.trans z1
      rw [exn_s hk] at hcls
      refine x_catchI C htab rfl hce hcv hcls ?_
      refine lv_astore (lv' := [(6, .ref q9), (0, .ref (gA G 0)), (1, .int x1), (2, .int x2), (3, .int x3), (4, .int x4), (5, .ref (gA G (41 + 27)))]) C.1.1 C.1.2.1 dL_time_17 hl (by decide) rfl (fun ls hl => ?_)
      refine lv_iconst (v := (1 : Int32)) C.1.1 C.1.2.1 dL_time_19 rfl ?_
      exact retw C hr hlk hw1 z2 z3 (Option.some.inj z1).symm (Nat.le_of_ble_eq_true rfl) (Nat.le_of_ble_eq_true rfl) dL_time_20
  · have hro := wrp_l hf hp
    subst hro
    have hw1 : Wh G s q.1 M L H1 locs1 := ⟨by rw [← ht]; exact hB.2, hS⟩
    refine lv_i2l (v := r.toInt64) C.1.1 C.1.2.1 dL_time_12 rfl ?_
    refine l_ast C hw1 lM_27 hnL (inb_in (by decide)) dL_time_13 (fun H locs hw => ?_)
    refine lv_goto (tgt := 21) C.1.1 C.1.2.1 dL_time_14 (by decide) ?_
    refine lv_iconst (v := (0 : Int32)) C.1.1 C.1.2.1 dL_time_21 rfl ?_
    exact retw C hr hlk hw rfl rfl rfl (Nat.le_of_ble_eq_true rfl) (Nat.le_of_ble_eq_true rfl) dL_time_22
def f_L_span (X : TX) (L : TL) (x1 : Int32) (x2 : Int32) (x3 : Int32) (x4 : Int32) (x5 : Int32) (x6 : Int32) : Option (TX × TL × Int32) := (f_X8_span X x1 x2 x3 x4 x5 x6).bind fun q => wrp q L none (some (1 : Int32))
set_option maxRecDepth 20000 in
set_option maxHeartbeats 2000000 in
theorem c_L_span {G : GP} {l : Launch} (hst : l.stackTraces = false) (hnL : 41 + 27 < gN G) {X M : TX} {L : TL} {x1 : Int32} {x2 : Int32} {x3 : Int32} {x4 : Int32} {x5 : Int32} {x6 : Int32} {ro : TX × TL × Int32} (hf : f_L_span X L x1 x2 x3 x4 x5 x6 = some ro) : CWi G l yL_span cL_span 9 [(0, 18, 21, 13)] 9 224 2 [.ref (gA G 0), .int x1, .int x2, .int x3, .int x4, .int x5, .int x6, .ref (gA G (41 + 27))] X M L ro := by
  unfold f_L_span at hf
  obtain ⟨q, h5, hf⟩ := o_bind hf
  refine cw_of (by decide +kernel) (Nat.le_of_ble_eq_true rfl) (tab := [⟨0, 18, 21, 13⟩]) rfl (fun p e s m args below meth c H locs ls C hr hlk htab hw hl => ?_)
  have C : Cx G p s m args c cL_span 9 RL := C
  have hl : lv_has ls 9 [(0, .ref (gA G 0)), (1, .int x1), (2, .int x2), (3, .int x3), (4, .int x4), (5, .int x5), (6, .int x6), (7, .ref (gA G (41 + 27)))] := hl
  refine lv_aload C.1.1 C.1.2.1 dL_span_0 (lv_at hl 7 rfl) ?_
  refine lv_iconst (v := (0 : Int32)) C.1.1 C.1.2.1 dL_span_2 rfl ?_
  refine lv_aload_n C.1.1 C.1.2.1 dL_span_3 rfl (lv_at hl 0 rfl) ?_
  refine lv_iload_n C.1.1 C.1.2.1 dL_span_4 rfl (lv_at hl 1 rfl) ?_
  refine lv_iload_n C.1.1 C.1.2.1 dL_span_5 rfl (lv_at hl 2 rfl) ?_
  refine lv_iload_n C.1.1 C.1.2.1 dL_span_6 rfl (lv_at hl 3 rfl) ?_
  refine lv_iload C.1.1 C.1.2.1 dL_span_7 (lv_at hl 4 rfl) ?_
  refine lv_iload C.1.1 C.1.2.1 dL_span_9 (lv_at hl 5 rfl) ?_
  refine lv_iload C.1.1 C.1.2.1 dL_span_11 (lv_at hl 6 rfl) ?_
  refine vx_calli (runx_VX C hw clL_102 (tb6 61 rfl rfl) (As := [.int x1, .int x2, .int x3, .int x4, .int x5, .int x6]) (rest := [.int (0 : Int32), .ref (gA G (41 + 27))]) oX_0 (c_X8_span hst h5) rfl hl.1 rfl ⟨Nat.le_of_ble_eq_true rfl, Nat.le_of_ble_eq_true rfl⟩ ⟨Nat.le_of_ble_eq_true rfl, Nat.le_of_ble_eq_true rfl⟩ rfl (Nat.le_of_ble_eq_true rfl) dL_span_13) hw.2 (fun _ _ h => h) (fun _ h => h) (fun _ _ h => h) (fun E ce q9 u t H1 locs1 ht hvm _ hB _ _ hS hce hcv hcls => ?_) (fun r u t H1 locs1 ht _ hp hB _ _ hS => ?_)
  · obtain ⟨⟨k, e1, e2⟩, hP⟩ := hB
    obtain ⟨z1, z2, z3⟩ := wrp_r hf e1
    have hw1 : Wh G s q.1 M L H1 locs1 := ⟨by rw [← ht]; exact hP, hS⟩
    subst e2
    by_cases hk : k = 0
    · subst hk
      have z1 := (if_pos rfl).symm.trans z1
      cases z1
    · have z1 := (if_neg hk).symm.trans z1
      rw [exn_s hk] at hcls
      refine x_catchI C htab rfl hce hcv hcls ?_
      refine lv_astore (lv' := [(8, .ref q9), (0, .ref (gA G 0)), (1, .int x1), (2, .int x2), (3, .int x3), (4, .int x4), (5, .int x5), (6, .int x6), (7, .ref (gA G (41 + 27)))]) C.1.1 C.1.2.1 dL_span_21 hl (by decide) rfl (fun ls hl => ?_)
      refine lv_iconst (v := (1 : Int32)) C.1.1 C.1.2.1 dL_span_23 rfl ?_
      exact retw C hr hlk hw1 z2 z3 (Option.some.inj z1).symm (Nat.le_of_ble_eq_true rfl) (Nat.le_of_ble_eq_true rfl) dL_span_24
  · have hro := wrp_l hf hp
    subst hro
    have hw1 : Wh G s q.1 M L H1 locs1 := ⟨by rw [← ht]; exact hB.2, hS⟩
    refine lv_i2l (v := r.toInt64) C.1.1 C.1.2.1 dL_span_16 rfl ?_
    refine l_ast C hw1 lM_27 hnL (inb_in (by decide)) dL_span_17 (fun H locs hw => ?_)
    refine lv_goto (tgt := 25) C.1.1 C.1.2.1 dL_span_18 (by decide) ?_
    refine lv_iconst (v := (0 : Int32)) C.1.1 C.1.2.1 dL_span_25 rfl ?_
    exact retw C hr hlk hw rfl rfl rfl (Nat.le_of_ble_eq_true rfl) (Nat.le_of_ble_eq_true rfl) dL_span_26
