def exn (k : Nat) : String := if k = 0 then "java/util/NoSuchElementException" else "java/lang/IllegalArgumentException"
def rx (f lo n : Nat) : Room := { frames := f, cells := n, slots := 6 * n, locals := lo }
abbrev xnm : List String := ["java/lang/RuntimeException", "java/lang/Exception"]
def xb {ρ σ : Type} (q : TX × (ρ ⊕ Nat)) (k : TX → ρ → Option (TX × (σ ⊕ Nat))) : Option (TX × (σ ⊕ Nat)) := match q.2 with
  | .inl r => k q.1 r
  | .inr n => some (q.1, .inr n)
theorem xb_l {ρ σ : Type} {q : TX × (ρ ⊕ Nat)} {k : TX → ρ → Option (TX × (σ ⊕ Nat))} {ro : TX × (σ ⊕ Nat)} {r : ρ} (h : xb q k = some ro) (e : q.2 = .inl r) : k q.1 r = some ro := by
  unfold xb at h
  rw [e] at h
  exact h
theorem xb_r {ρ σ : Type} {q : TX × (ρ ⊕ Nat)} {k : TX → ρ → Option (TX × (σ ⊕ Nat))} {ro : TX × (σ ⊕ Nat)} {n : Nat} (h : xb q k = some ro) (e : q.2 = .inr n) : ro = (q.1, .inr n) := by
  unfold xb at h
  rw [e] at h
  exact (Option.some.inj h).symm
abbrev Dxi (G : GP) (ro : TX × (Int32 ⊕ Nat)) (M : TX) (L : TL) : Array Value → State → Outcome → State → Prop := va_Qi (fun r' (_ : Unit) => ro.2 = .inl r') (fun _ t => Wd G ro.1 M L t) (AB G)
abbrev Dxl (G : GP) (ro : TX × (Int64 ⊕ Nat)) (M : TX) (L : TL) : Array Value → State → Outcome → State → Prop := va_Ql (fun r' (_ : Unit) => ro.2 = .inl r') (fun _ t => Wd G ro.1 M L t) (AB G)
abbrev Dxv (G : GP) (ro : TX × (Unit ⊕ Nat)) (M : TX) (L : TL) : Array Value → State → Outcome → State → Prop := va_Qv (fun (_ : Unit) => ro.2 = .inl ()) (fun _ t => Wd G ro.1 M L t) (AB G)
abbrev XD {ρ : Type} (G : GP) (ro : TX × (ρ ⊕ Nat)) (M : TX) (L : TL) : String → State → State → Prop := vx_X (fun (_ : Unit) => True) (fun E _ t => (∃ k, ro.2 = .inr k ∧ E = exn k) ∧ va_P (gD G) vwCl (wl (gN G) (gA G) (cW G ro.1 M L)) t.heap) (AB G)
abbrev CXi (G : GP) (l : Launch) (y : MethodName) (cc : ByteArray) (maxL : Nat) (ret : Option FieldType) (f lo n : Nat) (av : List Value) (X M : TX) (L : TL) (ro : TX × (Int32 ⊕ Nat)) : Prop :=
  vx_Met l y (.code y cc maxL ret :: TB) (rx f lo n) (Pd G av X M L) (Dxi G ro M L) (XD G ro M L) n (6 * n) (AB G)
abbrev CXl (G : GP) (l : Launch) (y : MethodName) (cc : ByteArray) (maxL : Nat) (ret : Option FieldType) (f lo n : Nat) (av : List Value) (X M : TX) (L : TL) (ro : TX × (Int64 ⊕ Nat)) : Prop :=
  vx_Met l y (.code y cc maxL ret :: TB) (rx f lo n) (Pd G av X M L) (Dxl G ro M L) (XD G ro M L) n (6 * n) (AB G)
abbrev CXv (G : GP) (l : Launch) (y : MethodName) (cc : ByteArray) (maxL : Nat) (ret : Option FieldType) (f lo n : Nat) (av : List Value) (X M : TX) (L : TL) (ro : TX × (Unit ⊕ Nat)) : Prop :=
  vx_Met l y (.code y cc maxL ret :: TB) (rx f lo n) (Pd G av X M L) (Dxv G ro M L) (XD G ro M L) n (6 * n) (AB G)
theorem va_P_kept {D : va_G} {cl : List vw_C} {ws : va_W} {H H1 : Heap} (h : va_P D cl ws H) (hq : ∀ q : Nat, q < H.size → H1[q]? = H[q]?) : va_P D cl ws H1 := by
  intro k q hk
  have h1 := h k q hk
  have e := hq q.1 h1.lt
  obtain ⟨a, x⟩ := q
  cases x with
  | inl x =>
    show H1[a]? = _
    rw [e]
    exact h1
  | inr x =>
    obtain ⟨r, hr, cell, h2, h3⟩ := h1
    exact ⟨r, hr, cell, by rw [e]; exact h2, h3⟩
section THROW
variable {p : Program} {l : Launch} {e : Env} {R : Room} {s : State} {m : MethodId} {args : Array Value} {below : List Frame} {meth : Method} {c : Code} {H : Heap} {locs : List Loc} {cells slots : Nat} {Q : State → Prop}
variable {cc : ByteArray} {pc : Nat} {ls : Array Slot} {rest : List Value} {G : GP} {nL : Nat} {own : String} {X M : TX} {L : TL} {Qc : Array Value → State → Outcome → State → Prop}
theorem at_1 (C : Cx G p s m args c cc nL RX8) : ∀ w ∈ vx_at0 RX8 377 (exn 1) xnm, w.before args s = true :=
  vx_hat (fun w h => C.1.2.2.2.2 _ (List.mem_filter.mpr ⟨(show ∀ w ∈ (vx_at0 RX8 377 (exn 1) xnm).filter goodWord, w ∈ lw_tbl by decide +kernel) w h, (List.mem_filter.mp h).2⟩))
    (show ∀ w ∈ (vx_at0 RX8 377 (exn 1) xnm).filter (fun w => !goodWord w), w ∈ [Cond.declares (Bundle.init0 "java/lang/RuntimeException"), Cond.declares (Bundle.init0 "java/lang/Exception"), Cond.declares (Bundle.init0 Bundle.tN), Cond.castable "java/lang/IllegalArgumentException" "java/lang/IllegalArgumentException"] by decide +kernel)
    (vx_c (va_Nw.use rfl (C.2.2.1 _ (nw2 219 rfl rfl))) (vx_c (va_Nw.use rfl (C.2.2.1 _ (nw2 221 rfl rfl))) (vx_c (va_Nw.use rfl (C.2.2.1 _ (nw2 223 rfl rfl))) (vx_c (va_Nw.use rfl (C.2.2.1 _ (nw2 218 rfl rfl))) vx_n))))
theorem at_0 (C : Cx G p s m args c cc nL RX8) : ∀ w ∈ vx_at0 RX8 380 (exn 0) xnm, w.before args s = true :=
  vx_hat (fun w h => C.1.2.2.2.2 _ (List.mem_filter.mpr ⟨(show ∀ w ∈ (vx_at0 RX8 380 (exn 0) xnm).filter goodWord, w ∈ lw_tbl by decide +kernel) w h, (List.mem_filter.mp h).2⟩))
    (show ∀ w ∈ (vx_at0 RX8 380 (exn 0) xnm).filter (fun w => !goodWord w), w ∈ [Cond.declares (Bundle.init0 "java/lang/RuntimeException"), Cond.declares (Bundle.init0 "java/lang/Exception"), Cond.declares (Bundle.init0 Bundle.tN), Cond.castable "java/util/NoSuchElementException" "java/util/NoSuchElementException"] by decide +kernel)
    (vx_c (va_Nw.use rfl (C.2.2.1 _ (nw2 219 rfl rfl))) (vx_c (va_Nw.use rfl (C.2.2.1 _ (nw2 221 rfl rfl))) (vx_c (va_Nw.use rfl (C.2.2.1 _ (nw2 223 rfl rfl))) (vx_c (va_Nw.use rfl (C.2.2.1 _ (nw4 236 rfl rfl))) vx_n))))
theorem x_thrown {ρ : Type} {ro : TX × (ρ ⊕ Nat)} {k : Nat} (hw : Wh G s X M L H locs) (hro : ro = (X, .inr k)) : ∀ t : State, s.vm.Alike t.vm → H.size ≤ t.heap.size → (∀ q : Nat, q < H.size → t.heap[q]? = H[q]?) → XD G ro M L (exn k) s t := by
  intro t hv hz hq
  subst hro
  exact ⟨(), trivial, ⟨⟨k, rfl, rfl⟩, va_P_kept hw.1 hq⟩, Nat.le_trans hw.2.1 hz, fun q h1 h2 => (hq q (Nat.lt_of_lt_of_le h1 hw.2.1)).trans (hw.2.2.1 q h1 h2)⟩
theorem x_throw1 {ρ : Type} {ro : TX × (ρ ⊕ Nat)} {mc ms : Nat} (C : Cx G p s m args c cc nL RX8) (hst : l.stackTraces = false) (hw : Wh G s X M L H locs) (hro : ro = (X, .inr 1)) (hls : ls.size = nL)
    (d0 : decode cc pc = .ok (.new 375, 3)) (d3 : decode cc (pc + 3) = .ok (.dup, 1)) (d4 : decode cc (pc + 4) = .ok (.invokespecial 377, 3)) (d7 : decode cc (pc + 7) = .ok (.athrow, 1)) (hnt : ∀ x ∈ c.exceptionTable.toList, False)
    (hR : 5 < R.frames ∧ (rest.map fun v => v.category).sum + 81 ≤ R.locals ∧ cells + 1 ≤ R.cells ∧ slots + 6 ≤ R.slots) (hlk : meth.locks = false) (hc : cells + 1 ≤ mc) (hs : slots + 6 ≤ ms) :
    W p l e R s m args below meth c H locs cells slots (vx_MQ below Qc (XD G ro M L) args s mc ms (AB G)) (F0 m pc ls rest) :=
  vx_throw0 (names := xnm) C.1.1 C.1.2.1 hst C.1.2.2.2.1 (by decide +kernel) (by decide +kernel) (C.1.2.2.2.2 (Cond.classLink RX8 375 (exn 1)) (tb2 216 rfl rfl)) (C.1.2.2.2.2 (Cond.initialized (exn 1)) (tb1 14 rfl rfl)) (at_1 C) (by decide +kernel)
    C.2.str.2.2.2.2.1 C.2.str.2.2.2.2.2.1 hw.2 (hls.trans C.1.2.2.1.symm) d0 d3 d4 d7 (fun x h => (hnt x h).elim) hR.1 hR.2.1 hR.2.2.1 hR.2.2.2 hlk (x_thrown hw hro) hw.2.2.2 hc hs
theorem x_throw0 {ρ : Type} {ro : TX × (ρ ⊕ Nat)} {mc ms : Nat} (C : Cx G p s m args c cc nL RX8) (hst : l.stackTraces = false) (hw : Wh G s X M L H locs) (hro : ro = (X, .inr 0)) (hls : ls.size = nL)
    (d0 : decode cc pc = .ok (.new 378, 3)) (d3 : decode cc (pc + 3) = .ok (.dup, 1)) (d4 : decode cc (pc + 4) = .ok (.invokespecial 380, 3)) (d7 : decode cc (pc + 7) = .ok (.athrow, 1)) (hnt : ∀ x ∈ c.exceptionTable.toList, False)
    (hR : 5 < R.frames ∧ (rest.map fun v => v.category).sum + 81 ≤ R.locals ∧ cells + 1 ≤ R.cells ∧ slots + 6 ≤ R.slots) (hlk : meth.locks = false) (hc : cells + 1 ≤ mc) (hs : slots + 6 ≤ ms) :
    W p l e R s m args below meth c H locs cells slots (vx_MQ below Qc (XD G ro M L) args s mc ms (AB G)) (F0 m pc ls rest) :=
  vx_throw0 (names := xnm) C.1.1 C.1.2.1 hst C.1.2.2.2.1 (by decide +kernel) (by decide +kernel) (C.1.2.2.2.2 (Cond.classLink RX8 378 (exn 0)) (tb4 234 rfl rfl)) (C.1.2.2.2.2 (Cond.initialized (exn 0)) (tb1 21 rfl rfl)) (at_0 C) (by decide +kernel)
    C.2.str.2.2.2.2.1 C.2.str.2.2.2.2.2.1 hw.2 (hls.trans C.1.2.2.1.symm) d0 d3 d4 d7 (fun x h => (hnt x h).elim) hR.1 hR.2.1 hR.2.2.1 hR.2.2.2 hlk (x_thrown hw hro) hw.2.2.2 hc hs
/-! ends -/
theorem retx_i {r : Int32} {ro : TX × (Int32 ⊕ Nat)} {mc ms : Nat} {XC : String → State → State → Prop} (C : Cx G p s m args c cc nL own) (hr : meth.sig.returnType = some .int) (hlk : meth.locks = false) (hw : Wh G s X M L H locs) (hro : ro = (X, .inl r)) (hc : cells ≤ mc) (hs : slots ≤ ms) (hdg : decode cc pc = .ok (.ireturn, 1)) :
    W p l e R s m args below meth c H locs cells slots (vx_MQ below (Dxi G ro M L) XC args s mc ms (AB G)) (F0 m pc ls [.int r]) := by
  subst hro
  exact vx_ret (W.widen hc hs (W.iret C.1.1 C.1.2.1 hr (fun t ht hW => ⟨⟨r, (), rfl, rfl, Wd.start C.2 hw ht hW⟩, hw.2.F ht⟩) hw.2.2.2 hdg hlk))
theorem retx_l {r : Int64} {ro : TX × (Int64 ⊕ Nat)} {mc ms : Nat} {XC : String → State → State → Prop} (C : Cx G p s m args c cc nL own) (hr : meth.sig.returnType = some .long) (hlk : meth.locks = false) (hw : Wh G s X M L H locs) (hro : ro = (X, .inl r)) (hc : cells ≤ mc) (hs : slots ≤ ms) (hdg : decode cc pc = .ok (.lreturn, 1)) :
    W p l e R s m args below meth c H locs cells slots (vx_MQ below (Dxl G ro M L) XC args s mc ms (AB G)) (F0 m pc ls [.long r]) := by
  subst hro
  exact vx_ret (W.widen hc hs (W.lret C.1.1 C.1.2.1 hr (fun t ht hW => ⟨⟨r, (), rfl, rfl, Wd.start C.2 hw ht hW⟩, hw.2.F ht⟩) hw.2.2.2 hdg hlk))
theorem retx_v {ro : TX × (Unit ⊕ Nat)} {mc ms : Nat} {XC : String → State → State → Prop} (C : Cx G p s m args c cc nL own) (hr : meth.sig.returnType = none) (hlk : meth.locks = false) (hw : Wh G s X M L H locs) (hro : ro = (X, .inl ())) (hc : cells ≤ mc) (hs : slots ≤ ms) (hdg : decode cc pc = .ok (.return_, 1)) :
    W p l e R s m args below meth c H locs cells slots (vx_MQ below (Dxv G ro M L) XC args s mc ms (AB G)) (F0 m pc ls []) := by
  subst hro
  exact vx_ret (W.widen hc hs (W.vret C.1.1 C.1.2.1 hr (fun t ht hW => ⟨⟨(), rfl, rfl, Wd.start C.2 hw ht hW⟩, hw.2.F ht⟩) hw.2.2.2 hdg hlk))
/-! calls of methods that may throw, on the class's own objects -/
theorem runx_VX {Qc1 : Array Value → State → Outcome → State → Prop} {XC : String → State → State → Prop} (C : Cx G p s m args c cc nL own) (hw : Wh G s X M L H locs) {idx : Nat} {y : MethodName} {c1 : ByteArray} {maxL np f lo n : Nat} {ret : Option FieldType} (hL : CL own idx y c1 maxL ret np false) (hpl : Cond.methodLink own idx y ∈ TB) {k ci : Nat} {As st0 : List Value} (hO : OX k ci)
    (hM : vx_Met l y (.code y c1 maxL ret :: TB) (rx f lo n) (Pd G (.ref (gA G k) :: As) X M L) Qc1 XC n (6 * n) (AB G))
    (hcl : (vwCl[ci]?).map (fun q => q.1) = some y.cls) (hls : ls.size = nL) (hn : As.length = np) (hR : f + 1 ≤ R.frames ∧ 8 + (maxL + 11) + lo ≤ R.locals) (hc0 : cells + n ≤ R.cells ∧ slots + 6 * n ≤ R.slots)
    (hst : st0 = As.reverse ++ .ref (gA G k) :: rest) (hcat : (rest.map fun v => v.category).sum ≤ 8) (hdg : decode cc pc = .ok (.invokevirtual idx, 3)) :
    vx_Run p l e R s m args below meth c H locs cells slots n (6 * n) (F0 m pc ls st0) rest (Qc1 (Value.ref (gA G k) :: As).toArray) XC (AB G) := by
  obtain ⟨hk, hO⟩ := hO
  obtain ⟨fs, h1⟩ := hO G (X k)
  obtain ⟨r, hr, he⟩ := Option.map_eq_some_iff.mp hcl
  have hq : k < gN G := Nat.lt_of_lt_of_le hk (Nat.le_trans (by decide) C.2.n)
  obtain ⟨hcode, hini, hd, hlk, hin, hsel⟩ := hL
  have hts := C.1.2.2.2.2
  have hp : PreV s H y.cls (gA G k) (Pd G (.ref (gA G k) :: As) X M L) As := ⟨Pd_blind, by
    have := va_recv C.2.1 hw.1 (a := gA G k) (q0 := k) hr (by rw [wl_get hq, (cW_X hk).trans h1])
    rw [he] at this
    exact this, fun U hU hW => ⟨rfl, Wd.start C.2 hw hU hW⟩⟩
  exact vx_runV (As := As) (rest := rest) C.1 hM ⟨callB_of np hts (goodTB hcode) rfl rfl rfl (hts _ hini) (hts _ hpl) hd hR, hts _ hin, hts _ hsel⟩ hp rfl hn hls hst (lv_room hcat) hdg hc0
theorem aftx_v {σ : Type} {q : TX × (Unit ⊕ Nat)} {ro : TX × (σ ⊕ Nat)} {kf : TX → Unit → Option (TX × (σ ⊕ Nat))} {n mc ms : Nat} {st0 : List Value} {a : Array Value} (hw : Wh G s X M L H locs) (hr : vx_Run p l e R s m args below meth c H locs cells slots n (6 * n) (F0 m pc ls st0) rest (Dxv G q M L a) (XD G q M L) (AB G))
    (hf : xb q kf = some ro) (hnt : ∀ x ∈ c.exceptionTable.toList, False) (hlk : meth.locks = false) (hc : cells + n ≤ mc) (hs : slots + 6 * n ≤ ms)
    (kk : kf q.1 () = some ro → ∀ (H1 : Heap) (locs1 : List Loc), Wh G s q.1 M L H1 locs1 → W p l e R s m args below meth c H1 locs1 (cells + n) (slots + 6 * n) (vx_MQ below Qc (XD G ro M L) args s mc ms (AB G)) (F0 m (pc + 3) ls rest)) :
    W p l e R s m args below meth c H locs cells slots (vx_MQ below Qc (XD G ro M L) args s mc ms (AB G)) (F0 m pc ls st0) := by
  refine vx_callv hr hw.2 (fun _ _ h => h) (fun _ h => h) (fun _ _ h => h) (fun E ce q9 u t H1 locs1 ht hvm _ hB _ _ hS hce hcv hcls => ?_) (fun u t H1 locs1 ht _ hp hB _ _ hS => ?_)
  · obtain ⟨⟨k, e1, e2⟩, hP⟩ := hB
    have hro := xb_r hf e1
    subst e2
    have hw1 : Wh G s q.1 M L H1 locs1 := ⟨by rw [← ht]; exact hP, hS⟩
    exact vx_out (fun x h => (hnt x h).elim) hlk hce hcv hcls (fun t2 h2 hv2 => x_thrown hw1 hro t2 hv2 (by rw [h2]; exact Nat.le_refl _) (fun q _ => by rw [h2])) hw1.2.2.2 hc hs
  · exact kk (xb_l hf hp) H1 locs1 ⟨by rw [← ht]; exact hB.2, hS⟩
end THROW
section ENTRYX
variable {l : Launch} {G : GP} {y : MethodName} {cc : ByteArray} {maxL f lo n : Nat} {ret : Option FieldType} {av : List Value} {X M : TX} {L : TL}
theorem cx_of {Qc : Array Value → State → Outcome → State → Prop} {XC : String → State → State → Prop} (hy : plainName y.cls = true) (hsz : (lg_sl av).length ≤ maxL)
    (body : ∀ (p : Program) (e : Env) (s : State) (m : MethodId) (args : Array Value) (below : List Frame) (meth : Method) (c : Code) (H : Heap) (locs : List Loc) (ls : Array Slot), Cx G p s m args c cc maxL y.cls → meth.sig.returnType = ret → meth.locks = false → (∀ x ∈ c.exceptionTable.toList, False) → Wh G s X M L H locs → lv_has ls maxL (lv_args 0 av) → W p l e (rx f lo n) s m args below meth c H locs 0 0 (vx_MQ below Qc XC args s n (6 * n) (AB G)) (F0 m 0 ls [])) :
    vx_Met l y (.code y cc maxL ret :: TB) (rx f lo n) (Pd G av X M L) Qc XC n (6 * n) (AB G) := by
  refine vx_ofW (cc := cc) (maxL := maxL) (ret := ret) hy rfl ?_
  intro p e s m args below meth c s₁ B hml hnt hv
  obtain ⟨rfl, hE, hP⟩ := hv
  have hts := atoms_spec (ws := .code y cc maxL ret :: TB) B.pre
  have hl := lv_entry av (n := maxL) hsz
  rw [lg_entry_eq]
  exact body p e s m _ below meth c s.heap [] _ ⟨⟨B.exec, B.bytes, hml, findClass_of_methodNamed B.named, fun w hw => hts w (List.mem_cons_of_mem _ hw)⟩, hE⟩ B.returns B.notSynchronized hnt ⟨hP, va_S.rf⟩ hl
end ENTRYX
