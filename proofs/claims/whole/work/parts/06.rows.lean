def rz (f lo : Nat) : Room := { frames := f, cells := 0, slots := 0, locals := lo }
theorem goodTB {w : Cond} (h : w ∈ TB) : GoodIn TB (w :: TB) := TB_self fun x hx => (List.mem_cons.mp hx).elim (fun e => e ▸ h) id
section ROWS
variable {p : Program} {l : Launch} {e : Env} {R : Room} {s : State} {m : MethodId} {args : Array Value} {below : List Frame} {meth : Method} {c : Code} {H : Heap} {locs : List Loc} {cells slots : Nat} {Q : State → Prop}
variable {cc : ByteArray} {pc : Nat} {ls : Array Slot} {rest : List Value} {G : GP} {nL : Nat} {own : String} {X M : TX} {L : TL}
theorem b_get (C : Cx G p s m args c cc nL own) (hw : Wh G s X M L H locs) {idx ci j : Nat} {d : String} {fin : Bool} (hF : FL own idx ci j d fin) {q : Nat} (hq : q < gN G) {fs : List Value} {v : Value} (he : cW G X M L q = .inr (ci, fs)) (hv : fs[j]? = some v) (hdg : decode cc pc = .ok (.getfield idx, 3))
    (kk : W p l e R s m args below meth c H locs cells slots Q (F0 m (pc + 3) ls (v :: rest))) : W p l e R s m args below meth c H locs cells slots Q (F0 m pc ls (.ref (gA G q) :: rest)) := by
  obtain ⟨⟨hx, hb, -, ho, hts⟩, hE⟩ := C
  obtain ⟨K, T, N, ty, hc, hj, hin, hty, hnm, hC, hd, hfin, hl⟩ := hF
  have hsame : ∀ x, s.fieldFound? (T j).1 (T j).2.1 (T j).2.2.1 = some x → s.fieldFound? K (T j).2.1 (T j).2.2.1 = some x := by rw [hC]; exact fun _ h => h
  rcases hl with hl | ⟨host, hl⟩
  · exact va_get hx hb hts hin ho hE.1 hw.1 q (by rw [wl_get hq, he]) hc j hj (hts _ hl) hsame hv hdg kk
  · exact va_getN hx hb hts hin ho hE.1 hw.1 q (by rw [wl_get hq, he]) hc j hj (va_Nw.use (NW_tab hl) (hE.2.1 _ hl)) hsame hv hdg kk
theorem b_put (C : Cx G p s m args c cc nL own) (hw : Wh G s X M L H locs) {idx ci j : Nat} (hF : FL own idx ci j "I" false) {q : Nat} (hq : q < gN G) {fs : List Value} {v : Int32} (he : cW G X M L q = .inr (ci, fs)) (hlen : j < fs.length) (hdg : decode cc pc = .ok (.putfield idx, 3))
    (kk : ∀ (H1 : Heap) (locs1 : List Loc), va_P (gD G) vwCl (wl (gN G) (gA G) (va_up (cW G X M L) q (.inr (ci, fs.set j (.int v))))) H1 → va_S (AB G) s.heap H1 locs1 → W p l e R s m args below meth c H1 locs1 cells slots Q (F0 m (pc + 3) ls rest)) : W p l e R s m args below meth c H locs cells slots Q (F0 m pc ls (.int v :: .ref (gA G q) :: rest)) := by
  obtain ⟨⟨hx, hb, -, ho, hts⟩, hE⟩ := C
  obtain ⟨K, T, N, ty, hc, hj, hin, hty, hnm, hC, hd, hfin, hl⟩ := hF
  have hsame : ∀ x, s.fieldFound? (T j).1 (T j).2.1 (T j).2.2.1 = some x → s.fieldFound? K (T j).2.1 (T j).2.2.1 = some x := by rw [hC]; exact fun _ h => h
  have hpd : parseFieldDescriptor (T j).2.2.1 = some .int := by rw [hd]; decide +kernel
  have k2 : ∀ (H1 : Heap) (locs1 : List Loc), va_P (gD G) vwCl ((wl (gN G) (gA G) (cW G X M L)).set q (gA G q, .inr (ci, fs.set j (.int v)))) H1 → va_D (AB G) ((wl (gN G) (gA G) (cW G X M L)).set q (gA G q, .inr (ci, fs.set j (.int v)))) → va_S (AB G) s.heap H1 locs1 → W p l e R s m args below meth c H1 locs1 cells slots Q (F0 m (pc + 3) ls rest) := fun H1 locs1 h1 _ h3 => kk H1 locs1 (by rw [wl_set] at h1; exact h1) h3
  rcases hl with hl | ⟨host, hl⟩
  · exact va_put hx hb hts hin ty hty hnm ho hE.1 hw.1 (hE.D _) hw.2 q (by rw [wl_get hq, he]) hc j hj (hts _ hl) hsame hfin (ty := .int) hpd rfl rfl hlen hdg k2
  · exact va_putN hx hb hts hin ty hty hnm ho hE.1 hw.1 (hE.D _) hw.2 q (by rw [wl_get hq, he]) hc j hj (va_Nw.use (NW_tab hl) (hE.2.1 _ hl)) hsame hfin (ty := .int) hpd rfl rfl hlen hdg k2
theorem EnvS.n (h : EnvS G s) : 68 ≤ gN G := h.2.2.2.2.1
/-! the class's side -/
theorem x_get (C : Cx G p s m args c cc nL own) (hw : Wh G s X M L H locs) {k j ci idx : Nat} {d : String} {fin : Bool} (hI : IX k j ci) (hF : FL own idx ci j d fin) (hdg : decode cc pc = .ok (.getfield idx, 3))
    (kk : W p l e R s m args below meth c H locs cells slots Q (F0 m (pc + 3) ls (.int (X k j) :: rest))) : W p l e R s m args below meth c H locs cells slots Q (F0 m pc ls (.ref (gA G k) :: rest)) := by
  obtain ⟨hk, hI⟩ := hI
  obtain ⟨fs, h1, h2, -, -⟩ := hI G (X k)
  exact b_get C hw hF (Nat.lt_of_lt_of_le hk (Nat.le_trans (by decide) C.2.n)) ((cW_X hk).trans h1) h2 hdg kk
theorem x_ref (C : Cx G p s m args c cc nL own) (hw : Wh G s X M L H locs) {k j ci idx k2 : Nat} {d : String} {fin : Bool} (hI : FX k j ci k2) (hF : FL own idx ci j d fin) (hdg : decode cc pc = .ok (.getfield idx, 3))
    (kk : W p l e R s m args below meth c H locs cells slots Q (F0 m (pc + 3) ls (.ref (gA G k2) :: rest))) : W p l e R s m args below meth c H locs cells slots Q (F0 m pc ls (.ref (gA G k) :: rest)) := by
  obtain ⟨hk, hI⟩ := hI
  obtain ⟨fs, h1, h2⟩ := hI G (X k)
  exact b_get C hw hF (Nat.lt_of_lt_of_le hk (Nat.le_trans (by decide) C.2.n)) ((cW_X hk).trans h1) h2 hdg kk
theorem x_put (C : Cx G p s m args c cc nL own) (hw : Wh G s X M L H locs) {k j ci idx : Nat} {v : Int32} (hI : IX k j ci) (hF : FL own idx ci j "I" false) (hdg : decode cc pc = .ok (.putfield idx, 3))
    (kk : ∀ (H1 : Heap) (locs1 : List Loc), Wh G s (u2 X k j v) M L H1 locs1 → W p l e R s m args below meth c H1 locs1 cells slots Q (F0 m (pc + 3) ls rest)) : W p l e R s m args below meth c H locs cells slots Q (F0 m pc ls (.int v :: .ref (gA G k) :: rest)) := by
  obtain ⟨hk, hI⟩ := hI
  obtain ⟨fs, h1, -, h3, h4⟩ := hI G (X k)
  exact b_put C hw hF (Nat.lt_of_lt_of_le hk (Nat.le_trans (by decide) C.2.n)) ((cW_X hk).trans h1) h3 hdg fun H1 locs1 hP hS => kk H1 locs1 ⟨by rw [cW_uX (j := j) (v := v) hk (h4 v)] at hP; exact hP, hS⟩
theorem x_ald (C : Cx G p s m args c cc nL own) (hw : Wh G s X M L H locs) {k n : Nat} (hA : AX k n) {i : Int32} (hin : vp_in i n) (hdg : decode cc pc = .ok (.iaload, 1))
    (kk : W p l e R s m args below meth c H locs cells slots Q (F0 m (pc + 1) ls (.int (X k i.toNatClampNeg) :: rest))) : W p l e R s m args below meth c H locs cells slots Q (F0 m pc ls (.int i :: .ref (gA G k) :: rest)) := by
  obtain ⟨hk, hA⟩ := hA
  exact va_iald C.1.1 C.1.2.1 C.2.1 hw.1 k 0 (by rw [wl_get (Nat.lt_of_lt_of_le hk (Nat.le_trans (by decide) C.2.n)), cW_X hk, hA]) rfl hin hdg kk
theorem x_ast (C : Cx G p s m args c cc nL own) (hw : Wh G s X M L H locs) {k n : Nat} (hA : AX k n) {i v : Int32} (hin : vp_in i n) (hdg : decode cc pc = .ok (.iastore, 1))
    (kk : ∀ (H1 : Heap) (locs1 : List Loc), Wh G s (u2 X k i.toNatClampNeg v) M L H1 locs1 → W p l e R s m args below meth c H1 locs1 cells slots Q (F0 m (pc + 1) ls rest)) : W p l e R s m args below meth c H locs cells slots Q (F0 m pc ls (.int v :: .int i :: .ref (gA G k) :: rest)) := by
  obtain ⟨hk, hA⟩ := hA
  refine va_iast C.1.1 C.1.2.1 C.2.1 hw.1 (C.2.D _) hw.2 k 0 (by rw [wl_get (Nat.lt_of_lt_of_le hk (Nat.le_trans (by decide) C.2.n)), cW_X hk, hA]) rfl hin hdg fun H1 locs1 hP _ hS => kk H1 locs1 ⟨?_, hS⟩
  rw [wl_set, cW_uX (j := i.toNatClampNeg) (v := v) hk (hA G _)] at hP
  exact hP
theorem x_alen (C : Cx G p s m args c cc nL own) (hw : Wh G s X M L H locs) {k n : Nat} (hA : AX k n) (hdg : decode cc pc = .ok (.arraylength, 1))
    (kk : W p l e R s m args below meth c H locs cells slots Q (F0 m (pc + 1) ls (.int (nI n) :: rest))) : W p l e R s m args below meth c H locs cells slots Q (F0 m pc ls (.ref (gA G k) :: rest)) := by
  obtain ⟨hk, hA⟩ := hA
  exact va_alen C.1.1 C.1.2.1 C.2.1 hw.1 k 0 (by rw [wl_get (Nat.lt_of_lt_of_le hk (Nat.le_trans (by decide) C.2.n)), cW_X hk, hA]) (x := (n, .inl (X k))) (ty := .int) rfl rfl hdg kk
/-! the reference's side -/
theorem m_get (C : Cx G p s m args c cc nL own) (hw : Wh G s X M L H locs) {k j ci idx : Nat} {d : String} {fin : Bool} (hI : IM k j ci) (hF : FL own idx ci j d fin) (hdg : decode cc pc = .ok (.getfield idx, 3))
    (kk : W p l e R s m args below meth c H locs cells slots Q (F0 m (pc + 3) ls (.int (M k j) :: rest))) : W p l e R s m args below meth c H locs cells slots Q (F0 m pc ls (.ref (gA G (41 + k)) :: rest)) := by
  obtain ⟨hk, hI⟩ := hI
  obtain ⟨fs, h1, h2, -, -⟩ := hI G (M k) (L k)
  exact b_get C hw hF (by have := C.2.n; omega) (cW_M.trans h1) h2 hdg kk
theorem m_ref (C : Cx G p s m args c cc nL own) (hw : Wh G s X M L H locs) {k j ci idx k2 : Nat} {d : String} {fin : Bool} (hI : FM k j ci k2) (hF : FL own idx ci j d fin) (hdg : decode cc pc = .ok (.getfield idx, 3))
    (kk : W p l e R s m args below meth c H locs cells slots Q (F0 m (pc + 3) ls (.ref (gA G (41 + k2)) :: rest))) : W p l e R s m args below meth c H locs cells slots Q (F0 m pc ls (.ref (gA G (41 + k)) :: rest)) := by
  obtain ⟨hk, hI⟩ := hI
  obtain ⟨fs, h1, h2⟩ := hI G (M k) (L k)
  exact b_get C hw hF (by have := C.2.n; omega) (cW_M.trans h1) h2 hdg kk
theorem m_put (C : Cx G p s m args c cc nL own) (hw : Wh G s X M L H locs) {k j ci idx : Nat} {v : Int32} (hI : IM k j ci) (hF : FL own idx ci j "I" false) (hdg : decode cc pc = .ok (.putfield idx, 3))
    (kk : ∀ (H1 : Heap) (locs1 : List Loc), Wh G s X (u2 M k j v) L H1 locs1 → W p l e R s m args below meth c H1 locs1 cells slots Q (F0 m (pc + 3) ls rest)) : W p l e R s m args below meth c H locs cells slots Q (F0 m pc ls (.int v :: .ref (gA G (41 + k)) :: rest)) := by
  obtain ⟨hk, hI⟩ := hI
  obtain ⟨fs, h1, -, h3, h4⟩ := hI G (M k) (L k)
  exact b_put C hw hF (by have := C.2.n; omega) (cW_M.trans h1) h3 hdg fun H1 locs1 hP hS => kk H1 locs1 ⟨by rw [cW_uM (j := j) (v := v) (h4 v)] at hP; exact hP, hS⟩
theorem m_ald (C : Cx G p s m args c cc nL own) (hw : Wh G s X M L H locs) {k n : Nat} (hA : AM k n) {i : Int32} (hin : vp_in i n) (hdg : decode cc pc = .ok (.iaload, 1))
    (kk : W p l e R s m args below meth c H locs cells slots Q (F0 m (pc + 1) ls (.int (M k i.toNatClampNeg) :: rest))) : W p l e R s m args below meth c H locs cells slots Q (F0 m pc ls (.int i :: .ref (gA G (41 + k)) :: rest)) := by
  obtain ⟨hk, hA⟩ := hA
  exact va_iald C.1.1 C.1.2.1 C.2.1 hw.1 (41 + k) 0 (by rw [wl_get (by have := C.2.n; omega), cW_M, hA]) rfl hin hdg kk
theorem m_ast (C : Cx G p s m args c cc nL own) (hw : Wh G s X M L H locs) {k n : Nat} (hA : AM k n) {i v : Int32} (hin : vp_in i n) (hdg : decode cc pc = .ok (.iastore, 1))
    (kk : ∀ (H1 : Heap) (locs1 : List Loc), Wh G s X (u2 M k i.toNatClampNeg v) L H1 locs1 → W p l e R s m args below meth c H1 locs1 cells slots Q (F0 m (pc + 1) ls rest)) : W p l e R s m args below meth c H locs cells slots Q (F0 m pc ls (.int v :: .int i :: .ref (gA G (41 + k)) :: rest)) := by
  obtain ⟨hk, hA⟩ := hA
  refine va_iast C.1.1 C.1.2.1 C.2.1 hw.1 (C.2.D _) hw.2 (41 + k) 0 (by rw [wl_get (by have := C.2.n; omega), cW_M, hA]) rfl hin hdg fun H1 locs1 hP _ hS => kk H1 locs1 ⟨?_, hS⟩
  rw [wl_set, cW_uM (j := i.toNatClampNeg) (v := v) (hA G _ _)] at hP
  exact hP
theorem m_alen (C : Cx G p s m args c cc nL own) (hw : Wh G s X M L H locs) {k n : Nat} (hA : AM k n) (hdg : decode cc pc = .ok (.arraylength, 1))
    (kk : W p l e R s m args below meth c H locs cells slots Q (F0 m (pc + 1) ls (.int (nI n) :: rest))) : W p l e R s m args below meth c H locs cells slots Q (F0 m pc ls (.ref (gA G (41 + k)) :: rest)) := by
  obtain ⟨hk, hA⟩ := hA
  exact va_alen C.1.1 C.1.2.1 C.2.1 hw.1 (41 + k) 0 (by rw [wl_get (by have := C.2.n; omega), cW_M, hA]) (x := (n, .inl (M k))) (ty := .int) rfl rfl hdg kk
theorem l_ald (C : Cx G p s m args c cc nL own) (hw : Wh G s X M L H locs) {k n : Nat} (hA : LM k n) (hn : 41 + k < gN G) {i : Int32} (hin : vp_in i n) (hdg : decode cc pc = .ok (.laload, 1))
    (kk : W p l e R s m args below meth c H locs cells slots Q (F0 m (pc + 1) ls (.long (L k i.toNatClampNeg) :: rest))) : W p l e R s m args below meth c H locs cells slots Q (F0 m pc ls (.int i :: .ref (gA G (41 + k)) :: rest)) := by
  obtain ⟨hk, hA⟩ := hA
  exact va_lald C.1.1 C.1.2.1 C.2.1 hw.1 (41 + k) 1 (by rw [wl_get hn, cW_M, hA]) rfl hin hdg kk
theorem l_ast (C : Cx G p s m args c cc nL own) (hw : Wh G s X M L H locs) {k n : Nat} (hA : LM k n) (hn : 41 + k < gN G) {i : Int32} {v : Int64} (hin : vp_in i n) (hdg : decode cc pc = .ok (.lastore, 1))
    (kk : ∀ (H1 : Heap) (locs1 : List Loc), Wh G s X M (u2L L k i.toNatClampNeg v) H1 locs1 → W p l e R s m args below meth c H1 locs1 cells slots Q (F0 m (pc + 1) ls rest)) : W p l e R s m args below meth c H locs cells slots Q (F0 m pc ls (.long v :: .int i :: .ref (gA G (41 + k)) :: rest)) := by
  obtain ⟨hk, hA⟩ := hA
  refine va_last C.1.1 C.1.2.1 C.2.1 hw.1 (C.2.D _) hw.2 (41 + k) 1 (by rw [wl_get hn, cW_M, hA]) rfl hin hdg fun H1 locs1 hP _ hS => kk H1 locs1 ⟨?_, hS⟩
  rw [wl_set, cW_uL (j := i.toNatClampNeg) (v := v) (hA G _ _)] at hP
  exact hP
end ROWS
/-! contracts -/
abbrev Pd (G : GP) (av : List Value) (X M : TX) (L : TL) : Array Value → State → Prop := va_Pc av (Wd G X M L)
abbrev Di (G : GP) (X M : TX) (L : TL) (r : Int32) : Array Value → State → Outcome → State → Prop := va_Qi (fun r' (_ : Unit) => r' = r) (fun _ t => Wd G X M L t) (AB G)
abbrev Dl (G : GP) (X M : TX) (L : TL) (r : Int64) : Array Value → State → Outcome → State → Prop := va_Ql (fun r' (_ : Unit) => r' = r) (fun _ t => Wd G X M L t) (AB G)
abbrev Dv (G : GP) (X M : TX) (L : TL) : Array Value → State → Outcome → State → Prop := va_Qv (fun (_ : Unit) => True) (fun _ t => Wd G X M L t) (AB G)
def CTi (G : GP) (l : Launch) (y : MethodName) (cc : ByteArray) (maxL : Nat) (ret : Option FieldType) (f lo : Nat) (av : List Value) (X M : TX) (L : TL) (X' M' : TX) (L' : TL) (r : Int32) : Prop :=
  Met l y (.code y cc maxL ret :: TB) (rz f lo) (Pd G av X M L) (Di G X' M' L' r) 0 0 (AB G)
def CTl (G : GP) (l : Launch) (y : MethodName) (cc : ByteArray) (maxL : Nat) (ret : Option FieldType) (f lo : Nat) (av : List Value) (X M : TX) (L : TL) (X' M' : TX) (L' : TL) (r : Int64) : Prop :=
  Met l y (.code y cc maxL ret :: TB) (rz f lo) (Pd G av X M L) (Dl G X' M' L' r) 0 0 (AB G)
def CTv (G : GP) (l : Launch) (y : MethodName) (cc : ByteArray) (maxL : Nat) (ret : Option FieldType) (f lo : Nat) (av : List Value) (X M : TX) (L : TL) (X' M' : TX) (L' : TL) : Prop :=
  Met l y (.code y cc maxL ret :: TB) (rz f lo) (Pd G av X M L) (Dv G X' M' L') 0 0 (AB G)
theorem Pd_blind {G : GP} {av : List Value} {X M : TX} {L : TL} : FrameBlind (Pd G av X M L) := fun a U g mk h => ⟨h.1, h.2.blind g mk a⟩
section CALLS
variable {p : Program} {l : Launch} {e : Env} {R : Room} {s : State} {m : MethodId} {args : Array Value} {below : List Frame} {meth : Method} {c : Code} {H : Heap} {locs : List Loc} {cells slots : Nat} {Q : State → Prop}
variable {cc : ByteArray} {pc : Nat} {ls : Array Slot} {rest : List Value} {G : GP} {nL : Nat} {own : String} {X M : TX} {L : TL}
/-- what a call of a method without new cells comes to -/
theorem run_V {Qc : Array Value → State → Outcome → State → Prop} (C : Cx G p s m args c cc nL own) (hw : Wh G s X M L H locs) {idx : Nat} {y : MethodName} {c1 : ByteArray} {maxL np f lo : Nat} {ret : Option FieldType} (hL : CL own idx y c1 maxL ret np false) {q ci : Nat} {fs As st0 : List Value}
    (hM : Met l y (.code y c1 maxL ret :: TB) (rz f lo) (Pd G (.ref (gA G q) :: As) X M L) Qc 0 0 (AB G))
    (hq : q < gN G) (he : cW G X M L q = .inr (ci, fs)) {r : vw_C} (hci : vwCl[ci]? = some r) (hcl : r.1 = y.cls) (hls : ls.size = nL) (hn : As.length = np) (hR : f + 1 ≤ R.frames ∧ 8 + (maxL + 11) + lo ≤ R.locals) (hc0 : cells ≤ R.cells ∧ slots ≤ R.slots)
    (hst : st0 = As.reverse ++ .ref (gA G q) :: rest) (hcat : (rest.map fun v => v.category).sum ≤ 8) (hdg : decode cc pc = .ok (.invokevirtual idx, 3)) :
    va_Run p l e R s m args below meth c H locs cells slots 0 0 (F0 m pc ls st0) rest (Qc (Value.ref (gA G q) :: As).toArray) (AB G) := by
  obtain ⟨hcode, hini, hd, hlk, hin, hsel⟩ := hL
  have hts := C.1.2.2.2.2
  have hp : PreV s H y.cls (gA G q) (Pd G (.ref (gA G q) :: As) X M L) As := ⟨Pd_blind, by
    have := va_recv C.2.1 hw.1 (a := gA G q) (q0 := q) hci (by rw [wl_get hq, he])
    rw [hcl] at this
    exact this, fun U hU hW => ⟨rfl, Wd.start C.2 hw hU hW⟩⟩
  rcases hlk with hlk | ⟨host, hlk⟩
  · exact va_runV (As := As) (rest := rest) C.1 hM ⟨callB_of np hts (goodTB hcode) rfl rfl rfl (hts _ hini) (hts _ hlk) hd hR, hts _ hin, hts _ hsel⟩ hp rfl hn hls hst (lv_room hcat) hdg ⟨hc0.1, hc0.2⟩
  · exact va_runVN (As := As) (rest := rest) C.1 hM ⟨va_cnB np hts (goodTB hcode) rfl rfl rfl (C.2.2.1 _ hlk) (hts _ hini) hd hR, hts _ hin, hts _ hsel⟩ hp rfl hn hls hst (lv_room hcat) hdg ⟨hc0.1, hc0.2⟩
theorem run_S {Qc : Array Value → State → Outcome → State → Prop} (C : Cx G p s m args c cc nL own) (hw : Wh G s X M L H locs) {idx : Nat} {y : MethodName} {c1 : ByteArray} {maxL np f lo : Nat} {ret : Option FieldType} (hL : CL own idx y c1 maxL ret np true) {As st0 : List Value}
    (hM : Met l y (.code y c1 maxL ret :: TB) (rz f lo) (Pd G As X M L) Qc 0 0 (AB G))
    (hls : ls.size = nL) (hn : As.length = np) (hR : f + 1 ≤ R.frames ∧ 8 + (maxL + 11) + lo ≤ R.locals) (hc0 : cells ≤ R.cells ∧ slots ≤ R.slots)
    (hst : st0 = As.reverse ++ rest) (hcat : (rest.map fun v => v.category).sum ≤ 8) (hdg : decode cc pc = .ok (.invokestatic idx, 3)) :
    va_Run p l e R s m args below meth c H locs cells slots 0 0 (F0 m pc ls st0) rest (Qc As.toArray) (AB G) := by
  obtain ⟨hcode, hini, hd, hlk, hin⟩ := hL
  have hin : Cond.static y ∈ TB := hin
  have hts := C.1.2.2.2.2
  have hp : PreS s H (Pd G As X M L) As := ⟨Pd_blind, fun U hU hW => ⟨rfl, Wd.start C.2 hw hU hW⟩⟩
  rcases hlk with hlk | ⟨host, hlk⟩
  · exact va_runS (As := As) (rest := rest) C.1 hM ⟨callB_of np hts (goodTB hcode) rfl rfl rfl (hts _ hini) (hts _ hlk) hd hR, hts _ hin⟩ hp rfl hn hls hst (lv_room hcat) hdg ⟨hc0.1, hc0.2⟩
  · exact va_runSN (As := As) (rest := rest) C.1 hM ⟨va_cnB np hts (goodTB hcode) rfl rfl rfl (C.2.2.1 _ hlk) (hts _ hini) hd hR, hts _ hin, trivial⟩ hp rfl hn hls hst (lv_room hcat) hdg ⟨hc0.1, hc0.2⟩
theorem aft_i {X' M' : TX} {L' : TL} {r : Int32} {st0 : List Value} {a : Array Value} (hw : Wh G s X M L H locs) (hr : va_Run p l e R s m args below meth c H locs cells slots 0 0 (F0 m pc ls st0) rest (Di G X' M' L' r a) (AB G))
    (kk : ∀ (H1 : Heap) (locs1 : List Loc), Wh G s X' M' L' H1 locs1 → W p l e R s m args below meth c H1 locs1 cells slots Q (F0 m (pc + 3) ls (.int r :: rest))) : W p l e R s m args below meth c H locs cells slots Q (F0 m pc ls st0) :=
  va_calli hr hw.2 (fun _ _ h => h) (fun _ h => h) fun r1 _ t H1 locs1 ht _ hp hB _ _ hS => by
    have hp : r1 = r := hp
    subst hp
    exact kk H1 locs1 ⟨by rw [← ht]; exact hB.2, hS⟩
theorem aft_l {X' M' : TX} {L' : TL} {r : Int64} {st0 : List Value} {a : Array Value} (hw : Wh G s X M L H locs) (hr : va_Run p l e R s m args below meth c H locs cells slots 0 0 (F0 m pc ls st0) rest (Dl G X' M' L' r a) (AB G))
    (kk : ∀ (H1 : Heap) (locs1 : List Loc), Wh G s X' M' L' H1 locs1 → W p l e R s m args below meth c H1 locs1 cells slots Q (F0 m (pc + 3) ls (.long r :: rest))) : W p l e R s m args below meth c H locs cells slots Q (F0 m pc ls st0) :=
  va_calll hr hw.2 (fun _ _ h => h) (fun _ h => h) fun r1 _ t H1 locs1 ht _ hp hB _ _ hS => by
    have hp : r1 = r := hp
    subst hp
    exact kk H1 locs1 ⟨by rw [← ht]; exact hB.2, hS⟩
theorem aft_v {X' M' : TX} {L' : TL} {st0 : List Value} {a : Array Value} (hw : Wh G s X M L H locs) (hr : va_Run p l e R s m args below meth c H locs cells slots 0 0 (F0 m pc ls st0) rest (Dv G X' M' L' a) (AB G))
    (kk : ∀ (H1 : Heap) (locs1 : List Loc), Wh G s X' M' L' H1 locs1 → W p l e R s m args below meth c H1 locs1 cells slots Q (F0 m (pc + 3) ls rest)) : W p l e R s m args below meth c H locs cells slots Q (F0 m pc ls st0) :=
  va_callv hr hw.2 (fun _ _ h => h) (fun _ h => h) fun _ t H1 locs1 ht _ _ hB _ _ hS => kk H1 locs1 ⟨by rw [← ht]; exact hB.2, hS⟩
/-! ends -/
theorem ret_i {r : Int32} (C : Cx G p s m args c cc nL own) (hr : meth.sig.returnType = some .int) (hlk : meth.locks = false) (hw : Wh G s X M L H locs) (hdg : decode cc pc = .ok (.ireturn, 1)) :
    W p l e R s m args below meth c H locs 0 0 (MQ below (Di G X M L r) args s 0 0 (AB G)) (F0 m pc ls [.int r]) :=
  W.iret C.1.1 C.1.2.1 hr (fun t ht hW => ⟨⟨r, (), rfl, rfl, Wd.start C.2 hw ht hW⟩, hw.2.F ht⟩) hw.2.2.2 hdg hlk
theorem ret_z {r : Int32} {ty : FieldType} (C : Cx G p s m args c cc nL own) (hr : meth.sig.returnType = some ty) (hlk : meth.locks = false) (hw : Wh G s X M L H locs) (hn : narrow ty (.int r) = .int r) (hdg : decode cc pc = .ok (.ireturn, 1)) :
    W p l e R s m args below meth c H locs 0 0 (MQ below (Di G X M L r) args s 0 0 (AB G)) (F0 m pc ls [.int r]) :=
  W.zret C.1.1 C.1.2.1 hr hn (fun t ht hW => ⟨⟨r, (), rfl, rfl, Wd.start C.2 hw ht hW⟩, hw.2.F ht⟩) hw.2.2.2 hdg hlk
theorem ret_l {r : Int64} (C : Cx G p s m args c cc nL own) (hr : meth.sig.returnType = some .long) (hlk : meth.locks = false) (hw : Wh G s X M L H locs) (hdg : decode cc pc = .ok (.lreturn, 1)) :
    W p l e R s m args below meth c H locs 0 0 (MQ below (Dl G X M L r) args s 0 0 (AB G)) (F0 m pc ls [.long r]) :=
  W.lret C.1.1 C.1.2.1 hr (fun t ht hW => ⟨⟨r, (), rfl, rfl, Wd.start C.2 hw ht hW⟩, hw.2.F ht⟩) hw.2.2.2 hdg hlk
theorem ret_v (C : Cx G p s m args c cc nL own) (hr : meth.sig.returnType = none) (hlk : meth.locks = false) (hw : Wh G s X M L H locs) (hdg : decode cc pc = .ok (.return_, 1)) :
    W p l e R s m args below meth c H locs 0 0 (MQ below (Dv G X M L) args s 0 0 (AB G)) (F0 m pc ls []) :=
  W.vret C.1.1 C.1.2.1 hr (fun t ht hW => ⟨⟨(), rfl, trivial, Wd.start C.2 hw ht hW⟩, hw.2.F ht⟩) hw.2.2.2 hdg hlk
end CALLS
/-! a method's entry -/
section ENTRY
variable {l : Launch} {G : GP} {y : MethodName} {cc : ByteArray} {maxL f lo : Nat} {ret : Option FieldType} {av : List Value} {X M : TX} {L : TL}
theorem ct_of {Qc : Array Value → State → Outcome → State → Prop} (hy : plainName y.cls = true) (hsz : (lg_sl av).length ≤ maxL)
    (body : ∀ (p : Program) (e : Env) (s : State) (m : MethodId) (args : Array Value) (below : List Frame) (meth : Method) (c : Code) (H : Heap) (locs : List Loc) (ls : Array Slot), Cx G p s m args c cc maxL y.cls → meth.sig.returnType = ret → meth.locks = false → Wh G s X M L H locs → lv_has ls maxL (lv_args 0 av) → W p l e (rz f lo) s m args below meth c H locs 0 0 (MQ below Qc args s 0 0 (AB G)) (F0 m 0 ls [])) :
    Met l y (.code y cc maxL ret :: TB) (rz f lo) (Pd G av X M L) Qc 0 0 (AB G) := by
  refine Met.ofW (cc := cc) (maxL := maxL) (ret := ret) hy rfl ?_
  intro p e s m args below meth c s₁ B hml hv
  obtain ⟨rfl, hE, hP⟩ := hv
  have hts := atoms_spec (ws := .code y cc maxL ret :: TB) B.pre
  have hl := lv_entry av (n := maxL) hsz
  rw [lg_entry_eq]
  exact body p e s m _ below meth c s.heap [] _ ⟨⟨B.exec, B.bytes, hml, findClass_of_methodNamed B.named, fun w hw => hts w (List.mem_cons_of_mem _ hw)⟩, hE⟩ B.returns B.notSynchronized ⟨hP, va_S.rf⟩ hl
end ENTRY
section CALLS2
variable {p : Program} {l : Launch} {e : Env} {R : Room} {s : State} {m : MethodId} {args : Array Value} {below : List Frame} {meth : Method} {c : Code} {H : Heap} {locs : List Loc} {cells slots : Nat} {Q : State → Prop}
variable {cc : ByteArray} {pc : Nat} {ls : Array Slot} {rest : List Value} {G : GP} {nL : Nat} {own : String} {X M : TX} {L : TL}
theorem run_VX {Qc : Array Value → State → Outcome → State → Prop} (C : Cx G p s m args c cc nL own) (hw : Wh G s X M L H locs) {idx : Nat} {y : MethodName} {c1 : ByteArray} {maxL np f lo : Nat} {ret : Option FieldType} (hL : CL own idx y c1 maxL ret np false) {k ci : Nat} {As st0 : List Value} (hO : OX k ci)
    (hM : Met l y (.code y c1 maxL ret :: TB) (rz f lo) (Pd G (.ref (gA G k) :: As) X M L) Qc 0 0 (AB G))
    (hcl : (vwCl[ci]?).map (fun q => q.1) = some y.cls) (hls : ls.size = nL) (hn : As.length = np) (hR : f + 1 ≤ R.frames ∧ 8 + (maxL + 11) + lo ≤ R.locals) (hc0 : cells ≤ R.cells ∧ slots ≤ R.slots)
    (hst : st0 = As.reverse ++ .ref (gA G k) :: rest) (hcat : (rest.map fun v => v.category).sum ≤ 8) (hdg : decode cc pc = .ok (.invokevirtual idx, 3)) :
    va_Run p l e R s m args below meth c H locs cells slots 0 0 (F0 m pc ls st0) rest (Qc (Value.ref (gA G k) :: As).toArray) (AB G) := by
  obtain ⟨hk, hO⟩ := hO
  obtain ⟨fs, h1⟩ := hO G (X k)
  obtain ⟨r, hr, he⟩ := Option.map_eq_some_iff.mp hcl
  exact run_V C hw hL hM (Nat.lt_of_lt_of_le hk (Nat.le_trans (by decide) C.2.n)) ((cW_X hk).trans h1) hr he hls hn hR hc0 hst hcat hdg
theorem run_VM {Qc : Array Value → State → Outcome → State → Prop} (C : Cx G p s m args c cc nL own) (hw : Wh G s X M L H locs) {idx : Nat} {y : MethodName} {c1 : ByteArray} {maxL np f lo : Nat} {ret : Option FieldType} (hL : CL own idx y c1 maxL ret np false) {k ci : Nat} {As st0 : List Value} (hO : OM k ci)
    (hM : Met l y (.code y c1 maxL ret :: TB) (rz f lo) (Pd G (.ref (gA G (41 + k)) :: As) X M L) Qc 0 0 (AB G))
    (hcl : (vwCl[ci]?).map (fun q => q.1) = some y.cls) (hls : ls.size = nL) (hn : As.length = np) (hR : f + 1 ≤ R.frames ∧ 8 + (maxL + 11) + lo ≤ R.locals) (hc0 : cells ≤ R.cells ∧ slots ≤ R.slots)
    (hst : st0 = As.reverse ++ .ref (gA G (41 + k)) :: rest) (hcat : (rest.map fun v => v.category).sum ≤ 8) (hdg : decode cc pc = .ok (.invokevirtual idx, 3)) :
    va_Run p l e R s m args below meth c H locs cells slots 0 0 (F0 m pc ls st0) rest (Qc (Value.ref (gA G (41 + k)) :: As).toArray) (AB G) := by
  obtain ⟨hk, hO⟩ := hO
  obtain ⟨fs, h1⟩ := hO G (M k) (L k)
  obtain ⟨r, hr, he⟩ := Option.map_eq_some_iff.mp hcl
  exact run_V C hw hL hM (by have := C.2.n; omega) (cW_M.trans h1) hr he hls hn hR hc0 hst hcat hdg
end CALLS2
theorem o_bind {α β : Type} {x : Option α} {k : α → Option β} {r : β} (h : x.bind k = some r) : ∃ a, x = some a ∧ k a = some r := by
  cases x with
  | none => cases h
  | some a => exact ⟨a, rfl, h⟩
theorem o_t {α : Type} {c : Prop} [Decidable c] {a b : Option α} {r : α} (h : (if c then a else b) = some r) (hc : c) : a = some r := by rw [if_pos hc] at h; exact h
theorem o_f {α : Type} {c : Prop} [Decidable c] {a b : Option α} {r : α} (h : (if c then a else b) = some r) (hc : ¬ c) : b = some r := by rw [if_neg hc] at h; exact h
theorem o_g {α : Type} {c : Prop} [Decidable c] {a : Option α} {r : α} (h : (if c then a else none) = some r) : c ∧ a = some r := by
  by_cases hc : c
  · exact ⟨hc, o_t h hc⟩
  · rw [if_neg hc] at h; cases h
def FU : Nat := 1024
def inb (i : Int32) (n : Nat) : Bool := decide (0 ≤ i.toInt ∧ i.toInt < (n : Int))
theorem inb_in {i : Int32} {n : Nat} (h : inb i n = true) : vp_in i n := vp_in_iff.mpr (of_decide_eq_true h)
theorem o_n1 {α : Type} {c : Prop} [Decidable c] {a : Option α} {r : α} (h : (if c then none else a) = some r) : ¬ c := fun hc => by rw [if_pos hc] at h; cases h
theorem o_n2 {α : Type} {c : Prop} [Decidable c] {a : Option α} {r : α} (h : (if c then none else a) = some r) : a = some r := by rw [if_neg (o_n1 h)] at h; exact h
theorem nar_z {r : Int32} (h : r &&& 1 = r) : narrow .boolean (.int r) = .int r := by
  show Value.int (r &&& 1) = Value.int r
  rw [h]
