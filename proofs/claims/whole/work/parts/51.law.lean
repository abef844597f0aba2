section WCALL
variable {p : Program} {l : Launch} {e : Env} {R : Room} {s : State} {m : MethodId} {args : Array Value} {below : List Frame} {meth : Method} {c : Code} {H : Heap} {locs : List Loc} {cells slots : Nat} {Q : State → Prop}
variable {cc : ByteArray} {pc : Nat} {ls : Array Slot} {rest : List Value} {G : GP} {nL : Nat} {own : String} {X M : TX} {L : TL}
theorem x_wrap (C : Cx G p s m args c cc nL RL) (hw : Wh G s X M L H locs) {idx : Nat} {y : MethodName} {c1 : ByteArray} {maxL np f lo n : Nat} {hh : List (Nat × Nat × Nat × Nat)} (hwd : Cond.methodLink RL idx y ∈ TB ∧ Cond.static y ∈ TB ∧ Cond.initialized y.cls ∈ TB ∧ Cond.codeWith y c1 maxL (some .int) hh ∈ TB) {As st0 : List Value} {ro : TX × TL × Int32}
    (hM : CWi G l y c1 maxL hh f lo n As X M L ro)
    (hd : y.cls ≠ "java/lang/invoke/MethodHandle" ∧ y.cls ≠ "java/lang/invoke/VarHandle" ∧ (parseMethodDescriptor y.desc).map (fun d => d.parameters.length) = some np) (hls : ls.size = nL) (hn : As.length = np) (hR : f + 1 ≤ R.frames ∧ 8 + (maxL + 11) + lo ≤ R.locals) (hc0 : cells + n ≤ R.cells ∧ slots + 6 * n ≤ R.slots)
    (hst : st0 = As.reverse ++ rest) (hcat : (rest.map fun v => v.category).sum ≤ 8) (hdg : decode cc pc = .ok (.invokestatic idx, 3))
    (kk : ∀ (H1 : Heap) (locs1 : List Loc), Wh G s ro.1 M ro.2.1 H1 locs1 → W p l e R s m args below meth c H1 locs1 (cells + n) (slots + 6 * n) Q (F0 m (pc + 3) ls (.int ro.2.2 :: rest))) : W p l e R s m args below meth c H locs cells slots Q (F0 m pc ls st0) := by
  obtain ⟨h1, h2, h3, h4⟩ := hwd
  have hp : PreS s H (Pd G As X M L) As := ⟨Pd_blind, fun U hU hW => ⟨rfl, Wd.start C.2 hw hU hW⟩⟩
  have hG : GoodIn TB (va_wsS RL idx y (Cond.codeWith y c1 maxL (some .int) hh :: TB)) := TB_self fun w hw => by
    unfold va_wsS at hw
    rcases List.mem_append.mp hw with h | h
    · rcases List.mem_cons.mp h with rfl | h
      · exact h1
      · rcases List.mem_cons.mp h with rfl | h
        · exact h2
        · rw [List.mem_singleton.mp h]
          exact h3
    · exact (List.mem_cons.mp h).elim (fun e => e ▸ h4) id
  refine vx_calli (vx_runSX (As := As) (rest := rest) C.1 hM (vx_cwSW np C.1.2.2.2.2 hG rfl rfl rfl hd hR) hp rfl hn hls hst (lv_room hcat) hdg hc0) hw.2 (fun _ _ h => h) (fun _ h => h) (fun _ _ h => h) (fun E ce q9 u t H1 locs1 ht hvm hpx _ _ _ _ _ _ _ => hpx.elim) (fun r u t H1 locs1 ht _ hp hB _ _ hS => ?_)
  have hp : r = ro.2.2 := hp
  subst hp
  exact kk H1 locs1 ⟨by rw [← ht]; exact hB.2, hS⟩
end WCALL
def B_law_208 (xs : Nat → Int32) (Lth : Nat) (k_23 : TX → TX → TL → Int32 → Option Int32) (X M : TX) (L : TL) (x4 : Int32) : Option Int32 := if inb (x4 + (1 : Int32)) Lth = true then (if inb (x4 + (2 : Int32)) Lth = true then (if inb (x4 + (3 : Int32)) Lth = true then (if inb (x4 + (4 : Int32)) Lth = true then (if inb (x4 + (5 : Int32)) Lth = true then ((f_X8_feed X (xs (Int32.toNatClampNeg (x4 + (1 : Int32)))) (xs (Int32.toNatClampNeg (x4 + (2 : Int32)))) (xs (Int32.toNatClampNeg (x4 + (3 : Int32)))) (xs (Int32.toNatClampNeg (x4 + (4 : Int32)))) (xs (Int32.toNatClampNeg (x4 + (5 : Int32))))).bind fun q9 => if inb (x4 + (1 : Int32)) Lth = true then (if inb (x4 + (2 : Int32)) Lth = true then (if inb (x4 + (3 : Int32)) Lth = true then (if inb (x4 + (4 : Int32)) Lth = true then (if inb (x4 + (5 : Int32)) Lth = true then ((f_X9_feed M (xs (Int32.toNatClampNeg (x4 + (1 : Int32)))) (xs (Int32.toNatClampNeg (x4 + (2 : Int32)))) (xs (Int32.toNatClampNeg (x4 + (3 : Int32)))) (xs (Int32.toNatClampNeg (x4 + (4 : Int32)))) (xs (Int32.toNatClampNeg (x4 + (5 : Int32))))).bind fun q15 => if q9.2 = q15.2 then (k_23 q9.1 q15.1 L (x4 + (9 : Int32))) else (some (0 : Int32))) else none) else none) else none) else none) else none) else none) else none) else none) else none) else none
def B_law_281 (xs : Nat → Int32) (Lth : Nat) (k_23 : TX → TX → TL → Int32 → Option Int32) (X M : TX) (L : TL) (x4 : Int32) : Option Int32 := if inb (x4 + (1 : Int32)) Lth = true then ((f_L_county X L (xs (Int32.toNatClampNeg (x4 + (1 : Int32))))).bind fun q19 => if inb (x4 + (1 : Int32)) Lth = true then ((f_X9_county M (xs (Int32.toNatClampNeg (x4 + (1 : Int32))))).bind fun q21 => (f_X9_thrown q21.1).bind fun q22 => if q22 = q19.2.2 then (if q19.2.2 = 0 then (if inb (0 : Int32) 1 = true then (if (lg_cmp (q19.2.1 27 (Int32.toNatClampNeg (0 : Int32))) (Int32.toInt64 q21.2)) = 0 then (k_23 q19.1 q21.1 q19.2.1 (x4 + (9 : Int32))) else (some (0 : Int32))) else none) else (k_23 q19.1 q21.1 q19.2.1 (x4 + (9 : Int32)))) else (some (0 : Int32))) else none) else none
def B_law_337 (xs : Nat → Int32) (Lth : Nat) (k_23 : TX → TX → TL → Int32 → Option Int32) (X M : TX) (L : TL) (x4 : Int32) : Option Int32 := if inb (x4 + (1 : Int32)) Lth = true then ((f_L_law X L (xs (Int32.toNatClampNeg (x4 + (1 : Int32))))).bind fun q29 => if inb (x4 + (1 : Int32)) Lth = true then ((f_X9_law M (xs (Int32.toNatClampNeg (x4 + (1 : Int32))))).bind fun q31 => (f_X9_thrown q31.1).bind fun q32 => if q32 = q29.2.2 then (if q29.2.2 = 0 then (if inb (0 : Int32) 1 = true then (if (lg_cmp (q29.2.1 27 (Int32.toNatClampNeg (0 : Int32))) (Int32.toInt64 q31.2)) = 0 then (k_23 q29.1 q31.1 q29.2.1 (x4 + (9 : Int32))) else (some (0 : Int32))) else none) else (k_23 q29.1 q31.1 q29.2.1 (x4 + (9 : Int32)))) else (some (0 : Int32))) else none) else none
def B_law_393 (xs : Nat → Int32) (Lth : Nat) (k_23 : TX → TX → TL → Int32 → Option Int32) (X M : TX) (L : TL) (x4 : Int32) : Option Int32 := if inb (x4 + (1 : Int32)) Lth = true then ((f_L_work X L (xs (Int32.toNatClampNeg (x4 + (1 : Int32))))).bind fun q39 => if inb (x4 + (1 : Int32)) Lth = true then ((f_X9_work M (xs (Int32.toNatClampNeg (x4 + (1 : Int32))))).bind fun q41 => (f_X9_thrown q41.1).bind fun q42 => if q42 = q39.2.2 then (if q39.2.2 = 0 then (if inb (0 : Int32) 1 = true then (if (lg_cmp (q39.2.1 27 (Int32.toNatClampNeg (0 : Int32))) (Int32.toInt64 q41.2)) = 0 then (k_23 q39.1 q41.1 q39.2.1 (x4 + (9 : Int32))) else (some (0 : Int32))) else none) else (k_23 q39.1 q41.1 q39.2.1 (x4 + (9 : Int32)))) else (some (0 : Int32))) else none) else none
def B_law_449 (xs : Nat → Int32) (Lth : Nat) (k_23 : TX → TX → TL → Int32 → Option Int32) (X M : TX) (L : TL) (x4 : Int32) : Option Int32 := if inb (x4 + (1 : Int32)) Lth = true then ((f_L_book X L (xs (Int32.toNatClampNeg (x4 + (1 : Int32))))).bind fun q49 => if inb (x4 + (1 : Int32)) Lth = true then ((f_X9_book M (xs (Int32.toNatClampNeg (x4 + (1 : Int32))))).bind fun q51 => (f_X9_thrown q51.1).bind fun q52 => if q52 = q49.2.2 then (if q49.2.2 = 0 then (if inb (0 : Int32) 1 = true then (if (lg_cmp (q49.2.1 27 (Int32.toNatClampNeg (0 : Int32))) (Int32.toInt64 q51.2)) = 0 then (k_23 q49.1 q51.1 q49.2.1 (x4 + (9 : Int32))) else (some (0 : Int32))) else none) else (k_23 q49.1 q51.1 q49.2.1 (x4 + (9 : Int32)))) else (some (0 : Int32))) else none) else none
def B_law_505 (xs : Nat → Int32) (Lth : Nat) (k_23 : TX → TX → TL → Int32 → Option Int32) (X M : TX) (L : TL) (x4 : Int32) : Option Int32 := (f_X8_fault X).bind fun q58 => (f_X9_fault M).bind fun q59 => if q58 = q59.2 then (k_23 X q59.1 L (x4 + (9 : Int32))) else (some (0 : Int32))
def B_law_518 (xs : Nat → Int32) (Lth : Nat) (k_23 : TX → TX → TL → Int32 → Option Int32) (X M : TX) (L : TL) (x4 : Int32) : Option Int32 := (f_X8_undo X).bind fun q62 => (f_X9_undo M).bind fun q63 => if q62.2 = q63.2 then (k_23 q62.1 q63.1 L (x4 + (9 : Int32))) else (some (0 : Int32))
def B_law_531 (xs : Nat → Int32) (Lth : Nat) (k_23 : TX → TX → TL → Int32 → Option Int32) (X M : TX) (L : TL) (x4 : Int32) : Option Int32 := if inb (x4 + (1 : Int32)) Lth = true then ((f_L_told X L (xs (Int32.toNatClampNeg (x4 + (1 : Int32))))).bind fun q67 => if inb (x4 + (1 : Int32)) Lth = true then ((f_X9_told M (xs (Int32.toNatClampNeg (x4 + (1 : Int32))))).bind fun q69 => (f_X9_thrown q69.1).bind fun q70 => if q70 = q67.2.2 then (if q67.2.2 = 0 then (if inb (0 : Int32) 1 = true then (if (lg_cmp (q67.2.1 27 (Int32.toNatClampNeg (0 : Int32))) (Int32.toInt64 q69.2)) = 0 then (k_23 q67.1 q69.1 q67.2.1 (x4 + (9 : Int32))) else (some (0 : Int32))) else none) else (k_23 q67.1 q69.1 q67.2.1 (x4 + (9 : Int32)))) else (some (0 : Int32))) else none) else none
def B_law_587 (xs : Nat → Int32) (Lth : Nat) (k_23 : TX → TX → TL → Int32 → Option Int32) (X M : TX) (L : TL) (x4 : Int32) : Option Int32 := if inb (x4 + (1 : Int32)) Lth = true then (if inb (x4 + (2 : Int32)) Lth = true then ((f_L_parish X L (xs (Int32.toNatClampNeg (x4 + (1 : Int32)))) (xs (Int32.toNatClampNeg (x4 + (2 : Int32))))).bind fun q78 => if inb (x4 + (1 : Int32)) Lth = true then (if inb (x4 + (2 : Int32)) Lth = true then ((f_X9_parish M (xs (Int32.toNatClampNeg (x4 + (1 : Int32)))) (xs (Int32.toNatClampNeg (x4 + (2 : Int32))))).bind fun q81 => (f_X9_thrown q81.1).bind fun q82 => if q82 = q78.2.2 then (if q78.2.2 = 0 then (if inb (0 : Int32) 1 = true then (if (lg_cmp (q78.2.1 27 (Int32.toNatClampNeg (0 : Int32))) (Int32.toInt64 q81.2)) = 0 then (k_23 q78.1 q81.1 q78.2.1 (x4 + (9 : Int32))) else (some (0 : Int32))) else none) else (k_23 q78.1 q81.1 q78.2.1 (x4 + (9 : Int32)))) else (some (0 : Int32))) else none) else none) else none) else none
def B_law_655 (xs : Nat → Int32) (Lth : Nat) (k_23 : TX → TX → TL → Int32 → Option Int32) (X M : TX) (L : TL) (x4 : Int32) : Option Int32 := if inb (x4 + (1 : Int32)) Lth = true then (if inb (x4 + (2 : Int32)) Lth = true then ((f_L_ward X L (xs (Int32.toNatClampNeg (x4 + (1 : Int32)))) (xs (Int32.toNatClampNeg (x4 + (2 : Int32))))).bind fun q90 => if inb (x4 + (1 : Int32)) Lth = true then (if inb (x4 + (2 : Int32)) Lth = true then ((f_X9_ward M (xs (Int32.toNatClampNeg (x4 + (1 : Int32)))) (xs (Int32.toNatClampNeg (x4 + (2 : Int32))))).bind fun q93 => (f_X9_thrown q93.1).bind fun q94 => if q94 = q90.2.2 then (if q90.2.2 = 0 then (if inb (0 : Int32) 1 = true then (if (lg_cmp (q90.2.1 27 (Int32.toNatClampNeg (0 : Int32))) (Int32.toInt64 q93.2)) = 0 then (k_23 q90.1 q93.1 q90.2.1 (x4 + (9 : Int32))) else (some (0 : Int32))) else none) else (k_23 q90.1 q93.1 q90.2.1 (x4 + (9 : Int32)))) else (some (0 : Int32))) else none) else none) else none) else none
def B_law_723 (xs : Nat → Int32) (Lth : Nat) (k_23 : TX → TX → TL → Int32 → Option Int32) (X M : TX) (L : TL) (x4 : Int32) : Option Int32 := if inb (x4 + (1 : Int32)) Lth = true then (if inb (x4 + (2 : Int32)) Lth = true then ((f_L_side X L (xs (Int32.toNatClampNeg (x4 + (1 : Int32)))) (xs (Int32.toNatClampNeg (x4 + (2 : Int32))))).bind fun q102 => if inb (x4 + (1 : Int32)) Lth = true then (if inb (x4 + (2 : Int32)) Lth = true then ((f_X9_side M (xs (Int32.toNatClampNeg (x4 + (1 : Int32)))) (xs (Int32.toNatClampNeg (x4 + (2 : Int32))))).bind fun q105 => (f_X9_thrown q105.1).bind fun q106 => if q106 = q102.2.2 then (if q102.2.2 = 0 then (if inb (0 : Int32) 1 = true then (if (lg_cmp (q102.2.1 27 (Int32.toNatClampNeg (0 : Int32))) (Int32.toInt64 q105.2)) = 0 then (k_23 q102.1 q105.1 q102.2.1 (x4 + (9 : Int32))) else (some (0 : Int32))) else none) else (k_23 q102.1 q105.1 q102.2.1 (x4 + (9 : Int32)))) else (some (0 : Int32))) else none) else none) else none) else none
def B_law_791 (xs : Nat → Int32) (Lth : Nat) (k_23 : TX → TX → TL → Int32 → Option Int32) (X M : TX) (L : TL) (x4 : Int32) : Option Int32 := if inb (x4 + (1 : Int32)) Lth = true then (if inb (x4 + (2 : Int32)) Lth = true then ((f_L_cost X L (xs (Int32.toNatClampNeg (x4 + (1 : Int32)))) (xs (Int32.toNatClampNeg (x4 + (2 : Int32))))).bind fun q114 => if inb (x4 + (1 : Int32)) Lth = true then (if inb (x4 + (2 : Int32)) Lth = true then ((f_X9_cost M (xs (Int32.toNatClampNeg (x4 + (1 : Int32)))) (xs (Int32.toNatClampNeg (x4 + (2 : Int32))))).bind fun q117 => (f_X9_thrown q117.1).bind fun q118 => if q118 = q114.2.2 then (if q114.2.2 = 0 then (if inb (0 : Int32) 1 = true then (if (lg_cmp (q114.2.1 27 (Int32.toNatClampNeg (0 : Int32))) (Int32.toInt64 q117.2)) = 0 then (k_23 q114.1 q117.1 q114.2.1 (x4 + (9 : Int32))) else (some (0 : Int32))) else none) else (k_23 q114.1 q117.1 q114.2.1 (x4 + (9 : Int32)))) else (some (0 : Int32))) else none) else none) else none) else none
def B_law_859 (xs : Nat → Int32) (Lth : Nat) (k_23 : TX → TX → TL → Int32 → Option Int32) (X M : TX) (L : TL) (x4 : Int32) : Option Int32 := if inb (x4 + (1 : Int32)) Lth = true then (if inb (x4 + (2 : Int32)) Lth = true then (if inb (x4 + (3 : Int32)) Lth = true then (if inb (x4 + (4 : Int32)) Lth = true then (if inb (x4 + (5 : Int32)) Lth = true then (if inb (x4 + (6 : Int32)) Lth = true then (if inb (x4 + (7 : Int32)) Lth = true then (if inb (x4 + (8 : Int32)) Lth = true then ((f_L_would X L (xs (Int32.toNatClampNeg (x4 + (1 : Int32)))) (xs (Int32.toNatClampNeg (x4 + (2 : Int32)))) (xs (Int32.toNatClampNeg (x4 + (3 : Int32)))) (xs (Int32.toNatClampNeg (x4 + (4 : Int32)))) (xs (Int32.toNatClampNeg (x4 + (5 : Int32)))) (xs (Int32.toNatClampNeg (x4 + (6 : Int32)))) (xs (Int32.toNatClampNeg (x4 + (7 : Int32)))) (xs (Int32.toNatClampNeg (x4 + (8 : Int32))))).bind fun q132 => if inb (x4 + (1 : Int32)) Lth = true then (if inb (x4 + (2 : Int32)) Lth = true then (if inb (x4 + (3 : Int32)) Lth = true then (if inb (x4 + (4 : Int32)) Lth = true then (if inb (x4 + (5 : Int32)) Lth = true then (if inb (x4 + (6 : Int32)) Lth = true then (if inb (x4 + (7 : Int32)) Lth = true then (if inb (x4 + (8 : Int32)) Lth = true then ((f_X9_would M (xs (Int32.toNatClampNeg (x4 + (1 : Int32)))) (xs (Int32.toNatClampNeg (x4 + (2 : Int32)))) (xs (Int32.toNatClampNeg (x4 + (3 : Int32)))) (xs (Int32.toNatClampNeg (x4 + (4 : Int32)))) (xs (Int32.toNatClampNeg (x4 + (5 : Int32)))) (xs (Int32.toNatClampNeg (x4 + (6 : Int32)))) (xs (Int32.toNatClampNeg (x4 + (7 : Int32)))) (xs (Int32.toNatClampNeg (x4 + (8 : Int32))))).bind fun q141 => (f_X9_thrown q141.1).bind fun q142 => if q142 = q132.2.2 then (if q132.2.2 = 0 then (if inb (0 : Int32) 1 = true then (if (lg_cmp (q132.2.1 27 (Int32.toNatClampNeg (0 : Int32))) (Int32.toInt64 q141.2)) = 0 then (k_23 q132.1 q141.1 q132.2.1 (x4 + (9 : Int32))) else (some (0 : Int32))) else none) else (k_23 q132.1 q141.1 q132.2.1 (x4 + (9 : Int32)))) else (some (0 : Int32))) else none) else none) else none) else none) else none) else none) else none) else none) else none) else none) else none) else none) else none) else none) else none) else none
def B_law_1005 (xs : Nat → Int32) (Lth : Nat) (k_23 : TX → TX → TL → Int32 → Option Int32) (X M : TX) (L : TL) (x4 : Int32) : Option Int32 := if inb (x4 + (1 : Int32)) Lth = true then ((f_L_may X L (xs (Int32.toNatClampNeg (x4 + (1 : Int32))))).bind fun q149 => if inb (x4 + (1 : Int32)) Lth = true then ((f_X9_may M (xs (Int32.toNatClampNeg (x4 + (1 : Int32))))).bind fun q151 => (f_X9_thrown q151.1).bind fun q152 => if q152 = q149.2.2 then (if q149.2.2 = 0 then (if inb (0 : Int32) 1 = true then (if (lg_cmp (q149.2.1 27 (Int32.toNatClampNeg (0 : Int32))) (Int32.toInt64 q151.2)) = 0 then (k_23 q149.1 q151.1 q149.2.1 (x4 + (9 : Int32))) else (some (0 : Int32))) else none) else (k_23 q149.1 q151.1 q149.2.1 (x4 + (9 : Int32)))) else (some (0 : Int32))) else none) else none
def B_law_1061 (xs : Nat → Int32) (Lth : Nat) (k_23 : TX → TX → TL → Int32 → Option Int32) (X M : TX) (L : TL) (x4 : Int32) : Option Int32 := if inb (x4 + (1 : Int32)) Lth = true then (if inb (x4 + (2 : Int32)) Lth = true then ((f_L_best X L (xs (Int32.toNatClampNeg (x4 + (1 : Int32)))) (xs (Int32.toNatClampNeg (x4 + (2 : Int32))))).bind fun q160 => if inb (x4 + (1 : Int32)) Lth = true then (if inb (x4 + (2 : Int32)) Lth = true then ((f_X9_best M (xs (Int32.toNatClampNeg (x4 + (1 : Int32)))) (xs (Int32.toNatClampNeg (x4 + (2 : Int32))))).bind fun q163 => (f_X9_thrown q163.1).bind fun q164 => if q164 = q160.2.2 then (if q160.2.2 = 0 then (if inb (0 : Int32) 1 = true then (if (lg_cmp (q160.2.1 27 (Int32.toNatClampNeg (0 : Int32))) (Int32.toInt64 q163.2)) = 0 then (k_23 q160.1 q163.1 q160.2.1 (x4 + (9 : Int32))) else (some (0 : Int32))) else none) else (k_23 q160.1 q163.1 q160.2.1 (x4 + (9 : Int32)))) else (some (0 : Int32))) else none) else none) else none) else none
def B_law_1129 (xs : Nat → Int32) (Lth : Nat) (k_23 : TX → TX → TL → Int32 → Option Int32) (X M : TX) (L : TL) (x4 : Int32) : Option Int32 := if inb (x4 + (1 : Int32)) Lth = true then (if inb (x4 + (2 : Int32)) Lth = true then ((f_L_redrawn X L (xs (Int32.toNatClampNeg (x4 + (1 : Int32)))) (xs (Int32.toNatClampNeg (x4 + (2 : Int32))))).bind fun q172 => if inb (x4 + (1 : Int32)) Lth = true then (if inb (x4 + (2 : Int32)) Lth = true then ((f_X9_redrawn M (xs (Int32.toNatClampNeg (x4 + (1 : Int32)))) (xs (Int32.toNatClampNeg (x4 + (2 : Int32))))).bind fun q175 => (f_X9_thrown q175.1).bind fun q176 => if q176 = q172.2.2 then (if q172.2.2 = 0 then (if inb (0 : Int32) 1 = true then (if (lg_cmp (q172.2.1 27 (Int32.toNatClampNeg (0 : Int32))) (Int32.toInt64 q175.2)) = 0 then (k_23 q172.1 q175.1 q172.2.1 (x4 + (9 : Int32))) else (some (0 : Int32))) else none) else (k_23 q172.1 q175.1 q172.2.1 (x4 + (9 : Int32)))) else (some (0 : Int32))) else none) else none) else none) else none
def B_law_1197 (xs : Nat → Int32) (Lth : Nat) (k_23 : TX → TX → TL → Int32 → Option Int32) (X M : TX) (L : TL) (x4 : Int32) : Option Int32 := if inb (x4 + (1 : Int32)) Lth = true then ((f_L_turned X L (xs (Int32.toNatClampNeg (x4 + (1 : Int32))))).bind fun q183 => if inb (x4 + (1 : Int32)) Lth = true then ((f_X9_turned M (xs (Int32.toNatClampNeg (x4 + (1 : Int32))))).bind fun q185 => (f_X9_thrown q185.1).bind fun q186 => if q186 = q183.2.2 then (if q183.2.2 = 0 then (if inb (0 : Int32) 1 = true then (if (lg_cmp (q183.2.1 27 (Int32.toNatClampNeg (0 : Int32))) (Int32.toInt64 q185.2)) = 0 then (k_23 q183.1 q185.1 q183.2.1 (x4 + (9 : Int32))) else (some (0 : Int32))) else none) else (k_23 q183.1 q185.1 q183.2.1 (x4 + (9 : Int32)))) else (some (0 : Int32))) else none) else none
def B_law_1253 (xs : Nat → Int32) (Lth : Nat) (k_23 : TX → TX → TL → Int32 → Option Int32) (X M : TX) (L : TL) (x4 : Int32) : Option Int32 := if inb (x4 + (1 : Int32)) Lth = true then (if inb (x4 + (2 : Int32)) Lth = true then ((f_L_reigns X L (xs (Int32.toNatClampNeg (x4 + (1 : Int32)))) (xs (Int32.toNatClampNeg (x4 + (2 : Int32))))).bind fun q194 => if inb (x4 + (1 : Int32)) Lth = true then (if inb (x4 + (2 : Int32)) Lth = true then ((f_X9_reigns M (xs (Int32.toNatClampNeg (x4 + (1 : Int32)))) (xs (Int32.toNatClampNeg (x4 + (2 : Int32))))).bind fun q197 => (f_X9_thrown q197.1).bind fun q198 => if q198 = q194.2.2 then (if q194.2.2 = 0 then (if inb (0 : Int32) 1 = true then (if (lg_cmp (q194.2.1 27 (Int32.toNatClampNeg (0 : Int32))) (Int32.toInt64 q197.2)) = 0 then (k_23 q194.1 q197.1 q194.2.1 (x4 + (9 : Int32))) else (some (0 : Int32))) else none) else (k_23 q194.1 q197.1 q194.2.1 (x4 + (9 : Int32)))) else (some (0 : Int32))) else none) else none) else none) else none
def B_law_1321 (xs : Nat → Int32) (Lth : Nat) (k_23 : TX → TX → TL → Int32 → Option Int32) (X M : TX) (L : TL) (x4 : Int32) : Option Int32 := if inb (x4 + (1 : Int32)) Lth = true then ((f_L_round X L (xs (Int32.toNatClampNeg (x4 + (1 : Int32))))).bind fun q205 => if inb (x4 + (1 : Int32)) Lth = true then ((f_X9_round M (xs (Int32.toNatClampNeg (x4 + (1 : Int32))))).bind fun q207 => (f_X9_thrown q207.1).bind fun q208 => if q208 = q205.2.2 then (if q205.2.2 = 0 then (if inb (0 : Int32) 1 = true then (if (lg_cmp (q205.2.1 27 (Int32.toNatClampNeg (0 : Int32))) (Int32.toInt64 q207.2)) = 0 then (k_23 q205.1 q207.1 q205.2.1 (x4 + (9 : Int32))) else (some (0 : Int32))) else none) else (k_23 q205.1 q207.1 q205.2.1 (x4 + (9 : Int32)))) else (some (0 : Int32))) else none) else none
def B_law_1377 (xs : Nat → Int32) (Lth : Nat) (k_23 : TX → TX → TL → Int32 → Option Int32) (X M : TX) (L : TL) (x4 : Int32) : Option Int32 := if inb (x4 + (1 : Int32)) Lth = true then ((f_L_swing X L (xs (Int32.toNatClampNeg (x4 + (1 : Int32))))).bind fun q215 => if inb (x4 + (1 : Int32)) Lth = true then ((f_X9_swing M (xs (Int32.toNatClampNeg (x4 + (1 : Int32))))).bind fun q217 => (f_X9_thrown q217.1).bind fun q218 => if q218 = q215.2.2 then (if q215.2.2 = 0 then (if inb (0 : Int32) 1 = true then (if (lg_cmp (q215.2.1 27 (Int32.toNatClampNeg (0 : Int32))) (Int32.toInt64 q217.2)) = 0 then (k_23 q215.1 q217.1 q215.2.1 (x4 + (9 : Int32))) else (some (0 : Int32))) else none) else (k_23 q215.1 q217.1 q215.2.1 (x4 + (9 : Int32)))) else (some (0 : Int32))) else none) else none
def B_law_1433 (xs : Nat → Int32) (Lth : Nat) (k_23 : TX → TX → TL → Int32 → Option Int32) (X M : TX) (L : TL) (x4 : Int32) : Option Int32 := if inb (x4 + (1 : Int32)) Lth = true then (if inb (x4 + (2 : Int32)) Lth = true then ((f_L_waste X L (xs (Int32.toNatClampNeg (x4 + (1 : Int32)))) (xs (Int32.toNatClampNeg (x4 + (2 : Int32))))).bind fun q226 => if inb (x4 + (1 : Int32)) Lth = true then (if inb (x4 + (2 : Int32)) Lth = true then ((f_X9_waste M (xs (Int32.toNatClampNeg (x4 + (1 : Int32)))) (xs (Int32.toNatClampNeg (x4 + (2 : Int32))))).bind fun q229 => (f_X9_thrown q229.1).bind fun q230 => if q230 = q226.2.2 then (if q226.2.2 = 0 then (if inb (0 : Int32) 1 = true then (if (lg_cmp (q226.2.1 27 (Int32.toNatClampNeg (0 : Int32))) (Int32.toInt64 q229.2)) = 0 then (k_23 q226.1 q229.1 q226.2.1 (x4 + (9 : Int32))) else (some (0 : Int32))) else none) else (k_23 q226.1 q229.1 q226.2.1 (x4 + (9 : Int32)))) else (some (0 : Int32))) else none) else none) else none) else none
def B_law_1501 (xs : Nat → Int32) (Lth : Nat) (k_23 : TX → TX → TL → Int32 → Option Int32) (X M : TX) (L : TL) (x4 : Int32) : Option Int32 := if inb (x4 + (1 : Int32)) Lth = true then ((f_L_fits X L (xs (Int32.toNatClampNeg (x4 + (1 : Int32))))).bind fun q237 => if inb (x4 + (1 : Int32)) Lth = true then ((f_X9_fits M (xs (Int32.toNatClampNeg (x4 + (1 : Int32))))).bind fun q239 => (f_X9_thrown q239.1).bind fun q240 => if q240 = q237.2.2 then (if q237.2.2 = 0 then (if inb (0 : Int32) 1 = true then (if (lg_cmp (q237.2.1 27 (Int32.toNatClampNeg (0 : Int32))) (Int32.toInt64 q239.2)) = 0 then (k_23 q237.1 q239.1 q237.2.1 (x4 + (9 : Int32))) else (some (0 : Int32))) else none) else (k_23 q237.1 q239.1 q237.2.1 (x4 + (9 : Int32)))) else (some (0 : Int32))) else none) else none
def B_law_1557 (xs : Nat → Int32) (Lth : Nat) (k_23 : TX → TX → TL → Int32 → Option Int32) (X M : TX) (L : TL) (x4 : Int32) : Option Int32 := if inb (x4 + (1 : Int32)) Lth = true then ((f_L_look X L (xs (Int32.toNatClampNeg (x4 + (1 : Int32))))).bind fun q247 => if inb (x4 + (1 : Int32)) Lth = true then ((f_X9_look M (xs (Int32.toNatClampNeg (x4 + (1 : Int32))))).bind fun q249 => (f_X9_thrown q249.1).bind fun q250 => if q250 = q247.2.2 then (if q247.2.2 = 0 then (if inb (0 : Int32) 1 = true then (if (lg_cmp (q247.2.1 27 (Int32.toNatClampNeg (0 : Int32))) (Int32.toInt64 q249.2)) = 0 then (k_23 q247.1 q249.1 q247.2.1 (x4 + (9 : Int32))) else (some (0 : Int32))) else none) else (k_23 q247.1 q249.1 q247.2.1 (x4 + (9 : Int32)))) else (some (0 : Int32))) else none) else none
def B_law_1613 (xs : Nat → Int32) (Lth : Nat) (k_23 : TX → TX → TL → Int32 → Option Int32) (X M : TX) (L : TL) (x4 : Int32) : Option Int32 := if inb (x4 + (1 : Int32)) Lth = true then (if inb (x4 + (2 : Int32)) Lth = true then (if inb (x4 + (3 : Int32)) Lth = true then (if inb (x4 + (4 : Int32)) Lth = true then ((f_L_recount X L (xs (Int32.toNatClampNeg (x4 + (1 : Int32)))) (xs (Int32.toNatClampNeg (x4 + (2 : Int32)))) (xs (Int32.toNatClampNeg (x4 + (3 : Int32)))) (xs (Int32.toNatClampNeg (x4 + (4 : Int32))))).bind fun q260 => if inb (x4 + (1 : Int32)) Lth = true then (if inb (x4 + (2 : Int32)) Lth = true then (if inb (x4 + (3 : Int32)) Lth = true then (if inb (x4 + (4 : Int32)) Lth = true then ((f_X9_recount M q260.2.1 (xs (Int32.toNatClampNeg (x4 + (1 : Int32)))) (xs (Int32.toNatClampNeg (x4 + (2 : Int32)))) (xs (Int32.toNatClampNeg (x4 + (3 : Int32)))) (xs (Int32.toNatClampNeg (x4 + (4 : Int32))))).bind fun q265 => (f_X9_thrown q265.1).bind fun q266 => if q266 = q260.2.2 then (if q260.2.2 = 0 then (if inb (0 : Int32) 1 = true then (if (lg_cmp (q265.2.1 27 (Int32.toNatClampNeg (0 : Int32))) q265.2.2) = 0 then (k_23 q260.1 q265.1 q265.2.1 (x4 + (9 : Int32))) else (some (0 : Int32))) else none) else (k_23 q260.1 q265.1 q265.2.1 (x4 + (9 : Int32)))) else (some (0 : Int32))) else none) else none) else none) else none) else none) else none) else none) else none
def B_law_1704 (xs : Nat → Int32) (Lth : Nat) (k_23 : TX → TX → TL → Int32 → Option Int32) (X M : TX) (L : TL) (x4 : Int32) : Option Int32 := if inb (x4 + (1 : Int32)) Lth = true then ((f_L_smallest X L (xs (Int32.toNatClampNeg (x4 + (1 : Int32))))).bind fun q273 => if inb (x4 + (1 : Int32)) Lth = true then ((f_X9_smallest M (xs (Int32.toNatClampNeg (x4 + (1 : Int32))))).bind fun q275 => (f_X9_thrown q275.1).bind fun q276 => if q276 = q273.2.2 then (if q273.2.2 = 0 then (if inb (0 : Int32) 1 = true then (if (lg_cmp (q273.2.1 27 (Int32.toNatClampNeg (0 : Int32))) (Int32.toInt64 q275.2)) = 0 then (k_23 q273.1 q275.1 q273.2.1 (x4 + (9 : Int32))) else (some (0 : Int32))) else none) else (k_23 q273.1 q275.1 q273.2.1 (x4 + (9 : Int32)))) else (some (0 : Int32))) else none) else none
def B_law_1760 (xs : Nat → Int32) (Lth : Nat) (k_23 : TX → TX → TL → Int32 → Option Int32) (X M : TX) (L : TL) (x4 : Int32) : Option Int32 := if inb (x4 + (1 : Int32)) Lth = true then ((f_L_closest X L (xs (Int32.toNatClampNeg (x4 + (1 : Int32))))).bind fun q283 => if inb (x4 + (1 : Int32)) Lth = true then ((f_X9_closest M (xs (Int32.toNatClampNeg (x4 + (1 : Int32))))).bind fun q285 => (f_X9_thrown q285.1).bind fun q286 => if q286 = q283.2.2 then (if q283.2.2 = 0 then (if inb (0 : Int32) 1 = true then (if (lg_cmp (q283.2.1 27 (Int32.toNatClampNeg (0 : Int32))) (Int32.toInt64 q285.2)) = 0 then (k_23 q283.1 q285.1 q283.2.1 (x4 + (9 : Int32))) else (some (0 : Int32))) else none) else (k_23 q283.1 q285.1 q283.2.1 (x4 + (9 : Int32)))) else (some (0 : Int32))) else none) else none
def B_law_1816 (xs : Nat → Int32) (Lth : Nat) (k_23 : TX → TX → TL → Int32 → Option Int32) (X M : TX) (L : TL) (x4 : Int32) : Option Int32 := (f_X8_border X).bind fun q292 => (f_X9_border M).bind fun q293 => if q292 = q293.2 then (k_23 X q293.1 L (x4 + (9 : Int32))) else (some (0 : Int32))
def B_law_1829 (xs : Nat → Int32) (Lth : Nat) (k_23 : TX → TX → TL → Int32 → Option Int32) (X M : TX) (L : TL) (x4 : Int32) : Option Int32 := if inb (x4 + (1 : Int32)) Lth = true then ((f_L_tide X L (xs (Int32.toNatClampNeg (x4 + (1 : Int32))))).bind fun q297 => if inb (x4 + (1 : Int32)) Lth = true then ((f_X9_tide M (xs (Int32.toNatClampNeg (x4 + (1 : Int32))))).bind fun q299 => (f_X9_thrown q299.1).bind fun q300 => if q300 = q297.2.2 then (if q297.2.2 = 0 then (if inb (0 : Int32) 1 = true then (if (lg_cmp (q297.2.1 27 (Int32.toNatClampNeg (0 : Int32))) (Int32.toInt64 q299.2)) = 0 then (k_23 q297.1 q299.1 q297.2.1 (x4 + (9 : Int32))) else (some (0 : Int32))) else none) else (k_23 q297.1 q299.1 q297.2.1 (x4 + (9 : Int32)))) else (some (0 : Int32))) else none) else none
def B_law_1885 (xs : Nat → Int32) (Lth : Nat) (k_23 : TX → TX → TL → Int32 → Option Int32) (X M : TX) (L : TL) (x4 : Int32) : Option Int32 := if inb (x4 + (1 : Int32)) Lth = true then ((f_L_flip X L (xs (Int32.toNatClampNeg (x4 + (1 : Int32))))).bind fun q307 => if inb (x4 + (1 : Int32)) Lth = true then ((f_X9_flip M (xs (Int32.toNatClampNeg (x4 + (1 : Int32))))).bind fun q309 => (f_X9_thrown q309.1).bind fun q310 => if q310 = q307.2.2 then (if q307.2.2 = 0 then (if inb (0 : Int32) 1 = true then (if (lg_cmp (q307.2.1 27 (Int32.toNatClampNeg (0 : Int32))) (Int32.toInt64 q309.2)) = 0 then (k_23 q307.1 q309.1 q307.2.1 (x4 + (9 : Int32))) else (some (0 : Int32))) else none) else (k_23 q307.1 q309.1 q307.2.1 (x4 + (9 : Int32)))) else (some (0 : Int32))) else none) else none
def B_law_1941 (xs : Nat → Int32) (Lth : Nat) (k_23 : TX → TX → TL → Int32 → Option Int32) (X M : TX) (L : TL) (x4 : Int32) : Option Int32 := (f_X8_lone X).bind fun q316 => (f_X9_lone M).bind fun q317 => if q316 = q317.2 then (k_23 X q317.1 L (x4 + (9 : Int32))) else (some (0 : Int32))
def B_law_1954 (xs : Nat → Int32) (Lth : Nat) (k_23 : TX → TX → TL → Int32 → Option Int32) (X M : TX) (L : TL) (x4 : Int32) : Option Int32 := if inb (x4 + (1 : Int32)) Lth = true then ((f_L_cluster X L (xs (Int32.toNatClampNeg (x4 + (1 : Int32))))).bind fun q321 => if inb (x4 + (1 : Int32)) Lth = true then ((f_X9_cluster M (xs (Int32.toNatClampNeg (x4 + (1 : Int32))))).bind fun q323 => (f_X9_thrown q323.1).bind fun q324 => if q324 = q321.2.2 then (if q321.2.2 = 0 then (if inb (0 : Int32) 1 = true then (if (lg_cmp (q321.2.1 27 (Int32.toNatClampNeg (0 : Int32))) (Int32.toInt64 q323.2)) = 0 then (k_23 q321.1 q323.1 q321.2.1 (x4 + (9 : Int32))) else (some (0 : Int32))) else none) else (k_23 q321.1 q323.1 q321.2.1 (x4 + (9 : Int32)))) else (some (0 : Int32))) else none) else none
def B_law_2010 (xs : Nat → Int32) (Lth : Nat) (k_23 : TX → TX → TL → Int32 → Option Int32) (X M : TX) (L : TL) (x4 : Int32) : Option Int32 := if inb (x4 + (1 : Int32)) Lth = true then (if inb (x4 + (2 : Int32)) Lth = true then ((f_L_strongest X L (xs (Int32.toNatClampNeg (x4 + (1 : Int32)))) (xs (Int32.toNatClampNeg (x4 + (2 : Int32))))).bind fun q332 => if inb (x4 + (1 : Int32)) Lth = true then (if inb (x4 + (2 : Int32)) Lth = true then ((f_X9_strongest M (xs (Int32.toNatClampNeg (x4 + (1 : Int32)))) (xs (Int32.toNatClampNeg (x4 + (2 : Int32))))).bind fun q335 => (f_X9_thrown q335.1).bind fun q336 => if q336 = q332.2.2 then (if q332.2.2 = 0 then (if inb (0 : Int32) 1 = true then (if (lg_cmp (q332.2.1 27 (Int32.toNatClampNeg (0 : Int32))) (Int32.toInt64 q335.2)) = 0 then (k_23 q332.1 q335.1 q332.2.1 (x4 + (9 : Int32))) else (some (0 : Int32))) else none) else (k_23 q332.1 q335.1 q332.2.1 (x4 + (9 : Int32)))) else (some (0 : Int32))) else none) else none) else none) else none
def B_law_2078 (xs : Nat → Int32) (Lth : Nat) (k_23 : TX → TX → TL → Int32 → Option Int32) (X M : TX) (L : TL) (x4 : Int32) : Option Int32 := if inb (x4 + (1 : Int32)) Lth = true then (if inb (x4 + (2 : Int32)) Lth = true then (if inb (x4 + (3 : Int32)) Lth = true then (if inb (x4 + (4 : Int32)) Lth = true then ((f_L_time X L (xs (Int32.toNatClampNeg (x4 + (1 : Int32)))) (xs (Int32.toNatClampNeg (x4 + (2 : Int32)))) (xs (Int32.toNatClampNeg (x4 + (3 : Int32)))) (xs (Int32.toNatClampNeg (x4 + (4 : Int32))))).bind fun q346 => if inb (x4 + (1 : Int32)) Lth = true then (if inb (x4 + (2 : Int32)) Lth = true then (if inb (x4 + (3 : Int32)) Lth = true then (if inb (x4 + (4 : Int32)) Lth = true then ((f_X9_time M (xs (Int32.toNatClampNeg (x4 + (1 : Int32)))) (xs (Int32.toNatClampNeg (x4 + (2 : Int32)))) (xs (Int32.toNatClampNeg (x4 + (3 : Int32)))) (xs (Int32.toNatClampNeg (x4 + (4 : Int32))))).bind fun q351 => (f_X9_thrown q351.1).bind fun q352 => if q352 = q346.2.2 then (if q346.2.2 = 0 then (if inb (0 : Int32) 1 = true then (if (lg_cmp (q346.2.1 27 (Int32.toNatClampNeg (0 : Int32))) (Int32.toInt64 q351.2)) = 0 then (k_23 q346.1 q351.1 q346.2.1 (x4 + (9 : Int32))) else (some (0 : Int32))) else none) else (k_23 q346.1 q351.1 q346.2.1 (x4 + (9 : Int32)))) else (some (0 : Int32))) else none) else none) else none) else none) else none) else none) else none) else none
def B_law_2170 (xs : Nat → Int32) (Lth : Nat) (k_23 : TX → TX → TL → Int32 → Option Int32) (X M : TX) (L : TL) (x4 : Int32) : Option Int32 := if inb (x4 + (1 : Int32)) Lth = true then (if inb (x4 + (2 : Int32)) Lth = true then (if inb (x4 + (3 : Int32)) Lth = true then (if inb (x4 + (4 : Int32)) Lth = true then (if inb (x4 + (5 : Int32)) Lth = true then (if inb (x4 + (6 : Int32)) Lth = true then ((f_L_span X L (xs (Int32.toNatClampNeg (x4 + (1 : Int32)))) (xs (Int32.toNatClampNeg (x4 + (2 : Int32)))) (xs (Int32.toNatClampNeg (x4 + (3 : Int32)))) (xs (Int32.toNatClampNeg (x4 + (4 : Int32)))) (xs (Int32.toNatClampNeg (x4 + (5 : Int32)))) (xs (Int32.toNatClampNeg (x4 + (6 : Int32))))).bind fun q364 => if inb (x4 + (1 : Int32)) Lth = true then (if inb (x4 + (2 : Int32)) Lth = true then (if inb (x4 + (3 : Int32)) Lth = true then (if inb (x4 + (4 : Int32)) Lth = true then (if inb (x4 + (5 : Int32)) Lth = true then (if inb (x4 + (6 : Int32)) Lth = true then ((f_X9_span M (xs (Int32.toNatClampNeg (x4 + (1 : Int32)))) (xs (Int32.toNatClampNeg (x4 + (2 : Int32)))) (xs (Int32.toNatClampNeg (x4 + (3 : Int32)))) (xs (Int32.toNatClampNeg (x4 + (4 : Int32)))) (xs (Int32.toNatClampNeg (x4 + (5 : Int32)))) (xs (Int32.toNatClampNeg (x4 + (6 : Int32))))).bind fun q371 => (f_X9_thrown q371.1).bind fun q372 => if q372 = q364.2.2 then (if q364.2.2 = 0 then (if inb (0 : Int32) 1 = true then (if (lg_cmp (q364.2.1 27 (Int32.toNatClampNeg (0 : Int32))) (Int32.toInt64 q371.2)) = 0 then (k_23 q364.1 q371.1 q364.2.1 (x4 + (9 : Int32))) else (some (0 : Int32))) else none) else (k_23 q364.1 q371.1 q364.2.1 (x4 + (9 : Int32)))) else (some (0 : Int32))) else none) else none) else none) else none) else none) else none) else none) else none) else none) else none) else none) else none
def B_law_2288 (xs : Nat → Int32) (Lth : Nat) (k_23 : TX → TX → TL → Int32 → Option Int32) (X M : TX) (L : TL) (x4 : Int32) : Option Int32 := (f_X8_image X).bind fun q378 => (f_X9_image M).bind fun q379 => if q378.2 = q379.2 then (k_23 q378.1 q379.1 L (x4 + (9 : Int32))) else (some (0 : Int32))
def B_law_2301 (xs : Nat → Int32) (Lth : Nat) (k_23 : TX → TX → TL → Int32 → Option Int32) (X M : TX) (L : TL) (x4 : Int32) : Option Int32 := (f_X8_restore X).bind fun q382 => (f_X9_restore M).bind fun q383 => if q382.2 = q383.2 then (k_23 q382.1 q383.1 L (x4 + (9 : Int32))) else (some (0 : Int32))
def B_law_2314 (xs : Nat → Int32) (Lth : Nat) (k_23 : TX → TX → TL → Int32 → Option Int32) (X M : TX) (L : TL) (x4 : Int32) : Option Int32 := if inb (x4 + (1 : Int32)) Lth = true then ((f_X8_status X (xs (Int32.toNatClampNeg (x4 + (1 : Int32))))).bind fun q387 => if inb (x4 + (1 : Int32)) Lth = true then ((f_X9_status M (xs (Int32.toNatClampNeg (x4 + (1 : Int32))))).bind fun q389 => if q387 = q389.2 then (k_23 X q389.1 L (x4 + (9 : Int32))) else (some (0 : Int32))) else none) else none
def B_law_2339 (xs : Nat → Int32) (Lth : Nat) (k_23 : TX → TX → TL → Int32 → Option Int32) (X M : TX) (L : TL) (x4 : Int32) : Option Int32 := if inb (x4 + (1 : Int32)) Lth = true then ((f_X8_count X (xs (Int32.toNatClampNeg (x4 + (1 : Int32))))).bind fun q393 => if inb (x4 + (1 : Int32)) Lth = true then ((f_X9_count M (xs (Int32.toNatClampNeg (x4 + (1 : Int32))))).bind fun q395 => if q393 = q395.2 then (k_23 X q395.1 L (x4 + (9 : Int32))) else (some (0 : Int32))) else none) else none
def L_law_23 (xs : Nat → Int32) (Lth : Nat) : Nat → TX → TX → TL → Int32 → Option Int32
  | 0 => fun _ _ _ _ => none
  | n + 1 => fun X M L x4 => if ((nI Lth) - (9 : Int32)) < x4 then (some (1 : Int32)) else (if inb x4 Lth = true then (if ((xs (Int32.toNatClampNeg x4)) &&& (63 : Int32)) = (0 : Int32) then (B_law_208 xs Lth (L_law_23 xs Lth n) X M L x4) else (if ((xs (Int32.toNatClampNeg x4)) &&& (63 : Int32)) = (1 : Int32) then (B_law_281 xs Lth (L_law_23 xs Lth n) X M L x4) else (if ((xs (Int32.toNatClampNeg x4)) &&& (63 : Int32)) = (2 : Int32) then (B_law_337 xs Lth (L_law_23 xs Lth n) X M L x4) else (if ((xs (Int32.toNatClampNeg x4)) &&& (63 : Int32)) = (3 : Int32) then (B_law_393 xs Lth (L_law_23 xs Lth n) X M L x4) else (if ((xs (Int32.toNatClampNeg x4)) &&& (63 : Int32)) = (4 : Int32) then (B_law_449 xs Lth (L_law_23 xs Lth n) X M L x4) else (if ((xs (Int32.toNatClampNeg x4)) &&& (63 : Int32)) = (5 : Int32) then (B_law_505 xs Lth (L_law_23 xs Lth n) X M L x4) else (if ((xs (Int32.toNatClampNeg x4)) &&& (63 : Int32)) = (6 : Int32) then (B_law_518 xs Lth (L_law_23 xs Lth n) X M L x4) else (if ((xs (Int32.toNatClampNeg x4)) &&& (63 : Int32)) = (7 : Int32) then (B_law_531 xs Lth (L_law_23 xs Lth n) X M L x4) else (if ((xs (Int32.toNatClampNeg x4)) &&& (63 : Int32)) = (8 : Int32) then (B_law_587 xs Lth (L_law_23 xs Lth n) X M L x4) else (if ((xs (Int32.toNatClampNeg x4)) &&& (63 : Int32)) = (9 : Int32) then (B_law_655 xs Lth (L_law_23 xs Lth n) X M L x4) else (if ((xs (Int32.toNatClampNeg x4)) &&& (63 : Int32)) = (10 : Int32) then (B_law_723 xs Lth (L_law_23 xs Lth n) X M L x4) else (if ((xs (Int32.toNatClampNeg x4)) &&& (63 : Int32)) = (11 : Int32) then (B_law_791 xs Lth (L_law_23 xs Lth n) X M L x4) else (if ((xs (Int32.toNatClampNeg x4)) &&& (63 : Int32)) = (12 : Int32) then (B_law_859 xs Lth (L_law_23 xs Lth n) X M L x4) else (if ((xs (Int32.toNatClampNeg x4)) &&& (63 : Int32)) = (13 : Int32) then (B_law_1005 xs Lth (L_law_23 xs Lth n) X M L x4) else (if ((xs (Int32.toNatClampNeg x4)) &&& (63 : Int32)) = (14 : Int32) then (B_law_1061 xs Lth (L_law_23 xs Lth n) X M L x4) else (if ((xs (Int32.toNatClampNeg x4)) &&& (63 : Int32)) = (15 : Int32) then (B_law_1129 xs Lth (L_law_23 xs Lth n) X M L x4) else (if ((xs (Int32.toNatClampNeg x4)) &&& (63 : Int32)) = (16 : Int32) then (B_law_1197 xs Lth (L_law_23 xs Lth n) X M L x4) else (if ((xs (Int32.toNatClampNeg x4)) &&& (63 : Int32)) = (17 : Int32) then (B_law_1253 xs Lth (L_law_23 xs Lth n) X M L x4) else (if ((xs (Int32.toNatClampNeg x4)) &&& (63 : Int32)) = (18 : Int32) then (B_law_1321 xs Lth (L_law_23 xs Lth n) X M L x4) else (if ((xs (Int32.toNatClampNeg x4)) &&& (63 : Int32)) = (19 : Int32) then (B_law_1377 xs Lth (L_law_23 xs Lth n) X M L x4) else (if ((xs (Int32.toNatClampNeg x4)) &&& (63 : Int32)) = (20 : Int32) then (B_law_1433 xs Lth (L_law_23 xs Lth n) X M L x4) else (if ((xs (Int32.toNatClampNeg x4)) &&& (63 : Int32)) = (21 : Int32) then (B_law_1501 xs Lth (L_law_23 xs Lth n) X M L x4) else (if ((xs (Int32.toNatClampNeg x4)) &&& (63 : Int32)) = (22 : Int32) then (B_law_1557 xs Lth (L_law_23 xs Lth n) X M L x4) else (if ((xs (Int32.toNatClampNeg x4)) &&& (63 : Int32)) = (23 : Int32) then (B_law_1613 xs Lth (L_law_23 xs Lth n) X M L x4) else (if ((xs (Int32.toNatClampNeg x4)) &&& (63 : Int32)) = (24 : Int32) then (B_law_1704 xs Lth (L_law_23 xs Lth n) X M L x4) else (if ((xs (Int32.toNatClampNeg x4)) &&& (63 : Int32)) = (25 : Int32) then (B_law_1760 xs Lth (L_law_23 xs Lth n) X M L x4) else (if ((xs (Int32.toNatClampNeg x4)) &&& (63 : Int32)) = (26 : Int32) then (B_law_1816 xs Lth (L_law_23 xs Lth n) X M L x4) else (if ((xs (Int32.toNatClampNeg x4)) &&& (63 : Int32)) = (27 : Int32) then (B_law_1829 xs Lth (L_law_23 xs Lth n) X M L x4) else (if ((xs (Int32.toNatClampNeg x4)) &&& (63 : Int32)) = (28 : Int32) then (B_law_1885 xs Lth (L_law_23 xs Lth n) X M L x4) else (if ((xs (Int32.toNatClampNeg x4)) &&& (63 : Int32)) = (29 : Int32) then (B_law_1941 xs Lth (L_law_23 xs Lth n) X M L x4) else (if ((xs (Int32.toNatClampNeg x4)) &&& (63 : Int32)) = (30 : Int32) then (B_law_1954 xs Lth (L_law_23 xs Lth n) X M L x4) else (if ((xs (Int32.toNatClampNeg x4)) &&& (63 : Int32)) = (31 : Int32) then (B_law_2010 xs Lth (L_law_23 xs Lth n) X M L x4) else (if ((xs (Int32.toNatClampNeg x4)) &&& (63 : Int32)) = (32 : Int32) then (B_law_2078 xs Lth (L_law_23 xs Lth n) X M L x4) else (if ((xs (Int32.toNatClampNeg x4)) &&& (63 : Int32)) = (33 : Int32) then (B_law_2170 xs Lth (L_law_23 xs Lth n) X M L x4) else (if ((xs (Int32.toNatClampNeg x4)) &&& (63 : Int32)) = (34 : Int32) then (B_law_2288 xs Lth (L_law_23 xs Lth n) X M L x4) else (if ((xs (Int32.toNatClampNeg x4)) &&& (63 : Int32)) = (35 : Int32) then (B_law_2301 xs Lth (L_law_23 xs Lth n) X M L x4) else (if ((xs (Int32.toNatClampNeg x4)) &&& (63 : Int32)) = (36 : Int32) then (B_law_2314 xs Lth (L_law_23 xs Lth n) X M L x4) else (if ((xs (Int32.toNatClampNeg x4)) &&& (63 : Int32)) = (37 : Int32) then (B_law_2339 xs Lth (L_law_23 xs Lth n) X M L x4) else (((L_law_23 xs Lth n) X M L (x4 + (9 : Int32)))))))))))))))))))))))))))))))))))))))))) else none)
set_option maxRecDepth 20000 in
set_option maxHeartbeats 4000000 in
theorem wB_law_208 {G : GP} {l : Launch} {p : Program} {e : Env} {s : State} {m : MethodId} {below : List Frame} {meth : Method} {c : Code} {b Lth : Nat} {xs : Nat → Int32} (C : Cx G p s m #[Value.ref b] c cL_law_ 8 RL) (hr : meth.sig.returnType = ret) (hlk : meth.locks = false) (hst : l.stackTraces = false) (hnL : 41 + 27 < gN G) (hX : va_X b Lth xs s s.heap) (hbl : b < s.heap.size) (hbA : ¬ AB G b) (hBs : gB G = s.heap.size) {cB sB : Nat} (hcB : cB ≤ 601024) (hsB : sB ≤ 7293033) {k_23 : TX → TX → TL → Int32 → Option Int32} (hk_23 : ∀ (X : TX) (M : TX) (L : TL) (x4 : Int32) (cells slots : Nat) (H : Heap) (locs : List Loc) (ls : Array Slot), cells ≤ cB → slots ≤ sB → Wh G s X M L H locs → lv_has ls 8 [(0, .ref b), (1, .ref (gA G 0)), (2, .ref (gA G (41 + 0))), (3, .ref (gA G (41 + 27))), (4, .int x4)] → k_23 X M L x4 = some (1 : Int32) → W p l e room_1 s m #[Value.ref b] below meth c H locs cells slots (lw_Z below #[Value.ref b] s) (F0 m 23 ls [])) : ∀ (X : TX) (M : TX) (L : TL) (x4 : Int32) (cells slots : Nat) (H : Heap) (locs : List Loc) (ls : Array Slot), cells + 4 ≤ cB → slots + 24 ≤ sB → Wh G s X M L H locs → lv_has ls 8 [(0, .ref b), (1, .ref (gA G 0)), (2, .ref (gA G (41 + 0))), (3, .ref (gA G (41 + 27))), (4, .int x4)] → B_law_208 xs Lth k_23 X M L x4 = some (1 : Int32) → W p l e room_1 s m #[Value.ref b] below meth c H locs cells slots (lw_Z below #[Value.ref b] s) (F0 m 208 ls []) := by
  intro X M L x4 cells slots H locs ls hc hs hw hl hf
  unfold B_law_208 at hf
  refine lv_aload_n C.1.1 C.1.2.1 dL_law__208 rfl (lv_at hl 1 rfl) ?_
  refine lv_aload_n C.1.1 C.1.2.1 dL_law__209 rfl (lv_at hl 0 rfl) ?_
  refine lv_iload C.1.1 C.1.2.1 dL_law__210 (lv_at hl 4 rfl) ?_
  refine lv_iconst (v := (1 : Int32)) C.1.1 C.1.2.1 dL_law__212 rfl ?_
  refine lv_iadd C.1.1 C.1.2.1 dL_law__213 ?_
  have g4 := inb_in (o_g hf).1
  have hf := (o_g hf).2
  refine va_sld C.1.1 C.1.2.1 hX hbl hbA hw.2 g4 dL_law__214 ?_
  refine lv_aload_n C.1.1 C.1.2.1 dL_law__215 rfl (lv_at hl 0 rfl) ?_
  refine lv_iload C.1.1 C.1.2.1 dL_law__216 (lv_at hl 4 rfl) ?_
  refine lv_iconst (v := (2 : Int32)) C.1.1 C.1.2.1 dL_law__218 rfl ?_
  refine lv_iadd C.1.1 C.1.2.1 dL_law__219 ?_
  have g5 := inb_in (o_g hf).1
  have hf := (o_g hf).2
  refine va_sld C.1.1 C.1.2.1 hX hbl hbA hw.2 g5 dL_law__220 ?_
  refine lv_aload_n C.1.1 C.1.2.1 dL_law__221 rfl (lv_at hl 0 rfl) ?_
  refine lv_iload C.1.1 C.1.2.1 dL_law__222 (lv_at hl 4 rfl) ?_
  refine lv_iconst (v := (3 : Int32)) C.1.1 C.1.2.1 dL_law__224 rfl ?_
  refine lv_iadd C.1.1 C.1.2.1 dL_law__225 ?_
  have g6 := inb_in (o_g hf).1
  have hf := (o_g hf).2
  refine va_sld C.1.1 C.1.2.1 hX hbl hbA hw.2 g6 dL_law__226 ?_
  refine lv_aload_n C.1.1 C.1.2.1 dL_law__227 rfl (lv_at hl 0 rfl) ?_
  refine lv_iload C.1.1 C.1.2.1 dL_law__228 (lv_at hl 4 rfl) ?_
  refine lv_iconst (v := (4 : Int32)) C.1.1 C.1.2.1 dL_law__230 rfl ?_
  refine lv_iadd C.1.1 C.1.2.1 dL_law__231 ?_
  have g7 := inb_in (o_g hf).1
  have hf := (o_g hf).2
  refine va_sld C.1.1 C.1.2.1 hX hbl hbA hw.2 g7 dL_law__232 ?_
  refine lv_aload_n C.1.1 C.1.2.1 dL_law__233 rfl (lv_at hl 0 rfl) ?_
  refine lv_iload C.1.1 C.1.2.1 dL_law__234 (lv_at hl 4 rfl) ?_
  refine lv_iconst (v := (5 : Int32)) C.1.1 C.1.2.1 dL_law__236 rfl ?_
  refine lv_iadd C.1.1 C.1.2.1 dL_law__237 ?_
  have g8 := inb_in (o_g hf).1
  have hf := (o_g hf).2
  refine va_sld C.1.1 C.1.2.1 hX hbl hbA hw.2 g8 dL_law__238 ?_
  obtain ⟨q9, h9, hf⟩ := o_bind hf
  refine aft_i hw (run_VX C hw clL_110 (As := [.int (xs (Int32.toNatClampNeg (x4 + (1 : Int32)))), .int (xs (Int32.toNatClampNeg (x4 + (2 : Int32)))), .int (xs (Int32.toNatClampNeg (x4 + (3 : Int32)))), .int (xs (Int32.toNatClampNeg (x4 + (4 : Int32)))), .int (xs (Int32.toNatClampNeg (x4 + (5 : Int32))))]) (rest := []) oX_0 (c_X8_feed h9) rfl hl.1 rfl ⟨Nat.le_of_ble_eq_true rfl, Nat.le_of_ble_eq_true rfl⟩ ⟨by show cells ≤ 601024; omega, by show slots ≤ 7293033; omega⟩ rfl (Nat.le_of_ble_eq_true rfl) dL_law__239) (fun H locs hw => ?_)
  refine lv_aload_n C.1.1 C.1.2.1 dL_law__242 rfl (lv_at hl 2 rfl) ?_
  refine lv_aload_n C.1.1 C.1.2.1 dL_law__243 rfl (lv_at hl 0 rfl) ?_
  refine lv_iload C.1.1 C.1.2.1 dL_law__244 (lv_at hl 4 rfl) ?_
  refine lv_iconst (v := (1 : Int32)) C.1.1 C.1.2.1 dL_law__246 rfl ?_
  refine lv_iadd C.1.1 C.1.2.1 dL_law__247 ?_
  have g10 := inb_in (o_g hf).1
  have hf := (o_g hf).2
  refine va_sld C.1.1 C.1.2.1 hX hbl hbA hw.2 g10 dL_law__248 ?_
  refine lv_aload_n C.1.1 C.1.2.1 dL_law__249 rfl (lv_at hl 0 rfl) ?_
  refine lv_iload C.1.1 C.1.2.1 dL_law__250 (lv_at hl 4 rfl) ?_
  refine lv_iconst (v := (2 : Int32)) C.1.1 C.1.2.1 dL_law__252 rfl ?_
  refine lv_iadd C.1.1 C.1.2.1 dL_law__253 ?_
  have g11 := inb_in (o_g hf).1
  have hf := (o_g hf).2
  refine va_sld C.1.1 C.1.2.1 hX hbl hbA hw.2 g11 dL_law__254 ?_
  refine lv_aload_n C.1.1 C.1.2.1 dL_law__255 rfl (lv_at hl 0 rfl) ?_
  refine lv_iload C.1.1 C.1.2.1 dL_law__256 (lv_at hl 4 rfl) ?_
  refine lv_iconst (v := (3 : Int32)) C.1.1 C.1.2.1 dL_law__258 rfl ?_
  refine lv_iadd C.1.1 C.1.2.1 dL_law__259 ?_
  have g12 := inb_in (o_g hf).1
  have hf := (o_g hf).2
  refine va_sld C.1.1 C.1.2.1 hX hbl hbA hw.2 g12 dL_law__260 ?_
  refine lv_aload_n C.1.1 C.1.2.1 dL_law__261 rfl (lv_at hl 0 rfl) ?_
  refine lv_iload C.1.1 C.1.2.1 dL_law__262 (lv_at hl 4 rfl) ?_
  refine lv_iconst (v := (4 : Int32)) C.1.1 C.1.2.1 dL_law__264 rfl ?_
  refine lv_iadd C.1.1 C.1.2.1 dL_law__265 ?_
  have g13 := inb_in (o_g hf).1
  have hf := (o_g hf).2
  refine va_sld C.1.1 C.1.2.1 hX hbl hbA hw.2 g13 dL_law__266 ?_
  refine lv_aload_n C.1.1 C.1.2.1 dL_law__267 rfl (lv_at hl 0 rfl) ?_
  refine lv_iload C.1.1 C.1.2.1 dL_law__268 (lv_at hl 4 rfl) ?_
  refine lv_iconst (v := (5 : Int32)) C.1.1 C.1.2.1 dL_law__270 rfl ?_
  refine lv_iadd C.1.1 C.1.2.1 dL_law__271 ?_
  have g14 := inb_in (o_g hf).1
  have hf := (o_g hf).2
  refine va_sld C.1.1 C.1.2.1 hX hbl hbA hw.2 g14 dL_law__272 ?_
  obtain ⟨q15, h15, hf⟩ := o_bind hf
  refine aft_i hw (run_VM C hw clL_114 (As := [.int (xs (Int32.toNatClampNeg (x4 + (1 : Int32)))), .int (xs (Int32.toNatClampNeg (x4 + (2 : Int32)))), .int (xs (Int32.toNatClampNeg (x4 + (3 : Int32)))), .int (xs (Int32.toNatClampNeg (x4 + (4 : Int32)))), .int (xs (Int32.toNatClampNeg (x4 + (5 : Int32))))]) (rest := [.int q9.2]) oM_0 (c_X9_feed h15) rfl hl.1 rfl ⟨Nat.le_of_ble_eq_true rfl, Nat.le_of_ble_eq_true rfl⟩ ⟨by show cells ≤ 601024; omega, by show slots ≤ 7293033; omega⟩ rfl (Nat.le_of_ble_eq_true rfl) dL_law__273) (fun H locs hw => ?_)
  refine lv_icmp_eq (tgt := 2364) C.1.1 C.1.2.1 dL_law__276 (by decide) (fun c16 => ?_) (fun c16 => ?_)
  · have hf := o_t hf c16
    refine lv_iinc (v := (x4 + (9 : Int32))) (lv' := [(4, .int (x4 + (9 : Int32))), (0, .ref b), (1, .ref (gA G 0)), (2, .ref (gA G (41 + 0))), (3, .ref (gA G (41 + 27)))]) C.1.1 C.1.2.1 dL_law__2364 hl (k := 4) rfl rfl (by decide) rfl (fun ls hl => ?_)
    refine lv_goto (tgt := 23) C.1.1 C.1.2.1 dL_law__2367 (by decide) ?_
    exact hk_23 q9.1 q15.1 L (x4 + (9 : Int32)) _ _ _ _ _ (by omega) (by omega) hw (lv_sub hl [1, 2, 3, 4, 0] rfl) hf
  · have hf := o_f hf c16
    refine lv_iconst (v := (0 : Int32)) C.1.1 C.1.2.1 dL_law__279 rfl ?_
    exact absurd (Option.some.inj hf) (by decide)
set_option maxRecDepth 20000 in
set_option maxHeartbeats 4000000 in
theorem wB_law_281 {G : GP} {l : Launch} {p : Program} {e : Env} {s : State} {m : MethodId} {below : List Frame} {meth : Method} {c : Code} {b Lth : Nat} {xs : Nat → Int32} (C : Cx G p s m #[Value.ref b] c cL_law_ 8 RL) (hr : meth.sig.returnType = ret) (hlk : meth.locks = false) (hst : l.stackTraces = false) (hnL : 41 + 27 < gN G) (hX : va_X b Lth xs s s.heap) (hbl : b < s.heap.size) (hbA : ¬ AB G b) (hBs : gB G = s.heap.size) {cB sB : Nat} (hcB : cB ≤ 601024) (hsB : sB ≤ 7293033) {k_23 : TX → TX → TL → Int32 → Option Int32} (hk_23 : ∀ (X : TX) (M : TX) (L : TL) (x4 : Int32) (cells slots : Nat) (H : Heap) (locs : List Loc) (ls : Array Slot), cells ≤ cB → slots ≤ sB → Wh G s X M L H locs → lv_has ls 8 [(0, .ref b), (1, .ref (gA G 0)), (2, .ref (gA G (41 + 0))), (3, .ref (gA G (41 + 27))), (4, .int x4)] → k_23 X M L x4 = some (1 : Int32) → W p l e room_1 s m #[Value.ref b] below meth c H locs cells slots (lw_Z below #[Value.ref b] s) (F0 m 23 ls [])) : ∀ (X : TX) (M : TX) (L : TL) (x4 : Int32) (cells slots : Nat) (H : Heap) (locs : List Loc) (ls : Array Slot), cells + 4 ≤ cB → slots + 24 ≤ sB → Wh G s X M L H locs → lv_has ls 8 [(0, .ref b), (1, .ref (gA G 0)), (2, .ref (gA G (41 + 0))), (3, .ref (gA G (41 + 27))), (4, .int x4)] → B_law_281 xs Lth k_23 X M L x4 = some (1 : Int32) → W p l e room_1 s m #[Value.ref b] below meth c H locs cells slots (lw_Z below #[Value.ref b] s) (F0 m 281 ls []) := by
  intro X M L x4 cells slots H locs ls hc hs hw hl hf
  unfold B_law_281 at hf
  refine lv_aload_n C.1.1 C.1.2.1 dL_law__281 rfl (lv_at hl 1 rfl) ?_
  refine lv_aload_n C.1.1 C.1.2.1 dL_law__282 rfl (lv_at hl 0 rfl) ?_
  refine lv_iload C.1.1 C.1.2.1 dL_law__283 (lv_at hl 4 rfl) ?_
  refine lv_iconst (v := (1 : Int32)) C.1.1 C.1.2.1 dL_law__285 rfl ?_
  refine lv_iadd C.1.1 C.1.2.1 dL_law__286 ?_
  have g18 := inb_in (o_g hf).1
  have hf := (o_g hf).2
  refine va_sld C.1.1 C.1.2.1 hX hbl hbA hw.2 g18 dL_law__287 ?_
  refine lv_aload_n C.1.1 C.1.2.1 dL_law__288 rfl (lv_at hl 3 rfl) ?_
  obtain ⟨q19, h19, hf⟩ := o_bind hf
  refine x_wrap (np := 3) C hw ⟨(tb2 200 rfl rfl), (tb2 201 rfl rfl), (tb1 0 rfl rfl), (tb2 202 rfl rfl)⟩ (As := [.ref (gA G 0), .int (xs (Int32.toNatClampNeg (x4 + (1 : Int32)))), .ref (gA G (41 + 27))]) (rest := []) (c_L_county hst hnL h19) (by decide +kernel) hl.1 rfl ⟨Nat.le_of_ble_eq_true rfl, Nat.le_of_ble_eq_true rfl⟩ ⟨by show cells + 1 ≤ 601024; omega, by show slots + 6 * 1 ≤ 7293033; omega⟩ rfl (Nat.le_of_ble_eq_true rfl) dL_law__289 (fun H locs hw => ?_)
  refine lv_istore (lv' := [(5, .int q19.2.2), (0, .ref b), (1, .ref (gA G 0)), (2, .ref (gA G (41 + 0))), (3, .ref (gA G (41 + 27))), (4, .int x4)]) C.1.1 C.1.2.1 dL_law__292 hl (by decide) rfl (fun ls hl => ?_)
  refine lv_aload_n C.1.1 C.1.2.1 dL_law__294 rfl (lv_at hl 3 rfl) ?_
  refine lv_aload_n C.1.1 C.1.2.1 dL_law__295 rfl (lv_at hl 1 rfl) ?_
  refine lv_iload C.1.1 C.1.2.1 dL_law__296 (lv_at hl 5 rfl) ?_
  refine lv_iconst (v := (1 : Int32)) C.1.1 C.1.2.1 dL_law__298 rfl ?_
  refine lv_iadd C.1.1 C.1.2.1 dL_law__299 ?_
  have g20 := inb_in (o_g hf).1
  have hf := (o_g hf).2
  refine va_sld C.1.1 C.1.2.1 hX hbl hbA hw.2 g20 dL_law__300 ?_
  obtain ⟨q21, h21, hf⟩ := o_bind hf
  refine aft_i hw (run_VM C hw clL_120 (As := [.int (xs (Int32.toNatClampNeg (x4 + (1 : Int32))))]) (rest := []) oM_0 (c_X9_county h21) rfl hl.1 rfl ⟨Nat.le_of_ble_eq_true rfl, Nat.le_of_ble_eq_true rfl⟩ ⟨by show cells + 1 ≤ 601024; omega, by show slots + 6 * 1 ≤ 7293033; omega⟩ rfl (Nat.le_of_ble_eq_true rfl) dL_law__301) (fun H locs hw => ?_)
  refine lv_istore (lv' := [(6, .int q21.2), (5, .int q19.2.2), (0, .ref b), (1, .ref (gA G 0)), (2, .ref (gA G (41 + 0))), (3, .ref (gA G (41 + 27))), (4, .int x4)]) C.1.1 C.1.2.1 dL_law__304 hl (by decide) rfl (fun ls hl => ?_)
  refine lv_aload_n C.1.1 C.1.2.1 dL_law__306 rfl (lv_at hl 4 rfl) ?_
  obtain ⟨q22, h22, hf⟩ := o_bind hf
  refine aft_i hw (run_VM C hw clL_121 (As := []) (rest := []) oM_0 (c_X9_thrown h22) rfl hl.1 rfl ⟨Nat.le_of_ble_eq_true rfl, Nat.le_of_ble_eq_true rfl⟩ ⟨by show cells + 1 ≤ 601024; omega, by show slots + 6 * 1 ≤ 7293033; omega⟩ rfl (Nat.le_of_ble_eq_true rfl) dL_law__307) (fun H locs hw => ?_)
  refine lv_iload C.1.1 C.1.2.1 dL_law__310 (lv_at hl 1 rfl) ?_
  refine lv_icmp_eq (tgt := 317) C.1.1 C.1.2.1 dL_law__312 (by decide) (fun c23 => ?_) (fun c23 => ?_)
  · have hf := o_t hf c23
    refine lv_iload C.1.1 C.1.2.1 dL_law__317 (lv_at hl 1 rfl) ?_
    refine lv_if_ne (tgt := 334) C.1.1 C.1.2.1 dL_law__319 (by decide) (fun c24 => ?_) (fun c24 => ?_)
    · have hf := o_f hf c24
      refine lv_goto (tgt := 2364) C.1.1 C.1.2.1 dL_law__334 (by decide) ?_
      refine lv_iinc (v := (x4 + (9 : Int32))) (lv' := [(4, .int (x4 + (9 : Int32))), (6, .int q21.2), (5, .int q19.2.2), (0, .ref b), (1, .ref (gA G 0)), (2, .ref (gA G (41 + 0))), (3, .ref (gA G (41 + 27)))]) C.1.1 C.1.2.1 dL_law__2364 hl (k := 6) rfl rfl (by decide) rfl (fun ls hl => ?_)
      refine lv_goto (tgt := 23) C.1.1 C.1.2.1 dL_law__2367 (by decide) ?_
      exact hk_23 q19.1 q21.1 q19.2.1 (x4 + (9 : Int32)) _ _ _ _ _ (by omega) (by omega) hw (lv_sub hl [3, 4, 5, 6, 0] rfl) hf
    · have hf := o_t hf c24
      refine lv_aload_n C.1.1 C.1.2.1 dL_law__322 rfl (lv_at hl 5 rfl) ?_
      refine lv_iconst (v := (0 : Int32)) C.1.1 C.1.2.1 dL_law__323 rfl ?_
      have g25 := inb_in (o_g hf).1
      have hf := (o_g hf).2
      refine l_ald C hw lM_27 hnL g25 dL_law__324 ?_
      refine lv_iload C.1.1 C.1.2.1 dL_law__325 (lv_at hl 0 rfl) ?_
      refine lv_i2l (v := (Int32.toInt64 q21.2)) C.1.1 C.1.2.1 dL_law__327 rfl ?_
      refine W.lcmp C.1.1 C.1.2.1 dL_law__328 ?_
      refine lv_if_eq (tgt := 334) C.1.1 C.1.2.1 dL_law__329 (by decide) (fun c26 => ?_) (fun c26 => ?_)
      · have hf := o_t hf c26
        refine lv_goto (tgt := 2364) C.1.1 C.1.2.1 dL_law__334 (by decide) ?_
        refine lv_iinc (v := (x4 + (9 : Int32))) (lv' := [(4, .int (x4 + (9 : Int32))), (6, .int q21.2), (5, .int q19.2.2), (0, .ref b), (1, .ref (gA G 0)), (2, .ref (gA G (41 + 0))), (3, .ref (gA G (41 + 27)))]) C.1.1 C.1.2.1 dL_law__2364 hl (k := 6) rfl rfl (by decide) rfl (fun ls hl => ?_)
        refine lv_goto (tgt := 23) C.1.1 C.1.2.1 dL_law__2367 (by decide) ?_
        exact hk_23 q19.1 q21.1 q19.2.1 (x4 + (9 : Int32)) _ _ _ _ _ (by omega) (by omega) hw (lv_sub hl [3, 4, 5, 6, 0] rfl) hf
      · have hf := o_f hf c26
        refine lv_iconst (v := (0 : Int32)) C.1.1 C.1.2.1 dL_law__332 rfl ?_
        exact absurd (Option.some.inj hf) (by decide)
  · have hf := o_f hf c23
    refine lv_iconst (v := (0 : Int32)) C.1.1 C.1.2.1 dL_law__315 rfl ?_
    exact absurd (Option.some.inj hf) (by decide)
set_option maxRecDepth 20000 in
set_option maxHeartbeats 4000000 in
theorem wB_law_337 {G : GP} {l : Launch} {p : Program} {e : Env} {s : State} {m : MethodId} {below : List Frame} {meth : Method} {c : Code} {b Lth : Nat} {xs : Nat → Int32} (C : Cx G p s m #[Value.ref b] c cL_law_ 8 RL) (hr : meth.sig.returnType = ret) (hlk : meth.locks = false) (hst : l.stackTraces = false) (hnL : 41 + 27 < gN G) (hX : va_X b Lth xs s s.heap) (hbl : b < s.heap.size) (hbA : ¬ AB G b) (hBs : gB G = s.heap.size) {cB sB : Nat} (hcB : cB ≤ 601024) (hsB : sB ≤ 7293033) {k_23 : TX → TX → TL → Int32 → Option Int32} (hk_23 : ∀ (X : TX) (M : TX) (L : TL) (x4 : Int32) (cells slots : Nat) (H : Heap) (locs : List Loc) (ls : Array Slot), cells ≤ cB → slots ≤ sB → Wh G s X M L H locs → lv_has ls 8 [(0, .ref b), (1, .ref (gA G 0)), (2, .ref (gA G (41 + 0))), (3, .ref (gA G (41 + 27))), (4, .int x4)] → k_23 X M L x4 = some (1 : Int32) → W p l e room_1 s m #[Value.ref b] below meth c H locs cells slots (lw_Z below #[Value.ref b] s) (F0 m 23 ls [])) : ∀ (X : TX) (M : TX) (L : TL) (x4 : Int32) (cells slots : Nat) (H : Heap) (locs : List Loc) (ls : Array Slot), cells + 4 ≤ cB → slots + 24 ≤ sB → Wh G s X M L H locs → lv_has ls 8 [(0, .ref b), (1, .ref (gA G 0)), (2, .ref (gA G (41 + 0))), (3, .ref (gA G (41 + 27))), (4, .int x4)] → B_law_337 xs Lth k_23 X M L x4 = some (1 : Int32) → W p l e room_1 s m #[Value.ref b] below meth c H locs cells slots (lw_Z below #[Value.ref b] s) (F0 m 337 ls []) := by
  intro X M L x4 cells slots H locs ls hc hs hw hl hf
  unfold B_law_337 at hf
  refine lv_aload_n C.1.1 C.1.2.1 dL_law__337 rfl (lv_at hl 1 rfl) ?_
  refine lv_aload_n C.1.1 C.1.2.1 dL_law__338 rfl (lv_at hl 0 rfl) ?_
  refine lv_iload C.1.1 C.1.2.1 dL_law__339 (lv_at hl 4 rfl) ?_
  refine lv_iconst (v := (1 : Int32)) C.1.1 C.1.2.1 dL_law__341 rfl ?_
  refine lv_iadd C.1.1 C.1.2.1 dL_law__342 ?_
  have g28 := inb_in (o_g hf).1
  have hf := (o_g hf).2
  refine va_sld C.1.1 C.1.2.1 hX hbl hbA hw.2 g28 dL_law__343 ?_
  refine lv_aload_n C.1.1 C.1.2.1 dL_law__344 rfl (lv_at hl 3 rfl) ?_
  obtain ⟨q29, h29, hf⟩ := o_bind hf
  refine x_wrap (np := 3) C hw ⟨(tb3 178 rfl rfl), (tb3 179 rfl rfl), (tb1 0 rfl rfl), (tb3 180 rfl rfl)⟩ (As := [.ref (gA G 0), .int (xs (Int32.toNatClampNeg (x4 + (1 : Int32)))), .ref (gA G (41 + 27))]) (rest := []) (c_L_law hst hnL h29) (by decide +kernel) hl.1 rfl ⟨Nat.le_of_ble_eq_true rfl, Nat.le_of_ble_eq_true rfl⟩ ⟨by show cells + 1 ≤ 601024; omega, by show slots + 6 * 1 ≤ 7293033; omega⟩ rfl (Nat.le_of_ble_eq_true rfl) dL_law__345 (fun H locs hw => ?_)
  refine lv_istore (lv' := [(5, .int q29.2.2), (0, .ref b), (1, .ref (gA G 0)), (2, .ref (gA G (41 + 0))), (3, .ref (gA G (41 + 27))), (4, .int x4)]) C.1.1 C.1.2.1 dL_law__348 hl (by decide) rfl (fun ls hl => ?_)
  refine lv_aload_n C.1.1 C.1.2.1 dL_law__350 rfl (lv_at hl 3 rfl) ?_
  refine lv_aload_n C.1.1 C.1.2.1 dL_law__351 rfl (lv_at hl 1 rfl) ?_
  refine lv_iload C.1.1 C.1.2.1 dL_law__352 (lv_at hl 5 rfl) ?_
  refine lv_iconst (v := (1 : Int32)) C.1.1 C.1.2.1 dL_law__354 rfl ?_
  refine lv_iadd C.1.1 C.1.2.1 dL_law__355 ?_
  have g30 := inb_in (o_g hf).1
  have hf := (o_g hf).2
  refine va_sld C.1.1 C.1.2.1 hX hbl hbA hw.2 g30 dL_law__356 ?_
  obtain ⟨q31, h31, hf⟩ := o_bind hf
  refine aft_i hw (run_VM C hw clL_127 (As := [.int (xs (Int32.toNatClampNeg (x4 + (1 : Int32))))]) (rest := []) oM_0 (c_X9_law h31) rfl hl.1 rfl ⟨Nat.le_of_ble_eq_true rfl, Nat.le_of_ble_eq_true rfl⟩ ⟨by show cells + 1 ≤ 601024; omega, by show slots + 6 * 1 ≤ 7293033; omega⟩ rfl (Nat.le_of_ble_eq_true rfl) dL_law__357) (fun H locs hw => ?_)
  refine lv_istore (lv' := [(6, .int q31.2), (5, .int q29.2.2), (0, .ref b), (1, .ref (gA G 0)), (2, .ref (gA G (41 + 0))), (3, .ref (gA G (41 + 27))), (4, .int x4)]) C.1.1 C.1.2.1 dL_law__360 hl (by decide) rfl (fun ls hl => ?_)
  refine lv_aload_n C.1.1 C.1.2.1 dL_law__362 rfl (lv_at hl 4 rfl) ?_
  obtain ⟨q32, h32, hf⟩ := o_bind hf
  refine aft_i hw (run_VM C hw clL_121 (As := []) (rest := []) oM_0 (c_X9_thrown h32) rfl hl.1 rfl ⟨Nat.le_of_ble_eq_true rfl, Nat.le_of_ble_eq_true rfl⟩ ⟨by show cells + 1 ≤ 601024; omega, by show slots + 6 * 1 ≤ 7293033; omega⟩ rfl (Nat.le_of_ble_eq_true rfl) dL_law__363) (fun H locs hw => ?_)
  refine lv_iload C.1.1 C.1.2.1 dL_law__366 (lv_at hl 1 rfl) ?_
  refine lv_icmp_eq (tgt := 373) C.1.1 C.1.2.1 dL_law__368 (by decide) (fun c33 => ?_) (fun c33 => ?_)
  · have hf := o_t hf c33
    refine lv_iload C.1.1 C.1.2.1 dL_law__373 (lv_at hl 1 rfl) ?_
    refine lv_if_ne (tgt := 390) C.1.1 C.1.2.1 dL_law__375 (by decide) (fun c34 => ?_) (fun c34 => ?_)
    · have hf := o_f hf c34
      refine lv_goto (tgt := 2364) C.1.1 C.1.2.1 dL_law__390 (by decide) ?_
      refine lv_iinc (v := (x4 + (9 : Int32))) (lv' := [(4, .int (x4 + (9 : Int32))), (6, .int q31.2), (5, .int q29.2.2), (0, .ref b), (1, .ref (gA G 0)), (2, .ref (gA G (41 + 0))), (3, .ref (gA G (41 + 27)))]) C.1.1 C.1.2.1 dL_law__2364 hl (k := 6) rfl rfl (by decide) rfl (fun ls hl => ?_)
      refine lv_goto (tgt := 23) C.1.1 C.1.2.1 dL_law__2367 (by decide) ?_
      exact hk_23 q29.1 q31.1 q29.2.1 (x4 + (9 : Int32)) _ _ _ _ _ (by omega) (by omega) hw (lv_sub hl [3, 4, 5, 6, 0] rfl) hf
    · have hf := o_t hf c34
      refine lv_aload_n C.1.1 C.1.2.1 dL_law__378 rfl (lv_at hl 5 rfl) ?_
      refine lv_iconst (v := (0 : Int32)) C.1.1 C.1.2.1 dL_law__379 rfl ?_
      have g35 := inb_in (o_g hf).1
      have hf := (o_g hf).2
      refine l_ald C hw lM_27 hnL g35 dL_law__380 ?_
      refine lv_iload C.1.1 C.1.2.1 dL_law__381 (lv_at hl 0 rfl) ?_
      refine lv_i2l (v := (Int32.toInt64 q31.2)) C.1.1 C.1.2.1 dL_law__383 rfl ?_
      refine W.lcmp C.1.1 C.1.2.1 dL_law__384 ?_
      refine lv_if_eq (tgt := 390) C.1.1 C.1.2.1 dL_law__385 (by decide) (fun c36 => ?_) (fun c36 => ?_)
      · have hf := o_t hf c36
        refine lv_goto (tgt := 2364) C.1.1 C.1.2.1 dL_law__390 (by decide) ?_
        refine lv_iinc (v := (x4 + (9 : Int32))) (lv' := [(4, .int (x4 + (9 : Int32))), (6, .int q31.2), (5, .int q29.2.2), (0, .ref b), (1, .ref (gA G 0)), (2, .ref (gA G (41 + 0))), (3, .ref (gA G (41 + 27)))]) C.1.1 C.1.2.1 dL_law__2364 hl (k := 6) rfl rfl (by decide) rfl (fun ls hl => ?_)
        refine lv_goto (tgt := 23) C.1.1 C.1.2.1 dL_law__2367 (by decide) ?_
        exact hk_23 q29.1 q31.1 q29.2.1 (x4 + (9 : Int32)) _ _ _ _ _ (by omega) (by omega) hw (lv_sub hl [3, 4, 5, 6, 0] rfl) hf
      · have hf := o_f hf c36
        refine lv_iconst (v := (0 : Int32)) C.1.1 C.1.2.1 dL_law__388 rfl ?_
        exact absurd (Option.some.inj hf) (by decide)
  · have hf := o_f hf c33
    refine lv_iconst (v := (0 : Int32)) C.1.1 C.1.2.1 dL_law__371 rfl ?_
    exact absurd (Option.some.inj hf) (by decide)
set_option maxRecDepth 20000 in
set_option maxHeartbeats 4000000 in
theorem wB_law_393 {G : GP} {l : Launch} {p : Program} {e : Env} {s : State} {m : MethodId} {below : List Frame} {meth : Method} {c : Code} {b Lth : Nat} {xs : Nat → Int32} (C : Cx G p s m #[Value.ref b] c cL_law_ 8 RL) (hr : meth.sig.returnType = ret) (hlk : meth.locks = false) (hst : l.stackTraces = false) (hnL : 41 + 27 < gN G) (hX : va_X b Lth xs s s.heap) (hbl : b < s.heap.size) (hbA : ¬ AB G b) (hBs : gB G = s.heap.size) {cB sB : Nat} (hcB : cB ≤ 601024) (hsB : sB ≤ 7293033) {k_23 : TX → TX → TL → Int32 → Option Int32} (hk_23 : ∀ (X : TX) (M : TX) (L : TL) (x4 : Int32) (cells slots : Nat) (H : Heap) (locs : List Loc) (ls : Array Slot), cells ≤ cB → slots ≤ sB → Wh G s X M L H locs → lv_has ls 8 [(0, .ref b), (1, .ref (gA G 0)), (2, .ref (gA G (41 + 0))), (3, .ref (gA G (41 + 27))), (4, .int x4)] → k_23 X M L x4 = some (1 : Int32) → W p l e room_1 s m #[Value.ref b] below meth c H locs cells slots (lw_Z below #[Value.ref b] s) (F0 m 23 ls [])) : ∀ (X : TX) (M : TX) (L : TL) (x4 : Int32) (cells slots : Nat) (H : Heap) (locs : List Loc) (ls : Array Slot), cells + 4 ≤ cB → slots + 24 ≤ sB → Wh G s X M L H locs → lv_has ls 8 [(0, .ref b), (1, .ref (gA G 0)), (2, .ref (gA G (41 + 0))), (3, .ref (gA G (41 + 27))), (4, .int x4)] → B_law_393 xs Lth k_23 X M L x4 = some (1 : Int32) → W p l e room_1 s m #[Value.ref b] below meth c H locs cells slots (lw_Z below #[Value.ref b] s) (F0 m 393 ls []) := by
  intro X M L x4 cells slots H locs ls hc hs hw hl hf
  unfold B_law_393 at hf
  refine lv_aload_n C.1.1 C.1.2.1 dL_law__393 rfl (lv_at hl 1 rfl) ?_
  refine lv_aload_n C.1.1 C.1.2.1 dL_law__394 rfl (lv_at hl 0 rfl) ?_
  refine lv_iload C.1.1 C.1.2.1 dL_law__395 (lv_at hl 4 rfl) ?_
  refine lv_iconst (v := (1 : Int32)) C.1.1 C.1.2.1 dL_law__397 rfl ?_
  refine lv_iadd C.1.1 C.1.2.1 dL_law__398 ?_
  have g38 := inb_in (o_g hf).1
  have hf := (o_g hf).2
  refine va_sld C.1.1 C.1.2.1 hX hbl hbA hw.2 g38 dL_law__399 ?_
  refine lv_aload_n C.1.1 C.1.2.1 dL_law__400 rfl (lv_at hl 3 rfl) ?_
  obtain ⟨q39, h39, hf⟩ := o_bind hf
  refine x_wrap (np := 3) C hw ⟨(tb3 231 rfl rfl), (tb3 232 rfl rfl), (tb1 0 rfl rfl), (tb3 233 rfl rfl)⟩ (As := [.ref (gA G 0), .int (xs (Int32.toNatClampNeg (x4 + (1 : Int32)))), .ref (gA G (41 + 27))]) (rest := []) (c_L_work hst hnL h39) (by decide +kernel) hl.1 rfl ⟨Nat.le_of_ble_eq_true rfl, Nat.le_of_ble_eq_true rfl⟩ ⟨by show cells + 1 ≤ 601024; omega, by show slots + 6 * 1 ≤ 7293033; omega⟩ rfl (Nat.le_of_ble_eq_true rfl) dL_law__401 (fun H locs hw => ?_)
  refine lv_istore (lv' := [(5, .int q39.2.2), (0, .ref b), (1, .ref (gA G 0)), (2, .ref (gA G (41 + 0))), (3, .ref (gA G (41 + 27))), (4, .int x4)]) C.1.1 C.1.2.1 dL_law__404 hl (by decide) rfl (fun ls hl => ?_)
  refine lv_aload_n C.1.1 C.1.2.1 dL_law__406 rfl (lv_at hl 3 rfl) ?_
  refine lv_aload_n C.1.1 C.1.2.1 dL_law__407 rfl (lv_at hl 1 rfl) ?_
  refine lv_iload C.1.1 C.1.2.1 dL_law__408 (lv_at hl 5 rfl) ?_
  refine lv_iconst (v := (1 : Int32)) C.1.1 C.1.2.1 dL_law__410 rfl ?_
  refine lv_iadd C.1.1 C.1.2.1 dL_law__411 ?_
  have g40 := inb_in (o_g hf).1
  have hf := (o_g hf).2
  refine va_sld C.1.1 C.1.2.1 hX hbl hbA hw.2 g40 dL_law__412 ?_
  obtain ⟨q41, h41, hf⟩ := o_bind hf
  refine aft_i hw (run_VM C hw clL_130 (As := [.int (xs (Int32.toNatClampNeg (x4 + (1 : Int32))))]) (rest := []) oM_0 (c_X9_work h41) rfl hl.1 rfl ⟨Nat.le_of_ble_eq_true rfl, Nat.le_of_ble_eq_true rfl⟩ ⟨by show cells + 1 ≤ 601024; omega, by show slots + 6 * 1 ≤ 7293033; omega⟩ rfl (Nat.le_of_ble_eq_true rfl) dL_law__413) (fun H locs hw => ?_)
  refine lv_istore (lv' := [(6, .int q41.2), (5, .int q39.2.2), (0, .ref b), (1, .ref (gA G 0)), (2, .ref (gA G (41 + 0))), (3, .ref (gA G (41 + 27))), (4, .int x4)]) C.1.1 C.1.2.1 dL_law__416 hl (by decide) rfl (fun ls hl => ?_)
  refine lv_aload_n C.1.1 C.1.2.1 dL_law__418 rfl (lv_at hl 4 rfl) ?_
  obtain ⟨q42, h42, hf⟩ := o_bind hf
  refine aft_i hw (run_VM C hw clL_121 (As := []) (rest := []) oM_0 (c_X9_thrown h42) rfl hl.1 rfl ⟨Nat.le_of_ble_eq_true rfl, Nat.le_of_ble_eq_true rfl⟩ ⟨by show cells + 1 ≤ 601024; omega, by show slots + 6 * 1 ≤ 7293033; omega⟩ rfl (Nat.le_of_ble_eq_true rfl) dL_law__419) (fun H locs hw => ?_)
  refine lv_iload C.1.1 C.1.2.1 dL_law__422 (lv_at hl 1 rfl) ?_
  refine lv_icmp_eq (tgt := 429) C.1.1 C.1.2.1 dL_law__424 (by decide) (fun c43 => ?_) (fun c43 => ?_)
  · have hf := o_t hf c43
    refine lv_iload C.1.1 C.1.2.1 dL_law__429 (lv_at hl 1 rfl) ?_
    refine lv_if_ne (tgt := 446) C.1.1 C.1.2.1 dL_law__431 (by decide) (fun c44 => ?_) (fun c44 => ?_)
    · have hf := o_f hf c44
      refine lv_goto (tgt := 2364) C.1.1 C.1.2.1 dL_law__446 (by decide) ?_
      refine lv_iinc (v := (x4 + (9 : Int32))) (lv' := [(4, .int (x4 + (9 : Int32))), (6, .int q41.2), (5, .int q39.2.2), (0, .ref b), (1, .ref (gA G 0)), (2, .ref (gA G (41 + 0))), (3, .ref (gA G (41 + 27)))]) C.1.1 C.1.2.1 dL_law__2364 hl (k := 6) rfl rfl (by decide) rfl (fun ls hl => ?_)
      refine lv_goto (tgt := 23) C.1.1 C.1.2.1 dL_law__2367 (by decide) ?_
      exact hk_23 q39.1 q41.1 q39.2.1 (x4 + (9 : Int32)) _ _ _ _ _ (by omega) (by omega) hw (lv_sub hl [3, 4, 5, 6, 0] rfl) hf
    · have hf := o_t hf c44
      refine lv_aload_n C.1.1 C.1.2.1 dL_law__434 rfl (lv_at hl 5 rfl) ?_
      refine lv_iconst (v := (0 : Int32)) C.1.1 C.1.2.1 dL_law__435 rfl ?_
      have g45 := inb_in (o_g hf).1
      have hf := (o_g hf).2
      refine l_ald C hw lM_27 hnL g45 dL_law__436 ?_
      refine lv_iload C.1.1 C.1.2.1 dL_law__437 (lv_at hl 0 rfl) ?_
      refine lv_i2l (v := (Int32.toInt64 q41.2)) C.1.1 C.1.2.1 dL_law__439 rfl ?_
      refine W.lcmp C.1.1 C.1.2.1 dL_law__440 ?_
      refine lv_if_eq (tgt := 446) C.1.1 C.1.2.1 dL_law__441 (by decide) (fun c46 => ?_) (fun c46 => ?_)
      · have hf := o_t hf c46
        refine lv_goto (tgt := 2364) C.1.1 C.1.2.1 dL_law__446 (by decide) ?_
        refine lv_iinc (v := (x4 + (9 : Int32))) (lv' := [(4, .int (x4 + (9 : Int32))), (6, .int q41.2), (5, .int q39.2.2), (0, .ref b), (1, .ref (gA G 0)), (2, .ref (gA G (41 + 0))), (3, .ref (gA G (41 + 27)))]) C.1.1 C.1.2.1 dL_law__2364 hl (k := 6) rfl rfl (by decide) rfl (fun ls hl => ?_)
        refine lv_goto (tgt := 23) C.1.1 C.1.2.1 dL_law__2367 (by decide) ?_
        exact hk_23 q39.1 q41.1 q39.2.1 (x4 + (9 : Int32)) _ _ _ _ _ (by omega) (by omega) hw (lv_sub hl [3, 4, 5, 6, 0] rfl) hf
      · have hf := o_f hf c46
        refine lv_iconst (v := (0 : Int32)) C.1.1 C.1.2.1 dL_law__444 rfl ?_
        exact absurd (Option.some.inj hf) (by decide)
  · have hf := o_f hf c43
    refine lv_iconst (v := (0 : Int32)) C.1.1 C.1.2.1 dL_law__427 rfl ?_
    exact absurd (Option.some.inj hf) (by decide)
set_option maxRecDepth 20000 in
set_option maxHeartbeats 4000000 in
theorem wB_law_449 {G : GP} {l : Launch} {p : Program} {e : Env} {s : State} {m : MethodId} {below : List Frame} {meth : Method} {c : Code} {b Lth : Nat} {xs : Nat → Int32} (C : Cx G p s m #[Value.ref b] c cL_law_ 8 RL) (hr : meth.sig.returnType = ret) (hlk : meth.locks = false) (hst : l.stackTraces = false) (hnL : 41 + 27 < gN G) (hX : va_X b Lth xs s s.heap) (hbl : b < s.heap.size) (hbA : ¬ AB G b) (hBs : gB G = s.heap.size) {cB sB : Nat} (hcB : cB ≤ 601024) (hsB : sB ≤ 7293033) {k_23 : TX → TX → TL → Int32 → Option Int32} (hk_23 : ∀ (X : TX) (M : TX) (L : TL) (x4 : Int32) (cells slots : Nat) (H : Heap) (locs : List Loc) (ls : Array Slot), cells ≤ cB → slots ≤ sB → Wh G s X M L H locs → lv_has ls 8 [(0, .ref b), (1, .ref (gA G 0)), (2, .ref (gA G (41 + 0))), (3, .ref (gA G (41 + 27))), (4, .int x4)] → k_23 X M L x4 = some (1 : Int32) → W p l e room_1 s m #[Value.ref b] below meth c H locs cells slots (lw_Z below #[Value.ref b] s) (F0 m 23 ls [])) : ∀ (X : TX) (M : TX) (L : TL) (x4 : Int32) (cells slots : Nat) (H : Heap) (locs : List Loc) (ls : Array Slot), cells + 4 ≤ cB → slots + 24 ≤ sB → Wh G s X M L H locs → lv_has ls 8 [(0, .ref b), (1, .ref (gA G 0)), (2, .ref (gA G (41 + 0))), (3, .ref (gA G (41 + 27))), (4, .int x4)] → B_law_449 xs Lth k_23 X M L x4 = some (1 : Int32) → W p l e room_1 s m #[Value.ref b] below meth c H locs cells slots (lw_Z below #[Value.ref b] s) (F0 m 449 ls []) := by
  intro X M L x4 cells slots H locs ls hc hs hw hl hf
  unfold B_law_449 at hf
  refine lv_aload_n C.1.1 C.1.2.1 dL_law__449 rfl (lv_at hl 1 rfl) ?_
  refine lv_aload_n C.1.1 C.1.2.1 dL_law__450 rfl (lv_at hl 0 rfl) ?_
  refine lv_iload C.1.1 C.1.2.1 dL_law__451 (lv_at hl 4 rfl) ?_
  refine lv_iconst (v := (1 : Int32)) C.1.1 C.1.2.1 dL_law__453 rfl ?_
  refine lv_iadd C.1.1 C.1.2.1 dL_law__454 ?_
  have g48 := inb_in (o_g hf).1
  have hf := (o_g hf).2
  refine va_sld C.1.1 C.1.2.1 hX hbl hbA hw.2 g48 dL_law__455 ?_
  refine lv_aload_n C.1.1 C.1.2.1 dL_law__456 rfl (lv_at hl 3 rfl) ?_
  obtain ⟨q49, h49, hf⟩ := o_bind hf
  refine x_wrap (np := 3) C hw ⟨(tb4 161 rfl rfl), (tb4 162 rfl rfl), (tb1 0 rfl rfl), (tb4 163 rfl rfl)⟩ (As := [.ref (gA G 0), .int (xs (Int32.toNatClampNeg (x4 + (1 : Int32)))), .ref (gA G (41 + 27))]) (rest := []) (c_L_book hst hnL h49) (by decide +kernel) hl.1 rfl ⟨Nat.le_of_ble_eq_true rfl, Nat.le_of_ble_eq_true rfl⟩ ⟨by show cells + 1 ≤ 601024; omega, by show slots + 6 * 1 ≤ 7293033; omega⟩ rfl (Nat.le_of_ble_eq_true rfl) dL_law__457 (fun H locs hw => ?_)
  refine lv_istore (lv' := [(5, .int q49.2.2), (0, .ref b), (1, .ref (gA G 0)), (2, .ref (gA G (41 + 0))), (3, .ref (gA G (41 + 27))), (4, .int x4)]) C.1.1 C.1.2.1 dL_law__460 hl (by decide) rfl (fun ls hl => ?_)
  refine lv_aload_n C.1.1 C.1.2.1 dL_law__462 rfl (lv_at hl 3 rfl) ?_
  refine lv_aload_n C.1.1 C.1.2.1 dL_law__463 rfl (lv_at hl 1 rfl) ?_
  refine lv_iload C.1.1 C.1.2.1 dL_law__464 (lv_at hl 5 rfl) ?_
  refine lv_iconst (v := (1 : Int32)) C.1.1 C.1.2.1 dL_law__466 rfl ?_
  refine lv_iadd C.1.1 C.1.2.1 dL_law__467 ?_
  have g50 := inb_in (o_g hf).1
  have hf := (o_g hf).2
  refine va_sld C.1.1 C.1.2.1 hX hbl hbA hw.2 g50 dL_law__468 ?_
  obtain ⟨q51, h51, hf⟩ := o_bind hf
  refine aft_i hw (run_VM C hw clL_133 (As := [.int (xs (Int32.toNatClampNeg (x4 + (1 : Int32))))]) (rest := []) oM_0 (c_X9_book h51) rfl hl.1 rfl ⟨Nat.le_of_ble_eq_true rfl, Nat.le_of_ble_eq_true rfl⟩ ⟨by show cells + 1 ≤ 601024; omega, by show slots + 6 * 1 ≤ 7293033; omega⟩ rfl (Nat.le_of_ble_eq_true rfl) dL_law__469) (fun H locs hw => ?_)
  refine lv_istore (lv' := [(6, .int q51.2), (5, .int q49.2.2), (0, .ref b), (1, .ref (gA G 0)), (2, .ref (gA G (41 + 0))), (3, .ref (gA G (41 + 27))), (4, .int x4)]) C.1.1 C.1.2.1 dL_law__472 hl (by decide) rfl (fun ls hl => ?_)
  refine lv_aload_n C.1.1 C.1.2.1 dL_law__474 rfl (lv_at hl 4 rfl) ?_
  obtain ⟨q52, h52, hf⟩ := o_bind hf
  refine aft_i hw (run_VM C hw clL_121 (As := []) (rest := []) oM_0 (c_X9_thrown h52) rfl hl.1 rfl ⟨Nat.le_of_ble_eq_true rfl, Nat.le_of_ble_eq_true rfl⟩ ⟨by show cells + 1 ≤ 601024; omega, by show slots + 6 * 1 ≤ 7293033; omega⟩ rfl (Nat.le_of_ble_eq_true rfl) dL_law__475) (fun H locs hw => ?_)
  refine lv_iload C.1.1 C.1.2.1 dL_law__478 (lv_at hl 1 rfl) ?_
  refine lv_icmp_eq (tgt := 485) C.1.1 C.1.2.1 dL_law__480 (by decide) (fun c53 => ?_) (fun c53 => ?_)
  · have hf := o_t hf c53
    refine lv_iload C.1.1 C.1.2.1 dL_law__485 (lv_at hl 1 rfl) ?_
    refine lv_if_ne (tgt := 502) C.1.1 C.1.2.1 dL_law__487 (by decide) (fun c54 => ?_) (fun c54 => ?_)
    · have hf := o_f hf c54
      refine lv_goto (tgt := 2364) C.1.1 C.1.2.1 dL_law__502 (by decide) ?_
      refine lv_iinc (v := (x4 + (9 : Int32))) (lv' := [(4, .int (x4 + (9 : Int32))), (6, .int q51.2), (5, .int q49.2.2), (0, .ref b), (1, .ref (gA G 0)), (2, .ref (gA G (41 + 0))), (3, .ref (gA G (41 + 27)))]) C.1.1 C.1.2.1 dL_law__2364 hl (k := 6) rfl rfl (by decide) rfl (fun ls hl => ?_)
      refine lv_goto (tgt := 23) C.1.1 C.1.2.1 dL_law__2367 (by decide) ?_
      exact hk_23 q49.1 q51.1 q49.2.1 (x4 + (9 : Int32)) _ _ _ _ _ (by omega) (by omega) hw (lv_sub hl [3, 4, 5, 6, 0] rfl) hf
    · have hf := o_t hf c54
      refine lv_aload_n C.1.1 C.1.2.1 dL_law__490 rfl (lv_at hl 5 rfl) ?_
      refine lv_iconst (v := (0 : Int32)) C.1.1 C.1.2.1 dL_law__491 rfl ?_
      have g55 := inb_in (o_g hf).1
      have hf := (o_g hf).2
      refine l_ald C hw lM_27 hnL g55 dL_law__492 ?_
      refine lv_iload C.1.1 C.1.2.1 dL_law__493 (lv_at hl 0 rfl) ?_
      refine lv_i2l (v := (Int32.toInt64 q51.2)) C.1.1 C.1.2.1 dL_law__495 rfl ?_
      refine W.lcmp C.1.1 C.1.2.1 dL_law__496 ?_
      refine lv_if_eq (tgt := 502) C.1.1 C.1.2.1 dL_law__497 (by decide) (fun c56 => ?_) (fun c56 => ?_)
      · have hf := o_t hf c56
        refine lv_goto (tgt := 2364) C.1.1 C.1.2.1 dL_law__502 (by decide) ?_
        refine lv_iinc (v := (x4 + (9 : Int32))) (lv' := [(4, .int (x4 + (9 : Int32))), (6, .int q51.2), (5, .int q49.2.2), (0, .ref b), (1, .ref (gA G 0)), (2, .ref (gA G (41 + 0))), (3, .ref (gA G (41 + 27)))]) C.1.1 C.1.2.1 dL_law__2364 hl (k := 6) rfl rfl (by decide) rfl (fun ls hl => ?_)
        refine lv_goto (tgt := 23) C.1.1 C.1.2.1 dL_law__2367 (by decide) ?_
        exact hk_23 q49.1 q51.1 q49.2.1 (x4 + (9 : Int32)) _ _ _ _ _ (by omega) (by omega) hw (lv_sub hl [3, 4, 5, 6, 0] rfl) hf
      · have hf := o_f hf c56
        refine lv_iconst (v := (0 : Int32)) C.1.1 C.1.2.1 dL_law__500 rfl ?_
        exact absurd (Option.some.inj hf) (by decide)
  · have hf := o_f hf c53
    refine lv_iconst (v := (0 : Int32)) C.1.1 C.1.2.1 dL_law__483 rfl ?_
    exact absurd (Option.some.inj hf) (by decide)
set_option maxRecDepth 20000 in
set_option maxHeartbeats 4000000 in
theorem wB_law_505 {G : GP} {l : Launch} {p : Program} {e : Env} {s : State} {m : MethodId} {below : List Frame} {meth : Method} {c : Code} {b Lth : Nat} {xs : Nat → Int32} (C : Cx G p s m #[Value.ref b] c cL_law_ 8 RL) (hr : meth.sig.returnType = ret) (hlk : meth.locks = false) (hst : l.stackTraces = false) (hnL : 41 + 27 < gN G) (hX : va_X b Lth xs s s.heap) (hbl : b < s.heap.size) (hbA : ¬ AB G b) (hBs : gB G = s.heap.size) {cB sB : Nat} (hcB : cB ≤ 601024) (hsB : sB ≤ 7293033) {k_23 : TX → TX → TL → Int32 → Option Int32} (hk_23 : ∀ (X : TX) (M : TX) (L : TL) (x4 : Int32) (cells slots : Nat) (H : Heap) (locs : List Loc) (ls : Array Slot), cells ≤ cB → slots ≤ sB → Wh G s X M L H locs → lv_has ls 8 [(0, .ref b), (1, .ref (gA G 0)), (2, .ref (gA G (41 + 0))), (3, .ref (gA G (41 + 27))), (4, .int x4)] → k_23 X M L x4 = some (1 : Int32) → W p l e room_1 s m #[Value.ref b] below meth c H locs cells slots (lw_Z below #[Value.ref b] s) (F0 m 23 ls [])) : ∀ (X : TX) (M : TX) (L : TL) (x4 : Int32) (cells slots : Nat) (H : Heap) (locs : List Loc) (ls : Array Slot), cells + 4 ≤ cB → slots + 24 ≤ sB → Wh G s X M L H locs → lv_has ls 8 [(0, .ref b), (1, .ref (gA G 0)), (2, .ref (gA G (41 + 0))), (3, .ref (gA G (41 + 27))), (4, .int x4)] → B_law_505 xs Lth k_23 X M L x4 = some (1 : Int32) → W p l e room_1 s m #[Value.ref b] below meth c H locs cells slots (lw_Z below #[Value.ref b] s) (F0 m 505 ls []) := by
  intro X M L x4 cells slots H locs ls hc hs hw hl hf
  unfold B_law_505 at hf
  refine lv_aload_n C.1.1 C.1.2.1 dL_law__505 rfl (lv_at hl 1 rfl) ?_
  obtain ⟨q58, h58, hf⟩ := o_bind hf
  refine aft_i hw (run_VX C hw clL_134 (As := []) (rest := []) oX_0 (c_X8_fault h58) rfl hl.1 rfl ⟨Nat.le_of_ble_eq_true rfl, Nat.le_of_ble_eq_true rfl⟩ ⟨by show cells ≤ 601024; omega, by show slots ≤ 7293033; omega⟩ rfl (Nat.le_of_ble_eq_true rfl) dL_law__506) (fun H locs hw => ?_)
  refine lv_aload_n C.1.1 C.1.2.1 dL_law__509 rfl (lv_at hl 2 rfl) ?_
  obtain ⟨q59, h59, hf⟩ := o_bind hf
  refine aft_i hw (run_VM C hw clL_137 (As := []) (rest := [.int q58]) oM_0 (c_X9_fault h59) rfl hl.1 rfl ⟨Nat.le_of_ble_eq_true rfl, Nat.le_of_ble_eq_true rfl⟩ ⟨by show cells ≤ 601024; omega, by show slots ≤ 7293033; omega⟩ rfl (Nat.le_of_ble_eq_true rfl) dL_law__510) (fun H locs hw => ?_)
  refine lv_icmp_eq (tgt := 2364) C.1.1 C.1.2.1 dL_law__513 (by decide) (fun c60 => ?_) (fun c60 => ?_)
  · have hf := o_t hf c60
    refine lv_iinc (v := (x4 + (9 : Int32))) (lv' := [(4, .int (x4 + (9 : Int32))), (0, .ref b), (1, .ref (gA G 0)), (2, .ref (gA G (41 + 0))), (3, .ref (gA G (41 + 27)))]) C.1.1 C.1.2.1 dL_law__2364 hl (k := 4) rfl rfl (by decide) rfl (fun ls hl => ?_)
    refine lv_goto (tgt := 23) C.1.1 C.1.2.1 dL_law__2367 (by decide) ?_
    exact hk_23 X q59.1 L (x4 + (9 : Int32)) _ _ _ _ _ (by omega) (by omega) hw (lv_sub hl [1, 2, 3, 4, 0] rfl) hf
  · have hf := o_f hf c60
    refine lv_iconst (v := (0 : Int32)) C.1.1 C.1.2.1 dL_law__516 rfl ?_
    exact absurd (Option.some.inj hf) (by decide)
set_option maxRecDepth 20000 in
set_option maxHeartbeats 4000000 in
theorem wB_law_518 {G : GP} {l : Launch} {p : Program} {e : Env} {s : State} {m : MethodId} {below : List Frame} {meth : Method} {c : Code} {b Lth : Nat} {xs : Nat → Int32} (C : Cx G p s m #[Value.ref b] c cL_law_ 8 RL) (hr : meth.sig.returnType = ret) (hlk : meth.locks = false) (hst : l.stackTraces = false) (hnL : 41 + 27 < gN G) (hX : va_X b Lth xs s s.heap) (hbl : b < s.heap.size) (hbA : ¬ AB G b) (hBs : gB G = s.heap.size) {cB sB : Nat} (hcB : cB ≤ 601024) (hsB : sB ≤ 7293033) {k_23 : TX → TX → TL → Int32 → Option Int32} (hk_23 : ∀ (X : TX) (M : TX) (L : TL) (x4 : Int32) (cells slots : Nat) (H : Heap) (locs : List Loc) (ls : Array Slot), cells ≤ cB → slots ≤ sB → Wh G s X M L H locs → lv_has ls 8 [(0, .ref b), (1, .ref (gA G 0)), (2, .ref (gA G (41 + 0))), (3, .ref (gA G (41 + 27))), (4, .int x4)] → k_23 X M L x4 = some (1 : Int32) → W p l e room_1 s m #[Value.ref b] below meth c H locs cells slots (lw_Z below #[Value.ref b] s) (F0 m 23 ls [])) : ∀ (X : TX) (M : TX) (L : TL) (x4 : Int32) (cells slots : Nat) (H : Heap) (locs : List Loc) (ls : Array Slot), cells + 4 ≤ cB → slots + 24 ≤ sB → Wh G s X M L H locs → lv_has ls 8 [(0, .ref b), (1, .ref (gA G 0)), (2, .ref (gA G (41 + 0))), (3, .ref (gA G (41 + 27))), (4, .int x4)] → B_law_518 xs Lth k_23 X M L x4 = some (1 : Int32) → W p l e room_1 s m #[Value.ref b] below meth c H locs cells slots (lw_Z below #[Value.ref b] s) (F0 m 518 ls []) := by
  intro X M L x4 cells slots H locs ls hc hs hw hl hf
  unfold B_law_518 at hf
  refine lv_aload_n C.1.1 C.1.2.1 dL_law__518 rfl (lv_at hl 1 rfl) ?_
  obtain ⟨q62, h62, hf⟩ := o_bind hf
  refine aft_i hw (run_VX C hw clL_138 (As := []) (rest := []) oX_0 (c_X8_undo h62) rfl hl.1 rfl ⟨Nat.le_of_ble_eq_true rfl, Nat.le_of_ble_eq_true rfl⟩ ⟨by show cells ≤ 601024; omega, by show slots ≤ 7293033; omega⟩ rfl (Nat.le_of_ble_eq_true rfl) dL_law__519) (fun H locs hw => ?_)
  refine lv_aload_n C.1.1 C.1.2.1 dL_law__522 rfl (lv_at hl 2 rfl) ?_
  obtain ⟨q63, h63, hf⟩ := o_bind hf
  refine aft_i hw (run_VM C hw clL_141 (As := []) (rest := [.int q62.2]) oM_0 (c_X9_undo h63) rfl hl.1 rfl ⟨Nat.le_of_ble_eq_true rfl, Nat.le_of_ble_eq_true rfl⟩ ⟨by show cells ≤ 601024; omega, by show slots ≤ 7293033; omega⟩ rfl (Nat.le_of_ble_eq_true rfl) dL_law__523) (fun H locs hw => ?_)
  refine lv_icmp_eq (tgt := 2364) C.1.1 C.1.2.1 dL_law__526 (by decide) (fun c64 => ?_) (fun c64 => ?_)
  · have hf := o_t hf c64
    refine lv_iinc (v := (x4 + (9 : Int32))) (lv' := [(4, .int (x4 + (9 : Int32))), (0, .ref b), (1, .ref (gA G 0)), (2, .ref (gA G (41 + 0))), (3, .ref (gA G (41 + 27)))]) C.1.1 C.1.2.1 dL_law__2364 hl (k := 4) rfl rfl (by decide) rfl (fun ls hl => ?_)
    refine lv_goto (tgt := 23) C.1.1 C.1.2.1 dL_law__2367 (by decide) ?_
    exact hk_23 q62.1 q63.1 L (x4 + (9 : Int32)) _ _ _ _ _ (by omega) (by omega) hw (lv_sub hl [1, 2, 3, 4, 0] rfl) hf
  · have hf := o_f hf c64
    refine lv_iconst (v := (0 : Int32)) C.1.1 C.1.2.1 dL_law__529 rfl ?_
    exact absurd (Option.some.inj hf) (by decide)
set_option maxRecDepth 20000 in
set_option maxHeartbeats 4000000 in
theorem wB_law_531 {G : GP} {l : Launch} {p : Program} {e : Env} {s : State} {m : MethodId} {below : List Frame} {meth : Method} {c : Code} {b Lth : Nat} {xs : Nat → Int32} (C : Cx G p s m #[Value.ref b] c cL_law_ 8 RL) (hr : meth.sig.returnType = ret) (hlk : meth.locks = false) (hst : l.stackTraces = false) (hnL : 41 + 27 < gN G) (hX : va_X b Lth xs s s.heap) (hbl : b < s.heap.size) (hbA : ¬ AB G b) (hBs : gB G = s.heap.size) {cB sB : Nat} (hcB : cB ≤ 601024) (hsB : sB ≤ 7293033) {k_23 : TX → TX → TL → Int32 → Option Int32} (hk_23 : ∀ (X : TX) (M : TX) (L : TL) (x4 : Int32) (cells slots : Nat) (H : Heap) (locs : List Loc) (ls : Array Slot), cells ≤ cB → slots ≤ sB → Wh G s X M L H locs → lv_has ls 8 [(0, .ref b), (1, .ref (gA G 0)), (2, .ref (gA G (41 + 0))), (3, .ref (gA G (41 + 27))), (4, .int x4)] → k_23 X M L x4 = some (1 : Int32) → W p l e room_1 s m #[Value.ref b] below meth c H locs cells slots (lw_Z below #[Value.ref b] s) (F0 m 23 ls [])) : ∀ (X : TX) (M : TX) (L : TL) (x4 : Int32) (cells slots : Nat) (H : Heap) (locs : List Loc) (ls : Array Slot), cells + 4 ≤ cB → slots + 24 ≤ sB → Wh G s X M L H locs → lv_has ls 8 [(0, .ref b), (1, .ref (gA G 0)), (2, .ref (gA G (41 + 0))), (3, .ref (gA G (41 + 27))), (4, .int x4)] → B_law_531 xs Lth k_23 X M L x4 = some (1 : Int32) → W p l e room_1 s m #[Value.ref b] below meth c H locs cells slots (lw_Z below #[Value.ref b] s) (F0 m 531 ls []) := by
  intro X M L x4 cells slots H locs ls hc hs hw hl hf
  unfold B_law_531 at hf
  refine lv_aload_n C.1.1 C.1.2.1 dL_law__531 rfl (lv_at hl 1 rfl) ?_
  refine lv_aload_n C.1.1 C.1.2.1 dL_law__532 rfl (lv_at hl 0 rfl) ?_
  refine lv_iload C.1.1 C.1.2.1 dL_law__533 (lv_at hl 4 rfl) ?_
  refine lv_iconst (v := (1 : Int32)) C.1.1 C.1.2.1 dL_law__535 rfl ?_
  refine lv_iadd C.1.1 C.1.2.1 dL_law__536 ?_
  have g66 := inb_in (o_g hf).1
  have hf := (o_g hf).2
  refine va_sld C.1.1 C.1.2.1 hX hbl hbA hw.2 g66 dL_law__537 ?_
  refine lv_aload_n C.1.1 C.1.2.1 dL_law__538 rfl (lv_at hl 3 rfl) ?_
  obtain ⟨q67, h67, hf⟩ := o_bind hf
  refine x_wrap (np := 3) C hw ⟨(tb4 196 rfl rfl), (tb4 197 rfl rfl), (tb1 0 rfl rfl), (tb4 198 rfl rfl)⟩ (As := [.ref (gA G 0), .int (xs (Int32.toNatClampNeg (x4 + (1 : Int32)))), .ref (gA G (41 + 27))]) (rest := []) (c_L_told hst hnL h67) (by decide +kernel) hl.1 rfl ⟨Nat.le_of_ble_eq_true rfl, Nat.le_of_ble_eq_true rfl⟩ ⟨by show cells + 1 ≤ 601024; omega, by show slots + 6 * 1 ≤ 7293033; omega⟩ rfl (Nat.le_of_ble_eq_true rfl) dL_law__539 (fun H locs hw => ?_)
  refine lv_istore (lv' := [(5, .int q67.2.2), (0, .ref b), (1, .ref (gA G 0)), (2, .ref (gA G (41 + 0))), (3, .ref (gA G (41 + 27))), (4, .int x4)]) C.1.1 C.1.2.1 dL_law__542 hl (by decide) rfl (fun ls hl => ?_)
  refine lv_aload_n C.1.1 C.1.2.1 dL_law__544 rfl (lv_at hl 3 rfl) ?_
  refine lv_aload_n C.1.1 C.1.2.1 dL_law__545 rfl (lv_at hl 1 rfl) ?_
  refine lv_iload C.1.1 C.1.2.1 dL_law__546 (lv_at hl 5 rfl) ?_
  refine lv_iconst (v := (1 : Int32)) C.1.1 C.1.2.1 dL_law__548 rfl ?_
  refine lv_iadd C.1.1 C.1.2.1 dL_law__549 ?_
  have g68 := inb_in (o_g hf).1
  have hf := (o_g hf).2
  refine va_sld C.1.1 C.1.2.1 hX hbl hbA hw.2 g68 dL_law__550 ?_
  obtain ⟨q69, h69, hf⟩ := o_bind hf
  refine aft_i hw (run_VM C hw clL_144 (As := [.int (xs (Int32.toNatClampNeg (x4 + (1 : Int32))))]) (rest := []) oM_0 (c_X9_told h69) rfl hl.1 rfl ⟨Nat.le_of_ble_eq_true rfl, Nat.le_of_ble_eq_true rfl⟩ ⟨by show cells + 1 ≤ 601024; omega, by show slots + 6 * 1 ≤ 7293033; omega⟩ rfl (Nat.le_of_ble_eq_true rfl) dL_law__551) (fun H locs hw => ?_)
  refine lv_istore (lv' := [(6, .int q69.2), (5, .int q67.2.2), (0, .ref b), (1, .ref (gA G 0)), (2, .ref (gA G (41 + 0))), (3, .ref (gA G (41 + 27))), (4, .int x4)]) C.1.1 C.1.2.1 dL_law__554 hl (by decide) rfl (fun ls hl => ?_)
  refine lv_aload_n C.1.1 C.1.2.1 dL_law__556 rfl (lv_at hl 4 rfl) ?_
  obtain ⟨q70, h70, hf⟩ := o_bind hf
  refine aft_i hw (run_VM C hw clL_121 (As := []) (rest := []) oM_0 (c_X9_thrown h70) rfl hl.1 rfl ⟨Nat.le_of_ble_eq_true rfl, Nat.le_of_ble_eq_true rfl⟩ ⟨by show cells + 1 ≤ 601024; omega, by show slots + 6 * 1 ≤ 7293033; omega⟩ rfl (Nat.le_of_ble_eq_true rfl) dL_law__557) (fun H locs hw => ?_)
  refine lv_iload C.1.1 C.1.2.1 dL_law__560 (lv_at hl 1 rfl) ?_
  refine lv_icmp_eq (tgt := 567) C.1.1 C.1.2.1 dL_law__562 (by decide) (fun c71 => ?_) (fun c71 => ?_)
  · have hf := o_t hf c71
    refine lv_iload C.1.1 C.1.2.1 dL_law__567 (lv_at hl 1 rfl) ?_
    refine lv_if_ne (tgt := 584) C.1.1 C.1.2.1 dL_law__569 (by decide) (fun c72 => ?_) (fun c72 => ?_)
    · have hf := o_f hf c72
      refine lv_goto (tgt := 2364) C.1.1 C.1.2.1 dL_law__584 (by decide) ?_
      refine lv_iinc (v := (x4 + (9 : Int32))) (lv' := [(4, .int (x4 + (9 : Int32))), (6, .int q69.2), (5, .int q67.2.2), (0, .ref b), (1, .ref (gA G 0)), (2, .ref (gA G (41 + 0))), (3, .ref (gA G (41 + 27)))]) C.1.1 C.1.2.1 dL_law__2364 hl (k := 6) rfl rfl (by decide) rfl (fun ls hl => ?_)
      refine lv_goto (tgt := 23) C.1.1 C.1.2.1 dL_law__2367 (by decide) ?_
      exact hk_23 q67.1 q69.1 q67.2.1 (x4 + (9 : Int32)) _ _ _ _ _ (by omega) (by omega) hw (lv_sub hl [3, 4, 5, 6, 0] rfl) hf
    · have hf := o_t hf c72
      refine lv_aload_n C.1.1 C.1.2.1 dL_law__572 rfl (lv_at hl 5 rfl) ?_
      refine lv_iconst (v := (0 : Int32)) C.1.1 C.1.2.1 dL_law__573 rfl ?_
      have g73 := inb_in (o_g hf).1
      have hf := (o_g hf).2
      refine l_ald C hw lM_27 hnL g73 dL_law__574 ?_
      refine lv_iload C.1.1 C.1.2.1 dL_law__575 (lv_at hl 0 rfl) ?_
      refine lv_i2l (v := (Int32.toInt64 q69.2)) C.1.1 C.1.2.1 dL_law__577 rfl ?_
      refine W.lcmp C.1.1 C.1.2.1 dL_law__578 ?_
      refine lv_if_eq (tgt := 584) C.1.1 C.1.2.1 dL_law__579 (by decide) (fun c74 => ?_) (fun c74 => ?_)
      · have hf := o_t hf c74
        refine lv_goto (tgt := 2364) C.1.1 C.1.2.1 dL_law__584 (by decide) ?_
        refine lv_iinc (v := (x4 + (9 : Int32))) (lv' := [(4, .int (x4 + (9 : Int32))), (6, .int q69.2), (5, .int q67.2.2), (0, .ref b), (1, .ref (gA G 0)), (2, .ref (gA G (41 + 0))), (3, .ref (gA G (41 + 27)))]) C.1.1 C.1.2.1 dL_law__2364 hl (k := 6) rfl rfl (by decide) rfl (fun ls hl => ?_)
        refine lv_goto (tgt := 23) C.1.1 C.1.2.1 dL_law__2367 (by decide) ?_
        exact hk_23 q67.1 q69.1 q67.2.1 (x4 + (9 : Int32)) _ _ _ _ _ (by omega) (by omega) hw (lv_sub hl [3, 4, 5, 6, 0] rfl) hf
      · have hf := o_f hf c74
        refine lv_iconst (v := (0 : Int32)) C.1.1 C.1.2.1 dL_law__582 rfl ?_
        exact absurd (Option.some.inj hf) (by decide)
  · have hf := o_f hf c71
    refine lv_iconst (v := (0 : Int32)) C.1.1 C.1.2.1 dL_law__565 rfl ?_
    exact absurd (Option.some.inj hf) (by decide)
set_option maxRecDepth 20000 in
set_option maxHeartbeats 4000000 in
theorem wB_law_587 {G : GP} {l : Launch} {p : Program} {e : Env} {s : State} {m : MethodId} {below : List Frame} {meth : Method} {c : Code} {b Lth : Nat} {xs : Nat → Int32} (C : Cx G p s m #[Value.ref b] c cL_law_ 8 RL) (hr : meth.sig.returnType = ret) (hlk : meth.locks = false) (hst : l.stackTraces = false) (hnL : 41 + 27 < gN G) (hX : va_X b Lth xs s s.heap) (hbl : b < s.heap.size) (hbA : ¬ AB G b) (hBs : gB G = s.heap.size) {cB sB : Nat} (hcB : cB ≤ 601024) (hsB : sB ≤ 7293033) {k_23 : TX → TX → TL → Int32 → Option Int32} (hk_23 : ∀ (X : TX) (M : TX) (L : TL) (x4 : Int32) (cells slots : Nat) (H : Heap) (locs : List Loc) (ls : Array Slot), cells ≤ cB → slots ≤ sB → Wh G s X M L H locs → lv_has ls 8 [(0, .ref b), (1, .ref (gA G 0)), (2, .ref (gA G (41 + 0))), (3, .ref (gA G (41 + 27))), (4, .int x4)] → k_23 X M L x4 = some (1 : Int32) → W p l e room_1 s m #[Value.ref b] below meth c H locs cells slots (lw_Z below #[Value.ref b] s) (F0 m 23 ls [])) : ∀ (X : TX) (M : TX) (L : TL) (x4 : Int32) (cells slots : Nat) (H : Heap) (locs : List Loc) (ls : Array Slot), cells + 4 ≤ cB → slots + 24 ≤ sB → Wh G s X M L H locs → lv_has ls 8 [(0, .ref b), (1, .ref (gA G 0)), (2, .ref (gA G (41 + 0))), (3, .ref (gA G (41 + 27))), (4, .int x4)] → B_law_587 xs Lth k_23 X M L x4 = some (1 : Int32) → W p l e room_1 s m #[Value.ref b] below meth c H locs cells slots (lw_Z below #[Value.ref b] s) (F0 m 587 ls []) := by
  intro X M L x4 cells slots H locs ls hc hs hw hl hf
  unfold B_law_587 at hf
  refine lv_aload_n C.1.1 C.1.2.1 dL_law__587 rfl (lv_at hl 1 rfl) ?_
  refine lv_aload_n C.1.1 C.1.2.1 dL_law__588 rfl (lv_at hl 0 rfl) ?_
  refine lv_iload C.1.1 C.1.2.1 dL_law__589 (lv_at hl 4 rfl) ?_
  refine lv_iconst (v := (1 : Int32)) C.1.1 C.1.2.1 dL_law__591 rfl ?_
  refine lv_iadd C.1.1 C.1.2.1 dL_law__592 ?_
  have g76 := inb_in (o_g hf).1
  have hf := (o_g hf).2
  refine va_sld C.1.1 C.1.2.1 hX hbl hbA hw.2 g76 dL_law__593 ?_
  refine lv_aload_n C.1.1 C.1.2.1 dL_law__594 rfl (lv_at hl 0 rfl) ?_
  refine lv_iload C.1.1 C.1.2.1 dL_law__595 (lv_at hl 4 rfl) ?_
  refine lv_iconst (v := (2 : Int32)) C.1.1 C.1.2.1 dL_law__597 rfl ?_
  refine lv_iadd C.1.1 C.1.2.1 dL_law__598 ?_
  have g77 := inb_in (o_g hf).1
  have hf := (o_g hf).2
  refine va_sld C.1.1 C.1.2.1 hX hbl hbA hw.2 g77 dL_law__599 ?_
  refine lv_aload_n C.1.1 C.1.2.1 dL_law__600 rfl (lv_at hl 3 rfl) ?_
  obtain ⟨q78, h78, hf⟩ := o_bind hf
  refine x_wrap (np := 4) C hw ⟨(tb4 218 rfl rfl), (tb4 219 rfl rfl), (tb1 0 rfl rfl), (tb4 220 rfl rfl)⟩ (As := [.ref (gA G 0), .int (xs (Int32.toNatClampNeg (x4 + (1 : Int32)))), .int (xs (Int32.toNatClampNeg (x4 + (2 : Int32)))), .ref (gA G (41 + 27))]) (rest := []) (c_L_parish hst hnL h78) (by decide +kernel) hl.1 rfl ⟨Nat.le_of_ble_eq_true rfl, Nat.le_of_ble_eq_true rfl⟩ ⟨by show cells + 2 ≤ 601024; omega, by show slots + 6 * 2 ≤ 7293033; omega⟩ rfl (Nat.le_of_ble_eq_true rfl) dL_law__601 (fun H locs hw => ?_)
  refine lv_istore (lv' := [(5, .int q78.2.2), (0, .ref b), (1, .ref (gA G 0)), (2, .ref (gA G (41 + 0))), (3, .ref (gA G (41 + 27))), (4, .int x4)]) C.1.1 C.1.2.1 dL_law__604 hl (by decide) rfl (fun ls hl => ?_)
  refine lv_aload_n C.1.1 C.1.2.1 dL_law__606 rfl (lv_at hl 3 rfl) ?_
  refine lv_aload_n C.1.1 C.1.2.1 dL_law__607 rfl (lv_at hl 1 rfl) ?_
  refine lv_iload C.1.1 C.1.2.1 dL_law__608 (lv_at hl 5 rfl) ?_
  refine lv_iconst (v := (1 : Int32)) C.1.1 C.1.2.1 dL_law__610 rfl ?_
  refine lv_iadd C.1.1 C.1.2.1 dL_law__611 ?_
  have g79 := inb_in (o_g hf).1
  have hf := (o_g hf).2
  refine va_sld C.1.1 C.1.2.1 hX hbl hbA hw.2 g79 dL_law__612 ?_
  refine lv_aload_n C.1.1 C.1.2.1 dL_law__613 rfl (lv_at hl 1 rfl) ?_
  refine lv_iload C.1.1 C.1.2.1 dL_law__614 (lv_at hl 5 rfl) ?_
  refine lv_iconst (v := (2 : Int32)) C.1.1 C.1.2.1 dL_law__616 rfl ?_
  refine lv_iadd C.1.1 C.1.2.1 dL_law__617 ?_
  have g80 := inb_in (o_g hf).1
  have hf := (o_g hf).2
  refine va_sld C.1.1 C.1.2.1 hX hbl hbA hw.2 g80 dL_law__618 ?_
  obtain ⟨q81, h81, hf⟩ := o_bind hf
  refine aft_i hw (run_VM C hw clL_148 (As := [.int (xs (Int32.toNatClampNeg (x4 + (1 : Int32)))), .int (xs (Int32.toNatClampNeg (x4 + (2 : Int32))))]) (rest := []) oM_0 (c_X9_parish h81) rfl hl.1 rfl ⟨Nat.le_of_ble_eq_true rfl, Nat.le_of_ble_eq_true rfl⟩ ⟨by show cells + 2 ≤ 601024; omega, by show slots + 6 * 2 ≤ 7293033; omega⟩ rfl (Nat.le_of_ble_eq_true rfl) dL_law__619) (fun H locs hw => ?_)
  refine lv_istore (lv' := [(6, .int q81.2), (5, .int q78.2.2), (0, .ref b), (1, .ref (gA G 0)), (2, .ref (gA G (41 + 0))), (3, .ref (gA G (41 + 27))), (4, .int x4)]) C.1.1 C.1.2.1 dL_law__622 hl (by decide) rfl (fun ls hl => ?_)
  refine lv_aload_n C.1.1 C.1.2.1 dL_law__624 rfl (lv_at hl 4 rfl) ?_
  obtain ⟨q82, h82, hf⟩ := o_bind hf
  refine aft_i hw (run_VM C hw clL_121 (As := []) (rest := []) oM_0 (c_X9_thrown h82) rfl hl.1 rfl ⟨Nat.le_of_ble_eq_true rfl, Nat.le_of_ble_eq_true rfl⟩ ⟨by show cells + 2 ≤ 601024; omega, by show slots + 6 * 2 ≤ 7293033; omega⟩ rfl (Nat.le_of_ble_eq_true rfl) dL_law__625) (fun H locs hw => ?_)
  refine lv_iload C.1.1 C.1.2.1 dL_law__628 (lv_at hl 1 rfl) ?_
  refine lv_icmp_eq (tgt := 635) C.1.1 C.1.2.1 dL_law__630 (by decide) (fun c83 => ?_) (fun c83 => ?_)
  · have hf := o_t hf c83
    refine lv_iload C.1.1 C.1.2.1 dL_law__635 (lv_at hl 1 rfl) ?_
    refine lv_if_ne (tgt := 652) C.1.1 C.1.2.1 dL_law__637 (by decide) (fun c84 => ?_) (fun c84 => ?_)
    · have hf := o_f hf c84
      refine lv_goto (tgt := 2364) C.1.1 C.1.2.1 dL_law__652 (by decide) ?_
      refine lv_iinc (v := (x4 + (9 : Int32))) (lv' := [(4, .int (x4 + (9 : Int32))), (6, .int q81.2), (5, .int q78.2.2), (0, .ref b), (1, .ref (gA G 0)), (2, .ref (gA G (41 + 0))), (3, .ref (gA G (41 + 27)))]) C.1.1 C.1.2.1 dL_law__2364 hl (k := 6) rfl rfl (by decide) rfl (fun ls hl => ?_)
      refine lv_goto (tgt := 23) C.1.1 C.1.2.1 dL_law__2367 (by decide) ?_
      exact hk_23 q78.1 q81.1 q78.2.1 (x4 + (9 : Int32)) _ _ _ _ _ (by omega) (by omega) hw (lv_sub hl [3, 4, 5, 6, 0] rfl) hf
    · have hf := o_t hf c84
      refine lv_aload_n C.1.1 C.1.2.1 dL_law__640 rfl (lv_at hl 5 rfl) ?_
      refine lv_iconst (v := (0 : Int32)) C.1.1 C.1.2.1 dL_law__641 rfl ?_
      have g85 := inb_in (o_g hf).1
      have hf := (o_g hf).2
      refine l_ald C hw lM_27 hnL g85 dL_law__642 ?_
      refine lv_iload C.1.1 C.1.2.1 dL_law__643 (lv_at hl 0 rfl) ?_
      refine lv_i2l (v := (Int32.toInt64 q81.2)) C.1.1 C.1.2.1 dL_law__645 rfl ?_
      refine W.lcmp C.1.1 C.1.2.1 dL_law__646 ?_
      refine lv_if_eq (tgt := 652) C.1.1 C.1.2.1 dL_law__647 (by decide) (fun c86 => ?_) (fun c86 => ?_)
      · have hf := o_t hf c86
        refine lv_goto (tgt := 2364) C.1.1 C.1.2.1 dL_law__652 (by decide) ?_
        refine lv_iinc (v := (x4 + (9 : Int32))) (lv' := [(4, .int (x4 + (9 : Int32))), (6, .int q81.2), (5, .int q78.2.2), (0, .ref b), (1, .ref (gA G 0)), (2, .ref (gA G (41 + 0))), (3, .ref (gA G (41 + 27)))]) C.1.1 C.1.2.1 dL_law__2364 hl (k := 6) rfl rfl (by decide) rfl (fun ls hl => ?_)
        refine lv_goto (tgt := 23) C.1.1 C.1.2.1 dL_law__2367 (by decide) ?_
        exact hk_23 q78.1 q81.1 q78.2.1 (x4 + (9 : Int32)) _ _ _ _ _ (by omega) (by omega) hw (lv_sub hl [3, 4, 5, 6, 0] rfl) hf
      · have hf := o_f hf c86
        refine lv_iconst (v := (0 : Int32)) C.1.1 C.1.2.1 dL_law__650 rfl ?_
        exact absurd (Option.some.inj hf) (by decide)
  · have hf := o_f hf c83
    refine lv_iconst (v := (0 : Int32)) C.1.1 C.1.2.1 dL_law__633 rfl ?_
    exact absurd (Option.some.inj hf) (by decide)
set_option maxRecDepth 20000 in
set_option maxHeartbeats 4000000 in
theorem wB_law_655 {G : GP} {l : Launch} {p : Program} {e : Env} {s : State} {m : MethodId} {below : List Frame} {meth : Method} {c : Code} {b Lth : Nat} {xs : Nat → Int32} (C : Cx G p s m #[Value.ref b] c cL_law_ 8 RL) (hr : meth.sig.returnType = ret) (hlk : meth.locks = false) (hst : l.stackTraces = false) (hnL : 41 + 27 < gN G) (hX : va_X b Lth xs s s.heap) (hbl : b < s.heap.size) (hbA : ¬ AB G b) (hBs : gB G = s.heap.size) {cB sB : Nat} (hcB : cB ≤ 601024) (hsB : sB ≤ 7293033) {k_23 : TX → TX → TL → Int32 → Option Int32} (hk_23 : ∀ (X : TX) (M : TX) (L : TL) (x4 : Int32) (cells slots : Nat) (H : Heap) (locs : List Loc) (ls : Array Slot), cells ≤ cB → slots ≤ sB → Wh G s X M L H locs → lv_has ls 8 [(0, .ref b), (1, .ref (gA G 0)), (2, .ref (gA G (41 + 0))), (3, .ref (gA G (41 + 27))), (4, .int x4)] → k_23 X M L x4 = some (1 : Int32) → W p l e room_1 s m #[Value.ref b] below meth c H locs cells slots (lw_Z below #[Value.ref b] s) (F0 m 23 ls [])) : ∀ (X : TX) (M : TX) (L : TL) (x4 : Int32) (cells slots : Nat) (H : Heap) (locs : List Loc) (ls : Array Slot), cells + 4 ≤ cB → slots + 24 ≤ sB → Wh G s X M L H locs → lv_has ls 8 [(0, .ref b), (1, .ref (gA G 0)), (2, .ref (gA G (41 + 0))), (3, .ref (gA G (41 + 27))), (4, .int x4)] → B_law_655 xs Lth k_23 X M L x4 = some (1 : Int32) → W p l e room_1 s m #[Value.ref b] below meth c H locs cells slots (lw_Z below #[Value.ref b] s) (F0 m 655 ls []) := by
  intro X M L x4 cells slots H locs ls hc hs hw hl hf
  unfold B_law_655 at hf
  refine lv_aload_n C.1.1 C.1.2.1 dL_law__655 rfl (lv_at hl 1 rfl) ?_
  refine lv_aload_n C.1.1 C.1.2.1 dL_law__656 rfl (lv_at hl 0 rfl) ?_
  refine lv_iload C.1.1 C.1.2.1 dL_law__657 (lv_at hl 4 rfl) ?_
  refine lv_iconst (v := (1 : Int32)) C.1.1 C.1.2.1 dL_law__659 rfl ?_
  refine lv_iadd C.1.1 C.1.2.1 dL_law__660 ?_
  have g88 := inb_in (o_g hf).1
  have hf := (o_g hf).2
  refine va_sld C.1.1 C.1.2.1 hX hbl hbA hw.2 g88 dL_law__661 ?_
  refine lv_aload_n C.1.1 C.1.2.1 dL_law__662 rfl (lv_at hl 0 rfl) ?_
  refine lv_iload C.1.1 C.1.2.1 dL_law__663 (lv_at hl 4 rfl) ?_
  refine lv_iconst (v := (2 : Int32)) C.1.1 C.1.2.1 dL_law__665 rfl ?_
  refine lv_iadd C.1.1 C.1.2.1 dL_law__666 ?_
  have g89 := inb_in (o_g hf).1
  have hf := (o_g hf).2
  refine va_sld C.1.1 C.1.2.1 hX hbl hbA hw.2 g89 dL_law__667 ?_
  refine lv_aload_n C.1.1 C.1.2.1 dL_law__668 rfl (lv_at hl 3 rfl) ?_
  obtain ⟨q90, h90, hf⟩ := o_bind hf
  refine x_wrap (np := 4) C hw ⟨(tb5 12 rfl rfl), (tb5 13 rfl rfl), (tb1 0 rfl rfl), (tb5 14 rfl rfl)⟩ (As := [.ref (gA G 0), .int (xs (Int32.toNatClampNeg (x4 + (1 : Int32)))), .int (xs (Int32.toNatClampNeg (x4 + (2 : Int32)))), .ref (gA G (41 + 27))]) (rest := []) (c_L_ward hst hnL h90) (by decide +kernel) hl.1 rfl ⟨Nat.le_of_ble_eq_true rfl, Nat.le_of_ble_eq_true rfl⟩ ⟨by show cells + 2 ≤ 601024; omega, by show slots + 6 * 2 ≤ 7293033; omega⟩ rfl (Nat.le_of_ble_eq_true rfl) dL_law__669 (fun H locs hw => ?_)
  refine lv_istore (lv' := [(5, .int q90.2.2), (0, .ref b), (1, .ref (gA G 0)), (2, .ref (gA G (41 + 0))), (3, .ref (gA G (41 + 27))), (4, .int x4)]) C.1.1 C.1.2.1 dL_law__672 hl (by decide) rfl (fun ls hl => ?_)
  refine lv_aload_n C.1.1 C.1.2.1 dL_law__674 rfl (lv_at hl 3 rfl) ?_
  refine lv_aload_n C.1.1 C.1.2.1 dL_law__675 rfl (lv_at hl 1 rfl) ?_
  refine lv_iload C.1.1 C.1.2.1 dL_law__676 (lv_at hl 5 rfl) ?_
  refine lv_iconst (v := (1 : Int32)) C.1.1 C.1.2.1 dL_law__678 rfl ?_
  refine lv_iadd C.1.1 C.1.2.1 dL_law__679 ?_
  have g91 := inb_in (o_g hf).1
  have hf := (o_g hf).2
  refine va_sld C.1.1 C.1.2.1 hX hbl hbA hw.2 g91 dL_law__680 ?_
  refine lv_aload_n C.1.1 C.1.2.1 dL_law__681 rfl (lv_at hl 1 rfl) ?_
  refine lv_iload C.1.1 C.1.2.1 dL_law__682 (lv_at hl 5 rfl) ?_
  refine lv_iconst (v := (2 : Int32)) C.1.1 C.1.2.1 dL_law__684 rfl ?_
  refine lv_iadd C.1.1 C.1.2.1 dL_law__685 ?_
  have g92 := inb_in (o_g hf).1
  have hf := (o_g hf).2
  refine va_sld C.1.1 C.1.2.1 hX hbl hbA hw.2 g92 dL_law__686 ?_
  obtain ⟨q93, h93, hf⟩ := o_bind hf
  refine aft_i hw (run_VM C hw clL_151 (As := [.int (xs (Int32.toNatClampNeg (x4 + (1 : Int32)))), .int (xs (Int32.toNatClampNeg (x4 + (2 : Int32))))]) (rest := []) oM_0 (c_X9_ward h93) rfl hl.1 rfl ⟨Nat.le_of_ble_eq_true rfl, Nat.le_of_ble_eq_true rfl⟩ ⟨by show cells + 2 ≤ 601024; omega, by show slots + 6 * 2 ≤ 7293033; omega⟩ rfl (Nat.le_of_ble_eq_true rfl) dL_law__687) (fun H locs hw => ?_)
  refine lv_istore (lv' := [(6, .int q93.2), (5, .int q90.2.2), (0, .ref b), (1, .ref (gA G 0)), (2, .ref (gA G (41 + 0))), (3, .ref (gA G (41 + 27))), (4, .int x4)]) C.1.1 C.1.2.1 dL_law__690 hl (by decide) rfl (fun ls hl => ?_)
  refine lv_aload_n C.1.1 C.1.2.1 dL_law__692 rfl (lv_at hl 4 rfl) ?_
  obtain ⟨q94, h94, hf⟩ := o_bind hf
  refine aft_i hw (run_VM C hw clL_121 (As := []) (rest := []) oM_0 (c_X9_thrown h94) rfl hl.1 rfl ⟨Nat.le_of_ble_eq_true rfl, Nat.le_of_ble_eq_true rfl⟩ ⟨by show cells + 2 ≤ 601024; omega, by show slots + 6 * 2 ≤ 7293033; omega⟩ rfl (Nat.le_of_ble_eq_true rfl) dL_law__693) (fun H locs hw => ?_)
  refine lv_iload C.1.1 C.1.2.1 dL_law__696 (lv_at hl 1 rfl) ?_
  refine lv_icmp_eq (tgt := 703) C.1.1 C.1.2.1 dL_law__698 (by decide) (fun c95 => ?_) (fun c95 => ?_)
  · have hf := o_t hf c95
    refine lv_iload C.1.1 C.1.2.1 dL_law__703 (lv_at hl 1 rfl) ?_
    refine lv_if_ne (tgt := 720) C.1.1 C.1.2.1 dL_law__705 (by decide) (fun c96 => ?_) (fun c96 => ?_)
    · have hf := o_f hf c96
      refine lv_goto (tgt := 2364) C.1.1 C.1.2.1 dL_law__720 (by decide) ?_
      refine lv_iinc (v := (x4 + (9 : Int32))) (lv' := [(4, .int (x4 + (9 : Int32))), (6, .int q93.2), (5, .int q90.2.2), (0, .ref b), (1, .ref (gA G 0)), (2, .ref (gA G (41 + 0))), (3, .ref (gA G (41 + 27)))]) C.1.1 C.1.2.1 dL_law__2364 hl (k := 6) rfl rfl (by decide) rfl (fun ls hl => ?_)
      refine lv_goto (tgt := 23) C.1.1 C.1.2.1 dL_law__2367 (by decide) ?_
      exact hk_23 q90.1 q93.1 q90.2.1 (x4 + (9 : Int32)) _ _ _ _ _ (by omega) (by omega) hw (lv_sub hl [3, 4, 5, 6, 0] rfl) hf
    · have hf := o_t hf c96
      refine lv_aload_n C.1.1 C.1.2.1 dL_law__708 rfl (lv_at hl 5 rfl) ?_
      refine lv_iconst (v := (0 : Int32)) C.1.1 C.1.2.1 dL_law__709 rfl ?_
      have g97 := inb_in (o_g hf).1
      have hf := (o_g hf).2
      refine l_ald C hw lM_27 hnL g97 dL_law__710 ?_
      refine lv_iload C.1.1 C.1.2.1 dL_law__711 (lv_at hl 0 rfl) ?_
      refine lv_i2l (v := (Int32.toInt64 q93.2)) C.1.1 C.1.2.1 dL_law__713 rfl ?_
      refine W.lcmp C.1.1 C.1.2.1 dL_law__714 ?_
      refine lv_if_eq (tgt := 720) C.1.1 C.1.2.1 dL_law__715 (by decide) (fun c98 => ?_) (fun c98 => ?_)
      · have hf := o_t hf c98
        refine lv_goto (tgt := 2364) C.1.1 C.1.2.1 dL_law__720 (by decide) ?_
        refine lv_iinc (v := (x4 + (9 : Int32))) (lv' := [(4, .int (x4 + (9 : Int32))), (6, .int q93.2), (5, .int q90.2.2), (0, .ref b), (1, .ref (gA G 0)), (2, .ref (gA G (41 + 0))), (3, .ref (gA G (41 + 27)))]) C.1.1 C.1.2.1 dL_law__2364 hl (k := 6) rfl rfl (by decide) rfl (fun ls hl => ?_)
        refine lv_goto (tgt := 23) C.1.1 C.1.2.1 dL_law__2367 (by decide) ?_
        exact hk_23 q90.1 q93.1 q90.2.1 (x4 + (9 : Int32)) _ _ _ _ _ (by omega) (by omega) hw (lv_sub hl [3, 4, 5, 6, 0] rfl) hf
      · have hf := o_f hf c98
        refine lv_iconst (v := (0 : Int32)) C.1.1 C.1.2.1 dL_law__718 rfl ?_
        exact absurd (Option.some.inj hf) (by decide)
  · have hf := o_f hf c95
    refine lv_iconst (v := (0 : Int32)) C.1.1 C.1.2.1 dL_law__701 rfl ?_
    exact absurd (Option.some.inj hf) (by decide)
set_option maxRecDepth 20000 in
set_option maxHeartbeats 4000000 in
theorem wB_law_723 {G : GP} {l : Launch} {p : Program} {e : Env} {s : State} {m : MethodId} {below : List Frame} {meth : Method} {c : Code} {b Lth : Nat} {xs : Nat → Int32} (C : Cx G p s m #[Value.ref b] c cL_law_ 8 RL) (hr : meth.sig.returnType = ret) (hlk : meth.locks = false) (hst : l.stackTraces = false) (hnL : 41 + 27 < gN G) (hX : va_X b Lth xs s s.heap) (hbl : b < s.heap.size) (hbA : ¬ AB G b) (hBs : gB G = s.heap.size) {cB sB : Nat} (hcB : cB ≤ 601024) (hsB : sB ≤ 7293033) {k_23 : TX → TX → TL → Int32 → Option Int32} (hk_23 : ∀ (X : TX) (M : TX) (L : TL) (x4 : Int32) (cells slots : Nat) (H : Heap) (locs : List Loc) (ls : Array Slot), cells ≤ cB → slots ≤ sB → Wh G s X M L H locs → lv_has ls 8 [(0, .ref b), (1, .ref (gA G 0)), (2, .ref (gA G (41 + 0))), (3, .ref (gA G (41 + 27))), (4, .int x4)] → k_23 X M L x4 = some (1 : Int32) → W p l e room_1 s m #[Value.ref b] below meth c H locs cells slots (lw_Z below #[Value.ref b] s) (F0 m 23 ls [])) : ∀ (X : TX) (M : TX) (L : TL) (x4 : Int32) (cells slots : Nat) (H : Heap) (locs : List Loc) (ls : Array Slot), cells + 4 ≤ cB → slots + 24 ≤ sB → Wh G s X M L H locs → lv_has ls 8 [(0, .ref b), (1, .ref (gA G 0)), (2, .ref (gA G (41 + 0))), (3, .ref (gA G (41 + 27))), (4, .int x4)] → B_law_723 xs Lth k_23 X M L x4 = some (1 : Int32) → W p l e room_1 s m #[Value.ref b] below meth c H locs cells slots (lw_Z below #[Value.ref b] s) (F0 m 723 ls []) := by
  intro X M L x4 cells slots H locs ls hc hs hw hl hf
  unfold B_law_723 at hf
  refine lv_aload_n C.1.1 C.1.2.1 dL_law__723 rfl (lv_at hl 1 rfl) ?_
  refine lv_aload_n C.1.1 C.1.2.1 dL_law__724 rfl (lv_at hl 0 rfl) ?_
  refine lv_iload C.1.1 C.1.2.1 dL_law__725 (lv_at hl 4 rfl) ?_
  refine lv_iconst (v := (1 : Int32)) C.1.1 C.1.2.1 dL_law__727 rfl ?_
  refine lv_iadd C.1.1 C.1.2.1 dL_law__728 ?_
  have g100 := inb_in (o_g hf).1
  have hf := (o_g hf).2
  refine va_sld C.1.1 C.1.2.1 hX hbl hbA hw.2 g100 dL_law__729 ?_
  refine lv_aload_n C.1.1 C.1.2.1 dL_law__730 rfl (lv_at hl 0 rfl) ?_
  refine lv_iload C.1.1 C.1.2.1 dL_law__731 (lv_at hl 4 rfl) ?_
  refine lv_iconst (v := (2 : Int32)) C.1.1 C.1.2.1 dL_law__733 rfl ?_
  refine lv_iadd C.1.1 C.1.2.1 dL_law__734 ?_
  have g101 := inb_in (o_g hf).1
  have hf := (o_g hf).2
  refine va_sld C.1.1 C.1.2.1 hX hbl hbA hw.2 g101 dL_law__735 ?_
  refine lv_aload_n C.1.1 C.1.2.1 dL_law__736 rfl (lv_at hl 3 rfl) ?_
  obtain ⟨q102, h102, hf⟩ := o_bind hf
  refine x_wrap (np := 4) C hw ⟨(tb5 36 rfl rfl), (tb5 37 rfl rfl), (tb1 0 rfl rfl), (tb5 38 rfl rfl)⟩ (As := [.ref (gA G 0), .int (xs (Int32.toNatClampNeg (x4 + (1 : Int32)))), .int (xs (Int32.toNatClampNeg (x4 + (2 : Int32)))), .ref (gA G (41 + 27))]) (rest := []) (c_L_side hst hnL h102) (by decide +kernel) hl.1 rfl ⟨Nat.le_of_ble_eq_true rfl, Nat.le_of_ble_eq_true rfl⟩ ⟨by show cells + 2 ≤ 601024; omega, by show slots + 6 * 2 ≤ 7293033; omega⟩ rfl (Nat.le_of_ble_eq_true rfl) dL_law__737 (fun H locs hw => ?_)
  refine lv_istore (lv' := [(5, .int q102.2.2), (0, .ref b), (1, .ref (gA G 0)), (2, .ref (gA G (41 + 0))), (3, .ref (gA G (41 + 27))), (4, .int x4)]) C.1.1 C.1.2.1 dL_law__740 hl (by decide) rfl (fun ls hl => ?_)
  refine lv_aload_n C.1.1 C.1.2.1 dL_law__742 rfl (lv_at hl 3 rfl) ?_
  refine lv_aload_n C.1.1 C.1.2.1 dL_law__743 rfl (lv_at hl 1 rfl) ?_
  refine lv_iload C.1.1 C.1.2.1 dL_law__744 (lv_at hl 5 rfl) ?_
  refine lv_iconst (v := (1 : Int32)) C.1.1 C.1.2.1 dL_law__746 rfl ?_
  refine lv_iadd C.1.1 C.1.2.1 dL_law__747 ?_
  have g103 := inb_in (o_g hf).1
  have hf := (o_g hf).2
  refine va_sld C.1.1 C.1.2.1 hX hbl hbA hw.2 g103 dL_law__748 ?_
  refine lv_aload_n C.1.1 C.1.2.1 dL_law__749 rfl (lv_at hl 1 rfl) ?_
  refine lv_iload C.1.1 C.1.2.1 dL_law__750 (lv_at hl 5 rfl) ?_
  refine lv_iconst (v := (2 : Int32)) C.1.1 C.1.2.1 dL_law__752 rfl ?_
  refine lv_iadd C.1.1 C.1.2.1 dL_law__753 ?_
  have g104 := inb_in (o_g hf).1
  have hf := (o_g hf).2
  refine va_sld C.1.1 C.1.2.1 hX hbl hbA hw.2 g104 dL_law__754 ?_
  obtain ⟨q105, h105, hf⟩ := o_bind hf
  refine aft_i hw (run_VM C hw clL_154 (As := [.int (xs (Int32.toNatClampNeg (x4 + (1 : Int32)))), .int (xs (Int32.toNatClampNeg (x4 + (2 : Int32))))]) (rest := []) oM_0 (c_X9_side h105) rfl hl.1 rfl ⟨Nat.le_of_ble_eq_true rfl, Nat.le_of_ble_eq_true rfl⟩ ⟨by show cells + 2 ≤ 601024; omega, by show slots + 6 * 2 ≤ 7293033; omega⟩ rfl (Nat.le_of_ble_eq_true rfl) dL_law__755) (fun H locs hw => ?_)
  refine lv_istore (lv' := [(6, .int q105.2), (5, .int q102.2.2), (0, .ref b), (1, .ref (gA G 0)), (2, .ref (gA G (41 + 0))), (3, .ref (gA G (41 + 27))), (4, .int x4)]) C.1.1 C.1.2.1 dL_law__758 hl (by decide) rfl (fun ls hl => ?_)
  refine lv_aload_n C.1.1 C.1.2.1 dL_law__760 rfl (lv_at hl 4 rfl) ?_
  obtain ⟨q106, h106, hf⟩ := o_bind hf
  refine aft_i hw (run_VM C hw clL_121 (As := []) (rest := []) oM_0 (c_X9_thrown h106) rfl hl.1 rfl ⟨Nat.le_of_ble_eq_true rfl, Nat.le_of_ble_eq_true rfl⟩ ⟨by show cells + 2 ≤ 601024; omega, by show slots + 6 * 2 ≤ 7293033; omega⟩ rfl (Nat.le_of_ble_eq_true rfl) dL_law__761) (fun H locs hw => ?_)
  refine lv_iload C.1.1 C.1.2.1 dL_law__764 (lv_at hl 1 rfl) ?_
  refine lv_icmp_eq (tgt := 771) C.1.1 C.1.2.1 dL_law__766 (by decide) (fun c107 => ?_) (fun c107 => ?_)
  · have hf := o_t hf c107
    refine lv_iload C.1.1 C.1.2.1 dL_law__771 (lv_at hl 1 rfl) ?_
    refine lv_if_ne (tgt := 788) C.1.1 C.1.2.1 dL_law__773 (by decide) (fun c108 => ?_) (fun c108 => ?_)
    · have hf := o_f hf c108
      refine lv_goto (tgt := 2364) C.1.1 C.1.2.1 dL_law__788 (by decide) ?_
      refine lv_iinc (v := (x4 + (9 : Int32))) (lv' := [(4, .int (x4 + (9 : Int32))), (6, .int q105.2), (5, .int q102.2.2), (0, .ref b), (1, .ref (gA G 0)), (2, .ref (gA G (41 + 0))), (3, .ref (gA G (41 + 27)))]) C.1.1 C.1.2.1 dL_law__2364 hl (k := 6) rfl rfl (by decide) rfl (fun ls hl => ?_)
      refine lv_goto (tgt := 23) C.1.1 C.1.2.1 dL_law__2367 (by decide) ?_
      exact hk_23 q102.1 q105.1 q102.2.1 (x4 + (9 : Int32)) _ _ _ _ _ (by omega) (by omega) hw (lv_sub hl [3, 4, 5, 6, 0] rfl) hf
    · have hf := o_t hf c108
      refine lv_aload_n C.1.1 C.1.2.1 dL_law__776 rfl (lv_at hl 5 rfl) ?_
      refine lv_iconst (v := (0 : Int32)) C.1.1 C.1.2.1 dL_law__777 rfl ?_
      have g109 := inb_in (o_g hf).1
      have hf := (o_g hf).2
      refine l_ald C hw lM_27 hnL g109 dL_law__778 ?_
      refine lv_iload C.1.1 C.1.2.1 dL_law__779 (lv_at hl 0 rfl) ?_
      refine lv_i2l (v := (Int32.toInt64 q105.2)) C.1.1 C.1.2.1 dL_law__781 rfl ?_
      refine W.lcmp C.1.1 C.1.2.1 dL_law__782 ?_
      refine lv_if_eq (tgt := 788) C.1.1 C.1.2.1 dL_law__783 (by decide) (fun c110 => ?_) (fun c110 => ?_)
      · have hf := o_t hf c110
        refine lv_goto (tgt := 2364) C.1.1 C.1.2.1 dL_law__788 (by decide) ?_
        refine lv_iinc (v := (x4 + (9 : Int32))) (lv' := [(4, .int (x4 + (9 : Int32))), (6, .int q105.2), (5, .int q102.2.2), (0, .ref b), (1, .ref (gA G 0)), (2, .ref (gA G (41 + 0))), (3, .ref (gA G (41 + 27)))]) C.1.1 C.1.2.1 dL_law__2364 hl (k := 6) rfl rfl (by decide) rfl (fun ls hl => ?_)
        refine lv_goto (tgt := 23) C.1.1 C.1.2.1 dL_law__2367 (by decide) ?_
        exact hk_23 q102.1 q105.1 q102.2.1 (x4 + (9 : Int32)) _ _ _ _ _ (by omega) (by omega) hw (lv_sub hl [3, 4, 5, 6, 0] rfl) hf
      · have hf := o_f hf c110
        refine lv_iconst (v := (0 : Int32)) C.1.1 C.1.2.1 dL_law__786 rfl ?_
        exact absurd (Option.some.inj hf) (by decide)
  · have hf := o_f hf c107
    refine lv_iconst (v := (0 : Int32)) C.1.1 C.1.2.1 dL_law__769 rfl ?_
    exact absurd (Option.some.inj hf) (by decide)
set_option maxRecDepth 20000 in
set_option maxHeartbeats 4000000 in
theorem wB_law_791 {G : GP} {l : Launch} {p : Program} {e : Env} {s : State} {m : MethodId} {below : List Frame} {meth : Method} {c : Code} {b Lth : Nat} {xs : Nat → Int32} (C : Cx G p s m #[Value.ref b] c cL_law_ 8 RL) (hr : meth.sig.returnType = ret) (hlk : meth.locks = false) (hst : l.stackTraces = false) (hnL : 41 + 27 < gN G) (hX : va_X b Lth xs s s.heap) (hbl : b < s.heap.size) (hbA : ¬ AB G b) (hBs : gB G = s.heap.size) {cB sB : Nat} (hcB : cB ≤ 601024) (hsB : sB ≤ 7293033) {k_23 : TX → TX → TL → Int32 → Option Int32} (hk_23 : ∀ (X : TX) (M : TX) (L : TL) (x4 : Int32) (cells slots : Nat) (H : Heap) (locs : List Loc) (ls : Array Slot), cells ≤ cB → slots ≤ sB → Wh G s X M L H locs → lv_has ls 8 [(0, .ref b), (1, .ref (gA G 0)), (2, .ref (gA G (41 + 0))), (3, .ref (gA G (41 + 27))), (4, .int x4)] → k_23 X M L x4 = some (1 : Int32) → W p l e room_1 s m #[Value.ref b] below meth c H locs cells slots (lw_Z below #[Value.ref b] s) (F0 m 23 ls [])) : ∀ (X : TX) (M : TX) (L : TL) (x4 : Int32) (cells slots : Nat) (H : Heap) (locs : List Loc) (ls : Array Slot), cells + 4 ≤ cB → slots + 24 ≤ sB → Wh G s X M L H locs → lv_has ls 8 [(0, .ref b), (1, .ref (gA G 0)), (2, .ref (gA G (41 + 0))), (3, .ref (gA G (41 + 27))), (4, .int x4)] → B_law_791 xs Lth k_23 X M L x4 = some (1 : Int32) → W p l e room_1 s m #[Value.ref b] below meth c H locs cells slots (lw_Z below #[Value.ref b] s) (F0 m 791 ls []) := by
  intro X M L x4 cells slots H locs ls hc hs hw hl hf
  unfold B_law_791 at hf
  refine lv_aload_n C.1.1 C.1.2.1 dL_law__791 rfl (lv_at hl 1 rfl) ?_
  refine lv_aload_n C.1.1 C.1.2.1 dL_law__792 rfl (lv_at hl 0 rfl) ?_
  refine lv_iload C.1.1 C.1.2.1 dL_law__793 (lv_at hl 4 rfl) ?_
  refine lv_iconst (v := (1 : Int32)) C.1.1 C.1.2.1 dL_law__795 rfl ?_
  refine lv_iadd C.1.1 C.1.2.1 dL_law__796 ?_
  have g112 := inb_in (o_g hf).1
  have hf := (o_g hf).2
  refine va_sld C.1.1 C.1.2.1 hX hbl hbA hw.2 g112 dL_law__797 ?_
  refine lv_aload_n C.1.1 C.1.2.1 dL_law__798 rfl (lv_at hl 0 rfl) ?_
  refine lv_iload C.1.1 C.1.2.1 dL_law__799 (lv_at hl 4 rfl) ?_
  refine lv_iconst (v := (2 : Int32)) C.1.1 C.1.2.1 dL_law__801 rfl ?_
  refine lv_iadd C.1.1 C.1.2.1 dL_law__802 ?_
  have g113 := inb_in (o_g hf).1
  have hf := (o_g hf).2
  refine va_sld C.1.1 C.1.2.1 hX hbl hbA hw.2 g113 dL_law__803 ?_
  refine lv_aload_n C.1.1 C.1.2.1 dL_law__804 rfl (lv_at hl 3 rfl) ?_
  obtain ⟨q114, h114, hf⟩ := o_bind hf
  refine x_wrap (np := 4) C hw ⟨(tb5 53 rfl rfl), (tb5 54 rfl rfl), (tb1 0 rfl rfl), (tb5 55 rfl rfl)⟩ (As := [.ref (gA G 0), .int (xs (Int32.toNatClampNeg (x4 + (1 : Int32)))), .int (xs (Int32.toNatClampNeg (x4 + (2 : Int32)))), .ref (gA G (41 + 27))]) (rest := []) (c_L_cost hst hnL h114) (by decide +kernel) hl.1 rfl ⟨Nat.le_of_ble_eq_true rfl, Nat.le_of_ble_eq_true rfl⟩ ⟨by show cells + 2 ≤ 601024; omega, by show slots + 6 * 2 ≤ 7293033; omega⟩ rfl (Nat.le_of_ble_eq_true rfl) dL_law__805 (fun H locs hw => ?_)
  refine lv_istore (lv' := [(5, .int q114.2.2), (0, .ref b), (1, .ref (gA G 0)), (2, .ref (gA G (41 + 0))), (3, .ref (gA G (41 + 27))), (4, .int x4)]) C.1.1 C.1.2.1 dL_law__808 hl (by decide) rfl (fun ls hl => ?_)
  refine lv_aload_n C.1.1 C.1.2.1 dL_law__810 rfl (lv_at hl 3 rfl) ?_
  refine lv_aload_n C.1.1 C.1.2.1 dL_law__811 rfl (lv_at hl 1 rfl) ?_
  refine lv_iload C.1.1 C.1.2.1 dL_law__812 (lv_at hl 5 rfl) ?_
  refine lv_iconst (v := (1 : Int32)) C.1.1 C.1.2.1 dL_law__814 rfl ?_
  refine lv_iadd C.1.1 C.1.2.1 dL_law__815 ?_
  have g115 := inb_in (o_g hf).1
  have hf := (o_g hf).2
  refine va_sld C.1.1 C.1.2.1 hX hbl hbA hw.2 g115 dL_law__816 ?_
  refine lv_aload_n C.1.1 C.1.2.1 dL_law__817 rfl (lv_at hl 1 rfl) ?_
  refine lv_iload C.1.1 C.1.2.1 dL_law__818 (lv_at hl 5 rfl) ?_
  refine lv_iconst (v := (2 : Int32)) C.1.1 C.1.2.1 dL_law__820 rfl ?_
  refine lv_iadd C.1.1 C.1.2.1 dL_law__821 ?_
  have g116 := inb_in (o_g hf).1
  have hf := (o_g hf).2
  refine va_sld C.1.1 C.1.2.1 hX hbl hbA hw.2 g116 dL_law__822 ?_
  obtain ⟨q117, h117, hf⟩ := o_bind hf
  refine aft_i hw (run_VM C hw clL_157 (As := [.int (xs (Int32.toNatClampNeg (x4 + (1 : Int32)))), .int (xs (Int32.toNatClampNeg (x4 + (2 : Int32))))]) (rest := []) oM_0 (c_X9_cost h117) rfl hl.1 rfl ⟨Nat.le_of_ble_eq_true rfl, Nat.le_of_ble_eq_true rfl⟩ ⟨by show cells + 2 ≤ 601024; omega, by show slots + 6 * 2 ≤ 7293033; omega⟩ rfl (Nat.le_of_ble_eq_true rfl) dL_law__823) (fun H locs hw => ?_)
  refine lv_istore (lv' := [(6, .int q117.2), (5, .int q114.2.2), (0, .ref b), (1, .ref (gA G 0)), (2, .ref (gA G (41 + 0))), (3, .ref (gA G (41 + 27))), (4, .int x4)]) C.1.1 C.1.2.1 dL_law__826 hl (by decide) rfl (fun ls hl => ?_)
  refine lv_aload_n C.1.1 C.1.2.1 dL_law__828 rfl (lv_at hl 4 rfl) ?_
  obtain ⟨q118, h118, hf⟩ := o_bind hf
  refine aft_i hw (run_VM C hw clL_121 (As := []) (rest := []) oM_0 (c_X9_thrown h118) rfl hl.1 rfl ⟨Nat.le_of_ble_eq_true rfl, Nat.le_of_ble_eq_true rfl⟩ ⟨by show cells + 2 ≤ 601024; omega, by show slots + 6 * 2 ≤ 7293033; omega⟩ rfl (Nat.le_of_ble_eq_true rfl) dL_law__829) (fun H locs hw => ?_)
  refine lv_iload C.1.1 C.1.2.1 dL_law__832 (lv_at hl 1 rfl) ?_
  refine lv_icmp_eq (tgt := 839) C.1.1 C.1.2.1 dL_law__834 (by decide) (fun c119 => ?_) (fun c119 => ?_)
  · have hf := o_t hf c119
    refine lv_iload C.1.1 C.1.2.1 dL_law__839 (lv_at hl 1 rfl) ?_
    refine lv_if_ne (tgt := 856) C.1.1 C.1.2.1 dL_law__841 (by decide) (fun c120 => ?_) (fun c120 => ?_)
    · have hf := o_f hf c120
      refine lv_goto (tgt := 2364) C.1.1 C.1.2.1 dL_law__856 (by decide) ?_
      refine lv_iinc (v := (x4 + (9 : Int32))) (lv' := [(4, .int (x4 + (9 : Int32))), (6, .int q117.2), (5, .int q114.2.2), (0, .ref b), (1, .ref (gA G 0)), (2, .ref (gA G (41 + 0))), (3, .ref (gA G (41 + 27)))]) C.1.1 C.1.2.1 dL_law__2364 hl (k := 6) rfl rfl (by decide) rfl (fun ls hl => ?_)
      refine lv_goto (tgt := 23) C.1.1 C.1.2.1 dL_law__2367 (by decide) ?_
      exact hk_23 q114.1 q117.1 q114.2.1 (x4 + (9 : Int32)) _ _ _ _ _ (by omega) (by omega) hw (lv_sub hl [3, 4, 5, 6, 0] rfl) hf
    · have hf := o_t hf c120
      refine lv_aload_n C.1.1 C.1.2.1 dL_law__844 rfl (lv_at hl 5 rfl) ?_
      refine lv_iconst (v := (0 : Int32)) C.1.1 C.1.2.1 dL_law__845 rfl ?_
      have g121 := inb_in (o_g hf).1
      have hf := (o_g hf).2
      refine l_ald C hw lM_27 hnL g121 dL_law__846 ?_
      refine lv_iload C.1.1 C.1.2.1 dL_law__847 (lv_at hl 0 rfl) ?_
      refine lv_i2l (v := (Int32.toInt64 q117.2)) C.1.1 C.1.2.1 dL_law__849 rfl ?_
      refine W.lcmp C.1.1 C.1.2.1 dL_law__850 ?_
      refine lv_if_eq (tgt := 856) C.1.1 C.1.2.1 dL_law__851 (by decide) (fun c122 => ?_) (fun c122 => ?_)
      · have hf := o_t hf c122
        refine lv_goto (tgt := 2364) C.1.1 C.1.2.1 dL_law__856 (by decide) ?_
        refine lv_iinc (v := (x4 + (9 : Int32))) (lv' := [(4, .int (x4 + (9 : Int32))), (6, .int q117.2), (5, .int q114.2.2), (0, .ref b), (1, .ref (gA G 0)), (2, .ref (gA G (41 + 0))), (3, .ref (gA G (41 + 27)))]) C.1.1 C.1.2.1 dL_law__2364 hl (k := 6) rfl rfl (by decide) rfl (fun ls hl => ?_)
        refine lv_goto (tgt := 23) C.1.1 C.1.2.1 dL_law__2367 (by decide) ?_
        exact hk_23 q114.1 q117.1 q114.2.1 (x4 + (9 : Int32)) _ _ _ _ _ (by omega) (by omega) hw (lv_sub hl [3, 4, 5, 6, 0] rfl) hf
      · have hf := o_f hf c122
        refine lv_iconst (v := (0 : Int32)) C.1.1 C.1.2.1 dL_law__854 rfl ?_
        exact absurd (Option.some.inj hf) (by decide)
  · have hf := o_f hf c119
    refine lv_iconst (v := (0 : Int32)) C.1.1 C.1.2.1 dL_law__837 rfl ?_
    exact absurd (Option.some.inj hf) (by decide)
set_option maxRecDepth 20000 in
set_option maxHeartbeats 4000000 in
theorem wB_law_859 {G : GP} {l : Launch} {p : Program} {e : Env} {s : State} {m : MethodId} {below : List Frame} {meth : Method} {c : Code} {b Lth : Nat} {xs : Nat → Int32} (C : Cx G p s m #[Value.ref b] c cL_law_ 8 RL) (hr : meth.sig.returnType = ret) (hlk : meth.locks = false) (hst : l.stackTraces = false) (hnL : 41 + 27 < gN G) (hX : va_X b Lth xs s s.heap) (hbl : b < s.heap.size) (hbA : ¬ AB G b) (hBs : gB G = s.heap.size) {cB sB : Nat} (hcB : cB ≤ 601024) (hsB : sB ≤ 7293033) {k_23 : TX → TX → TL → Int32 → Option Int32} (hk_23 : ∀ (X : TX) (M : TX) (L : TL) (x4 : Int32) (cells slots : Nat) (H : Heap) (locs : List Loc) (ls : Array Slot), cells ≤ cB → slots ≤ sB → Wh G s X M L H locs → lv_has ls 8 [(0, .ref b), (1, .ref (gA G 0)), (2, .ref (gA G (41 + 0))), (3, .ref (gA G (41 + 27))), (4, .int x4)] → k_23 X M L x4 = some (1 : Int32) → W p l e room_1 s m #[Value.ref b] below meth c H locs cells slots (lw_Z below #[Value.ref b] s) (F0 m 23 ls [])) : ∀ (X : TX) (M : TX) (L : TL) (x4 : Int32) (cells slots : Nat) (H : Heap) (locs : List Loc) (ls : Array Slot), cells + 4 ≤ cB → slots + 24 ≤ sB → Wh G s X M L H locs → lv_has ls 8 [(0, .ref b), (1, .ref (gA G 0)), (2, .ref (gA G (41 + 0))), (3, .ref (gA G (41 + 27))), (4, .int x4)] → B_law_859 xs Lth k_23 X M L x4 = some (1 : Int32) → W p l e room_1 s m #[Value.ref b] below meth c H locs cells slots (lw_Z below #[Value.ref b] s) (F0 m 859 ls []) := by
  intro X M L x4 cells slots H locs ls hc hs hw hl hf
  unfold B_law_859 at hf
  refine lv_aload_n C.1.1 C.1.2.1 dL_law__859 rfl (lv_at hl 1 rfl) ?_
  refine lv_aload_n C.1.1 C.1.2.1 dL_law__860 rfl (lv_at hl 0 rfl) ?_
  refine lv_iload C.1.1 C.1.2.1 dL_law__861 (lv_at hl 4 rfl) ?_
  refine lv_iconst (v := (1 : Int32)) C.1.1 C.1.2.1 dL_law__863 rfl ?_
  refine lv_iadd C.1.1 C.1.2.1 dL_law__864 ?_
  have g124 := inb_in (o_g hf).1
  have hf := (o_g hf).2
  refine va_sld C.1.1 C.1.2.1 hX hbl hbA hw.2 g124 dL_law__865 ?_
  refine lv_aload_n C.1.1 C.1.2.1 dL_law__866 rfl (lv_at hl 0 rfl) ?_
  refine lv_iload C.1.1 C.1.2.1 dL_law__867 (lv_at hl 4 rfl) ?_
  refine lv_iconst (v := (2 : Int32)) C.1.1 C.1.2.1 dL_law__869 rfl ?_
  refine lv_iadd C.1.1 C.1.2.1 dL_law__870 ?_
  have g125 := inb_in (o_g hf).1
  have hf := (o_g hf).2
  refine va_sld C.1.1 C.1.2.1 hX hbl hbA hw.2 g125 dL_law__871 ?_
  refine lv_aload_n C.1.1 C.1.2.1 dL_law__872 rfl (lv_at hl 0 rfl) ?_
  refine lv_iload C.1.1 C.1.2.1 dL_law__873 (lv_at hl 4 rfl) ?_
  refine lv_iconst (v := (3 : Int32)) C.1.1 C.1.2.1 dL_law__875 rfl ?_
  refine lv_iadd C.1.1 C.1.2.1 dL_law__876 ?_
  have g126 := inb_in (o_g hf).1
  have hf := (o_g hf).2
  refine va_sld C.1.1 C.1.2.1 hX hbl hbA hw.2 g126 dL_law__877 ?_
  refine lv_aload_n C.1.1 C.1.2.1 dL_law__878 rfl (lv_at hl 0 rfl) ?_
  refine lv_iload C.1.1 C.1.2.1 dL_law__879 (lv_at hl 4 rfl) ?_
  refine lv_iconst (v := (4 : Int32)) C.1.1 C.1.2.1 dL_law__881 rfl ?_
  refine lv_iadd C.1.1 C.1.2.1 dL_law__882 ?_
  have g127 := inb_in (o_g hf).1
  have hf := (o_g hf).2
  refine va_sld C.1.1 C.1.2.1 hX hbl hbA hw.2 g127 dL_law__883 ?_
  refine lv_aload_n C.1.1 C.1.2.1 dL_law__884 rfl (lv_at hl 0 rfl) ?_
  refine lv_iload C.1.1 C.1.2.1 dL_law__885 (lv_at hl 4 rfl) ?_
  refine lv_iconst (v := (5 : Int32)) C.1.1 C.1.2.1 dL_law__887 rfl ?_
  refine lv_iadd C.1.1 C.1.2.1 dL_law__888 ?_
  have g128 := inb_in (o_g hf).1
  have hf := (o_g hf).2
  refine va_sld C.1.1 C.1.2.1 hX hbl hbA hw.2 g128 dL_law__889 ?_
  refine lv_aload_n C.1.1 C.1.2.1 dL_law__890 rfl (lv_at hl 0 rfl) ?_
  refine lv_iload C.1.1 C.1.2.1 dL_law__891 (lv_at hl 4 rfl) ?_
  refine lv_bipush (v := (6 : Int32)) C.1.1 C.1.2.1 dL_law__893 rfl ?_
  refine lv_iadd C.1.1 C.1.2.1 dL_law__895 ?_
  have g129 := inb_in (o_g hf).1
  have hf := (o_g hf).2
  refine va_sld C.1.1 C.1.2.1 hX hbl hbA hw.2 g129 dL_law__896 ?_
  refine lv_aload_n C.1.1 C.1.2.1 dL_law__897 rfl (lv_at hl 0 rfl) ?_
  refine lv_iload C.1.1 C.1.2.1 dL_law__898 (lv_at hl 4 rfl) ?_
  refine lv_bipush (v := (7 : Int32)) C.1.1 C.1.2.1 dL_law__900 rfl ?_
  refine lv_iadd C.1.1 C.1.2.1 dL_law__902 ?_
  have g130 := inb_in (o_g hf).1
  have hf := (o_g hf).2
  refine va_sld C.1.1 C.1.2.1 hX hbl hbA hw.2 g130 dL_law__903 ?_
  refine lv_aload_n C.1.1 C.1.2.1 dL_law__904 rfl (lv_at hl 0 rfl) ?_
  refine lv_iload C.1.1 C.1.2.1 dL_law__905 (lv_at hl 4 rfl) ?_
  refine lv_bipush (v := (8 : Int32)) C.1.1 C.1.2.1 dL_law__907 rfl ?_
  refine lv_iadd C.1.1 C.1.2.1 dL_law__909 ?_
  have g131 := inb_in (o_g hf).1
  have hf := (o_g hf).2
  refine va_sld C.1.1 C.1.2.1 hX hbl hbA hw.2 g131 dL_law__910 ?_
  refine lv_aload_n C.1.1 C.1.2.1 dL_law__911 rfl (lv_at hl 3 rfl) ?_
  obtain ⟨q132, h132, hf⟩ := o_bind hf
  refine x_wrap (np := 10) C hw ⟨(tb5 61 rfl rfl), (tb5 62 rfl rfl), (tb1 0 rfl rfl), (tb5 63 rfl rfl)⟩ (As := [.ref (gA G 0), .int (xs (Int32.toNatClampNeg (x4 + (1 : Int32)))), .int (xs (Int32.toNatClampNeg (x4 + (2 : Int32)))), .int (xs (Int32.toNatClampNeg (x4 + (3 : Int32)))), .int (xs (Int32.toNatClampNeg (x4 + (4 : Int32)))), .int (xs (Int32.toNatClampNeg (x4 + (5 : Int32)))), .int (xs (Int32.toNatClampNeg (x4 + (6 : Int32)))), .int (xs (Int32.toNatClampNeg (x4 + (7 : Int32)))), .int (xs (Int32.toNatClampNeg (x4 + (8 : Int32)))), .ref (gA G (41 + 27))]) (rest := []) (c_L_would hst hnL h132) (by decide +kernel) hl.1 rfl ⟨Nat.le_of_ble_eq_true rfl, Nat.le_of_ble_eq_true rfl⟩ ⟨by show cells + 4 ≤ 601024; omega, by show slots + 6 * 4 ≤ 7293033; omega⟩ rfl (Nat.le_of_ble_eq_true rfl) dL_law__912 (fun H locs hw => ?_)
  refine lv_istore (lv' := [(5, .int q132.2.2), (0, .ref b), (1, .ref (gA G 0)), (2, .ref (gA G (41 + 0))), (3, .ref (gA G (41 + 27))), (4, .int x4)]) C.1.1 C.1.2.1 dL_law__915 hl (by decide) rfl (fun ls hl => ?_)
  refine lv_aload_n C.1.1 C.1.2.1 dL_law__917 rfl (lv_at hl 3 rfl) ?_
  refine lv_aload_n C.1.1 C.1.2.1 dL_law__918 rfl (lv_at hl 1 rfl) ?_
  refine lv_iload C.1.1 C.1.2.1 dL_law__919 (lv_at hl 5 rfl) ?_
  refine lv_iconst (v := (1 : Int32)) C.1.1 C.1.2.1 dL_law__921 rfl ?_
  refine lv_iadd C.1.1 C.1.2.1 dL_law__922 ?_
  have g133 := inb_in (o_g hf).1
  have hf := (o_g hf).2
  refine va_sld C.1.1 C.1.2.1 hX hbl hbA hw.2 g133 dL_law__923 ?_
  refine lv_aload_n C.1.1 C.1.2.1 dL_law__924 rfl (lv_at hl 1 rfl) ?_
  refine lv_iload C.1.1 C.1.2.1 dL_law__925 (lv_at hl 5 rfl) ?_
  refine lv_iconst (v := (2 : Int32)) C.1.1 C.1.2.1 dL_law__927 rfl ?_
  refine lv_iadd C.1.1 C.1.2.1 dL_law__928 ?_
  have g134 := inb_in (o_g hf).1
  have hf := (o_g hf).2
  refine va_sld C.1.1 C.1.2.1 hX hbl hbA hw.2 g134 dL_law__929 ?_
  refine lv_aload_n C.1.1 C.1.2.1 dL_law__930 rfl (lv_at hl 1 rfl) ?_
  refine lv_iload C.1.1 C.1.2.1 dL_law__931 (lv_at hl 5 rfl) ?_
  refine lv_iconst (v := (3 : Int32)) C.1.1 C.1.2.1 dL_law__933 rfl ?_
  refine lv_iadd C.1.1 C.1.2.1 dL_law__934 ?_
  have g135 := inb_in (o_g hf).1
  have hf := (o_g hf).2
  refine va_sld C.1.1 C.1.2.1 hX hbl hbA hw.2 g135 dL_law__935 ?_
  refine lv_aload_n C.1.1 C.1.2.1 dL_law__936 rfl (lv_at hl 1 rfl) ?_
  refine lv_iload C.1.1 C.1.2.1 dL_law__937 (lv_at hl 5 rfl) ?_
  refine lv_iconst (v := (4 : Int32)) C.1.1 C.1.2.1 dL_law__939 rfl ?_
  refine lv_iadd C.1.1 C.1.2.1 dL_law__940 ?_
  have g136 := inb_in (o_g hf).1
  have hf := (o_g hf).2
  refine va_sld C.1.1 C.1.2.1 hX hbl hbA hw.2 g136 dL_law__941 ?_
  refine lv_aload_n C.1.1 C.1.2.1 dL_law__942 rfl (lv_at hl 1 rfl) ?_
  refine lv_iload C.1.1 C.1.2.1 dL_law__943 (lv_at hl 5 rfl) ?_
  refine lv_iconst (v := (5 : Int32)) C.1.1 C.1.2.1 dL_law__945 rfl ?_
  refine lv_iadd C.1.1 C.1.2.1 dL_law__946 ?_
  have g137 := inb_in (o_g hf).1
  have hf := (o_g hf).2
  refine va_sld C.1.1 C.1.2.1 hX hbl hbA hw.2 g137 dL_law__947 ?_
  refine lv_aload_n C.1.1 C.1.2.1 dL_law__948 rfl (lv_at hl 1 rfl) ?_
  refine lv_iload C.1.1 C.1.2.1 dL_law__949 (lv_at hl 5 rfl) ?_
  refine lv_bipush (v := (6 : Int32)) C.1.1 C.1.2.1 dL_law__951 rfl ?_
  refine lv_iadd C.1.1 C.1.2.1 dL_law__953 ?_
  have g138 := inb_in (o_g hf).1
  have hf := (o_g hf).2
  refine va_sld C.1.1 C.1.2.1 hX hbl hbA hw.2 g138 dL_law__954 ?_
  refine lv_aload_n C.1.1 C.1.2.1 dL_law__955 rfl (lv_at hl 1 rfl) ?_
  refine lv_iload C.1.1 C.1.2.1 dL_law__956 (lv_at hl 5 rfl) ?_
  refine lv_bipush (v := (7 : Int32)) C.1.1 C.1.2.1 dL_law__958 rfl ?_
  refine lv_iadd C.1.1 C.1.2.1 dL_law__960 ?_
  have g139 := inb_in (o_g hf).1
  have hf := (o_g hf).2
  refine va_sld C.1.1 C.1.2.1 hX hbl hbA hw.2 g139 dL_law__961 ?_
  refine lv_aload_n C.1.1 C.1.2.1 dL_law__962 rfl (lv_at hl 1 rfl) ?_
  refine lv_iload C.1.1 C.1.2.1 dL_law__963 (lv_at hl 5 rfl) ?_
  refine lv_bipush (v := (8 : Int32)) C.1.1 C.1.2.1 dL_law__965 rfl ?_
  refine lv_iadd C.1.1 C.1.2.1 dL_law__967 ?_
  have g140 := inb_in (o_g hf).1
  have hf := (o_g hf).2
  refine va_sld C.1.1 C.1.2.1 hX hbl hbA hw.2 g140 dL_law__968 ?_
  obtain ⟨q141, h141, hf⟩ := o_bind hf
  refine aft_i hw (run_VM C hw clL_161 (As := [.int (xs (Int32.toNatClampNeg (x4 + (1 : Int32)))), .int (xs (Int32.toNatClampNeg (x4 + (2 : Int32)))), .int (xs (Int32.toNatClampNeg (x4 + (3 : Int32)))), .int (xs (Int32.toNatClampNeg (x4 + (4 : Int32)))), .int (xs (Int32.toNatClampNeg (x4 + (5 : Int32)))), .int (xs (Int32.toNatClampNeg (x4 + (6 : Int32)))), .int (xs (Int32.toNatClampNeg (x4 + (7 : Int32)))), .int (xs (Int32.toNatClampNeg (x4 + (8 : Int32))))]) (rest := []) oM_0 (c_X9_would h141) rfl hl.1 rfl ⟨Nat.le_of_ble_eq_true rfl, Nat.le_of_ble_eq_true rfl⟩ ⟨by show cells + 4 ≤ 601024; omega, by show slots + 6 * 4 ≤ 7293033; omega⟩ rfl (Nat.le_of_ble_eq_true rfl) dL_law__969) (fun H locs hw => ?_)
  refine lv_istore (lv' := [(6, .int q141.2), (5, .int q132.2.2), (0, .ref b), (1, .ref (gA G 0)), (2, .ref (gA G (41 + 0))), (3, .ref (gA G (41 + 27))), (4, .int x4)]) C.1.1 C.1.2.1 dL_law__972 hl (by decide) rfl (fun ls hl => ?_)
  refine lv_aload_n C.1.1 C.1.2.1 dL_law__974 rfl (lv_at hl 4 rfl) ?_
  obtain ⟨q142, h142, hf⟩ := o_bind hf
  refine aft_i hw (run_VM C hw clL_121 (As := []) (rest := []) oM_0 (c_X9_thrown h142) rfl hl.1 rfl ⟨Nat.le_of_ble_eq_true rfl, Nat.le_of_ble_eq_true rfl⟩ ⟨by show cells + 4 ≤ 601024; omega, by show slots + 6 * 4 ≤ 7293033; omega⟩ rfl (Nat.le_of_ble_eq_true rfl) dL_law__975) (fun H locs hw => ?_)
  refine lv_iload C.1.1 C.1.2.1 dL_law__978 (lv_at hl 1 rfl) ?_
  refine lv_icmp_eq (tgt := 985) C.1.1 C.1.2.1 dL_law__980 (by decide) (fun c143 => ?_) (fun c143 => ?_)
  · have hf := o_t hf c143
    refine lv_iload C.1.1 C.1.2.1 dL_law__985 (lv_at hl 1 rfl) ?_
    refine lv_if_ne (tgt := 1002) C.1.1 C.1.2.1 dL_law__987 (by decide) (fun c144 => ?_) (fun c144 => ?_)
    · have hf := o_f hf c144
      refine lv_goto (tgt := 2364) C.1.1 C.1.2.1 dL_law__1002 (by decide) ?_
      refine lv_iinc (v := (x4 + (9 : Int32))) (lv' := [(4, .int (x4 + (9 : Int32))), (6, .int q141.2), (5, .int q132.2.2), (0, .ref b), (1, .ref (gA G 0)), (2, .ref (gA G (41 + 0))), (3, .ref (gA G (41 + 27)))]) C.1.1 C.1.2.1 dL_law__2364 hl (k := 6) rfl rfl (by decide) rfl (fun ls hl => ?_)
      refine lv_goto (tgt := 23) C.1.1 C.1.2.1 dL_law__2367 (by decide) ?_
      exact hk_23 q132.1 q141.1 q132.2.1 (x4 + (9 : Int32)) _ _ _ _ _ (by omega) (by omega) hw (lv_sub hl [3, 4, 5, 6, 0] rfl) hf
    · have hf := o_t hf c144
      refine lv_aload_n C.1.1 C.1.2.1 dL_law__990 rfl (lv_at hl 5 rfl) ?_
      refine lv_iconst (v := (0 : Int32)) C.1.1 C.1.2.1 dL_law__991 rfl ?_
      have g145 := inb_in (o_g hf).1
      have hf := (o_g hf).2
      refine l_ald C hw lM_27 hnL g145 dL_law__992 ?_
      refine lv_iload C.1.1 C.1.2.1 dL_law__993 (lv_at hl 0 rfl) ?_
      refine lv_i2l (v := (Int32.toInt64 q141.2)) C.1.1 C.1.2.1 dL_law__995 rfl ?_
      refine W.lcmp C.1.1 C.1.2.1 dL_law__996 ?_
      refine lv_if_eq (tgt := 1002) C.1.1 C.1.2.1 dL_law__997 (by decide) (fun c146 => ?_) (fun c146 => ?_)
      · have hf := o_t hf c146
        refine lv_goto (tgt := 2364) C.1.1 C.1.2.1 dL_law__1002 (by decide) ?_
        refine lv_iinc (v := (x4 + (9 : Int32))) (lv' := [(4, .int (x4 + (9 : Int32))), (6, .int q141.2), (5, .int q132.2.2), (0, .ref b), (1, .ref (gA G 0)), (2, .ref (gA G (41 + 0))), (3, .ref (gA G (41 + 27)))]) C.1.1 C.1.2.1 dL_law__2364 hl (k := 6) rfl rfl (by decide) rfl (fun ls hl => ?_)
        refine lv_goto (tgt := 23) C.1.1 C.1.2.1 dL_law__2367 (by decide) ?_
        exact hk_23 q132.1 q141.1 q132.2.1 (x4 + (9 : Int32)) _ _ _ _ _ (by omega) (by omega) hw (lv_sub hl [3, 4, 5, 6, 0] rfl) hf
      · have hf := o_f hf c146
        refine lv_iconst (v := (0 : Int32)) C.1.1 C.1.2.1 dL_law__1000 rfl ?_
        exact absurd (Option.some.inj hf) (by decide)
  · have hf := o_f hf c143
    refine lv_iconst (v := (0 : Int32)) C.1.1 C.1.2.1 dL_law__983 rfl ?_
    exact absurd (Option.some.inj hf) (by decide)
set_option maxRecDepth 20000 in
set_option maxHeartbeats 4000000 in
theorem wB_law_1005 {G : GP} {l : Launch} {p : Program} {e : Env} {s : State} {m : MethodId} {below : List Frame} {meth : Method} {c : Code} {b Lth : Nat} {xs : Nat → Int32} (C : Cx G p s m #[Value.ref b] c cL_law_ 8 RL) (hr : meth.sig.returnType = ret) (hlk : meth.locks = false) (hst : l.stackTraces = false) (hnL : 41 + 27 < gN G) (hX : va_X b Lth xs s s.heap) (hbl : b < s.heap.size) (hbA : ¬ AB G b) (hBs : gB G = s.heap.size) {cB sB : Nat} (hcB : cB ≤ 601024) (hsB : sB ≤ 7293033) {k_23 : TX → TX → TL → Int32 → Option Int32} (hk_23 : ∀ (X : TX) (M : TX) (L : TL) (x4 : Int32) (cells slots : Nat) (H : Heap) (locs : List Loc) (ls : Array Slot), cells ≤ cB → slots ≤ sB → Wh G s X M L H locs → lv_has ls 8 [(0, .ref b), (1, .ref (gA G 0)), (2, .ref (gA G (41 + 0))), (3, .ref (gA G (41 + 27))), (4, .int x4)] → k_23 X M L x4 = some (1 : Int32) → W p l e room_1 s m #[Value.ref b] below meth c H locs cells slots (lw_Z below #[Value.ref b] s) (F0 m 23 ls [])) : ∀ (X : TX) (M : TX) (L : TL) (x4 : Int32) (cells slots : Nat) (H : Heap) (locs : List Loc) (ls : Array Slot), cells + 4 ≤ cB → slots + 24 ≤ sB → Wh G s X M L H locs → lv_has ls 8 [(0, .ref b), (1, .ref (gA G 0)), (2, .ref (gA G (41 + 0))), (3, .ref (gA G (41 + 27))), (4, .int x4)] → B_law_1005 xs Lth k_23 X M L x4 = some (1 : Int32) → W p l e room_1 s m #[Value.ref b] below meth c H locs cells slots (lw_Z below #[Value.ref b] s) (F0 m 1005 ls []) := by
  intro X M L x4 cells slots H locs ls hc hs hw hl hf
  unfold B_law_1005 at hf
  refine lv_aload_n C.1.1 C.1.2.1 dL_law__1005 rfl (lv_at hl 1 rfl) ?_
  refine lv_aload_n C.1.1 C.1.2.1 dL_law__1006 rfl (lv_at hl 0 rfl) ?_
  refine lv_iload C.1.1 C.1.2.1 dL_law__1007 (lv_at hl 4 rfl) ?_
  refine lv_iconst (v := (1 : Int32)) C.1.1 C.1.2.1 dL_law__1009 rfl ?_
  refine lv_iadd C.1.1 C.1.2.1 dL_law__1010 ?_
  have g148 := inb_in (o_g hf).1
  have hf := (o_g hf).2
  refine va_sld C.1.1 C.1.2.1 hX hbl hbA hw.2 g148 dL_law__1011 ?_
  refine lv_aload_n C.1.1 C.1.2.1 dL_law__1012 rfl (lv_at hl 3 rfl) ?_
  obtain ⟨q149, h149, hf⟩ := o_bind hf
  refine x_wrap (np := 3) C hw ⟨(tb5 70 rfl rfl), (tb5 71 rfl rfl), (tb1 0 rfl rfl), (tb5 72 rfl rfl)⟩ (As := [.ref (gA G 0), .int (xs (Int32.toNatClampNeg (x4 + (1 : Int32)))), .ref (gA G (41 + 27))]) (rest := []) (c_L_may hst hnL h149) (by decide +kernel) hl.1 rfl ⟨Nat.le_of_ble_eq_true rfl, Nat.le_of_ble_eq_true rfl⟩ ⟨by show cells + 1 ≤ 601024; omega, by show slots + 6 * 1 ≤ 7293033; omega⟩ rfl (Nat.le_of_ble_eq_true rfl) dL_law__1013 (fun H locs hw => ?_)
  refine lv_istore (lv' := [(5, .int q149.2.2), (0, .ref b), (1, .ref (gA G 0)), (2, .ref (gA G (41 + 0))), (3, .ref (gA G (41 + 27))), (4, .int x4)]) C.1.1 C.1.2.1 dL_law__1016 hl (by decide) rfl (fun ls hl => ?_)
  refine lv_aload_n C.1.1 C.1.2.1 dL_law__1018 rfl (lv_at hl 3 rfl) ?_
  refine lv_aload_n C.1.1 C.1.2.1 dL_law__1019 rfl (lv_at hl 1 rfl) ?_
  refine lv_iload C.1.1 C.1.2.1 dL_law__1020 (lv_at hl 5 rfl) ?_
  refine lv_iconst (v := (1 : Int32)) C.1.1 C.1.2.1 dL_law__1022 rfl ?_
  refine lv_iadd C.1.1 C.1.2.1 dL_law__1023 ?_
  have g150 := inb_in (o_g hf).1
  have hf := (o_g hf).2
  refine va_sld C.1.1 C.1.2.1 hX hbl hbA hw.2 g150 dL_law__1024 ?_
  obtain ⟨q151, h151, hf⟩ := o_bind hf
  refine aft_i hw (run_VM C hw clL_164 (As := [.int (xs (Int32.toNatClampNeg (x4 + (1 : Int32))))]) (rest := []) oM_0 (c_X9_may h151) rfl hl.1 rfl ⟨Nat.le_of_ble_eq_true rfl, Nat.le_of_ble_eq_true rfl⟩ ⟨by show cells + 1 ≤ 601024; omega, by show slots + 6 * 1 ≤ 7293033; omega⟩ rfl (Nat.le_of_ble_eq_true rfl) dL_law__1025) (fun H locs hw => ?_)
  refine lv_istore (lv' := [(6, .int q151.2), (5, .int q149.2.2), (0, .ref b), (1, .ref (gA G 0)), (2, .ref (gA G (41 + 0))), (3, .ref (gA G (41 + 27))), (4, .int x4)]) C.1.1 C.1.2.1 dL_law__1028 hl (by decide) rfl (fun ls hl => ?_)
  refine lv_aload_n C.1.1 C.1.2.1 dL_law__1030 rfl (lv_at hl 4 rfl) ?_
  obtain ⟨q152, h152, hf⟩ := o_bind hf
  refine aft_i hw (run_VM C hw clL_121 (As := []) (rest := []) oM_0 (c_X9_thrown h152) rfl hl.1 rfl ⟨Nat.le_of_ble_eq_true rfl, Nat.le_of_ble_eq_true rfl⟩ ⟨by show cells + 1 ≤ 601024; omega, by show slots + 6 * 1 ≤ 7293033; omega⟩ rfl (Nat.le_of_ble_eq_true rfl) dL_law__1031) (fun H locs hw => ?_)
  refine lv_iload C.1.1 C.1.2.1 dL_law__1034 (lv_at hl 1 rfl) ?_
  refine lv_icmp_eq (tgt := 1041) C.1.1 C.1.2.1 dL_law__1036 (by decide) (fun c153 => ?_) (fun c153 => ?_)
  · have hf := o_t hf c153
    refine lv_iload C.1.1 C.1.2.1 dL_law__1041 (lv_at hl 1 rfl) ?_
    refine lv_if_ne (tgt := 1058) C.1.1 C.1.2.1 dL_law__1043 (by decide) (fun c154 => ?_) (fun c154 => ?_)
    · have hf := o_f hf c154
      refine lv_goto (tgt := 2364) C.1.1 C.1.2.1 dL_law__1058 (by decide) ?_
      refine lv_iinc (v := (x4 + (9 : Int32))) (lv' := [(4, .int (x4 + (9 : Int32))), (6, .int q151.2), (5, .int q149.2.2), (0, .ref b), (1, .ref (gA G 0)), (2, .ref (gA G (41 + 0))), (3, .ref (gA G (41 + 27)))]) C.1.1 C.1.2.1 dL_law__2364 hl (k := 6) rfl rfl (by decide) rfl (fun ls hl => ?_)
      refine lv_goto (tgt := 23) C.1.1 C.1.2.1 dL_law__2367 (by decide) ?_
      exact hk_23 q149.1 q151.1 q149.2.1 (x4 + (9 : Int32)) _ _ _ _ _ (by omega) (by omega) hw (lv_sub hl [3, 4, 5, 6, 0] rfl) hf
    · have hf := o_t hf c154
      refine lv_aload_n C.1.1 C.1.2.1 dL_law__1046 rfl (lv_at hl 5 rfl) ?_
      refine lv_iconst (v := (0 : Int32)) C.1.1 C.1.2.1 dL_law__1047 rfl ?_
      have g155 := inb_in (o_g hf).1
      have hf := (o_g hf).2
      refine l_ald C hw lM_27 hnL g155 dL_law__1048 ?_
      refine lv_iload C.1.1 C.1.2.1 dL_law__1049 (lv_at hl 0 rfl) ?_
      refine lv_i2l (v := (Int32.toInt64 q151.2)) C.1.1 C.1.2.1 dL_law__1051 rfl ?_
      refine W.lcmp C.1.1 C.1.2.1 dL_law__1052 ?_
      refine lv_if_eq (tgt := 1058) C.1.1 C.1.2.1 dL_law__1053 (by decide) (fun c156 => ?_) (fun c156 => ?_)
      · have hf := o_t hf c156
        refine lv_goto (tgt := 2364) C.1.1 C.1.2.1 dL_law__1058 (by decide) ?_
        refine lv_iinc (v := (x4 + (9 : Int32))) (lv' := [(4, .int (x4 + (9 : Int32))), (6, .int q151.2), (5, .int q149.2.2), (0, .ref b), (1, .ref (gA G 0)), (2, .ref (gA G (41 + 0))), (3, .ref (gA G (41 + 27)))]) C.1.1 C.1.2.1 dL_law__2364 hl (k := 6) rfl rfl (by decide) rfl (fun ls hl => ?_)
        refine lv_goto (tgt := 23) C.1.1 C.1.2.1 dL_law__2367 (by decide) ?_
        exact hk_23 q149.1 q151.1 q149.2.1 (x4 + (9 : Int32)) _ _ _ _ _ (by omega) (by omega) hw (lv_sub hl [3, 4, 5, 6, 0] rfl) hf
      · have hf := o_f hf c156
        refine lv_iconst (v := (0 : Int32)) C.1.1 C.1.2.1 dL_law__1056 rfl ?_
        exact absurd (Option.some.inj hf) (by decide)
  · have hf := o_f hf c153
    refine lv_iconst (v := (0 : Int32)) C.1.1 C.1.2.1 dL_law__1039 rfl ?_
    exact absurd (Option.some.inj hf) (by decide)
set_option maxRecDepth 20000 in
set_option maxHeartbeats 4000000 in
theorem wB_law_1061 {G : GP} {l : Launch} {p : Program} {e : Env} {s : State} {m : MethodId} {below : List Frame} {meth : Method} {c : Code} {b Lth : Nat} {xs : Nat → Int32} (C : Cx G p s m #[Value.ref b] c cL_law_ 8 RL) (hr : meth.sig.returnType = ret) (hlk : meth.locks = false) (hst : l.stackTraces = false) (hnL : 41 + 27 < gN G) (hX : va_X b Lth xs s s.heap) (hbl : b < s.heap.size) (hbA : ¬ AB G b) (hBs : gB G = s.heap.size) {cB sB : Nat} (hcB : cB ≤ 601024) (hsB : sB ≤ 7293033) {k_23 : TX → TX → TL → Int32 → Option Int32} (hk_23 : ∀ (X : TX) (M : TX) (L : TL) (x4 : Int32) (cells slots : Nat) (H : Heap) (locs : List Loc) (ls : Array Slot), cells ≤ cB → slots ≤ sB → Wh G s X M L H locs → lv_has ls 8 [(0, .ref b), (1, .ref (gA G 0)), (2, .ref (gA G (41 + 0))), (3, .ref (gA G (41 + 27))), (4, .int x4)] → k_23 X M L x4 = some (1 : Int32) → W p l e room_1 s m #[Value.ref b] below meth c H locs cells slots (lw_Z below #[Value.ref b] s) (F0 m 23 ls [])) : ∀ (X : TX) (M : TX) (L : TL) (x4 : Int32) (cells slots : Nat) (H : Heap) (locs : List Loc) (ls : Array Slot), cells + 4 ≤ cB → slots + 24 ≤ sB → Wh G s X M L H locs → lv_has ls 8 [(0, .ref b), (1, .ref (gA G 0)), (2, .ref (gA G (41 + 0))), (3, .ref (gA G (41 + 27))), (4, .int x4)] → B_law_1061 xs Lth k_23 X M L x4 = some (1 : Int32) → W p l e room_1 s m #[Value.ref b] below meth c H locs cells slots (lw_Z below #[Value.ref b] s) (F0 m 1061 ls []) := by
  intro X M L x4 cells slots H locs ls hc hs hw hl hf
  unfold B_law_1061 at hf
  refine lv_aload_n C.1.1 C.1.2.1 dL_law__1061 rfl (lv_at hl 1 rfl) ?_
  refine lv_aload_n C.1.1 C.1.2.1 dL_law__1062 rfl (lv_at hl 0 rfl) ?_
  refine lv_iload C.1.1 C.1.2.1 dL_law__1063 (lv_at hl 4 rfl) ?_
  refine lv_iconst (v := (1 : Int32)) C.1.1 C.1.2.1 dL_law__1065 rfl ?_
  refine lv_iadd C.1.1 C.1.2.1 dL_law__1066 ?_
  have g158 := inb_in (o_g hf).1
  have hf := (o_g hf).2
  refine va_sld C.1.1 C.1.2.1 hX hbl hbA hw.2 g158 dL_law__1067 ?_
  refine lv_aload_n C.1.1 C.1.2.1 dL_law__1068 rfl (lv_at hl 0 rfl) ?_
  refine lv_iload C.1.1 C.1.2.1 dL_law__1069 (lv_at hl 4 rfl) ?_
  refine lv_iconst (v := (2 : Int32)) C.1.1 C.1.2.1 dL_law__1071 rfl ?_
  refine lv_iadd C.1.1 C.1.2.1 dL_law__1072 ?_
  have g159 := inb_in (o_g hf).1
  have hf := (o_g hf).2
  refine va_sld C.1.1 C.1.2.1 hX hbl hbA hw.2 g159 dL_law__1073 ?_
  refine lv_aload_n C.1.1 C.1.2.1 dL_law__1074 rfl (lv_at hl 3 rfl) ?_
  obtain ⟨q160, h160, hf⟩ := o_bind hf
  refine x_wrap (np := 4) C hw ⟨(tb5 78 rfl rfl), (tb5 79 rfl rfl), (tb1 0 rfl rfl), (tb5 80 rfl rfl)⟩ (As := [.ref (gA G 0), .int (xs (Int32.toNatClampNeg (x4 + (1 : Int32)))), .int (xs (Int32.toNatClampNeg (x4 + (2 : Int32)))), .ref (gA G (41 + 27))]) (rest := []) (c_L_best hst hnL h160) (by decide +kernel) hl.1 rfl ⟨Nat.le_of_ble_eq_true rfl, Nat.le_of_ble_eq_true rfl⟩ ⟨by show cells + 2 ≤ 601024; omega, by show slots + 6 * 2 ≤ 7293033; omega⟩ rfl (Nat.le_of_ble_eq_true rfl) dL_law__1075 (fun H locs hw => ?_)
  refine lv_istore (lv' := [(5, .int q160.2.2), (0, .ref b), (1, .ref (gA G 0)), (2, .ref (gA G (41 + 0))), (3, .ref (gA G (41 + 27))), (4, .int x4)]) C.1.1 C.1.2.1 dL_law__1078 hl (by decide) rfl (fun ls hl => ?_)
  refine lv_aload_n C.1.1 C.1.2.1 dL_law__1080 rfl (lv_at hl 3 rfl) ?_
  refine lv_aload_n C.1.1 C.1.2.1 dL_law__1081 rfl (lv_at hl 1 rfl) ?_
  refine lv_iload C.1.1 C.1.2.1 dL_law__1082 (lv_at hl 5 rfl) ?_
  refine lv_iconst (v := (1 : Int32)) C.1.1 C.1.2.1 dL_law__1084 rfl ?_
  refine lv_iadd C.1.1 C.1.2.1 dL_law__1085 ?_
  have g161 := inb_in (o_g hf).1
  have hf := (o_g hf).2
  refine va_sld C.1.1 C.1.2.1 hX hbl hbA hw.2 g161 dL_law__1086 ?_
  refine lv_aload_n C.1.1 C.1.2.1 dL_law__1087 rfl (lv_at hl 1 rfl) ?_
  refine lv_iload C.1.1 C.1.2.1 dL_law__1088 (lv_at hl 5 rfl) ?_
  refine lv_iconst (v := (2 : Int32)) C.1.1 C.1.2.1 dL_law__1090 rfl ?_
  refine lv_iadd C.1.1 C.1.2.1 dL_law__1091 ?_
  have g162 := inb_in (o_g hf).1
  have hf := (o_g hf).2
  refine va_sld C.1.1 C.1.2.1 hX hbl hbA hw.2 g162 dL_law__1092 ?_
  obtain ⟨q163, h163, hf⟩ := o_bind hf
  refine aft_i hw (run_VM C hw clL_167 (As := [.int (xs (Int32.toNatClampNeg (x4 + (1 : Int32)))), .int (xs (Int32.toNatClampNeg (x4 + (2 : Int32))))]) (rest := []) oM_0 (c_X9_best h163) rfl hl.1 rfl ⟨Nat.le_of_ble_eq_true rfl, Nat.le_of_ble_eq_true rfl⟩ ⟨by show cells + 2 ≤ 601024; omega, by show slots + 6 * 2 ≤ 7293033; omega⟩ rfl (Nat.le_of_ble_eq_true rfl) dL_law__1093) (fun H locs hw => ?_)
  refine lv_istore (lv' := [(6, .int q163.2), (5, .int q160.2.2), (0, .ref b), (1, .ref (gA G 0)), (2, .ref (gA G (41 + 0))), (3, .ref (gA G (41 + 27))), (4, .int x4)]) C.1.1 C.1.2.1 dL_law__1096 hl (by decide) rfl (fun ls hl => ?_)
  refine lv_aload_n C.1.1 C.1.2.1 dL_law__1098 rfl (lv_at hl 4 rfl) ?_
  obtain ⟨q164, h164, hf⟩ := o_bind hf
  refine aft_i hw (run_VM C hw clL_121 (As := []) (rest := []) oM_0 (c_X9_thrown h164) rfl hl.1 rfl ⟨Nat.le_of_ble_eq_true rfl, Nat.le_of_ble_eq_true rfl⟩ ⟨by show cells + 2 ≤ 601024; omega, by show slots + 6 * 2 ≤ 7293033; omega⟩ rfl (Nat.le_of_ble_eq_true rfl) dL_law__1099) (fun H locs hw => ?_)
  refine lv_iload C.1.1 C.1.2.1 dL_law__1102 (lv_at hl 1 rfl) ?_
  refine lv_icmp_eq (tgt := 1109) C.1.1 C.1.2.1 dL_law__1104 (by decide) (fun c165 => ?_) (fun c165 => ?_)
  · have hf := o_t hf c165
    refine lv_iload C.1.1 C.1.2.1 dL_law__1109 (lv_at hl 1 rfl) ?_
    refine lv_if_ne (tgt := 1126) C.1.1 C.1.2.1 dL_law__1111 (by decide) (fun c166 => ?_) (fun c166 => ?_)
    · have hf := o_f hf c166
      refine lv_goto (tgt := 2364) C.1.1 C.1.2.1 dL_law__1126 (by decide) ?_
      refine lv_iinc (v := (x4 + (9 : Int32))) (lv' := [(4, .int (x4 + (9 : Int32))), (6, .int q163.2), (5, .int q160.2.2), (0, .ref b), (1, .ref (gA G 0)), (2, .ref (gA G (41 + 0))), (3, .ref (gA G (41 + 27)))]) C.1.1 C.1.2.1 dL_law__2364 hl (k := 6) rfl rfl (by decide) rfl (fun ls hl => ?_)
      refine lv_goto (tgt := 23) C.1.1 C.1.2.1 dL_law__2367 (by decide) ?_
      exact hk_23 q160.1 q163.1 q160.2.1 (x4 + (9 : Int32)) _ _ _ _ _ (by omega) (by omega) hw (lv_sub hl [3, 4, 5, 6, 0] rfl) hf
    · have hf := o_t hf c166
      refine lv_aload_n C.1.1 C.1.2.1 dL_law__1114 rfl (lv_at hl 5 rfl) ?_
      refine lv_iconst (v := (0 : Int32)) C.1.1 C.1.2.1 dL_law__1115 rfl ?_
      have g167 := inb_in (o_g hf).1
      have hf := (o_g hf).2
      refine l_ald C hw lM_27 hnL g167 dL_law__1116 ?_
      refine lv_iload C.1.1 C.1.2.1 dL_law__1117 (lv_at hl 0 rfl) ?_
      refine lv_i2l (v := (Int32.toInt64 q163.2)) C.1.1 C.1.2.1 dL_law__1119 rfl ?_
      refine W.lcmp C.1.1 C.1.2.1 dL_law__1120 ?_
      refine lv_if_eq (tgt := 1126) C.1.1 C.1.2.1 dL_law__1121 (by decide) (fun c168 => ?_) (fun c168 => ?_)
      · have hf := o_t hf c168
        refine lv_goto (tgt := 2364) C.1.1 C.1.2.1 dL_law__1126 (by decide) ?_
        refine lv_iinc (v := (x4 + (9 : Int32))) (lv' := [(4, .int (x4 + (9 : Int32))), (6, .int q163.2), (5, .int q160.2.2), (0, .ref b), (1, .ref (gA G 0)), (2, .ref (gA G (41 + 0))), (3, .ref (gA G (41 + 27)))]) C.1.1 C.1.2.1 dL_law__2364 hl (k := 6) rfl rfl (by decide) rfl (fun ls hl => ?_)
        refine lv_goto (tgt := 23) C.1.1 C.1.2.1 dL_law__2367 (by decide) ?_
        exact hk_23 q160.1 q163.1 q160.2.1 (x4 + (9 : Int32)) _ _ _ _ _ (by omega) (by omega) hw (lv_sub hl [3, 4, 5, 6, 0] rfl) hf
      · have hf := o_f hf c168
        refine lv_iconst (v := (0 : Int32)) C.1.1 C.1.2.1 dL_law__1124 rfl ?_
        exact absurd (Option.some.inj hf) (by decide)
  · have hf := o_f hf c165
    refine lv_iconst (v := (0 : Int32)) C.1.1 C.1.2.1 dL_law__1107 rfl ?_
    exact absurd (Option.some.inj hf) (by decide)
set_option maxRecDepth 20000 in
set_option maxHeartbeats 4000000 in
theorem wB_law_1129 {G : GP} {l : Launch} {p : Program} {e : Env} {s : State} {m : MethodId} {below : List Frame} {meth : Method} {c : Code} {b Lth : Nat} {xs : Nat → Int32} (C : Cx G p s m #[Value.ref b] c cL_law_ 8 RL) (hr : meth.sig.returnType = ret) (hlk : meth.locks = false) (hst : l.stackTraces = false) (hnL : 41 + 27 < gN G) (hX : va_X b Lth xs s s.heap) (hbl : b < s.heap.size) (hbA : ¬ AB G b) (hBs : gB G = s.heap.size) {cB sB : Nat} (hcB : cB ≤ 601024) (hsB : sB ≤ 7293033) {k_23 : TX → TX → TL → Int32 → Option Int32} (hk_23 : ∀ (X : TX) (M : TX) (L : TL) (x4 : Int32) (cells slots : Nat) (H : Heap) (locs : List Loc) (ls : Array Slot), cells ≤ cB → slots ≤ sB → Wh G s X M L H locs → lv_has ls 8 [(0, .ref b), (1, .ref (gA G 0)), (2, .ref (gA G (41 + 0))), (3, .ref (gA G (41 + 27))), (4, .int x4)] → k_23 X M L x4 = some (1 : Int32) → W p l e room_1 s m #[Value.ref b] below meth c H locs cells slots (lw_Z below #[Value.ref b] s) (F0 m 23 ls [])) : ∀ (X : TX) (M : TX) (L : TL) (x4 : Int32) (cells slots : Nat) (H : Heap) (locs : List Loc) (ls : Array Slot), cells + 4 ≤ cB → slots + 24 ≤ sB → Wh G s X M L H locs → lv_has ls 8 [(0, .ref b), (1, .ref (gA G 0)), (2, .ref (gA G (41 + 0))), (3, .ref (gA G (41 + 27))), (4, .int x4)] → B_law_1129 xs Lth k_23 X M L x4 = some (1 : Int32) → W p l e room_1 s m #[Value.ref b] below meth c H locs cells slots (lw_Z below #[Value.ref b] s) (F0 m 1129 ls []) := by
  intro X M L x4 cells slots H locs ls hc hs hw hl hf
  unfold B_law_1129 at hf
  refine lv_aload_n C.1.1 C.1.2.1 dL_law__1129 rfl (lv_at hl 1 rfl) ?_
  refine lv_aload_n C.1.1 C.1.2.1 dL_law__1130 rfl (lv_at hl 0 rfl) ?_
  refine lv_iload C.1.1 C.1.2.1 dL_law__1131 (lv_at hl 4 rfl) ?_
  refine lv_iconst (v := (1 : Int32)) C.1.1 C.1.2.1 dL_law__1133 rfl ?_
  refine lv_iadd C.1.1 C.1.2.1 dL_law__1134 ?_
  have g170 := inb_in (o_g hf).1
  have hf := (o_g hf).2
  refine va_sld C.1.1 C.1.2.1 hX hbl hbA hw.2 g170 dL_law__1135 ?_
  refine lv_aload_n C.1.1 C.1.2.1 dL_law__1136 rfl (lv_at hl 0 rfl) ?_
  refine lv_iload C.1.1 C.1.2.1 dL_law__1137 (lv_at hl 4 rfl) ?_
  refine lv_iconst (v := (2 : Int32)) C.1.1 C.1.2.1 dL_law__1139 rfl ?_
  refine lv_iadd C.1.1 C.1.2.1 dL_law__1140 ?_
  have g171 := inb_in (o_g hf).1
  have hf := (o_g hf).2
  refine va_sld C.1.1 C.1.2.1 hX hbl hbA hw.2 g171 dL_law__1141 ?_
  refine lv_aload_n C.1.1 C.1.2.1 dL_law__1142 rfl (lv_at hl 3 rfl) ?_
  obtain ⟨q172, h172, hf⟩ := o_bind hf
  refine x_wrap (np := 4) C hw ⟨(tb5 86 rfl rfl), (tb5 87 rfl rfl), (tb1 0 rfl rfl), (tb5 88 rfl rfl)⟩ (As := [.ref (gA G 0), .int (xs (Int32.toNatClampNeg (x4 + (1 : Int32)))), .int (xs (Int32.toNatClampNeg (x4 + (2 : Int32)))), .ref (gA G (41 + 27))]) (rest := []) (c_L_redrawn hst hnL h172) (by decide +kernel) hl.1 rfl ⟨Nat.le_of_ble_eq_true rfl, Nat.le_of_ble_eq_true rfl⟩ ⟨by show cells + 2 ≤ 601024; omega, by show slots + 6 * 2 ≤ 7293033; omega⟩ rfl (Nat.le_of_ble_eq_true rfl) dL_law__1143 (fun H locs hw => ?_)
  refine lv_istore (lv' := [(5, .int q172.2.2), (0, .ref b), (1, .ref (gA G 0)), (2, .ref (gA G (41 + 0))), (3, .ref (gA G (41 + 27))), (4, .int x4)]) C.1.1 C.1.2.1 dL_law__1146 hl (by decide) rfl (fun ls hl => ?_)
  refine lv_aload_n C.1.1 C.1.2.1 dL_law__1148 rfl (lv_at hl 3 rfl) ?_
  refine lv_aload_n C.1.1 C.1.2.1 dL_law__1149 rfl (lv_at hl 1 rfl) ?_
  refine lv_iload C.1.1 C.1.2.1 dL_law__1150 (lv_at hl 5 rfl) ?_
  refine lv_iconst (v := (1 : Int32)) C.1.1 C.1.2.1 dL_law__1152 rfl ?_
  refine lv_iadd C.1.1 C.1.2.1 dL_law__1153 ?_
  have g173 := inb_in (o_g hf).1
  have hf := (o_g hf).2
  refine va_sld C.1.1 C.1.2.1 hX hbl hbA hw.2 g173 dL_law__1154 ?_
  refine lv_aload_n C.1.1 C.1.2.1 dL_law__1155 rfl (lv_at hl 1 rfl) ?_
  refine lv_iload C.1.1 C.1.2.1 dL_law__1156 (lv_at hl 5 rfl) ?_
  refine lv_iconst (v := (2 : Int32)) C.1.1 C.1.2.1 dL_law__1158 rfl ?_
  refine lv_iadd C.1.1 C.1.2.1 dL_law__1159 ?_
  have g174 := inb_in (o_g hf).1
  have hf := (o_g hf).2
  refine va_sld C.1.1 C.1.2.1 hX hbl hbA hw.2 g174 dL_law__1160 ?_
  obtain ⟨q175, h175, hf⟩ := o_bind hf
  refine aft_i hw (run_VM C hw clL_170 (As := [.int (xs (Int32.toNatClampNeg (x4 + (1 : Int32)))), .int (xs (Int32.toNatClampNeg (x4 + (2 : Int32))))]) (rest := []) oM_0 (c_X9_redrawn h175) rfl hl.1 rfl ⟨Nat.le_of_ble_eq_true rfl, Nat.le_of_ble_eq_true rfl⟩ ⟨by show cells + 2 ≤ 601024; omega, by show slots + 6 * 2 ≤ 7293033; omega⟩ rfl (Nat.le_of_ble_eq_true rfl) dL_law__1161) (fun H locs hw => ?_)
  refine lv_istore (lv' := [(6, .int q175.2), (5, .int q172.2.2), (0, .ref b), (1, .ref (gA G 0)), (2, .ref (gA G (41 + 0))), (3, .ref (gA G (41 + 27))), (4, .int x4)]) C.1.1 C.1.2.1 dL_law__1164 hl (by decide) rfl (fun ls hl => ?_)
  refine lv_aload_n C.1.1 C.1.2.1 dL_law__1166 rfl (lv_at hl 4 rfl) ?_
  obtain ⟨q176, h176, hf⟩ := o_bind hf
  refine aft_i hw (run_VM C hw clL_121 (As := []) (rest := []) oM_0 (c_X9_thrown h176) rfl hl.1 rfl ⟨Nat.le_of_ble_eq_true rfl, Nat.le_of_ble_eq_true rfl⟩ ⟨by show cells + 2 ≤ 601024; omega, by show slots + 6 * 2 ≤ 7293033; omega⟩ rfl (Nat.le_of_ble_eq_true rfl) dL_law__1167) (fun H locs hw => ?_)
  refine lv_iload C.1.1 C.1.2.1 dL_law__1170 (lv_at hl 1 rfl) ?_
  refine lv_icmp_eq (tgt := 1177) C.1.1 C.1.2.1 dL_law__1172 (by decide) (fun c177 => ?_) (fun c177 => ?_)
  · have hf := o_t hf c177
    refine lv_iload C.1.1 C.1.2.1 dL_law__1177 (lv_at hl 1 rfl) ?_
    refine lv_if_ne (tgt := 1194) C.1.1 C.1.2.1 dL_law__1179 (by decide) (fun c178 => ?_) (fun c178 => ?_)
    · have hf := o_f hf c178
      refine lv_goto (tgt := 2364) C.1.1 C.1.2.1 dL_law__1194 (by decide) ?_
      refine lv_iinc (v := (x4 + (9 : Int32))) (lv' := [(4, .int (x4 + (9 : Int32))), (6, .int q175.2), (5, .int q172.2.2), (0, .ref b), (1, .ref (gA G 0)), (2, .ref (gA G (41 + 0))), (3, .ref (gA G (41 + 27)))]) C.1.1 C.1.2.1 dL_law__2364 hl (k := 6) rfl rfl (by decide) rfl (fun ls hl => ?_)
      refine lv_goto (tgt := 23) C.1.1 C.1.2.1 dL_law__2367 (by decide) ?_
      exact hk_23 q172.1 q175.1 q172.2.1 (x4 + (9 : Int32)) _ _ _ _ _ (by omega) (by omega) hw (lv_sub hl [3, 4, 5, 6, 0] rfl) hf
    · have hf := o_t hf c178
      refine lv_aload_n C.1.1 C.1.2.1 dL_law__1182 rfl (lv_at hl 5 rfl) ?_
      refine lv_iconst (v := (0 : Int32)) C.1.1 C.1.2.1 dL_law__1183 rfl ?_
      have g179 := inb_in (o_g hf).1
      have hf := (o_g hf).2
      refine l_ald C hw lM_27 hnL g179 dL_law__1184 ?_
      refine lv_iload C.1.1 C.1.2.1 dL_law__1185 (lv_at hl 0 rfl) ?_
      refine lv_i2l (v := (Int32.toInt64 q175.2)) C.1.1 C.1.2.1 dL_law__1187 rfl ?_
      refine W.lcmp C.1.1 C.1.2.1 dL_law__1188 ?_
      refine lv_if_eq (tgt := 1194) C.1.1 C.1.2.1 dL_law__1189 (by decide) (fun c180 => ?_) (fun c180 => ?_)
      · have hf := o_t hf c180
        refine lv_goto (tgt := 2364) C.1.1 C.1.2.1 dL_law__1194 (by decide) ?_
        refine lv_iinc (v := (x4 + (9 : Int32))) (lv' := [(4, .int (x4 + (9 : Int32))), (6, .int q175.2), (5, .int q172.2.2), (0, .ref b), (1, .ref (gA G 0)), (2, .ref (gA G (41 + 0))), (3, .ref (gA G (41 + 27)))]) C.1.1 C.1.2.1 dL_law__2364 hl (k := 6) rfl rfl (by decide) rfl (fun ls hl => ?_)
        refine lv_goto (tgt := 23) C.1.1 C.1.2.1 dL_law__2367 (by decide) ?_
        exact hk_23 q172.1 q175.1 q172.2.1 (x4 + (9 : Int32)) _ _ _ _ _ (by omega) (by omega) hw (lv_sub hl [3, 4, 5, 6, 0] rfl) hf
      · have hf := o_f hf c180
        refine lv_iconst (v := (0 : Int32)) C.1.1 C.1.2.1 dL_law__1192 rfl ?_
        exact absurd (Option.some.inj hf) (by decide)
  · have hf := o_f hf c177
    refine lv_iconst (v := (0 : Int32)) C.1.1 C.1.2.1 dL_law__1175 rfl ?_
    exact absurd (Option.some.inj hf) (by decide)
set_option maxRecDepth 20000 in
set_option maxHeartbeats 4000000 in
theorem wB_law_1197 {G : GP} {l : Launch} {p : Program} {e : Env} {s : State} {m : MethodId} {below : List Frame} {meth : Method} {c : Code} {b Lth : Nat} {xs : Nat → Int32} (C : Cx G p s m #[Value.ref b] c cL_law_ 8 RL) (hr : meth.sig.returnType = ret) (hlk : meth.locks = false) (hst : l.stackTraces = false) (hnL : 41 + 27 < gN G) (hX : va_X b Lth xs s s.heap) (hbl : b < s.heap.size) (hbA : ¬ AB G b) (hBs : gB G = s.heap.size) {cB sB : Nat} (hcB : cB ≤ 601024) (hsB : sB ≤ 7293033) {k_23 : TX → TX → TL → Int32 → Option Int32} (hk_23 : ∀ (X : TX) (M : TX) (L : TL) (x4 : Int32) (cells slots : Nat) (H : Heap) (locs : List Loc) (ls : Array Slot), cells ≤ cB → slots ≤ sB → Wh G s X M L H locs → lv_has ls 8 [(0, .ref b), (1, .ref (gA G 0)), (2, .ref (gA G (41 + 0))), (3, .ref (gA G (41 + 27))), (4, .int x4)] → k_23 X M L x4 = some (1 : Int32) → W p l e room_1 s m #[Value.ref b] below meth c H locs cells slots (lw_Z below #[Value.ref b] s) (F0 m 23 ls [])) : ∀ (X : TX) (M : TX) (L : TL) (x4 : Int32) (cells slots : Nat) (H : Heap) (locs : List Loc) (ls : Array Slot), cells + 4 ≤ cB → slots + 24 ≤ sB → Wh G s X M L H locs → lv_has ls 8 [(0, .ref b), (1, .ref (gA G 0)), (2, .ref (gA G (41 + 0))), (3, .ref (gA G (41 + 27))), (4, .int x4)] → B_law_1197 xs Lth k_23 X M L x4 = some (1 : Int32) → W p l e room_1 s m #[Value.ref b] below meth c H locs cells slots (lw_Z below #[Value.ref b] s) (F0 m 1197 ls []) := by
  intro X M L x4 cells slots H locs ls hc hs hw hl hf
  unfold B_law_1197 at hf
  refine lv_aload_n C.1.1 C.1.2.1 dL_law__1197 rfl (lv_at hl 1 rfl) ?_
  refine lv_aload_n C.1.1 C.1.2.1 dL_law__1198 rfl (lv_at hl 0 rfl) ?_
  refine lv_iload C.1.1 C.1.2.1 dL_law__1199 (lv_at hl 4 rfl) ?_
  refine lv_iconst (v := (1 : Int32)) C.1.1 C.1.2.1 dL_law__1201 rfl ?_
  refine lv_iadd C.1.1 C.1.2.1 dL_law__1202 ?_
  have g182 := inb_in (o_g hf).1
  have hf := (o_g hf).2
  refine va_sld C.1.1 C.1.2.1 hX hbl hbA hw.2 g182 dL_law__1203 ?_
  refine lv_aload_n C.1.1 C.1.2.1 dL_law__1204 rfl (lv_at hl 3 rfl) ?_
  obtain ⟨q183, h183, hf⟩ := o_bind hf
  refine x_wrap (np := 3) C hw ⟨(tb5 101 rfl rfl), (tb5 102 rfl rfl), (tb1 0 rfl rfl), (tb5 103 rfl rfl)⟩ (As := [.ref (gA G 0), .int (xs (Int32.toNatClampNeg (x4 + (1 : Int32)))), .ref (gA G (41 + 27))]) (rest := []) (c_L_turned hst hnL h183) (by decide +kernel) hl.1 rfl ⟨Nat.le_of_ble_eq_true rfl, Nat.le_of_ble_eq_true rfl⟩ ⟨by show cells + 1 ≤ 601024; omega, by show slots + 6 * 1 ≤ 7293033; omega⟩ rfl (Nat.le_of_ble_eq_true rfl) dL_law__1205 (fun H locs hw => ?_)
  refine lv_istore (lv' := [(5, .int q183.2.2), (0, .ref b), (1, .ref (gA G 0)), (2, .ref (gA G (41 + 0))), (3, .ref (gA G (41 + 27))), (4, .int x4)]) C.1.1 C.1.2.1 dL_law__1208 hl (by decide) rfl (fun ls hl => ?_)
  refine lv_aload_n C.1.1 C.1.2.1 dL_law__1210 rfl (lv_at hl 3 rfl) ?_
  refine lv_aload_n C.1.1 C.1.2.1 dL_law__1211 rfl (lv_at hl 1 rfl) ?_
  refine lv_iload C.1.1 C.1.2.1 dL_law__1212 (lv_at hl 5 rfl) ?_
  refine lv_iconst (v := (1 : Int32)) C.1.1 C.1.2.1 dL_law__1214 rfl ?_
  refine lv_iadd C.1.1 C.1.2.1 dL_law__1215 ?_
  have g184 := inb_in (o_g hf).1
  have hf := (o_g hf).2
  refine va_sld C.1.1 C.1.2.1 hX hbl hbA hw.2 g184 dL_law__1216 ?_
  obtain ⟨q185, h185, hf⟩ := o_bind hf
  refine aft_i hw (run_VM C hw clL_173 (As := [.int (xs (Int32.toNatClampNeg (x4 + (1 : Int32))))]) (rest := []) oM_0 (c_X9_turned h185) rfl hl.1 rfl ⟨Nat.le_of_ble_eq_true rfl, Nat.le_of_ble_eq_true rfl⟩ ⟨by show cells + 1 ≤ 601024; omega, by show slots + 6 * 1 ≤ 7293033; omega⟩ rfl (Nat.le_of_ble_eq_true rfl) dL_law__1217) (fun H locs hw => ?_)
  refine lv_istore (lv' := [(6, .int q185.2), (5, .int q183.2.2), (0, .ref b), (1, .ref (gA G 0)), (2, .ref (gA G (41 + 0))), (3, .ref (gA G (41 + 27))), (4, .int x4)]) C.1.1 C.1.2.1 dL_law__1220 hl (by decide) rfl (fun ls hl => ?_)
  refine lv_aload_n C.1.1 C.1.2.1 dL_law__1222 rfl (lv_at hl 4 rfl) ?_
  obtain ⟨q186, h186, hf⟩ := o_bind hf
  refine aft_i hw (run_VM C hw clL_121 (As := []) (rest := []) oM_0 (c_X9_thrown h186) rfl hl.1 rfl ⟨Nat.le_of_ble_eq_true rfl, Nat.le_of_ble_eq_true rfl⟩ ⟨by show cells + 1 ≤ 601024; omega, by show slots + 6 * 1 ≤ 7293033; omega⟩ rfl (Nat.le_of_ble_eq_true rfl) dL_law__1223) (fun H locs hw => ?_)
  refine lv_iload C.1.1 C.1.2.1 dL_law__1226 (lv_at hl 1 rfl) ?_
  refine lv_icmp_eq (tgt := 1233) C.1.1 C.1.2.1 dL_law__1228 (by decide) (fun c187 => ?_) (fun c187 => ?_)
  · have hf := o_t hf c187
    refine lv_iload C.1.1 C.1.2.1 dL_law__1233 (lv_at hl 1 rfl) ?_
    refine lv_if_ne (tgt := 1250) C.1.1 C.1.2.1 dL_law__1235 (by decide) (fun c188 => ?_) (fun c188 => ?_)
    · have hf := o_f hf c188
      refine lv_goto (tgt := 2364) C.1.1 C.1.2.1 dL_law__1250 (by decide) ?_
      refine lv_iinc (v := (x4 + (9 : Int32))) (lv' := [(4, .int (x4 + (9 : Int32))), (6, .int q185.2), (5, .int q183.2.2), (0, .ref b), (1, .ref (gA G 0)), (2, .ref (gA G (41 + 0))), (3, .ref (gA G (41 + 27)))]) C.1.1 C.1.2.1 dL_law__2364 hl (k := 6) rfl rfl (by decide) rfl (fun ls hl => ?_)
      refine lv_goto (tgt := 23) C.1.1 C.1.2.1 dL_law__2367 (by decide) ?_
      exact hk_23 q183.1 q185.1 q183.2.1 (x4 + (9 : Int32)) _ _ _ _ _ (by omega) (by omega) hw (lv_sub hl [3, 4, 5, 6, 0] rfl) hf
    · have hf := o_t hf c188
      refine lv_aload_n C.1.1 C.1.2.1 dL_law__1238 rfl (lv_at hl 5 rfl) ?_
      refine lv_iconst (v := (0 : Int32)) C.1.1 C.1.2.1 dL_law__1239 rfl ?_
      have g189 := inb_in (o_g hf).1
      have hf := (o_g hf).2
      refine l_ald C hw lM_27 hnL g189 dL_law__1240 ?_
      refine lv_iload C.1.1 C.1.2.1 dL_law__1241 (lv_at hl 0 rfl) ?_
      refine lv_i2l (v := (Int32.toInt64 q185.2)) C.1.1 C.1.2.1 dL_law__1243 rfl ?_
      refine W.lcmp C.1.1 C.1.2.1 dL_law__1244 ?_
      refine lv_if_eq (tgt := 1250) C.1.1 C.1.2.1 dL_law__1245 (by decide) (fun c190 => ?_) (fun c190 => ?_)
      · have hf := o_t hf c190
        refine lv_goto (tgt := 2364) C.1.1 C.1.2.1 dL_law__1250 (by decide) ?_
        refine lv_iinc (v := (x4 + (9 : Int32))) (lv' := [(4, .int (x4 + (9 : Int32))), (6, .int q185.2), (5, .int q183.2.2), (0, .ref b), (1, .ref (gA G 0)), (2, .ref (gA G (41 + 0))), (3, .ref (gA G (41 + 27)))]) C.1.1 C.1.2.1 dL_law__2364 hl (k := 6) rfl rfl (by decide) rfl (fun ls hl => ?_)
        refine lv_goto (tgt := 23) C.1.1 C.1.2.1 dL_law__2367 (by decide) ?_
        exact hk_23 q183.1 q185.1 q183.2.1 (x4 + (9 : Int32)) _ _ _ _ _ (by omega) (by omega) hw (lv_sub hl [3, 4, 5, 6, 0] rfl) hf
      · have hf := o_f hf c190
        refine lv_iconst (v := (0 : Int32)) C.1.1 C.1.2.1 dL_law__1248 rfl ?_
        exact absurd (Option.some.inj hf) (by decide)
  · have hf := o_f hf c187
    refine lv_iconst (v := (0 : Int32)) C.1.1 C.1.2.1 dL_law__1231 rfl ?_
    exact absurd (Option.some.inj hf) (by decide)
set_option maxRecDepth 20000 in
set_option maxHeartbeats 4000000 in
theorem wB_law_1253 {G : GP} {l : Launch} {p : Program} {e : Env} {s : State} {m : MethodId} {below : List Frame} {meth : Method} {c : Code} {b Lth : Nat} {xs : Nat → Int32} (C : Cx G p s m #[Value.ref b] c cL_law_ 8 RL) (hr : meth.sig.returnType = ret) (hlk : meth.locks = false) (hst : l.stackTraces = false) (hnL : 41 + 27 < gN G) (hX : va_X b Lth xs s s.heap) (hbl : b < s.heap.size) (hbA : ¬ AB G b) (hBs : gB G = s.heap.size) {cB sB : Nat} (hcB : cB ≤ 601024) (hsB : sB ≤ 7293033) {k_23 : TX → TX → TL → Int32 → Option Int32} (hk_23 : ∀ (X : TX) (M : TX) (L : TL) (x4 : Int32) (cells slots : Nat) (H : Heap) (locs : List Loc) (ls : Array Slot), cells ≤ cB → slots ≤ sB → Wh G s X M L H locs → lv_has ls 8 [(0, .ref b), (1, .ref (gA G 0)), (2, .ref (gA G (41 + 0))), (3, .ref (gA G (41 + 27))), (4, .int x4)] → k_23 X M L x4 = some (1 : Int32) → W p l e room_1 s m #[Value.ref b] below meth c H locs cells slots (lw_Z below #[Value.ref b] s) (F0 m 23 ls [])) : ∀ (X : TX) (M : TX) (L : TL) (x4 : Int32) (cells slots : Nat) (H : Heap) (locs : List Loc) (ls : Array Slot), cells + 4 ≤ cB → slots + 24 ≤ sB → Wh G s X M L H locs → lv_has ls 8 [(0, .ref b), (1, .ref (gA G 0)), (2, .ref (gA G (41 + 0))), (3, .ref (gA G (41 + 27))), (4, .int x4)] → B_law_1253 xs Lth k_23 X M L x4 = some (1 : Int32) → W p l e room_1 s m #[Value.ref b] below meth c H locs cells slots (lw_Z below #[Value.ref b] s) (F0 m 1253 ls []) := by
  intro X M L x4 cells slots H locs ls hc hs hw hl hf
  unfold B_law_1253 at hf
  refine lv_aload_n C.1.1 C.1.2.1 dL_law__1253 rfl (lv_at hl 1 rfl) ?_
  refine lv_aload_n C.1.1 C.1.2.1 dL_law__1254 rfl (lv_at hl 0 rfl) ?_
  refine lv_iload C.1.1 C.1.2.1 dL_law__1255 (lv_at hl 4 rfl) ?_
  refine lv_iconst (v := (1 : Int32)) C.1.1 C.1.2.1 dL_law__1257 rfl ?_
  refine lv_iadd C.1.1 C.1.2.1 dL_law__1258 ?_
  have g192 := inb_in (o_g hf).1
  have hf := (o_g hf).2
  refine va_sld C.1.1 C.1.2.1 hX hbl hbA hw.2 g192 dL_law__1259 ?_
  refine lv_aload_n C.1.1 C.1.2.1 dL_law__1260 rfl (lv_at hl 0 rfl) ?_
  refine lv_iload C.1.1 C.1.2.1 dL_law__1261 (lv_at hl 4 rfl) ?_
  refine lv_iconst (v := (2 : Int32)) C.1.1 C.1.2.1 dL_law__1263 rfl ?_
  refine lv_iadd C.1.1 C.1.2.1 dL_law__1264 ?_
  have g193 := inb_in (o_g hf).1
  have hf := (o_g hf).2
  refine va_sld C.1.1 C.1.2.1 hX hbl hbA hw.2 g193 dL_law__1265 ?_
  refine lv_aload_n C.1.1 C.1.2.1 dL_law__1266 rfl (lv_at hl 3 rfl) ?_
  obtain ⟨q194, h194, hf⟩ := o_bind hf
  refine x_wrap (np := 4) C hw ⟨(tb5 108 rfl rfl), (tb5 109 rfl rfl), (tb1 0 rfl rfl), (tb5 110 rfl rfl)⟩ (As := [.ref (gA G 0), .int (xs (Int32.toNatClampNeg (x4 + (1 : Int32)))), .int (xs (Int32.toNatClampNeg (x4 + (2 : Int32)))), .ref (gA G (41 + 27))]) (rest := []) (c_L_reigns hst hnL h194) (by decide +kernel) hl.1 rfl ⟨Nat.le_of_ble_eq_true rfl, Nat.le_of_ble_eq_true rfl⟩ ⟨by show cells + 2 ≤ 601024; omega, by show slots + 6 * 2 ≤ 7293033; omega⟩ rfl (Nat.le_of_ble_eq_true rfl) dL_law__1267 (fun H locs hw => ?_)
  refine lv_istore (lv' := [(5, .int q194.2.2), (0, .ref b), (1, .ref (gA G 0)), (2, .ref (gA G (41 + 0))), (3, .ref (gA G (41 + 27))), (4, .int x4)]) C.1.1 C.1.2.1 dL_law__1270 hl (by decide) rfl (fun ls hl => ?_)
  refine lv_aload_n C.1.1 C.1.2.1 dL_law__1272 rfl (lv_at hl 3 rfl) ?_
  refine lv_aload_n C.1.1 C.1.2.1 dL_law__1273 rfl (lv_at hl 1 rfl) ?_
  refine lv_iload C.1.1 C.1.2.1 dL_law__1274 (lv_at hl 5 rfl) ?_
  refine lv_iconst (v := (1 : Int32)) C.1.1 C.1.2.1 dL_law__1276 rfl ?_
  refine lv_iadd C.1.1 C.1.2.1 dL_law__1277 ?_
  have g195 := inb_in (o_g hf).1
  have hf := (o_g hf).2
  refine va_sld C.1.1 C.1.2.1 hX hbl hbA hw.2 g195 dL_law__1278 ?_
  refine lv_aload_n C.1.1 C.1.2.1 dL_law__1279 rfl (lv_at hl 1 rfl) ?_
  refine lv_iload C.1.1 C.1.2.1 dL_law__1280 (lv_at hl 5 rfl) ?_
  refine lv_iconst (v := (2 : Int32)) C.1.1 C.1.2.1 dL_law__1282 rfl ?_
  refine lv_iadd C.1.1 C.1.2.1 dL_law__1283 ?_
  have g196 := inb_in (o_g hf).1
  have hf := (o_g hf).2
  refine va_sld C.1.1 C.1.2.1 hX hbl hbA hw.2 g196 dL_law__1284 ?_
  obtain ⟨q197, h197, hf⟩ := o_bind hf
  refine aft_i hw (run_VM C hw clL_176 (As := [.int (xs (Int32.toNatClampNeg (x4 + (1 : Int32)))), .int (xs (Int32.toNatClampNeg (x4 + (2 : Int32))))]) (rest := []) oM_0 (c_X9_reigns h197) rfl hl.1 rfl ⟨Nat.le_of_ble_eq_true rfl, Nat.le_of_ble_eq_true rfl⟩ ⟨by show cells + 2 ≤ 601024; omega, by show slots + 6 * 2 ≤ 7293033; omega⟩ rfl (Nat.le_of_ble_eq_true rfl) dL_law__1285) (fun H locs hw => ?_)
  refine lv_istore (lv' := [(6, .int q197.2), (5, .int q194.2.2), (0, .ref b), (1, .ref (gA G 0)), (2, .ref (gA G (41 + 0))), (3, .ref (gA G (41 + 27))), (4, .int x4)]) C.1.1 C.1.2.1 dL_law__1288 hl (by decide) rfl (fun ls hl => ?_)
  refine lv_aload_n C.1.1 C.1.2.1 dL_law__1290 rfl (lv_at hl 4 rfl) ?_
  obtain ⟨q198, h198, hf⟩ := o_bind hf
  refine aft_i hw (run_VM C hw clL_121 (As := []) (rest := []) oM_0 (c_X9_thrown h198) rfl hl.1 rfl ⟨Nat.le_of_ble_eq_true rfl, Nat.le_of_ble_eq_true rfl⟩ ⟨by show cells + 2 ≤ 601024; omega, by show slots + 6 * 2 ≤ 7293033; omega⟩ rfl (Nat.le_of_ble_eq_true rfl) dL_law__1291) (fun H locs hw => ?_)
  refine lv_iload C.1.1 C.1.2.1 dL_law__1294 (lv_at hl 1 rfl) ?_
  refine lv_icmp_eq (tgt := 1301) C.1.1 C.1.2.1 dL_law__1296 (by decide) (fun c199 => ?_) (fun c199 => ?_)
  · have hf := o_t hf c199
    refine lv_iload C.1.1 C.1.2.1 dL_law__1301 (lv_at hl 1 rfl) ?_
    refine lv_if_ne (tgt := 1318) C.1.1 C.1.2.1 dL_law__1303 (by decide) (fun c200 => ?_) (fun c200 => ?_)
    · have hf := o_f hf c200
      refine lv_goto (tgt := 2364) C.1.1 C.1.2.1 dL_law__1318 (by decide) ?_
      refine lv_iinc (v := (x4 + (9 : Int32))) (lv' := [(4, .int (x4 + (9 : Int32))), (6, .int q197.2), (5, .int q194.2.2), (0, .ref b), (1, .ref (gA G 0)), (2, .ref (gA G (41 + 0))), (3, .ref (gA G (41 + 27)))]) C.1.1 C.1.2.1 dL_law__2364 hl (k := 6) rfl rfl (by decide) rfl (fun ls hl => ?_)
      refine lv_goto (tgt := 23) C.1.1 C.1.2.1 dL_law__2367 (by decide) ?_
      exact hk_23 q194.1 q197.1 q194.2.1 (x4 + (9 : Int32)) _ _ _ _ _ (by omega) (by omega) hw (lv_sub hl [3, 4, 5, 6, 0] rfl) hf
    · have hf := o_t hf c200
      refine lv_aload_n C.1.1 C.1.2.1 dL_law__1306 rfl (lv_at hl 5 rfl) ?_
      refine lv_iconst (v := (0 : Int32)) C.1.1 C.1.2.1 dL_law__1307 rfl ?_
      have g201 := inb_in (o_g hf).1
      have hf := (o_g hf).2
      refine l_ald C hw lM_27 hnL g201 dL_law__1308 ?_
      refine lv_iload C.1.1 C.1.2.1 dL_law__1309 (lv_at hl 0 rfl) ?_
      refine lv_i2l (v := (Int32.toInt64 q197.2)) C.1.1 C.1.2.1 dL_law__1311 rfl ?_
      refine W.lcmp C.1.1 C.1.2.1 dL_law__1312 ?_
      refine lv_if_eq (tgt := 1318) C.1.1 C.1.2.1 dL_law__1313 (by decide) (fun c202 => ?_) (fun c202 => ?_)
      · have hf := o_t hf c202
        refine lv_goto (tgt := 2364) C.1.1 C.1.2.1 dL_law__1318 (by decide) ?_
        refine lv_iinc (v := (x4 + (9 : Int32))) (lv' := [(4, .int (x4 + (9 : Int32))), (6, .int q197.2), (5, .int q194.2.2), (0, .ref b), (1, .ref (gA G 0)), (2, .ref (gA G (41 + 0))), (3, .ref (gA G (41 + 27)))]) C.1.1 C.1.2.1 dL_law__2364 hl (k := 6) rfl rfl (by decide) rfl (fun ls hl => ?_)
        refine lv_goto (tgt := 23) C.1.1 C.1.2.1 dL_law__2367 (by decide) ?_
        exact hk_23 q194.1 q197.1 q194.2.1 (x4 + (9 : Int32)) _ _ _ _ _ (by omega) (by omega) hw (lv_sub hl [3, 4, 5, 6, 0] rfl) hf
      · have hf := o_f hf c202
        refine lv_iconst (v := (0 : Int32)) C.1.1 C.1.2.1 dL_law__1316 rfl ?_
        exact absurd (Option.some.inj hf) (by decide)
  · have hf := o_f hf c199
    refine lv_iconst (v := (0 : Int32)) C.1.1 C.1.2.1 dL_law__1299 rfl ?_
    exact absurd (Option.some.inj hf) (by decide)
set_option maxRecDepth 20000 in
set_option maxHeartbeats 4000000 in
theorem wB_law_1321 {G : GP} {l : Launch} {p : Program} {e : Env} {s : State} {m : MethodId} {below : List Frame} {meth : Method} {c : Code} {b Lth : Nat} {xs : Nat → Int32} (C : Cx G p s m #[Value.ref b] c cL_law_ 8 RL) (hr : meth.sig.returnType = ret) (hlk : meth.locks = false) (hst : l.stackTraces = false) (hnL : 41 + 27 < gN G) (hX : va_X b Lth xs s s.heap) (hbl : b < s.heap.size) (hbA : ¬ AB G b) (hBs : gB G = s.heap.size) {cB sB : Nat} (hcB : cB ≤ 601024) (hsB : sB ≤ 7293033) {k_23 : TX → TX → TL → Int32 → Option Int32} (hk_23 : ∀ (X : TX) (M : TX) (L : TL) (x4 : Int32) (cells slots : Nat) (H : Heap) (locs : List Loc) (ls : Array Slot), cells ≤ cB → slots ≤ sB → Wh G s X M L H locs → lv_has ls 8 [(0, .ref b), (1, .ref (gA G 0)), (2, .ref (gA G (41 + 0))), (3, .ref (gA G (41 + 27))), (4, .int x4)] → k_23 X M L x4 = some (1 : Int32) → W p l e room_1 s m #[Value.ref b] below meth c H locs cells slots (lw_Z below #[Value.ref b] s) (F0 m 23 ls [])) : ∀ (X : TX) (M : TX) (L : TL) (x4 : Int32) (cells slots : Nat) (H : Heap) (locs : List Loc) (ls : Array Slot), cells + 4 ≤ cB → slots + 24 ≤ sB → Wh G s X M L H locs → lv_has ls 8 [(0, .ref b), (1, .ref (gA G 0)), (2, .ref (gA G (41 + 0))), (3, .ref (gA G (41 + 27))), (4, .int x4)] → B_law_1321 xs Lth k_23 X M L x4 = some (1 : Int32) → W p l e room_1 s m #[Value.ref b] below meth c H locs cells slots (lw_Z below #[Value.ref b] s) (F0 m 1321 ls []) := by
  intro X M L x4 cells slots H locs ls hc hs hw hl hf
  unfold B_law_1321 at hf
  refine lv_aload_n C.1.1 C.1.2.1 dL_law__1321 rfl (lv_at hl 1 rfl) ?_
  refine lv_aload_n C.1.1 C.1.2.1 dL_law__1322 rfl (lv_at hl 0 rfl) ?_
  refine lv_iload C.1.1 C.1.2.1 dL_law__1323 (lv_at hl 4 rfl) ?_
  refine lv_iconst (v := (1 : Int32)) C.1.1 C.1.2.1 dL_law__1325 rfl ?_
  refine lv_iadd C.1.1 C.1.2.1 dL_law__1326 ?_
  have g204 := inb_in (o_g hf).1
  have hf := (o_g hf).2
  refine va_sld C.1.1 C.1.2.1 hX hbl hbA hw.2 g204 dL_law__1327 ?_
  refine lv_aload_n C.1.1 C.1.2.1 dL_law__1328 rfl (lv_at hl 3 rfl) ?_
  obtain ⟨q205, h205, hf⟩ := o_bind hf
  refine x_wrap (np := 3) C hw ⟨(tb5 130 rfl rfl), (tb5 131 rfl rfl), (tb1 0 rfl rfl), (tb5 132 rfl rfl)⟩ (As := [.ref (gA G 0), .int (xs (Int32.toNatClampNeg (x4 + (1 : Int32)))), .ref (gA G (41 + 27))]) (rest := []) (c_L_round hst hnL h205) (by decide +kernel) hl.1 rfl ⟨Nat.le_of_ble_eq_true rfl, Nat.le_of_ble_eq_true rfl⟩ ⟨by show cells + 1 ≤ 601024; omega, by show slots + 6 * 1 ≤ 7293033; omega⟩ rfl (Nat.le_of_ble_eq_true rfl) dL_law__1329 (fun H locs hw => ?_)
  refine lv_istore (lv' := [(5, .int q205.2.2), (0, .ref b), (1, .ref (gA G 0)), (2, .ref (gA G (41 + 0))), (3, .ref (gA G (41 + 27))), (4, .int x4)]) C.1.1 C.1.2.1 dL_law__1332 hl (by decide) rfl (fun ls hl => ?_)
  refine lv_aload_n C.1.1 C.1.2.1 dL_law__1334 rfl (lv_at hl 3 rfl) ?_
  refine lv_aload_n C.1.1 C.1.2.1 dL_law__1335 rfl (lv_at hl 1 rfl) ?_
  refine lv_iload C.1.1 C.1.2.1 dL_law__1336 (lv_at hl 5 rfl) ?_
  refine lv_iconst (v := (1 : Int32)) C.1.1 C.1.2.1 dL_law__1338 rfl ?_
  refine lv_iadd C.1.1 C.1.2.1 dL_law__1339 ?_
  have g206 := inb_in (o_g hf).1
  have hf := (o_g hf).2
  refine va_sld C.1.1 C.1.2.1 hX hbl hbA hw.2 g206 dL_law__1340 ?_
  obtain ⟨q207, h207, hf⟩ := o_bind hf
  refine aft_i hw (run_VM C hw clL_179 (As := [.int (xs (Int32.toNatClampNeg (x4 + (1 : Int32))))]) (rest := []) oM_0 (c_X9_round h207) rfl hl.1 rfl ⟨Nat.le_of_ble_eq_true rfl, Nat.le_of_ble_eq_true rfl⟩ ⟨by show cells + 1 ≤ 601024; omega, by show slots + 6 * 1 ≤ 7293033; omega⟩ rfl (Nat.le_of_ble_eq_true rfl) dL_law__1341) (fun H locs hw => ?_)
  refine lv_istore (lv' := [(6, .int q207.2), (5, .int q205.2.2), (0, .ref b), (1, .ref (gA G 0)), (2, .ref (gA G (41 + 0))), (3, .ref (gA G (41 + 27))), (4, .int x4)]) C.1.1 C.1.2.1 dL_law__1344 hl (by decide) rfl (fun ls hl => ?_)
  refine lv_aload_n C.1.1 C.1.2.1 dL_law__1346 rfl (lv_at hl 4 rfl) ?_
  obtain ⟨q208, h208, hf⟩ := o_bind hf
  refine aft_i hw (run_VM C hw clL_121 (As := []) (rest := []) oM_0 (c_X9_thrown h208) rfl hl.1 rfl ⟨Nat.le_of_ble_eq_true rfl, Nat.le_of_ble_eq_true rfl⟩ ⟨by show cells + 1 ≤ 601024; omega, by show slots + 6 * 1 ≤ 7293033; omega⟩ rfl (Nat.le_of_ble_eq_true rfl) dL_law__1347) (fun H locs hw => ?_)
  refine lv_iload C.1.1 C.1.2.1 dL_law__1350 (lv_at hl 1 rfl) ?_
  refine lv_icmp_eq (tgt := 1357) C.1.1 C.1.2.1 dL_law__1352 (by decide) (fun c209 => ?_) (fun c209 => ?_)
  · have hf := o_t hf c209
    refine lv_iload C.1.1 C.1.2.1 dL_law__1357 (lv_at hl 1 rfl) ?_
    refine lv_if_ne (tgt := 1374) C.1.1 C.1.2.1 dL_law__1359 (by decide) (fun c210 => ?_) (fun c210 => ?_)
    · have hf := o_f hf c210
      refine lv_goto (tgt := 2364) C.1.1 C.1.2.1 dL_law__1374 (by decide) ?_
      refine lv_iinc (v := (x4 + (9 : Int32))) (lv' := [(4, .int (x4 + (9 : Int32))), (6, .int q207.2), (5, .int q205.2.2), (0, .ref b), (1, .ref (gA G 0)), (2, .ref (gA G (41 + 0))), (3, .ref (gA G (41 + 27)))]) C.1.1 C.1.2.1 dL_law__2364 hl (k := 6) rfl rfl (by decide) rfl (fun ls hl => ?_)
      refine lv_goto (tgt := 23) C.1.1 C.1.2.1 dL_law__2367 (by decide) ?_
      exact hk_23 q205.1 q207.1 q205.2.1 (x4 + (9 : Int32)) _ _ _ _ _ (by omega) (by omega) hw (lv_sub hl [3, 4, 5, 6, 0] rfl) hf
    · have hf := o_t hf c210
      refine lv_aload_n C.1.1 C.1.2.1 dL_law__1362 rfl (lv_at hl 5 rfl) ?_
      refine lv_iconst (v := (0 : Int32)) C.1.1 C.1.2.1 dL_law__1363 rfl ?_
      have g211 := inb_in (o_g hf).1
      have hf := (o_g hf).2
      refine l_ald C hw lM_27 hnL g211 dL_law__1364 ?_
      refine lv_iload C.1.1 C.1.2.1 dL_law__1365 (lv_at hl 0 rfl) ?_
      refine lv_i2l (v := (Int32.toInt64 q207.2)) C.1.1 C.1.2.1 dL_law__1367 rfl ?_
      refine W.lcmp C.1.1 C.1.2.1 dL_law__1368 ?_
      refine lv_if_eq (tgt := 1374) C.1.1 C.1.2.1 dL_law__1369 (by decide) (fun c212 => ?_) (fun c212 => ?_)
      · have hf := o_t hf c212
        refine lv_goto (tgt := 2364) C.1.1 C.1.2.1 dL_law__1374 (by decide) ?_
        refine lv_iinc (v := (x4 + (9 : Int32))) (lv' := [(4, .int (x4 + (9 : Int32))), (6, .int q207.2), (5, .int q205.2.2), (0, .ref b), (1, .ref (gA G 0)), (2, .ref (gA G (41 + 0))), (3, .ref (gA G (41 + 27)))]) C.1.1 C.1.2.1 dL_law__2364 hl (k := 6) rfl rfl (by decide) rfl (fun ls hl => ?_)
        refine lv_goto (tgt := 23) C.1.1 C.1.2.1 dL_law__2367 (by decide) ?_
        exact hk_23 q205.1 q207.1 q205.2.1 (x4 + (9 : Int32)) _ _ _ _ _ (by omega) (by omega) hw (lv_sub hl [3, 4, 5, 6, 0] rfl) hf
      · have hf := o_f hf c212
        refine lv_iconst (v := (0 : Int32)) C.1.1 C.1.2.1 dL_law__1372 rfl ?_
        exact absurd (Option.some.inj hf) (by decide)
  · have hf := o_f hf c209
    refine lv_iconst (v := (0 : Int32)) C.1.1 C.1.2.1 dL_law__1355 rfl ?_
    exact absurd (Option.some.inj hf) (by decide)
set_option maxRecDepth 20000 in
set_option maxHeartbeats 4000000 in
theorem wB_law_1377 {G : GP} {l : Launch} {p : Program} {e : Env} {s : State} {m : MethodId} {below : List Frame} {meth : Method} {c : Code} {b Lth : Nat} {xs : Nat → Int32} (C : Cx G p s m #[Value.ref b] c cL_law_ 8 RL) (hr : meth.sig.returnType = ret) (hlk : meth.locks = false) (hst : l.stackTraces = false) (hnL : 41 + 27 < gN G) (hX : va_X b Lth xs s s.heap) (hbl : b < s.heap.size) (hbA : ¬ AB G b) (hBs : gB G = s.heap.size) {cB sB : Nat} (hcB : cB ≤ 601024) (hsB : sB ≤ 7293033) {k_23 : TX → TX → TL → Int32 → Option Int32} (hk_23 : ∀ (X : TX) (M : TX) (L : TL) (x4 : Int32) (cells slots : Nat) (H : Heap) (locs : List Loc) (ls : Array Slot), cells ≤ cB → slots ≤ sB → Wh G s X M L H locs → lv_has ls 8 [(0, .ref b), (1, .ref (gA G 0)), (2, .ref (gA G (41 + 0))), (3, .ref (gA G (41 + 27))), (4, .int x4)] → k_23 X M L x4 = some (1 : Int32) → W p l e room_1 s m #[Value.ref b] below meth c H locs cells slots (lw_Z below #[Value.ref b] s) (F0 m 23 ls [])) : ∀ (X : TX) (M : TX) (L : TL) (x4 : Int32) (cells slots : Nat) (H : Heap) (locs : List Loc) (ls : Array Slot), cells + 4 ≤ cB → slots + 24 ≤ sB → Wh G s X M L H locs → lv_has ls 8 [(0, .ref b), (1, .ref (gA G 0)), (2, .ref (gA G (41 + 0))), (3, .ref (gA G (41 + 27))), (4, .int x4)] → B_law_1377 xs Lth k_23 X M L x4 = some (1 : Int32) → W p l e room_1 s m #[Value.ref b] below meth c H locs cells slots (lw_Z below #[Value.ref b] s) (F0 m 1377 ls []) := by
  intro X M L x4 cells slots H locs ls hc hs hw hl hf
  unfold B_law_1377 at hf
  refine lv_aload_n C.1.1 C.1.2.1 dL_law__1377 rfl (lv_at hl 1 rfl) ?_
  refine lv_aload_n C.1.1 C.1.2.1 dL_law__1378 rfl (lv_at hl 0 rfl) ?_
  refine lv_iload C.1.1 C.1.2.1 dL_law__1379 (lv_at hl 4 rfl) ?_
  refine lv_iconst (v := (1 : Int32)) C.1.1 C.1.2.1 dL_law__1381 rfl ?_
  refine lv_iadd C.1.1 C.1.2.1 dL_law__1382 ?_
  have g214 := inb_in (o_g hf).1
  have hf := (o_g hf).2
  refine va_sld C.1.1 C.1.2.1 hX hbl hbA hw.2 g214 dL_law__1383 ?_
  refine lv_aload_n C.1.1 C.1.2.1 dL_law__1384 rfl (lv_at hl 3 rfl) ?_
  obtain ⟨q215, h215, hf⟩ := o_bind hf
  refine x_wrap (np := 3) C hw ⟨(tb5 147 rfl rfl), (tb5 148 rfl rfl), (tb1 0 rfl rfl), (tb5 149 rfl rfl)⟩ (As := [.ref (gA G 0), .int (xs (Int32.toNatClampNeg (x4 + (1 : Int32)))), .ref (gA G (41 + 27))]) (rest := []) (c_L_swing hst hnL h215) (by decide +kernel) hl.1 rfl ⟨Nat.le_of_ble_eq_true rfl, Nat.le_of_ble_eq_true rfl⟩ ⟨by show cells + 1 ≤ 601024; omega, by show slots + 6 * 1 ≤ 7293033; omega⟩ rfl (Nat.le_of_ble_eq_true rfl) dL_law__1385 (fun H locs hw => ?_)
  refine lv_istore (lv' := [(5, .int q215.2.2), (0, .ref b), (1, .ref (gA G 0)), (2, .ref (gA G (41 + 0))), (3, .ref (gA G (41 + 27))), (4, .int x4)]) C.1.1 C.1.2.1 dL_law__1388 hl (by decide) rfl (fun ls hl => ?_)
  refine lv_aload_n C.1.1 C.1.2.1 dL_law__1390 rfl (lv_at hl 3 rfl) ?_
  refine lv_aload_n C.1.1 C.1.2.1 dL_law__1391 rfl (lv_at hl 1 rfl) ?_
  refine lv_iload C.1.1 C.1.2.1 dL_law__1392 (lv_at hl 5 rfl) ?_
  refine lv_iconst (v := (1 : Int32)) C.1.1 C.1.2.1 dL_law__1394 rfl ?_
  refine lv_iadd C.1.1 C.1.2.1 dL_law__1395 ?_
  have g216 := inb_in (o_g hf).1
  have hf := (o_g hf).2
  refine va_sld C.1.1 C.1.2.1 hX hbl hbA hw.2 g216 dL_law__1396 ?_
  obtain ⟨q217, h217, hf⟩ := o_bind hf
  refine aft_i hw (run_VM C hw clL_182 (As := [.int (xs (Int32.toNatClampNeg (x4 + (1 : Int32))))]) (rest := []) oM_0 (c_X9_swing h217) rfl hl.1 rfl ⟨Nat.le_of_ble_eq_true rfl, Nat.le_of_ble_eq_true rfl⟩ ⟨by show cells + 1 ≤ 601024; omega, by show slots + 6 * 1 ≤ 7293033; omega⟩ rfl (Nat.le_of_ble_eq_true rfl) dL_law__1397) (fun H locs hw => ?_)
  refine lv_istore (lv' := [(6, .int q217.2), (5, .int q215.2.2), (0, .ref b), (1, .ref (gA G 0)), (2, .ref (gA G (41 + 0))), (3, .ref (gA G (41 + 27))), (4, .int x4)]) C.1.1 C.1.2.1 dL_law__1400 hl (by decide) rfl (fun ls hl => ?_)
  refine lv_aload_n C.1.1 C.1.2.1 dL_law__1402 rfl (lv_at hl 4 rfl) ?_
  obtain ⟨q218, h218, hf⟩ := o_bind hf
  refine aft_i hw (run_VM C hw clL_121 (As := []) (rest := []) oM_0 (c_X9_thrown h218) rfl hl.1 rfl ⟨Nat.le_of_ble_eq_true rfl, Nat.le_of_ble_eq_true rfl⟩ ⟨by show cells + 1 ≤ 601024; omega, by show slots + 6 * 1 ≤ 7293033; omega⟩ rfl (Nat.le_of_ble_eq_true rfl) dL_law__1403) (fun H locs hw => ?_)
  refine lv_iload C.1.1 C.1.2.1 dL_law__1406 (lv_at hl 1 rfl) ?_
  refine lv_icmp_eq (tgt := 1413) C.1.1 C.1.2.1 dL_law__1408 (by decide) (fun c219 => ?_) (fun c219 => ?_)
  · have hf := o_t hf c219
    refine lv_iload C.1.1 C.1.2.1 dL_law__1413 (lv_at hl 1 rfl) ?_
    refine lv_if_ne (tgt := 1430) C.1.1 C.1.2.1 dL_law__1415 (by decide) (fun c220 => ?_) (fun c220 => ?_)
    · have hf := o_f hf c220
      refine lv_goto (tgt := 2364) C.1.1 C.1.2.1 dL_law__1430 (by decide) ?_
      refine lv_iinc (v := (x4 + (9 : Int32))) (lv' := [(4, .int (x4 + (9 : Int32))), (6, .int q217.2), (5, .int q215.2.2), (0, .ref b), (1, .ref (gA G 0)), (2, .ref (gA G (41 + 0))), (3, .ref (gA G (41 + 27)))]) C.1.1 C.1.2.1 dL_law__2364 hl (k := 6) rfl rfl (by decide) rfl (fun ls hl => ?_)
      refine lv_goto (tgt := 23) C.1.1 C.1.2.1 dL_law__2367 (by decide) ?_
      exact hk_23 q215.1 q217.1 q215.2.1 (x4 + (9 : Int32)) _ _ _ _ _ (by omega) (by omega) hw (lv_sub hl [3, 4, 5, 6, 0] rfl) hf
    · have hf := o_t hf c220
      refine lv_aload_n C.1.1 C.1.2.1 dL_law__1418 rfl (lv_at hl 5 rfl) ?_
      refine lv_iconst (v := (0 : Int32)) C.1.1 C.1.2.1 dL_law__1419 rfl ?_
      have g221 := inb_in (o_g hf).1
      have hf := (o_g hf).2
      refine l_ald C hw lM_27 hnL g221 dL_law__1420 ?_
      refine lv_iload C.1.1 C.1.2.1 dL_law__1421 (lv_at hl 0 rfl) ?_
      refine lv_i2l (v := (Int32.toInt64 q217.2)) C.1.1 C.1.2.1 dL_law__1423 rfl ?_
      refine W.lcmp C.1.1 C.1.2.1 dL_law__1424 ?_
      refine lv_if_eq (tgt := 1430) C.1.1 C.1.2.1 dL_law__1425 (by decide) (fun c222 => ?_) (fun c222 => ?_)
      · have hf := o_t hf c222
        refine lv_goto (tgt := 2364) C.1.1 C.1.2.1 dL_law__1430 (by decide) ?_
        refine lv_iinc (v := (x4 + (9 : Int32))) (lv' := [(4, .int (x4 + (9 : Int32))), (6, .int q217.2), (5, .int q215.2.2), (0, .ref b), (1, .ref (gA G 0)), (2, .ref (gA G (41 + 0))), (3, .ref (gA G (41 + 27)))]) C.1.1 C.1.2.1 dL_law__2364 hl (k := 6) rfl rfl (by decide) rfl (fun ls hl => ?_)
        refine lv_goto (tgt := 23) C.1.1 C.1.2.1 dL_law__2367 (by decide) ?_
        exact hk_23 q215.1 q217.1 q215.2.1 (x4 + (9 : Int32)) _ _ _ _ _ (by omega) (by omega) hw (lv_sub hl [3, 4, 5, 6, 0] rfl) hf
      · have hf := o_f hf c222
        refine lv_iconst (v := (0 : Int32)) C.1.1 C.1.2.1 dL_law__1428 rfl ?_
        exact absurd (Option.some.inj hf) (by decide)
  · have hf := o_f hf c219
    refine lv_iconst (v := (0 : Int32)) C.1.1 C.1.2.1 dL_law__1411 rfl ?_
    exact absurd (Option.some.inj hf) (by decide)
set_option maxRecDepth 20000 in
set_option maxHeartbeats 4000000 in
theorem wB_law_1433 {G : GP} {l : Launch} {p : Program} {e : Env} {s : State} {m : MethodId} {below : List Frame} {meth : Method} {c : Code} {b Lth : Nat} {xs : Nat → Int32} (C : Cx G p s m #[Value.ref b] c cL_law_ 8 RL) (hr : meth.sig.returnType = ret) (hlk : meth.locks = false) (hst : l.stackTraces = false) (hnL : 41 + 27 < gN G) (hX : va_X b Lth xs s s.heap) (hbl : b < s.heap.size) (hbA : ¬ AB G b) (hBs : gB G = s.heap.size) {cB sB : Nat} (hcB : cB ≤ 601024) (hsB : sB ≤ 7293033) {k_23 : TX → TX → TL → Int32 → Option Int32} (hk_23 : ∀ (X : TX) (M : TX) (L : TL) (x4 : Int32) (cells slots : Nat) (H : Heap) (locs : List Loc) (ls : Array Slot), cells ≤ cB → slots ≤ sB → Wh G s X M L H locs → lv_has ls 8 [(0, .ref b), (1, .ref (gA G 0)), (2, .ref (gA G (41 + 0))), (3, .ref (gA G (41 + 27))), (4, .int x4)] → k_23 X M L x4 = some (1 : Int32) → W p l e room_1 s m #[Value.ref b] below meth c H locs cells slots (lw_Z below #[Value.ref b] s) (F0 m 23 ls [])) : ∀ (X : TX) (M : TX) (L : TL) (x4 : Int32) (cells slots : Nat) (H : Heap) (locs : List Loc) (ls : Array Slot), cells + 4 ≤ cB → slots + 24 ≤ sB → Wh G s X M L H locs → lv_has ls 8 [(0, .ref b), (1, .ref (gA G 0)), (2, .ref (gA G (41 + 0))), (3, .ref (gA G (41 + 27))), (4, .int x4)] → B_law_1433 xs Lth k_23 X M L x4 = some (1 : Int32) → W p l e room_1 s m #[Value.ref b] below meth c H locs cells slots (lw_Z below #[Value.ref b] s) (F0 m 1433 ls []) := by
  intro X M L x4 cells slots H locs ls hc hs hw hl hf
  unfold B_law_1433 at hf
  refine lv_aload_n C.1.1 C.1.2.1 dL_law__1433 rfl (lv_at hl 1 rfl) ?_
  refine lv_aload_n C.1.1 C.1.2.1 dL_law__1434 rfl (lv_at hl 0 rfl) ?_
  refine lv_iload C.1.1 C.1.2.1 dL_law__1435 (lv_at hl 4 rfl) ?_
  refine lv_iconst (v := (1 : Int32)) C.1.1 C.1.2.1 dL_law__1437 rfl ?_
  refine lv_iadd C.1.1 C.1.2.1 dL_law__1438 ?_
  have g224 := inb_in (o_g hf).1
  have hf := (o_g hf).2
  refine va_sld C.1.1 C.1.2.1 hX hbl hbA hw.2 g224 dL_law__1439 ?_
  refine lv_aload_n C.1.1 C.1.2.1 dL_law__1440 rfl (lv_at hl 0 rfl) ?_
  refine lv_iload C.1.1 C.1.2.1 dL_law__1441 (lv_at hl 4 rfl) ?_
  refine lv_iconst (v := (2 : Int32)) C.1.1 C.1.2.1 dL_law__1443 rfl ?_
  refine lv_iadd C.1.1 C.1.2.1 dL_law__1444 ?_
  have g225 := inb_in (o_g hf).1
  have hf := (o_g hf).2
  refine va_sld C.1.1 C.1.2.1 hX hbl hbA hw.2 g225 dL_law__1445 ?_
  refine lv_aload_n C.1.1 C.1.2.1 dL_law__1446 rfl (lv_at hl 3 rfl) ?_
  obtain ⟨q226, h226, hf⟩ := o_bind hf
  refine x_wrap (np := 4) C hw ⟨(tb5 158 rfl rfl), (tb5 159 rfl rfl), (tb1 0 rfl rfl), (tb5 160 rfl rfl)⟩ (As := [.ref (gA G 0), .int (xs (Int32.toNatClampNeg (x4 + (1 : Int32)))), .int (xs (Int32.toNatClampNeg (x4 + (2 : Int32)))), .ref (gA G (41 + 27))]) (rest := []) (c_L_waste hst hnL h226) (by decide +kernel) hl.1 rfl ⟨Nat.le_of_ble_eq_true rfl, Nat.le_of_ble_eq_true rfl⟩ ⟨by show cells + 2 ≤ 601024; omega, by show slots + 6 * 2 ≤ 7293033; omega⟩ rfl (Nat.le_of_ble_eq_true rfl) dL_law__1447 (fun H locs hw => ?_)
  refine lv_istore (lv' := [(5, .int q226.2.2), (0, .ref b), (1, .ref (gA G 0)), (2, .ref (gA G (41 + 0))), (3, .ref (gA G (41 + 27))), (4, .int x4)]) C.1.1 C.1.2.1 dL_law__1450 hl (by decide) rfl (fun ls hl => ?_)
  refine lv_aload_n C.1.1 C.1.2.1 dL_law__1452 rfl (lv_at hl 3 rfl) ?_
  refine lv_aload_n C.1.1 C.1.2.1 dL_law__1453 rfl (lv_at hl 1 rfl) ?_
  refine lv_iload C.1.1 C.1.2.1 dL_law__1454 (lv_at hl 5 rfl) ?_
  refine lv_iconst (v := (1 : Int32)) C.1.1 C.1.2.1 dL_law__1456 rfl ?_
  refine lv_iadd C.1.1 C.1.2.1 dL_law__1457 ?_
  have g227 := inb_in (o_g hf).1
  have hf := (o_g hf).2
  refine va_sld C.1.1 C.1.2.1 hX hbl hbA hw.2 g227 dL_law__1458 ?_
  refine lv_aload_n C.1.1 C.1.2.1 dL_law__1459 rfl (lv_at hl 1 rfl) ?_
  refine lv_iload C.1.1 C.1.2.1 dL_law__1460 (lv_at hl 5 rfl) ?_
  refine lv_iconst (v := (2 : Int32)) C.1.1 C.1.2.1 dL_law__1462 rfl ?_
  refine lv_iadd C.1.1 C.1.2.1 dL_law__1463 ?_
  have g228 := inb_in (o_g hf).1
  have hf := (o_g hf).2
  refine va_sld C.1.1 C.1.2.1 hX hbl hbA hw.2 g228 dL_law__1464 ?_
  obtain ⟨q229, h229, hf⟩ := o_bind hf
  refine aft_i hw (run_VM C hw clL_185 (As := [.int (xs (Int32.toNatClampNeg (x4 + (1 : Int32)))), .int (xs (Int32.toNatClampNeg (x4 + (2 : Int32))))]) (rest := []) oM_0 (c_X9_waste h229) rfl hl.1 rfl ⟨Nat.le_of_ble_eq_true rfl, Nat.le_of_ble_eq_true rfl⟩ ⟨by show cells + 2 ≤ 601024; omega, by show slots + 6 * 2 ≤ 7293033; omega⟩ rfl (Nat.le_of_ble_eq_true rfl) dL_law__1465) (fun H locs hw => ?_)
  refine lv_istore (lv' := [(6, .int q229.2), (5, .int q226.2.2), (0, .ref b), (1, .ref (gA G 0)), (2, .ref (gA G (41 + 0))), (3, .ref (gA G (41 + 27))), (4, .int x4)]) C.1.1 C.1.2.1 dL_law__1468 hl (by decide) rfl (fun ls hl => ?_)
  refine lv_aload_n C.1.1 C.1.2.1 dL_law__1470 rfl (lv_at hl 4 rfl) ?_
  obtain ⟨q230, h230, hf⟩ := o_bind hf
  refine aft_i hw (run_VM C hw clL_121 (As := []) (rest := []) oM_0 (c_X9_thrown h230) rfl hl.1 rfl ⟨Nat.le_of_ble_eq_true rfl, Nat.le_of_ble_eq_true rfl⟩ ⟨by show cells + 2 ≤ 601024; omega, by show slots + 6 * 2 ≤ 7293033; omega⟩ rfl (Nat.le_of_ble_eq_true rfl) dL_law__1471) (fun H locs hw => ?_)
  refine lv_iload C.1.1 C.1.2.1 dL_law__1474 (lv_at hl 1 rfl) ?_
  refine lv_icmp_eq (tgt := 1481) C.1.1 C.1.2.1 dL_law__1476 (by decide) (fun c231 => ?_) (fun c231 => ?_)
  · have hf := o_t hf c231
    refine lv_iload C.1.1 C.1.2.1 dL_law__1481 (lv_at hl 1 rfl) ?_
    refine lv_if_ne (tgt := 1498) C.1.1 C.1.2.1 dL_law__1483 (by decide) (fun c232 => ?_) (fun c232 => ?_)
    · have hf := o_f hf c232
      refine lv_goto (tgt := 2364) C.1.1 C.1.2.1 dL_law__1498 (by decide) ?_
      refine lv_iinc (v := (x4 + (9 : Int32))) (lv' := [(4, .int (x4 + (9 : Int32))), (6, .int q229.2), (5, .int q226.2.2), (0, .ref b), (1, .ref (gA G 0)), (2, .ref (gA G (41 + 0))), (3, .ref (gA G (41 + 27)))]) C.1.1 C.1.2.1 dL_law__2364 hl (k := 6) rfl rfl (by decide) rfl (fun ls hl => ?_)
      refine lv_goto (tgt := 23) C.1.1 C.1.2.1 dL_law__2367 (by decide) ?_
      exact hk_23 q226.1 q229.1 q226.2.1 (x4 + (9 : Int32)) _ _ _ _ _ (by omega) (by omega) hw (lv_sub hl [3, 4, 5, 6, 0] rfl) hf
    · have hf := o_t hf c232
      refine lv_aload_n C.1.1 C.1.2.1 dL_law__1486 rfl (lv_at hl 5 rfl) ?_
      refine lv_iconst (v := (0 : Int32)) C.1.1 C.1.2.1 dL_law__1487 rfl ?_
      have g233 := inb_in (o_g hf).1
      have hf := (o_g hf).2
      refine l_ald C hw lM_27 hnL g233 dL_law__1488 ?_
      refine lv_iload C.1.1 C.1.2.1 dL_law__1489 (lv_at hl 0 rfl) ?_
      refine lv_i2l (v := (Int32.toInt64 q229.2)) C.1.1 C.1.2.1 dL_law__1491 rfl ?_
      refine W.lcmp C.1.1 C.1.2.1 dL_law__1492 ?_
      refine lv_if_eq (tgt := 1498) C.1.1 C.1.2.1 dL_law__1493 (by decide) (fun c234 => ?_) (fun c234 => ?_)
      · have hf := o_t hf c234
        refine lv_goto (tgt := 2364) C.1.1 C.1.2.1 dL_law__1498 (by decide) ?_
        refine lv_iinc (v := (x4 + (9 : Int32))) (lv' := [(4, .int (x4 + (9 : Int32))), (6, .int q229.2), (5, .int q226.2.2), (0, .ref b), (1, .ref (gA G 0)), (2, .ref (gA G (41 + 0))), (3, .ref (gA G (41 + 27)))]) C.1.1 C.1.2.1 dL_law__2364 hl (k := 6) rfl rfl (by decide) rfl (fun ls hl => ?_)
        refine lv_goto (tgt := 23) C.1.1 C.1.2.1 dL_law__2367 (by decide) ?_
        exact hk_23 q226.1 q229.1 q226.2.1 (x4 + (9 : Int32)) _ _ _ _ _ (by omega) (by omega) hw (lv_sub hl [3, 4, 5, 6, 0] rfl) hf
      · have hf := o_f hf c234
        refine lv_iconst (v := (0 : Int32)) C.1.1 C.1.2.1 dL_law__1496 rfl ?_
        exact absurd (Option.some.inj hf) (by decide)
  · have hf := o_f hf c231
    refine lv_iconst (v := (0 : Int32)) C.1.1 C.1.2.1 dL_law__1479 rfl ?_
    exact absurd (Option.some.inj hf) (by decide)
set_option maxRecDepth 20000 in
set_option maxHeartbeats 4000000 in
theorem wB_law_1501 {G : GP} {l : Launch} {p : Program} {e : Env} {s : State} {m : MethodId} {below : List Frame} {meth : Method} {c : Code} {b Lth : Nat} {xs : Nat → Int32} (C : Cx G p s m #[Value.ref b] c cL_law_ 8 RL) (hr : meth.sig.returnType = ret) (hlk : meth.locks = false) (hst : l.stackTraces = false) (hnL : 41 + 27 < gN G) (hX : va_X b Lth xs s s.heap) (hbl : b < s.heap.size) (hbA : ¬ AB G b) (hBs : gB G = s.heap.size) {cB sB : Nat} (hcB : cB ≤ 601024) (hsB : sB ≤ 7293033) {k_23 : TX → TX → TL → Int32 → Option Int32} (hk_23 : ∀ (X : TX) (M : TX) (L : TL) (x4 : Int32) (cells slots : Nat) (H : Heap) (locs : List Loc) (ls : Array Slot), cells ≤ cB → slots ≤ sB → Wh G s X M L H locs → lv_has ls 8 [(0, .ref b), (1, .ref (gA G 0)), (2, .ref (gA G (41 + 0))), (3, .ref (gA G (41 + 27))), (4, .int x4)] → k_23 X M L x4 = some (1 : Int32) → W p l e room_1 s m #[Value.ref b] below meth c H locs cells slots (lw_Z below #[Value.ref b] s) (F0 m 23 ls [])) : ∀ (X : TX) (M : TX) (L : TL) (x4 : Int32) (cells slots : Nat) (H : Heap) (locs : List Loc) (ls : Array Slot), cells + 4 ≤ cB → slots + 24 ≤ sB → Wh G s X M L H locs → lv_has ls 8 [(0, .ref b), (1, .ref (gA G 0)), (2, .ref (gA G (41 + 0))), (3, .ref (gA G (41 + 27))), (4, .int x4)] → B_law_1501 xs Lth k_23 X M L x4 = some (1 : Int32) → W p l e room_1 s m #[Value.ref b] below meth c H locs cells slots (lw_Z below #[Value.ref b] s) (F0 m 1501 ls []) := by
  intro X M L x4 cells slots H locs ls hc hs hw hl hf
  unfold B_law_1501 at hf
  refine lv_aload_n C.1.1 C.1.2.1 dL_law__1501 rfl (lv_at hl 1 rfl) ?_
  refine lv_aload_n C.1.1 C.1.2.1 dL_law__1502 rfl (lv_at hl 0 rfl) ?_
  refine lv_iload C.1.1 C.1.2.1 dL_law__1503 (lv_at hl 4 rfl) ?_
  refine lv_iconst (v := (1 : Int32)) C.1.1 C.1.2.1 dL_law__1505 rfl ?_
  refine lv_iadd C.1.1 C.1.2.1 dL_law__1506 ?_
  have g236 := inb_in (o_g hf).1
  have hf := (o_g hf).2
  refine va_sld C.1.1 C.1.2.1 hX hbl hbA hw.2 g236 dL_law__1507 ?_
  refine lv_aload_n C.1.1 C.1.2.1 dL_law__1508 rfl (lv_at hl 3 rfl) ?_
  obtain ⟨q237, h237, hf⟩ := o_bind hf
  refine x_wrap (np := 3) C hw ⟨(tb5 180 rfl rfl), (tb5 181 rfl rfl), (tb1 0 rfl rfl), (tb5 182 rfl rfl)⟩ (As := [.ref (gA G 0), .int (xs (Int32.toNatClampNeg (x4 + (1 : Int32)))), .ref (gA G (41 + 27))]) (rest := []) (c_L_fits hst hnL h237) (by decide +kernel) hl.1 rfl ⟨Nat.le_of_ble_eq_true rfl, Nat.le_of_ble_eq_true rfl⟩ ⟨by show cells + 1 ≤ 601024; omega, by show slots + 6 * 1 ≤ 7293033; omega⟩ rfl (Nat.le_of_ble_eq_true rfl) dL_law__1509 (fun H locs hw => ?_)
  refine lv_istore (lv' := [(5, .int q237.2.2), (0, .ref b), (1, .ref (gA G 0)), (2, .ref (gA G (41 + 0))), (3, .ref (gA G (41 + 27))), (4, .int x4)]) C.1.1 C.1.2.1 dL_law__1512 hl (by decide) rfl (fun ls hl => ?_)
  refine lv_aload_n C.1.1 C.1.2.1 dL_law__1514 rfl (lv_at hl 3 rfl) ?_
  refine lv_aload_n C.1.1 C.1.2.1 dL_law__1515 rfl (lv_at hl 1 rfl) ?_
  refine lv_iload C.1.1 C.1.2.1 dL_law__1516 (lv_at hl 5 rfl) ?_
  refine lv_iconst (v := (1 : Int32)) C.1.1 C.1.2.1 dL_law__1518 rfl ?_
  refine lv_iadd C.1.1 C.1.2.1 dL_law__1519 ?_
  have g238 := inb_in (o_g hf).1
  have hf := (o_g hf).2
  refine va_sld C.1.1 C.1.2.1 hX hbl hbA hw.2 g238 dL_law__1520 ?_
  obtain ⟨q239, h239, hf⟩ := o_bind hf
  refine aft_i hw (run_VM C hw clL_188 (As := [.int (xs (Int32.toNatClampNeg (x4 + (1 : Int32))))]) (rest := []) oM_0 (c_X9_fits h239) rfl hl.1 rfl ⟨Nat.le_of_ble_eq_true rfl, Nat.le_of_ble_eq_true rfl⟩ ⟨by show cells + 1 ≤ 601024; omega, by show slots + 6 * 1 ≤ 7293033; omega⟩ rfl (Nat.le_of_ble_eq_true rfl) dL_law__1521) (fun H locs hw => ?_)
  refine lv_istore (lv' := [(6, .int q239.2), (5, .int q237.2.2), (0, .ref b), (1, .ref (gA G 0)), (2, .ref (gA G (41 + 0))), (3, .ref (gA G (41 + 27))), (4, .int x4)]) C.1.1 C.1.2.1 dL_law__1524 hl (by decide) rfl (fun ls hl => ?_)
  refine lv_aload_n C.1.1 C.1.2.1 dL_law__1526 rfl (lv_at hl 4 rfl) ?_
  obtain ⟨q240, h240, hf⟩ := o_bind hf
  refine aft_i hw (run_VM C hw clL_121 (As := []) (rest := []) oM_0 (c_X9_thrown h240) rfl hl.1 rfl ⟨Nat.le_of_ble_eq_true rfl, Nat.le_of_ble_eq_true rfl⟩ ⟨by show cells + 1 ≤ 601024; omega, by show slots + 6 * 1 ≤ 7293033; omega⟩ rfl (Nat.le_of_ble_eq_true rfl) dL_law__1527) (fun H locs hw => ?_)
  refine lv_iload C.1.1 C.1.2.1 dL_law__1530 (lv_at hl 1 rfl) ?_
  refine lv_icmp_eq (tgt := 1537) C.1.1 C.1.2.1 dL_law__1532 (by decide) (fun c241 => ?_) (fun c241 => ?_)
  · have hf := o_t hf c241
    refine lv_iload C.1.1 C.1.2.1 dL_law__1537 (lv_at hl 1 rfl) ?_
    refine lv_if_ne (tgt := 1554) C.1.1 C.1.2.1 dL_law__1539 (by decide) (fun c242 => ?_) (fun c242 => ?_)
    · have hf := o_f hf c242
      refine lv_goto (tgt := 2364) C.1.1 C.1.2.1 dL_law__1554 (by decide) ?_
      refine lv_iinc (v := (x4 + (9 : Int32))) (lv' := [(4, .int (x4 + (9 : Int32))), (6, .int q239.2), (5, .int q237.2.2), (0, .ref b), (1, .ref (gA G 0)), (2, .ref (gA G (41 + 0))), (3, .ref (gA G (41 + 27)))]) C.1.1 C.1.2.1 dL_law__2364 hl (k := 6) rfl rfl (by decide) rfl (fun ls hl => ?_)
      refine lv_goto (tgt := 23) C.1.1 C.1.2.1 dL_law__2367 (by decide) ?_
      exact hk_23 q237.1 q239.1 q237.2.1 (x4 + (9 : Int32)) _ _ _ _ _ (by omega) (by omega) hw (lv_sub hl [3, 4, 5, 6, 0] rfl) hf
    · have hf := o_t hf c242
      refine lv_aload_n C.1.1 C.1.2.1 dL_law__1542 rfl (lv_at hl 5 rfl) ?_
      refine lv_iconst (v := (0 : Int32)) C.1.1 C.1.2.1 dL_law__1543 rfl ?_
      have g243 := inb_in (o_g hf).1
      have hf := (o_g hf).2
      refine l_ald C hw lM_27 hnL g243 dL_law__1544 ?_
      refine lv_iload C.1.1 C.1.2.1 dL_law__1545 (lv_at hl 0 rfl) ?_
      refine lv_i2l (v := (Int32.toInt64 q239.2)) C.1.1 C.1.2.1 dL_law__1547 rfl ?_
      refine W.lcmp C.1.1 C.1.2.1 dL_law__1548 ?_
      refine lv_if_eq (tgt := 1554) C.1.1 C.1.2.1 dL_law__1549 (by decide) (fun c244 => ?_) (fun c244 => ?_)
      · have hf := o_t hf c244
        refine lv_goto (tgt := 2364) C.1.1 C.1.2.1 dL_law__1554 (by decide) ?_
        refine lv_iinc (v := (x4 + (9 : Int32))) (lv' := [(4, .int (x4 + (9 : Int32))), (6, .int q239.2), (5, .int q237.2.2), (0, .ref b), (1, .ref (gA G 0)), (2, .ref (gA G (41 + 0))), (3, .ref (gA G (41 + 27)))]) C.1.1 C.1.2.1 dL_law__2364 hl (k := 6) rfl rfl (by decide) rfl (fun ls hl => ?_)
        refine lv_goto (tgt := 23) C.1.1 C.1.2.1 dL_law__2367 (by decide) ?_
        exact hk_23 q237.1 q239.1 q237.2.1 (x4 + (9 : Int32)) _ _ _ _ _ (by omega) (by omega) hw (lv_sub hl [3, 4, 5, 6, 0] rfl) hf
      · have hf := o_f hf c244
        refine lv_iconst (v := (0 : Int32)) C.1.1 C.1.2.1 dL_law__1552 rfl ?_
        exact absurd (Option.some.inj hf) (by decide)
  · have hf := o_f hf c241
    refine lv_iconst (v := (0 : Int32)) C.1.1 C.1.2.1 dL_law__1535 rfl ?_
    exact absurd (Option.some.inj hf) (by decide)
set_option maxRecDepth 20000 in
set_option maxHeartbeats 4000000 in
theorem wB_law_1557 {G : GP} {l : Launch} {p : Program} {e : Env} {s : State} {m : MethodId} {below : List Frame} {meth : Method} {c : Code} {b Lth : Nat} {xs : Nat → Int32} (C : Cx G p s m #[Value.ref b] c cL_law_ 8 RL) (hr : meth.sig.returnType = ret) (hlk : meth.locks = false) (hst : l.stackTraces = false) (hnL : 41 + 27 < gN G) (hX : va_X b Lth xs s s.heap) (hbl : b < s.heap.size) (hbA : ¬ AB G b) (hBs : gB G = s.heap.size) {cB sB : Nat} (hcB : cB ≤ 601024) (hsB : sB ≤ 7293033) {k_23 : TX → TX → TL → Int32 → Option Int32} (hk_23 : ∀ (X : TX) (M : TX) (L : TL) (x4 : Int32) (cells slots : Nat) (H : Heap) (locs : List Loc) (ls : Array Slot), cells ≤ cB → slots ≤ sB → Wh G s X M L H locs → lv_has ls 8 [(0, .ref b), (1, .ref (gA G 0)), (2, .ref (gA G (41 + 0))), (3, .ref (gA G (41 + 27))), (4, .int x4)] → k_23 X M L x4 = some (1 : Int32) → W p l e room_1 s m #[Value.ref b] below meth c H locs cells slots (lw_Z below #[Value.ref b] s) (F0 m 23 ls [])) : ∀ (X : TX) (M : TX) (L : TL) (x4 : Int32) (cells slots : Nat) (H : Heap) (locs : List Loc) (ls : Array Slot), cells + 4 ≤ cB → slots + 24 ≤ sB → Wh G s X M L H locs → lv_has ls 8 [(0, .ref b), (1, .ref (gA G 0)), (2, .ref (gA G (41 + 0))), (3, .ref (gA G (41 + 27))), (4, .int x4)] → B_law_1557 xs Lth k_23 X M L x4 = some (1 : Int32) → W p l e room_1 s m #[Value.ref b] below meth c H locs cells slots (lw_Z below #[Value.ref b] s) (F0 m 1557 ls []) := by
  intro X M L x4 cells slots H locs ls hc hs hw hl hf
  unfold B_law_1557 at hf
  refine lv_aload_n C.1.1 C.1.2.1 dL_law__1557 rfl (lv_at hl 1 rfl) ?_
  refine lv_aload_n C.1.1 C.1.2.1 dL_law__1558 rfl (lv_at hl 0 rfl) ?_
  refine lv_iload C.1.1 C.1.2.1 dL_law__1559 (lv_at hl 4 rfl) ?_
  refine lv_iconst (v := (1 : Int32)) C.1.1 C.1.2.1 dL_law__1561 rfl ?_
  refine lv_iadd C.1.1 C.1.2.1 dL_law__1562 ?_
  have g246 := inb_in (o_g hf).1
  have hf := (o_g hf).2
  refine va_sld C.1.1 C.1.2.1 hX hbl hbA hw.2 g246 dL_law__1563 ?_
  refine lv_aload_n C.1.1 C.1.2.1 dL_law__1564 rfl (lv_at hl 3 rfl) ?_
  obtain ⟨q247, h247, hf⟩ := o_bind hf
  refine x_wrap (np := 3) C hw ⟨(tb5 200 rfl rfl), (tb5 201 rfl rfl), (tb1 0 rfl rfl), (tb5 202 rfl rfl)⟩ (As := [.ref (gA G 0), .int (xs (Int32.toNatClampNeg (x4 + (1 : Int32)))), .ref (gA G (41 + 27))]) (rest := []) (c_L_look hst hnL h247) (by decide +kernel) hl.1 rfl ⟨Nat.le_of_ble_eq_true rfl, Nat.le_of_ble_eq_true rfl⟩ ⟨by show cells + 1 ≤ 601024; omega, by show slots + 6 * 1 ≤ 7293033; omega⟩ rfl (Nat.le_of_ble_eq_true rfl) dL_law__1565 (fun H locs hw => ?_)
  refine lv_istore (lv' := [(5, .int q247.2.2), (0, .ref b), (1, .ref (gA G 0)), (2, .ref (gA G (41 + 0))), (3, .ref (gA G (41 + 27))), (4, .int x4)]) C.1.1 C.1.2.1 dL_law__1568 hl (by decide) rfl (fun ls hl => ?_)
  refine lv_aload_n C.1.1 C.1.2.1 dL_law__1570 rfl (lv_at hl 3 rfl) ?_
  refine lv_aload_n C.1.1 C.1.2.1 dL_law__1571 rfl (lv_at hl 1 rfl) ?_
  refine lv_iload C.1.1 C.1.2.1 dL_law__1572 (lv_at hl 5 rfl) ?_
  refine lv_iconst (v := (1 : Int32)) C.1.1 C.1.2.1 dL_law__1574 rfl ?_
  refine lv_iadd C.1.1 C.1.2.1 dL_law__1575 ?_
  have g248 := inb_in (o_g hf).1
  have hf := (o_g hf).2
  refine va_sld C.1.1 C.1.2.1 hX hbl hbA hw.2 g248 dL_law__1576 ?_
  obtain ⟨q249, h249, hf⟩ := o_bind hf
  refine aft_i hw (run_VM C hw clL_191 (As := [.int (xs (Int32.toNatClampNeg (x4 + (1 : Int32))))]) (rest := []) oM_0 (c_X9_look h249) rfl hl.1 rfl ⟨Nat.le_of_ble_eq_true rfl, Nat.le_of_ble_eq_true rfl⟩ ⟨by show cells + 1 ≤ 601024; omega, by show slots + 6 * 1 ≤ 7293033; omega⟩ rfl (Nat.le_of_ble_eq_true rfl) dL_law__1577) (fun H locs hw => ?_)
  refine lv_istore (lv' := [(6, .int q249.2), (5, .int q247.2.2), (0, .ref b), (1, .ref (gA G 0)), (2, .ref (gA G (41 + 0))), (3, .ref (gA G (41 + 27))), (4, .int x4)]) C.1.1 C.1.2.1 dL_law__1580 hl (by decide) rfl (fun ls hl => ?_)
  refine lv_aload_n C.1.1 C.1.2.1 dL_law__1582 rfl (lv_at hl 4 rfl) ?_
  obtain ⟨q250, h250, hf⟩ := o_bind hf
  refine aft_i hw (run_VM C hw clL_121 (As := []) (rest := []) oM_0 (c_X9_thrown h250) rfl hl.1 rfl ⟨Nat.le_of_ble_eq_true rfl, Nat.le_of_ble_eq_true rfl⟩ ⟨by show cells + 1 ≤ 601024; omega, by show slots + 6 * 1 ≤ 7293033; omega⟩ rfl (Nat.le_of_ble_eq_true rfl) dL_law__1583) (fun H locs hw => ?_)
  refine lv_iload C.1.1 C.1.2.1 dL_law__1586 (lv_at hl 1 rfl) ?_
  refine lv_icmp_eq (tgt := 1593) C.1.1 C.1.2.1 dL_law__1588 (by decide) (fun c251 => ?_) (fun c251 => ?_)
  · have hf := o_t hf c251
    refine lv_iload C.1.1 C.1.2.1 dL_law__1593 (lv_at hl 1 rfl) ?_
    refine lv_if_ne (tgt := 1610) C.1.1 C.1.2.1 dL_law__1595 (by decide) (fun c252 => ?_) (fun c252 => ?_)
    · have hf := o_f hf c252
      refine lv_goto (tgt := 2364) C.1.1 C.1.2.1 dL_law__1610 (by decide) ?_
      refine lv_iinc (v := (x4 + (9 : Int32))) (lv' := [(4, .int (x4 + (9 : Int32))), (6, .int q249.2), (5, .int q247.2.2), (0, .ref b), (1, .ref (gA G 0)), (2, .ref (gA G (41 + 0))), (3, .ref (gA G (41 + 27)))]) C.1.1 C.1.2.1 dL_law__2364 hl (k := 6) rfl rfl (by decide) rfl (fun ls hl => ?_)
      refine lv_goto (tgt := 23) C.1.1 C.1.2.1 dL_law__2367 (by decide) ?_
      exact hk_23 q247.1 q249.1 q247.2.1 (x4 + (9 : Int32)) _ _ _ _ _ (by omega) (by omega) hw (lv_sub hl [3, 4, 5, 6, 0] rfl) hf
    · have hf := o_t hf c252
      refine lv_aload_n C.1.1 C.1.2.1 dL_law__1598 rfl (lv_at hl 5 rfl) ?_
      refine lv_iconst (v := (0 : Int32)) C.1.1 C.1.2.1 dL_law__1599 rfl ?_
      have g253 := inb_in (o_g hf).1
      have hf := (o_g hf).2
      refine l_ald C hw lM_27 hnL g253 dL_law__1600 ?_
      refine lv_iload C.1.1 C.1.2.1 dL_law__1601 (lv_at hl 0 rfl) ?_
      refine lv_i2l (v := (Int32.toInt64 q249.2)) C.1.1 C.1.2.1 dL_law__1603 rfl ?_
      refine W.lcmp C.1.1 C.1.2.1 dL_law__1604 ?_
      refine lv_if_eq (tgt := 1610) C.1.1 C.1.2.1 dL_law__1605 (by decide) (fun c254 => ?_) (fun c254 => ?_)
      · have hf := o_t hf c254
        refine lv_goto (tgt := 2364) C.1.1 C.1.2.1 dL_law__1610 (by decide) ?_
        refine lv_iinc (v := (x4 + (9 : Int32))) (lv' := [(4, .int (x4 + (9 : Int32))), (6, .int q249.2), (5, .int q247.2.2), (0, .ref b), (1, .ref (gA G 0)), (2, .ref (gA G (41 + 0))), (3, .ref (gA G (41 + 27)))]) C.1.1 C.1.2.1 dL_law__2364 hl (k := 6) rfl rfl (by decide) rfl (fun ls hl => ?_)
        refine lv_goto (tgt := 23) C.1.1 C.1.2.1 dL_law__2367 (by decide) ?_
        exact hk_23 q247.1 q249.1 q247.2.1 (x4 + (9 : Int32)) _ _ _ _ _ (by omega) (by omega) hw (lv_sub hl [3, 4, 5, 6, 0] rfl) hf
      · have hf := o_f hf c254
        refine lv_iconst (v := (0 : Int32)) C.1.1 C.1.2.1 dL_law__1608 rfl ?_
        exact absurd (Option.some.inj hf) (by decide)
  · have hf := o_f hf c251
    refine lv_iconst (v := (0 : Int32)) C.1.1 C.1.2.1 dL_law__1591 rfl ?_
    exact absurd (Option.some.inj hf) (by decide)
set_option maxRecDepth 20000 in
set_option maxHeartbeats 4000000 in
theorem wB_law_1613 {G : GP} {l : Launch} {p : Program} {e : Env} {s : State} {m : MethodId} {below : List Frame} {meth : Method} {c : Code} {b Lth : Nat} {xs : Nat → Int32} (C : Cx G p s m #[Value.ref b] c cL_law_ 8 RL) (hr : meth.sig.returnType = ret) (hlk : meth.locks = false) (hst : l.stackTraces = false) (hnL : 41 + 27 < gN G) (hX : va_X b Lth xs s s.heap) (hbl : b < s.heap.size) (hbA : ¬ AB G b) (hBs : gB G = s.heap.size) {cB sB : Nat} (hcB : cB ≤ 601024) (hsB : sB ≤ 7293033) {k_23 : TX → TX → TL → Int32 → Option Int32} (hk_23 : ∀ (X : TX) (M : TX) (L : TL) (x4 : Int32) (cells slots : Nat) (H : Heap) (locs : List Loc) (ls : Array Slot), cells ≤ cB → slots ≤ sB → Wh G s X M L H locs → lv_has ls 8 [(0, .ref b), (1, .ref (gA G 0)), (2, .ref (gA G (41 + 0))), (3, .ref (gA G (41 + 27))), (4, .int x4)] → k_23 X M L x4 = some (1 : Int32) → W p l e room_1 s m #[Value.ref b] below meth c H locs cells slots (lw_Z below #[Value.ref b] s) (F0 m 23 ls [])) : ∀ (X : TX) (M : TX) (L : TL) (x4 : Int32) (cells slots : Nat) (H : Heap) (locs : List Loc) (ls : Array Slot), cells + 4 ≤ cB → slots + 24 ≤ sB → Wh G s X M L H locs → lv_has ls 8 [(0, .ref b), (1, .ref (gA G 0)), (2, .ref (gA G (41 + 0))), (3, .ref (gA G (41 + 27))), (4, .int x4)] → B_law_1613 xs Lth k_23 X M L x4 = some (1 : Int32) → W p l e room_1 s m #[Value.ref b] below meth c H locs cells slots (lw_Z below #[Value.ref b] s) (F0 m 1613 ls []) := by
  intro X M L x4 cells slots H locs ls hc hs hw hl hf
  unfold B_law_1613 at hf
  refine lv_aload_n C.1.1 C.1.2.1 dL_law__1613 rfl (lv_at hl 1 rfl) ?_
  refine lv_aload_n C.1.1 C.1.2.1 dL_law__1614 rfl (lv_at hl 0 rfl) ?_
  refine lv_iload C.1.1 C.1.2.1 dL_law__1615 (lv_at hl 4 rfl) ?_
  refine lv_iconst (v := (1 : Int32)) C.1.1 C.1.2.1 dL_law__1617 rfl ?_
  refine lv_iadd C.1.1 C.1.2.1 dL_law__1618 ?_
  have g256 := inb_in (o_g hf).1
  have hf := (o_g hf).2
  refine va_sld C.1.1 C.1.2.1 hX hbl hbA hw.2 g256 dL_law__1619 ?_
  refine lv_aload_n C.1.1 C.1.2.1 dL_law__1620 rfl (lv_at hl 0 rfl) ?_
  refine lv_iload C.1.1 C.1.2.1 dL_law__1621 (lv_at hl 4 rfl) ?_
  refine lv_iconst (v := (2 : Int32)) C.1.1 C.1.2.1 dL_law__1623 rfl ?_
  refine lv_iadd C.1.1 C.1.2.1 dL_law__1624 ?_
  have g257 := inb_in (o_g hf).1
  have hf := (o_g hf).2
  refine va_sld C.1.1 C.1.2.1 hX hbl hbA hw.2 g257 dL_law__1625 ?_
  refine lv_aload_n C.1.1 C.1.2.1 dL_law__1626 rfl (lv_at hl 0 rfl) ?_
  refine lv_iload C.1.1 C.1.2.1 dL_law__1627 (lv_at hl 4 rfl) ?_
  refine lv_iconst (v := (3 : Int32)) C.1.1 C.1.2.1 dL_law__1629 rfl ?_
  refine lv_iadd C.1.1 C.1.2.1 dL_law__1630 ?_
  have g258 := inb_in (o_g hf).1
  have hf := (o_g hf).2
  refine va_sld C.1.1 C.1.2.1 hX hbl hbA hw.2 g258 dL_law__1631 ?_
  refine lv_aload_n C.1.1 C.1.2.1 dL_law__1632 rfl (lv_at hl 0 rfl) ?_
  refine lv_iload C.1.1 C.1.2.1 dL_law__1633 (lv_at hl 4 rfl) ?_
  refine lv_iconst (v := (4 : Int32)) C.1.1 C.1.2.1 dL_law__1635 rfl ?_
  refine lv_iadd C.1.1 C.1.2.1 dL_law__1636 ?_
  have g259 := inb_in (o_g hf).1
  have hf := (o_g hf).2
  refine va_sld C.1.1 C.1.2.1 hX hbl hbA hw.2 g259 dL_law__1637 ?_
  refine lv_aload_n C.1.1 C.1.2.1 dL_law__1638 rfl (lv_at hl 3 rfl) ?_
  obtain ⟨q260, h260, hf⟩ := o_bind hf
  refine x_wrap (np := 6) C hw ⟨(tb5 214 rfl rfl), (tb5 215 rfl rfl), (tb1 0 rfl rfl), (tb5 216 rfl rfl)⟩ (As := [.ref (gA G 0), .int (xs (Int32.toNatClampNeg (x4 + (1 : Int32)))), .int (xs (Int32.toNatClampNeg (x4 + (2 : Int32)))), .int (xs (Int32.toNatClampNeg (x4 + (3 : Int32)))), .int (xs (Int32.toNatClampNeg (x4 + (4 : Int32)))), .ref (gA G (41 + 27))]) (rest := []) (c_L_recount hst hnL h260) (by decide +kernel) hl.1 rfl ⟨Nat.le_of_ble_eq_true rfl, Nat.le_of_ble_eq_true rfl⟩ ⟨by show cells + 2 ≤ 601024; omega, by show slots + 6 * 2 ≤ 7293033; omega⟩ rfl (Nat.le_of_ble_eq_true rfl) dL_law__1639 (fun H locs hw => ?_)
  refine lv_istore (lv' := [(5, .int q260.2.2), (0, .ref b), (1, .ref (gA G 0)), (2, .ref (gA G (41 + 0))), (3, .ref (gA G (41 + 27))), (4, .int x4)]) C.1.1 C.1.2.1 dL_law__1642 hl (by decide) rfl (fun ls hl => ?_)
  refine lv_aload_n C.1.1 C.1.2.1 dL_law__1644 rfl (lv_at hl 3 rfl) ?_
  refine lv_aload_n C.1.1 C.1.2.1 dL_law__1645 rfl (lv_at hl 1 rfl) ?_
  refine lv_iload C.1.1 C.1.2.1 dL_law__1646 (lv_at hl 5 rfl) ?_
  refine lv_iconst (v := (1 : Int32)) C.1.1 C.1.2.1 dL_law__1648 rfl ?_
  refine lv_iadd C.1.1 C.1.2.1 dL_law__1649 ?_
  have g261 := inb_in (o_g hf).1
  have hf := (o_g hf).2
  refine va_sld C.1.1 C.1.2.1 hX hbl hbA hw.2 g261 dL_law__1650 ?_
  refine lv_aload_n C.1.1 C.1.2.1 dL_law__1651 rfl (lv_at hl 1 rfl) ?_
  refine lv_iload C.1.1 C.1.2.1 dL_law__1652 (lv_at hl 5 rfl) ?_
  refine lv_iconst (v := (2 : Int32)) C.1.1 C.1.2.1 dL_law__1654 rfl ?_
  refine lv_iadd C.1.1 C.1.2.1 dL_law__1655 ?_
  have g262 := inb_in (o_g hf).1
  have hf := (o_g hf).2
  refine va_sld C.1.1 C.1.2.1 hX hbl hbA hw.2 g262 dL_law__1656 ?_
  refine lv_aload_n C.1.1 C.1.2.1 dL_law__1657 rfl (lv_at hl 1 rfl) ?_
  refine lv_iload C.1.1 C.1.2.1 dL_law__1658 (lv_at hl 5 rfl) ?_
  refine lv_iconst (v := (3 : Int32)) C.1.1 C.1.2.1 dL_law__1660 rfl ?_
  refine lv_iadd C.1.1 C.1.2.1 dL_law__1661 ?_
  have g263 := inb_in (o_g hf).1
  have hf := (o_g hf).2
  refine va_sld C.1.1 C.1.2.1 hX hbl hbA hw.2 g263 dL_law__1662 ?_
  refine lv_aload_n C.1.1 C.1.2.1 dL_law__1663 rfl (lv_at hl 1 rfl) ?_
  refine lv_iload C.1.1 C.1.2.1 dL_law__1664 (lv_at hl 5 rfl) ?_
  refine lv_iconst (v := (4 : Int32)) C.1.1 C.1.2.1 dL_law__1666 rfl ?_
  refine lv_iadd C.1.1 C.1.2.1 dL_law__1667 ?_
  have g264 := inb_in (o_g hf).1
  have hf := (o_g hf).2
  refine va_sld C.1.1 C.1.2.1 hX hbl hbA hw.2 g264 dL_law__1668 ?_
  obtain ⟨q265, h265, hf⟩ := o_bind hf
  refine aft_l hw (run_VM C hw clL_195 (As := [.int (xs (Int32.toNatClampNeg (x4 + (1 : Int32)))), .int (xs (Int32.toNatClampNeg (x4 + (2 : Int32)))), .int (xs (Int32.toNatClampNeg (x4 + (3 : Int32)))), .int (xs (Int32.toNatClampNeg (x4 + (4 : Int32))))]) (rest := []) oM_0 (c_X9_recount h265) rfl hl.1 rfl ⟨Nat.le_of_ble_eq_true rfl, Nat.le_of_ble_eq_true rfl⟩ ⟨by show cells + 2 ≤ 601024; omega, by show slots + 6 * 2 ≤ 7293033; omega⟩ rfl (Nat.le_of_ble_eq_true rfl) dL_law__1669) (fun H locs hw => ?_)
  refine lv_lstore (lv' := [(6, .long q265.2.2), (5, .int q260.2.2), (0, .ref b), (1, .ref (gA G 0)), (2, .ref (gA G (41 + 0))), (3, .ref (gA G (41 + 27))), (4, .int x4)]) C.1.1 C.1.2.1 dL_law__1672 hl (by decide) rfl (fun ls hl => ?_)
  refine lv_aload_n C.1.1 C.1.2.1 dL_law__1674 rfl (lv_at hl 4 rfl) ?_
  obtain ⟨q266, h266, hf⟩ := o_bind hf
  refine aft_i hw (run_VM C hw clL_121 (As := []) (rest := []) oM_0 (c_X9_thrown h266) rfl hl.1 rfl ⟨Nat.le_of_ble_eq_true rfl, Nat.le_of_ble_eq_true rfl⟩ ⟨by show cells + 2 ≤ 601024; omega, by show slots + 6 * 2 ≤ 7293033; omega⟩ rfl (Nat.le_of_ble_eq_true rfl) dL_law__1675) (fun H locs hw => ?_)
  refine lv_iload C.1.1 C.1.2.1 dL_law__1678 (lv_at hl 1 rfl) ?_
  refine lv_icmp_eq (tgt := 1685) C.1.1 C.1.2.1 dL_law__1680 (by decide) (fun c267 => ?_) (fun c267 => ?_)
  · have hf := o_t hf c267
    refine lv_iload C.1.1 C.1.2.1 dL_law__1685 (lv_at hl 1 rfl) ?_
    refine lv_if_ne (tgt := 1701) C.1.1 C.1.2.1 dL_law__1687 (by decide) (fun c268 => ?_) (fun c268 => ?_)
    · have hf := o_f hf c268
      refine lv_goto (tgt := 2364) C.1.1 C.1.2.1 dL_law__1701 (by decide) ?_
      refine lv_iinc (v := (x4 + (9 : Int32))) (lv' := [(4, .int (x4 + (9 : Int32))), (6, .long q265.2.2), (5, .int q260.2.2), (0, .ref b), (1, .ref (gA G 0)), (2, .ref (gA G (41 + 0))), (3, .ref (gA G (41 + 27)))]) C.1.1 C.1.2.1 dL_law__2364 hl (k := 6) rfl rfl (by decide) rfl (fun ls hl => ?_)
      refine lv_goto (tgt := 23) C.1.1 C.1.2.1 dL_law__2367 (by decide) ?_
      exact hk_23 q260.1 q265.1 q265.2.1 (x4 + (9 : Int32)) _ _ _ _ _ (by omega) (by omega) hw (lv_sub hl [3, 4, 5, 6, 0] rfl) hf
    · have hf := o_t hf c268
      refine lv_aload_n C.1.1 C.1.2.1 dL_law__1690 rfl (lv_at hl 5 rfl) ?_
      refine lv_iconst (v := (0 : Int32)) C.1.1 C.1.2.1 dL_law__1691 rfl ?_
      have g269 := inb_in (o_g hf).1
      have hf := (o_g hf).2
      refine l_ald C hw lM_27 hnL g269 dL_law__1692 ?_
      refine lv_lload C.1.1 C.1.2.1 dL_law__1693 (lv_at hl 0 rfl) ?_
      refine W.lcmp C.1.1 C.1.2.1 dL_law__1695 ?_
      refine lv_if_eq (tgt := 1701) C.1.1 C.1.2.1 dL_law__1696 (by decide) (fun c270 => ?_) (fun c270 => ?_)
      · have hf := o_t hf c270
        refine lv_goto (tgt := 2364) C.1.1 C.1.2.1 dL_law__1701 (by decide) ?_
        refine lv_iinc (v := (x4 + (9 : Int32))) (lv' := [(4, .int (x4 + (9 : Int32))), (6, .long q265.2.2), (5, .int q260.2.2), (0, .ref b), (1, .ref (gA G 0)), (2, .ref (gA G (41 + 0))), (3, .ref (gA G (41 + 27)))]) C.1.1 C.1.2.1 dL_law__2364 hl (k := 6) rfl rfl (by decide) rfl (fun ls hl => ?_)
        refine lv_goto (tgt := 23) C.1.1 C.1.2.1 dL_law__2367 (by decide) ?_
        exact hk_23 q260.1 q265.1 q265.2.1 (x4 + (9 : Int32)) _ _ _ _ _ (by omega) (by omega) hw (lv_sub hl [3, 4, 5, 6, 0] rfl) hf
      · have hf := o_f hf c270
        refine lv_iconst (v := (0 : Int32)) C.1.1 C.1.2.1 dL_law__1699 rfl ?_
        exact absurd (Option.some.inj hf) (by decide)
  · have hf := o_f hf c267
    refine lv_iconst (v := (0 : Int32)) C.1.1 C.1.2.1 dL_law__1683 rfl ?_
    exact absurd (Option.some.inj hf) (by decide)
set_option maxRecDepth 20000 in
set_option maxHeartbeats 4000000 in
theorem wB_law_1704 {G : GP} {l : Launch} {p : Program} {e : Env} {s : State} {m : MethodId} {below : List Frame} {meth : Method} {c : Code} {b Lth : Nat} {xs : Nat → Int32} (C : Cx G p s m #[Value.ref b] c cL_law_ 8 RL) (hr : meth.sig.returnType = ret) (hlk : meth.locks = false) (hst : l.stackTraces = false) (hnL : 41 + 27 < gN G) (hX : va_X b Lth xs s s.heap) (hbl : b < s.heap.size) (hbA : ¬ AB G b) (hBs : gB G = s.heap.size) {cB sB : Nat} (hcB : cB ≤ 601024) (hsB : sB ≤ 7293033) {k_23 : TX → TX → TL → Int32 → Option Int32} (hk_23 : ∀ (X : TX) (M : TX) (L : TL) (x4 : Int32) (cells slots : Nat) (H : Heap) (locs : List Loc) (ls : Array Slot), cells ≤ cB → slots ≤ sB → Wh G s X M L H locs → lv_has ls 8 [(0, .ref b), (1, .ref (gA G 0)), (2, .ref (gA G (41 + 0))), (3, .ref (gA G (41 + 27))), (4, .int x4)] → k_23 X M L x4 = some (1 : Int32) → W p l e room_1 s m #[Value.ref b] below meth c H locs cells slots (lw_Z below #[Value.ref b] s) (F0 m 23 ls [])) : ∀ (X : TX) (M : TX) (L : TL) (x4 : Int32) (cells slots : Nat) (H : Heap) (locs : List Loc) (ls : Array Slot), cells + 4 ≤ cB → slots + 24 ≤ sB → Wh G s X M L H locs → lv_has ls 8 [(0, .ref b), (1, .ref (gA G 0)), (2, .ref (gA G (41 + 0))), (3, .ref (gA G (41 + 27))), (4, .int x4)] → B_law_1704 xs Lth k_23 X M L x4 = some (1 : Int32) → W p l e room_1 s m #[Value.ref b] below meth c H locs cells slots (lw_Z below #[Value.ref b] s) (F0 m 1704 ls []) := by
  intro X M L x4 cells slots H locs ls hc hs hw hl hf
  unfold B_law_1704 at hf
  refine lv_aload_n C.1.1 C.1.2.1 dL_law__1704 rfl (lv_at hl 1 rfl) ?_
  refine lv_aload_n C.1.1 C.1.2.1 dL_law__1705 rfl (lv_at hl 0 rfl) ?_
  refine lv_iload C.1.1 C.1.2.1 dL_law__1706 (lv_at hl 4 rfl) ?_
  refine lv_iconst (v := (1 : Int32)) C.1.1 C.1.2.1 dL_law__1708 rfl ?_
  refine lv_iadd C.1.1 C.1.2.1 dL_law__1709 ?_
  have g272 := inb_in (o_g hf).1
  have hf := (o_g hf).2
  refine va_sld C.1.1 C.1.2.1 hX hbl hbA hw.2 g272 dL_law__1710 ?_
  refine lv_aload_n C.1.1 C.1.2.1 dL_law__1711 rfl (lv_at hl 3 rfl) ?_
  obtain ⟨q273, h273, hf⟩ := o_bind hf
  refine x_wrap (np := 3) C hw ⟨(tb5 228 rfl rfl), (tb5 229 rfl rfl), (tb1 0 rfl rfl), (tb5 230 rfl rfl)⟩ (As := [.ref (gA G 0), .int (xs (Int32.toNatClampNeg (x4 + (1 : Int32)))), .ref (gA G (41 + 27))]) (rest := []) (c_L_smallest hst hnL h273) (by decide +kernel) hl.1 rfl ⟨Nat.le_of_ble_eq_true rfl, Nat.le_of_ble_eq_true rfl⟩ ⟨by show cells + 1 ≤ 601024; omega, by show slots + 6 * 1 ≤ 7293033; omega⟩ rfl (Nat.le_of_ble_eq_true rfl) dL_law__1712 (fun H locs hw => ?_)
  refine lv_istore (lv' := [(5, .int q273.2.2), (0, .ref b), (1, .ref (gA G 0)), (2, .ref (gA G (41 + 0))), (3, .ref (gA G (41 + 27))), (4, .int x4)]) C.1.1 C.1.2.1 dL_law__1715 hl (by decide) rfl (fun ls hl => ?_)
  refine lv_aload_n C.1.1 C.1.2.1 dL_law__1717 rfl (lv_at hl 3 rfl) ?_
  refine lv_aload_n C.1.1 C.1.2.1 dL_law__1718 rfl (lv_at hl 1 rfl) ?_
  refine lv_iload C.1.1 C.1.2.1 dL_law__1719 (lv_at hl 5 rfl) ?_
  refine lv_iconst (v := (1 : Int32)) C.1.1 C.1.2.1 dL_law__1721 rfl ?_
  refine lv_iadd C.1.1 C.1.2.1 dL_law__1722 ?_
  have g274 := inb_in (o_g hf).1
  have hf := (o_g hf).2
  refine va_sld C.1.1 C.1.2.1 hX hbl hbA hw.2 g274 dL_law__1723 ?_
  obtain ⟨q275, h275, hf⟩ := o_bind hf
  refine aft_i hw (run_VM C hw clL_198 (As := [.int (xs (Int32.toNatClampNeg (x4 + (1 : Int32))))]) (rest := []) oM_0 (c_X9_smallest h275) rfl hl.1 rfl ⟨Nat.le_of_ble_eq_true rfl, Nat.le_of_ble_eq_true rfl⟩ ⟨by show cells + 1 ≤ 601024; omega, by show slots + 6 * 1 ≤ 7293033; omega⟩ rfl (Nat.le_of_ble_eq_true rfl) dL_law__1724) (fun H locs hw => ?_)
  refine lv_istore (lv' := [(6, .int q275.2), (5, .int q273.2.2), (0, .ref b), (1, .ref (gA G 0)), (2, .ref (gA G (41 + 0))), (3, .ref (gA G (41 + 27))), (4, .int x4)]) C.1.1 C.1.2.1 dL_law__1727 hl (by decide) rfl (fun ls hl => ?_)
  refine lv_aload_n C.1.1 C.1.2.1 dL_law__1729 rfl (lv_at hl 4 rfl) ?_
  obtain ⟨q276, h276, hf⟩ := o_bind hf
  refine aft_i hw (run_VM C hw clL_121 (As := []) (rest := []) oM_0 (c_X9_thrown h276) rfl hl.1 rfl ⟨Nat.le_of_ble_eq_true rfl, Nat.le_of_ble_eq_true rfl⟩ ⟨by show cells + 1 ≤ 601024; omega, by show slots + 6 * 1 ≤ 7293033; omega⟩ rfl (Nat.le_of_ble_eq_true rfl) dL_law__1730) (fun H locs hw => ?_)
  refine lv_iload C.1.1 C.1.2.1 dL_law__1733 (lv_at hl 1 rfl) ?_
  refine lv_icmp_eq (tgt := 1740) C.1.1 C.1.2.1 dL_law__1735 (by decide) (fun c277 => ?_) (fun c277 => ?_)
  · have hf := o_t hf c277
    refine lv_iload C.1.1 C.1.2.1 dL_law__1740 (lv_at hl 1 rfl) ?_
    refine lv_if_ne (tgt := 1757) C.1.1 C.1.2.1 dL_law__1742 (by decide) (fun c278 => ?_) (fun c278 => ?_)
    · have hf := o_f hf c278
      refine lv_goto (tgt := 2364) C.1.1 C.1.2.1 dL_law__1757 (by decide) ?_
      refine lv_iinc (v := (x4 + (9 : Int32))) (lv' := [(4, .int (x4 + (9 : Int32))), (6, .int q275.2), (5, .int q273.2.2), (0, .ref b), (1, .ref (gA G 0)), (2, .ref (gA G (41 + 0))), (3, .ref (gA G (41 + 27)))]) C.1.1 C.1.2.1 dL_law__2364 hl (k := 6) rfl rfl (by decide) rfl (fun ls hl => ?_)
      refine lv_goto (tgt := 23) C.1.1 C.1.2.1 dL_law__2367 (by decide) ?_
      exact hk_23 q273.1 q275.1 q273.2.1 (x4 + (9 : Int32)) _ _ _ _ _ (by omega) (by omega) hw (lv_sub hl [3, 4, 5, 6, 0] rfl) hf
    · have hf := o_t hf c278
      refine lv_aload_n C.1.1 C.1.2.1 dL_law__1745 rfl (lv_at hl 5 rfl) ?_
      refine lv_iconst (v := (0 : Int32)) C.1.1 C.1.2.1 dL_law__1746 rfl ?_
      have g279 := inb_in (o_g hf).1
      have hf := (o_g hf).2
      refine l_ald C hw lM_27 hnL g279 dL_law__1747 ?_
      refine lv_iload C.1.1 C.1.2.1 dL_law__1748 (lv_at hl 0 rfl) ?_
      refine lv_i2l (v := (Int32.toInt64 q275.2)) C.1.1 C.1.2.1 dL_law__1750 rfl ?_
      refine W.lcmp C.1.1 C.1.2.1 dL_law__1751 ?_
      refine lv_if_eq (tgt := 1757) C.1.1 C.1.2.1 dL_law__1752 (by decide) (fun c280 => ?_) (fun c280 => ?_)
      · have hf := o_t hf c280
        refine lv_goto (tgt := 2364) C.1.1 C.1.2.1 dL_law__1757 (by decide) ?_
        refine lv_iinc (v := (x4 + (9 : Int32))) (lv' := [(4, .int (x4 + (9 : Int32))), (6, .int q275.2), (5, .int q273.2.2), (0, .ref b), (1, .ref (gA G 0)), (2, .ref (gA G (41 + 0))), (3, .ref (gA G (41 + 27)))]) C.1.1 C.1.2.1 dL_law__2364 hl (k := 6) rfl rfl (by decide) rfl (fun ls hl => ?_)
        refine lv_goto (tgt := 23) C.1.1 C.1.2.1 dL_law__2367 (by decide) ?_
        exact hk_23 q273.1 q275.1 q273.2.1 (x4 + (9 : Int32)) _ _ _ _ _ (by omega) (by omega) hw (lv_sub hl [3, 4, 5, 6, 0] rfl) hf
      · have hf := o_f hf c280
        refine lv_iconst (v := (0 : Int32)) C.1.1 C.1.2.1 dL_law__1755 rfl ?_
        exact absurd (Option.some.inj hf) (by decide)
  · have hf := o_f hf c277
    refine lv_iconst (v := (0 : Int32)) C.1.1 C.1.2.1 dL_law__1738 rfl ?_
    exact absurd (Option.some.inj hf) (by decide)
set_option maxRecDepth 20000 in
set_option maxHeartbeats 4000000 in
theorem wB_law_1760 {G : GP} {l : Launch} {p : Program} {e : Env} {s : State} {m : MethodId} {below : List Frame} {meth : Method} {c : Code} {b Lth : Nat} {xs : Nat → Int32} (C : Cx G p s m #[Value.ref b] c cL_law_ 8 RL) (hr : meth.sig.returnType = ret) (hlk : meth.locks = false) (hst : l.stackTraces = false) (hnL : 41 + 27 < gN G) (hX : va_X b Lth xs s s.heap) (hbl : b < s.heap.size) (hbA : ¬ AB G b) (hBs : gB G = s.heap.size) {cB sB : Nat} (hcB : cB ≤ 601024) (hsB : sB ≤ 7293033) {k_23 : TX → TX → TL → Int32 → Option Int32} (hk_23 : ∀ (X : TX) (M : TX) (L : TL) (x4 : Int32) (cells slots : Nat) (H : Heap) (locs : List Loc) (ls : Array Slot), cells ≤ cB → slots ≤ sB → Wh G s X M L H locs → lv_has ls 8 [(0, .ref b), (1, .ref (gA G 0)), (2, .ref (gA G (41 + 0))), (3, .ref (gA G (41 + 27))), (4, .int x4)] → k_23 X M L x4 = some (1 : Int32) → W p l e room_1 s m #[Value.ref b] below meth c H locs cells slots (lw_Z below #[Value.ref b] s) (F0 m 23 ls [])) : ∀ (X : TX) (M : TX) (L : TL) (x4 : Int32) (cells slots : Nat) (H : Heap) (locs : List Loc) (ls : Array Slot), cells + 4 ≤ cB → slots + 24 ≤ sB → Wh G s X M L H locs → lv_has ls 8 [(0, .ref b), (1, .ref (gA G 0)), (2, .ref (gA G (41 + 0))), (3, .ref (gA G (41 + 27))), (4, .int x4)] → B_law_1760 xs Lth k_23 X M L x4 = some (1 : Int32) → W p l e room_1 s m #[Value.ref b] below meth c H locs cells slots (lw_Z below #[Value.ref b] s) (F0 m 1760 ls []) := by
  intro X M L x4 cells slots H locs ls hc hs hw hl hf
  unfold B_law_1760 at hf
  refine lv_aload_n C.1.1 C.1.2.1 dL_law__1760 rfl (lv_at hl 1 rfl) ?_
  refine lv_aload_n C.1.1 C.1.2.1 dL_law__1761 rfl (lv_at hl 0 rfl) ?_
  refine lv_iload C.1.1 C.1.2.1 dL_law__1762 (lv_at hl 4 rfl) ?_
  refine lv_iconst (v := (1 : Int32)) C.1.1 C.1.2.1 dL_law__1764 rfl ?_
  refine lv_iadd C.1.1 C.1.2.1 dL_law__1765 ?_
  have g282 := inb_in (o_g hf).1
  have hf := (o_g hf).2
  refine va_sld C.1.1 C.1.2.1 hX hbl hbA hw.2 g282 dL_law__1766 ?_
  refine lv_aload_n C.1.1 C.1.2.1 dL_law__1767 rfl (lv_at hl 3 rfl) ?_
  obtain ⟨q283, h283, hf⟩ := o_bind hf
  refine x_wrap (np := 3) C hw ⟨(tb5 236 rfl rfl), (tb5 237 rfl rfl), (tb1 0 rfl rfl), (tb5 238 rfl rfl)⟩ (As := [.ref (gA G 0), .int (xs (Int32.toNatClampNeg (x4 + (1 : Int32)))), .ref (gA G (41 + 27))]) (rest := []) (c_L_closest hst hnL h283) (by decide +kernel) hl.1 rfl ⟨Nat.le_of_ble_eq_true rfl, Nat.le_of_ble_eq_true rfl⟩ ⟨by show cells + 1 ≤ 601024; omega, by show slots + 6 * 1 ≤ 7293033; omega⟩ rfl (Nat.le_of_ble_eq_true rfl) dL_law__1768 (fun H locs hw => ?_)
  refine lv_istore (lv' := [(5, .int q283.2.2), (0, .ref b), (1, .ref (gA G 0)), (2, .ref (gA G (41 + 0))), (3, .ref (gA G (41 + 27))), (4, .int x4)]) C.1.1 C.1.2.1 dL_law__1771 hl (by decide) rfl (fun ls hl => ?_)
  refine lv_aload_n C.1.1 C.1.2.1 dL_law__1773 rfl (lv_at hl 3 rfl) ?_
  refine lv_aload_n C.1.1 C.1.2.1 dL_law__1774 rfl (lv_at hl 1 rfl) ?_
  refine lv_iload C.1.1 C.1.2.1 dL_law__1775 (lv_at hl 5 rfl) ?_
  refine lv_iconst (v := (1 : Int32)) C.1.1 C.1.2.1 dL_law__1777 rfl ?_
  refine lv_iadd C.1.1 C.1.2.1 dL_law__1778 ?_
  have g284 := inb_in (o_g hf).1
  have hf := (o_g hf).2
  refine va_sld C.1.1 C.1.2.1 hX hbl hbA hw.2 g284 dL_law__1779 ?_
  obtain ⟨q285, h285, hf⟩ := o_bind hf
  refine aft_i hw (run_VM C hw clL_201 (As := [.int (xs (Int32.toNatClampNeg (x4 + (1 : Int32))))]) (rest := []) oM_0 (c_X9_closest h285) rfl hl.1 rfl ⟨Nat.le_of_ble_eq_true rfl, Nat.le_of_ble_eq_true rfl⟩ ⟨by show cells + 1 ≤ 601024; omega, by show slots + 6 * 1 ≤ 7293033; omega⟩ rfl (Nat.le_of_ble_eq_true rfl) dL_law__1780) (fun H locs hw => ?_)
  refine lv_istore (lv' := [(6, .int q285.2), (5, .int q283.2.2), (0, .ref b), (1, .ref (gA G 0)), (2, .ref (gA G (41 + 0))), (3, .ref (gA G (41 + 27))), (4, .int x4)]) C.1.1 C.1.2.1 dL_law__1783 hl (by decide) rfl (fun ls hl => ?_)
  refine lv_aload_n C.1.1 C.1.2.1 dL_law__1785 rfl (lv_at hl 4 rfl) ?_
  obtain ⟨q286, h286, hf⟩ := o_bind hf
  refine aft_i hw (run_VM C hw clL_121 (As := []) (rest := []) oM_0 (c_X9_thrown h286) rfl hl.1 rfl ⟨Nat.le_of_ble_eq_true rfl, Nat.le_of_ble_eq_true rfl⟩ ⟨by show cells + 1 ≤ 601024; omega, by show slots + 6 * 1 ≤ 7293033; omega⟩ rfl (Nat.le_of_ble_eq_true rfl) dL_law__1786) (fun H locs hw => ?_)
  refine lv_iload C.1.1 C.1.2.1 dL_law__1789 (lv_at hl 1 rfl) ?_
  refine lv_icmp_eq (tgt := 1796) C.1.1 C.1.2.1 dL_law__1791 (by decide) (fun c287 => ?_) (fun c287 => ?_)
  · have hf := o_t hf c287
    refine lv_iload C.1.1 C.1.2.1 dL_law__1796 (lv_at hl 1 rfl) ?_
    refine lv_if_ne (tgt := 1813) C.1.1 C.1.2.1 dL_law__1798 (by decide) (fun c288 => ?_) (fun c288 => ?_)
    · have hf := o_f hf c288
      refine lv_goto (tgt := 2364) C.1.1 C.1.2.1 dL_law__1813 (by decide) ?_
      refine lv_iinc (v := (x4 + (9 : Int32))) (lv' := [(4, .int (x4 + (9 : Int32))), (6, .int q285.2), (5, .int q283.2.2), (0, .ref b), (1, .ref (gA G 0)), (2, .ref (gA G (41 + 0))), (3, .ref (gA G (41 + 27)))]) C.1.1 C.1.2.1 dL_law__2364 hl (k := 6) rfl rfl (by decide) rfl (fun ls hl => ?_)
      refine lv_goto (tgt := 23) C.1.1 C.1.2.1 dL_law__2367 (by decide) ?_
      exact hk_23 q283.1 q285.1 q283.2.1 (x4 + (9 : Int32)) _ _ _ _ _ (by omega) (by omega) hw (lv_sub hl [3, 4, 5, 6, 0] rfl) hf
    · have hf := o_t hf c288
      refine lv_aload_n C.1.1 C.1.2.1 dL_law__1801 rfl (lv_at hl 5 rfl) ?_
      refine lv_iconst (v := (0 : Int32)) C.1.1 C.1.2.1 dL_law__1802 rfl ?_
      have g289 := inb_in (o_g hf).1
      have hf := (o_g hf).2
      refine l_ald C hw lM_27 hnL g289 dL_law__1803 ?_
      refine lv_iload C.1.1 C.1.2.1 dL_law__1804 (lv_at hl 0 rfl) ?_
      refine lv_i2l (v := (Int32.toInt64 q285.2)) C.1.1 C.1.2.1 dL_law__1806 rfl ?_
      refine W.lcmp C.1.1 C.1.2.1 dL_law__1807 ?_
      refine lv_if_eq (tgt := 1813) C.1.1 C.1.2.1 dL_law__1808 (by decide) (fun c290 => ?_) (fun c290 => ?_)
      · have hf := o_t hf c290
        refine lv_goto (tgt := 2364) C.1.1 C.1.2.1 dL_law__1813 (by decide) ?_
        refine lv_iinc (v := (x4 + (9 : Int32))) (lv' := [(4, .int (x4 + (9 : Int32))), (6, .int q285.2), (5, .int q283.2.2), (0, .ref b), (1, .ref (gA G 0)), (2, .ref (gA G (41 + 0))), (3, .ref (gA G (41 + 27)))]) C.1.1 C.1.2.1 dL_law__2364 hl (k := 6) rfl rfl (by decide) rfl (fun ls hl => ?_)
        refine lv_goto (tgt := 23) C.1.1 C.1.2.1 dL_law__2367 (by decide) ?_
        exact hk_23 q283.1 q285.1 q283.2.1 (x4 + (9 : Int32)) _ _ _ _ _ (by omega) (by omega) hw (lv_sub hl [3, 4, 5, 6, 0] rfl) hf
      · have hf := o_f hf c290
        refine lv_iconst (v := (0 : Int32)) C.1.1 C.1.2.1 dL_law__1811 rfl ?_
        exact absurd (Option.some.inj hf) (by decide)
  · have hf := o_f hf c287
    refine lv_iconst (v := (0 : Int32)) C.1.1 C.1.2.1 dL_law__1794 rfl ?_
    exact absurd (Option.some.inj hf) (by decide)
set_option maxRecDepth 20000 in
set_option maxHeartbeats 4000000 in
theorem wB_law_1816 {G : GP} {l : Launch} {p : Program} {e : Env} {s : State} {m : MethodId} {below : List Frame} {meth : Method} {c : Code} {b Lth : Nat} {xs : Nat → Int32} (C : Cx G p s m #[Value.ref b] c cL_law_ 8 RL) (hr : meth.sig.returnType = ret) (hlk : meth.locks = false) (hst : l.stackTraces = false) (hnL : 41 + 27 < gN G) (hX : va_X b Lth xs s s.heap) (hbl : b < s.heap.size) (hbA : ¬ AB G b) (hBs : gB G = s.heap.size) {cB sB : Nat} (hcB : cB ≤ 601024) (hsB : sB ≤ 7293033) {k_23 : TX → TX → TL → Int32 → Option Int32} (hk_23 : ∀ (X : TX) (M : TX) (L : TL) (x4 : Int32) (cells slots : Nat) (H : Heap) (locs : List Loc) (ls : Array Slot), cells ≤ cB → slots ≤ sB → Wh G s X M L H locs → lv_has ls 8 [(0, .ref b), (1, .ref (gA G 0)), (2, .ref (gA G (41 + 0))), (3, .ref (gA G (41 + 27))), (4, .int x4)] → k_23 X M L x4 = some (1 : Int32) → W p l e room_1 s m #[Value.ref b] below meth c H locs cells slots (lw_Z below #[Value.ref b] s) (F0 m 23 ls [])) : ∀ (X : TX) (M : TX) (L : TL) (x4 : Int32) (cells slots : Nat) (H : Heap) (locs : List Loc) (ls : Array Slot), cells + 4 ≤ cB → slots + 24 ≤ sB → Wh G s X M L H locs → lv_has ls 8 [(0, .ref b), (1, .ref (gA G 0)), (2, .ref (gA G (41 + 0))), (3, .ref (gA G (41 + 27))), (4, .int x4)] → B_law_1816 xs Lth k_23 X M L x4 = some (1 : Int32) → W p l e room_1 s m #[Value.ref b] below meth c H locs cells slots (lw_Z below #[Value.ref b] s) (F0 m 1816 ls []) := by
  intro X M L x4 cells slots H locs ls hc hs hw hl hf
  unfold B_law_1816 at hf
  refine lv_aload_n C.1.1 C.1.2.1 dL_law__1816 rfl (lv_at hl 1 rfl) ?_
  obtain ⟨q292, h292, hf⟩ := o_bind hf
  refine aft_i hw (run_VX C hw clL_202 (As := []) (rest := []) oX_0 (c_X8_border h292) rfl hl.1 rfl ⟨Nat.le_of_ble_eq_true rfl, Nat.le_of_ble_eq_true rfl⟩ ⟨by show cells ≤ 601024; omega, by show slots ≤ 7293033; omega⟩ rfl (Nat.le_of_ble_eq_true rfl) dL_law__1817) (fun H locs hw => ?_)
  refine lv_aload_n C.1.1 C.1.2.1 dL_law__1820 rfl (lv_at hl 2 rfl) ?_
  obtain ⟨q293, h293, hf⟩ := o_bind hf
  refine aft_i hw (run_VM C hw clL_205 (As := []) (rest := [.int q292]) oM_0 (c_X9_border h293) rfl hl.1 rfl ⟨Nat.le_of_ble_eq_true rfl, Nat.le_of_ble_eq_true rfl⟩ ⟨by show cells ≤ 601024; omega, by show slots ≤ 7293033; omega⟩ rfl (Nat.le_of_ble_eq_true rfl) dL_law__1821) (fun H locs hw => ?_)
  refine lv_icmp_eq (tgt := 2364) C.1.1 C.1.2.1 dL_law__1824 (by decide) (fun c294 => ?_) (fun c294 => ?_)
  · have hf := o_t hf c294
    refine lv_iinc (v := (x4 + (9 : Int32))) (lv' := [(4, .int (x4 + (9 : Int32))), (0, .ref b), (1, .ref (gA G 0)), (2, .ref (gA G (41 + 0))), (3, .ref (gA G (41 + 27)))]) C.1.1 C.1.2.1 dL_law__2364 hl (k := 4) rfl rfl (by decide) rfl (fun ls hl => ?_)
    refine lv_goto (tgt := 23) C.1.1 C.1.2.1 dL_law__2367 (by decide) ?_
    exact hk_23 X q293.1 L (x4 + (9 : Int32)) _ _ _ _ _ (by omega) (by omega) hw (lv_sub hl [1, 2, 3, 4, 0] rfl) hf
  · have hf := o_f hf c294
    refine lv_iconst (v := (0 : Int32)) C.1.1 C.1.2.1 dL_law__1827 rfl ?_
    exact absurd (Option.some.inj hf) (by decide)
set_option maxRecDepth 20000 in
set_option maxHeartbeats 4000000 in
theorem wB_law_1829 {G : GP} {l : Launch} {p : Program} {e : Env} {s : State} {m : MethodId} {below : List Frame} {meth : Method} {c : Code} {b Lth : Nat} {xs : Nat → Int32} (C : Cx G p s m #[Value.ref b] c cL_law_ 8 RL) (hr : meth.sig.returnType = ret) (hlk : meth.locks = false) (hst : l.stackTraces = false) (hnL : 41 + 27 < gN G) (hX : va_X b Lth xs s s.heap) (hbl : b < s.heap.size) (hbA : ¬ AB G b) (hBs : gB G = s.heap.size) {cB sB : Nat} (hcB : cB ≤ 601024) (hsB : sB ≤ 7293033) {k_23 : TX → TX → TL → Int32 → Option Int32} (hk_23 : ∀ (X : TX) (M : TX) (L : TL) (x4 : Int32) (cells slots : Nat) (H : Heap) (locs : List Loc) (ls : Array Slot), cells ≤ cB → slots ≤ sB → Wh G s X M L H locs → lv_has ls 8 [(0, .ref b), (1, .ref (gA G 0)), (2, .ref (gA G (41 + 0))), (3, .ref (gA G (41 + 27))), (4, .int x4)] → k_23 X M L x4 = some (1 : Int32) → W p l e room_1 s m #[Value.ref b] below meth c H locs cells slots (lw_Z below #[Value.ref b] s) (F0 m 23 ls [])) : ∀ (X : TX) (M : TX) (L : TL) (x4 : Int32) (cells slots : Nat) (H : Heap) (locs : List Loc) (ls : Array Slot), cells + 4 ≤ cB → slots + 24 ≤ sB → Wh G s X M L H locs → lv_has ls 8 [(0, .ref b), (1, .ref (gA G 0)), (2, .ref (gA G (41 + 0))), (3, .ref (gA G (41 + 27))), (4, .int x4)] → B_law_1829 xs Lth k_23 X M L x4 = some (1 : Int32) → W p l e room_1 s m #[Value.ref b] below meth c H locs cells slots (lw_Z below #[Value.ref b] s) (F0 m 1829 ls []) := by
  intro X M L x4 cells slots H locs ls hc hs hw hl hf
  unfold B_law_1829 at hf
  refine lv_aload_n C.1.1 C.1.2.1 dL_law__1829 rfl (lv_at hl 1 rfl) ?_
  refine lv_aload_n C.1.1 C.1.2.1 dL_law__1830 rfl (lv_at hl 0 rfl) ?_
  refine lv_iload C.1.1 C.1.2.1 dL_law__1831 (lv_at hl 4 rfl) ?_
  refine lv_iconst (v := (1 : Int32)) C.1.1 C.1.2.1 dL_law__1833 rfl ?_
  refine lv_iadd C.1.1 C.1.2.1 dL_law__1834 ?_
  have g296 := inb_in (o_g hf).1
  have hf := (o_g hf).2
  refine va_sld C.1.1 C.1.2.1 hX hbl hbA hw.2 g296 dL_law__1835 ?_
  refine lv_aload_n C.1.1 C.1.2.1 dL_law__1836 rfl (lv_at hl 3 rfl) ?_
  obtain ⟨q297, h297, hf⟩ := o_bind hf
  refine x_wrap (np := 3) C hw ⟨(tb6 5 rfl rfl), (tb6 6 rfl rfl), (tb1 0 rfl rfl), (tb6 7 rfl rfl)⟩ (As := [.ref (gA G 0), .int (xs (Int32.toNatClampNeg (x4 + (1 : Int32)))), .ref (gA G (41 + 27))]) (rest := []) (c_L_tide hst hnL h297) (by decide +kernel) hl.1 rfl ⟨Nat.le_of_ble_eq_true rfl, Nat.le_of_ble_eq_true rfl⟩ ⟨by show cells + 1 ≤ 601024; omega, by show slots + 6 * 1 ≤ 7293033; omega⟩ rfl (Nat.le_of_ble_eq_true rfl) dL_law__1837 (fun H locs hw => ?_)
  refine lv_istore (lv' := [(5, .int q297.2.2), (0, .ref b), (1, .ref (gA G 0)), (2, .ref (gA G (41 + 0))), (3, .ref (gA G (41 + 27))), (4, .int x4)]) C.1.1 C.1.2.1 dL_law__1840 hl (by decide) rfl (fun ls hl => ?_)
  refine lv_aload_n C.1.1 C.1.2.1 dL_law__1842 rfl (lv_at hl 3 rfl) ?_
  refine lv_aload_n C.1.1 C.1.2.1 dL_law__1843 rfl (lv_at hl 1 rfl) ?_
  refine lv_iload C.1.1 C.1.2.1 dL_law__1844 (lv_at hl 5 rfl) ?_
  refine lv_iconst (v := (1 : Int32)) C.1.1 C.1.2.1 dL_law__1846 rfl ?_
  refine lv_iadd C.1.1 C.1.2.1 dL_law__1847 ?_
  have g298 := inb_in (o_g hf).1
  have hf := (o_g hf).2
  refine va_sld C.1.1 C.1.2.1 hX hbl hbA hw.2 g298 dL_law__1848 ?_
  obtain ⟨q299, h299, hf⟩ := o_bind hf
  refine aft_i hw (run_VM C hw clL_208 (As := [.int (xs (Int32.toNatClampNeg (x4 + (1 : Int32))))]) (rest := []) oM_0 (c_X9_tide h299) rfl hl.1 rfl ⟨Nat.le_of_ble_eq_true rfl, Nat.le_of_ble_eq_true rfl⟩ ⟨by show cells + 1 ≤ 601024; omega, by show slots + 6 * 1 ≤ 7293033; omega⟩ rfl (Nat.le_of_ble_eq_true rfl) dL_law__1849) (fun H locs hw => ?_)
  refine lv_istore (lv' := [(6, .int q299.2), (5, .int q297.2.2), (0, .ref b), (1, .ref (gA G 0)), (2, .ref (gA G (41 + 0))), (3, .ref (gA G (41 + 27))), (4, .int x4)]) C.1.1 C.1.2.1 dL_law__1852 hl (by decide) rfl (fun ls hl => ?_)
  refine lv_aload_n C.1.1 C.1.2.1 dL_law__1854 rfl (lv_at hl 4 rfl) ?_
  obtain ⟨q300, h300, hf⟩ := o_bind hf
  refine aft_i hw (run_VM C hw clL_121 (As := []) (rest := []) oM_0 (c_X9_thrown h300) rfl hl.1 rfl ⟨Nat.le_of_ble_eq_true rfl, Nat.le_of_ble_eq_true rfl⟩ ⟨by show cells + 1 ≤ 601024; omega, by show slots + 6 * 1 ≤ 7293033; omega⟩ rfl (Nat.le_of_ble_eq_true rfl) dL_law__1855) (fun H locs hw => ?_)
  refine lv_iload C.1.1 C.1.2.1 dL_law__1858 (lv_at hl 1 rfl) ?_
  refine lv_icmp_eq (tgt := 1865) C.1.1 C.1.2.1 dL_law__1860 (by decide) (fun c301 => ?_) (fun c301 => ?_)
  · have hf := o_t hf c301
    refine lv_iload C.1.1 C.1.2.1 dL_law__1865 (lv_at hl 1 rfl) ?_
    refine lv_if_ne (tgt := 1882) C.1.1 C.1.2.1 dL_law__1867 (by decide) (fun c302 => ?_) (fun c302 => ?_)
    · have hf := o_f hf c302
      refine lv_goto (tgt := 2364) C.1.1 C.1.2.1 dL_law__1882 (by decide) ?_
      refine lv_iinc (v := (x4 + (9 : Int32))) (lv' := [(4, .int (x4 + (9 : Int32))), (6, .int q299.2), (5, .int q297.2.2), (0, .ref b), (1, .ref (gA G 0)), (2, .ref (gA G (41 + 0))), (3, .ref (gA G (41 + 27)))]) C.1.1 C.1.2.1 dL_law__2364 hl (k := 6) rfl rfl (by decide) rfl (fun ls hl => ?_)
      refine lv_goto (tgt := 23) C.1.1 C.1.2.1 dL_law__2367 (by decide) ?_
      exact hk_23 q297.1 q299.1 q297.2.1 (x4 + (9 : Int32)) _ _ _ _ _ (by omega) (by omega) hw (lv_sub hl [3, 4, 5, 6, 0] rfl) hf
    · have hf := o_t hf c302
      refine lv_aload_n C.1.1 C.1.2.1 dL_law__1870 rfl (lv_at hl 5 rfl) ?_
      refine lv_iconst (v := (0 : Int32)) C.1.1 C.1.2.1 dL_law__1871 rfl ?_
      have g303 := inb_in (o_g hf).1
      have hf := (o_g hf).2
      refine l_ald C hw lM_27 hnL g303 dL_law__1872 ?_
      refine lv_iload C.1.1 C.1.2.1 dL_law__1873 (lv_at hl 0 rfl) ?_
      refine lv_i2l (v := (Int32.toInt64 q299.2)) C.1.1 C.1.2.1 dL_law__1875 rfl ?_
      refine W.lcmp C.1.1 C.1.2.1 dL_law__1876 ?_
      refine lv_if_eq (tgt := 1882) C.1.1 C.1.2.1 dL_law__1877 (by decide) (fun c304 => ?_) (fun c304 => ?_)
      · have hf := o_t hf c304
        refine lv_goto (tgt := 2364) C.1.1 C.1.2.1 dL_law__1882 (by decide) ?_
        refine lv_iinc (v := (x4 + (9 : Int32))) (lv' := [(4, .int (x4 + (9 : Int32))), (6, .int q299.2), (5, .int q297.2.2), (0, .ref b), (1, .ref (gA G 0)), (2, .ref (gA G (41 + 0))), (3, .ref (gA G (41 + 27)))]) C.1.1 C.1.2.1 dL_law__2364 hl (k := 6) rfl rfl (by decide) rfl (fun ls hl => ?_)
        refine lv_goto (tgt := 23) C.1.1 C.1.2.1 dL_law__2367 (by decide) ?_
        exact hk_23 q297.1 q299.1 q297.2.1 (x4 + (9 : Int32)) _ _ _ _ _ (by omega) (by omega) hw (lv_sub hl [3, 4, 5, 6, 0] rfl) hf
      · have hf := o_f hf c304
        refine lv_iconst (v := (0 : Int32)) C.1.1 C.1.2.1 dL_law__1880 rfl ?_
        exact absurd (Option.some.inj hf) (by decide)
  · have hf := o_f hf c301
    refine lv_iconst (v := (0 : Int32)) C.1.1 C.1.2.1 dL_law__1863 rfl ?_
    exact absurd (Option.some.inj hf) (by decide)
set_option maxRecDepth 20000 in
set_option maxHeartbeats 4000000 in
theorem wB_law_1885 {G : GP} {l : Launch} {p : Program} {e : Env} {s : State} {m : MethodId} {below : List Frame} {meth : Method} {c : Code} {b Lth : Nat} {xs : Nat → Int32} (C : Cx G p s m #[Value.ref b] c cL_law_ 8 RL) (hr : meth.sig.returnType = ret) (hlk : meth.locks = false) (hst : l.stackTraces = false) (hnL : 41 + 27 < gN G) (hX : va_X b Lth xs s s.heap) (hbl : b < s.heap.size) (hbA : ¬ AB G b) (hBs : gB G = s.heap.size) {cB sB : Nat} (hcB : cB ≤ 601024) (hsB : sB ≤ 7293033) {k_23 : TX → TX → TL → Int32 → Option Int32} (hk_23 : ∀ (X : TX) (M : TX) (L : TL) (x4 : Int32) (cells slots : Nat) (H : Heap) (locs : List Loc) (ls : Array Slot), cells ≤ cB → slots ≤ sB → Wh G s X M L H locs → lv_has ls 8 [(0, .ref b), (1, .ref (gA G 0)), (2, .ref (gA G (41 + 0))), (3, .ref (gA G (41 + 27))), (4, .int x4)] → k_23 X M L x4 = some (1 : Int32) → W p l e room_1 s m #[Value.ref b] below meth c H locs cells slots (lw_Z below #[Value.ref b] s) (F0 m 23 ls [])) : ∀ (X : TX) (M : TX) (L : TL) (x4 : Int32) (cells slots : Nat) (H : Heap) (locs : List Loc) (ls : Array Slot), cells + 4 ≤ cB → slots + 24 ≤ sB → Wh G s X M L H locs → lv_has ls 8 [(0, .ref b), (1, .ref (gA G 0)), (2, .ref (gA G (41 + 0))), (3, .ref (gA G (41 + 27))), (4, .int x4)] → B_law_1885 xs Lth k_23 X M L x4 = some (1 : Int32) → W p l e room_1 s m #[Value.ref b] below meth c H locs cells slots (lw_Z below #[Value.ref b] s) (F0 m 1885 ls []) := by
  intro X M L x4 cells slots H locs ls hc hs hw hl hf
  unfold B_law_1885 at hf
  refine lv_aload_n C.1.1 C.1.2.1 dL_law__1885 rfl (lv_at hl 1 rfl) ?_
  refine lv_aload_n C.1.1 C.1.2.1 dL_law__1886 rfl (lv_at hl 0 rfl) ?_
  refine lv_iload C.1.1 C.1.2.1 dL_law__1887 (lv_at hl 4 rfl) ?_
  refine lv_iconst (v := (1 : Int32)) C.1.1 C.1.2.1 dL_law__1889 rfl ?_
  refine lv_iadd C.1.1 C.1.2.1 dL_law__1890 ?_
  have g306 := inb_in (o_g hf).1
  have hf := (o_g hf).2
  refine va_sld C.1.1 C.1.2.1 hX hbl hbA hw.2 g306 dL_law__1891 ?_
  refine lv_aload_n C.1.1 C.1.2.1 dL_law__1892 rfl (lv_at hl 3 rfl) ?_
  obtain ⟨q307, h307, hf⟩ := o_bind hf
  refine x_wrap (np := 3) C hw ⟨(tb6 14 rfl rfl), (tb6 15 rfl rfl), (tb1 0 rfl rfl), (tb6 16 rfl rfl)⟩ (As := [.ref (gA G 0), .int (xs (Int32.toNatClampNeg (x4 + (1 : Int32)))), .ref (gA G (41 + 27))]) (rest := []) (c_L_flip hst hnL h307) (by decide +kernel) hl.1 rfl ⟨Nat.le_of_ble_eq_true rfl, Nat.le_of_ble_eq_true rfl⟩ ⟨by show cells + 1 ≤ 601024; omega, by show slots + 6 * 1 ≤ 7293033; omega⟩ rfl (Nat.le_of_ble_eq_true rfl) dL_law__1893 (fun H locs hw => ?_)
  refine lv_istore (lv' := [(5, .int q307.2.2), (0, .ref b), (1, .ref (gA G 0)), (2, .ref (gA G (41 + 0))), (3, .ref (gA G (41 + 27))), (4, .int x4)]) C.1.1 C.1.2.1 dL_law__1896 hl (by decide) rfl (fun ls hl => ?_)
  refine lv_aload_n C.1.1 C.1.2.1 dL_law__1898 rfl (lv_at hl 3 rfl) ?_
  refine lv_aload_n C.1.1 C.1.2.1 dL_law__1899 rfl (lv_at hl 1 rfl) ?_
  refine lv_iload C.1.1 C.1.2.1 dL_law__1900 (lv_at hl 5 rfl) ?_
  refine lv_iconst (v := (1 : Int32)) C.1.1 C.1.2.1 dL_law__1902 rfl ?_
  refine lv_iadd C.1.1 C.1.2.1 dL_law__1903 ?_
  have g308 := inb_in (o_g hf).1
  have hf := (o_g hf).2
  refine va_sld C.1.1 C.1.2.1 hX hbl hbA hw.2 g308 dL_law__1904 ?_
  obtain ⟨q309, h309, hf⟩ := o_bind hf
  refine aft_i hw (run_VM C hw clL_211 (As := [.int (xs (Int32.toNatClampNeg (x4 + (1 : Int32))))]) (rest := []) oM_0 (c_X9_flip h309) rfl hl.1 rfl ⟨Nat.le_of_ble_eq_true rfl, Nat.le_of_ble_eq_true rfl⟩ ⟨by show cells + 1 ≤ 601024; omega, by show slots + 6 * 1 ≤ 7293033; omega⟩ rfl (Nat.le_of_ble_eq_true rfl) dL_law__1905) (fun H locs hw => ?_)
  refine lv_istore (lv' := [(6, .int q309.2), (5, .int q307.2.2), (0, .ref b), (1, .ref (gA G 0)), (2, .ref (gA G (41 + 0))), (3, .ref (gA G (41 + 27))), (4, .int x4)]) C.1.1 C.1.2.1 dL_law__1908 hl (by decide) rfl (fun ls hl => ?_)
  refine lv_aload_n C.1.1 C.1.2.1 dL_law__1910 rfl (lv_at hl 4 rfl) ?_
  obtain ⟨q310, h310, hf⟩ := o_bind hf
  refine aft_i hw (run_VM C hw clL_121 (As := []) (rest := []) oM_0 (c_X9_thrown h310) rfl hl.1 rfl ⟨Nat.le_of_ble_eq_true rfl, Nat.le_of_ble_eq_true rfl⟩ ⟨by show cells + 1 ≤ 601024; omega, by show slots + 6 * 1 ≤ 7293033; omega⟩ rfl (Nat.le_of_ble_eq_true rfl) dL_law__1911) (fun H locs hw => ?_)
  refine lv_iload C.1.1 C.1.2.1 dL_law__1914 (lv_at hl 1 rfl) ?_
  refine lv_icmp_eq (tgt := 1921) C.1.1 C.1.2.1 dL_law__1916 (by decide) (fun c311 => ?_) (fun c311 => ?_)
  · have hf := o_t hf c311
    refine lv_iload C.1.1 C.1.2.1 dL_law__1921 (lv_at hl 1 rfl) ?_
    refine lv_if_ne (tgt := 1938) C.1.1 C.1.2.1 dL_law__1923 (by decide) (fun c312 => ?_) (fun c312 => ?_)
    · have hf := o_f hf c312
      refine lv_goto (tgt := 2364) C.1.1 C.1.2.1 dL_law__1938 (by decide) ?_
      refine lv_iinc (v := (x4 + (9 : Int32))) (lv' := [(4, .int (x4 + (9 : Int32))), (6, .int q309.2), (5, .int q307.2.2), (0, .ref b), (1, .ref (gA G 0)), (2, .ref (gA G (41 + 0))), (3, .ref (gA G (41 + 27)))]) C.1.1 C.1.2.1 dL_law__2364 hl (k := 6) rfl rfl (by decide) rfl (fun ls hl => ?_)
      refine lv_goto (tgt := 23) C.1.1 C.1.2.1 dL_law__2367 (by decide) ?_
      exact hk_23 q307.1 q309.1 q307.2.1 (x4 + (9 : Int32)) _ _ _ _ _ (by omega) (by omega) hw (lv_sub hl [3, 4, 5, 6, 0] rfl) hf
    · have hf := o_t hf c312
      refine lv_aload_n C.1.1 C.1.2.1 dL_law__1926 rfl (lv_at hl 5 rfl) ?_
      refine lv_iconst (v := (0 : Int32)) C.1.1 C.1.2.1 dL_law__1927 rfl ?_
      have g313 := inb_in (o_g hf).1
      have hf := (o_g hf).2
      refine l_ald C hw lM_27 hnL g313 dL_law__1928 ?_
      refine lv_iload C.1.1 C.1.2.1 dL_law__1929 (lv_at hl 0 rfl) ?_
      refine lv_i2l (v := (Int32.toInt64 q309.2)) C.1.1 C.1.2.1 dL_law__1931 rfl ?_
      refine W.lcmp C.1.1 C.1.2.1 dL_law__1932 ?_
      refine lv_if_eq (tgt := 1938) C.1.1 C.1.2.1 dL_law__1933 (by decide) (fun c314 => ?_) (fun c314 => ?_)
      · have hf := o_t hf c314
        refine lv_goto (tgt := 2364) C.1.1 C.1.2.1 dL_law__1938 (by decide) ?_
        refine lv_iinc (v := (x4 + (9 : Int32))) (lv' := [(4, .int (x4 + (9 : Int32))), (6, .int q309.2), (5, .int q307.2.2), (0, .ref b), (1, .ref (gA G 0)), (2, .ref (gA G (41 + 0))), (3, .ref (gA G (41 + 27)))]) C.1.1 C.1.2.1 dL_law__2364 hl (k := 6) rfl rfl (by decide) rfl (fun ls hl => ?_)
        refine lv_goto (tgt := 23) C.1.1 C.1.2.1 dL_law__2367 (by decide) ?_
        exact hk_23 q307.1 q309.1 q307.2.1 (x4 + (9 : Int32)) _ _ _ _ _ (by omega) (by omega) hw (lv_sub hl [3, 4, 5, 6, 0] rfl) hf
      · have hf := o_f hf c314
        refine lv_iconst (v := (0 : Int32)) C.1.1 C.1.2.1 dL_law__1936 rfl ?_
        exact absurd (Option.some.inj hf) (by decide)
  · have hf := o_f hf c311
    refine lv_iconst (v := (0 : Int32)) C.1.1 C.1.2.1 dL_law__1919 rfl ?_
    exact absurd (Option.some.inj hf) (by decide)
set_option maxRecDepth 20000 in
set_option maxHeartbeats 4000000 in
theorem wB_law_1941 {G : GP} {l : Launch} {p : Program} {e : Env} {s : State} {m : MethodId} {below : List Frame} {meth : Method} {c : Code} {b Lth : Nat} {xs : Nat → Int32} (C : Cx G p s m #[Value.ref b] c cL_law_ 8 RL) (hr : meth.sig.returnType = ret) (hlk : meth.locks = false) (hst : l.stackTraces = false) (hnL : 41 + 27 < gN G) (hX : va_X b Lth xs s s.heap) (hbl : b < s.heap.size) (hbA : ¬ AB G b) (hBs : gB G = s.heap.size) {cB sB : Nat} (hcB : cB ≤ 601024) (hsB : sB ≤ 7293033) {k_23 : TX → TX → TL → Int32 → Option Int32} (hk_23 : ∀ (X : TX) (M : TX) (L : TL) (x4 : Int32) (cells slots : Nat) (H : Heap) (locs : List Loc) (ls : Array Slot), cells ≤ cB → slots ≤ sB → Wh G s X M L H locs → lv_has ls 8 [(0, .ref b), (1, .ref (gA G 0)), (2, .ref (gA G (41 + 0))), (3, .ref (gA G (41 + 27))), (4, .int x4)] → k_23 X M L x4 = some (1 : Int32) → W p l e room_1 s m #[Value.ref b] below meth c H locs cells slots (lw_Z below #[Value.ref b] s) (F0 m 23 ls [])) : ∀ (X : TX) (M : TX) (L : TL) (x4 : Int32) (cells slots : Nat) (H : Heap) (locs : List Loc) (ls : Array Slot), cells + 4 ≤ cB → slots + 24 ≤ sB → Wh G s X M L H locs → lv_has ls 8 [(0, .ref b), (1, .ref (gA G 0)), (2, .ref (gA G (41 + 0))), (3, .ref (gA G (41 + 27))), (4, .int x4)] → B_law_1941 xs Lth k_23 X M L x4 = some (1 : Int32) → W p l e room_1 s m #[Value.ref b] below meth c H locs cells slots (lw_Z below #[Value.ref b] s) (F0 m 1941 ls []) := by
  intro X M L x4 cells slots H locs ls hc hs hw hl hf
  unfold B_law_1941 at hf
  refine lv_aload_n C.1.1 C.1.2.1 dL_law__1941 rfl (lv_at hl 1 rfl) ?_
  obtain ⟨q316, h316, hf⟩ := o_bind hf
  refine aft_i hw (run_VX C hw clL_212 (As := []) (rest := []) oX_0 (c_X8_lone h316) rfl hl.1 rfl ⟨Nat.le_of_ble_eq_true rfl, Nat.le_of_ble_eq_true rfl⟩ ⟨by show cells ≤ 601024; omega, by show slots ≤ 7293033; omega⟩ rfl (Nat.le_of_ble_eq_true rfl) dL_law__1942) (fun H locs hw => ?_)
  refine lv_aload_n C.1.1 C.1.2.1 dL_law__1945 rfl (lv_at hl 2 rfl) ?_
  obtain ⟨q317, h317, hf⟩ := o_bind hf
  refine aft_i hw (run_VM C hw clL_215 (As := []) (rest := [.int q316]) oM_0 (c_X9_lone h317) rfl hl.1 rfl ⟨Nat.le_of_ble_eq_true rfl, Nat.le_of_ble_eq_true rfl⟩ ⟨by show cells ≤ 601024; omega, by show slots ≤ 7293033; omega⟩ rfl (Nat.le_of_ble_eq_true rfl) dL_law__1946) (fun H locs hw => ?_)
  refine lv_icmp_eq (tgt := 2364) C.1.1 C.1.2.1 dL_law__1949 (by decide) (fun c318 => ?_) (fun c318 => ?_)
  · have hf := o_t hf c318
    refine lv_iinc (v := (x4 + (9 : Int32))) (lv' := [(4, .int (x4 + (9 : Int32))), (0, .ref b), (1, .ref (gA G 0)), (2, .ref (gA G (41 + 0))), (3, .ref (gA G (41 + 27)))]) C.1.1 C.1.2.1 dL_law__2364 hl (k := 4) rfl rfl (by decide) rfl (fun ls hl => ?_)
    refine lv_goto (tgt := 23) C.1.1 C.1.2.1 dL_law__2367 (by decide) ?_
    exact hk_23 X q317.1 L (x4 + (9 : Int32)) _ _ _ _ _ (by omega) (by omega) hw (lv_sub hl [1, 2, 3, 4, 0] rfl) hf
  · have hf := o_f hf c318
    refine lv_iconst (v := (0 : Int32)) C.1.1 C.1.2.1 dL_law__1952 rfl ?_
    exact absurd (Option.some.inj hf) (by decide)
set_option maxRecDepth 20000 in
set_option maxHeartbeats 4000000 in
theorem wB_law_1954 {G : GP} {l : Launch} {p : Program} {e : Env} {s : State} {m : MethodId} {below : List Frame} {meth : Method} {c : Code} {b Lth : Nat} {xs : Nat → Int32} (C : Cx G p s m #[Value.ref b] c cL_law_ 8 RL) (hr : meth.sig.returnType = ret) (hlk : meth.locks = false) (hst : l.stackTraces = false) (hnL : 41 + 27 < gN G) (hX : va_X b Lth xs s s.heap) (hbl : b < s.heap.size) (hbA : ¬ AB G b) (hBs : gB G = s.heap.size) {cB sB : Nat} (hcB : cB ≤ 601024) (hsB : sB ≤ 7293033) {k_23 : TX → TX → TL → Int32 → Option Int32} (hk_23 : ∀ (X : TX) (M : TX) (L : TL) (x4 : Int32) (cells slots : Nat) (H : Heap) (locs : List Loc) (ls : Array Slot), cells ≤ cB → slots ≤ sB → Wh G s X M L H locs → lv_has ls 8 [(0, .ref b), (1, .ref (gA G 0)), (2, .ref (gA G (41 + 0))), (3, .ref (gA G (41 + 27))), (4, .int x4)] → k_23 X M L x4 = some (1 : Int32) → W p l e room_1 s m #[Value.ref b] below meth c H locs cells slots (lw_Z below #[Value.ref b] s) (F0 m 23 ls [])) : ∀ (X : TX) (M : TX) (L : TL) (x4 : Int32) (cells slots : Nat) (H : Heap) (locs : List Loc) (ls : Array Slot), cells + 4 ≤ cB → slots + 24 ≤ sB → Wh G s X M L H locs → lv_has ls 8 [(0, .ref b), (1, .ref (gA G 0)), (2, .ref (gA G (41 + 0))), (3, .ref (gA G (41 + 27))), (4, .int x4)] → B_law_1954 xs Lth k_23 X M L x4 = some (1 : Int32) → W p l e room_1 s m #[Value.ref b] below meth c H locs cells slots (lw_Z below #[Value.ref b] s) (F0 m 1954 ls []) := by
  intro X M L x4 cells slots H locs ls hc hs hw hl hf
  unfold B_law_1954 at hf
  refine lv_aload_n C.1.1 C.1.2.1 dL_law__1954 rfl (lv_at hl 1 rfl) ?_
  refine lv_aload_n C.1.1 C.1.2.1 dL_law__1955 rfl (lv_at hl 0 rfl) ?_
  refine lv_iload C.1.1 C.1.2.1 dL_law__1956 (lv_at hl 4 rfl) ?_
  refine lv_iconst (v := (1 : Int32)) C.1.1 C.1.2.1 dL_law__1958 rfl ?_
  refine lv_iadd C.1.1 C.1.2.1 dL_law__1959 ?_
  have g320 := inb_in (o_g hf).1
  have hf := (o_g hf).2
  refine va_sld C.1.1 C.1.2.1 hX hbl hbA hw.2 g320 dL_law__1960 ?_
  refine lv_aload_n C.1.1 C.1.2.1 dL_law__1961 rfl (lv_at hl 3 rfl) ?_
  obtain ⟨q321, h321, hf⟩ := o_bind hf
  refine x_wrap (np := 3) C hw ⟨(tb6 21 rfl rfl), (tb6 22 rfl rfl), (tb1 0 rfl rfl), (tb6 23 rfl rfl)⟩ (As := [.ref (gA G 0), .int (xs (Int32.toNatClampNeg (x4 + (1 : Int32)))), .ref (gA G (41 + 27))]) (rest := []) (c_L_cluster hst hnL h321) (by decide +kernel) hl.1 rfl ⟨Nat.le_of_ble_eq_true rfl, Nat.le_of_ble_eq_true rfl⟩ ⟨by show cells + 1 ≤ 601024; omega, by show slots + 6 * 1 ≤ 7293033; omega⟩ rfl (Nat.le_of_ble_eq_true rfl) dL_law__1962 (fun H locs hw => ?_)
  refine lv_istore (lv' := [(5, .int q321.2.2), (0, .ref b), (1, .ref (gA G 0)), (2, .ref (gA G (41 + 0))), (3, .ref (gA G (41 + 27))), (4, .int x4)]) C.1.1 C.1.2.1 dL_law__1965 hl (by decide) rfl (fun ls hl => ?_)
  refine lv_aload_n C.1.1 C.1.2.1 dL_law__1967 rfl (lv_at hl 3 rfl) ?_
  refine lv_aload_n C.1.1 C.1.2.1 dL_law__1968 rfl (lv_at hl 1 rfl) ?_
  refine lv_iload C.1.1 C.1.2.1 dL_law__1969 (lv_at hl 5 rfl) ?_
  refine lv_iconst (v := (1 : Int32)) C.1.1 C.1.2.1 dL_law__1971 rfl ?_
  refine lv_iadd C.1.1 C.1.2.1 dL_law__1972 ?_
  have g322 := inb_in (o_g hf).1
  have hf := (o_g hf).2
  refine va_sld C.1.1 C.1.2.1 hX hbl hbA hw.2 g322 dL_law__1973 ?_
  obtain ⟨q323, h323, hf⟩ := o_bind hf
  refine aft_i hw (run_VM C hw clL_218 (As := [.int (xs (Int32.toNatClampNeg (x4 + (1 : Int32))))]) (rest := []) oM_0 (c_X9_cluster h323) rfl hl.1 rfl ⟨Nat.le_of_ble_eq_true rfl, Nat.le_of_ble_eq_true rfl⟩ ⟨by show cells + 1 ≤ 601024; omega, by show slots + 6 * 1 ≤ 7293033; omega⟩ rfl (Nat.le_of_ble_eq_true rfl) dL_law__1974) (fun H locs hw => ?_)
  refine lv_istore (lv' := [(6, .int q323.2), (5, .int q321.2.2), (0, .ref b), (1, .ref (gA G 0)), (2, .ref (gA G (41 + 0))), (3, .ref (gA G (41 + 27))), (4, .int x4)]) C.1.1 C.1.2.1 dL_law__1977 hl (by decide) rfl (fun ls hl => ?_)
  refine lv_aload_n C.1.1 C.1.2.1 dL_law__1979 rfl (lv_at hl 4 rfl) ?_
  obtain ⟨q324, h324, hf⟩ := o_bind hf
  refine aft_i hw (run_VM C hw clL_121 (As := []) (rest := []) oM_0 (c_X9_thrown h324) rfl hl.1 rfl ⟨Nat.le_of_ble_eq_true rfl, Nat.le_of_ble_eq_true rfl⟩ ⟨by show cells + 1 ≤ 601024; omega, by show slots + 6 * 1 ≤ 7293033; omega⟩ rfl (Nat.le_of_ble_eq_true rfl) dL_law__1980) (fun H locs hw => ?_)
  refine lv_iload C.1.1 C.1.2.1 dL_law__1983 (lv_at hl 1 rfl) ?_
  refine lv_icmp_eq (tgt := 1990) C.1.1 C.1.2.1 dL_law__1985 (by decide) (fun c325 => ?_) (fun c325 => ?_)
  · have hf := o_t hf c325
    refine lv_iload C.1.1 C.1.2.1 dL_law__1990 (lv_at hl 1 rfl) ?_
    refine lv_if_ne (tgt := 2007) C.1.1 C.1.2.1 dL_law__1992 (by decide) (fun c326 => ?_) (fun c326 => ?_)
    · have hf := o_f hf c326
      refine lv_goto (tgt := 2364) C.1.1 C.1.2.1 dL_law__2007 (by decide) ?_
      refine lv_iinc (v := (x4 + (9 : Int32))) (lv' := [(4, .int (x4 + (9 : Int32))), (6, .int q323.2), (5, .int q321.2.2), (0, .ref b), (1, .ref (gA G 0)), (2, .ref (gA G (41 + 0))), (3, .ref (gA G (41 + 27)))]) C.1.1 C.1.2.1 dL_law__2364 hl (k := 6) rfl rfl (by decide) rfl (fun ls hl => ?_)
      refine lv_goto (tgt := 23) C.1.1 C.1.2.1 dL_law__2367 (by decide) ?_
      exact hk_23 q321.1 q323.1 q321.2.1 (x4 + (9 : Int32)) _ _ _ _ _ (by omega) (by omega) hw (lv_sub hl [3, 4, 5, 6, 0] rfl) hf
    · have hf := o_t hf c326
      refine lv_aload_n C.1.1 C.1.2.1 dL_law__1995 rfl (lv_at hl 5 rfl) ?_
      refine lv_iconst (v := (0 : Int32)) C.1.1 C.1.2.1 dL_law__1996 rfl ?_
      have g327 := inb_in (o_g hf).1
      have hf := (o_g hf).2
      refine l_ald C hw lM_27 hnL g327 dL_law__1997 ?_
      refine lv_iload C.1.1 C.1.2.1 dL_law__1998 (lv_at hl 0 rfl) ?_
      refine lv_i2l (v := (Int32.toInt64 q323.2)) C.1.1 C.1.2.1 dL_law__2000 rfl ?_
      refine W.lcmp C.1.1 C.1.2.1 dL_law__2001 ?_
      refine lv_if_eq (tgt := 2007) C.1.1 C.1.2.1 dL_law__2002 (by decide) (fun c328 => ?_) (fun c328 => ?_)
      · have hf := o_t hf c328
        refine lv_goto (tgt := 2364) C.1.1 C.1.2.1 dL_law__2007 (by decide) ?_
        refine lv_iinc (v := (x4 + (9 : Int32))) (lv' := [(4, .int (x4 + (9 : Int32))), (6, .int q323.2), (5, .int q321.2.2), (0, .ref b), (1, .ref (gA G 0)), (2, .ref (gA G (41 + 0))), (3, .ref (gA G (41 + 27)))]) C.1.1 C.1.2.1 dL_law__2364 hl (k := 6) rfl rfl (by decide) rfl (fun ls hl => ?_)
        refine lv_goto (tgt := 23) C.1.1 C.1.2.1 dL_law__2367 (by decide) ?_
        exact hk_23 q321.1 q323.1 q321.2.1 (x4 + (9 : Int32)) _ _ _ _ _ (by omega) (by omega) hw (lv_sub hl [3, 4, 5, 6, 0] rfl) hf
      · have hf := o_f hf c328
        refine lv_iconst (v := (0 : Int32)) C.1.1 C.1.2.1 dL_law__2005 rfl ?_
        exact absurd (Option.some.inj hf) (by decide)
  · have hf := o_f hf c325
    refine lv_iconst (v := (0 : Int32)) C.1.1 C.1.2.1 dL_law__1988 rfl ?_
    exact absurd (Option.some.inj hf) (by decide)
set_option maxRecDepth 20000 in
set_option maxHeartbeats 4000000 in
theorem wB_law_2010 {G : GP} {l : Launch} {p : Program} {e : Env} {s : State} {m : MethodId} {below : List Frame} {meth : Method} {c : Code} {b Lth : Nat} {xs : Nat → Int32} (C : Cx G p s m #[Value.ref b] c cL_law_ 8 RL) (hr : meth.sig.returnType = ret) (hlk : meth.locks = false) (hst : l.stackTraces = false) (hnL : 41 + 27 < gN G) (hX : va_X b Lth xs s s.heap) (hbl : b < s.heap.size) (hbA : ¬ AB G b) (hBs : gB G = s.heap.size) {cB sB : Nat} (hcB : cB ≤ 601024) (hsB : sB ≤ 7293033) {k_23 : TX → TX → TL → Int32 → Option Int32} (hk_23 : ∀ (X : TX) (M : TX) (L : TL) (x4 : Int32) (cells slots : Nat) (H : Heap) (locs : List Loc) (ls : Array Slot), cells ≤ cB → slots ≤ sB → Wh G s X M L H locs → lv_has ls 8 [(0, .ref b), (1, .ref (gA G 0)), (2, .ref (gA G (41 + 0))), (3, .ref (gA G (41 + 27))), (4, .int x4)] → k_23 X M L x4 = some (1 : Int32) → W p l e room_1 s m #[Value.ref b] below meth c H locs cells slots (lw_Z below #[Value.ref b] s) (F0 m 23 ls [])) : ∀ (X : TX) (M : TX) (L : TL) (x4 : Int32) (cells slots : Nat) (H : Heap) (locs : List Loc) (ls : Array Slot), cells + 4 ≤ cB → slots + 24 ≤ sB → Wh G s X M L H locs → lv_has ls 8 [(0, .ref b), (1, .ref (gA G 0)), (2, .ref (gA G (41 + 0))), (3, .ref (gA G (41 + 27))), (4, .int x4)] → B_law_2010 xs Lth k_23 X M L x4 = some (1 : Int32) → W p l e room_1 s m #[Value.ref b] below meth c H locs cells slots (lw_Z below #[Value.ref b] s) (F0 m 2010 ls []) := by
  intro X M L x4 cells slots H locs ls hc hs hw hl hf
  unfold B_law_2010 at hf
  refine lv_aload_n C.1.1 C.1.2.1 dL_law__2010 rfl (lv_at hl 1 rfl) ?_
  refine lv_aload_n C.1.1 C.1.2.1 dL_law__2011 rfl (lv_at hl 0 rfl) ?_
  refine lv_iload C.1.1 C.1.2.1 dL_law__2012 (lv_at hl 4 rfl) ?_
  refine lv_iconst (v := (1 : Int32)) C.1.1 C.1.2.1 dL_law__2014 rfl ?_
  refine lv_iadd C.1.1 C.1.2.1 dL_law__2015 ?_
  have g330 := inb_in (o_g hf).1
  have hf := (o_g hf).2
  refine va_sld C.1.1 C.1.2.1 hX hbl hbA hw.2 g330 dL_law__2016 ?_
  refine lv_aload_n C.1.1 C.1.2.1 dL_law__2017 rfl (lv_at hl 0 rfl) ?_
  refine lv_iload C.1.1 C.1.2.1 dL_law__2018 (lv_at hl 4 rfl) ?_
  refine lv_iconst (v := (2 : Int32)) C.1.1 C.1.2.1 dL_law__2020 rfl ?_
  refine lv_iadd C.1.1 C.1.2.1 dL_law__2021 ?_
  have g331 := inb_in (o_g hf).1
  have hf := (o_g hf).2
  refine va_sld C.1.1 C.1.2.1 hX hbl hbA hw.2 g331 dL_law__2022 ?_
  refine lv_aload_n C.1.1 C.1.2.1 dL_law__2023 rfl (lv_at hl 3 rfl) ?_
  obtain ⟨q332, h332, hf⟩ := o_bind hf
  refine x_wrap (np := 4) C hw ⟨(tb6 29 rfl rfl), (tb6 30 rfl rfl), (tb1 0 rfl rfl), (tb6 31 rfl rfl)⟩ (As := [.ref (gA G 0), .int (xs (Int32.toNatClampNeg (x4 + (1 : Int32)))), .int (xs (Int32.toNatClampNeg (x4 + (2 : Int32)))), .ref (gA G (41 + 27))]) (rest := []) (c_L_strongest hst hnL h332) (by decide +kernel) hl.1 rfl ⟨Nat.le_of_ble_eq_true rfl, Nat.le_of_ble_eq_true rfl⟩ ⟨by show cells + 2 ≤ 601024; omega, by show slots + 6 * 2 ≤ 7293033; omega⟩ rfl (Nat.le_of_ble_eq_true rfl) dL_law__2024 (fun H locs hw => ?_)
  refine lv_istore (lv' := [(5, .int q332.2.2), (0, .ref b), (1, .ref (gA G 0)), (2, .ref (gA G (41 + 0))), (3, .ref (gA G (41 + 27))), (4, .int x4)]) C.1.1 C.1.2.1 dL_law__2027 hl (by decide) rfl (fun ls hl => ?_)
  refine lv_aload_n C.1.1 C.1.2.1 dL_law__2029 rfl (lv_at hl 3 rfl) ?_
  refine lv_aload_n C.1.1 C.1.2.1 dL_law__2030 rfl (lv_at hl 1 rfl) ?_
  refine lv_iload C.1.1 C.1.2.1 dL_law__2031 (lv_at hl 5 rfl) ?_
  refine lv_iconst (v := (1 : Int32)) C.1.1 C.1.2.1 dL_law__2033 rfl ?_
  refine lv_iadd C.1.1 C.1.2.1 dL_law__2034 ?_
  have g333 := inb_in (o_g hf).1
  have hf := (o_g hf).2
  refine va_sld C.1.1 C.1.2.1 hX hbl hbA hw.2 g333 dL_law__2035 ?_
  refine lv_aload_n C.1.1 C.1.2.1 dL_law__2036 rfl (lv_at hl 1 rfl) ?_
  refine lv_iload C.1.1 C.1.2.1 dL_law__2037 (lv_at hl 5 rfl) ?_
  refine lv_iconst (v := (2 : Int32)) C.1.1 C.1.2.1 dL_law__2039 rfl ?_
  refine lv_iadd C.1.1 C.1.2.1 dL_law__2040 ?_
  have g334 := inb_in (o_g hf).1
  have hf := (o_g hf).2
  refine va_sld C.1.1 C.1.2.1 hX hbl hbA hw.2 g334 dL_law__2041 ?_
  obtain ⟨q335, h335, hf⟩ := o_bind hf
  refine aft_i hw (run_VM C hw clL_221 (As := [.int (xs (Int32.toNatClampNeg (x4 + (1 : Int32)))), .int (xs (Int32.toNatClampNeg (x4 + (2 : Int32))))]) (rest := []) oM_0 (c_X9_strongest h335) rfl hl.1 rfl ⟨Nat.le_of_ble_eq_true rfl, Nat.le_of_ble_eq_true rfl⟩ ⟨by show cells + 2 ≤ 601024; omega, by show slots + 6 * 2 ≤ 7293033; omega⟩ rfl (Nat.le_of_ble_eq_true rfl) dL_law__2042) (fun H locs hw => ?_)
  refine lv_istore (lv' := [(6, .int q335.2), (5, .int q332.2.2), (0, .ref b), (1, .ref (gA G 0)), (2, .ref (gA G (41 + 0))), (3, .ref (gA G (41 + 27))), (4, .int x4)]) C.1.1 C.1.2.1 dL_law__2045 hl (by decide) rfl (fun ls hl => ?_)
  refine lv_aload_n C.1.1 C.1.2.1 dL_law__2047 rfl (lv_at hl 4 rfl) ?_
  obtain ⟨q336, h336, hf⟩ := o_bind hf
  refine aft_i hw (run_VM C hw clL_121 (As := []) (rest := []) oM_0 (c_X9_thrown h336) rfl hl.1 rfl ⟨Nat.le_of_ble_eq_true rfl, Nat.le_of_ble_eq_true rfl⟩ ⟨by show cells + 2 ≤ 601024; omega, by show slots + 6 * 2 ≤ 7293033; omega⟩ rfl (Nat.le_of_ble_eq_true rfl) dL_law__2048) (fun H locs hw => ?_)
  refine lv_iload C.1.1 C.1.2.1 dL_law__2051 (lv_at hl 1 rfl) ?_
  refine lv_icmp_eq (tgt := 2058) C.1.1 C.1.2.1 dL_law__2053 (by decide) (fun c337 => ?_) (fun c337 => ?_)
  · have hf := o_t hf c337
    refine lv_iload C.1.1 C.1.2.1 dL_law__2058 (lv_at hl 1 rfl) ?_
    refine lv_if_ne (tgt := 2075) C.1.1 C.1.2.1 dL_law__2060 (by decide) (fun c338 => ?_) (fun c338 => ?_)
    · have hf := o_f hf c338
      refine lv_goto (tgt := 2364) C.1.1 C.1.2.1 dL_law__2075 (by decide) ?_
      refine lv_iinc (v := (x4 + (9 : Int32))) (lv' := [(4, .int (x4 + (9 : Int32))), (6, .int q335.2), (5, .int q332.2.2), (0, .ref b), (1, .ref (gA G 0)), (2, .ref (gA G (41 + 0))), (3, .ref (gA G (41 + 27)))]) C.1.1 C.1.2.1 dL_law__2364 hl (k := 6) rfl rfl (by decide) rfl (fun ls hl => ?_)
      refine lv_goto (tgt := 23) C.1.1 C.1.2.1 dL_law__2367 (by decide) ?_
      exact hk_23 q332.1 q335.1 q332.2.1 (x4 + (9 : Int32)) _ _ _ _ _ (by omega) (by omega) hw (lv_sub hl [3, 4, 5, 6, 0] rfl) hf
    · have hf := o_t hf c338
      refine lv_aload_n C.1.1 C.1.2.1 dL_law__2063 rfl (lv_at hl 5 rfl) ?_
      refine lv_iconst (v := (0 : Int32)) C.1.1 C.1.2.1 dL_law__2064 rfl ?_
      have g339 := inb_in (o_g hf).1
      have hf := (o_g hf).2
      refine l_ald C hw lM_27 hnL g339 dL_law__2065 ?_
      refine lv_iload C.1.1 C.1.2.1 dL_law__2066 (lv_at hl 0 rfl) ?_
      refine lv_i2l (v := (Int32.toInt64 q335.2)) C.1.1 C.1.2.1 dL_law__2068 rfl ?_
      refine W.lcmp C.1.1 C.1.2.1 dL_law__2069 ?_
      refine lv_if_eq (tgt := 2075) C.1.1 C.1.2.1 dL_law__2070 (by decide) (fun c340 => ?_) (fun c340 => ?_)
      · have hf := o_t hf c340
        refine lv_goto (tgt := 2364) C.1.1 C.1.2.1 dL_law__2075 (by decide) ?_
        refine lv_iinc (v := (x4 + (9 : Int32))) (lv' := [(4, .int (x4 + (9 : Int32))), (6, .int q335.2), (5, .int q332.2.2), (0, .ref b), (1, .ref (gA G 0)), (2, .ref (gA G (41 + 0))), (3, .ref (gA G (41 + 27)))]) C.1.1 C.1.2.1 dL_law__2364 hl (k := 6) rfl rfl (by decide) rfl (fun ls hl => ?_)
        refine lv_goto (tgt := 23) C.1.1 C.1.2.1 dL_law__2367 (by decide) ?_
        exact hk_23 q332.1 q335.1 q332.2.1 (x4 + (9 : Int32)) _ _ _ _ _ (by omega) (by omega) hw (lv_sub hl [3, 4, 5, 6, 0] rfl) hf
      · have hf := o_f hf c340
        refine lv_iconst (v := (0 : Int32)) C.1.1 C.1.2.1 dL_law__2073 rfl ?_
        exact absurd (Option.some.inj hf) (by decide)
  · have hf := o_f hf c337
    refine lv_iconst (v := (0 : Int32)) C.1.1 C.1.2.1 dL_law__2056 rfl ?_
    exact absurd (Option.some.inj hf) (by decide)
set_option maxRecDepth 20000 in
set_option maxHeartbeats 4000000 in
theorem wB_law_2078 {G : GP} {l : Launch} {p : Program} {e : Env} {s : State} {m : MethodId} {below : List Frame} {meth : Method} {c : Code} {b Lth : Nat} {xs : Nat → Int32} (C : Cx G p s m #[Value.ref b] c cL_law_ 8 RL) (hr : meth.sig.returnType = ret) (hlk : meth.locks = false) (hst : l.stackTraces = false) (hnL : 41 + 27 < gN G) (hX : va_X b Lth xs s s.heap) (hbl : b < s.heap.size) (hbA : ¬ AB G b) (hBs : gB G = s.heap.size) {cB sB : Nat} (hcB : cB ≤ 601024) (hsB : sB ≤ 7293033) {k_23 : TX → TX → TL → Int32 → Option Int32} (hk_23 : ∀ (X : TX) (M : TX) (L : TL) (x4 : Int32) (cells slots : Nat) (H : Heap) (locs : List Loc) (ls : Array Slot), cells ≤ cB → slots ≤ sB → Wh G s X M L H locs → lv_has ls 8 [(0, .ref b), (1, .ref (gA G 0)), (2, .ref (gA G (41 + 0))), (3, .ref (gA G (41 + 27))), (4, .int x4)] → k_23 X M L x4 = some (1 : Int32) → W p l e room_1 s m #[Value.ref b] below meth c H locs cells slots (lw_Z below #[Value.ref b] s) (F0 m 23 ls [])) : ∀ (X : TX) (M : TX) (L : TL) (x4 : Int32) (cells slots : Nat) (H : Heap) (locs : List Loc) (ls : Array Slot), cells + 4 ≤ cB → slots + 24 ≤ sB → Wh G s X M L H locs → lv_has ls 8 [(0, .ref b), (1, .ref (gA G 0)), (2, .ref (gA G (41 + 0))), (3, .ref (gA G (41 + 27))), (4, .int x4)] → B_law_2078 xs Lth k_23 X M L x4 = some (1 : Int32) → W p l e room_1 s m #[Value.ref b] below meth c H locs cells slots (lw_Z below #[Value.ref b] s) (F0 m 2078 ls []) := by
  intro X M L x4 cells slots H locs ls hc hs hw hl hf
  unfold B_law_2078 at hf
  refine lv_aload_n C.1.1 C.1.2.1 dL_law__2078 rfl (lv_at hl 1 rfl) ?_
  refine lv_aload_n C.1.1 C.1.2.1 dL_law__2079 rfl (lv_at hl 0 rfl) ?_
  refine lv_iload C.1.1 C.1.2.1 dL_law__2080 (lv_at hl 4 rfl) ?_
  refine lv_iconst (v := (1 : Int32)) C.1.1 C.1.2.1 dL_law__2082 rfl ?_
  refine lv_iadd C.1.1 C.1.2.1 dL_law__2083 ?_
  have g342 := inb_in (o_g hf).1
  have hf := (o_g hf).2
  refine va_sld C.1.1 C.1.2.1 hX hbl hbA hw.2 g342 dL_law__2084 ?_
  refine lv_aload_n C.1.1 C.1.2.1 dL_law__2085 rfl (lv_at hl 0 rfl) ?_
  refine lv_iload C.1.1 C.1.2.1 dL_law__2086 (lv_at hl 4 rfl) ?_
  refine lv_iconst (v := (2 : Int32)) C.1.1 C.1.2.1 dL_law__2088 rfl ?_
  refine lv_iadd C.1.1 C.1.2.1 dL_law__2089 ?_
  have g343 := inb_in (o_g hf).1
  have hf := (o_g hf).2
  refine va_sld C.1.1 C.1.2.1 hX hbl hbA hw.2 g343 dL_law__2090 ?_
  refine lv_aload_n C.1.1 C.1.2.1 dL_law__2091 rfl (lv_at hl 0 rfl) ?_
  refine lv_iload C.1.1 C.1.2.1 dL_law__2092 (lv_at hl 4 rfl) ?_
  refine lv_iconst (v := (3 : Int32)) C.1.1 C.1.2.1 dL_law__2094 rfl ?_
  refine lv_iadd C.1.1 C.1.2.1 dL_law__2095 ?_
  have g344 := inb_in (o_g hf).1
  have hf := (o_g hf).2
  refine va_sld C.1.1 C.1.2.1 hX hbl hbA hw.2 g344 dL_law__2096 ?_
  refine lv_aload_n C.1.1 C.1.2.1 dL_law__2097 rfl (lv_at hl 0 rfl) ?_
  refine lv_iload C.1.1 C.1.2.1 dL_law__2098 (lv_at hl 4 rfl) ?_
  refine lv_iconst (v := (4 : Int32)) C.1.1 C.1.2.1 dL_law__2100 rfl ?_
  refine lv_iadd C.1.1 C.1.2.1 dL_law__2101 ?_
  have g345 := inb_in (o_g hf).1
  have hf := (o_g hf).2
  refine va_sld C.1.1 C.1.2.1 hX hbl hbA hw.2 g345 dL_law__2102 ?_
  refine lv_aload_n C.1.1 C.1.2.1 dL_law__2103 rfl (lv_at hl 3 rfl) ?_
  obtain ⟨q346, h346, hf⟩ := o_bind hf
  refine x_wrap (np := 6) C hw ⟨(tb6 36 rfl rfl), (tb6 37 rfl rfl), (tb1 0 rfl rfl), (tb6 38 rfl rfl)⟩ (As := [.ref (gA G 0), .int (xs (Int32.toNatClampNeg (x4 + (1 : Int32)))), .int (xs (Int32.toNatClampNeg (x4 + (2 : Int32)))), .int (xs (Int32.toNatClampNeg (x4 + (3 : Int32)))), .int (xs (Int32.toNatClampNeg (x4 + (4 : Int32)))), .ref (gA G (41 + 27))]) (rest := []) (c_L_time hst hnL h346) (by decide +kernel) hl.1 rfl ⟨Nat.le_of_ble_eq_true rfl, Nat.le_of_ble_eq_true rfl⟩ ⟨by show cells + 2 ≤ 601024; omega, by show slots + 6 * 2 ≤ 7293033; omega⟩ rfl (Nat.le_of_ble_eq_true rfl) dL_law__2104 (fun H locs hw => ?_)
  refine lv_istore (lv' := [(5, .int q346.2.2), (0, .ref b), (1, .ref (gA G 0)), (2, .ref (gA G (41 + 0))), (3, .ref (gA G (41 + 27))), (4, .int x4)]) C.1.1 C.1.2.1 dL_law__2107 hl (by decide) rfl (fun ls hl => ?_)
  refine lv_aload_n C.1.1 C.1.2.1 dL_law__2109 rfl (lv_at hl 3 rfl) ?_
  refine lv_aload_n C.1.1 C.1.2.1 dL_law__2110 rfl (lv_at hl 1 rfl) ?_
  refine lv_iload C.1.1 C.1.2.1 dL_law__2111 (lv_at hl 5 rfl) ?_
  refine lv_iconst (v := (1 : Int32)) C.1.1 C.1.2.1 dL_law__2113 rfl ?_
  refine lv_iadd C.1.1 C.1.2.1 dL_law__2114 ?_
  have g347 := inb_in (o_g hf).1
  have hf := (o_g hf).2
  refine va_sld C.1.1 C.1.2.1 hX hbl hbA hw.2 g347 dL_law__2115 ?_
  refine lv_aload_n C.1.1 C.1.2.1 dL_law__2116 rfl (lv_at hl 1 rfl) ?_
  refine lv_iload C.1.1 C.1.2.1 dL_law__2117 (lv_at hl 5 rfl) ?_
  refine lv_iconst (v := (2 : Int32)) C.1.1 C.1.2.1 dL_law__2119 rfl ?_
  refine lv_iadd C.1.1 C.1.2.1 dL_law__2120 ?_
  have g348 := inb_in (o_g hf).1
  have hf := (o_g hf).2
  refine va_sld C.1.1 C.1.2.1 hX hbl hbA hw.2 g348 dL_law__2121 ?_
  refine lv_aload_n C.1.1 C.1.2.1 dL_law__2122 rfl (lv_at hl 1 rfl) ?_
  refine lv_iload C.1.1 C.1.2.1 dL_law__2123 (lv_at hl 5 rfl) ?_
  refine lv_iconst (v := (3 : Int32)) C.1.1 C.1.2.1 dL_law__2125 rfl ?_
  refine lv_iadd C.1.1 C.1.2.1 dL_law__2126 ?_
  have g349 := inb_in (o_g hf).1
  have hf := (o_g hf).2
  refine va_sld C.1.1 C.1.2.1 hX hbl hbA hw.2 g349 dL_law__2127 ?_
  refine lv_aload_n C.1.1 C.1.2.1 dL_law__2128 rfl (lv_at hl 1 rfl) ?_
  refine lv_iload C.1.1 C.1.2.1 dL_law__2129 (lv_at hl 5 rfl) ?_
  refine lv_iconst (v := (4 : Int32)) C.1.1 C.1.2.1 dL_law__2131 rfl ?_
  refine lv_iadd C.1.1 C.1.2.1 dL_law__2132 ?_
  have g350 := inb_in (o_g hf).1
  have hf := (o_g hf).2
  refine va_sld C.1.1 C.1.2.1 hX hbl hbA hw.2 g350 dL_law__2133 ?_
  obtain ⟨q351, h351, hf⟩ := o_bind hf
  refine aft_i hw (run_VM C hw clL_224 (As := [.int (xs (Int32.toNatClampNeg (x4 + (1 : Int32)))), .int (xs (Int32.toNatClampNeg (x4 + (2 : Int32)))), .int (xs (Int32.toNatClampNeg (x4 + (3 : Int32)))), .int (xs (Int32.toNatClampNeg (x4 + (4 : Int32))))]) (rest := []) oM_0 (c_X9_time h351) rfl hl.1 rfl ⟨Nat.le_of_ble_eq_true rfl, Nat.le_of_ble_eq_true rfl⟩ ⟨by show cells + 2 ≤ 601024; omega, by show slots + 6 * 2 ≤ 7293033; omega⟩ rfl (Nat.le_of_ble_eq_true rfl) dL_law__2134) (fun H locs hw => ?_)
  refine lv_istore (lv' := [(6, .int q351.2), (5, .int q346.2.2), (0, .ref b), (1, .ref (gA G 0)), (2, .ref (gA G (41 + 0))), (3, .ref (gA G (41 + 27))), (4, .int x4)]) C.1.1 C.1.2.1 dL_law__2137 hl (by decide) rfl (fun ls hl => ?_)
  refine lv_aload_n C.1.1 C.1.2.1 dL_law__2139 rfl (lv_at hl 4 rfl) ?_
  obtain ⟨q352, h352, hf⟩ := o_bind hf
  refine aft_i hw (run_VM C hw clL_121 (As := []) (rest := []) oM_0 (c_X9_thrown h352) rfl hl.1 rfl ⟨Nat.le_of_ble_eq_true rfl, Nat.le_of_ble_eq_true rfl⟩ ⟨by show cells + 2 ≤ 601024; omega, by show slots + 6 * 2 ≤ 7293033; omega⟩ rfl (Nat.le_of_ble_eq_true rfl) dL_law__2140) (fun H locs hw => ?_)
  refine lv_iload C.1.1 C.1.2.1 dL_law__2143 (lv_at hl 1 rfl) ?_
  refine lv_icmp_eq (tgt := 2150) C.1.1 C.1.2.1 dL_law__2145 (by decide) (fun c353 => ?_) (fun c353 => ?_)
  · have hf := o_t hf c353
    refine lv_iload C.1.1 C.1.2.1 dL_law__2150 (lv_at hl 1 rfl) ?_
    refine lv_if_ne (tgt := 2167) C.1.1 C.1.2.1 dL_law__2152 (by decide) (fun c354 => ?_) (fun c354 => ?_)
    · have hf := o_f hf c354
      refine lv_goto (tgt := 2364) C.1.1 C.1.2.1 dL_law__2167 (by decide) ?_
      refine lv_iinc (v := (x4 + (9 : Int32))) (lv' := [(4, .int (x4 + (9 : Int32))), (6, .int q351.2), (5, .int q346.2.2), (0, .ref b), (1, .ref (gA G 0)), (2, .ref (gA G (41 + 0))), (3, .ref (gA G (41 + 27)))]) C.1.1 C.1.2.1 dL_law__2364 hl (k := 6) rfl rfl (by decide) rfl (fun ls hl => ?_)
      refine lv_goto (tgt := 23) C.1.1 C.1.2.1 dL_law__2367 (by decide) ?_
      exact hk_23 q346.1 q351.1 q346.2.1 (x4 + (9 : Int32)) _ _ _ _ _ (by omega) (by omega) hw (lv_sub hl [3, 4, 5, 6, 0] rfl) hf
    · have hf := o_t hf c354
      refine lv_aload_n C.1.1 C.1.2.1 dL_law__2155 rfl (lv_at hl 5 rfl) ?_
      refine lv_iconst (v := (0 : Int32)) C.1.1 C.1.2.1 dL_law__2156 rfl ?_
      have g355 := inb_in (o_g hf).1
      have hf := (o_g hf).2
      refine l_ald C hw lM_27 hnL g355 dL_law__2157 ?_
      refine lv_iload C.1.1 C.1.2.1 dL_law__2158 (lv_at hl 0 rfl) ?_
      refine lv_i2l (v := (Int32.toInt64 q351.2)) C.1.1 C.1.2.1 dL_law__2160 rfl ?_
      refine W.lcmp C.1.1 C.1.2.1 dL_law__2161 ?_
      refine lv_if_eq (tgt := 2167) C.1.1 C.1.2.1 dL_law__2162 (by decide) (fun c356 => ?_) (fun c356 => ?_)
      · have hf := o_t hf c356
        refine lv_goto (tgt := 2364) C.1.1 C.1.2.1 dL_law__2167 (by decide) ?_
        refine lv_iinc (v := (x4 + (9 : Int32))) (lv' := [(4, .int (x4 + (9 : Int32))), (6, .int q351.2), (5, .int q346.2.2), (0, .ref b), (1, .ref (gA G 0)), (2, .ref (gA G (41 + 0))), (3, .ref (gA G (41 + 27)))]) C.1.1 C.1.2.1 dL_law__2364 hl (k := 6) rfl rfl (by decide) rfl (fun ls hl => ?_)
        refine lv_goto (tgt := 23) C.1.1 C.1.2.1 dL_law__2367 (by decide) ?_
        exact hk_23 q346.1 q351.1 q346.2.1 (x4 + (9 : Int32)) _ _ _ _ _ (by omega) (by omega) hw (lv_sub hl [3, 4, 5, 6, 0] rfl) hf
      · have hf := o_f hf c356
        refine lv_iconst (v := (0 : Int32)) C.1.1 C.1.2.1 dL_law__2165 rfl ?_
        exact absurd (Option.some.inj hf) (by decide)
  · have hf := o_f hf c353
    refine lv_iconst (v := (0 : Int32)) C.1.1 C.1.2.1 dL_law__2148 rfl ?_
    exact absurd (Option.some.inj hf) (by decide)
set_option maxRecDepth 20000 in
set_option maxHeartbeats 4000000 in
theorem wB_law_2170 {G : GP} {l : Launch} {p : Program} {e : Env} {s : State} {m : MethodId} {below : List Frame} {meth : Method} {c : Code} {b Lth : Nat} {xs : Nat → Int32} (C : Cx G p s m #[Value.ref b] c cL_law_ 8 RL) (hr : meth.sig.returnType = ret) (hlk : meth.locks = false) (hst : l.stackTraces = false) (hnL : 41 + 27 < gN G) (hX : va_X b Lth xs s s.heap) (hbl : b < s.heap.size) (hbA : ¬ AB G b) (hBs : gB G = s.heap.size) {cB sB : Nat} (hcB : cB ≤ 601024) (hsB : sB ≤ 7293033) {k_23 : TX → TX → TL → Int32 → Option Int32} (hk_23 : ∀ (X : TX) (M : TX) (L : TL) (x4 : Int32) (cells slots : Nat) (H : Heap) (locs : List Loc) (ls : Array Slot), cells ≤ cB → slots ≤ sB → Wh G s X M L H locs → lv_has ls 8 [(0, .ref b), (1, .ref (gA G 0)), (2, .ref (gA G (41 + 0))), (3, .ref (gA G (41 + 27))), (4, .int x4)] → k_23 X M L x4 = some (1 : Int32) → W p l e room_1 s m #[Value.ref b] below meth c H locs cells slots (lw_Z below #[Value.ref b] s) (F0 m 23 ls [])) : ∀ (X : TX) (M : TX) (L : TL) (x4 : Int32) (cells slots : Nat) (H : Heap) (locs : List Loc) (ls : Array Slot), cells + 4 ≤ cB → slots + 24 ≤ sB → Wh G s X M L H locs → lv_has ls 8 [(0, .ref b), (1, .ref (gA G 0)), (2, .ref (gA G (41 + 0))), (3, .ref (gA G (41 + 27))), (4, .int x4)] → B_law_2170 xs Lth k_23 X M L x4 = some (1 : Int32) → W p l e room_1 s m #[Value.ref b] below meth c H locs cells slots (lw_Z below #[Value.ref b] s) (F0 m 2170 ls []) := by
  intro X M L x4 cells slots H locs ls hc hs hw hl hf
  unfold B_law_2170 at hf
  refine lv_aload_n C.1.1 C.1.2.1 dL_law__2170 rfl (lv_at hl 1 rfl) ?_
  refine lv_aload_n C.1.1 C.1.2.1 dL_law__2171 rfl (lv_at hl 0 rfl) ?_
  refine lv_iload C.1.1 C.1.2.1 dL_law__2172 (lv_at hl 4 rfl) ?_
  refine lv_iconst (v := (1 : Int32)) C.1.1 C.1.2.1 dL_law__2174 rfl ?_
  refine lv_iadd C.1.1 C.1.2.1 dL_law__2175 ?_
  have g358 := inb_in (o_g hf).1
  have hf := (o_g hf).2
  refine va_sld C.1.1 C.1.2.1 hX hbl hbA hw.2 g358 dL_law__2176 ?_
  refine lv_aload_n C.1.1 C.1.2.1 dL_law__2177 rfl (lv_at hl 0 rfl) ?_
  refine lv_iload C.1.1 C.1.2.1 dL_law__2178 (lv_at hl 4 rfl) ?_
  refine lv_iconst (v := (2 : Int32)) C.1.1 C.1.2.1 dL_law__2180 rfl ?_
  refine lv_iadd C.1.1 C.1.2.1 dL_law__2181 ?_
  have g359 := inb_in (o_g hf).1
  have hf := (o_g hf).2
  refine va_sld C.1.1 C.1.2.1 hX hbl hbA hw.2 g359 dL_law__2182 ?_
  refine lv_aload_n C.1.1 C.1.2.1 dL_law__2183 rfl (lv_at hl 0 rfl) ?_
  refine lv_iload C.1.1 C.1.2.1 dL_law__2184 (lv_at hl 4 rfl) ?_
  refine lv_iconst (v := (3 : Int32)) C.1.1 C.1.2.1 dL_law__2186 rfl ?_
  refine lv_iadd C.1.1 C.1.2.1 dL_law__2187 ?_
  have g360 := inb_in (o_g hf).1
  have hf := (o_g hf).2
  refine va_sld C.1.1 C.1.2.1 hX hbl hbA hw.2 g360 dL_law__2188 ?_
  refine lv_aload_n C.1.1 C.1.2.1 dL_law__2189 rfl (lv_at hl 0 rfl) ?_
  refine lv_iload C.1.1 C.1.2.1 dL_law__2190 (lv_at hl 4 rfl) ?_
  refine lv_iconst (v := (4 : Int32)) C.1.1 C.1.2.1 dL_law__2192 rfl ?_
  refine lv_iadd C.1.1 C.1.2.1 dL_law__2193 ?_
  have g361 := inb_in (o_g hf).1
  have hf := (o_g hf).2
  refine va_sld C.1.1 C.1.2.1 hX hbl hbA hw.2 g361 dL_law__2194 ?_
  refine lv_aload_n C.1.1 C.1.2.1 dL_law__2195 rfl (lv_at hl 0 rfl) ?_
  refine lv_iload C.1.1 C.1.2.1 dL_law__2196 (lv_at hl 4 rfl) ?_
  refine lv_iconst (v := (5 : Int32)) C.1.1 C.1.2.1 dL_law__2198 rfl ?_
  refine lv_iadd C.1.1 C.1.2.1 dL_law__2199 ?_
  have g362 := inb_in (o_g hf).1
  have hf := (o_g hf).2
  refine va_sld C.1.1 C.1.2.1 hX hbl hbA hw.2 g362 dL_law__2200 ?_
  refine lv_aload_n C.1.1 C.1.2.1 dL_law__2201 rfl (lv_at hl 0 rfl) ?_
  refine lv_iload C.1.1 C.1.2.1 dL_law__2202 (lv_at hl 4 rfl) ?_
  refine lv_bipush (v := (6 : Int32)) C.1.1 C.1.2.1 dL_law__2204 rfl ?_
  refine lv_iadd C.1.1 C.1.2.1 dL_law__2206 ?_
  have g363 := inb_in (o_g hf).1
  have hf := (o_g hf).2
  refine va_sld C.1.1 C.1.2.1 hX hbl hbA hw.2 g363 dL_law__2207 ?_
  refine lv_aload_n C.1.1 C.1.2.1 dL_law__2208 rfl (lv_at hl 3 rfl) ?_
  obtain ⟨q364, h364, hf⟩ := o_bind hf
  refine x_wrap (np := 8) C hw ⟨(tb6 58 rfl rfl), (tb6 59 rfl rfl), (tb1 0 rfl rfl), (tb6 60 rfl rfl)⟩ (As := [.ref (gA G 0), .int (xs (Int32.toNatClampNeg (x4 + (1 : Int32)))), .int (xs (Int32.toNatClampNeg (x4 + (2 : Int32)))), .int (xs (Int32.toNatClampNeg (x4 + (3 : Int32)))), .int (xs (Int32.toNatClampNeg (x4 + (4 : Int32)))), .int (xs (Int32.toNatClampNeg (x4 + (5 : Int32)))), .int (xs (Int32.toNatClampNeg (x4 + (6 : Int32)))), .ref (gA G (41 + 27))]) (rest := []) (c_L_span hst hnL h364) (by decide +kernel) hl.1 rfl ⟨Nat.le_of_ble_eq_true rfl, Nat.le_of_ble_eq_true rfl⟩ ⟨by show cells + 2 ≤ 601024; omega, by show slots + 6 * 2 ≤ 7293033; omega⟩ rfl (Nat.le_of_ble_eq_true rfl) dL_law__2209 (fun H locs hw => ?_)
  refine lv_istore (lv' := [(5, .int q364.2.2), (0, .ref b), (1, .ref (gA G 0)), (2, .ref (gA G (41 + 0))), (3, .ref (gA G (41 + 27))), (4, .int x4)]) C.1.1 C.1.2.1 dL_law__2212 hl (by decide) rfl (fun ls hl => ?_)
  refine lv_aload_n C.1.1 C.1.2.1 dL_law__2214 rfl (lv_at hl 3 rfl) ?_
  refine lv_aload_n C.1.1 C.1.2.1 dL_law__2215 rfl (lv_at hl 1 rfl) ?_
  refine lv_iload C.1.1 C.1.2.1 dL_law__2216 (lv_at hl 5 rfl) ?_
  refine lv_iconst (v := (1 : Int32)) C.1.1 C.1.2.1 dL_law__2218 rfl ?_
  refine lv_iadd C.1.1 C.1.2.1 dL_law__2219 ?_
  have g365 := inb_in (o_g hf).1
  have hf := (o_g hf).2
  refine va_sld C.1.1 C.1.2.1 hX hbl hbA hw.2 g365 dL_law__2220 ?_
  refine lv_aload_n C.1.1 C.1.2.1 dL_law__2221 rfl (lv_at hl 1 rfl) ?_
  refine lv_iload C.1.1 C.1.2.1 dL_law__2222 (lv_at hl 5 rfl) ?_
  refine lv_iconst (v := (2 : Int32)) C.1.1 C.1.2.1 dL_law__2224 rfl ?_
  refine lv_iadd C.1.1 C.1.2.1 dL_law__2225 ?_
  have g366 := inb_in (o_g hf).1
  have hf := (o_g hf).2
  refine va_sld C.1.1 C.1.2.1 hX hbl hbA hw.2 g366 dL_law__2226 ?_
  refine lv_aload_n C.1.1 C.1.2.1 dL_law__2227 rfl (lv_at hl 1 rfl) ?_
  refine lv_iload C.1.1 C.1.2.1 dL_law__2228 (lv_at hl 5 rfl) ?_
  refine lv_iconst (v := (3 : Int32)) C.1.1 C.1.2.1 dL_law__2230 rfl ?_
  refine lv_iadd C.1.1 C.1.2.1 dL_law__2231 ?_
  have g367 := inb_in (o_g hf).1
  have hf := (o_g hf).2
  refine va_sld C.1.1 C.1.2.1 hX hbl hbA hw.2 g367 dL_law__2232 ?_
  refine lv_aload_n C.1.1 C.1.2.1 dL_law__2233 rfl (lv_at hl 1 rfl) ?_
  refine lv_iload C.1.1 C.1.2.1 dL_law__2234 (lv_at hl 5 rfl) ?_
  refine lv_iconst (v := (4 : Int32)) C.1.1 C.1.2.1 dL_law__2236 rfl ?_
  refine lv_iadd C.1.1 C.1.2.1 dL_law__2237 ?_
  have g368 := inb_in (o_g hf).1
  have hf := (o_g hf).2
  refine va_sld C.1.1 C.1.2.1 hX hbl hbA hw.2 g368 dL_law__2238 ?_
  refine lv_aload_n C.1.1 C.1.2.1 dL_law__2239 rfl (lv_at hl 1 rfl) ?_
  refine lv_iload C.1.1 C.1.2.1 dL_law__2240 (lv_at hl 5 rfl) ?_
  refine lv_iconst (v := (5 : Int32)) C.1.1 C.1.2.1 dL_law__2242 rfl ?_
  refine lv_iadd C.1.1 C.1.2.1 dL_law__2243 ?_
  have g369 := inb_in (o_g hf).1
  have hf := (o_g hf).2
  refine va_sld C.1.1 C.1.2.1 hX hbl hbA hw.2 g369 dL_law__2244 ?_
  refine lv_aload_n C.1.1 C.1.2.1 dL_law__2245 rfl (lv_at hl 1 rfl) ?_
  refine lv_iload C.1.1 C.1.2.1 dL_law__2246 (lv_at hl 5 rfl) ?_
  refine lv_bipush (v := (6 : Int32)) C.1.1 C.1.2.1 dL_law__2248 rfl ?_
  refine lv_iadd C.1.1 C.1.2.1 dL_law__2250 ?_
  have g370 := inb_in (o_g hf).1
  have hf := (o_g hf).2
  refine va_sld C.1.1 C.1.2.1 hX hbl hbA hw.2 g370 dL_law__2251 ?_
  obtain ⟨q371, h371, hf⟩ := o_bind hf
  refine aft_i hw (run_VM C hw clL_228 (As := [.int (xs (Int32.toNatClampNeg (x4 + (1 : Int32)))), .int (xs (Int32.toNatClampNeg (x4 + (2 : Int32)))), .int (xs (Int32.toNatClampNeg (x4 + (3 : Int32)))), .int (xs (Int32.toNatClampNeg (x4 + (4 : Int32)))), .int (xs (Int32.toNatClampNeg (x4 + (5 : Int32)))), .int (xs (Int32.toNatClampNeg (x4 + (6 : Int32))))]) (rest := []) oM_0 (c_X9_span h371) rfl hl.1 rfl ⟨Nat.le_of_ble_eq_true rfl, Nat.le_of_ble_eq_true rfl⟩ ⟨by show cells + 2 ≤ 601024; omega, by show slots + 6 * 2 ≤ 7293033; omega⟩ rfl (Nat.le_of_ble_eq_true rfl) dL_law__2252) (fun H locs hw => ?_)
  refine lv_istore (lv' := [(6, .int q371.2), (5, .int q364.2.2), (0, .ref b), (1, .ref (gA G 0)), (2, .ref (gA G (41 + 0))), (3, .ref (gA G (41 + 27))), (4, .int x4)]) C.1.1 C.1.2.1 dL_law__2255 hl (by decide) rfl (fun ls hl => ?_)
  refine lv_aload_n C.1.1 C.1.2.1 dL_law__2257 rfl (lv_at hl 4 rfl) ?_
  obtain ⟨q372, h372, hf⟩ := o_bind hf
  refine aft_i hw (run_VM C hw clL_121 (As := []) (rest := []) oM_0 (c_X9_thrown h372) rfl hl.1 rfl ⟨Nat.le_of_ble_eq_true rfl, Nat.le_of_ble_eq_true rfl⟩ ⟨by show cells + 2 ≤ 601024; omega, by show slots + 6 * 2 ≤ 7293033; omega⟩ rfl (Nat.le_of_ble_eq_true rfl) dL_law__2258) (fun H locs hw => ?_)
  refine lv_iload C.1.1 C.1.2.1 dL_law__2261 (lv_at hl 1 rfl) ?_
  refine lv_icmp_eq (tgt := 2268) C.1.1 C.1.2.1 dL_law__2263 (by decide) (fun c373 => ?_) (fun c373 => ?_)
  · have hf := o_t hf c373
    refine lv_iload C.1.1 C.1.2.1 dL_law__2268 (lv_at hl 1 rfl) ?_
    refine lv_if_ne (tgt := 2285) C.1.1 C.1.2.1 dL_law__2270 (by decide) (fun c374 => ?_) (fun c374 => ?_)
    · have hf := o_f hf c374
      refine lv_goto (tgt := 2364) C.1.1 C.1.2.1 dL_law__2285 (by decide) ?_
      refine lv_iinc (v := (x4 + (9 : Int32))) (lv' := [(4, .int (x4 + (9 : Int32))), (6, .int q371.2), (5, .int q364.2.2), (0, .ref b), (1, .ref (gA G 0)), (2, .ref (gA G (41 + 0))), (3, .ref (gA G (41 + 27)))]) C.1.1 C.1.2.1 dL_law__2364 hl (k := 6) rfl rfl (by decide) rfl (fun ls hl => ?_)
      refine lv_goto (tgt := 23) C.1.1 C.1.2.1 dL_law__2367 (by decide) ?_
      exact hk_23 q364.1 q371.1 q364.2.1 (x4 + (9 : Int32)) _ _ _ _ _ (by omega) (by omega) hw (lv_sub hl [3, 4, 5, 6, 0] rfl) hf
    · have hf := o_t hf c374
      refine lv_aload_n C.1.1 C.1.2.1 dL_law__2273 rfl (lv_at hl 5 rfl) ?_
      refine lv_iconst (v := (0 : Int32)) C.1.1 C.1.2.1 dL_law__2274 rfl ?_
      have g375 := inb_in (o_g hf).1
      have hf := (o_g hf).2
      refine l_ald C hw lM_27 hnL g375 dL_law__2275 ?_
      refine lv_iload C.1.1 C.1.2.1 dL_law__2276 (lv_at hl 0 rfl) ?_
      refine lv_i2l (v := (Int32.toInt64 q371.2)) C.1.1 C.1.2.1 dL_law__2278 rfl ?_
      refine W.lcmp C.1.1 C.1.2.1 dL_law__2279 ?_
      refine lv_if_eq (tgt := 2285) C.1.1 C.1.2.1 dL_law__2280 (by decide) (fun c376 => ?_) (fun c376 => ?_)
      · have hf := o_t hf c376
        refine lv_goto (tgt := 2364) C.1.1 C.1.2.1 dL_law__2285 (by decide) ?_
        refine lv_iinc (v := (x4 + (9 : Int32))) (lv' := [(4, .int (x4 + (9 : Int32))), (6, .int q371.2), (5, .int q364.2.2), (0, .ref b), (1, .ref (gA G 0)), (2, .ref (gA G (41 + 0))), (3, .ref (gA G (41 + 27)))]) C.1.1 C.1.2.1 dL_law__2364 hl (k := 6) rfl rfl (by decide) rfl (fun ls hl => ?_)
        refine lv_goto (tgt := 23) C.1.1 C.1.2.1 dL_law__2367 (by decide) ?_
        exact hk_23 q364.1 q371.1 q364.2.1 (x4 + (9 : Int32)) _ _ _ _ _ (by omega) (by omega) hw (lv_sub hl [3, 4, 5, 6, 0] rfl) hf
      · have hf := o_f hf c376
        refine lv_iconst (v := (0 : Int32)) C.1.1 C.1.2.1 dL_law__2283 rfl ?_
        exact absurd (Option.some.inj hf) (by decide)
  · have hf := o_f hf c373
    refine lv_iconst (v := (0 : Int32)) C.1.1 C.1.2.1 dL_law__2266 rfl ?_
    exact absurd (Option.some.inj hf) (by decide)
set_option maxRecDepth 20000 in
set_option maxHeartbeats 4000000 in
theorem wB_law_2288 {G : GP} {l : Launch} {p : Program} {e : Env} {s : State} {m : MethodId} {below : List Frame} {meth : Method} {c : Code} {b Lth : Nat} {xs : Nat → Int32} (C : Cx G p s m #[Value.ref b] c cL_law_ 8 RL) (hr : meth.sig.returnType = ret) (hlk : meth.locks = false) (hst : l.stackTraces = false) (hnL : 41 + 27 < gN G) (hX : va_X b Lth xs s s.heap) (hbl : b < s.heap.size) (hbA : ¬ AB G b) (hBs : gB G = s.heap.size) {cB sB : Nat} (hcB : cB ≤ 601024) (hsB : sB ≤ 7293033) {k_23 : TX → TX → TL → Int32 → Option Int32} (hk_23 : ∀ (X : TX) (M : TX) (L : TL) (x4 : Int32) (cells slots : Nat) (H : Heap) (locs : List Loc) (ls : Array Slot), cells ≤ cB → slots ≤ sB → Wh G s X M L H locs → lv_has ls 8 [(0, .ref b), (1, .ref (gA G 0)), (2, .ref (gA G (41 + 0))), (3, .ref (gA G (41 + 27))), (4, .int x4)] → k_23 X M L x4 = some (1 : Int32) → W p l e room_1 s m #[Value.ref b] below meth c H locs cells slots (lw_Z below #[Value.ref b] s) (F0 m 23 ls [])) : ∀ (X : TX) (M : TX) (L : TL) (x4 : Int32) (cells slots : Nat) (H : Heap) (locs : List Loc) (ls : Array Slot), cells + 4 ≤ cB → slots + 24 ≤ sB → Wh G s X M L H locs → lv_has ls 8 [(0, .ref b), (1, .ref (gA G 0)), (2, .ref (gA G (41 + 0))), (3, .ref (gA G (41 + 27))), (4, .int x4)] → B_law_2288 xs Lth k_23 X M L x4 = some (1 : Int32) → W p l e room_1 s m #[Value.ref b] below meth c H locs cells slots (lw_Z below #[Value.ref b] s) (F0 m 2288 ls []) := by
  intro X M L x4 cells slots H locs ls hc hs hw hl hf
  unfold B_law_2288 at hf
  refine lv_aload_n C.1.1 C.1.2.1 dL_law__2288 rfl (lv_at hl 1 rfl) ?_
  obtain ⟨q378, h378, hf⟩ := o_bind hf
  refine aft_i hw (run_VX C hw clL_229 (As := []) (rest := []) oX_0 (c_X8_image h378) rfl hl.1 rfl ⟨Nat.le_of_ble_eq_true rfl, Nat.le_of_ble_eq_true rfl⟩ ⟨by show cells ≤ 601024; omega, by show slots ≤ 7293033; omega⟩ rfl (Nat.le_of_ble_eq_true rfl) dL_law__2289) (fun H locs hw => ?_)
  refine lv_aload_n C.1.1 C.1.2.1 dL_law__2292 rfl (lv_at hl 2 rfl) ?_
  obtain ⟨q379, h379, hf⟩ := o_bind hf
  refine aft_i hw (run_VM C hw clL_232 (As := []) (rest := [.int q378.2]) oM_0 (c_X9_image h379) rfl hl.1 rfl ⟨Nat.le_of_ble_eq_true rfl, Nat.le_of_ble_eq_true rfl⟩ ⟨by show cells ≤ 601024; omega, by show slots ≤ 7293033; omega⟩ rfl (Nat.le_of_ble_eq_true rfl) dL_law__2293) (fun H locs hw => ?_)
  refine lv_icmp_eq (tgt := 2364) C.1.1 C.1.2.1 dL_law__2296 (by decide) (fun c380 => ?_) (fun c380 => ?_)
  · have hf := o_t hf c380
    refine lv_iinc (v := (x4 + (9 : Int32))) (lv' := [(4, .int (x4 + (9 : Int32))), (0, .ref b), (1, .ref (gA G 0)), (2, .ref (gA G (41 + 0))), (3, .ref (gA G (41 + 27)))]) C.1.1 C.1.2.1 dL_law__2364 hl (k := 4) rfl rfl (by decide) rfl (fun ls hl => ?_)
    refine lv_goto (tgt := 23) C.1.1 C.1.2.1 dL_law__2367 (by decide) ?_
    exact hk_23 q378.1 q379.1 L (x4 + (9 : Int32)) _ _ _ _ _ (by omega) (by omega) hw (lv_sub hl [1, 2, 3, 4, 0] rfl) hf
  · have hf := o_f hf c380
    refine lv_iconst (v := (0 : Int32)) C.1.1 C.1.2.1 dL_law__2299 rfl ?_
    exact absurd (Option.some.inj hf) (by decide)
set_option maxRecDepth 20000 in
set_option maxHeartbeats 4000000 in
theorem wB_law_2301 {G : GP} {l : Launch} {p : Program} {e : Env} {s : State} {m : MethodId} {below : List Frame} {meth : Method} {c : Code} {b Lth : Nat} {xs : Nat → Int32} (C : Cx G p s m #[Value.ref b] c cL_law_ 8 RL) (hr : meth.sig.returnType = ret) (hlk : meth.locks = false) (hst : l.stackTraces = false) (hnL : 41 + 27 < gN G) (hX : va_X b Lth xs s s.heap) (hbl : b < s.heap.size) (hbA : ¬ AB G b) (hBs : gB G = s.heap.size) {cB sB : Nat} (hcB : cB ≤ 601024) (hsB : sB ≤ 7293033) {k_23 : TX → TX → TL → Int32 → Option Int32} (hk_23 : ∀ (X : TX) (M : TX) (L : TL) (x4 : Int32) (cells slots : Nat) (H : Heap) (locs : List Loc) (ls : Array Slot), cells ≤ cB → slots ≤ sB → Wh G s X M L H locs → lv_has ls 8 [(0, .ref b), (1, .ref (gA G 0)), (2, .ref (gA G (41 + 0))), (3, .ref (gA G (41 + 27))), (4, .int x4)] → k_23 X M L x4 = some (1 : Int32) → W p l e room_1 s m #[Value.ref b] below meth c H locs cells slots (lw_Z below #[Value.ref b] s) (F0 m 23 ls [])) : ∀ (X : TX) (M : TX) (L : TL) (x4 : Int32) (cells slots : Nat) (H : Heap) (locs : List Loc) (ls : Array Slot), cells + 4 ≤ cB → slots + 24 ≤ sB → Wh G s X M L H locs → lv_has ls 8 [(0, .ref b), (1, .ref (gA G 0)), (2, .ref (gA G (41 + 0))), (3, .ref (gA G (41 + 27))), (4, .int x4)] → B_law_2301 xs Lth k_23 X M L x4 = some (1 : Int32) → W p l e room_1 s m #[Value.ref b] below meth c H locs cells slots (lw_Z below #[Value.ref b] s) (F0 m 2301 ls []) := by
  intro X M L x4 cells slots H locs ls hc hs hw hl hf
  unfold B_law_2301 at hf
  refine lv_aload_n C.1.1 C.1.2.1 dL_law__2301 rfl (lv_at hl 1 rfl) ?_
  obtain ⟨q382, h382, hf⟩ := o_bind hf
  refine aft_i hw (run_VX C hw clL_233 (As := []) (rest := []) oX_0 (c_X8_restore h382) rfl hl.1 rfl ⟨Nat.le_of_ble_eq_true rfl, Nat.le_of_ble_eq_true rfl⟩ ⟨by show cells ≤ 601024; omega, by show slots ≤ 7293033; omega⟩ rfl (Nat.le_of_ble_eq_true rfl) dL_law__2302) (fun H locs hw => ?_)
  refine lv_aload_n C.1.1 C.1.2.1 dL_law__2305 rfl (lv_at hl 2 rfl) ?_
  obtain ⟨q383, h383, hf⟩ := o_bind hf
  refine aft_i hw (run_VM C hw clL_236 (As := []) (rest := [.int q382.2]) oM_0 (c_X9_restore h383) rfl hl.1 rfl ⟨Nat.le_of_ble_eq_true rfl, Nat.le_of_ble_eq_true rfl⟩ ⟨by show cells ≤ 601024; omega, by show slots ≤ 7293033; omega⟩ rfl (Nat.le_of_ble_eq_true rfl) dL_law__2306) (fun H locs hw => ?_)
  refine lv_icmp_eq (tgt := 2364) C.1.1 C.1.2.1 dL_law__2309 (by decide) (fun c384 => ?_) (fun c384 => ?_)
  · have hf := o_t hf c384
    refine lv_iinc (v := (x4 + (9 : Int32))) (lv' := [(4, .int (x4 + (9 : Int32))), (0, .ref b), (1, .ref (gA G 0)), (2, .ref (gA G (41 + 0))), (3, .ref (gA G (41 + 27)))]) C.1.1 C.1.2.1 dL_law__2364 hl (k := 4) rfl rfl (by decide) rfl (fun ls hl => ?_)
    refine lv_goto (tgt := 23) C.1.1 C.1.2.1 dL_law__2367 (by decide) ?_
    exact hk_23 q382.1 q383.1 L (x4 + (9 : Int32)) _ _ _ _ _ (by omega) (by omega) hw (lv_sub hl [1, 2, 3, 4, 0] rfl) hf
  · have hf := o_f hf c384
    refine lv_iconst (v := (0 : Int32)) C.1.1 C.1.2.1 dL_law__2312 rfl ?_
    exact absurd (Option.some.inj hf) (by decide)
set_option maxRecDepth 20000 in
set_option maxHeartbeats 4000000 in
theorem wB_law_2314 {G : GP} {l : Launch} {p : Program} {e : Env} {s : State} {m : MethodId} {below : List Frame} {meth : Method} {c : Code} {b Lth : Nat} {xs : Nat → Int32} (C : Cx G p s m #[Value.ref b] c cL_law_ 8 RL) (hr : meth.sig.returnType = ret) (hlk : meth.locks = false) (hst : l.stackTraces = false) (hnL : 41 + 27 < gN G) (hX : va_X b Lth xs s s.heap) (hbl : b < s.heap.size) (hbA : ¬ AB G b) (hBs : gB G = s.heap.size) {cB sB : Nat} (hcB : cB ≤ 601024) (hsB : sB ≤ 7293033) {k_23 : TX → TX → TL → Int32 → Option Int32} (hk_23 : ∀ (X : TX) (M : TX) (L : TL) (x4 : Int32) (cells slots : Nat) (H : Heap) (locs : List Loc) (ls : Array Slot), cells ≤ cB → slots ≤ sB → Wh G s X M L H locs → lv_has ls 8 [(0, .ref b), (1, .ref (gA G 0)), (2, .ref (gA G (41 + 0))), (3, .ref (gA G (41 + 27))), (4, .int x4)] → k_23 X M L x4 = some (1 : Int32) → W p l e room_1 s m #[Value.ref b] below meth c H locs cells slots (lw_Z below #[Value.ref b] s) (F0 m 23 ls [])) : ∀ (X : TX) (M : TX) (L : TL) (x4 : Int32) (cells slots : Nat) (H : Heap) (locs : List Loc) (ls : Array Slot), cells + 4 ≤ cB → slots + 24 ≤ sB → Wh G s X M L H locs → lv_has ls 8 [(0, .ref b), (1, .ref (gA G 0)), (2, .ref (gA G (41 + 0))), (3, .ref (gA G (41 + 27))), (4, .int x4)] → B_law_2314 xs Lth k_23 X M L x4 = some (1 : Int32) → W p l e room_1 s m #[Value.ref b] below meth c H locs cells slots (lw_Z below #[Value.ref b] s) (F0 m 2314 ls []) := by
  intro X M L x4 cells slots H locs ls hc hs hw hl hf
  unfold B_law_2314 at hf
  refine lv_aload_n C.1.1 C.1.2.1 dL_law__2314 rfl (lv_at hl 1 rfl) ?_
  refine lv_aload_n C.1.1 C.1.2.1 dL_law__2315 rfl (lv_at hl 0 rfl) ?_
  refine lv_iload C.1.1 C.1.2.1 dL_law__2316 (lv_at hl 4 rfl) ?_
  refine lv_iconst (v := (1 : Int32)) C.1.1 C.1.2.1 dL_law__2318 rfl ?_
  refine lv_iadd C.1.1 C.1.2.1 dL_law__2319 ?_
  have g386 := inb_in (o_g hf).1
  have hf := (o_g hf).2
  refine va_sld C.1.1 C.1.2.1 hX hbl hbA hw.2 g386 dL_law__2320 ?_
  obtain ⟨q387, h387, hf⟩ := o_bind hf
  refine aft_i hw (run_VX C hw clL_237 (As := [.int (xs (Int32.toNatClampNeg (x4 + (1 : Int32))))]) (rest := []) oX_0 (c_X8_status h387) rfl hl.1 rfl ⟨Nat.le_of_ble_eq_true rfl, Nat.le_of_ble_eq_true rfl⟩ ⟨by show cells ≤ 601024; omega, by show slots ≤ 7293033; omega⟩ rfl (Nat.le_of_ble_eq_true rfl) dL_law__2321) (fun H locs hw => ?_)
  refine lv_aload_n C.1.1 C.1.2.1 dL_law__2324 rfl (lv_at hl 2 rfl) ?_
  refine lv_aload_n C.1.1 C.1.2.1 dL_law__2325 rfl (lv_at hl 0 rfl) ?_
  refine lv_iload C.1.1 C.1.2.1 dL_law__2326 (lv_at hl 4 rfl) ?_
  refine lv_iconst (v := (1 : Int32)) C.1.1 C.1.2.1 dL_law__2328 rfl ?_
  refine lv_iadd C.1.1 C.1.2.1 dL_law__2329 ?_
  have g388 := inb_in (o_g hf).1
  have hf := (o_g hf).2
  refine va_sld C.1.1 C.1.2.1 hX hbl hbA hw.2 g388 dL_law__2330 ?_
  obtain ⟨q389, h389, hf⟩ := o_bind hf
  refine aft_i hw (run_VM C hw clL_240 (As := [.int (xs (Int32.toNatClampNeg (x4 + (1 : Int32))))]) (rest := [.int q387]) oM_0 (c_X9_status h389) rfl hl.1 rfl ⟨Nat.le_of_ble_eq_true rfl, Nat.le_of_ble_eq_true rfl⟩ ⟨by show cells ≤ 601024; omega, by show slots ≤ 7293033; omega⟩ rfl (Nat.le_of_ble_eq_true rfl) dL_law__2331) (fun H locs hw => ?_)
  refine lv_icmp_eq (tgt := 2364) C.1.1 C.1.2.1 dL_law__2334 (by decide) (fun c390 => ?_) (fun c390 => ?_)
  · have hf := o_t hf c390
    refine lv_iinc (v := (x4 + (9 : Int32))) (lv' := [(4, .int (x4 + (9 : Int32))), (0, .ref b), (1, .ref (gA G 0)), (2, .ref (gA G (41 + 0))), (3, .ref (gA G (41 + 27)))]) C.1.1 C.1.2.1 dL_law__2364 hl (k := 4) rfl rfl (by decide) rfl (fun ls hl => ?_)
    refine lv_goto (tgt := 23) C.1.1 C.1.2.1 dL_law__2367 (by decide) ?_
    exact hk_23 X q389.1 L (x4 + (9 : Int32)) _ _ _ _ _ (by omega) (by omega) hw (lv_sub hl [1, 2, 3, 4, 0] rfl) hf
  · have hf := o_f hf c390
    refine lv_iconst (v := (0 : Int32)) C.1.1 C.1.2.1 dL_law__2337 rfl ?_
    exact absurd (Option.some.inj hf) (by decide)
set_option maxRecDepth 20000 in
set_option maxHeartbeats 4000000 in
theorem wB_law_2339 {G : GP} {l : Launch} {p : Program} {e : Env} {s : State} {m : MethodId} {below : List Frame} {meth : Method} {c : Code} {b Lth : Nat} {xs : Nat → Int32} (C : Cx G p s m #[Value.ref b] c cL_law_ 8 RL) (hr : meth.sig.returnType = ret) (hlk : meth.locks = false) (hst : l.stackTraces = false) (hnL : 41 + 27 < gN G) (hX : va_X b Lth xs s s.heap) (hbl : b < s.heap.size) (hbA : ¬ AB G b) (hBs : gB G = s.heap.size) {cB sB : Nat} (hcB : cB ≤ 601024) (hsB : sB ≤ 7293033) {k_23 : TX → TX → TL → Int32 → Option Int32} (hk_23 : ∀ (X : TX) (M : TX) (L : TL) (x4 : Int32) (cells slots : Nat) (H : Heap) (locs : List Loc) (ls : Array Slot), cells ≤ cB → slots ≤ sB → Wh G s X M L H locs → lv_has ls 8 [(0, .ref b), (1, .ref (gA G 0)), (2, .ref (gA G (41 + 0))), (3, .ref (gA G (41 + 27))), (4, .int x4)] → k_23 X M L x4 = some (1 : Int32) → W p l e room_1 s m #[Value.ref b] below meth c H locs cells slots (lw_Z below #[Value.ref b] s) (F0 m 23 ls [])) : ∀ (X : TX) (M : TX) (L : TL) (x4 : Int32) (cells slots : Nat) (H : Heap) (locs : List Loc) (ls : Array Slot), cells + 4 ≤ cB → slots + 24 ≤ sB → Wh G s X M L H locs → lv_has ls 8 [(0, .ref b), (1, .ref (gA G 0)), (2, .ref (gA G (41 + 0))), (3, .ref (gA G (41 + 27))), (4, .int x4)] → B_law_2339 xs Lth k_23 X M L x4 = some (1 : Int32) → W p l e room_1 s m #[Value.ref b] below meth c H locs cells slots (lw_Z below #[Value.ref b] s) (F0 m 2339 ls []) := by
  intro X M L x4 cells slots H locs ls hc hs hw hl hf
  unfold B_law_2339 at hf
  refine lv_aload_n C.1.1 C.1.2.1 dL_law__2339 rfl (lv_at hl 1 rfl) ?_
  refine lv_aload_n C.1.1 C.1.2.1 dL_law__2340 rfl (lv_at hl 0 rfl) ?_
  refine lv_iload C.1.1 C.1.2.1 dL_law__2341 (lv_at hl 4 rfl) ?_
  refine lv_iconst (v := (1 : Int32)) C.1.1 C.1.2.1 dL_law__2343 rfl ?_
  refine lv_iadd C.1.1 C.1.2.1 dL_law__2344 ?_
  have g392 := inb_in (o_g hf).1
  have hf := (o_g hf).2
  refine va_sld C.1.1 C.1.2.1 hX hbl hbA hw.2 g392 dL_law__2345 ?_
  obtain ⟨q393, h393, hf⟩ := o_bind hf
  refine aft_i hw (run_VX C hw clL_241 (As := [.int (xs (Int32.toNatClampNeg (x4 + (1 : Int32))))]) (rest := []) oX_0 (c_X8_count h393) rfl hl.1 rfl ⟨Nat.le_of_ble_eq_true rfl, Nat.le_of_ble_eq_true rfl⟩ ⟨by show cells ≤ 601024; omega, by show slots ≤ 7293033; omega⟩ rfl (Nat.le_of_ble_eq_true rfl) dL_law__2346) (fun H locs hw => ?_)
  refine lv_aload_n C.1.1 C.1.2.1 dL_law__2349 rfl (lv_at hl 2 rfl) ?_
  refine lv_aload_n C.1.1 C.1.2.1 dL_law__2350 rfl (lv_at hl 0 rfl) ?_
  refine lv_iload C.1.1 C.1.2.1 dL_law__2351 (lv_at hl 4 rfl) ?_
  refine lv_iconst (v := (1 : Int32)) C.1.1 C.1.2.1 dL_law__2353 rfl ?_
  refine lv_iadd C.1.1 C.1.2.1 dL_law__2354 ?_
  have g394 := inb_in (o_g hf).1
  have hf := (o_g hf).2
  refine va_sld C.1.1 C.1.2.1 hX hbl hbA hw.2 g394 dL_law__2355 ?_
  obtain ⟨q395, h395, hf⟩ := o_bind hf
  refine aft_i hw (run_VM C hw clL_244 (As := [.int (xs (Int32.toNatClampNeg (x4 + (1 : Int32))))]) (rest := [.int q393]) oM_0 (c_X9_count h395) rfl hl.1 rfl ⟨Nat.le_of_ble_eq_true rfl, Nat.le_of_ble_eq_true rfl⟩ ⟨by show cells ≤ 601024; omega, by show slots ≤ 7293033; omega⟩ rfl (Nat.le_of_ble_eq_true rfl) dL_law__2356) (fun H locs hw => ?_)
  refine lv_icmp_eq (tgt := 2364) C.1.1 C.1.2.1 dL_law__2359 (by decide) (fun c396 => ?_) (fun c396 => ?_)
  · have hf := o_t hf c396
    refine lv_iinc (v := (x4 + (9 : Int32))) (lv' := [(4, .int (x4 + (9 : Int32))), (0, .ref b), (1, .ref (gA G 0)), (2, .ref (gA G (41 + 0))), (3, .ref (gA G (41 + 27)))]) C.1.1 C.1.2.1 dL_law__2364 hl (k := 4) rfl rfl (by decide) rfl (fun ls hl => ?_)
    refine lv_goto (tgt := 23) C.1.1 C.1.2.1 dL_law__2367 (by decide) ?_
    exact hk_23 X q395.1 L (x4 + (9 : Int32)) _ _ _ _ _ (by omega) (by omega) hw (lv_sub hl [1, 2, 3, 4, 0] rfl) hf
  · have hf := o_f hf c396
    refine lv_iconst (v := (0 : Int32)) C.1.1 C.1.2.1 dL_law__2362 rfl ?_
    exact absurd (Option.some.inj hf) (by decide)
set_option maxRecDepth 20000 in
set_option maxHeartbeats 4000000 in
theorem wL_law_23 {G : GP} {l : Launch} {p : Program} {e : Env} {s : State} {m : MethodId} {below : List Frame} {meth : Method} {c : Code} {b Lth : Nat} {xs : Nat → Int32} (C : Cx G p s m #[Value.ref b] c cL_law_ 8 RL) (hr : meth.sig.returnType = ret) (hlk : meth.locks = false) (hst : l.stackTraces = false) (hnL : 41 + 27 < gN G) (hX : va_X b Lth xs s s.heap) (hbl : b < s.heap.size) (hbA : ¬ AB G b) (hBs : gB G = s.heap.size) : ∀ (n : Nat), ∀ (X : TX) (M : TX) (L : TL) (x4 : Int32) (cells slots : Nat) (H : Heap) (locs : List Loc) (ls : Array Slot), cells + 4 * n ≤ 601024 → slots + 24 * n ≤ 7293033 → Wh G s X M L H locs → lv_has ls 8 [(0, .ref b), (1, .ref (gA G 0)), (2, .ref (gA G (41 + 0))), (3, .ref (gA G (41 + 27))), (4, .int x4)] → L_law_23 xs Lth n X M L x4 = some (1 : Int32) → W p l e room_1 s m #[Value.ref b] below meth c H locs cells slots (lw_Z below #[Value.ref b] s) (F0 m 23 ls []) := by
  intro n
  induction n with
  | zero =>
    intro X M L x4 cells slots H locs ls hc hs hw hl hf
    cases hf
  | succ n ih =>
    intro X M L x4 cells slots H locs ls hc hs hw hl hf
    rw [L_law_23] at hf
    have hcB : 601024 - 4 * n ≤ 601024 := Nat.sub_le _ _
    have hsB : 7293033 - 24 * n ≤ 7293033 := Nat.sub_le _ _
    have hk_23 : ∀ (X : TX) (M : TX) (L : TL) (x4 : Int32) (cells slots : Nat) (H : Heap) (locs : List Loc) (ls : Array Slot), cells ≤ 601024 - 4 * n → slots ≤ 7293033 - 24 * n → Wh G s X M L H locs → lv_has ls 8 [(0, .ref b), (1, .ref (gA G 0)), (2, .ref (gA G (41 + 0))), (3, .ref (gA G (41 + 27))), (4, .int x4)] → L_law_23 xs Lth n X M L x4 = some (1 : Int32) → W p l e room_1 s m #[Value.ref b] below meth c H locs cells slots (lw_Z below #[Value.ref b] s) (F0 m 23 ls []) := fun X M L x4 cells slots H locs ls h1 h2 => ih X M L x4 cells slots H locs ls (by omega) (by omega)
    replace hc : cells + 4 ≤ 601024 - 4 * n := by omega
    replace hs : slots + 24 ≤ 7293033 - 24 * n := by omega
    refine lv_iload C.1.1 C.1.2.1 dL_law__23 (lv_at hl 4 rfl) ?_
    refine lv_aload_n C.1.1 C.1.2.1 dL_law__25 rfl (lv_at hl 0 rfl) ?_
    refine va_slen C.1.1 C.1.2.1 hX hbl hbA hw.2 dL_law__26 ?_
    refine lv_bipush (v := (9 : Int32)) C.1.1 C.1.2.1 dL_law__27 rfl ?_
    refine lv_isub C.1.1 C.1.2.1 dL_law__29 ?_
    refine lv_icmp_gt (tgt := 2370) C.1.1 C.1.2.1 dL_law__30 (by decide) (fun c1 => ?_) (fun c1 => ?_)
    · have hf := o_t hf c1
      refine lv_iconst (v := (1 : Int32)) C.1.1 C.1.2.1 dL_law__2370 rfl ?_
      refine va_forget (fun q hq => by rw [← hBs]; exact hw.2.2.2 q hq) ?_
      refine W.widen (k := 601024) (n := 7293033) (by omega) (by omega) ?_
      exact lw_ret C.1.1 C.1.2.1 hr hlk dL_law__2371
    · have hf := o_f hf c1
      refine lv_aload_n C.1.1 C.1.2.1 dL_law__33 rfl (lv_at hl 0 rfl) ?_
      refine lv_iload C.1.1 C.1.2.1 dL_law__34 (lv_at hl 4 rfl) ?_
      have g2 := inb_in (o_g hf).1
      have hf := (o_g hf).2
      refine va_sld C.1.1 C.1.2.1 hX hbl hbA hw.2 g2 dL_law__36 ?_
      refine lv_bipush (v := (63 : Int32)) C.1.1 C.1.2.1 dL_law__37 rfl ?_
      refine lv_iand C.1.1 C.1.2.1 dL_law__39 ?_
      by_cases c3 : ((xs (Int32.toNatClampNeg x4)) &&& (63 : Int32)) = (0 : Int32)
      · have hf := o_t hf c3
        refine lv_tableIn (tgt := 208) (off := 168) C.1.1 C.1.2.1 dL_law__40 (by rw [c3]; decide) (by rw [c3]; decide) (by rw [c3]; rfl) (by decide) ?_
        exact wB_law_208 C hr hlk hst hnL hX hbl hbA hBs hcB hsB hk_23 X M L x4 _ _ _ _ _ hc hs hw (lv_sub hl [0, 1, 2, 3, 4] rfl) hf
      have hf := o_f hf c3
      by_cases c17 : ((xs (Int32.toNatClampNeg x4)) &&& (63 : Int32)) = (1 : Int32)
      · have hf := o_t hf c17
        refine lv_tableIn (tgt := 281) (off := 241) C.1.1 C.1.2.1 dL_law__40 (by rw [c17]; decide) (by rw [c17]; decide) (by rw [c17]; rfl) (by decide) ?_
        exact wB_law_281 C hr hlk hst hnL hX hbl hbA hBs hcB hsB hk_23 X M L x4 _ _ _ _ _ hc hs hw (lv_sub hl [0, 1, 2, 3, 4] rfl) hf
      have hf := o_f hf c17
      by_cases c27 : ((xs (Int32.toNatClampNeg x4)) &&& (63 : Int32)) = (2 : Int32)
      · have hf := o_t hf c27
        refine lv_tableIn (tgt := 337) (off := 297) C.1.1 C.1.2.1 dL_law__40 (by rw [c27]; decide) (by rw [c27]; decide) (by rw [c27]; rfl) (by decide) ?_
        exact wB_law_337 C hr hlk hst hnL hX hbl hbA hBs hcB hsB hk_23 X M L x4 _ _ _ _ _ hc hs hw (lv_sub hl [0, 1, 2, 3, 4] rfl) hf
      have hf := o_f hf c27
      by_cases c37 : ((xs (Int32.toNatClampNeg x4)) &&& (63 : Int32)) = (3 : Int32)
      · have hf := o_t hf c37
        refine lv_tableIn (tgt := 393) (off := 353) C.1.1 C.1.2.1 dL_law__40 (by rw [c37]; decide) (by rw [c37]; decide) (by rw [c37]; rfl) (by decide) ?_
        exact wB_law_393 C hr hlk hst hnL hX hbl hbA hBs hcB hsB hk_23 X M L x4 _ _ _ _ _ hc hs hw (lv_sub hl [0, 1, 2, 3, 4] rfl) hf
      have hf := o_f hf c37
      by_cases c47 : ((xs (Int32.toNatClampNeg x4)) &&& (63 : Int32)) = (4 : Int32)
      · have hf := o_t hf c47
        refine lv_tableIn (tgt := 449) (off := 409) C.1.1 C.1.2.1 dL_law__40 (by rw [c47]; decide) (by rw [c47]; decide) (by rw [c47]; rfl) (by decide) ?_
        exact wB_law_449 C hr hlk hst hnL hX hbl hbA hBs hcB hsB hk_23 X M L x4 _ _ _ _ _ hc hs hw (lv_sub hl [0, 1, 2, 3, 4] rfl) hf
      have hf := o_f hf c47
      by_cases c57 : ((xs (Int32.toNatClampNeg x4)) &&& (63 : Int32)) = (5 : Int32)
      · have hf := o_t hf c57
        refine lv_tableIn (tgt := 505) (off := 465) C.1.1 C.1.2.1 dL_law__40 (by rw [c57]; decide) (by rw [c57]; decide) (by rw [c57]; rfl) (by decide) ?_
        exact wB_law_505 C hr hlk hst hnL hX hbl hbA hBs hcB hsB hk_23 X M L x4 _ _ _ _ _ hc hs hw (lv_sub hl [0, 1, 2, 3, 4] rfl) hf
      have hf := o_f hf c57
      by_cases c61 : ((xs (Int32.toNatClampNeg x4)) &&& (63 : Int32)) = (6 : Int32)
      · have hf := o_t hf c61
        refine lv_tableIn (tgt := 518) (off := 478) C.1.1 C.1.2.1 dL_law__40 (by rw [c61]; decide) (by rw [c61]; decide) (by rw [c61]; rfl) (by decide) ?_
        exact wB_law_518 C hr hlk hst hnL hX hbl hbA hBs hcB hsB hk_23 X M L x4 _ _ _ _ _ hc hs hw (lv_sub hl [0, 1, 2, 3, 4] rfl) hf
      have hf := o_f hf c61
      by_cases c65 : ((xs (Int32.toNatClampNeg x4)) &&& (63 : Int32)) = (7 : Int32)
      · have hf := o_t hf c65
        refine lv_tableIn (tgt := 531) (off := 491) C.1.1 C.1.2.1 dL_law__40 (by rw [c65]; decide) (by rw [c65]; decide) (by rw [c65]; rfl) (by decide) ?_
        exact wB_law_531 C hr hlk hst hnL hX hbl hbA hBs hcB hsB hk_23 X M L x4 _ _ _ _ _ hc hs hw (lv_sub hl [0, 1, 2, 3, 4] rfl) hf
      have hf := o_f hf c65
      by_cases c75 : ((xs (Int32.toNatClampNeg x4)) &&& (63 : Int32)) = (8 : Int32)
      · have hf := o_t hf c75
        refine lv_tableIn (tgt := 587) (off := 547) C.1.1 C.1.2.1 dL_law__40 (by rw [c75]; decide) (by rw [c75]; decide) (by rw [c75]; rfl) (by decide) ?_
        exact wB_law_587 C hr hlk hst hnL hX hbl hbA hBs hcB hsB hk_23 X M L x4 _ _ _ _ _ hc hs hw (lv_sub hl [0, 1, 2, 3, 4] rfl) hf
      have hf := o_f hf c75
      by_cases c87 : ((xs (Int32.toNatClampNeg x4)) &&& (63 : Int32)) = (9 : Int32)
      · have hf := o_t hf c87
        refine lv_tableIn (tgt := 655) (off := 615) C.1.1 C.1.2.1 dL_law__40 (by rw [c87]; decide) (by rw [c87]; decide) (by rw [c87]; rfl) (by decide) ?_
        exact wB_law_655 C hr hlk hst hnL hX hbl hbA hBs hcB hsB hk_23 X M L x4 _ _ _ _ _ hc hs hw (lv_sub hl [0, 1, 2, 3, 4] rfl) hf
      have hf := o_f hf c87
      by_cases c99 : ((xs (Int32.toNatClampNeg x4)) &&& (63 : Int32)) = (10 : Int32)
      · have hf := o_t hf c99
        refine lv_tableIn (tgt := 723) (off := 683) C.1.1 C.1.2.1 dL_law__40 (by rw [c99]; decide) (by rw [c99]; decide) (by rw [c99]; rfl) (by decide) ?_
        exact wB_law_723 C hr hlk hst hnL hX hbl hbA hBs hcB hsB hk_23 X M L x4 _ _ _ _ _ hc hs hw (lv_sub hl [0, 1, 2, 3, 4] rfl) hf
      have hf := o_f hf c99
      by_cases c111 : ((xs (Int32.toNatClampNeg x4)) &&& (63 : Int32)) = (11 : Int32)
      · have hf := o_t hf c111
        refine lv_tableIn (tgt := 791) (off := 751) C.1.1 C.1.2.1 dL_law__40 (by rw [c111]; decide) (by rw [c111]; decide) (by rw [c111]; rfl) (by decide) ?_
        exact wB_law_791 C hr hlk hst hnL hX hbl hbA hBs hcB hsB hk_23 X M L x4 _ _ _ _ _ hc hs hw (lv_sub hl [0, 1, 2, 3, 4] rfl) hf
      have hf := o_f hf c111
      by_cases c123 : ((xs (Int32.toNatClampNeg x4)) &&& (63 : Int32)) = (12 : Int32)
      · have hf := o_t hf c123
        refine lv_tableIn (tgt := 859) (off := 819) C.1.1 C.1.2.1 dL_law__40 (by rw [c123]; decide) (by rw [c123]; decide) (by rw [c123]; rfl) (by decide) ?_
        exact wB_law_859 C hr hlk hst hnL hX hbl hbA hBs hcB hsB hk_23 X M L x4 _ _ _ _ _ hc hs hw (lv_sub hl [0, 1, 2, 3, 4] rfl) hf
      have hf := o_f hf c123
      by_cases c147 : ((xs (Int32.toNatClampNeg x4)) &&& (63 : Int32)) = (13 : Int32)
      · have hf := o_t hf c147
        refine lv_tableIn (tgt := 1005) (off := 965) C.1.1 C.1.2.1 dL_law__40 (by rw [c147]; decide) (by rw [c147]; decide) (by rw [c147]; rfl) (by decide) ?_
        exact wB_law_1005 C hr hlk hst hnL hX hbl hbA hBs hcB hsB hk_23 X M L x4 _ _ _ _ _ hc hs hw (lv_sub hl [0, 1, 2, 3, 4] rfl) hf
      have hf := o_f hf c147
      by_cases c157 : ((xs (Int32.toNatClampNeg x4)) &&& (63 : Int32)) = (14 : Int32)
      · have hf := o_t hf c157
        refine lv_tableIn (tgt := 1061) (off := 1021) C.1.1 C.1.2.1 dL_law__40 (by rw [c157]; decide) (by rw [c157]; decide) (by rw [c157]; rfl) (by decide) ?_
        exact wB_law_1061 C hr hlk hst hnL hX hbl hbA hBs hcB hsB hk_23 X M L x4 _ _ _ _ _ hc hs hw (lv_sub hl [0, 1, 2, 3, 4] rfl) hf
      have hf := o_f hf c157
      by_cases c169 : ((xs (Int32.toNatClampNeg x4)) &&& (63 : Int32)) = (15 : Int32)
      · have hf := o_t hf c169
        refine lv_tableIn (tgt := 1129) (off := 1089) C.1.1 C.1.2.1 dL_law__40 (by rw [c169]; decide) (by rw [c169]; decide) (by rw [c169]; rfl) (by decide) ?_
        exact wB_law_1129 C hr hlk hst hnL hX hbl hbA hBs hcB hsB hk_23 X M L x4 _ _ _ _ _ hc hs hw (lv_sub hl [0, 1, 2, 3, 4] rfl) hf
      have hf := o_f hf c169
      by_cases c181 : ((xs (Int32.toNatClampNeg x4)) &&& (63 : Int32)) = (16 : Int32)
      · have hf := o_t hf c181
        refine lv_tableIn (tgt := 1197) (off := 1157) C.1.1 C.1.2.1 dL_law__40 (by rw [c181]; decide) (by rw [c181]; decide) (by rw [c181]; rfl) (by decide) ?_
        exact wB_law_1197 C hr hlk hst hnL hX hbl hbA hBs hcB hsB hk_23 X M L x4 _ _ _ _ _ hc hs hw (lv_sub hl [0, 1, 2, 3, 4] rfl) hf
      have hf := o_f hf c181
      by_cases c191 : ((xs (Int32.toNatClampNeg x4)) &&& (63 : Int32)) = (17 : Int32)
      · have hf := o_t hf c191
        refine lv_tableIn (tgt := 1253) (off := 1213) C.1.1 C.1.2.1 dL_law__40 (by rw [c191]; decide) (by rw [c191]; decide) (by rw [c191]; rfl) (by decide) ?_
        exact wB_law_1253 C hr hlk hst hnL hX hbl hbA hBs hcB hsB hk_23 X M L x4 _ _ _ _ _ hc hs hw (lv_sub hl [0, 1, 2, 3, 4] rfl) hf
      have hf := o_f hf c191
      by_cases c203 : ((xs (Int32.toNatClampNeg x4)) &&& (63 : Int32)) = (18 : Int32)
      · have hf := o_t hf c203
        refine lv_tableIn (tgt := 1321) (off := 1281) C.1.1 C.1.2.1 dL_law__40 (by rw [c203]; decide) (by rw [c203]; decide) (by rw [c203]; rfl) (by decide) ?_
        exact wB_law_1321 C hr hlk hst hnL hX hbl hbA hBs hcB hsB hk_23 X M L x4 _ _ _ _ _ hc hs hw (lv_sub hl [0, 1, 2, 3, 4] rfl) hf
      have hf := o_f hf c203
      by_cases c213 : ((xs (Int32.toNatClampNeg x4)) &&& (63 : Int32)) = (19 : Int32)
      · have hf := o_t hf c213
        refine lv_tableIn (tgt := 1377) (off := 1337) C.1.1 C.1.2.1 dL_law__40 (by rw [c213]; decide) (by rw [c213]; decide) (by rw [c213]; rfl) (by decide) ?_
        exact wB_law_1377 C hr hlk hst hnL hX hbl hbA hBs hcB hsB hk_23 X M L x4 _ _ _ _ _ hc hs hw (lv_sub hl [0, 1, 2, 3, 4] rfl) hf
      have hf := o_f hf c213
      by_cases c223 : ((xs (Int32.toNatClampNeg x4)) &&& (63 : Int32)) = (20 : Int32)
      · have hf := o_t hf c223
        refine lv_tableIn (tgt := 1433) (off := 1393) C.1.1 C.1.2.1 dL_law__40 (by rw [c223]; decide) (by rw [c223]; decide) (by rw [c223]; rfl) (by decide) ?_
        exact wB_law_1433 C hr hlk hst hnL hX hbl hbA hBs hcB hsB hk_23 X M L x4 _ _ _ _ _ hc hs hw (lv_sub hl [0, 1, 2, 3, 4] rfl) hf
      have hf := o_f hf c223
      by_cases c235 : ((xs (Int32.toNatClampNeg x4)) &&& (63 : Int32)) = (21 : Int32)
      · have hf := o_t hf c235
        refine lv_tableIn (tgt := 1501) (off := 1461) C.1.1 C.1.2.1 dL_law__40 (by rw [c235]; decide) (by rw [c235]; decide) (by rw [c235]; rfl) (by decide) ?_
        exact wB_law_1501 C hr hlk hst hnL hX hbl hbA hBs hcB hsB hk_23 X M L x4 _ _ _ _ _ hc hs hw (lv_sub hl [0, 1, 2, 3, 4] rfl) hf
      have hf := o_f hf c235
      by_cases c245 : ((xs (Int32.toNatClampNeg x4)) &&& (63 : Int32)) = (22 : Int32)
      · have hf := o_t hf c245
        refine lv_tableIn (tgt := 1557) (off := 1517) C.1.1 C.1.2.1 dL_law__40 (by rw [c245]; decide) (by rw [c245]; decide) (by rw [c245]; rfl) (by decide) ?_
        exact wB_law_1557 C hr hlk hst hnL hX hbl hbA hBs hcB hsB hk_23 X M L x4 _ _ _ _ _ hc hs hw (lv_sub hl [0, 1, 2, 3, 4] rfl) hf
      have hf := o_f hf c245
      by_cases c255 : ((xs (Int32.toNatClampNeg x4)) &&& (63 : Int32)) = (23 : Int32)
      · have hf := o_t hf c255
        refine lv_tableIn (tgt := 1613) (off := 1573) C.1.1 C.1.2.1 dL_law__40 (by rw [c255]; decide) (by rw [c255]; decide) (by rw [c255]; rfl) (by decide) ?_
        exact wB_law_1613 C hr hlk hst hnL hX hbl hbA hBs hcB hsB hk_23 X M L x4 _ _ _ _ _ hc hs hw (lv_sub hl [0, 1, 2, 3, 4] rfl) hf
      have hf := o_f hf c255
      by_cases c271 : ((xs (Int32.toNatClampNeg x4)) &&& (63 : Int32)) = (24 : Int32)
      · have hf := o_t hf c271
        refine lv_tableIn (tgt := 1704) (off := 1664) C.1.1 C.1.2.1 dL_law__40 (by rw [c271]; decide) (by rw [c271]; decide) (by rw [c271]; rfl) (by decide) ?_
        exact wB_law_1704 C hr hlk hst hnL hX hbl hbA hBs hcB hsB hk_23 X M L x4 _ _ _ _ _ hc hs hw (lv_sub hl [0, 1, 2, 3, 4] rfl) hf
      have hf := o_f hf c271
      by_cases c281 : ((xs (Int32.toNatClampNeg x4)) &&& (63 : Int32)) = (25 : Int32)
      · have hf := o_t hf c281
        refine lv_tableIn (tgt := 1760) (off := 1720) C.1.1 C.1.2.1 dL_law__40 (by rw [c281]; decide) (by rw [c281]; decide) (by rw [c281]; rfl) (by decide) ?_
        exact wB_law_1760 C hr hlk hst hnL hX hbl hbA hBs hcB hsB hk_23 X M L x4 _ _ _ _ _ hc hs hw (lv_sub hl [0, 1, 2, 3, 4] rfl) hf
      have hf := o_f hf c281
      by_cases c291 : ((xs (Int32.toNatClampNeg x4)) &&& (63 : Int32)) = (26 : Int32)
      · have hf := o_t hf c291
        refine lv_tableIn (tgt := 1816) (off := 1776) C.1.1 C.1.2.1 dL_law__40 (by rw [c291]; decide) (by rw [c291]; decide) (by rw [c291]; rfl) (by decide) ?_
        exact wB_law_1816 C hr hlk hst hnL hX hbl hbA hBs hcB hsB hk_23 X M L x4 _ _ _ _ _ hc hs hw (lv_sub hl [0, 1, 2, 3, 4] rfl) hf
      have hf := o_f hf c291
      by_cases c295 : ((xs (Int32.toNatClampNeg x4)) &&& (63 : Int32)) = (27 : Int32)
      · have hf := o_t hf c295
        refine lv_tableIn (tgt := 1829) (off := 1789) C.1.1 C.1.2.1 dL_law__40 (by rw [c295]; decide) (by rw [c295]; decide) (by rw [c295]; rfl) (by decide) ?_
        exact wB_law_1829 C hr hlk hst hnL hX hbl hbA hBs hcB hsB hk_23 X M L x4 _ _ _ _ _ hc hs hw (lv_sub hl [0, 1, 2, 3, 4] rfl) hf
      have hf := o_f hf c295
      by_cases c305 : ((xs (Int32.toNatClampNeg x4)) &&& (63 : Int32)) = (28 : Int32)
      · have hf := o_t hf c305
        refine lv_tableIn (tgt := 1885) (off := 1845) C.1.1 C.1.2.1 dL_law__40 (by rw [c305]; decide) (by rw [c305]; decide) (by rw [c305]; rfl) (by decide) ?_
        exact wB_law_1885 C hr hlk hst hnL hX hbl hbA hBs hcB hsB hk_23 X M L x4 _ _ _ _ _ hc hs hw (lv_sub hl [0, 1, 2, 3, 4] rfl) hf
      have hf := o_f hf c305
      by_cases c315 : ((xs (Int32.toNatClampNeg x4)) &&& (63 : Int32)) = (29 : Int32)
      · have hf := o_t hf c315
        refine lv_tableIn (tgt := 1941) (off := 1901) C.1.1 C.1.2.1 dL_law__40 (by rw [c315]; decide) (by rw [c315]; decide) (by rw [c315]; rfl) (by decide) ?_
        exact wB_law_1941 C hr hlk hst hnL hX hbl hbA hBs hcB hsB hk_23 X M L x4 _ _ _ _ _ hc hs hw (lv_sub hl [0, 1, 2, 3, 4] rfl) hf
      have hf := o_f hf c315
      by_cases c319 : ((xs (Int32.toNatClampNeg x4)) &&& (63 : Int32)) = (30 : Int32)
      · have hf := o_t hf c319
        refine lv_tableIn (tgt := 1954) (off := 1914) C.1.1 C.1.2.1 dL_law__40 (by rw [c319]; decide) (by rw [c319]; decide) (by rw [c319]; rfl) (by decide) ?_
        exact wB_law_1954 C hr hlk hst hnL hX hbl hbA hBs hcB hsB hk_23 X M L x4 _ _ _ _ _ hc hs hw (lv_sub hl [0, 1, 2, 3, 4] rfl) hf
      have hf := o_f hf c319
      by_cases c329 : ((xs (Int32.toNatClampNeg x4)) &&& (63 : Int32)) = (31 : Int32)
      · have hf := o_t hf c329
        refine lv_tableIn (tgt := 2010) (off := 1970) C.1.1 C.1.2.1 dL_law__40 (by rw [c329]; decide) (by rw [c329]; decide) (by rw [c329]; rfl) (by decide) ?_
        exact wB_law_2010 C hr hlk hst hnL hX hbl hbA hBs hcB hsB hk_23 X M L x4 _ _ _ _ _ hc hs hw (lv_sub hl [0, 1, 2, 3, 4] rfl) hf
      have hf := o_f hf c329
      by_cases c341 : ((xs (Int32.toNatClampNeg x4)) &&& (63 : Int32)) = (32 : Int32)
      · have hf := o_t hf c341
        refine lv_tableIn (tgt := 2078) (off := 2038) C.1.1 C.1.2.1 dL_law__40 (by rw [c341]; decide) (by rw [c341]; decide) (by rw [c341]; rfl) (by decide) ?_
        exact wB_law_2078 C hr hlk hst hnL hX hbl hbA hBs hcB hsB hk_23 X M L x4 _ _ _ _ _ hc hs hw (lv_sub hl [0, 1, 2, 3, 4] rfl) hf
      have hf := o_f hf c341
      by_cases c357 : ((xs (Int32.toNatClampNeg x4)) &&& (63 : Int32)) = (33 : Int32)
      · have hf := o_t hf c357
        refine lv_tableIn (tgt := 2170) (off := 2130) C.1.1 C.1.2.1 dL_law__40 (by rw [c357]; decide) (by rw [c357]; decide) (by rw [c357]; rfl) (by decide) ?_
        exact wB_law_2170 C hr hlk hst hnL hX hbl hbA hBs hcB hsB hk_23 X M L x4 _ _ _ _ _ hc hs hw (lv_sub hl [0, 1, 2, 3, 4] rfl) hf
      have hf := o_f hf c357
      by_cases c377 : ((xs (Int32.toNatClampNeg x4)) &&& (63 : Int32)) = (34 : Int32)
      · have hf := o_t hf c377
        refine lv_tableIn (tgt := 2288) (off := 2248) C.1.1 C.1.2.1 dL_law__40 (by rw [c377]; decide) (by rw [c377]; decide) (by rw [c377]; rfl) (by decide) ?_
        exact wB_law_2288 C hr hlk hst hnL hX hbl hbA hBs hcB hsB hk_23 X M L x4 _ _ _ _ _ hc hs hw (lv_sub hl [0, 1, 2, 3, 4] rfl) hf
      have hf := o_f hf c377
      by_cases c381 : ((xs (Int32.toNatClampNeg x4)) &&& (63 : Int32)) = (35 : Int32)
      · have hf := o_t hf c381
        refine lv_tableIn (tgt := 2301) (off := 2261) C.1.1 C.1.2.1 dL_law__40 (by rw [c381]; decide) (by rw [c381]; decide) (by rw [c381]; rfl) (by decide) ?_
        exact wB_law_2301 C hr hlk hst hnL hX hbl hbA hBs hcB hsB hk_23 X M L x4 _ _ _ _ _ hc hs hw (lv_sub hl [0, 1, 2, 3, 4] rfl) hf
      have hf := o_f hf c381
      by_cases c385 : ((xs (Int32.toNatClampNeg x4)) &&& (63 : Int32)) = (36 : Int32)
      · have hf := o_t hf c385
        refine lv_tableIn (tgt := 2314) (off := 2274) C.1.1 C.1.2.1 dL_law__40 (by rw [c385]; decide) (by rw [c385]; decide) (by rw [c385]; rfl) (by decide) ?_
        exact wB_law_2314 C hr hlk hst hnL hX hbl hbA hBs hcB hsB hk_23 X M L x4 _ _ _ _ _ hc hs hw (lv_sub hl [0, 1, 2, 3, 4] rfl) hf
      have hf := o_f hf c385
      by_cases c391 : ((xs (Int32.toNatClampNeg x4)) &&& (63 : Int32)) = (37 : Int32)
      · have hf := o_t hf c391
        refine lv_tableIn (tgt := 2339) (off := 2299) C.1.1 C.1.2.1 dL_law__40 (by rw [c391]; decide) (by rw [c391]; decide) (by rw [c391]; rfl) (by decide) ?_
        exact wB_law_2339 C hr hlk hst hnL hX hbl hbA hBs hcB hsB hk_23 X M L x4 _ _ _ _ _ hc hs hw (lv_sub hl [0, 1, 2, 3, 4] rfl) hf
      have hf := o_f hf c391
      have ho : (Int32.toInt ((xs (Int32.toNatClampNeg x4)) &&& (63 : Int32))) < 0 ∨ 37 < (Int32.toInt ((xs (Int32.toNatClampNeg x4)) &&& (63 : Int32))) := by
        rcases (by omega : (Int32.toInt ((xs (Int32.toNatClampNeg x4)) &&& (63 : Int32))) < 0 ∨ 37 < (Int32.toInt ((xs (Int32.toNatClampNeg x4)) &&& (63 : Int32))) ∨ (Int32.toInt ((xs (Int32.toNatClampNeg x4)) &&& (63 : Int32))) = 0 ∨ (Int32.toInt ((xs (Int32.toNatClampNeg x4)) &&& (63 : Int32))) = 1 ∨ (Int32.toInt ((xs (Int32.toNatClampNeg x4)) &&& (63 : Int32))) = 2 ∨ (Int32.toInt ((xs (Int32.toNatClampNeg x4)) &&& (63 : Int32))) = 3 ∨ (Int32.toInt ((xs (Int32.toNatClampNeg x4)) &&& (63 : Int32))) = 4 ∨ (Int32.toInt ((xs (Int32.toNatClampNeg x4)) &&& (63 : Int32))) = 5 ∨ (Int32.toInt ((xs (Int32.toNatClampNeg x4)) &&& (63 : Int32))) = 6 ∨ (Int32.toInt ((xs (Int32.toNatClampNeg x4)) &&& (63 : Int32))) = 7 ∨ (Int32.toInt ((xs (Int32.toNatClampNeg x4)) &&& (63 : Int32))) = 8 ∨ (Int32.toInt ((xs (Int32.toNatClampNeg x4)) &&& (63 : Int32))) = 9 ∨ (Int32.toInt ((xs (Int32.toNatClampNeg x4)) &&& (63 : Int32))) = 10 ∨ (Int32.toInt ((xs (Int32.toNatClampNeg x4)) &&& (63 : Int32))) = 11 ∨ (Int32.toInt ((xs (Int32.toNatClampNeg x4)) &&& (63 : Int32))) = 12 ∨ (Int32.toInt ((xs (Int32.toNatClampNeg x4)) &&& (63 : Int32))) = 13 ∨ (Int32.toInt ((xs (Int32.toNatClampNeg x4)) &&& (63 : Int32))) = 14 ∨ (Int32.toInt ((xs (Int32.toNatClampNeg x4)) &&& (63 : Int32))) = 15 ∨ (Int32.toInt ((xs (Int32.toNatClampNeg x4)) &&& (63 : Int32))) = 16 ∨ (Int32.toInt ((xs (Int32.toNatClampNeg x4)) &&& (63 : Int32))) = 17 ∨ (Int32.toInt ((xs (Int32.toNatClampNeg x4)) &&& (63 : Int32))) = 18 ∨ (Int32.toInt ((xs (Int32.toNatClampNeg x4)) &&& (63 : Int32))) = 19 ∨ (Int32.toInt ((xs (Int32.toNatClampNeg x4)) &&& (63 : Int32))) = 20 ∨ (Int32.toInt ((xs (Int32.toNatClampNeg x4)) &&& (63 : Int32))) = 21 ∨ (Int32.toInt ((xs (Int32.toNatClampNeg x4)) &&& (63 : Int32))) = 22 ∨ (Int32.toInt ((xs (Int32.toNatClampNeg x4)) &&& (63 : Int32))) = 23 ∨ (Int32.toInt ((xs (Int32.toNatClampNeg x4)) &&& (63 : Int32))) = 24 ∨ (Int32.toInt ((xs (Int32.toNatClampNeg x4)) &&& (63 : Int32))) = 25 ∨ (Int32.toInt ((xs (Int32.toNatClampNeg x4)) &&& (63 : Int32))) = 26 ∨ (Int32.toInt ((xs (Int32.toNatClampNeg x4)) &&& (63 : Int32))) = 27 ∨ (Int32.toInt ((xs (Int32.toNatClampNeg x4)) &&& (63 : Int32))) = 28 ∨ (Int32.toInt ((xs (Int32.toNatClampNeg x4)) &&& (63 : Int32))) = 29 ∨ (Int32.toInt ((xs (Int32.toNatClampNeg x4)) &&& (63 : Int32))) = 30 ∨ (Int32.toInt ((xs (Int32.toNatClampNeg x4)) &&& (63 : Int32))) = 31 ∨ (Int32.toInt ((xs (Int32.toNatClampNeg x4)) &&& (63 : Int32))) = 32 ∨ (Int32.toInt ((xs (Int32.toNatClampNeg x4)) &&& (63 : Int32))) = 33 ∨ (Int32.toInt ((xs (Int32.toNatClampNeg x4)) &&& (63 : Int32))) = 34 ∨ (Int32.toInt ((xs (Int32.toNatClampNeg x4)) &&& (63 : Int32))) = 35 ∨ (Int32.toInt ((xs (Int32.toNatClampNeg x4)) &&& (63 : Int32))) = 36 ∨ (Int32.toInt ((xs (Int32.toNatClampNeg x4)) &&& (63 : Int32))) = 37) with q | q | q | q | q | q | q | q | q | q | q | q | q | q | q | q | q | q | q | q | q | q | q | q | q | q | q | q | q | q | q | q | q | q | q | q | q | q | q | q
        · exact Or.inl q
        · exact Or.inr q
        · exact absurd (Int32.toInt_inj.mp (q.trans (by decide))) c3
        · exact absurd (Int32.toInt_inj.mp (q.trans (by decide))) c17
        · exact absurd (Int32.toInt_inj.mp (q.trans (by decide))) c27
        · exact absurd (Int32.toInt_inj.mp (q.trans (by decide))) c37
        · exact absurd (Int32.toInt_inj.mp (q.trans (by decide))) c47
        · exact absurd (Int32.toInt_inj.mp (q.trans (by decide))) c57
        · exact absurd (Int32.toInt_inj.mp (q.trans (by decide))) c61
        · exact absurd (Int32.toInt_inj.mp (q.trans (by decide))) c65
        · exact absurd (Int32.toInt_inj.mp (q.trans (by decide))) c75
        · exact absurd (Int32.toInt_inj.mp (q.trans (by decide))) c87
        · exact absurd (Int32.toInt_inj.mp (q.trans (by decide))) c99
        · exact absurd (Int32.toInt_inj.mp (q.trans (by decide))) c111
        · exact absurd (Int32.toInt_inj.mp (q.trans (by decide))) c123
        · exact absurd (Int32.toInt_inj.mp (q.trans (by decide))) c147
        · exact absurd (Int32.toInt_inj.mp (q.trans (by decide))) c157
        · exact absurd (Int32.toInt_inj.mp (q.trans (by decide))) c169
        · exact absurd (Int32.toInt_inj.mp (q.trans (by decide))) c181
        · exact absurd (Int32.toInt_inj.mp (q.trans (by decide))) c191
        · exact absurd (Int32.toInt_inj.mp (q.trans (by decide))) c203
        · exact absurd (Int32.toInt_inj.mp (q.trans (by decide))) c213
        · exact absurd (Int32.toInt_inj.mp (q.trans (by decide))) c223
        · exact absurd (Int32.toInt_inj.mp (q.trans (by decide))) c235
        · exact absurd (Int32.toInt_inj.mp (q.trans (by decide))) c245
        · exact absurd (Int32.toInt_inj.mp (q.trans (by decide))) c255
        · exact absurd (Int32.toInt_inj.mp (q.trans (by decide))) c271
        · exact absurd (Int32.toInt_inj.mp (q.trans (by decide))) c281
        · exact absurd (Int32.toInt_inj.mp (q.trans (by decide))) c291
        · exact absurd (Int32.toInt_inj.mp (q.trans (by decide))) c295
        · exact absurd (Int32.toInt_inj.mp (q.trans (by decide))) c305
        · exact absurd (Int32.toInt_inj.mp (q.trans (by decide))) c315
        · exact absurd (Int32.toInt_inj.mp (q.trans (by decide))) c319
        · exact absurd (Int32.toInt_inj.mp (q.trans (by decide))) c329
        · exact absurd (Int32.toInt_inj.mp (q.trans (by decide))) c341
        · exact absurd (Int32.toInt_inj.mp (q.trans (by decide))) c357
        · exact absurd (Int32.toInt_inj.mp (q.trans (by decide))) c377
        · exact absurd (Int32.toInt_inj.mp (q.trans (by decide))) c381
        · exact absurd (Int32.toInt_inj.mp (q.trans (by decide))) c385
        · exact absurd (Int32.toInt_inj.mp (q.trans (by decide))) c391
      refine lv_tableOut (tgt := 2364) C.1.1 C.1.2.1 dL_law__40 ho (by decide) ?_
      refine lv_iinc (v := (x4 + (9 : Int32))) (lv' := [(4, .int (x4 + (9 : Int32))), (0, .ref b), (1, .ref (gA G 0)), (2, .ref (gA G (41 + 0))), (3, .ref (gA G (41 + 27)))]) C.1.1 C.1.2.1 dL_law__2364 hl (k := 4) rfl rfl (by decide) rfl (fun ls hl => ?_)
      refine lv_goto (tgt := 23) C.1.1 C.1.2.1 dL_law__2367 (by decide) ?_
      exact hk_23 X M L (x4 + (9 : Int32)) _ _ _ _ _ (by omega) (by omega) hw (lv_sub hl [1, 2, 3, 4, 0] rfl) hf
