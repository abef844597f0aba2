set_option linter.unusedVariables false
theorem zCty_S {g pl : Nat} {M : TX} (h : M 0 5 = nI pl) (hp : pl ≤ 600) (x : Int32) : L_X9_county_44 (g + 1) M x = zFin M := by
  show ((f_X9_fine M).bind fun q6 => if q6 = nI 0 then zFin M else _) = _
  rw [z9_fine0 h hp, Option.bind_some, if_pos rfl]
theorem zB105_S {g : TX → Int32 → Option (TX × Int32)} {pl : Nat} {M : TX} (h : M 0 5 = nI pl) (hp : pl ≤ 600) (x y : Int32) : B_X9_county_105 g M x y = zFin M := by
  show ((f_X9_fine M).bind fun q6 => if q6 = nI 0 then zFin M else _) = _
  rw [z9_fine0 h hp, Option.bind_some, if_pos rfl]
theorem zB105_1 {g : TX → Int32 → Option (TX × Int32)} {s : Nat} {T : Nat → Nat} {q : Nat} {M : TX} (hM : zJm s T q M) (h : M 0 5 = -nI 1) (x y : Int32) : B_X9_county_105 g M x y = (f_X9_readRow (u2 M 0 4 (nI (zLE T s q))) y).bind fun q24 => (f_X9_sign q24 (nI 59)).bind fun q25 => g q25 (x + nI 1) := by
  have n1 : ¬ nI 1 = nI 0 := by decide
  show ((f_X9_fine M).bind fun q6 => if q6 = nI 0 then zFin M else ((f_X9_pass M).bind fun q23 => (f_X9_readRow q23 y).bind fun q24 => (f_X9_sign q24 (nI 59)).bind fun q25 => g q25 (x + nI 1))) = _
  rw [z9_fine1 h, Option.bind_some, if_neg n1, z9_pass hM, Option.bind_some]
theorem z9_step {s : Nat} {T : Nat → Nat} {g p n t i : Nat} {M : TX} (hM : zJm s T p M) (hf : M 0 5 = -nI 1) (hn : M 0 16 = nI n) (ht : M 0 17 = nI t) (hn2 : n ≤ 10) (ht2 : t ≤ 6) (hi : i ≤ 60) :
    L_X9_county_44 (g + 1) M (nI i) = if s ≤ zA T s p then zFin (u2 M 0 4 (nI (zA T s p))) else
      if zKd (zWn T (zA T s p) (zLE T s (zA T s p) - zA T s p)) = 0 then ((f_X9_wrong (u2 M 0 4 (nI (zA T s p))) (nI 1) (nI (zA T s p))).bind fun q => B_X9_county_105 (L_X9_county_44 g) q (nI i) (nI (zWn T (zA T s p) (zLE T s (zA T s p) - zA T s p))))
      else if i = 60 ∨ ((zKd (zWn T (zA T s p) (zLE T s (zA T s p) - zA T s p)) = 1 ∧ n = 10) ∨ (zKd (zWn T (zA T s p) (zLE T s (zA T s p) - zA T s p)) = 3 ∧ t = 6)) then ((f_X9_wrong (u2 M 0 4 (nI (zA T s p))) (nI 3) (nI (zA T s p))).bind fun q => B_X9_county_105 (L_X9_county_44 g) q (nI i) (nI (zWn T (zA T s p) (zLE T s (zA T s p) - zA T s p))))
      else B_X9_county_105 (L_X9_county_44 g) (u2 M 0 4 (nI (zA T s p))) (nI i) (nI (zWn T (zA T s p) (zLE T s (zA T s p) - zA T s p))) := by
  obtain ⟨a1, a2, a3⟩ := zA_spec (T := T) hM.ps
  obtain ⟨b1, b2, b3⟩ := zLE_spec (T := T) a2
  have hs := hM.s6
  have hM1 := hM.to (q := zA T s p) a2
  have wd := z9_word hM1
  rw [a3, z_u2u] at wd
  have hw : zWn T (zA T s p) (zLE T s (zA T s p) - zA T s p) < 1073741825 := zWn_lt fun j hj => b3 _ (by omega) (by omega)
  have f1 : u2 M 0 4 (nI (zA T s p)) 0 16 = nI n := by rw [z_u2j _ _ _ _ (by decide)]; exact hn
  have f2 : u2 M 0 4 (nI (zA T s p)) 0 17 = nI t := by rw [z_u2j _ _ _ _ (by decide)]; exact ht
  have fu := z9_isFull hw f1 f2 hn2 ht2
  have ir := z9_isRow hw
  have hr := z9_here hM
  have m4 : u2 M 0 4 (nI (zA T s p)) 0 4 = nI (zA T s p) := z_u2s _ _ _ _
  have m3 : u2 M 0 4 (nI (zA T s p)) 0 3 = nI s := hM1.ms
  have n1 : ¬ nI 1 = nI 0 := by decide
  generalize zWn T (zA T s p) (zLE T s (zA T s p) - zA T s p) = w at *
  generalize hq : zA T s p = q at *
  generalize hM' : u2 M 0 4 (nI q) = M' at *
  have im : f_X9_isMore M = if s ≤ q then some (M', nI 0) else some (M', nI 1) := by
    unfold f_X9_isMore
    rw [hr, Option.bind_some]
    show (if M' 0 3 ≤ M' 0 4 then some (M', nI 0) else some (M', nI 1)) = _
    rw [m3, m4]
    by_cases c : s ≤ q
    · rw [if_pos ((z_nI_le (by omega) (by omega)).2 c), if_pos c]
    · rw [if_neg (fun x => c ((z_nI_le (by omega) (by omega)).1 x)), if_neg c]
  have eL : L_X9_county_44 (g + 1) M (nI i) = (f_X9_fine M).bind fun q6 => if q6 = nI 0 then zFin M else ((f_X9_isMore M).bind fun q11 => if q11.2 = nI 0 then zFin q11.1 else ((f_X9_word q11.1).bind fun q16 => (f_X9_isRow q16.2).bind fun q17 => if q17 = nI 0 then ((f_X9_wrong q16.1 (nI 1) (q16.1 0 4)).bind fun q32 => B_X9_county_105 (L_X9_county_44 g) q32 (nI i) q16.2) else (if nI i = nI 60 then ((f_X9_wrong q16.1 (nI 3) (q16.1 0 4)).bind fun q20 => B_X9_county_105 (L_X9_county_44 g) q20 (nI i) q16.2) else ((f_X9_isFull q16.1 q16.2).bind fun q29 => if q29 = nI 0 then (B_X9_county_105 (L_X9_county_44 g) q16.1 (nI i) q16.2) else ((f_X9_wrong q16.1 (nI 3) (q16.1 0 4)).bind fun q31 => B_X9_county_105 (L_X9_county_44 g) q31 (nI i) q16.2))))) := rfl
  rw [eL, z9_fine1 hf, Option.bind_some, if_neg n1, im]
  by_cases c : s ≤ q
  · rw [if_pos c, if_pos c, Option.bind_some]; exact if_pos rfl
  · rw [if_neg c, if_neg c, Option.bind_some]
    show (if nI 1 = nI 0 then zFin M' else ((f_X9_word M').bind _)) = _
    rw [if_neg n1, wd, Option.bind_some]
    show ((f_X9_isRow (nI w)).bind fun q17 => if q17 = nI 0 then ((f_X9_wrong M' (nI 1) (M' 0 4)).bind fun q32 => B_X9_county_105 (L_X9_county_44 g) q32 (nI i) (nI w)) else (if nI i = nI 60 then ((f_X9_wrong M' (nI 3) (M' 0 4)).bind fun q20 => B_X9_county_105 (L_X9_county_44 g) q20 (nI i) (nI w)) else ((f_X9_isFull M' (nI w)).bind fun q29 => if q29 = nI 0 then (B_X9_county_105 (L_X9_county_44 g) M' (nI i) (nI w)) else ((f_X9_wrong M' (nI 3) (M' 0 4)).bind fun q31 => B_X9_county_105 (L_X9_county_44 g) q31 (nI i) (nI w))))) = _
    rw [ir, Option.bind_some, m4, fu, Option.bind_some]
    by_cases c0 : zKd w = 0
    · rw [zbI_f (fun x => x c0), if_pos rfl, if_pos c0]
    · rw [zbI_t c0, if_neg n1, if_neg c0]
      by_cases i6 : i = 60
      · rw [if_pos (by rw [i6]), if_pos (.inl i6)]
      · rw [if_neg (fun x => i6 ((z_nI_inj (by omega) (by omega)).1 x))]
        by_cases cf : (zKd w = 1 ∧ n = 10) ∨ (zKd w = 3 ∧ t = 6)
        · rw [zbI_t cf, if_neg n1, if_pos (.inr cf)]
        · rw [zbI_f cf, if_pos rfl, if_neg (by omega)]
