set_option linter.unusedVariables false
/-- a run of steps on both sides -/
theorem z_stepsL {ρ : Type} {s : Nat} {T : Nat → Nat} {dep n : Nat} {St : Nat → Prop} {LX : Nat → TX → Int32 → Option (TX × Int32)} {SX : TX → Option (TX × Int32)} {LM : Nat → TX → Option ρ} {SM : TX → Option TX} {F Fb : TX → Option ρ}
    (e1 : ∀ g p i X, zJx s T p X → i < 150 → St (zA T s p) → LX (g + 1) X (nI i) = some (u2 X 1 3 (nI (zA T s p)), nI 1))
    (e2 : ∀ g p i X, zJx s T p X → i < 150 → ¬ St (zA T s p) → LX (g + 1) X (nI i) = zAnd (SX (u2 X 1 3 (nI (zA T s p)))) fun B => LX g B (nI (i + 1)))
    (m1 : ∀ g p M, zJm s T p M → M 0 5 = -nI 1 → St (zA T s p) → LM (g + 1) M = F (u2 M 0 4 (nI (zA T s p))))
    (m2 : ∀ g p M, zJm s T p M → M 0 5 = -nI 1 → ¬ St (zA T s p) → LM (g + 1) M = (SM (u2 M 0 4 (nI (zA T s p)))).bind (LM g))
    (mS : ∀ g M a, M 0 5 = nI a → a ≤ 600 → LM (g + 1) M = Fb M)
    (hS : ∀ q a X M, zA T s q = q → zWi s T q a dep n X M → zSR s T q a dep n (s - q - 1) X M (SX X) (SM M)) :
    ∀ (d p a i fX fM : Nat) (X M : TX), s - p ≤ d → d + 1 < fX → d + 1 < fM → 5 * i ≤ p → zWi s T p a dep n X M →
      (∃ e b Y N, LX fX X (nI i) = some (Y, nI 1) ∧ LM fM M = F N ∧ p ≤ e ∧ a ≤ b ∧ zWi s T e b dep n Y N ∧ zVX X Y ∧ zVM M N ∧ (∀ j, j < a → Y 32 j = X 32 j ∧ N 15 j = M 15 j) ∧ zPl n (Y 32) (N 15) (s - p) (6 - dep) a b) ∨
      (∃ Y N kd pl, LX fX X (nI i) = some (Y, nI 0) ∧ LM fM M = Fb N ∧ zVR s X M Y N kd pl) := by
  intro d
  induction d with
  | zero => ?_
  | succ d ih => ?_
  all_goals
    intro p a i fX fM X M hd hfX hfM hi h
    have hs := h.s1
    have pe := h.jx.ps
    obtain ⟨g, rfl⟩ : ∃ g, fX = g + 1 := ⟨fX - 1, by omega⟩
    obtain ⟨g', rfl⟩ : ∃ g, fM = g + 1 := ⟨fM - 1, by omega⟩
    obtain ⟨a1, a2, a3⟩ := zA_spec (T := T) h.jx.ps
    have fx : zTX X (u2 X 1 3 (nI (zA T s p))) := zTX_u (.inl rfl) _
    have fm : zTM M (u2 M 0 4 (nI (zA T s p))) := zTM_u _ _
    have h1 := h.mv (h.jx.to a2) (h.jm.to a2) fx fm a1
    by_cases c : St (zA T s p)
    · rw [e1 g p i X h.jx (by omega) c, m1 g' p M h.jm h.f5 c]
      refine .inl ⟨_, a, _, _, rfl, rfl, a1, Nat.le_refl _, h1, fx.vx, fm.vm, fun j _ => ⟨by rw [fx.1 32 (by decide)], by rw [fm.1 15 (by decide)]⟩, ?_⟩
      have z : zPl n (u2 X 1 3 (nI (zA T s p)) 32) (u2 M 0 4 (nI (zA T s p)) 15) 0 (6 - dep) a a := rfl
      exact zPl_to z (by omega)
    · rw [e2 g p i X h.jx (by omega) c, m2 g' p M h.jm h.f5 c]
      have st := hS _ a _ _ a3 h1
      generalize zA T s p = q at *
      rcases st with ⟨e, b, Y, N, k1, k2, k3, k4, k5, k6, k7, k8, k9⟩ | ⟨Y, N, kd, pl, k1, k2, k3⟩
      · have es := k5.jx.ps
        rw [zAnd_1 k1, k2, Option.bind_some]
        first
        | (exfalso; omega)
        | rcases ih e b (i + 1) g g' Y N (by omega) (by omega) (by omega) (by omega) k5 with ⟨e', b', Z, P, o1, o2, o3, o4, o5, o6, o7, o8, o9⟩ | ⟨Z, P, kd, pl, o1, o2, o3⟩
          · refine .inl ⟨e', b', Z, P, o1, o2, by omega, by omega, o5, (fx.vx.trans k6).trans o6, (fm.vm.trans k7).trans o7, fun j hj => ⟨?_, ?_⟩, ?_⟩
            · rw [(o8 j (by omega)).1, (k8 j hj).1, fx.1 32 (by decide)]
            · rw [(o8 j (by omega)).2, (k8 j hj).2, fm.1 15 (by decide)]
            · exact zPl_to (zEl_cons (zEl_congr k9 fun j hj => o8 j hj) (zPl_to o9 (show s - e ≤ s - q - 1 by omega))) (by omega)
          · exact .inr ⟨Z, P, kd, pl, o1, o2, o3.pre (fx.vx.trans k6) (fm.vm.trans k7)⟩
      · rw [zAnd_0 k1, k2, Option.bind_some]
        obtain ⟨g2, rfl⟩ : ∃ g2, g' = g2 + 1 := ⟨g' - 1, by omega⟩
        exact .inr ⟨Y, N, kd, pl, rfl, mS g2 N pl k3.2.2.2.2.1 (by have := k3.2.1; omega), k3.pre fx.vx fm.vm⟩
/-- a step of the class with its sign -/
def zSX (rec : TX → Int32 → Option (TX × Int32)) (dep : Nat) (X : TX) : Option (TX × Int32) := zAnd (f_X6_readStep rec X (nI dep)) fun A => f_X7_sign A (nI 59)
/-- the reference's end of a loop -/
def zFA (x2 : Int32) (M : TX) : Option TX := (f_X9_sign M (nI 93)).bind fun q13 => (f_X9_fine (u2 q13 0 7 ((q13 0 7) - nI 1))).bind fun q14 => if q14 = nI 0 then (some (u2 q13 0 7 ((q13 0 7) - nI 1))) else (if inb (x2 + nI 2) 200 = true then (some (u2 (u2 q13 0 7 ((q13 0 7) - nI 1)) 15 (Int32.toNatClampNeg (x2 + nI 2)) ((u2 q13 0 7 ((q13 0 7) - nI 1)) 0 32))) else none)
theorem zFA_S {M : TX} {a : Nat} (h : M 0 5 = nI a) (ha : a ≤ 600) (x2 : Int32) : zFA x2 M = some (u2 M 0 7 ((M 0 7) - nI 1)) := by
  unfold zFA
  rw [z9_sgnS h ha, Option.bind_some, z9_fine0 (a := a) (by rw [z_u2j _ _ _ _ (by decide)]; exact h) ha, Option.bind_some, if_pos rfl]
/-- the outcome of the steps of a loop -/
def zAR (s : Nat) (T : Nat → Nat) (p a d n : Nat) (X M : TX) (x : Option (TX × Int32)) (r : Option TX) (F : TX → Option TX) : Prop :=
  (∃ e b Y N, x = some (Y, nI 1) ∧ r = F N ∧ p ≤ e ∧ a ≤ b ∧ zWi s T e b d n Y N ∧ zVX X Y ∧ zVM M N ∧ (∀ j, j < a → Y 32 j = X 32 j ∧ N 15 j = M 15 j) ∧ zPl n (Y 32) (N 15) (s - p) (6 - d) a b) ∨
  (∃ Y N kd pl, x = some (Y, nI 0) ∧ r = F N ∧ zVR s X M Y N kd pl)
theorem z_stepsN {s : Nat} {T : Nat → Nat} {dep n : Nat} {rec : TX → Int32 → Option (TX × Int32)} {rec' : TX → Option TX}
    (hS : ∀ q a X M, zA T s q = q → zWi s T q a dep n X M → zSR s T q a dep n (s - q - 1) X M (zSX rec dep X) (rec' M)) (x2 : Int32) {p a : Nat} {X M : TX} (h : zWi s T p a dep n X M) :
    zAR s T p a dep n X M (L_X6_readSteps_14 rec FU X (nI dep) (nI 93) (nI 0)) (L_X9_readAgain_32 rec' FU M x2) (zFA x2) := by
  have hs := h.s1
  have n1 : ¬ nI 1 = nI 0 := by decide
  refine z_stepsL (St := fun q => q < s ∧ T q = 93) (LX := fun f X i => L_X6_readSteps_14 rec f X (nI dep) (nI 93) i) (SX := zSX rec dep) (LM := fun f M => L_X9_readAgain_32 rec' f M x2) (SM := rec') (F := zFA x2) (Fb := zFA x2) ?_ ?_ ?_ ?_ ?_ hS s p a 0 FU FU X M (by omega) (by unfold FU; omega) (by unfold FU; omega) (by omega) h
  · intro g p i X hX hi c
    have n15 : ¬ nI 150 ≤ nI i := by rw [z_nI_le (by omega) (by omega)]; omega
    show (if nI 150 ≤ nI i then (some (X, nI 1)) else ((f_X7_ahead X).bind fun q3 => if q3.2 = nI 93 then (some (q3.1, nI 1)) else _)) = _
    rw [if_neg n15, z7_ahead hX, Option.bind_some]
    exact if_pos ((z_ch hX.t (by omega) (by omega)).1.2 c)
  · intro g p i X hX hi c
    have n15 : ¬ nI 150 ≤ nI i := by rw [z_nI_le (by omega) (by omega)]; omega
    show (if nI 150 ≤ nI i then (some (X, nI 1)) else ((f_X7_ahead X).bind fun q3 => if q3.2 = nI 93 then (some (q3.1, nI 1)) else (zAnd (f_X6_readStep rec q3.1 (nI dep)) fun A => zAnd (f_X7_sign A (nI 59)) fun B => L_X6_readSteps_14 rec g B (nI dep) (nI 93) (nI i + nI 1)))) = zAnd (zSX rec dep (u2 X 1 3 (nI (zA T s p)))) fun B => L_X6_readSteps_14 rec g B (nI dep) (nI 93) (nI (i + 1))
    rw [if_neg n15, z7_ahead hX, Option.bind_some, z_nI_add]
    unfold zSX
    rw [zAnd_assoc]
    exact if_neg (fun x => c ((z_ch hX.t (by omega) (by omega)).1.1 x))
  · intro g p M hM hf c
    show ((f_X9_fine M).bind fun q5 => if q5 = nI 0 then zFA x2 M else ((f_X9_here M).bind fun q11 => if q11.2 = nI 93 then zFA x2 q11.1 else ((rec' q11.1).bind fun q17 => L_X9_readAgain_32 rec' g q17 x2))) = _
    rw [z9_fine1 hf, Option.bind_some, if_neg n1, z9_here hM, Option.bind_some]
    exact if_pos ((z_ch hM.t (by omega) (by omega)).2.2 c)
  · intro g p M hM hf c
    show ((f_X9_fine M).bind fun q5 => if q5 = nI 0 then zFA x2 M else ((f_X9_here M).bind fun q11 => if q11.2 = nI 93 then zFA x2 q11.1 else ((rec' q11.1).bind fun q17 => L_X9_readAgain_32 rec' g q17 x2))) = _
    rw [z9_fine1 hf, Option.bind_some, if_neg n1, z9_here hM, Option.bind_some]
    exact if_neg (fun x => c ((z_ch hM.t (by omega) (by omega)).2.1 x))
  · intro g M a hf ha
    show ((f_X9_fine M).bind fun q5 => if q5 = nI 0 then zFA x2 M else _) = _
    rw [z9_fine0 hf ha, Option.bind_some, if_pos rfl]
