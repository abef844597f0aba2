set_option linter.unusedVariables false
/-- nothing read yet -/
theorem zKD_0 {X M Y N : TX} (hY : ∀ p, p < 10 → Y 12 p = nI 0 ∧ Y 13 p = nI 0 ∧ Y 13 (10 + p) = nI 0 ∧ Y 14 p = nI 0) (h5 : Y 11 5 = nI 0) (h6 : Y 11 6 = nI 0) (h7 : Y 11 7 = nI 20) (hN : ∀ p, p < 10 → N 4 p = nI 0) (n16 : N 0 16 = nI 0) (n17 : N 0 17 = nI 0) (n18 : N 0 18 = nI 20) : zKD 0 0 Y N := by
  refine zKD.mk (by omega) (by omega) h5 n16 h6 n17 ⟨20, by omega, h7, n18⟩ (fun p hp => absurd hp (by omega)) (fun p hp => absurd hp (by omega)) (fun p _ hp => ⟨(hY p hp).1, (hY p hp).2.1, (hY p hp).2.2.1⟩) (fun p hp => by rw [(hY p hp).2.2.2, hN p hp]) ⟨fun a ha => absurd ha (by omega), fun a b ha => absurd ha (by omega), fun a ha => absurd ha (by omega)⟩ (fun p _ hp => hN p hp) fun i hi => absurd hi (by omega)
