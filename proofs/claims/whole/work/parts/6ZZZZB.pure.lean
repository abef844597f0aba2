set_option linter.unusedVariables false
/-- two fresh ones agree -/
theorem z_init : ∃ m1 m2, f_X9_clears zM0 = some m1 ∧ f_X9_sets m1 = some m2 ∧ zV 0 zX0 m2 := by
  obtain ⟨A, a1, a2, a3, a4, a5, a6⟩ := z9_clears zM0
  obtain ⟨B, b1, b2, b3, b4, b5, b6, b7, b8, b9, b10, b11, b12, b13⟩ := z9_sets (n := 0) (M := A) a4 (by omega)
  have A8 : A 0 8 = -nI 1 := (a2.2 8 (by decide) (by decide) (by decide)).trans rfl
  have A2 : A 0 2 = nI 0 := (a2.2 2 (by decide) (by decide) (by decide)).trans rfl
  have A1 : ∀ j, A 1 j = nI 0 := fun j => by rw [a2.1 1 (by decide) (by decide) (by decide) (by decide)]; rfl
  refine ⟨A, B, a1, b1, ?_⟩
  refine zV.mk (zE.mk (by omega) rfl b4.1 (fun p hp => ?_) ⟨fun a ha => absurd ha (by omega), fun a b ha => absurd ha (by omega), fun a ha => absurd ha (by omega)⟩ ⟨20, by omega, rfl, by rw [b4.2.2.1]; exact a6⟩ ⟨0, by omega, rfl, b4.2.2.2.1, fun _ => 0, rfl, .inl rfl, fun i hi => absurd hi (by omega)⟩ ⟨0, by omega, rfl, by rw [b4.2.1]; exact a5, fun i hi => absurd hi (by omega)⟩)
    (zD.mk (fun p hp => absurd hp (by omega)) (fun p hp => ?_) (fun p hp => ?_) (fun p hp => absurd hp (by omega)) (fun d hd => ⟨rfl, show nI 0 = nI 0 - nI 0 by decide⟩) ?_ (.inl b10) ?_ ?_ ?_) ⟨0, by omega, b12⟩ ⟨0, by omega, rfl, ?_, fun j hj => absurd hj (by omega)⟩ ?_ ⟨fun d hd => .inr ⟨?_, b7 d hd⟩, fun q hq => ?_, ?_⟩ ⟨0, by omega, rfl, b4.2.2.2.2.1, fun i hi => absurd hi (by omega)⟩ ⟨0, by omega, rfl, b4.2.2.2.2.2.2.2, fun i hi => absurd hi (by omega)⟩ ?_ ?_ ?_
  · rw [b5 p hp, a3 p hp]; rfl
  · rw [(b9 p (by omega) hp).1]; rfl
  · by_cases c : p < 10
    · rw [(b9 p (by omega) c).2.1]; rfl
    · obtain ⟨q, rfl⟩ : ∃ q, p = 10 + q := ⟨p - 10, by omega⟩
      rw [show 10 + (10 + q) = 20 + q by omega, (b9 q (by omega) (by omega)).2.2]; rfl
  · rw [b10]; rfl
  · rw [b11]; rfl
  · rw [b12]; rfl
  · rw [b13]; rfl
  · rw [b3 2 (by decide) (by decide) (by decide) (by decide) (by decide) (by decide) (by decide) (by decide)]; exact A2
  · rw [b3 8 (by decide) (by decide) (by decide) (by decide) (by decide) (by decide) (by decide) (by decide), A8]; rfl
  · exact bt_nI0 d
  · have hq' : bt (nI 0) q = true := hq
    rw [bt_nI0] at hq'; exact absurd hq' (by decide)
  · rw [b4.2.2.2.2.2.2.1]
    have : zCnt 10 (nI 0) = 0 := by simp [zCnt, bt_nI0]
    show nI 0 = nI (zCnt 10 (nI 0))
    rw [this]
  · rw [b4.2.2.2.2.2.1]; rfl
  · rw [b2 1 (by decide) (by decide) (by decide) (by decide) (by decide) (by decide), A1]; rfl
  · rw [b2 1 (by decide) (by decide) (by decide) (by decide) (by decide) (by decide), A1]; rfl
