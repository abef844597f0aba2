def GA (G : GP) (n : Nat) (ad : Nat → Nat) : GP := (G.1, G.2.1, ad, (n, G.2.2.2.1.2), G.2.2.2.2)
def zX0 : TX := (u2 (u2 (u2 (u2 (u2 (u2 (u2 (u2 (u2 (u2 (u2 (u2 (u2 (fun _ _ => 0) 1 7 (-1 : Int32)) 3 7 (20 : Int32)) 3 9 (-1 : Int32)) 11 7 (20 : Int32)) 11 9 (-1 : Int32)) 27 2 (-1 : Int32)) 29 2 (-1 : Int32)) 33 2 (-1 : Int32)) 33 3 (-1 : Int32)) 33 4 (-1 : Int32)) 34 5 (-1 : Int32)) 34 7 (-1 : Int32)) 34 8 (-1 : Int32))
def zM0 : TX := u2 (fun _ _ => 0) 0 8 (-1 : Int32)
def zL0 : TL := fun _ _ => 0
def zad (q : Nat → Nat) (us : List Nat) (i : Nat) : Nat := if i < 41 then q i else us.getD (i - 41) 0
theorem wl_inj {A : Nat → Prop} {n : Nat} {ad : Nat → Nat} {f : Nat → va_E} (h : va_D A (wl n ad f)) : (∀ i j, i < n → j < n → ad i = ad j → i = j) ∧ ∀ i, i < n → A (ad i) :=
  ⟨fun i j hi hj e => h.1 i j _ _ (wl_get hi) (wl_get hj) e, fun i hi => h.2 i _ (wl_get hi)⟩
theorem envS_of {G : GP} {n : Nat} {ad : Nat → Nat} {f : Nat → va_E} {s : State} (h : EnvR G s) (hD : va_D (AB G) (wl n ad f)) (hn : 68 ≤ n) : EnvS (GA G n ad) s :=
  ⟨h.1, h.2.1, wl_inj hD, h.2.2.1, hn, h.2.2.2⟩
theorem cX_cong {G G2 : GP} (hI : gI G = gI G2) (h : ∀ i, i < 41 → gA G i = gA G2 i) (row : Nat → Int32) : ∀ k, k < 41 → cX G k row = cX G2 k row
  | 0, _ => by have h1 := h 1 (by decide); have h3 := h 3 (by decide); have h11 := h 11 (by decide); have h19 := h 19 (by decide); have h23 := h 23 (by decide); have h27 := h 27 (by decide); have h29 := h 29 (by decide); have h31 := h 31 (by decide); have h33 := h 33 (by decide); have h34 := h 34 (by decide); have h37 := h 37 (by decide); simp only [cX, hI, h1, h3, h11, h19, h23, h27, h29, h31, h33, h34, h37]
  | 1, _ => by have h2 := h 2 (by decide); simp only [cX, hI, h2]
  | 2, _ => by simp only [cX, hI]
  | 3, _ => by have h4 := h 4 (by decide); have h5 := h 5 (by decide); have h6 := h 6 (by decide); have h7 := h 7 (by decide); have h8 := h 8 (by decide); have h9 := h 9 (by decide); have h10 := h 10 (by decide); simp only [cX, hI, h4, h5, h6, h7, h8, h9, h10]
  | 4, _ => by simp only [cX, hI]
  | 5, _ => by simp only [cX, hI]
  | 6, _ => by simp only [cX, hI]
  | 7, _ => by simp only [cX, hI]
  | 8, _ => by simp only [cX, hI]
  | 9, _ => by simp only [cX, hI]
  | 10, _ => by simp only [cX, hI]
  | 11, _ => by have h12 := h 12 (by decide); have h13 := h 13 (by decide); have h14 := h 14 (by decide); have h15 := h 15 (by decide); have h16 := h 16 (by decide); have h17 := h 17 (by decide); have h18 := h 18 (by decide); simp only [cX, hI, h12, h13, h14, h15, h16, h17, h18]
  | 12, _ => by simp only [cX, hI]
  | 13, _ => by simp only [cX, hI]
  | 14, _ => by simp only [cX, hI]
  | 15, _ => by simp only [cX, hI]
  | 16, _ => by simp only [cX, hI]
  | 17, _ => by simp only [cX, hI]
  | 18, _ => by simp only [cX, hI]
  | 19, _ => by have h20 := h 20 (by decide); have h21 := h 21 (by decide); have h22 := h 22 (by decide); simp only [cX, hI, h20, h21, h22]
  | 20, _ => by simp only [cX, hI]
  | 21, _ => by simp only [cX, hI]
  | 22, _ => by simp only [cX, hI]
  | 23, _ => by have h24 := h 24 (by decide); have h25 := h 25 (by decide); have h26 := h 26 (by decide); simp only [cX, hI, h24, h25, h26]
  | 24, _ => by simp only [cX, hI]
  | 25, _ => by simp only [cX, hI]
  | 26, _ => by simp only [cX, hI]
  | 27, _ => by have h28 := h 28 (by decide); simp only [cX, hI, h28]
  | 28, _ => by simp only [cX, hI]
  | 29, _ => by have h30 := h 30 (by decide); simp only [cX, hI, h30]
  | 30, _ => by simp only [cX, hI]
  | 31, _ => by have h32 := h 32 (by decide); simp only [cX, hI, h32]
  | 32, _ => by simp only [cX, hI]
  | 33, _ => by have h3 := h 3 (by decide); have h19 := h 19 (by decide); simp only [cX, hI, h3, h19]
  | 34, _ => by have h3 := h 3 (by decide); have h33 := h 33 (by decide); have h35 := h 35 (by decide); have h36 := h 36 (by decide); simp only [cX, hI, h3, h33, h35, h36]
  | 35, _ => by simp only [cX, hI]
  | 36, _ => by simp only [cX, hI]
  | 37, _ => by have h38 := h 38 (by decide); have h39 := h 39 (by decide); have h40 := h 40 (by decide); simp only [cX, hI, h38, h39, h40]
  | 38, _ => by simp only [cX, hI]
  | 39, _ => by simp only [cX, hI]
  | 40, _ => by simp only [cX, hI]
  | k + 41, hk => absurd hk (by omega)
theorem wl_app (n m : Nat) (ad : Nat → Nat) (f : Nat → va_E) : wl (n + m) ad f = wl n ad f ++ (List.range m).map fun k => (ad (n + k), f (n + k)) := by
  unfold wl
  rw [List.range_add, List.map_append, List.map_map]
  rfl
theorem wl_cong {n : Nat} {ad ad2 : Nat → Nat} {f f2 : Nat → va_E} (h : ∀ k, k < n → ad k = ad2 k ∧ f k = f2 k) : wl n ad f = wl n ad2 f2 := by
  unfold wl
  refine List.map_congr_left fun k hk => ?_
  rw [(h k (List.mem_range.1 hk)).1, (h k (List.mem_range.1 hk)).2]
theorem zad_lt {q : Nat → Nat} {us : List Nat} {i : Nat} (h : i < 41) : zad q us i = q i := if_pos h
theorem mod_list {G : GP} {q : Nat → Nat} {h0 q1 q2 q3 q4 q5 q6 q7 q8 q9 q10 q11 q12 q13 q14 q15 q16 q17 q18 q19 q20 q21 q22 q23 q24 q25 q26 : Nat} : wl 41 q (fun k => cX (GA G 41 q) k (zX0 k)) ++ [(h0, .inr (9, [.int 0, .ref q1, .int 0, .int 0, .int 0, .int 0, .int 0, .int 0, .int (-1 : Int32), .ref q2, .ref q3, .ref q4, .ref q5, .ref q6, .ref q7, .ref q8, .int 0, .int 0, .int 0, .int 0, .int 0, .int 0, .ref q9, .ref q10, .ref q11, .ref q12, .ref q13, .int 0, .int 0, .ref q14, .ref q15, .ref q16, .int 0, .int 0, .int 0, .int 0, .int 0, .int 0, .ref q17, .ref q18, .int 0, .ref q19, .ref q20, .ref q21, .ref q22, .ref q23, .ref q24, .ref q25, .int 0, .ref q26, .int 0])), (q1, .inl (gI G, 2, .inl fun _ => 0)), (q2, .inl (gI G, 600, .inl fun _ => 0)), (q3, .inl (gI G, 30, .inl fun _ => 0)), (q4, .inl (gI G, 10, .inl fun _ => 0)), (q5, .inl (gI G, 12, .inl fun _ => 0)), (q6, .inl (gI G, 30, .inl fun _ => 0)), (q7, .inl (gI G, 10, .inl fun _ => 0)), (q8, .inl (gI G, 12, .inl fun _ => 0)), (q9, .inl (gI G, 150, .inl fun _ => 0)), (q10, .inl (gI G, 150, .inl fun _ => 0)), (q11, .inl (gI G, 150, .inl fun _ => 0)), (q12, .inl (gI G, 150, .inl fun _ => 0)), (q13, .inl (gI G, 150, .inl fun _ => 0)), (q14, .inl (gI G, 8, .inl fun _ => 0)), (q15, .inl (gI G, 200, .inl fun _ => 0)), (q16, .inl (gI G, 200, .inl fun _ => 0)), (q17, .inl (gI G, 4, .inl fun _ => 0)), (q18, .inl (gI G, 4, .inl fun _ => 0)), (q19, .inl (gI G, 34, .inl fun _ => 0)), (q20, .inl (gI G, 34, .inl fun _ => 0)), (q21, .inl (gI G, 544, .inl fun _ => 0)), (q22, .inl (gI G, 1952, .inl fun _ => 0)), (q23, .inl (gI G, 160, .inl fun _ => 0)), (q24, .inl (gI G, 3, .inl fun _ => 0)), (q25, .inl (gJ G, 14, .inr (.inl fun _ => 0))), (q26, .inl (gI G, 1737, .inl fun _ => 0))] = wl 68 (zad q [h0, q1, q2, q3, q4, q5, q6, q7, q8, q9, q10, q11, q12, q13, q14, q15, q16, q17, q18, q19, q20, q21, q22, q23, q24, q25, q26]) (cW (GA G 68 (zad q [h0, q1, q2, q3, q4, q5, q6, q7, q8, q9, q10, q11, q12, q13, q14, q15, q16, q17, q18, q19, q20, q21, q22, q23, q24, q25, q26])) zX0 zM0 zL0) := by
  rw [show 68 = 41 + 27 from rfl, wl_app]
  refine congr (congrArg _ (wl_cong fun k hk => ⟨(zad_lt hk).symm, ?_⟩)) ?_
  · rw [show ∀ G X M L, cW G X M L k = cX G k (X k) from fun _ _ _ _ => if_pos hk]
    exact cX_cong (G := GA G 41 q) (G2 := GA G 68 (zad q [h0, q1, q2, q3, q4, q5, q6, q7, q8, q9, q10, q11, q12, q13, q14, q15, q16, q17, q18, q19, q20, q21, q22, q23, q24, q25, q26])) rfl (fun i hi => (zad_lt hi).symm) _ k hk
  · rfl
