/-! the tables' words that keep (TB) and those of nest mates (NW) -/
def TB : List Cond := lw_tbl.filter goodWord
def nestWord : Cond → Bool
  | .fieldLinkNest .. => true
  | .methodLinkNest .. => true
  | .castable .. => true
  | .declares .. => true
  | _ => false
def NW : List Cond := lw_tbl.filter nestWord
theorem in_t1 {w : Cond} (h : w ∈ tables_1_1) : w ∈ lw_tbl := List.mem_append_right _ (show w ∈ tables_1 from List.mem_append_left _ h)
theorem tb1 {w : Cond} (j : Nat) (h : tables_1_1[j]? = some w) (g : goodWord w = true) : w ∈ TB := List.mem_filter.mpr ⟨in_t1 (List.mem_of_getElem? h), g⟩
theorem nw1 {w : Cond} (j : Nat) (h : tables_1_1[j]? = some w) (g : nestWord w = true) : w ∈ NW := List.mem_filter.mpr ⟨in_t1 (List.mem_of_getElem? h), g⟩
theorem in_t2 {w : Cond} (h : w ∈ tables_1_2) : w ∈ lw_tbl := List.mem_append_right _ (show w ∈ tables_1 from List.mem_append_right _ (List.mem_append_left _ h))
theorem tb2 {w : Cond} (j : Nat) (h : tables_1_2[j]? = some w) (g : goodWord w = true) : w ∈ TB := List.mem_filter.mpr ⟨in_t2 (List.mem_of_getElem? h), g⟩
theorem nw2 {w : Cond} (j : Nat) (h : tables_1_2[j]? = some w) (g : nestWord w = true) : w ∈ NW := List.mem_filter.mpr ⟨in_t2 (List.mem_of_getElem? h), g⟩
theorem in_t3 {w : Cond} (h : w ∈ tables_1_3) : w ∈ lw_tbl := List.mem_append_right _ (show w ∈ tables_1 from List.mem_append_right _ (List.mem_append_right _ (List.mem_append_left _ h)))
theorem tb3 {w : Cond} (j : Nat) (h : tables_1_3[j]? = some w) (g : goodWord w = true) : w ∈ TB := List.mem_filter.mpr ⟨in_t3 (List.mem_of_getElem? h), g⟩
theorem nw3 {w : Cond} (j : Nat) (h : tables_1_3[j]? = some w) (g : nestWord w = true) : w ∈ NW := List.mem_filter.mpr ⟨in_t3 (List.mem_of_getElem? h), g⟩
theorem in_t4 {w : Cond} (h : w ∈ tables_1_4) : w ∈ lw_tbl := List.mem_append_right _ (show w ∈ tables_1 from List.mem_append_right _ (List.mem_append_right _ (List.mem_append_right _ (List.mem_append_left _ h))))
theorem tb4 {w : Cond} (j : Nat) (h : tables_1_4[j]? = some w) (g : goodWord w = true) : w ∈ TB := List.mem_filter.mpr ⟨in_t4 (List.mem_of_getElem? h), g⟩
theorem nw4 {w : Cond} (j : Nat) (h : tables_1_4[j]? = some w) (g : nestWord w = true) : w ∈ NW := List.mem_filter.mpr ⟨in_t4 (List.mem_of_getElem? h), g⟩
theorem in_t5 {w : Cond} (h : w ∈ tables_1_5) : w ∈ lw_tbl := List.mem_append_right _ (show w ∈ tables_1 from List.mem_append_right _ (List.mem_append_right _ (List.mem_append_right _ (List.mem_append_right _ (List.mem_append_left _ h)))))
theorem tb5 {w : Cond} (j : Nat) (h : tables_1_5[j]? = some w) (g : goodWord w = true) : w ∈ TB := List.mem_filter.mpr ⟨in_t5 (List.mem_of_getElem? h), g⟩
theorem nw5 {w : Cond} (j : Nat) (h : tables_1_5[j]? = some w) (g : nestWord w = true) : w ∈ NW := List.mem_filter.mpr ⟨in_t5 (List.mem_of_getElem? h), g⟩
theorem in_t6 {w : Cond} (h : w ∈ tables_1_6) : w ∈ lw_tbl := List.mem_append_right _ (show w ∈ tables_1 from List.mem_append_right _ (List.mem_append_right _ (List.mem_append_right _ (List.mem_append_right _ (List.mem_append_right _ (List.mem_append_left _ h))))))
theorem tb6 {w : Cond} (j : Nat) (h : tables_1_6[j]? = some w) (g : goodWord w = true) : w ∈ TB := List.mem_filter.mpr ⟨in_t6 (List.mem_of_getElem? h), g⟩
theorem nw6 {w : Cond} (j : Nat) (h : tables_1_6[j]? = some w) (g : nestWord w = true) : w ∈ NW := List.mem_filter.mpr ⟨in_t6 (List.mem_of_getElem? h), g⟩
theorem in_t7 {w : Cond} (h : w ∈ tables_1_7) : w ∈ lw_tbl := List.mem_append_right _ (show w ∈ tables_1 from List.mem_append_right _ (List.mem_append_right _ (List.mem_append_right _ (List.mem_append_right _ (List.mem_append_right _ (List.mem_append_right _ (List.mem_append_left _ h)))))))
theorem tb7 {w : Cond} (j : Nat) (h : tables_1_7[j]? = some w) (g : goodWord w = true) : w ∈ TB := List.mem_filter.mpr ⟨in_t7 (List.mem_of_getElem? h), g⟩
theorem nw7 {w : Cond} (j : Nat) (h : tables_1_7[j]? = some w) (g : nestWord w = true) : w ∈ NW := List.mem_filter.mpr ⟨in_t7 (List.mem_of_getElem? h), g⟩
theorem in_t8 {w : Cond} (h : w ∈ tables_1_8) : w ∈ lw_tbl := List.mem_append_right _ (show w ∈ tables_1 from List.mem_append_right _ (List.mem_append_right _ (List.mem_append_right _ (List.mem_append_right _ (List.mem_append_right _ (List.mem_append_right _ (List.mem_append_right _ (h))))))))
theorem tb8 {w : Cond} (j : Nat) (h : tables_1_8[j]? = some w) (g : goodWord w = true) : w ∈ TB := List.mem_filter.mpr ⟨in_t8 (List.mem_of_getElem? h), g⟩
theorem nw8 {w : Cond} (j : Nat) (h : tables_1_8[j]? = some w) (g : nestWord w = true) : w ∈ NW := List.mem_filter.mpr ⟨in_t8 (List.mem_of_getElem? h), g⟩
theorem tbs {q : MethodName × Nat} (h : q ∈ lw_privs) (g : goodWord (Cond.selects q.1.cls q.1 q.1) = true) : Cond.selects q.1.cls q.1 q.1 ∈ TB := List.mem_filter.mpr ⟨List.mem_append_left _ (List.mem_map.mpr ⟨q, h, rfl⟩), g⟩
theorem TB_good {w : Cond} (h : w ∈ TB) : (w.onTables && w.keeps) = true ∨ ∃ ty, w = .arrayClass ty := good_of_word (List.mem_filter.mp h).2
theorem TB_tbl {w : Cond} (h : w ∈ TB) : w ∈ lw_tbl := (List.mem_filter.mp h).1
theorem NW_tbl {w : Cond} (h : w ∈ NW) : w ∈ lw_tbl := (List.mem_filter.mp h).1
theorem TB_self {ws : List Cond} (h : ∀ w ∈ ws, w ∈ TB) : GoodIn TB ws := fun w hw => ⟨h w hw, TB_good (h w hw)⟩
def FL (own : String) (idx ci j : Nat) (d : String) (fin : Bool) : Prop := ∃ (C : String) (T : u_T) (N : Nat) (ty : Nat → FieldType), vwCl[ci]? = some (C, T, N) ∧ j < N ∧ (∀ w ∈ u_ws C T N, w ∈ TB) ∧ (∀ k, k < N → parseFieldDescriptor (T k).2.2.1 = some (ty k)) ∧ (∀ a, a < N → ∀ b, b < N → a ≠ b → (T a).2.1 ≠ (T b).2.1) ∧ (T j).1 = C ∧ (T j).2.2.1 = d ∧ (T j).2.2.2 = fin ∧ (Cond.fieldLink own idx C (T j).2.1 (T j).2.2.1 ∈ TB ∨ ∃ host, Cond.fieldLinkNest own idx C (T j).2.1 (T j).2.2.1 host ∈ NW)
def CL (own : String) (idx : Nat) (y : MethodName) (cc : ByteArray) (maxL : Nat) (ret : Option FieldType) (np : Nat) (st : Bool) : Prop :=
  Cond.code y cc maxL ret ∈ TB ∧ Cond.initialized y.cls ∈ TB ∧ (y.cls ≠ "java/lang/invoke/MethodHandle" ∧ y.cls ≠ "java/lang/invoke/VarHandle" ∧ (parseMethodDescriptor y.desc).map (fun d => d.parameters.length) = some np) ∧
  (Cond.methodLink own idx y ∈ TB ∨ ∃ host, Cond.methodLinkNest own idx y host ∈ NW) ∧ (if st = true then Cond.static y ∈ TB else Cond.instanceMethod y ∈ TB ∧ Cond.selects y.cls y y ∈ TB)
def CLI (own : String) (idx : Nat) (y : MethodName) (cc : ByteArray) (maxL np : Nat) : Prop :=
  Cond.code y cc maxL none ∈ TB ∧ Cond.initialized y.cls ∈ TB ∧ (y.cls ≠ "java/lang/invoke/MethodHandle" ∧ y.cls ≠ "java/lang/invoke/VarHandle" ∧ (parseMethodDescriptor y.desc).map (fun d => d.parameters.length) = some np) ∧
  (Cond.methodLink own idx y ∈ TB ∨ ∃ host, Cond.methodLinkNest own idx y host ∈ NW) ∧ Cond.instanceMethod y ∈ TB ∧ y.name = "<init>"
theorem inTX0 : ∀ w ∈ wsX00, w ∈ TB := fun w h => List.mem_filter.mpr ⟨inX0 w h, (show ∀ w ∈ wsX00, goodWord w = true by decide +kernel) w h⟩
theorem inTX1 : ∀ w ∈ wsX10, w ∈ TB := fun w h => List.mem_filter.mpr ⟨inX1 w h, (show ∀ w ∈ wsX10, goodWord w = true by decide +kernel) w h⟩
theorem inTX2 : ∀ w ∈ wsX20, w ∈ TB := fun w h => List.mem_filter.mpr ⟨inX2 w h, (show ∀ w ∈ wsX20, goodWord w = true by decide +kernel) w h⟩
theorem inTX3 : ∀ w ∈ wsX30, w ∈ TB := fun w h => List.mem_filter.mpr ⟨inX3 w h, (show ∀ w ∈ wsX30, goodWord w = true by decide +kernel) w h⟩
theorem inTX4 : ∀ w ∈ wsX40, w ∈ TB := fun w h => List.mem_filter.mpr ⟨inX4 w h, (show ∀ w ∈ wsX40, goodWord w = true by decide +kernel) w h⟩
theorem inTX5 : ∀ w ∈ wsX50, w ∈ TB := fun w h => List.mem_filter.mpr ⟨inX5 w h, (show ∀ w ∈ wsX50, goodWord w = true by decide +kernel) w h⟩
theorem inTX6 : ∀ w ∈ wsX60, w ∈ TB := fun w h => List.mem_filter.mpr ⟨inX6 w h, (show ∀ w ∈ wsX60, goodWord w = true by decide +kernel) w h⟩
theorem inTX7 : ∀ w ∈ wsX70, w ∈ TB := fun w h => List.mem_filter.mpr ⟨inX7 w h, (show ∀ w ∈ wsX70, goodWord w = true by decide +kernel) w h⟩
theorem inTX8 : ∀ w ∈ wsX80, w ∈ TB := fun w h => List.mem_filter.mpr ⟨inX8 w h, (show ∀ w ∈ wsX80, goodWord w = true by decide +kernel) w h⟩
theorem inTX9 : ∀ w ∈ wsX90, w ∈ TB := fun w h => List.mem_filter.mpr ⟨inX9 w h, (show ∀ w ∈ wsX90, goodWord w = true by decide +kernel) w h⟩
theorem flX0_9 : FL RX0 9 0 0 "[I" true := ⟨RX0, TX0, 5, tyX0, rfl, by decide, inTX0, tyX0_ok, nmX0, rfl, rfl, rfl, Or.inl (tb2 46 rfl rfl)⟩
theorem flX0_15 : FL RX0 15 0 1 "[I" true := ⟨RX0, TX0, 5, tyX0, rfl, by decide, inTX0, tyX0_ok, nmX0, rfl, rfl, rfl, Or.inl (tb2 47 rfl rfl)⟩
theorem flX0_18 : FL RX0 18 0 2 "[I" true := ⟨RX0, TX0, 5, tyX0, rfl, by decide, inTX0, tyX0_ok, nmX0, rfl, rfl, rfl, Or.inl (tb2 48 rfl rfl)⟩
theorem flX0_21 : FL RX0 21 0 3 "I" false := ⟨RX0, TX0, 5, tyX0, rfl, by decide, inTX0, tyX0_ok, nmX0, rfl, rfl, rfl, Or.inl (tb2 49 rfl rfl)⟩
theorem flX0_25 : FL RX0 25 0 4 "I" false := ⟨RX0, TX0, 5, tyX0, rfl, by decide, inTX0, tyX0_ok, nmX0, rfl, rfl, rfl, Or.inl (tb2 51 rfl rfl)⟩
theorem clX0_28 : CL RX0 28 yX3_save cX3_save 3 none 2 false := ⟨(tb2 180 rfl rfl), (tb1 3 rfl rfl), by decide +kernel, Or.inr ⟨"WinnerDraws", (nw2 177 rfl rfl)⟩, ⟨(tb2 179 rfl rfl), (tbs (List.mem_of_getElem? (i := 7) rfl) rfl)⟩⟩
theorem clX0_34 : CL RX0 34 yX3_load cX3_load 3 none 2 false := ⟨(tb2 133 rfl rfl), (tb1 3 rfl rfl), by decide +kernel, Or.inr ⟨"WinnerDraws", (nw2 130 rfl rfl)⟩, ⟨(tb2 132 rfl rfl), (tbs (List.mem_of_getElem? (i := 2) rfl) rfl)⟩⟩
theorem clX0_37 : CL RX0 37 yX8_copy cX8_copy 6 none 5 true := ⟨(tb2 136 rfl rfl), (tb1 1 rfl rfl), by decide +kernel, Or.inr ⟨"WinnerDraws", (nw2 181 rfl rfl)⟩, (tb2 135 rfl rfl)⟩
theorem clX0_41 : CL RX0 41 yX8_put cX8_put 3 none 3 true := ⟨(tb2 117 rfl rfl), (tb1 1 rfl rfl), by decide +kernel, Or.inr ⟨"WinnerDraws", (nw2 182 rfl rfl)⟩, (tb2 116 rfl rfl)⟩
theorem clX0_45 : CL RX0 45 yX8_at cX8_at 2 (some .int) 2 true := ⟨(tb2 139 rfl rfl), (tb1 1 rfl rfl), by decide +kernel, Or.inr ⟨"WinnerDraws", (nw2 191 rfl rfl)⟩, (tb2 138 rfl rfl)⟩
theorem flX1_9 : FL RX1 9 1 0 "[I" true := ⟨RX1, TX1, 3, tyX1, rfl, by decide, inTX1, tyX1_ok, nmX1, rfl, rfl, rfl, Or.inl (tb1 166 rfl rfl)⟩
theorem flX1_15 : FL RX1 15 1 2 "I" false := ⟨RX1, TX1, 3, tyX1, rfl, by decide, inTX1, tyX1_ok, nmX1, rfl, rfl, rfl, Or.inl (tb1 168 rfl rfl)⟩
theorem flX1_19 : FL RX1 19 1 1 "I" false := ⟨RX1, TX1, 3, tyX1, rfl, by decide, inTX1, tyX1_ok, nmX1, rfl, rfl, rfl, Or.inl (tb1 167 rfl rfl)⟩
theorem clX1_22 : CL RX1 22 yX8_copy cX8_copy 6 none 5 true := ⟨(tb2 136 rfl rfl), (tb1 1 rfl rfl), by decide +kernel, Or.inr ⟨"WinnerDraws", (nw4 190 rfl rfl)⟩, (tb2 135 rfl rfl)⟩
theorem clX1_26 : CL RX1 26 yX7_ahead cX7_ahead 1 (some .int) 0 false := ⟨(tb3 53 rfl rfl), (tb1 2 rfl rfl), by decide +kernel, Or.inr ⟨"WinnerDraws", (nw4 172 rfl rfl)⟩, ⟨(tb3 52 rfl rfl), (tbs (List.mem_of_getElem? (i := 15) rfl) rfl)⟩⟩
theorem clX1_32 : CL RX1 32 yX1_readLine cX1_readLine 3 (some .boolean) 1 false := ⟨(tb4 176 rfl rfl), (tb1 5 rfl rfl), by decide +kernel, Or.inl (tb4 173 rfl rfl), ⟨(tb4 175 rfl rfl), (tbs (List.mem_of_getElem? (i := 68) rfl) rfl)⟩⟩
theorem clX1_36 : CL RX1 36 yX7_sign cX7_sign 2 (some .boolean) 1 false := ⟨(tb3 160 rfl rfl), (tb1 2 rfl rfl), by decide +kernel, Or.inr ⟨"WinnerDraws", (nw4 185 rfl rfl)⟩, ⟨(tb3 159 rfl rfl), (tbs (List.mem_of_getElem? (i := 25) rfl) rfl)⟩⟩
theorem clX1_40 : CL RX1 40 yX7_number cX7_number 2 (some .boolean) 1 false := ⟨(tb3 137 rfl rfl), (tb1 2 rfl rfl), by decide +kernel, Or.inr ⟨"WinnerDraws", (nw4 177 rfl rfl)⟩, ⟨(tb3 136 rfl rfl), (tbs (List.mem_of_getElem? (i := 21) rfl) rfl)⟩⟩
theorem flX1_43 : FL RX1 43 7 5 "I" false := ⟨RX7, TX7, 8, tyX7, rfl, by decide, inTX7, tyX7_ok, nmX7, rfl, rfl, rfl, Or.inr ⟨"WinnerDraws", (nw1 48 rfl rfl)⟩⟩
theorem clX1_46 : CL RX1 46 yX1_hasLine cX1_hasLine 2 (some .boolean) 1 false := ⟨(tb4 181 rfl rfl), (tb1 5 rfl rfl), by decide +kernel, Or.inl (tb4 178 rfl rfl), ⟨(tb4 180 rfl rfl), (tbs (List.mem_of_getElem? (i := 69) rfl) rfl)⟩⟩
theorem flX1_49 : FL RX1 49 7 4 "I" false := ⟨RX7, TX7, 8, tyX7, rfl, by decide, inTX7, tyX7_ok, nmX7, rfl, rfl, rfl, Or.inr ⟨"WinnerDraws", (nw1 44 rfl rfl)⟩⟩
theorem clX1_52 : CL RX1 52 yX7_fail cX7_fail 3 (some .boolean) 2 false := ⟨(tb3 129 rfl rfl), (tb1 2 rfl rfl), by decide +kernel, Or.inr ⟨"WinnerDraws", (nw4 183 rfl rfl)⟩, ⟨(tb3 128 rfl rfl), (tbs (List.mem_of_getElem? (i := 19) rfl) rfl)⟩⟩
theorem clX1_56 : CL RX1 56 yX8_put cX8_put 3 none 3 true := ⟨(tb2 117 rfl rfl), (tb1 1 rfl rfl), by decide +kernel, Or.inr ⟨"WinnerDraws", (nw4 184 rfl rfl)⟩, (tb2 116 rfl rfl)⟩
theorem clX1_60 : CL RX1 60 yJ6_bitCount_0f7a4 cJ6_bitCount_0f7a4 1 (some .int) 1 true := ⟨(tb2 165 rfl rfl), (tb1 20 rfl rfl), by decide +kernel, Or.inl (tb4 195 rfl rfl), (tb2 164 rfl rfl)⟩
theorem clX1_66 : CL RX1 66 yX8_has cX8_has 2 (some .boolean) 2 true := ⟨(tb4 103 rfl rfl), (tb1 1 rfl rfl), by decide +kernel, Or.inr ⟨"WinnerDraws", (nw4 182 rfl rfl)⟩, (tb4 102 rfl rfl)⟩
theorem clX1_69 : CL RX1 69 yX3_winner cX3_winner 3 (some .int) 1 false := ⟨(tb5 31 rfl rfl), (tb1 3 rfl rfl), by decide +kernel, Or.inr ⟨"WinnerDraws", (nw5 198 rfl rfl)⟩, ⟨(tb5 30 rfl rfl), (tbs (List.mem_of_getElem? (i := 79) rfl) rfl)⟩⟩
theorem clX1_74 : CL RX1 74 yX8_at cX8_at 2 (some .int) 2 true := ⟨(tb2 139 rfl rfl), (tb1 1 rfl rfl), by decide +kernel, Or.inr ⟨"WinnerDraws", (nw5 199 rfl rfl)⟩, (tb2 138 rfl rfl)⟩
theorem flX1_78 : FL RX1 78 3 5 "I" false := ⟨RX3, TX3, 14, tyX3, rfl, by decide, inTX3, tyX3_ok, nmX3, rfl, rfl, rfl, Or.inr ⟨"WinnerDraws", (nw1 90 rfl rfl)⟩⟩
theorem clX1_81 : CL RX1 81 yX3_openWards cX3_openWards 6 (some .int) 1 false := ⟨(tb4 95 rfl rfl), (tb1 3 rfl rfl), by decide +kernel, Or.inr ⟨"WinnerDraws", (nw5 191 rfl rfl)⟩, ⟨(tb4 94 rfl rfl), (tbs (List.mem_of_getElem? (i := 54) rfl) rfl)⟩⟩
theorem clX1_84 : CL RX1 84 yX3_wardOf cX3_wardOf 2 (some .int) 1 false := ⟨(tb4 121 rfl rfl), (tb1 3 rfl rfl), by decide +kernel, Or.inr ⟨"WinnerDraws", (nw5 192 rfl rfl)⟩, ⟨(tb4 120 rfl rfl), (tbs (List.mem_of_getElem? (i := 59) rfl) rfl)⟩⟩
theorem clX1_87 : CL RX1 87 yX3_place cX3_place 5 none 2 false := ⟨(tb4 148 rfl rfl), (tb1 3 rfl rfl), by decide +kernel, Or.inr ⟨"WinnerDraws", (nw5 193 rfl rfl)⟩, ⟨(tb4 147 rfl rfl), (tbs (List.mem_of_getElem? (i := 63) rfl) rfl)⟩⟩
theorem clX1_91 : CL RX1 91 yX1_isRight cX1_isRight 3 (some .boolean) 1 false := ⟨(tb5 197 rfl rfl), (tb1 5 rfl rfl), by decide +kernel, Or.inl (tb5 194 rfl rfl), ⟨(tb5 196 rfl rfl), (tbs (List.mem_of_getElem? (i := 91) rfl) rfl)⟩⟩
theorem clX1_95 : CL RX1 95 yX1_fitting cX1_fitting 9 (some .int) 3 false := ⟨(tb5 190 rfl rfl), (tb1 5 rfl rfl), by decide +kernel, Or.inl (tb5 212 rfl rfl), ⟨(tb5 189 rfl rfl), (tbs (List.mem_of_getElem? (i := 90) rfl) rfl)⟩⟩
theorem clX1_99 : CL RX1 99 yJ9_max_7cf53 cJ9_max_7cf53 2 (some .int) 2 true := ⟨(tb4 140 rfl rfl), (tb1 19 rfl rfl), by decide +kernel, Or.inl (tb5 213 rfl rfl), (tb4 139 rfl rfl)⟩
theorem flX2_9 : FL RX2 9 2 2 "I" false := ⟨RX2, TX2, 5, tyX2, rfl, by decide, inTX2, tyX2_ok, nmX2, rfl, rfl, rfl, Or.inl (tb1 213 rfl rfl)⟩
theorem flX2_15 : FL RX2 15 2 3 "I" false := ⟨RX2, TX2, 5, tyX2, rfl, by decide, inTX2, tyX2_ok, nmX2, rfl, rfl, rfl, Or.inl (tb1 215 rfl rfl)⟩
theorem flX2_18 : FL RX2 18 2 4 "I" false := ⟨RX2, TX2, 5, tyX2, rfl, by decide, inTX2, tyX2_ok, nmX2, rfl, rfl, rfl, Or.inl (tb1 217 rfl rfl)⟩
theorem flX2_21 : FL RX2 21 2 0 "LWinnerDraws$County;" true := ⟨RX2, TX2, 5, tyX2, rfl, by decide, inTX2, tyX2_ok, nmX2, rfl, rfl, rfl, Or.inl (tb1 211 rfl rfl)⟩
theorem flX2_25 : FL RX2 25 2 1 "LWinnerDraws$Law;" true := ⟨RX2, TX2, 5, tyX2, rfl, by decide, inTX2, tyX2_ok, nmX2, rfl, rfl, rfl, Or.inl (tb1 212 rfl rfl)⟩
theorem flX2_29 : FL RX2 29 3 8 "I" false := ⟨RX3, TX3, 14, tyX3, rfl, by decide, inTX3, tyX3_ok, nmX3, rfl, rfl, rfl, Or.inr ⟨"WinnerDraws", (nw1 96 rfl rfl)⟩⟩
theorem clX2_34 : CL RX2 34 yX3_elect cX3_elect 3 none 0 false := ⟨(tb4 51 rfl rfl), (tb1 3 rfl rfl), by decide +kernel, Or.inr ⟨"WinnerDraws", (nw4 48 rfl rfl)⟩, ⟨(tb4 50 rfl rfl), (tbs (List.mem_of_getElem? (i := 44) rfl) rfl)⟩⟩
theorem flX2_37 : FL RX2 37 3 9 "I" false := ⟨RX3, TX3, 14, tyX3, rfl, by decide, inTX3, tyX3_ok, nmX3, rfl, rfl, rfl, Or.inr ⟨"WinnerDraws", (nw1 100 rfl rfl)⟩⟩
theorem clX2_40 : CL RX2 40 yX2_choose cX2_choose 9 (some .boolean) 1 false := ⟨(tb4 90 rfl rfl), (tb1 7 rfl rfl), by decide +kernel, Or.inl (tb4 87 rfl rfl), ⟨(tb4 89 rfl rfl), (tbs (List.mem_of_getElem? (i := 53) rfl) rfl)⟩⟩
theorem clX2_44 : CL RX2 44 yX2_shift cX2_shift 3 (some .boolean) 2 false := ⟨(tb4 144 rfl rfl), (tb1 7 rfl rfl), by decide +kernel, Or.inl (tb4 141 rfl rfl), ⟨(tb4 143 rfl rfl), (tbs (List.mem_of_getElem? (i := 62) rfl) rfl)⟩⟩
theorem clX2_48 : CL RX2 48 yX3_openWards cX3_openWards 6 (some .int) 1 false := ⟨(tb4 95 rfl rfl), (tb1 3 rfl rfl), by decide +kernel, Or.inr ⟨"WinnerDraws", (nw4 92 rfl rfl)⟩, ⟨(tb4 94 rfl rfl), (tbs (List.mem_of_getElem? (i := 54) rfl) rfl)⟩⟩
theorem clX2_52 : CL RX2 52 yX8_has cX8_has 2 (some .boolean) 2 true := ⟨(tb4 103 rfl rfl), (tb1 1 rfl rfl), by decide +kernel, Or.inr ⟨"WinnerDraws", (nw4 104 rfl rfl)⟩, (tb4 102 rfl rfl)⟩
theorem clX2_55 : CL RX2 55 yX2_priceOf cX2_priceOf 5 (some .int) 2 false := ⟨(tb4 112 rfl rfl), (tb1 7 rfl rfl), by decide +kernel, Or.inl (tb4 109 rfl rfl), ⟨(tb4 111 rfl rfl), (tbs (List.mem_of_getElem? (i := 57) rfl) rfl)⟩⟩
theorem flX2_59 : FL RX2 59 3 7 "I" false := ⟨RX3, TX3, 14, tyX3, rfl, by decide, inTX3, tyX3_ok, nmX3, rfl, rfl, rfl, Or.inr ⟨"WinnerDraws", (nw1 94 rfl rfl)⟩⟩
theorem clX2_62 : CL RX2 62 yX3_place cX3_place 5 none 2 false := ⟨(tb4 148 rfl rfl), (tb1 3 rfl rfl), by decide +kernel, Or.inr ⟨"WinnerDraws", (nw4 145 rfl rfl)⟩, ⟨(tb4 147 rfl rfl), (tbs (List.mem_of_getElem? (i := 63) rfl) rfl)⟩⟩
theorem flX2_66 : FL RX2 66 3 11 "I" false := ⟨RX3, TX3, 14, tyX3, rfl, by decide, inTX3, tyX3_ok, nmX3, rfl, rfl, rfl, Or.inr ⟨"WinnerDraws", (nw1 107 rfl rfl)⟩⟩
theorem clX2_69 : CL RX2 69 yX3_recountParish cX3_recountParish 4 (some .boolean) 3 false := ⟨(tb4 160 rfl rfl), (tb1 3 rfl rfl), by decide +kernel, Or.inr ⟨"WinnerDraws", (nw4 157 rfl rfl)⟩, ⟨(tb4 159 rfl rfl), (tbs (List.mem_of_getElem? (i := 66) rfl) rfl)⟩⟩
theorem clX2_73 : CL RX2 73 yX3_votesOf cX3_votesOf 3 (some .int) 2 false := ⟨(tb4 82 rfl rfl), (tb1 3 rfl rfl), by decide +kernel, Or.inr ⟨"WinnerDraws", (nw4 113 rfl rfl)⟩, ⟨(tb4 81 rfl rfl), (tbs (List.mem_of_getElem? (i := 51) rfl) rfl)⟩⟩
theorem clX2_76 : CL RX2 76 yX4_tell cX4_tell 3 none 2 false := ⟨(tb4 117 rfl rfl), (tb1 4 rfl rfl), by decide +kernel, Or.inr ⟨"WinnerDraws", (nw4 114 rfl rfl)⟩, ⟨(tb4 116 rfl rfl), (tbs (List.mem_of_getElem? (i := 58) rfl) rfl)⟩⟩
theorem clX2_81 : CL RX2 81 yX3_wardOf cX3_wardOf 2 (some .int) 1 false := ⟨(tb4 121 rfl rfl), (tb1 3 rfl rfl), by decide +kernel, Or.inr ⟨"WinnerDraws", (nw4 118 rfl rfl)⟩, ⟨(tb4 120 rfl rfl), (tbs (List.mem_of_getElem? (i := 59) rfl) rfl)⟩⟩
theorem clX2_84 : CL RX2 84 yX3_membersOf cX3_membersOf 2 (some .int) 1 false := ⟨(tb2 162 rfl rfl), (tb1 3 rfl rfl), by decide +kernel, Or.inr ⟨"WinnerDraws", (nw4 122 rfl rfl)⟩, ⟨(tb2 161 rfl rfl), (tbs (List.mem_of_getElem? (i := 5) rfl) rfl)⟩⟩
theorem clX2_87 : CL RX2 87 yJ6_bitCount_0f7a4 cJ6_bitCount_0f7a4 1 (some .int) 1 true := ⟨(tb2 165 rfl rfl), (tb1 20 rfl rfl), by decide +kernel, Or.inl (tb4 123 rfl rfl), (tb2 164 rfl rfl)⟩
theorem clX2_92 : CL RX2 92 yX3_lines cX3_lines 3 (some .int) 0 false := ⟨(tb4 127 rfl rfl), (tb1 3 rfl rfl), by decide +kernel, Or.inr ⟨"WinnerDraws", (nw4 124 rfl rfl)⟩, ⟨(tb4 126 rfl rfl), (tbs (List.mem_of_getElem? (i := 60) rfl) rfl)⟩⟩
theorem flX2_96 : FL RX2 96 3 10 "I" false := ⟨RX3, TX3, 14, tyX3, rfl, by decide, inTX3, tyX3_ok, nmX3, rfl, rfl, rfl, Or.inr ⟨"WinnerDraws", (nw1 104 rfl rfl)⟩⟩
theorem clX2_99 : CL RX2 99 yX4_price cX4_price 4 (some .int) 0 false := ⟨(tb4 132 rfl rfl), (tb1 4 rfl rfl), by decide +kernel, Or.inr ⟨"WinnerDraws", (nw4 129 rfl rfl)⟩, ⟨(tb4 131 rfl rfl), (tbs (List.mem_of_getElem? (i := 61) rfl) rfl)⟩⟩
theorem clX2_102 : CL RX2 102 yX3_margin cX3_margin 4 (some .int) 1 false := ⟨(tb4 71 rfl rfl), (tb1 3 rfl rfl), by decide +kernel, Or.inr ⟨"WinnerDraws", (nw4 91 rfl rfl)⟩, ⟨(tb4 70 rfl rfl), (tbs (List.mem_of_getElem? (i := 49) rfl) rfl)⟩⟩
theorem flX2_105 : FL RX2 105 3 5 "I" false := ⟨RX3, TX3, 14, tyX3, rfl, by decide, inTX3, tyX3_ok, nmX3, rfl, rfl, rfl, Or.inr ⟨"WinnerDraws", (nw1 89 rfl rfl)⟩⟩
theorem clX2_108 : CL RX2 108 yX3_marginIfPlaced cX3_marginIfPlaced 8 (some .int) 3 false := ⟨(tb4 108 rfl rfl), (tb1 3 rfl rfl), by decide +kernel, Or.inr ⟨"WinnerDraws", (nw4 105 rfl rfl)⟩, ⟨(tb4 107 rfl rfl), (tbs (List.mem_of_getElem? (i := 56) rfl) rfl)⟩⟩
theorem clX2_112 : CL RX2 112 yX2_greatestThen cX2_greatestThen 4 (some .int) 4 true := ⟨(tb5 98 rfl rfl), (tb1 7 rfl rfl), by decide +kernel, Or.inl (tb5 96 rfl rfl), (tb5 97 rfl rfl)⟩
theorem clX2_116 : CL RX2 116 yJ9_max_7cf53 cJ9_max_7cf53 2 (some .int) 2 true := ⟨(tb4 140 rfl rfl), (tb1 19 rfl rfl), by decide +kernel, Or.inl (tb5 100 rfl rfl), (tb4 139 rfl rfl)⟩
theorem clX2_121 : CL RX2 121 yX2_greatest cX2_greatest 9 (some .int) 4 true := ⟨(tb5 95 rfl rfl), (tb1 7 rfl rfl), by decide +kernel, Or.inl (tb5 99 rfl rfl), (tb5 94 rfl rfl)⟩
theorem flX3_9 : FL RX3 9 3 0 "[I" true := ⟨RX3, TX3, 14, tyX3, rfl, by decide, inTX3, tyX3_ok, nmX3, rfl, rfl, rfl, Or.inl (tb1 81 rfl rfl)⟩
theorem flX3_15 : FL RX3 15 3 1 "[I" true := ⟨RX3, TX3, 14, tyX3, rfl, by decide, inTX3, tyX3_ok, nmX3, rfl, rfl, rfl, Or.inl (tb1 82 rfl rfl)⟩
theorem flX3_18 : FL RX3 18 3 2 "[I" true := ⟨RX3, TX3, 14, tyX3, rfl, by decide, inTX3, tyX3_ok, nmX3, rfl, rfl, rfl, Or.inl (tb1 83 rfl rfl)⟩
theorem flX3_21 : FL RX3 21 3 3 "[I" true := ⟨RX3, TX3, 14, tyX3, rfl, by decide, inTX3, tyX3_ok, nmX3, rfl, rfl, rfl, Or.inl (tb1 84 rfl rfl)⟩
theorem flX3_24 : FL RX3 24 3 4 "[I" true := ⟨RX3, TX3, 14, tyX3, rfl, by decide, inTX3, tyX3_ok, nmX3, rfl, rfl, rfl, Or.inl (tb1 85 rfl rfl)⟩
theorem flX3_27 : FL RX3 27 3 7 "I" false := ⟨RX3, TX3, 14, tyX3, rfl, by decide, inTX3, tyX3_ok, nmX3, rfl, rfl, rfl, Or.inl (tb1 93 rfl rfl)⟩
theorem flX3_31 : FL RX3 31 3 9 "I" false := ⟨RX3, TX3, 14, tyX3, rfl, by decide, inTX3, tyX3_ok, nmX3, rfl, rfl, rfl, Or.inl (tb1 99 rfl rfl)⟩
theorem flX3_34 : FL RX3 34 3 12 "[I" true := ⟨RX3, TX3, 14, tyX3, rfl, by decide, inTX3, tyX3_ok, nmX3, rfl, rfl, rfl, Or.inl (tb1 110 rfl rfl)⟩
theorem flX3_37 : FL RX3 37 3 13 "[I" true := ⟨RX3, TX3, 14, tyX3, rfl, by decide, inTX3, tyX3_ok, nmX3, rfl, rfl, rfl, Or.inl (tb1 111 rfl rfl)⟩
theorem clX3_40 : CL RX3 40 yX8_put cX8_put 3 none 3 true := ⟨(tb2 117 rfl rfl), (tb1 1 rfl rfl), by decide +kernel, Or.inr ⟨"WinnerDraws", (nw2 146 rfl rfl)⟩, (tb2 116 rfl rfl)⟩
theorem flX3_44 : FL RX3 44 3 5 "I" false := ⟨RX3, TX3, 14, tyX3, rfl, by decide, inTX3, tyX3_ok, nmX3, rfl, rfl, rfl, Or.inl (tb1 86 rfl rfl)⟩
theorem flX3_47 : FL RX3 47 3 6 "I" false := ⟨RX3, TX3, 14, tyX3, rfl, by decide, inTX3, tyX3_ok, nmX3, rfl, rfl, rfl, Or.inl (tb1 91 rfl rfl)⟩
theorem flX3_50 : FL RX3 50 3 8 "I" false := ⟨RX3, TX3, 14, tyX3, rfl, by decide, inTX3, tyX3_ok, nmX3, rfl, rfl, rfl, Or.inl (tb1 97 rfl rfl)⟩
theorem flX3_53 : FL RX3 53 3 10 "I" false := ⟨RX3, TX3, 14, tyX3, rfl, by decide, inTX3, tyX3_ok, nmX3, rfl, rfl, rfl, Or.inl (tb1 103 rfl rfl)⟩
theorem flX3_56 : FL RX3 56 3 11 "I" false := ⟨RX3, TX3, 14, tyX3, rfl, by decide, inTX3, tyX3_ok, nmX3, rfl, rfl, rfl, Or.inl (tb1 106 rfl rfl)⟩
theorem clX3_59 : CL RX3 59 yX8_copy cX8_copy 6 none 5 true := ⟨(tb2 136 rfl rfl), (tb1 1 rfl rfl), by decide +kernel, Or.inr ⟨"WinnerDraws", (nw2 134 rfl rfl)⟩, (tb2 135 rfl rfl)⟩
theorem clX3_63 : CL RX3 63 yX3_tally cX3_tally 3 none 0 false := ⟨(tb2 145 rfl rfl), (tb1 3 rfl rfl), by decide +kernel, Or.inl (tb2 142 rfl rfl), ⟨(tb2 144 rfl rfl), (tbs (List.mem_of_getElem? (i := 3) rfl) rfl)⟩⟩
theorem clX3_66 : CL RX3 66 yX8_at cX8_at 2 (some .int) 2 true := ⟨(tb2 139 rfl rfl), (tb1 1 rfl rfl), by decide +kernel, Or.inr ⟨"WinnerDraws", (nw2 141 rfl rfl)⟩, (tb2 138 rfl rfl)⟩
theorem clX3_70 : CL RX3 70 yX3_clear cX3_clear 2 none 0 false := ⟨(tb3 49 rfl rfl), (tb1 3 rfl rfl), by decide +kernel, Or.inl (tb3 46 rfl rfl), ⟨(tb3 48 rfl rfl), (tbs (List.mem_of_getElem? (i := 14) rfl) rfl)⟩⟩
theorem clX3_73 : CL RX3 73 yX7_ahead cX7_ahead 1 (some .int) 0 false := ⟨(tb3 53 rfl rfl), (tb1 2 rfl rfl), by decide +kernel, Or.inr ⟨"WinnerDraws", (nw3 50 rfl rfl)⟩, ⟨(tb3 52 rfl rfl), (tbs (List.mem_of_getElem? (i := 15) rfl) rfl)⟩⟩
theorem clX3_79 : CL RX3 79 yX3_readClause cX3_readClause 4 (some .boolean) 2 false := ⟨(tb3 58 rfl rfl), (tb1 3 rfl rfl), by decide +kernel, Or.inl (tb3 55 rfl rfl), ⟨(tb3 57 rfl rfl), (tbs (List.mem_of_getElem? (i := 16) rfl) rfl)⟩⟩
theorem clX3_83 : CL RX3 83 yX7_sign cX7_sign 2 (some .boolean) 1 false := ⟨(tb3 160 rfl rfl), (tb1 2 rfl rfl), by decide +kernel, Or.inr ⟨"WinnerDraws", (nw3 157 rfl rfl)⟩, ⟨(tb3 159 rfl rfl), (tbs (List.mem_of_getElem? (i := 25) rfl) rfl)⟩⟩
theorem flX3_87 : FL RX3 87 7 3 "I" false := ⟨RX7, TX7, 8, tyX7, rfl, by decide, inTX7, tyX7_ok, nmX7, rfl, rfl, rfl, Or.inr ⟨"WinnerDraws", (nw1 41 rfl rfl)⟩⟩
theorem clX3_90 : CL RX3 90 yX7_fail cX7_fail 3 (some .boolean) 2 false := ⟨(tb3 129 rfl rfl), (tb1 2 rfl rfl), by decide +kernel, Or.inr ⟨"WinnerDraws", (nw3 126 rfl rfl)⟩, ⟨(tb3 128 rfl rfl), (tbs (List.mem_of_getElem? (i := 19) rfl) rfl)⟩⟩
theorem clX3_94 : CL RX3 94 yX7_word cX7_word 1 none 0 false := ⟨(tb3 62 rfl rfl), (tb1 2 rfl rfl), by decide +kernel, Or.inr ⟨"WinnerDraws", (nw3 59 rfl rfl)⟩, ⟨(tb3 61 rfl rfl), (tbs (List.mem_of_getElem? (i := 17) rfl) rfl)⟩⟩
theorem clX3_97 : CL RX3 97 yX3_clauseKind cX3_clauseKind 1 (some .int) 1 true := ⟨(tb3 69 rfl rfl), (tb1 3 rfl rfl), by decide +kernel, Or.inl (tb3 67 rfl rfl), (tb3 68 rfl rfl)⟩
theorem flX3_101 : FL RX3 101 7 4 "I" false := ⟨RX7, TX7, 8, tyX7, rfl, by decide, inTX7, tyX7_ok, nmX7, rfl, rfl, rfl, Or.inr ⟨"WinnerDraws", (nw1 46 rfl rfl)⟩⟩
theorem clX3_104 : CL RX3 104 yX3_readParish cX3_readParish 3 (some .boolean) 1 false := ⟨(tb3 133 rfl rfl), (tb1 3 rfl rfl), by decide +kernel, Or.inl (tb3 130 rfl rfl), ⟨(tb3 132 rfl rfl), (tbs (List.mem_of_getElem? (i := 20) rfl) rfl)⟩⟩
theorem clX3_108 : CL RX3 108 yX3_readRoad cX3_readRoad 4 (some .boolean) 1 false := ⟨(tb3 148 rfl rfl), (tb1 3 rfl rfl), by decide +kernel, Or.inl (tb3 145 rfl rfl), ⟨(tb3 147 rfl rfl), (tbs (List.mem_of_getElem? (i := 22) rfl) rfl)⟩⟩
theorem clX3_111 : CL RX3 111 yX3_readTide cX3_readTide 2 (some .boolean) 1 false := ⟨(tb3 152 rfl rfl), (tb1 3 rfl rfl), by decide +kernel, Or.inl (tb3 149 rfl rfl), ⟨(tb3 151 rfl rfl), (tbs (List.mem_of_getElem? (i := 23) rfl) rfl)⟩⟩
theorem clX3_114 : CL RX3 114 yX3_readPurse cX3_readPurse 2 (some .boolean) 1 false := ⟨(tb3 156 rfl rfl), (tb1 3 rfl rfl), by decide +kernel, Or.inl (tb3 153 rfl rfl), ⟨(tb3 155 rfl rfl), (tbs (List.mem_of_getElem? (i := 24) rfl) rfl)⟩⟩
theorem clX3_119 : CL RX3 119 yX7_is cX7_is 3 (some .boolean) 1 false := ⟨(tb3 74 rfl rfl), (tb1 2 rfl rfl), by decide +kernel, Or.inr ⟨"WinnerDraws", (nw3 71 rfl rfl)⟩, ⟨(tb3 73 rfl rfl), (tbs (List.mem_of_getElem? (i := 18) rfl) rfl)⟩⟩
theorem clX3_128 : CL RX3 128 yX7_number cX7_number 2 (some .boolean) 1 false := ⟨(tb3 137 rfl rfl), (tb1 2 rfl rfl), by decide +kernel, Or.inr ⟨"WinnerDraws", (nw3 134 rfl rfl)⟩, ⟨(tb3 136 rfl rfl), (tbs (List.mem_of_getElem? (i := 21) rfl) rfl)⟩⟩
theorem flX3_131 : FL RX3 131 7 5 "I" false := ⟨RX7, TX7, 8, tyX7, rfl, by decide, inTX7, tyX7_ok, nmX7, rfl, rfl, rfl, Or.inr ⟨"WinnerDraws", (nw1 51 rfl rfl)⟩⟩
theorem clX3_134 : CL RX3 134 yX3_winner cX3_winner 3 (some .int) 1 false := ⟨(tb5 31 rfl rfl), (tb1 3 rfl rfl), by decide +kernel, Or.inl (tb5 51 rfl rfl), ⟨(tb5 30 rfl rfl), (tbs (List.mem_of_getElem? (i := 79) rfl) rfl)⟩⟩
theorem clX3_138 : CL RX3 138 yJ6_compare_7cf53 cJ6_compare_7cf53 2 (some .int) 2 true := ⟨(tb4 74 rfl rfl), (tb1 20 rfl rfl), by decide +kernel, Or.inl (tb4 72 rfl rfl), (tb4 73 rfl rfl)⟩
theorem clX3_144 : CL RX3 144 yX3_wardOf cX3_wardOf 2 (some .int) 1 false := ⟨(tb4 121 rfl rfl), (tb1 3 rfl rfl), by decide +kernel, Or.inl (tb5 27 rfl rfl), ⟨(tb4 120 rfl rfl), (tbs (List.mem_of_getElem? (i := 59) rfl) rfl)⟩⟩
theorem clX3_147 : CL RX3 147 yX3_votesOf cX3_votesOf 3 (some .int) 2 false := ⟨(tb4 82 rfl rfl), (tb1 3 rfl rfl), by decide +kernel, Or.inl (tb4 79 rfl rfl), ⟨(tb4 81 rfl rfl), (tbs (List.mem_of_getElem? (i := 51) rfl) rfl)⟩⟩
theorem clX3_150 : CL RX3 150 yX3_roadsFrom cX3_roadsFrom 2 (some .int) 1 false := ⟨(tb4 210 rfl rfl), (tb1 3 rfl rfl), by decide +kernel, Or.inl (tb4 207 rfl rfl), ⟨(tb4 209 rfl rfl), (tbs (List.mem_of_getElem? (i := 73) rfl) rfl)⟩⟩
theorem clX3_153 : CL RX3 153 yJ6_bitCount_0f7a4 cJ6_bitCount_0f7a4 1 (some .int) 1 true := ⟨(tb2 165 rfl rfl), (tb1 20 rfl rfl), by decide +kernel, Or.inl (tb4 128 rfl rfl), (tb2 164 rfl rfl)⟩
theorem clX3_156 : CL RX3 156 yX3_membersOf cX3_membersOf 2 (some .int) 1 false := ⟨(tb2 162 rfl rfl), (tb1 3 rfl rfl), by decide +kernel, Or.inl (tb4 217 rfl rfl), ⟨(tb2 161 rfl rfl), (tbs (List.mem_of_getElem? (i := 5) rfl) rfl)⟩⟩
theorem clX3_159 : CL RX3 159 yX8_has cX8_has 2 (some .boolean) 2 true := ⟨(tb4 103 rfl rfl), (tb1 1 rfl rfl), by decide +kernel, Or.inr ⟨"WinnerDraws", (nw4 101 rfl rfl)⟩, (tb4 102 rfl rfl)⟩
theorem clX3_162 : CL RX3 162 yX3_reached cX3_reached 7 (some .int) 2 false := ⟨(tb4 100 rfl rfl), (tb1 3 rfl rfl), by decide +kernel, Or.inl (tb4 97 rfl rfl), ⟨(tb4 99 rfl rfl), (tbs (List.mem_of_getElem? (i := 55) rfl) rfl)⟩⟩
theorem clX3_165 : CL RX3 165 yX3_roadsOverLine cX3_roadsOverLine 2 (some .int) 1 false := ⟨(tb2 154 rfl rfl), (tb1 3 rfl rfl), by decide +kernel, Or.inl (tb4 96 rfl rfl), ⟨(tb2 153 rfl rfl), (tbs (List.mem_of_getElem? (i := 4) rfl) rfl)⟩⟩
theorem clX3_168 : CL RX3 168 yX3_margin cX3_margin 4 (some .int) 1 false := ⟨(tb4 71 rfl rfl), (tb1 3 rfl rfl), by decide +kernel, Or.inl (tb4 68 rfl rfl), ⟨(tb4 70 rfl rfl), (tbs (List.mem_of_getElem? (i := 49) rfl) rfl)⟩⟩
theorem clX3_171 : CL RX3 171 yX3_leadIn cX3_leadIn 2 (some .int) 1 false := ⟨(tb5 172 rfl rfl), (tb1 3 rfl rfl), by decide +kernel, Or.inl (tb5 169 rfl rfl), ⟨(tb5 171 rfl rfl), (tbs (List.mem_of_getElem? (i := 89) rfl) rfl)⟩⟩
theorem clX3_174 : CL RX3 174 yJ9_abs_0f7a4 cJ9_abs_0f7a4 1 (some .int) 1 true := ⟨(tb5 175 rfl rfl), (tb1 19 rfl rfl), by decide +kernel, Or.inl (tb5 173 rfl rfl), (tb5 174 rfl rfl)⟩
theorem clX3_179 : CL RX3 179 yX3_wardVotes cX3_wardVotes 5 (some .int) 2 false := ⟨(tb5 26 rfl rfl), (tb1 3 rfl rfl), by decide +kernel, Or.inl (tb5 176 rfl rfl), ⟨(tb5 25 rfl rfl), (tbs (List.mem_of_getElem? (i := 78) rfl) rfl)⟩⟩
theorem clX3_182 : CL RX3 182 yX3_tideOf cX3_tideOf 2 (some .int) 1 false := ⟨(tb4 63 rfl rfl), (tb1 3 rfl rfl), by decide +kernel, Or.inl (tb4 60 rfl rfl), ⟨(tb4 62 rfl rfl), (tbs (List.mem_of_getElem? (i := 47) rfl) rfl)⟩⟩
theorem clX3_185 : CL RX3 185 yX3_comingSide cX3_comingSide 1 (some .int) 0 false := ⟨(tb4 59 rfl rfl), (tb1 3 rfl rfl), by decide +kernel, Or.inl (tb4 56 rfl rfl), ⟨(tb4 58 rfl rfl), (tbs (List.mem_of_getElem? (i := 46) rfl) rfl)⟩⟩
theorem clX3_188 : CL RX3 188 yX3_comingShare cX3_comingShare 1 (some .int) 0 false := ⟨(tb4 67 rfl rfl), (tb1 3 rfl rfl), by decide +kernel, Or.inl (tb4 64 rfl rfl), ⟨(tb4 66 rfl rfl), (tbs (List.mem_of_getElem? (i := 48) rfl) rfl)⟩⟩
theorem clX3_191 : CL RX3 191 yX3_comeTide cX3_comeTide 6 none 0 false := ⟨(tb4 55 rfl rfl), (tb1 3 rfl rfl), by decide +kernel, Or.inl (tb4 52 rfl rfl), ⟨(tb4 54 rfl rfl), (tbs (List.mem_of_getElem? (i := 45) rfl) rfl)⟩⟩
theorem clX3_194 : CL RX3 194 yX3_allVotes cX3_allVotes 4 (some .int) 1 false := ⟨(tb4 78 rfl rfl), (tb1 3 rfl rfl), by decide +kernel, Or.inl (tb4 75 rfl rfl), ⟨(tb4 77 rfl rfl), (tbs (List.mem_of_getElem? (i := 50) rfl) rfl)⟩⟩
theorem flX4_9 : FL RX4 9 4 0 "[I" true := ⟨RX4, TX4, 4, tyX4, rfl, by decide, inTX4, tyX4_ok, nmX4, rfl, rfl, rfl, Or.inl (tb1 147 rfl rfl)⟩
theorem flX4_15 : FL RX4 15 4 1 "[I" true := ⟨RX4, TX4, 4, tyX4, rfl, by decide, inTX4, tyX4_ok, nmX4, rfl, rfl, rfl, Or.inl (tb1 148 rfl rfl)⟩
theorem flX4_18 : FL RX4 18 4 2 "[I" true := ⟨RX4, TX4, 4, tyX4, rfl, by decide, inTX4, tyX4_ok, nmX4, rfl, rfl, rfl, Or.inl (tb1 149 rfl rfl)⟩
theorem flX4_21 : FL RX4 21 4 3 "I" false := ⟨RX4, TX4, 4, tyX4, rfl, by decide, inTX4, tyX4_ok, nmX4, rfl, rfl, rfl, Or.inl (tb1 150 rfl rfl)⟩
theorem clX4_25 : CL RX4 25 yX8_copy cX8_copy 6 none 5 true := ⟨(tb2 136 rfl rfl), (tb1 1 rfl rfl), by decide +kernel, Or.inr ⟨"WinnerDraws", (nw3 230 rfl rfl)⟩, (tb2 135 rfl rfl)⟩
theorem clX4_29 : CL RX4 29 yX8_put cX8_put 3 none 3 true := ⟨(tb2 117 rfl rfl), (tb1 1 rfl rfl), by decide +kernel, Or.inr ⟨"WinnerDraws", (nw3 208 rfl rfl)⟩, (tb2 116 rfl rfl)⟩
theorem clX4_33 : CL RX4 33 yX8_at cX8_at 2 (some .int) 2 true := ⟨(tb2 139 rfl rfl), (tb1 1 rfl rfl), by decide +kernel, Or.inr ⟨"WinnerDraws", (nw4 133 rfl rfl)⟩, (tb2 138 rfl rfl)⟩
theorem clX4_37 : CL RX4 37 yX4_joined cX4_joined 3 (some .int) 3 true := ⟨(tb4 136 rfl rfl), (tb1 4 rfl rfl), by decide +kernel, Or.inl (tb4 134 rfl rfl), (tb4 135 rfl rfl)⟩
theorem clX4_41 : CL RX4 41 yJ9_min_7cf53 cJ9_min_7cf53 2 (some .int) 2 true := ⟨(tb3 143 rfl rfl), (tb1 19 rfl rfl), by decide +kernel, Or.inl (tb4 137 rfl rfl), (tb3 142 rfl rfl)⟩
theorem clX4_47 : CL RX4 47 yJ9_max_7cf53 cJ9_max_7cf53 2 (some .int) 2 true := ⟨(tb4 140 rfl rfl), (tb1 19 rfl rfl), by decide +kernel, Or.inl (tb4 138 rfl rfl), (tb4 139 rfl rfl)⟩
theorem clX4_50 : CL RX4 50 yX4_readSum cX4_readSum 5 (some .boolean) 2 false := ⟨(tb3 192 rfl rfl), (tb1 4 rfl rfl), by decide +kernel, Or.inl (tb3 189 rfl rfl), ⟨(tb3 191 rfl rfl), (tbs (List.mem_of_getElem? (i := 31) rfl) rfl)⟩⟩
theorem clX4_54 : CL RX4 54 yX7_ahead cX7_ahead 1 (some .int) 0 false := ⟨(tb3 53 rfl rfl), (tb1 2 rfl rfl), by decide +kernel, Or.inr ⟨"WinnerDraws", (nw3 201 rfl rfl)⟩, ⟨(tb3 52 rfl rfl), (tbs (List.mem_of_getElem? (i := 15) rfl) rfl)⟩⟩
theorem flX4_60 : FL RX4 60 7 3 "I" false := ⟨RX7, TX7, 8, tyX7, rfl, by decide, inTX7, tyX7_ok, nmX7, rfl, rfl, rfl, Or.inr ⟨"WinnerDraws", (nw1 42 rfl rfl)⟩⟩
theorem clX4_63 : CL RX4 63 yX7_fail cX7_fail 3 (some .boolean) 2 false := ⟨(tb3 129 rfl rfl), (tb1 2 rfl rfl), by decide +kernel, Or.inr ⟨"WinnerDraws", (nw3 209 rfl rfl)⟩, ⟨(tb3 128 rfl rfl), (tbs (List.mem_of_getElem? (i := 19) rfl) rfl)⟩⟩
theorem clX4_67 : CL RX4 67 yX4_readProduct cX4_readProduct 5 (some .boolean) 2 false := ⟨(tb3 196 rfl rfl), (tb1 4 rfl rfl), by decide +kernel, Or.inl (tb3 193 rfl rfl), ⟨(tb3 195 rfl rfl), (tbs (List.mem_of_getElem? (i := 32) rfl) rfl)⟩⟩
theorem clX4_70 : CL RX4 70 yX7_sign cX7_sign 2 (some .boolean) 1 false := ⟨(tb3 160 rfl rfl), (tb1 2 rfl rfl), by decide +kernel, Or.inr ⟨"WinnerDraws", (nw3 210 rfl rfl)⟩, ⟨(tb3 159 rfl rfl), (tbs (List.mem_of_getElem? (i := 25) rfl) rfl)⟩⟩
theorem clX4_74 : CL RX4 74 yX4_add cX4_add 2 (some .boolean) 1 false := ⟨(tb3 207 rfl rfl), (tb1 4 rfl rfl), by decide +kernel, Or.inl (tb3 204 rfl rfl), ⟨(tb3 206 rfl rfl), (tbs (List.mem_of_getElem? (i := 34) rfl) rfl)⟩⟩
theorem clX4_77 : CL RX4 77 yX4_readUnit cX4_readUnit 6 (some .boolean) 2 false := ⟨(tb3 200 rfl rfl), (tb1 4 rfl rfl), by decide +kernel, Or.inl (tb3 197 rfl rfl), ⟨(tb3 199 rfl rfl), (tbs (List.mem_of_getElem? (i := 33) rfl) rfl)⟩⟩
theorem clX4_80 : CL RX4 80 yX7_isDigit cX7_isDigit 1 (some .boolean) 1 true := ⟨(tb3 140 rfl rfl), (tb1 2 rfl rfl), by decide +kernel, Or.inr ⟨"WinnerDraws", (nw3 202 rfl rfl)⟩, (tb3 139 rfl rfl)⟩
theorem clX4_83 : CL RX4 83 yX7_number cX7_number 2 (some .boolean) 1 false := ⟨(tb3 137 rfl rfl), (tb1 2 rfl rfl), by decide +kernel, Or.inr ⟨"WinnerDraws", (nw3 203 rfl rfl)⟩, ⟨(tb3 136 rfl rfl), (tbs (List.mem_of_getElem? (i := 21) rfl) rfl)⟩⟩
theorem flX4_86 : FL RX4 86 7 5 "I" false := ⟨RX7, TX7, 8, tyX7, rfl, by decide, inTX7, tyX7_ok, nmX7, rfl, rfl, rfl, Or.inr ⟨"WinnerDraws", (nw1 52 rfl rfl)⟩⟩
theorem clX4_89 : CL RX4 89 yX7_word cX7_word 1 none 0 false := ⟨(tb3 62 rfl rfl), (tb1 2 rfl rfl), by decide +kernel, Or.inr ⟨"WinnerDraws", (nw3 211 rfl rfl)⟩, ⟨(tb3 61 rfl rfl), (tbs (List.mem_of_getElem? (i := 17) rfl) rfl)⟩⟩
theorem clX4_92 : CL RX4 92 yX4_factNamed cX4_factNamed 1 (some .int) 1 true := ⟨(tb3 214 rfl rfl), (tb1 4 rfl rfl), by decide +kernel, Or.inl (tb3 212 rfl rfl), (tb3 213 rfl rfl)⟩
theorem clX4_98 : CL RX4 98 yX7_is cX7_is 3 (some .boolean) 1 false := ⟨(tb3 74 rfl rfl), (tb1 2 rfl rfl), by decide +kernel, Or.inr ⟨"WinnerDraws", (nw3 216 rfl rfl)⟩, ⟨(tb3 73 rfl rfl), (tbs (List.mem_of_getElem? (i := 18) rfl) rfl)⟩⟩
theorem flX4_104 : FL RX4 104 7 4 "I" false := ⟨RX7, TX7, 8, tyX7, rfl, by decide, inTX7, tyX7_ok, nmX7, rfl, rfl, rfl, Or.inr ⟨"WinnerDraws", (nw1 47 rfl rfl)⟩⟩
theorem flX5_9 : FL RX5 9 5 2 "[I" true := ⟨RX5, TX5, 12, tyX5, rfl, by decide, inTX5, tyX5_ok, nmX5, rfl, rfl, rfl, Or.inl (tb1 238 rfl rfl)⟩
theorem flX5_15 : FL RX5 15 5 3 "[I" true := ⟨RX5, TX5, 12, tyX5, rfl, by decide, inTX5, tyX5_ok, nmX5, rfl, rfl, rfl, Or.inl (tb1 239 rfl rfl)⟩
theorem flX5_18 : FL RX5 18 5 5 "I" false := ⟨RX5, TX5, 12, tyX5, rfl, by decide, inTX5, tyX5_ok, nmX5, rfl, rfl, rfl, Or.inl (tb2 1 rfl rfl)⟩
theorem flX5_22 : FL RX5 22 5 7 "I" false := ⟨RX5, TX5, 12, tyX5, rfl, by decide, inTX5, tyX5_ok, nmX5, rfl, rfl, rfl, Or.inl (tb2 5 rfl rfl)⟩
theorem flX5_25 : FL RX5 25 5 8 "I" false := ⟨RX5, TX5, 12, tyX5, rfl, by decide, inTX5, tyX5_ok, nmX5, rfl, rfl, rfl, Or.inl (tb2 7 rfl rfl)⟩
theorem flX5_28 : FL RX5 28 5 0 "LWinnerDraws$County;" true := ⟨RX5, TX5, 12, tyX5, rfl, by decide, inTX5, tyX5_ok, nmX5, rfl, rfl, rfl, Or.inl (tb1 236 rfl rfl)⟩
theorem flX5_32 : FL RX5 32 5 1 "LWinnerDraws$Council;" true := ⟨RX5, TX5, 12, tyX5, rfl, by decide, inTX5, tyX5_ok, nmX5, rfl, rfl, rfl, Or.inl (tb1 237 rfl rfl)⟩
theorem clX5_36 : CL RX5 36 yX3_elect cX3_elect 3 none 0 false := ⟨(tb4 51 rfl rfl), (tb1 3 rfl rfl), by decide +kernel, Or.inr ⟨"WinnerDraws", (nw5 127 rfl rfl)⟩, ⟨(tb4 50 rfl rfl), (tbs (List.mem_of_getElem? (i := 44) rfl) rfl)⟩⟩
theorem clX5_41 : CL RX5 41 yX2_redraw cX2_redraw 1 (some .boolean) 0 false := ⟨(tb4 86 rfl rfl), (tb1 7 rfl rfl), by decide +kernel, Or.inr ⟨"WinnerDraws", (nw5 128 rfl rfl)⟩, ⟨(tb4 85 rfl rfl), (tbs (List.mem_of_getElem? (i := 52) rfl) rfl)⟩⟩
theorem clX5_47 : CL RX5 47 yX3_save cX3_save 3 none 2 false := ⟨(tb2 180 rfl rfl), (tb1 3 rfl rfl), by decide +kernel, Or.inr ⟨"WinnerDraws", (nw5 122 rfl rfl)⟩, ⟨(tb2 179 rfl rfl), (tbs (List.mem_of_getElem? (i := 7) rfl) rfl)⟩⟩
theorem flX5_51 : FL RX5 51 5 6 "I" false := ⟨RX5, TX5, 12, tyX5, rfl, by decide, inTX5, tyX5_ok, nmX5, rfl, rfl, rfl, Or.inl (tb2 3 rfl rfl)⟩
theorem flX5_54 : FL RX5 54 3 9 "I" false := ⟨RX3, TX3, 14, tyX3, rfl, by decide, inTX3, tyX3_ok, nmX3, rfl, rfl, rfl, Or.inr ⟨"WinnerDraws", (nw1 101 rfl rfl)⟩⟩
theorem clX5_57 : CL RX5 57 yX5_pass cX5_pass 1 none 0 false := ⟨(tb5 126 rfl rfl), (tb1 8 rfl rfl), by decide +kernel, Or.inl (tb5 123 rfl rfl), ⟨(tb5 125 rfl rfl), (tbs (List.mem_of_getElem? (i := 84) rfl) rfl)⟩⟩
theorem clX5_60 : CL RX5 60 yX3_load cX3_load 3 none 2 false := ⟨(tb2 133 rfl rfl), (tb1 3 rfl rfl), by decide +kernel, Or.inr ⟨"WinnerDraws", (nw5 129 rfl rfl)⟩, ⟨(tb2 132 rfl rfl), (tbs (List.mem_of_getElem? (i := 2) rfl) rfl)⟩⟩
theorem clX5_63 : CL RX5 63 yX5_isAlike cX5_isAlike 4 (some .boolean) 2 false := ⟨(tb5 144 rfl rfl), (tb1 8 rfl rfl), by decide +kernel, Or.inl (tb5 141 rfl rfl), ⟨(tb5 143 rfl rfl), (tbs (List.mem_of_getElem? (i := 86) rfl) rfl)⟩⟩
theorem clX5_67 : CL RX5 67 yX8_at cX8_at 2 (some .int) 2 true := ⟨(tb2 139 rfl rfl), (tb1 1 rfl rfl), by decide +kernel, Or.inr ⟨"WinnerDraws", (nw5 145 rfl rfl)⟩, (tb2 138 rfl rfl)⟩
theorem clX5_71 : CL RX5 71 yX3_tideOf cX3_tideOf 2 (some .int) 1 false := ⟨(tb4 63 rfl rfl), (tb1 3 rfl rfl), by decide +kernel, Or.inr ⟨"WinnerDraws", (nw5 146 rfl rfl)⟩, ⟨(tb4 62 rfl rfl), (tbs (List.mem_of_getElem? (i := 47) rfl) rfl)⟩⟩
theorem flX5_75 : FL RX5 75 5 4 "I" false := ⟨RX5, TX5, 12, tyX5, rfl, by decide, inTX5, tyX5_ok, nmX5, rfl, rfl, rfl, Or.inl (tb2 0 rfl rfl)⟩
theorem flX5_79 : FL RX5 79 3 11 "I" false := ⟨RX3, TX3, 14, tyX3, rfl, by decide, inTX3, tyX3_ok, nmX3, rfl, rfl, rfl, Or.inr ⟨"WinnerDraws", (nw1 108 rfl rfl)⟩⟩
theorem flX5_82 : FL RX5 82 3 5 "I" false := ⟨RX3, TX3, 14, tyX3, rfl, by decide, inTX3, tyX3_ok, nmX3, rfl, rfl, rfl, Or.inr ⟨"WinnerDraws", (nw1 88 rfl rfl)⟩⟩
theorem clX5_85 : CL RX5 85 yX5_drawn cX5_drawn 2 (some .int) 1 false := ⟨(tb6 53 rfl rfl), (tb1 8 rfl rfl), by decide +kernel, Or.inl (tb6 50 rfl rfl), ⟨(tb6 52 rfl rfl), (tbs (List.mem_of_getElem? (i := 94) rfl) rfl)⟩⟩
theorem clX5_88 : CL RX5 88 yX2_move cX2_move 3 (some .boolean) 2 false := ⟨(tb4 152 rfl rfl), (tb1 7 rfl rfl), by decide +kernel, Or.inr ⟨"WinnerDraws", (nw6 55 rfl rfl)⟩, ⟨(tb4 151 rfl rfl), (tbs (List.mem_of_getElem? (i := 64) rfl) rfl)⟩⟩
theorem clX5_91 : CL RX5 91 yX3_margin cX3_margin 4 (some .int) 1 false := ⟨(tb4 71 rfl rfl), (tb1 3 rfl rfl), by decide +kernel, Or.inr ⟨"WinnerDraws", (nw6 56 rfl rfl)⟩, ⟨(tb4 70 rfl rfl), (tbs (List.mem_of_getElem? (i := 49) rfl) rfl)⟩⟩
theorem flX5_94 : FL RX5 94 5 9 "I" false := ⟨RX5, TX5, 12, tyX5, rfl, by decide, inTX5, tyX5_ok, nmX5, rfl, rfl, rfl, Or.inl (tb2 9 rfl rfl)⟩
theorem flX5_97 : FL RX5 97 5 10 "I" false := ⟨RX5, TX5, 12, tyX5, rfl, by decide, inTX5, tyX5_ok, nmX5, rfl, rfl, rfl, Or.inl (tb2 11 rfl rfl)⟩
theorem clX5_100 : CL RX5 100 yX3_lines cX3_lines 3 (some .int) 0 false := ⟨(tb4 127 rfl rfl), (tb1 3 rfl rfl), by decide +kernel, Or.inr ⟨"WinnerDraws", (nw6 57 rfl rfl)⟩, ⟨(tb4 126 rfl rfl), (tbs (List.mem_of_getElem? (i := 60) rfl) rfl)⟩⟩
theorem flX5_104 : FL RX5 104 5 11 "I" false := ⟨RX5, TX5, 12, tyX5, rfl, by decide, inTX5, tyX5_ok, nmX5, rfl, rfl, rfl, Or.inl (tb2 13 rfl rfl)⟩
theorem flX6_9 : FL RX6 9 6 0 "[I" true := ⟨RX6, TX6, 6, tyX6, rfl, by decide, inTX6, tyX6_ok, nmX6, rfl, rfl, rfl, Or.inl (tb1 183 rfl rfl)⟩
theorem flX6_15 : FL RX6 15 6 1 "I" false := ⟨RX6, TX6, 6, tyX6, rfl, by decide, inTX6, tyX6_ok, nmX6, rfl, rfl, rfl, Or.inl (tb1 184 rfl rfl)⟩
theorem flX6_19 : FL RX6 19 6 3 "I" false := ⟨RX6, TX6, 6, tyX6, rfl, by decide, inTX6, tyX6_ok, nmX6, rfl, rfl, rfl, Or.inl (tb1 187 rfl rfl)⟩
theorem flX6_22 : FL RX6 22 6 4 "I" false := ⟨RX6, TX6, 6, tyX6, rfl, by decide, inTX6, tyX6_ok, nmX6, rfl, rfl, rfl, Or.inl (tb1 188 rfl rfl)⟩
theorem flX6_25 : FL RX6 25 6 5 "I" false := ⟨RX6, TX6, 6, tyX6, rfl, by decide, inTX6, tyX6_ok, nmX6, rfl, rfl, rfl, Or.inl (tb1 190 rfl rfl)⟩
theorem flX6_28 : FL RX6 28 6 2 "I" false := ⟨RX6, TX6, 6, tyX6, rfl, by decide, inTX6, tyX6_ok, nmX6, rfl, rfl, rfl, Or.inl (tb1 186 rfl rfl)⟩
theorem clX6_31 : CL RX6 31 yX7_ahead cX7_ahead 1 (some .int) 0 false := ⟨(tb3 53 rfl rfl), (tb1 2 rfl rfl), by decide +kernel, Or.inr ⟨"WinnerDraws", (nw4 6 rfl rfl)⟩, ⟨(tb3 52 rfl rfl), (tbs (List.mem_of_getElem? (i := 15) rfl) rfl)⟩⟩
theorem clX6_37 : CL RX6 37 yX6_readStep cX6_readStep 4 (some .boolean) 2 false := ⟨(tb4 10 rfl rfl), (tb1 6 rfl rfl), by decide +kernel, Or.inl (tb4 7 rfl rfl), ⟨(tb4 9 rfl rfl), (tbs (List.mem_of_getElem? (i := 38) rfl) rfl)⟩⟩
theorem clX6_41 : CL RX6 41 yX7_sign cX7_sign 2 (some .boolean) 1 false := ⟨(tb3 160 rfl rfl), (tb1 2 rfl rfl), by decide +kernel, Or.inr ⟨"WinnerDraws", (nw4 25 rfl rfl)⟩, ⟨(tb3 159 rfl rfl), (tbs (List.mem_of_getElem? (i := 25) rfl) rfl)⟩⟩
theorem clX6_45 : CL RX6 45 yX7_word cX7_word 1 none 0 false := ⟨(tb3 62 rfl rfl), (tb1 2 rfl rfl), by decide +kernel, Or.inr ⟨"WinnerDraws", (nw4 11 rfl rfl)⟩, ⟨(tb3 61 rfl rfl), (tbs (List.mem_of_getElem? (i := 17) rfl) rfl)⟩⟩
theorem clX6_50 : CL RX6 50 yX7_is cX7_is 3 (some .boolean) 1 false := ⟨(tb3 74 rfl rfl), (tb1 2 rfl rfl), by decide +kernel, Or.inr ⟨"WinnerDraws", (nw4 13 rfl rfl)⟩, ⟨(tb3 73 rfl rfl), (tbs (List.mem_of_getElem? (i := 18) rfl) rfl)⟩⟩
theorem clX6_54 : CL RX6 54 yX6_readAgain cX6_readAgain 4 (some .boolean) 2 false := ⟨(tb4 17 rfl rfl), (tb1 6 rfl rfl), by decide +kernel, Or.inl (tb4 14 rfl rfl), ⟨(tb4 16 rfl rfl), (tbs (List.mem_of_getElem? (i := 39) rfl) rfl)⟩⟩
theorem clX6_59 : CL RX6 59 yX8_put cX8_put 3 none 3 true := ⟨(tb2 117 rfl rfl), (tb1 1 rfl rfl), by decide +kernel, Or.inr ⟨"WinnerDraws", (nw4 19 rfl rfl)⟩, (tb2 116 rfl rfl)⟩
theorem clX6_67 : CL RX6 67 yX6_readNumber cX6_readNumber 4 (some .boolean) 3 false := ⟨(tb4 23 rfl rfl), (tb1 6 rfl rfl), by decide +kernel, Or.inl (tb4 20 rfl rfl), ⟨(tb4 22 rfl rfl), (tbs (List.mem_of_getElem? (i := 40) rfl) rfl)⟩⟩
theorem flX6_73 : FL RX6 73 7 4 "I" false := ⟨RX7, TX7, 8, tyX7, rfl, by decide, inTX7, tyX7_ok, nmX7, rfl, rfl, rfl, Or.inr ⟨"WinnerDraws", (nw1 43 rfl rfl)⟩⟩
theorem clX6_76 : CL RX6 76 yX7_fail cX7_fail 3 (some .boolean) 2 false := ⟨(tb3 129 rfl rfl), (tb1 2 rfl rfl), by decide +kernel, Or.inr ⟨"WinnerDraws", (nw4 18 rfl rfl)⟩, ⟨(tb3 128 rfl rfl), (tbs (List.mem_of_getElem? (i := 19) rfl) rfl)⟩⟩
theorem clX6_80 : CL RX6 80 yX6_readSteps cX6_readSteps 5 (some .boolean) 2 false := ⟨(tb4 5 rfl rfl), (tb1 6 rfl rfl), by decide +kernel, Or.inl (tb4 26 rfl rfl), ⟨(tb4 4 rfl rfl), (tbs (List.mem_of_getElem? (i := 37) rfl) rfl)⟩⟩
theorem clX6_83 : CL RX6 83 yX7_number cX7_number 2 (some .boolean) 1 false := ⟨(tb3 137 rfl rfl), (tb1 2 rfl rfl), by decide +kernel, Or.inr ⟨"WinnerDraws", (nw4 24 rfl rfl)⟩, ⟨(tb3 136 rfl rfl), (tbs (List.mem_of_getElem? (i := 21) rfl) rfl)⟩⟩
theorem flX6_86 : FL RX6 86 7 5 "I" false := ⟨RX7, TX7, 8, tyX7, rfl, by decide, inTX7, tyX7_ok, nmX7, rfl, rfl, rfl, Or.inr ⟨"WinnerDraws", (nw1 49 rfl rfl)⟩⟩
theorem clX6_89 : CL RX6 89 yX8_at cX8_at 2 (some .int) 2 true := ⟨(tb2 139 rfl rfl), (tb1 1 rfl rfl), by decide +kernel, Or.inr ⟨"WinnerDraws", (nw4 38 rfl rfl)⟩, (tb2 138 rfl rfl)⟩
theorem clX6_93 : CL RX6 93 yX6_run cX6_run 9 none 5 true := ⟨(tb4 37 rfl rfl), (tb1 6 rfl rfl), by decide +kernel, Or.inl (tb4 39 rfl rfl), (tb4 36 rfl rfl)⟩
theorem clX6_97 : CL RX6 97 yX6_runStep cX6_runStep 3 (some .boolean) 2 false := ⟨(tb4 43 rfl rfl), (tb1 6 rfl rfl), by decide +kernel, Or.inl (tb4 40 rfl rfl), ⟨(tb4 42 rfl rfl), (tbs (List.mem_of_getElem? (i := 42) rfl) rfl)⟩⟩
theorem clX6_101 : CL RX6 101 yX2_vote cX2_vote 1 (some .boolean) 0 false := ⟨(tb4 47 rfl rfl), (tb1 7 rfl rfl), by decide +kernel, Or.inr ⟨"WinnerDraws", (nw4 44 rfl rfl)⟩, ⟨(tb4 46 rfl rfl), (tbs (List.mem_of_getElem? (i := 43) rfl) rfl)⟩⟩
theorem clX6_106 : CL RX6 106 yX2_redraw cX2_redraw 1 (some .boolean) 0 false := ⟨(tb4 86 rfl rfl), (tb1 7 rfl rfl), by decide +kernel, Or.inr ⟨"WinnerDraws", (nw4 83 rfl rfl)⟩, ⟨(tb4 85 rfl rfl), (tbs (List.mem_of_getElem? (i := 52) rfl) rfl)⟩⟩
theorem clX6_109 : CL RX6 109 yX2_move cX2_move 3 (some .boolean) 2 false := ⟨(tb4 152 rfl rfl), (tb1 7 rfl rfl), by decide +kernel, Or.inr ⟨"WinnerDraws", (nw4 149 rfl rfl)⟩, ⟨(tb4 151 rfl rfl), (tbs (List.mem_of_getElem? (i := 64) rfl) rfl)⟩⟩
theorem clX6_111 : CL RX6 111 yX2_recountParish cX2_recountParish 4 (some .boolean) 3 false := ⟨(tb4 156 rfl rfl), (tb1 7 rfl rfl), by decide +kernel, Or.inr ⟨"WinnerDraws", (nw4 153 rfl rfl)⟩, ⟨(tb4 155 rfl rfl), (tbs (List.mem_of_getElem? (i := 65) rfl) rfl)⟩⟩
theorem flX7_9 : FL RX7 9 7 0 "[I" true := ⟨RX7, TX7, 8, tyX7, rfl, by decide, inTX7, tyX7_ok, nmX7, rfl, rfl, rfl, Or.inl (tb1 36 rfl rfl)⟩
theorem flX7_15 : FL RX7 15 7 7 "I" false := ⟨RX7, TX7, 8, tyX7, rfl, by decide, inTX7, tyX7_ok, nmX7, rfl, rfl, rfl, Or.inl (tb1 55 rfl rfl)⟩
theorem flX7_19 : FL RX7 19 7 1 "I" false := ⟨RX7, TX7, 8, tyX7, rfl, by decide, inTX7, tyX7_ok, nmX7, rfl, rfl, rfl, Or.inl (tb1 38 rfl rfl)⟩
theorem clX7_22 : CL RX7 22 yX8_put cX8_put 3 none 3 true := ⟨(tb2 117 rfl rfl), (tb1 1 rfl rfl), by decide +kernel, Or.inr ⟨"WinnerDraws", (nw2 115 rfl rfl)⟩, (tb2 116 rfl rfl)⟩
theorem flX7_26 : FL RX7 26 7 2 "I" false := ⟨RX7, TX7, 8, tyX7, rfl, by decide, inTX7, tyX7_ok, nmX7, rfl, rfl, rfl, Or.inl (tb1 39 rfl rfl)⟩
theorem flX7_29 : FL RX7 29 7 3 "I" false := ⟨RX7, TX7, 8, tyX7, rfl, by decide, inTX7, tyX7_ok, nmX7, rfl, rfl, rfl, Or.inl (tb1 40 rfl rfl)⟩
theorem flX7_32 : FL RX7 32 7 6 "I" false := ⟨RX7, TX7, 8, tyX7, rfl, by decide, inTX7, tyX7_ok, nmX7, rfl, rfl, rfl, Or.inl (tb1 54 rfl rfl)⟩
theorem clX7_35 : CL RX7 35 yX8_at cX8_at 2 (some .int) 2 true := ⟨(tb2 139 rfl rfl), (tb1 1 rfl rfl), by decide +kernel, Or.inr ⟨"WinnerDraws", (nw3 54 rfl rfl)⟩, (tb2 138 rfl rfl)⟩
theorem clX7_39 : CL RX7 39 yX7_ahead cX7_ahead 1 (some .int) 0 false := ⟨(tb3 53 rfl rfl), (tb1 2 rfl rfl), by decide +kernel, Or.inl (tb3 63 rfl rfl), ⟨(tb3 52 rfl rfl), (tbs (List.mem_of_getElem? (i := 15) rfl) rfl)⟩⟩
theorem clX7_43 : CL RX7 43 yX7_fail cX7_fail 3 (some .boolean) 2 false := ⟨(tb3 129 rfl rfl), (tb1 2 rfl rfl), by decide +kernel, Or.inl (tb3 144 rfl rfl), ⟨(tb3 128 rfl rfl), (tbs (List.mem_of_getElem? (i := 19) rfl) rfl)⟩⟩
theorem flX7_47 : FL RX7 47 7 4 "I" false := ⟨RX7, TX7, 8, tyX7, rfl, by decide, inTX7, tyX7_ok, nmX7, rfl, rfl, rfl, Or.inl (tb1 45 rfl rfl)⟩
theorem clX7_50 : CL RX7 50 yX7_isLetter cX7_isLetter 1 (some .boolean) 1 true := ⟨(tb3 66 rfl rfl), (tb1 2 rfl rfl), by decide +kernel, Or.inl (tb3 64 rfl rfl), (tb3 65 rfl rfl)⟩
theorem clX7_54 : CL RX7 54 yJ0_length_8abf5 cJ0_length_8abf5 1 (some .int) 0 false := ⟨(tb3 78 rfl rfl), (tb1 15 rfl rfl), by decide +kernel, Or.inl (tb3 75 rfl rfl), ⟨(tb3 76 rfl rfl), (tb3 77 rfl rfl)⟩⟩
theorem clX7_59 : CL RX7 59 yJ0_charAt_5068e cJ0_charAt_5068e 2 (some .char) 1 false := ⟨(tb3 88 rfl rfl), (tb1 15 rfl rfl), by decide +kernel, Or.inl (tb3 85 rfl rfl), ⟨(tb3 86 rfl rfl), (tb3 87 rfl rfl)⟩⟩
theorem flX7_63 : FL RX7 63 7 5 "I" false := ⟨RX7, TX7, 8, tyX7, rfl, by decide, inTX7, tyX7_ok, nmX7, rfl, rfl, rfl, Or.inl (tb1 50 rfl rfl)⟩
theorem clX7_66 : CL RX7 66 yX7_isDigit cX7_isDigit 1 (some .boolean) 1 true := ⟨(tb3 140 rfl rfl), (tb1 2 rfl rfl), by decide +kernel, Or.inl (tb3 138 rfl rfl), (tb3 139 rfl rfl)⟩
theorem clX7_69 : CL RX7 69 yJ9_min_7cf53 cJ9_min_7cf53 2 (some .int) 2 true := ⟨(tb3 143 rfl rfl), (tb1 19 rfl rfl), by decide +kernel, Or.inl (tb3 141 rfl rfl), (tb3 142 rfl rfl)⟩
theorem clX8_11 : CLI RX8 11 yX7_init cX7_init 1 0 := ⟨(tb1 34 rfl rfl), (tb1 2 rfl rfl), by decide +kernel, Or.inr ⟨"WinnerDraws", (nw1 32 rfl rfl)⟩, (tb1 33 rfl rfl), rfl⟩
theorem flX8_12 : FL RX8 12 8 0 "LWinnerDraws$Text;" true := ⟨RX8, TX8, 14, tyX8, rfl, by decide, inTX8, tyX8_ok, nmX8, rfl, rfl, rfl, Or.inl (tb2 64 rfl rfl)⟩
theorem clX8_18 : CLI RX8 18 yX3_init cX3_init 1 0 := ⟨(tb1 79 rfl rfl), (tb1 3 rfl rfl), by decide +kernel, Or.inr ⟨"WinnerDraws", (nw1 77 rfl rfl)⟩, (tb1 78 rfl rfl), rfl⟩
theorem flX8_19 : FL RX8 19 8 1 "LWinnerDraws$County;" true := ⟨RX8, TX8, 14, tyX8, rfl, by decide, inTX8, tyX8_ok, nmX8, rfl, rfl, rfl, Or.inl (tb2 65 rfl rfl)⟩
theorem flX8_23 : FL RX8 23 8 2 "LWinnerDraws$County;" true := ⟨RX8, TX8, 14, tyX8, rfl, by decide, inTX8, tyX8_ok, nmX8, rfl, rfl, rfl, Or.inl (tb2 66 rfl rfl)⟩
theorem clX8_28 : CLI RX8 28 yX4_init cX4_init 1 0 := ⟨(tb1 145 rfl rfl), (tb1 4 rfl rfl), by decide +kernel, Or.inr ⟨"WinnerDraws", (nw1 143 rfl rfl)⟩, (tb1 144 rfl rfl), rfl⟩
theorem flX8_29 : FL RX8 29 8 3 "LWinnerDraws$Law;" true := ⟨RX8, TX8, 14, tyX8, rfl, by decide, inTX8, tyX8_ok, nmX8, rfl, rfl, rfl, Or.inl (tb2 67 rfl rfl)⟩
theorem flX8_33 : FL RX8 33 8 4 "LWinnerDraws$Law;" true := ⟨RX8, TX8, 14, tyX8, rfl, by decide, inTX8, tyX8_ok, nmX8, rfl, rfl, rfl, Or.inl (tb2 68 rfl rfl)⟩
theorem clX8_38 : CLI RX8 38 yX1_init cX1_init 1 0 := ⟨(tb1 164 rfl rfl), (tb1 5 rfl rfl), by decide +kernel, Or.inr ⟨"WinnerDraws", (nw1 162 rfl rfl)⟩, (tb1 163 rfl rfl), rfl⟩
theorem flX8_39 : FL RX8 39 8 5 "LWinnerDraws$Book;" true := ⟨RX8, TX8, 14, tyX8, rfl, by decide, inTX8, tyX8_ok, nmX8, rfl, rfl, rfl, Or.inl (tb2 69 rfl rfl)⟩
theorem flX8_43 : FL RX8 43 8 6 "LWinnerDraws$Book;" true := ⟨RX8, TX8, 14, tyX8, rfl, by decide, inTX8, tyX8_ok, nmX8, rfl, rfl, rfl, Or.inl (tb2 70 rfl rfl)⟩
theorem clX8_48 : CLI RX8 48 yX6_init cX6_init 1 0 := ⟨(tb1 181 rfl rfl), (tb1 6 rfl rfl), by decide +kernel, Or.inr ⟨"WinnerDraws", (nw1 179 rfl rfl)⟩, (tb1 180 rfl rfl), rfl⟩
theorem flX8_49 : FL RX8 49 8 7 "LWinnerDraws$Plan;" true := ⟨RX8, TX8, 14, tyX8, rfl, by decide, inTX8, tyX8_ok, nmX8, rfl, rfl, rfl, Or.inl (tb2 71 rfl rfl)⟩
theorem clX8_55 : CLI RX8 55 yX2_init cX2_init 3 2 := ⟨(tb1 209 rfl rfl), (tb1 7 rfl rfl), by decide +kernel, Or.inr ⟨"WinnerDraws", (nw1 207 rfl rfl)⟩, (tb1 208 rfl rfl), rfl⟩
theorem flX8_58 : FL RX8 58 8 8 "LWinnerDraws$Council;" true := ⟨RX8, TX8, 14, tyX8, rfl, by decide, inTX8, tyX8_ok, nmX8, rfl, rfl, rfl, Or.inl (tb2 72 rfl rfl)⟩
theorem clX8_64 : CLI RX8 64 yX5_init cX5_init 3 2 := ⟨(tb1 234 rfl rfl), (tb1 8 rfl rfl), by decide +kernel, Or.inr ⟨"WinnerDraws", (nw1 232 rfl rfl)⟩, (tb1 233 rfl rfl), rfl⟩
theorem flX8_67 : FL RX8 67 8 9 "LWinnerDraws$Outlook;" true := ⟨RX8, TX8, 14, tyX8, rfl, by decide, inTX8, tyX8_ok, nmX8, rfl, rfl, rfl, Or.inl (tb2 73 rfl rfl)⟩
theorem clX8_73 : CLI RX8 73 yX0_init cX0_init 1 0 := ⟨(tb2 44 rfl rfl), (tb1 9 rfl rfl), by decide +kernel, Or.inr ⟨"WinnerDraws", (nw2 42 rfl rfl)⟩, (tb2 43 rfl rfl), rfl⟩
theorem flX8_74 : FL RX8 74 8 10 "LWinnerDraws$Archive;" true := ⟨RX8, TX8, 14, tyX8, rfl, by decide, inTX8, tyX8_ok, nmX8, rfl, rfl, rfl, Or.inl (tb2 74 rfl rfl)⟩
theorem flX8_78 : FL RX8 78 7 1 "I" false := ⟨RX7, TX7, 8, tyX7, rfl, by decide, inTX7, tyX7_ok, nmX7, rfl, rfl, rfl, Or.inr ⟨"WinnerDraws", (nw1 37 rfl rfl)⟩⟩
theorem clX8_82 : CL RX8 82 yX7_add cX7_add 3 none 1 false := ⟨(tb2 114 rfl rfl), (tb1 2 rfl rfl), by decide +kernel, Or.inr ⟨"WinnerDraws", (nw2 111 rfl rfl)⟩, ⟨(tb2 113 rfl rfl), (tbs (List.mem_of_getElem? (i := 0) rfl) rfl)⟩⟩
theorem clX8_86 : CL RX8 86 yX8_needText cX8_needText 3 none 2 false := ⟨(tb2 211 rfl rfl), (tb1 1 rfl rfl), by decide +kernel, Or.inl (tb2 208 rfl rfl), ⟨(tb2 210 rfl rfl), (tbs (List.mem_of_getElem? (i := 9) rfl) rfl)⟩⟩
theorem clX8_90 : CL RX8 90 yX7_open cX7_open 2 none 1 false := ⟨(tb3 41 rfl rfl), (tb1 2 rfl rfl), by decide +kernel, Or.inr ⟨"WinnerDraws", (nw3 38 rfl rfl)⟩, ⟨(tb3 40 rfl rfl), (tbs (List.mem_of_getElem? (i := 12) rfl) rfl)⟩⟩
theorem clX8_93 : CL RX8 93 yX3_read cX3_read 3 (some .boolean) 1 false := ⟨(tb3 45 rfl rfl), (tb1 3 rfl rfl), by decide +kernel, Or.inr ⟨"WinnerDraws", (nw3 42 rfl rfl)⟩, ⟨(tb3 44 rfl rfl), (tbs (List.mem_of_getElem? (i := 13) rfl) rfl)⟩⟩
theorem flX8_97 : FL RX8 97 7 6 "I" false := ⟨RX7, TX7, 8, tyX7, rfl, by decide, inTX7, tyX7_ok, nmX7, rfl, rfl, rfl, Or.inr ⟨"WinnerDraws", (nw1 53 rfl rfl)⟩⟩
theorem clX8_100 : CL RX8 100 yX3_copyFrom cX3_copyFrom 2 none 1 false := ⟨(tb3 164 rfl rfl), (tb1 3 rfl rfl), by decide +kernel, Or.inr ⟨"WinnerDraws", (nw3 161 rfl rfl)⟩, ⟨(tb3 163 rfl rfl), (tbs (List.mem_of_getElem? (i := 26) rfl) rfl)⟩⟩
theorem clX8_104 : CL RX8 104 yX4_clear cX4_clear 1 none 0 false := ⟨(tb3 168 rfl rfl), (tb1 4 rfl rfl), by decide +kernel, Or.inr ⟨"WinnerDraws", (nw3 165 rfl rfl)⟩, ⟨(tb3 167 rfl rfl), (tbs (List.mem_of_getElem? (i := 27) rfl) rfl)⟩⟩
theorem clX8_107 : CL RX8 107 yX1_clear cX1_clear 1 none 0 false := ⟨(tb3 172 rfl rfl), (tb1 5 rfl rfl), by decide +kernel, Or.inr ⟨"WinnerDraws", (nw3 169 rfl rfl)⟩, ⟨(tb3 171 rfl rfl), (tbs (List.mem_of_getElem? (i := 28) rfl) rfl)⟩⟩
theorem clX8_108 : CL RX8 108 yX0_clear cX0_clear 1 none 0 false := ⟨(tb3 176 rfl rfl), (tb1 9 rfl rfl), by decide +kernel, Or.inr ⟨"WinnerDraws", (nw3 173 rfl rfl)⟩, ⟨(tb3 175 rfl rfl), (tbs (List.mem_of_getElem? (i := 29) rfl) rfl)⟩⟩
theorem flX8_109 : FL RX8 109 8 11 "I" false := ⟨RX8, TX8, 14, tyX8, rfl, by decide, inTX8, tyX8_ok, nmX8, rfl, rfl, rfl, Or.inl (tb2 75 rfl rfl)⟩
theorem flX8_112 : FL RX8 112 3 5 "I" false := ⟨RX3, TX3, 14, tyX3, rfl, by decide, inTX3, tyX3_ok, nmX3, rfl, rfl, rfl, Or.inr ⟨"WinnerDraws", (nw1 87 rfl rfl)⟩⟩
theorem clX8_115 : CL RX8 115 yX4_read cX4_read 2 (some .boolean) 1 false := ⟨(tb3 188 rfl rfl), (tb1 4 rfl rfl), by decide +kernel, Or.inr ⟨"WinnerDraws", (nw3 185 rfl rfl)⟩, ⟨(tb3 187 rfl rfl), (tbs (List.mem_of_getElem? (i := 30) rfl) rfl)⟩⟩
theorem clX8_116 : CL RX8 116 yX4_copyFrom cX4_copyFrom 2 none 1 false := ⟨(tb3 229 rfl rfl), (tb1 4 rfl rfl), by decide +kernel, Or.inr ⟨"WinnerDraws", (nw3 226 rfl rfl)⟩, ⟨(tb3 228 rfl rfl), (tbs (List.mem_of_getElem? (i := 35) rfl) rfl)⟩⟩
theorem flX8_119 : FL RX8 119 0 3 "I" false := ⟨RX0, TX0, 5, tyX0, rfl, by decide, inTX0, tyX0_ok, nmX0, rfl, rfl, rfl, Or.inr ⟨"WinnerDraws", (nw2 50 rfl rfl)⟩⟩
theorem clX8_122 : CL RX8 122 yX6_clear cX6_clear 2 none 1 false := ⟨(tb4 1 rfl rfl), (tb1 6 rfl rfl), by decide +kernel, Or.inr ⟨"WinnerDraws", (nw3 238 rfl rfl)⟩, ⟨(tb4 0 rfl rfl), (tbs (List.mem_of_getElem? (i := 36) rfl) rfl)⟩⟩
theorem clX8_124 : CL RX8 124 yX6_readSteps cX6_readSteps 5 (some .boolean) 2 false := ⟨(tb4 5 rfl rfl), (tb1 6 rfl rfl), by decide +kernel, Or.inr ⟨"WinnerDraws", (nw4 2 rfl rfl)⟩, ⟨(tb4 4 rfl rfl), (tbs (List.mem_of_getElem? (i := 37) rfl) rfl)⟩⟩
theorem clX8_128 : CL RX8 128 yX0_keepWork cX0_keepWork 2 none 1 false := ⟨(tb4 34 rfl rfl), (tb1 9 rfl rfl), by decide +kernel, Or.inr ⟨"WinnerDraws", (nw4 31 rfl rfl)⟩, ⟨(tb4 33 rfl rfl), (tbs (List.mem_of_getElem? (i := 41) rfl) rfl)⟩⟩
theorem flX8_131 : FL RX8 131 6 1 "I" false := ⟨RX6, TX6, 6, tyX6, rfl, by decide, inTX6, tyX6_ok, nmX6, rfl, rfl, rfl, Or.inr ⟨"WinnerDraws", (nw1 185 rfl rfl)⟩⟩
theorem clX8_134 : CL RX8 134 yX6_run cX6_run 9 none 5 true := ⟨(tb4 37 rfl rfl), (tb1 6 rfl rfl), by decide +kernel, Or.inr ⟨"WinnerDraws", (nw4 35 rfl rfl)⟩, (tb4 36 rfl rfl)⟩
theorem flX8_138 : FL RX8 138 6 5 "I" false := ⟨RX6, TX6, 6, tyX6, rfl, by decide, inTX6, tyX6_ok, nmX6, rfl, rfl, rfl, Or.inr ⟨"WinnerDraws", (nw1 191 rfl rfl)⟩⟩
theorem flX8_141 : FL RX8 141 6 4 "I" false := ⟨RX6, TX6, 6, tyX6, rfl, by decide, inTX6, tyX6_ok, nmX6, rfl, rfl, rfl, Or.inr ⟨"WinnerDraws", (nw1 189 rfl rfl)⟩⟩
theorem clX8_144 : CL RX8 144 yX1_read cX1_read 3 (some .boolean) 1 false := ⟨(tb4 171 rfl rfl), (tb1 5 rfl rfl), by decide +kernel, Or.inr ⟨"WinnerDraws", (nw4 168 rfl rfl)⟩, ⟨(tb4 170 rfl rfl), (tbs (List.mem_of_getElem? (i := 67) rfl) rfl)⟩⟩
theorem clX8_145 : CL RX8 145 yX1_copyFrom cX1_copyFrom 2 none 1 false := ⟨(tb4 189 rfl rfl), (tb1 5 rfl rfl), by decide +kernel, Or.inr ⟨"WinnerDraws", (nw4 186 rfl rfl)⟩, ⟨(tb4 188 rfl rfl), (tbs (List.mem_of_getElem? (i := 70) rfl) rfl)⟩⟩
theorem clX8_148 : CL RX8 148 yX1_lines cX1_lines 1 (some .int) 0 false := ⟨(tb4 194 rfl rfl), (tb1 5 rfl rfl), by decide +kernel, Or.inr ⟨"WinnerDraws", (nw4 191 rfl rfl)⟩, ⟨(tb4 193 rfl rfl), (tbs (List.mem_of_getElem? (i := 71) rfl) rfl)⟩⟩
theorem flX8_152 : FL RX8 152 7 7 "I" false := ⟨RX7, TX7, 8, tyX7, rfl, by decide, inTX7, tyX7_ok, nmX7, rfl, rfl, rfl, Or.inr ⟨"WinnerDraws", (nw1 56 rfl rfl)⟩⟩
theorem clX8_155 : CL RX8 155 yX0_takeBackWork cX0_takeBackWork 2 none 1 false := ⟨(tb2 129 rfl rfl), (tb1 9 rfl rfl), by decide +kernel, Or.inr ⟨"WinnerDraws", (nw2 126 rfl rfl)⟩, ⟨(tb2 128 rfl rfl), (tbs (List.mem_of_getElem? (i := 1) rfl) rfl)⟩⟩
theorem clX8_158 : CL RX8 158 yX8_need cX8_need 2 none 1 false := ⟨(tb2 215 rfl rfl), (tb1 1 rfl rfl), by decide +kernel, Or.inl (tb2 212 rfl rfl), ⟨(tb2 214 rfl rfl), (tbs (List.mem_of_getElem? (i := 10) rfl) rfl)⟩⟩
theorem clX8_162 : CL RX8 162 yX3_roadCount cX3_roadCount 3 (some .int) 0 false := ⟨(tb4 206 rfl rfl), (tb1 3 rfl rfl), by decide +kernel, Or.inr ⟨"WinnerDraws", (nw4 203 rfl rfl)⟩, ⟨(tb4 205 rfl rfl), (tbs (List.mem_of_getElem? (i := 72) rfl) rfl)⟩⟩
theorem flX8_165 : FL RX8 165 3 6 "I" false := ⟨RX3, TX3, 14, tyX3, rfl, by decide, inTX3, tyX3_ok, nmX3, rfl, rfl, rfl, Or.inr ⟨"WinnerDraws", (nw1 92 rfl rfl)⟩⟩
theorem flX8_168 : FL RX8 168 3 7 "I" false := ⟨RX3, TX3, 14, tyX3, rfl, by decide, inTX3, tyX3_ok, nmX3, rfl, rfl, rfl, Or.inr ⟨"WinnerDraws", (nw1 95 rfl rfl)⟩⟩
theorem flX8_171 : FL RX8 171 3 8 "I" false := ⟨RX3, TX3, 14, tyX3, rfl, by decide, inTX3, tyX3_ok, nmX3, rfl, rfl, rfl, Or.inr ⟨"WinnerDraws", (nw1 98 rfl rfl)⟩⟩
theorem flX8_174 : FL RX8 174 3 9 "I" false := ⟨RX3, TX3, 14, tyX3, rfl, by decide, inTX3, tyX3_ok, nmX3, rfl, rfl, rfl, Or.inr ⟨"WinnerDraws", (nw1 102 rfl rfl)⟩⟩
theorem flX8_177 : FL RX8 177 3 10 "I" false := ⟨RX3, TX3, 14, tyX3, rfl, by decide, inTX3, tyX3_ok, nmX3, rfl, rfl, rfl, Or.inr ⟨"WinnerDraws", (nw1 105 rfl rfl)⟩⟩
theorem clX8_180 : CL RX8 180 yX3_lines cX3_lines 3 (some .int) 0 false := ⟨(tb4 127 rfl rfl), (tb1 3 rfl rfl), by decide +kernel, Or.inr ⟨"WinnerDraws", (nw4 211 rfl rfl)⟩, ⟨(tb4 126 rfl rfl), (tbs (List.mem_of_getElem? (i := 60) rfl) rfl)⟩⟩
theorem clX8_181 : CL RX8 181 yX3_allVotes cX3_allVotes 4 (some .int) 1 false := ⟨(tb4 78 rfl rfl), (tb1 3 rfl rfl), by decide +kernel, Or.inr ⟨"WinnerDraws", (nw4 212 rfl rfl)⟩, ⟨(tb4 77 rfl rfl), (tbs (List.mem_of_getElem? (i := 50) rfl) rfl)⟩⟩
theorem clX8_185 : CL RX8 185 yX3_heldWards cX3_heldWards 3 (some .int) 0 false := ⟨(tb4 216 rfl rfl), (tb1 3 rfl rfl), by decide +kernel, Or.inr ⟨"WinnerDraws", (nw4 213 rfl rfl)⟩, ⟨(tb4 215 rfl rfl), (tbs (List.mem_of_getElem? (i := 74) rfl) rfl)⟩⟩
theorem flX8_188 : FL RX8 188 3 11 "I" false := ⟨RX3, TX3, 14, tyX3, rfl, by decide, inTX3, tyX3_ok, nmX3, rfl, rfl, rfl, Or.inr ⟨"WinnerDraws", (nw1 109 rfl rfl)⟩⟩
theorem clX8_191 : CL RX8 191 yX8_needParish cX8_needParish 2 none 1 false := ⟨(tb4 229 rfl rfl), (tb1 1 rfl rfl), by decide +kernel, Or.inl (tb4 226 rfl rfl), ⟨(tb4 228 rfl rfl), (tbs (List.mem_of_getElem? (i := 75) rfl) rfl)⟩⟩
theorem clX8_194 : CL RX8 194 yX3_wardOf cX3_wardOf 2 (some .int) 1 false := ⟨(tb4 121 rfl rfl), (tb1 3 rfl rfl), by decide +kernel, Or.inr ⟨"WinnerDraws", (nw5 9 rfl rfl)⟩, ⟨(tb4 120 rfl rfl), (tbs (List.mem_of_getElem? (i := 59) rfl) rfl)⟩⟩
theorem clX8_197 : CL RX8 197 yX3_votesOf cX3_votesOf 3 (some .int) 2 false := ⟨(tb4 82 rfl rfl), (tb1 3 rfl rfl), by decide +kernel, Or.inr ⟨"WinnerDraws", (nw5 10 rfl rfl)⟩, ⟨(tb4 81 rfl rfl), (tbs (List.mem_of_getElem? (i := 51) rfl) rfl)⟩⟩
theorem clX8_201 : CL RX8 201 yX3_roadsFrom cX3_roadsFrom 2 (some .int) 1 false := ⟨(tb4 210 rfl rfl), (tb1 3 rfl rfl), by decide +kernel, Or.inr ⟨"WinnerDraws", (nw5 11 rfl rfl)⟩, ⟨(tb4 209 rfl rfl), (tbs (List.mem_of_getElem? (i := 73) rfl) rfl)⟩⟩
theorem clX8_204 : CL RX8 204 yX8_needWard cX8_needWard 2 none 1 false := ⟨(tb5 22 rfl rfl), (tb1 1 rfl rfl), by decide +kernel, Or.inl (tb5 19 rfl rfl), ⟨(tb5 21 rfl rfl), (tbs (List.mem_of_getElem? (i := 77) rfl) rfl)⟩⟩
theorem clX8_207 : CL RX8 207 yX3_membersOf cX3_membersOf 2 (some .int) 1 false := ⟨(tb2 162 rfl rfl), (tb1 3 rfl rfl), by decide +kernel, Or.inr ⟨"WinnerDraws", (nw2 159 rfl rfl)⟩, ⟨(tb2 161 rfl rfl), (tbs (List.mem_of_getElem? (i := 5) rfl) rfl)⟩⟩
theorem clX8_210 : CL RX8 210 yX3_wardVotes cX3_wardVotes 5 (some .int) 2 false := ⟨(tb5 26 rfl rfl), (tb1 3 rfl rfl), by decide +kernel, Or.inr ⟨"WinnerDraws", (nw5 23 rfl rfl)⟩, ⟨(tb5 25 rfl rfl), (tbs (List.mem_of_getElem? (i := 78) rfl) rfl)⟩⟩
theorem clX8_213 : CL RX8 213 yX3_winner cX3_winner 3 (some .int) 1 false := ⟨(tb5 31 rfl rfl), (tb1 3 rfl rfl), by decide +kernel, Or.inr ⟨"WinnerDraws", (nw5 28 rfl rfl)⟩, ⟨(tb5 30 rfl rfl), (tbs (List.mem_of_getElem? (i := 79) rfl) rfl)⟩⟩
theorem clX8_216 : CL RX8 216 yX3_hangsTogether cX3_hangsTogether 2 (some .boolean) 1 false := ⟨(tb5 35 rfl rfl), (tb1 3 rfl rfl), by decide +kernel, Or.inr ⟨"WinnerDraws", (nw5 32 rfl rfl)⟩, ⟨(tb5 34 rfl rfl), (tbs (List.mem_of_getElem? (i := 80) rfl) rfl)⟩⟩
theorem clX8_220 : CL RX8 220 yX8_needSide cX8_needSide 2 none 1 false := ⟨(tb5 46 rfl rfl), (tb1 1 rfl rfl), by decide +kernel, Or.inl (tb5 43 rfl rfl), ⟨(tb5 45 rfl rfl), (tbs (List.mem_of_getElem? (i := 81) rfl) rfl)⟩⟩
theorem clX8_223 : CL RX8 223 yX3_wonBy cX3_wonBy 4 (some .int) 1 false := ⟨(tb5 50 rfl rfl), (tb1 3 rfl rfl), by decide +kernel, Or.inr ⟨"WinnerDraws", (nw5 47 rfl rfl)⟩, ⟨(tb5 49 rfl rfl), (tbs (List.mem_of_getElem? (i := 82) rfl) rfl)⟩⟩
theorem clX8_226 : CL RX8 226 yJ6_bitCount_0f7a4 cJ6_bitCount_0f7a4 1 (some .int) 1 true := ⟨(tb2 165 rfl rfl), (tb1 20 rfl rfl), by decide +kernel, Or.inl (tb2 163 rfl rfl), (tb2 164 rfl rfl)⟩
theorem clX8_231 : CL RX8 231 yX3_margin cX3_margin 4 (some .int) 1 false := ⟨(tb4 71 rfl rfl), (tb1 3 rfl rfl), by decide +kernel, Or.inr ⟨"WinnerDraws", (nw5 52 rfl rfl)⟩, ⟨(tb4 70 rfl rfl), (tbs (List.mem_of_getElem? (i := 49) rfl) rfl)⟩⟩
theorem clX8_234 : CL RX8 234 yX2_priceOf cX2_priceOf 5 (some .int) 2 false := ⟨(tb4 112 rfl rfl), (tb1 7 rfl rfl), by decide +kernel, Or.inr ⟨"WinnerDraws", (nw5 60 rfl rfl)⟩, ⟨(tb4 111 rfl rfl), (tbs (List.mem_of_getElem? (i := 57) rfl) rfl)⟩⟩
theorem clX8_237 : CL RX8 237 yX4_tell cX4_tell 3 none 2 false := ⟨(tb4 117 rfl rfl), (tb1 4 rfl rfl), by decide +kernel, Or.inr ⟨"WinnerDraws", (nw5 68 rfl rfl)⟩, ⟨(tb4 116 rfl rfl), (tbs (List.mem_of_getElem? (i := 58) rfl) rfl)⟩⟩
theorem clX8_240 : CL RX8 240 yX4_price cX4_price 4 (some .int) 0 false := ⟨(tb4 132 rfl rfl), (tb1 4 rfl rfl), by decide +kernel, Or.inr ⟨"WinnerDraws", (nw5 69 rfl rfl)⟩, ⟨(tb4 131 rfl rfl), (tbs (List.mem_of_getElem? (i := 61) rfl) rfl)⟩⟩
theorem clX8_243 : CL RX8 243 yX3_openWards cX3_openWards 6 (some .int) 1 false := ⟨(tb4 95 rfl rfl), (tb1 3 rfl rfl), by decide +kernel, Or.inr ⟨"WinnerDraws", (nw5 77 rfl rfl)⟩, ⟨(tb4 94 rfl rfl), (tbs (List.mem_of_getElem? (i := 54) rfl) rfl)⟩⟩
theorem clX8_246 : CL RX8 246 yX2_choose cX2_choose 9 (some .boolean) 1 false := ⟨(tb4 90 rfl rfl), (tb1 7 rfl rfl), by decide +kernel, Or.inr ⟨"WinnerDraws", (nw5 85 rfl rfl)⟩, ⟨(tb4 89 rfl rfl), (tbs (List.mem_of_getElem? (i := 53) rfl) rfl)⟩⟩
theorem flX8_249 : FL RX8 249 2 2 "I" false := ⟨RX2, TX2, 5, tyX2, rfl, by decide, inTX2, tyX2_ok, nmX2, rfl, rfl, rfl, Or.inr ⟨"WinnerDraws", (nw1 214 rfl rfl)⟩⟩
theorem flX8_252 : FL RX8 252 2 3 "I" false := ⟨RX2, TX2, 5, tyX2, rfl, by decide, inTX2, tyX2_ok, nmX2, rfl, rfl, rfl, Or.inr ⟨"WinnerDraws", (nw1 216 rfl rfl)⟩⟩
theorem flX8_255 : FL RX8 255 2 4 "I" false := ⟨RX2, TX2, 5, tyX2, rfl, by decide, inTX2, tyX2_ok, nmX2, rfl, rfl, rfl, Or.inr ⟨"WinnerDraws", (nw1 218 rfl rfl)⟩⟩
theorem clX8_258 : CL RX8 258 yX2_greatest cX2_greatest 9 (some .int) 4 true := ⟨(tb5 95 rfl rfl), (tb1 7 rfl rfl), by decide +kernel, Or.inr ⟨"WinnerDraws", (nw5 93 rfl rfl)⟩, (tb5 94 rfl rfl)⟩
theorem clX8_262 : CL RX8 262 yX8_isHalf cX8_isHalf 1 (some .boolean) 1 true := ⟨(tb5 117 rfl rfl), (tb1 1 rfl rfl), by decide +kernel, Or.inl (tb5 115 rfl rfl), (tb5 116 rfl rfl)⟩
theorem clX8_265 : CL RX8 265 yX5_lookAhead cX5_lookAhead 4 none 1 false := ⟨(tb5 121 rfl rfl), (tb1 8 rfl rfl), by decide +kernel, Or.inr ⟨"WinnerDraws", (nw5 118 rfl rfl)⟩, ⟨(tb5 120 rfl rfl), (tbs (List.mem_of_getElem? (i := 83) rfl) rfl)⟩⟩
theorem flX8_268 : FL RX8 268 5 5 "I" false := ⟨RX5, TX5, 12, tyX5, rfl, by decide, inTX5, tyX5_ok, nmX5, rfl, rfl, rfl, Or.inr ⟨"WinnerDraws", (nw2 2 rfl rfl)⟩⟩
theorem flX8_271 : FL RX8 271 5 6 "I" false := ⟨RX5, TX5, 12, tyX5, rfl, by decide, inTX5, tyX5_ok, nmX5, rfl, rfl, rfl, Or.inr ⟨"WinnerDraws", (nw2 4 rfl rfl)⟩⟩
theorem clX8_274 : CL RX8 274 yX5_findRound cX5_findRound 3 none 0 false := ⟨(tb5 140 rfl rfl), (tb1 8 rfl rfl), by decide +kernel, Or.inr ⟨"WinnerDraws", (nw5 137 rfl rfl)⟩, ⟨(tb5 139 rfl rfl), (tbs (List.mem_of_getElem? (i := 85) rfl) rfl)⟩⟩
theorem flX8_277 : FL RX8 277 5 7 "I" false := ⟨RX5, TX5, 12, tyX5, rfl, by decide, inTX5, tyX5_ok, nmX5, rfl, rfl, rfl, Or.inr ⟨"WinnerDraws", (nw2 6 rfl rfl)⟩⟩
theorem flX8_280 : FL RX8 280 5 8 "I" false := ⟨RX5, TX5, 12, tyX5, rfl, by decide, inTX5, tyX5_ok, nmX5, rfl, rfl, rfl, Or.inr ⟨"WinnerDraws", (nw2 8 rfl rfl)⟩⟩
theorem clX8_283 : CL RX8 283 yX3_marginHad cX3_marginHad 8 (some .int) 2 false := ⟨(tb5 157 rfl rfl), (tb1 3 rfl rfl), by decide +kernel, Or.inr ⟨"WinnerDraws", (nw5 154 rfl rfl)⟩, ⟨(tb5 156 rfl rfl), (tbs (List.mem_of_getElem? (i := 87) rfl) rfl)⟩⟩
theorem clX8_286 : CL RX8 286 yX3_wasted cX3_wasted 4 (some .int) 1 false := ⟨(tb5 168 rfl rfl), (tb1 3 rfl rfl), by decide +kernel, Or.inr ⟨"WinnerDraws", (nw5 165 rfl rfl)⟩, ⟨(tb5 167 rfl rfl), (tbs (List.mem_of_getElem? (i := 88) rfl) rfl)⟩⟩
theorem clX8_289 : CL RX8 289 yX8_leastTerm cX8_leastTerm 12 (some .long) 3 true := ⟨(tb5 179 rfl rfl), (tb1 1 rfl rfl), by decide +kernel, Or.inl (tb5 177 rfl rfl), (tb5 178 rfl rfl)⟩
theorem clX8_293 : CL RX8 293 yX1_fitting cX1_fitting 9 (some .int) 3 false := ⟨(tb5 190 rfl rfl), (tb1 5 rfl rfl), by decide +kernel, Or.inr ⟨"WinnerDraws", (nw5 187 rfl rfl)⟩, ⟨(tb5 189 rfl rfl), (tbs (List.mem_of_getElem? (i := 90) rfl) rfl)⟩⟩
theorem flX8_297 : FL RX8 297 1 2 "I" false := ⟨RX1, TX1, 3, tyX1, rfl, by decide, inTX1, tyX1_ok, nmX1, rfl, rfl, rfl, Or.inr ⟨"WinnerDraws", (nw1 169 rfl rfl)⟩⟩
theorem clX8_300 : CL RX8 300 yX1_hasLine cX1_hasLine 2 (some .boolean) 1 false := ⟨(tb4 181 rfl rfl), (tb1 5 rfl rfl), by decide +kernel, Or.inr ⟨"WinnerDraws", (nw5 207 rfl rfl)⟩, ⟨(tb4 180 rfl rfl), (tbs (List.mem_of_getElem? (i := 69) rfl) rfl)⟩⟩
theorem clX8_303 : CL RX8 303 yX1_worstFitting cX1_worstFitting 5 (some .int) 2 false := ⟨(tb5 211 rfl rfl), (tb1 5 rfl rfl), by decide +kernel, Or.inr ⟨"WinnerDraws", (nw5 208 rfl rfl)⟩, ⟨(tb5 210 rfl rfl), (tbs (List.mem_of_getElem? (i := 92) rfl) rfl)⟩⟩
theorem clX8_307 : CL RX8 307 yX8_waysToTake cX8_waysToTake 5 (some .long) 2 true := ⟨(tb5 223 rfl rfl), (tb1 1 rfl rfl), by decide +kernel, Or.inl (tb5 221 rfl rfl), (tb5 222 rfl rfl)⟩
theorem clX8_311 : CL RX8 311 yX8_power cX8_power 6 (some .long) 2 true := ⟨(tb5 226 rfl rfl), (tb1 1 rfl rfl), by decide +kernel, Or.inl (tb5 224 rfl rfl), (tb5 225 rfl rfl)⟩
theorem clX8_317 : CL RX8 317 yJ9_max_7cf53 cJ9_max_7cf53 2 (some .int) 2 true := ⟨(tb4 140 rfl rfl), (tb1 19 rfl rfl), by decide +kernel, Or.inl (tb5 235 rfl rfl), (tb4 139 rfl rfl)⟩
theorem clX8_322 : CL RX8 322 yX3_leadIn cX3_leadIn 2 (some .int) 1 false := ⟨(tb5 172 rfl rfl), (tb1 3 rfl rfl), by decide +kernel, Or.inr ⟨"WinnerDraws", (nw6 3 rfl rfl)⟩, ⟨(tb5 171 rfl rfl), (tbs (List.mem_of_getElem? (i := 89) rfl) rfl)⟩⟩
theorem clX8_325 : CL RX8 325 yJ9_abs_0f7a4 cJ9_abs_0f7a4 1 (some .int) 1 true := ⟨(tb5 175 rfl rfl), (tb1 19 rfl rfl), by decide +kernel, Or.inl (tb6 4 rfl rfl), (tb5 174 rfl rfl)⟩
theorem clX8_328 : CL RX8 328 yX3_roadsOverLine cX3_roadsOverLine 2 (some .int) 1 false := ⟨(tb2 154 rfl rfl), (tb1 3 rfl rfl), by decide +kernel, Or.inr ⟨"WinnerDraws", (nw2 151 rfl rfl)⟩, ⟨(tb2 153 rfl rfl), (tbs (List.mem_of_getElem? (i := 4) rfl) rfl)⟩⟩
theorem clX8_331 : CL RX8 331 yX3_comingSide cX3_comingSide 1 (some .int) 0 false := ⟨(tb4 59 rfl rfl), (tb1 3 rfl rfl), by decide +kernel, Or.inr ⟨"WinnerDraws", (nw6 12 rfl rfl)⟩, ⟨(tb4 58 rfl rfl), (tbs (List.mem_of_getElem? (i := 46) rfl) rfl)⟩⟩
theorem clX8_334 : CL RX8 334 yX3_comingShare cX3_comingShare 1 (some .int) 0 false := ⟨(tb4 67 rfl rfl), (tb1 3 rfl rfl), by decide +kernel, Or.inr ⟨"WinnerDraws", (nw6 13 rfl rfl)⟩, ⟨(tb4 66 rfl rfl), (tbs (List.mem_of_getElem? (i := 48) rfl) rfl)⟩⟩
theorem clX8_337 : CL RX8 337 yX3_reached cX3_reached 7 (some .int) 2 false := ⟨(tb4 100 rfl rfl), (tb1 3 rfl rfl), by decide +kernel, Or.inr ⟨"WinnerDraws", (nw6 28 rfl rfl)⟩, ⟨(tb4 99 rfl rfl), (tbs (List.mem_of_getElem? (i := 55) rfl) rfl)⟩⟩
theorem clX8_340 : CL RX8 340 yX8_isTime cX8_isTime 2 (some .boolean) 2 true := ⟨(tb6 45 rfl rfl), (tb1 1 rfl rfl), by decide +kernel, Or.inl (tb6 43 rfl rfl), (tb6 44 rfl rfl)⟩
theorem clX8_344 : CL RX8 344 yX5_live cX5_live 8 none 3 false := ⟨(tb6 49 rfl rfl), (tb1 8 rfl rfl), by decide +kernel, Or.inr ⟨"WinnerDraws", (nw6 46 rfl rfl)⟩, ⟨(tb6 48 rfl rfl), (tbs (List.mem_of_getElem? (i := 93) rfl) rfl)⟩⟩
theorem flX8_348 : FL RX8 348 5 9 "I" false := ⟨RX5, TX5, 12, tyX5, rfl, by decide, inTX5, tyX5_ok, nmX5, rfl, rfl, rfl, Or.inr ⟨"WinnerDraws", (nw2 10 rfl rfl)⟩⟩
theorem flX8_351 : FL RX8 351 5 10 "I" false := ⟨RX5, TX5, 12, tyX5, rfl, by decide, inTX5, tyX5_ok, nmX5, rfl, rfl, rfl, Or.inr ⟨"WinnerDraws", (nw2 12 rfl rfl)⟩⟩
theorem flX8_354 : FL RX8 354 5 11 "I" false := ⟨RX5, TX5, 12, tyX5, rfl, by decide, inTX5, tyX5_ok, nmX5, rfl, rfl, rfl, Or.inr ⟨"WinnerDraws", (nw2 14 rfl rfl)⟩⟩
theorem clX8_357 : CL RX8 357 yJ9_min_7cf53 cJ9_min_7cf53 2 (some .int) 2 true := ⟨(tb3 143 rfl rfl), (tb1 19 rfl rfl), by decide +kernel, Or.inl (tb6 65 rfl rfl), (tb3 142 rfl rfl)⟩
theorem flX8_360 : FL RX8 360 0 4 "I" false := ⟨RX0, TX0, 5, tyX0, rfl, by decide, inTX0, tyX0_ok, nmX0, rfl, rfl, rfl, Or.inr ⟨"WinnerDraws", (nw2 52 rfl rfl)⟩⟩
theorem clX8_363 : CL RX8 363 yX0_keepImage cX0_keepImage 3 none 1 false := ⟨(tb2 176 rfl rfl), (tb1 9 rfl rfl), by decide +kernel, Or.inr ⟨"WinnerDraws", (nw2 173 rfl rfl)⟩, ⟨(tb2 175 rfl rfl), (tbs (List.mem_of_getElem? (i := 6) rfl) rfl)⟩⟩
theorem clX8_366 : CL RX8 366 yX0_takeImage cX0_takeImage 3 none 1 false := ⟨(tb2 190 rfl rfl), (tb1 9 rfl rfl), by decide +kernel, Or.inr ⟨"WinnerDraws", (nw2 187 rfl rfl)⟩, ⟨(tb2 189 rfl rfl), (tbs (List.mem_of_getElem? (i := 8) rfl) rfl)⟩⟩
theorem flX8_369 : FL RX8 369 8 12 "I" false := ⟨RX8, TX8, 14, tyX8, rfl, by decide, inTX8, tyX8_ok, nmX8, rfl, rfl, rfl, Or.inl (tb2 76 rfl rfl)⟩
theorem flX8_372 : FL RX8 372 8 13 "I" false := ⟨RX8, TX8, 14, tyX8, rfl, by decide, inTX8, tyX8_ok, nmX8, rfl, rfl, rfl, Or.inl (tb2 77 rfl rfl)⟩
theorem clX8_381 : CL RX8 381 yX8_needThere cX8_needThere 2 none 1 false := ⟨(tb4 233 rfl rfl), (tb1 1 rfl rfl), by decide +kernel, Or.inl (tb4 230 rfl rfl), ⟨(tb4 232 rfl rfl), (tbs (List.mem_of_getElem? (i := 76) rfl) rfl)⟩⟩
theorem clX8_384 : CL RX8 384 yX8_at cX8_at 2 (some .int) 2 true := ⟨(tb2 139 rfl rfl), (tb1 1 rfl rfl), by decide +kernel, Or.inl (tb2 137 rfl rfl), (tb2 138 rfl rfl)⟩
theorem clX8_388 : CL RX8 388 yX8_put cX8_put 3 none 3 true := ⟨(tb2 117 rfl rfl), (tb1 1 rfl rfl), by decide +kernel, Or.inl (tb2 140 rfl rfl), (tb2 116 rfl rfl)⟩
theorem flX9_3 : FL RX9 3 9 0 "I" false := ⟨RX9, TX9, 51, tyX9, rfl, by decide, inTX9, tyX9_ok, nmX9, rfl, rfl, rfl, Or.inl (tb6 88 rfl rfl)⟩
theorem flX9_7 : FL RX9 7 9 1 "[I" true := ⟨RX9, TX9, 51, tyX9, rfl, by decide, inTX9, tyX9_ok, nmX9, rfl, rfl, rfl, Or.inl (tb6 89 rfl rfl)⟩
theorem flX9_17 : FL RX9 17 9 8 "I" false := ⟨RX9, TX9, 51, tyX9, rfl, by decide, inTX9, tyX9_ok, nmX9, rfl, rfl, rfl, Or.inl (tb6 96 rfl rfl)⟩
theorem flX9_20 : FL RX9 20 9 9 "[I" true := ⟨RX9, TX9, 51, tyX9, rfl, by decide, inTX9, tyX9_ok, nmX9, rfl, rfl, rfl, Or.inl (tb6 97 rfl rfl)⟩
theorem flX9_23 : FL RX9 23 9 10 "[I" true := ⟨RX9, TX9, 51, tyX9, rfl, by decide, inTX9, tyX9_ok, nmX9, rfl, rfl, rfl, Or.inl (tb6 98 rfl rfl)⟩
theorem flX9_26 : FL RX9 26 9 11 "[I" true := ⟨RX9, TX9, 51, tyX9, rfl, by decide, inTX9, tyX9_ok, nmX9, rfl, rfl, rfl, Or.inl (tb6 99 rfl rfl)⟩
theorem flX9_29 : FL RX9 29 9 12 "[I" true := ⟨RX9, TX9, 51, tyX9, rfl, by decide, inTX9, tyX9_ok, nmX9, rfl, rfl, rfl, Or.inl (tb6 100 rfl rfl)⟩
theorem flX9_32 : FL RX9 32 9 13 "[I" true := ⟨RX9, TX9, 51, tyX9, rfl, by decide, inTX9, tyX9_ok, nmX9, rfl, rfl, rfl, Or.inl (tb6 101 rfl rfl)⟩
theorem flX9_35 : FL RX9 35 9 14 "[I" true := ⟨RX9, TX9, 51, tyX9, rfl, by decide, inTX9, tyX9_ok, nmX9, rfl, rfl, rfl, Or.inl (tb6 102 rfl rfl)⟩
theorem flX9_38 : FL RX9 38 9 15 "[I" true := ⟨RX9, TX9, 51, tyX9, rfl, by decide, inTX9, tyX9_ok, nmX9, rfl, rfl, rfl, Or.inl (tb6 103 rfl rfl)⟩
theorem flX9_41 : FL RX9 41 9 22 "[I" true := ⟨RX9, TX9, 51, tyX9, rfl, by decide, inTX9, tyX9_ok, nmX9, rfl, rfl, rfl, Or.inl (tb6 110 rfl rfl)⟩
theorem flX9_44 : FL RX9 44 9 23 "[I" true := ⟨RX9, TX9, 51, tyX9, rfl, by decide, inTX9, tyX9_ok, nmX9, rfl, rfl, rfl, Or.inl (tb6 111 rfl rfl)⟩
theorem flX9_47 : FL RX9 47 9 24 "[I" true := ⟨RX9, TX9, 51, tyX9, rfl, by decide, inTX9, tyX9_ok, nmX9, rfl, rfl, rfl, Or.inl (tb6 112 rfl rfl)⟩
theorem flX9_50 : FL RX9 50 9 25 "[I" true := ⟨RX9, TX9, 51, tyX9, rfl, by decide, inTX9, tyX9_ok, nmX9, rfl, rfl, rfl, Or.inl (tb6 113 rfl rfl)⟩
theorem flX9_53 : FL RX9 53 9 26 "[I" true := ⟨RX9, TX9, 51, tyX9, rfl, by decide, inTX9, tyX9_ok, nmX9, rfl, rfl, rfl, Or.inl (tb6 114 rfl rfl)⟩
theorem flX9_56 : FL RX9 56 9 29 "[I" true := ⟨RX9, TX9, 51, tyX9, rfl, by decide, inTX9, tyX9_ok, nmX9, rfl, rfl, rfl, Or.inl (tb6 117 rfl rfl)⟩
theorem flX9_59 : FL RX9 59 9 30 "[I" true := ⟨RX9, TX9, 51, tyX9, rfl, by decide, inTX9, tyX9_ok, nmX9, rfl, rfl, rfl, Or.inl (tb6 118 rfl rfl)⟩
theorem flX9_62 : FL RX9 62 9 31 "[I" true := ⟨RX9, TX9, 51, tyX9, rfl, by decide, inTX9, tyX9_ok, nmX9, rfl, rfl, rfl, Or.inl (tb6 119 rfl rfl)⟩
theorem flX9_65 : FL RX9 65 9 38 "[I" true := ⟨RX9, TX9, 51, tyX9, rfl, by decide, inTX9, tyX9_ok, nmX9, rfl, rfl, rfl, Or.inl (tb6 126 rfl rfl)⟩
theorem flX9_68 : FL RX9 68 9 39 "[I" true := ⟨RX9, TX9, 51, tyX9, rfl, by decide, inTX9, tyX9_ok, nmX9, rfl, rfl, rfl, Or.inl (tb6 127 rfl rfl)⟩
theorem flX9_71 : FL RX9 71 9 41 "[I" true := ⟨RX9, TX9, 51, tyX9, rfl, by decide, inTX9, tyX9_ok, nmX9, rfl, rfl, rfl, Or.inl (tb6 129 rfl rfl)⟩
theorem flX9_74 : FL RX9 74 9 42 "[I" true := ⟨RX9, TX9, 51, tyX9, rfl, by decide, inTX9, tyX9_ok, nmX9, rfl, rfl, rfl, Or.inl (tb6 130 rfl rfl)⟩
theorem flX9_77 : FL RX9 77 9 43 "[I" true := ⟨RX9, TX9, 51, tyX9, rfl, by decide, inTX9, tyX9_ok, nmX9, rfl, rfl, rfl, Or.inl (tb6 131 rfl rfl)⟩
theorem flX9_80 : FL RX9 80 9 44 "[I" true := ⟨RX9, TX9, 51, tyX9, rfl, by decide, inTX9, tyX9_ok, nmX9, rfl, rfl, rfl, Or.inl (tb6 132 rfl rfl)⟩
theorem flX9_83 : FL RX9 83 9 45 "[I" true := ⟨RX9, TX9, 51, tyX9, rfl, by decide, inTX9, tyX9_ok, nmX9, rfl, rfl, rfl, Or.inl (tb6 133 rfl rfl)⟩
theorem flX9_86 : FL RX9 86 9 46 "[I" true := ⟨RX9, TX9, 51, tyX9, rfl, by decide, inTX9, tyX9_ok, nmX9, rfl, rfl, rfl, Or.inl (tb6 134 rfl rfl)⟩
theorem flX9_89 : FL RX9 89 9 47 "[J" true := ⟨RX9, TX9, 51, tyX9, rfl, by decide, inTX9, tyX9_ok, nmX9, rfl, rfl, rfl, Or.inl (tb6 135 rfl rfl)⟩
theorem flX9_93 : FL RX9 93 9 49 "[I" true := ⟨RX9, TX9, 51, tyX9, rfl, by decide, inTX9, tyX9_ok, nmX9, rfl, rfl, rfl, Or.inl (tb6 137 rfl rfl)⟩
theorem clX9_96 : CL RX9 96 yX9_clears cX9_clears 2 none 0 false := ⟨(tb6 79 rfl rfl), (tb1 10 rfl rfl), by decide +kernel, Or.inl (tb6 76 rfl rfl), ⟨(tb6 78 rfl rfl), (tbs (List.mem_of_getElem? (i := 95) rfl) rfl)⟩⟩
theorem clX9_99 : CL RX9 99 yX9_sets cX9_sets 2 none 0 false := ⟨(tb6 83 rfl rfl), (tb1 10 rfl rfl), by decide +kernel, Or.inl (tb6 80 rfl rfl), ⟨(tb6 82 rfl rfl), (tbs (List.mem_of_getElem? (i := 96) rfl) rfl)⟩⟩
theorem flX9_102 : FL RX9 102 9 2 "I" false := ⟨RX9, TX9, 51, tyX9, rfl, by decide, inTX9, tyX9_ok, nmX9, rfl, rfl, rfl, Or.inl (tb6 90 rfl rfl)⟩
theorem flX9_105 : FL RX9 105 9 5 "I" false := ⟨RX9, TX9, 51, tyX9, rfl, by decide, inTX9, tyX9_ok, nmX9, rfl, rfl, rfl, Or.inl (tb6 93 rfl rfl)⟩
theorem flX9_108 : FL RX9 108 9 6 "I" false := ⟨RX9, TX9, 51, tyX9, rfl, by decide, inTX9, tyX9_ok, nmX9, rfl, rfl, rfl, Or.inl (tb6 94 rfl rfl)⟩
theorem flX9_111 : FL RX9 111 9 4 "I" false := ⟨RX9, TX9, 51, tyX9, rfl, by decide, inTX9, tyX9_ok, nmX9, rfl, rfl, rfl, Or.inl (tb6 92 rfl rfl)⟩
theorem flX9_114 : FL RX9 114 9 3 "I" false := ⟨RX9, TX9, 51, tyX9, rfl, by decide, inTX9, tyX9_ok, nmX9, rfl, rfl, rfl, Or.inl (tb6 91 rfl rfl)⟩
theorem clX9_117 : CL RX9 117 yX9_here cX9_here 1 (some .int) 0 false := ⟨(tb7 34 rfl rfl), (tb1 10 rfl rfl), by decide +kernel, Or.inl (tb7 31 rfl rfl), ⟨(tb7 33 rfl rfl), (tbs (List.mem_of_getElem? (i := 102) rfl) rfl)⟩⟩
theorem clX9_121 : CL RX9 121 yX9_isSmall cX9_isSmall 1 (some .boolean) 1 true := ⟨(tb7 41 rfl rfl), (tb1 10 rfl rfl), by decide +kernel, Or.inl (tb7 39 rfl rfl), (tb7 40 rfl rfl)⟩
theorem clX9_125 : CL RX9 125 yJ0_length_8abf5 cJ0_length_8abf5 1 (some .int) 0 false := ⟨(tb3 78 rfl rfl), (tb1 15 rfl rfl), by decide +kernel, Or.inl (tb7 49 rfl rfl), ⟨(tb3 76 rfl rfl), (tb3 77 rfl rfl)⟩⟩
theorem clX9_130 : CL RX9 130 yJ0_charAt_5068e cJ0_charAt_5068e 2 (some .char) 1 false := ⟨(tb3 88 rfl rfl), (tb1 15 rfl rfl), by decide +kernel, Or.inl (tb7 50 rfl rfl), ⟨(tb3 86 rfl rfl), (tb3 87 rfl rfl)⟩⟩
theorem clX9_134 : CL RX9 134 yX9_fine cX9_fine 1 (some .boolean) 0 false := ⟨(tb7 26 rfl rfl), (tb1 10 rfl rfl), by decide +kernel, Or.inl (tb7 23 rfl rfl), ⟨(tb7 25 rfl rfl), (tbs (List.mem_of_getElem? (i := 100) rfl) rfl)⟩⟩
theorem clX9_138 : CL RX9 138 yX9_isDigit cX9_isDigit 1 (some .boolean) 1 true := ⟨(tb7 76 rfl rfl), (tb1 10 rfl rfl), by decide +kernel, Or.inl (tb7 74 rfl rfl), (tb7 75 rfl rfl)⟩
theorem clX9_141 : CL RX9 141 yX9_wrong cX9_wrong 3 none 2 false := ⟨(tb7 57 rfl rfl), (tb1 10 rfl rfl), by decide +kernel, Or.inl (tb7 54 rfl rfl), ⟨(tb7 56 rfl rfl), (tbs (List.mem_of_getElem? (i := 104) rfl) rfl)⟩⟩
theorem flX9_145 : FL RX9 145 9 7 "I" false := ⟨RX9, TX9, 51, tyX9, rfl, by decide, inTX9, tyX9_ok, nmX9, rfl, rfl, rfl, Or.inl (tb6 95 rfl rfl)⟩
theorem flX9_148 : FL RX9 148 9 16 "I" false := ⟨RX9, TX9, 51, tyX9, rfl, by decide, inTX9, tyX9_ok, nmX9, rfl, rfl, rfl, Or.inl (tb6 104 rfl rfl)⟩
theorem flX9_151 : FL RX9 151 9 17 "I" false := ⟨RX9, TX9, 51, tyX9, rfl, by decide, inTX9, tyX9_ok, nmX9, rfl, rfl, rfl, Or.inl (tb6 105 rfl rfl)⟩
theorem flX9_154 : FL RX9 154 9 18 "I" false := ⟨RX9, TX9, 51, tyX9, rfl, by decide, inTX9, tyX9_ok, nmX9, rfl, rfl, rfl, Or.inl (tb6 106 rfl rfl)⟩
theorem flX9_157 : FL RX9 157 9 19 "I" false := ⟨RX9, TX9, 51, tyX9, rfl, by decide, inTX9, tyX9_ok, nmX9, rfl, rfl, rfl, Or.inl (tb6 107 rfl rfl)⟩
theorem flX9_160 : FL RX9 160 9 20 "I" false := ⟨RX9, TX9, 51, tyX9, rfl, by decide, inTX9, tyX9_ok, nmX9, rfl, rfl, rfl, Or.inl (tb6 108 rfl rfl)⟩
theorem flX9_163 : FL RX9 163 9 21 "I" false := ⟨RX9, TX9, 51, tyX9, rfl, by decide, inTX9, tyX9_ok, nmX9, rfl, rfl, rfl, Or.inl (tb6 109 rfl rfl)⟩
theorem clX9_166 : CL RX9 166 yX9_copies cX9_copies 5 none 3 false := ⟨(tb6 87 rfl rfl), (tb1 10 rfl rfl), by decide +kernel, Or.inl (tb6 84 rfl rfl), ⟨(tb6 86 rfl rfl), (tbs (List.mem_of_getElem? (i := 97) rfl) rfl)⟩⟩
theorem flX9_170 : FL RX9 170 9 28 "I" false := ⟨RX9, TX9, 51, tyX9, rfl, by decide, inTX9, tyX9_ok, nmX9, rfl, rfl, rfl, Or.inl (tb6 116 rfl rfl)⟩
theorem flX9_173 : FL RX9 173 9 40 "I" false := ⟨RX9, TX9, 51, tyX9, rfl, by decide, inTX9, tyX9_ok, nmX9, rfl, rfl, rfl, Or.inl (tb6 128 rfl rfl)⟩
theorem flX9_176 : FL RX9 176 9 33 "I" false := ⟨RX9, TX9, 51, tyX9, rfl, by decide, inTX9, tyX9_ok, nmX9, rfl, rfl, rfl, Or.inl (tb6 121 rfl rfl)⟩
theorem flX9_179 : FL RX9 179 9 50 "I" false := ⟨RX9, TX9, 51, tyX9, rfl, by decide, inTX9, tyX9_ok, nmX9, rfl, rfl, rfl, Or.inl (tb6 138 rfl rfl)⟩
theorem flX9_182 : FL RX9 182 9 34 "I" false := ⟨RX9, TX9, 51, tyX9, rfl, by decide, inTX9, tyX9_ok, nmX9, rfl, rfl, rfl, Or.inl (tb6 122 rfl rfl)⟩
theorem clX9_186 : CL RX9 186 yX9_of cX9_of 3 (some .int) 1 true := ⟨(tb7 48 rfl rfl), (tb1 10 rfl rfl), by decide +kernel, Or.inl (tb7 46 rfl rfl), (tb7 47 rfl rfl)⟩
theorem clX9_193 : CL RX9 193 yX9_readNumber cX9_readNumber 6 (some .int) 2 false := ⟨(tb7 73 rfl rfl), (tb1 10 rfl rfl), by decide +kernel, Or.inl (tb7 70 rfl rfl), ⟨(tb7 72 rfl rfl), (tbs (List.mem_of_getElem? (i := 108) rfl) rfl)⟩⟩
theorem clX9_197 : CL RX9 197 yX9_readRoad cX9_readRoad 4 none 0 false := ⟨(tb7 80 rfl rfl), (tb1 10 rfl rfl), by decide +kernel, Or.inl (tb7 77 rfl rfl), ⟨(tb7 79 rfl rfl), (tbs (List.mem_of_getElem? (i := 109) rfl) rfl)⟩⟩
theorem clX9_200 : CL RX9 200 yX9_lets cX9_lets 4 (some .boolean) 3 false := ⟨(tb7 18 rfl rfl), (tb1 10 rfl rfl), by decide +kernel, Or.inl (tb7 15 rfl rfl), ⟨(tb7 17 rfl rfl), (tbs (List.mem_of_getElem? (i := 98) rfl) rfl)⟩⟩
theorem clX9_204 : CL RX9 204 yX9_begins cX9_begins 2 none 1 false := ⟨(tb7 22 rfl rfl), (tb1 10 rfl rfl), by decide +kernel, Or.inl (tb7 19 rfl rfl), ⟨(tb7 21 rfl rfl), (tbs (List.mem_of_getElem? (i := 99) rfl) rfl)⟩⟩
theorem clX9_208 : CL RX9 208 yX9_isMore cX9_isMore 1 (some .boolean) 0 false := ⟨(tb7 30 rfl rfl), (tb1 10 rfl rfl), by decide +kernel, Or.inl (tb7 27 rfl rfl), ⟨(tb7 29 rfl rfl), (tbs (List.mem_of_getElem? (i := 101) rfl) rfl)⟩⟩
theorem clX9_211 : CL RX9 211 yX9_word cX9_word 4 (some .int) 0 false := ⟨(tb7 38 rfl rfl), (tb1 10 rfl rfl), by decide +kernel, Or.inl (tb7 35 rfl rfl), ⟨(tb7 37 rfl rfl), (tbs (List.mem_of_getElem? (i := 103) rfl) rfl)⟩⟩
theorem clX9_214 : CL RX9 214 yX9_isRow cX9_isRow 1 (some .boolean) 1 true := ⟨(tb7 44 rfl rfl), (tb1 10 rfl rfl), by decide +kernel, Or.inl (tb7 42 rfl rfl), (tb7 43 rfl rfl)⟩
theorem clX9_217 : CL RX9 217 yX9_isFull cX9_isFull 2 (some .boolean) 1 false := ⟨(tb7 61 rfl rfl), (tb1 10 rfl rfl), by decide +kernel, Or.inl (tb7 58 rfl rfl), ⟨(tb7 60 rfl rfl), (tbs (List.mem_of_getElem? (i := 105) rfl) rfl)⟩⟩
theorem clX9_220 : CL RX9 220 yX9_pass cX9_pass 1 none 0 false := ⟨(tb7 65 rfl rfl), (tb1 10 rfl rfl), by decide +kernel, Or.inl (tb7 62 rfl rfl), ⟨(tb7 64 rfl rfl), (tbs (List.mem_of_getElem? (i := 106) rfl) rfl)⟩⟩
theorem clX9_223 : CL RX9 223 yX9_readRow cX9_readRow 2 none 1 false := ⟨(tb7 69 rfl rfl), (tb1 10 rfl rfl), by decide +kernel, Or.inl (tb7 66 rfl rfl), ⟨(tb7 68 rfl rfl), (tbs (List.mem_of_getElem? (i := 107) rfl) rfl)⟩⟩
theorem clX9_226 : CL RX9 226 yX9_sign cX9_sign 2 none 1 false := ⟨(tb7 84 rfl rfl), (tb1 10 rfl rfl), by decide +kernel, Or.inl (tb7 81 rfl rfl), ⟨(tb7 83 rfl rfl), (tbs (List.mem_of_getElem? (i := 110) rfl) rfl)⟩⟩
theorem clX9_229 : CL RX9 229 yX9_result cX9_result 2 (some .int) 1 false := ⟨(tb7 88 rfl rfl), (tb1 10 rfl rfl), by decide +kernel, Or.inl (tb7 85 rfl rfl), ⟨(tb7 87 rfl rfl), (tbs (List.mem_of_getElem? (i := 111) rfl) rfl)⟩⟩
theorem flX9_233 : FL RX9 233 9 27 "I" false := ⟨RX9, TX9, 51, tyX9, rfl, by decide, inTX9, tyX9_ok, nmX9, rfl, rfl, rfl, Or.inl (tb6 115 rfl rfl)⟩
theorem clX9_236 : CL RX9 236 yX9_readProduct cX9_readProduct 2 none 0 false := ⟨(tb7 100 rfl rfl), (tb1 10 rfl rfl), by decide +kernel, Or.inl (tb7 97 rfl rfl), ⟨(tb7 99 rfl rfl), (tbs (List.mem_of_getElem? (i := 113) rfl) rfl)⟩⟩
theorem clX9_239 : CL RX9 239 yX9_emit cX9_emit 3 none 2 false := ⟨(tb7 112 rfl rfl), (tb1 10 rfl rfl), by decide +kernel, Or.inl (tb7 109 rfl rfl), ⟨(tb7 111 rfl rfl), (tbs (List.mem_of_getElem? (i := 116) rfl) rfl)⟩⟩
theorem clX9_242 : CL RX9 242 yX9_readUnit cX9_readUnit 2 none 0 false := ⟨(tb7 104 rfl rfl), (tb1 10 rfl rfl), by decide +kernel, Or.inl (tb7 101 rfl rfl), ⟨(tb7 103 rfl rfl), (tbs (List.mem_of_getElem? (i := 114) rfl) rfl)⟩⟩
theorem clX9_245 : CL RX9 245 yX9_opensOne cX9_opensOne 2 none 1 false := ⟨(tb7 108 rfl rfl), (tb1 10 rfl rfl), by decide +kernel, Or.inl (tb7 105 rfl rfl), ⟨(tb7 107 rfl rfl), (tbs (List.mem_of_getElem? (i := 115) rfl) rfl)⟩⟩
theorem clX9_248 : CL RX9 248 yX9_readSum cX9_readSum 2 none 0 false := ⟨(tb7 96 rfl rfl), (tb1 10 rfl rfl), by decide +kernel, Or.inl (tb7 93 rfl rfl), ⟨(tb7 95 rfl rfl), (tbs (List.mem_of_getElem? (i := 112) rfl) rfl)⟩⟩
theorem clX9_266 : CL RX9 266 yX9_readTwo cX9_readTwo 3 none 2 false := ⟨(tb7 117 rfl rfl), (tb1 10 rfl rfl), by decide +kernel, Or.inl (tb7 114 rfl rfl), ⟨(tb7 116 rfl rfl), (tbs (List.mem_of_getElem? (i := 117) rfl) rfl)⟩⟩
theorem clX9_271 : CL RX9 271 yX9_factHere cX9_factHere 2 (some .int) 0 false := ⟨(tb7 122 rfl rfl), (tb1 10 rfl rfl), by decide +kernel, Or.inl (tb7 119 rfl rfl), ⟨(tb7 121 rfl rfl), (tbs (List.mem_of_getElem? (i := 118) rfl) rfl)⟩⟩
theorem clX9_274 : CL RX9 274 yX9_both cX9_both 3 (some .int) 3 true := ⟨(tb7 231 rfl rfl), (tb1 10 rfl rfl), by decide +kernel, Or.inl (tb7 229 rfl rfl), (tb7 230 rfl rfl)⟩
theorem clX9_278 : CL RX9 278 yX9_valueNow cX9_valueNow 4 (some .int) 0 false := ⟨(tb7 228 rfl rfl), (tb1 10 rfl rfl), by decide +kernel, Or.inl (tb7 225 rfl rfl), ⟨(tb7 227 rfl rfl), (tbs (List.mem_of_getElem? (i := 139) rfl) rfl)⟩⟩
theorem flX9_281 : FL RX9 281 9 32 "I" false := ⟨RX9, TX9, 51, tyX9, rfl, by decide, inTX9, tyX9_ok, nmX9, rfl, rfl, rfl, Or.inl (tb6 120 rfl rfl)⟩
theorem clX9_294 : CL RX9 294 yX9_tellsStep cX9_tellsStep 5 none 4 false := ⟨(tb7 153 rfl rfl), (tb1 10 rfl rfl), by decide +kernel, Or.inl (tb7 150 rfl rfl), ⟨(tb7 152 rfl rfl), (tbs (List.mem_of_getElem? (i := 121) rfl) rfl)⟩⟩
theorem clX9_298 : CL RX9 298 yX9_readStep cX9_readStep 4 none 0 false := ⟨(tb7 137 rfl rfl), (tb1 10 rfl rfl), by decide +kernel, Or.inl (tb7 134 rfl rfl), ⟨(tb7 136 rfl rfl), (tbs (List.mem_of_getElem? (i := 119) rfl) rfl)⟩⟩
theorem clX9_301 : CL RX9 301 yX9_stepOf cX9_stepOf 1 (some .int) 1 true := ⟨(tb7 140 rfl rfl), (tb1 10 rfl rfl), by decide +kernel, Or.inl (tb7 138 rfl rfl), (tb7 139 rfl rfl)⟩
theorem clX9_304 : CL RX9 304 yX9_readAgain cX9_readAgain 3 none 0 false := ⟨(tb7 149 rfl rfl), (tb1 10 rfl rfl), by decide +kernel, Or.inl (tb7 146 rfl rfl), ⟨(tb7 148 rfl rfl), (tbs (List.mem_of_getElem? (i := 120) rfl) rfl)⟩⟩
theorem clX9_307 : CL RX9 307 yX9_take cX9_take 1 none 0 false := ⟨(tb7 157 rfl rfl), (tb1 10 rfl rfl), by decide +kernel, Or.inl (tb7 154 rfl rfl), ⟨(tb7 156 rfl rfl), (tbs (List.mem_of_getElem? (i := 122) rfl) rfl)⟩⟩
theorem flX9_310 : FL RX9 310 9 35 "I" false := ⟨RX9, TX9, 51, tyX9, rfl, by decide, inTX9, tyX9_ok, nmX9, rfl, rfl, rfl, Or.inl (tb6 123 rfl rfl)⟩
theorem flX9_313 : FL RX9 313 9 36 "I" false := ⟨RX9, TX9, 51, tyX9, rfl, by decide, inTX9, tyX9_ok, nmX9, rfl, rfl, rfl, Or.inl (tb6 124 rfl rfl)⟩
theorem flX9_316 : FL RX9 316 9 37 "I" false := ⟨RX9, TX9, 51, tyX9, rfl, by decide, inTX9, tyX9_ok, nmX9, rfl, rfl, rfl, Or.inl (tb6 125 rfl rfl)⟩
theorem clX9_319 : CL RX9 319 yX9_goesSteps cX9_goesSteps 6 none 2 false := ⟨(tb7 161 rfl rfl), (tb1 10 rfl rfl), by decide +kernel, Or.inl (tb7 158 rfl rfl), ⟨(tb7 160 rfl rfl), (tbs (List.mem_of_getElem? (i := 123) rfl) rfl)⟩⟩
theorem clX9_322 : CL RX9 322 yX9_isDone cX9_isDone 5 (some .boolean) 4 false := ⟨(tb7 165 rfl rfl), (tb1 10 rfl rfl), by decide +kernel, Or.inl (tb7 162 rfl rfl), ⟨(tb7 164 rfl rfl), (tbs (List.mem_of_getElem? (i := 124) rfl) rfl)⟩⟩
theorem clX9_326 : CL RX9 326 yX9_votesOf cX9_votesOf 3 (some .int) 2 false := ⟨(tb7 197 rfl rfl), (tb1 10 rfl rfl), by decide +kernel, Or.inl (tb7 194 rfl rfl), ⟨(tb7 196 rfl rfl), (tbs (List.mem_of_getElem? (i := 132) rfl) rfl)⟩⟩
theorem clX9_329 : CL RX9 329 yX9_setOf cX9_setOf 4 (some .int) 1 false := ⟨(tb7 189 rfl rfl), (tb1 10 rfl rfl), by decide +kernel, Or.inl (tb7 186 rfl rfl), ⟨(tb7 188 rfl rfl), (tbs (List.mem_of_getElem? (i := 130) rfl) rfl)⟩⟩
theorem clX9_332 : CL RX9 332 yX9_votesIn cX9_votesIn 5 (some .int) 2 false := ⟨(tb7 193 rfl rfl), (tb1 10 rfl rfl), by decide +kernel, Or.inl (tb7 190 rfl rfl), ⟨(tb7 192 rfl rfl), (tbs (List.mem_of_getElem? (i := 131) rfl) rfl)⟩⟩
theorem clX9_335 : CL RX9 335 yX9_winnerOf cX9_winnerOf 4 (some .int) 1 false := ⟨(tb7 185 rfl rfl), (tb1 10 rfl rfl), by decide +kernel, Or.inl (tb7 182 rfl rfl), ⟨(tb7 184 rfl rfl), (tbs (List.mem_of_getElem? (i := 129) rfl) rfl)⟩⟩
theorem clX9_338 : CL RX9 338 yX9_seatsOf cX9_seatsOf 4 (some .int) 1 false := ⟨(tb7 181 rfl rfl), (tb1 10 rfl rfl), by decide +kernel, Or.inl (tb7 178 rfl rfl), ⟨(tb7 180 rfl rfl), (tbs (List.mem_of_getElem? (i := 128) rfl) rfl)⟩⟩
theorem clX9_341 : CL RX9 341 yX9_costNow cX9_costNow 2 (some .int) 0 false := ⟨(tb7 224 rfl rfl), (tb1 10 rfl rfl), by decide +kernel, Or.inl (tb7 221 rfl rfl), ⟨(tb7 223 rfl rfl), (tbs (List.mem_of_getElem? (i := 138) rfl) rfl)⟩⟩
theorem clX9_344 : CL RX9 344 yX9_ones cX9_ones 3 (some .int) 1 true := ⟨(tb7 212 rfl rfl), (tb1 10 rfl rfl), by decide +kernel, Or.inl (tb7 210 rfl rfl), (tb7 211 rfl rfl)⟩
theorem clX9_347 : CL RX9 347 yX9_linesNow cX9_linesNow 4 (some .int) 0 false := ⟨(tb7 216 rfl rfl), (tb1 10 rfl rfl), by decide +kernel, Or.inl (tb7 213 rfl rfl), ⟨(tb7 215 rfl rfl), (tbs (List.mem_of_getElem? (i := 136) rfl) rfl)⟩⟩
theorem clX9_350 : CL RX9 350 yX9_costOf cX9_costOf 9 (some .int) 8 false := ⟨(tb7 220 rfl rfl), (tb1 10 rfl rfl), by decide +kernel, Or.inl (tb7 217 rfl rfl), ⟨(tb7 219 rfl rfl), (tbs (List.mem_of_getElem? (i := 137) rfl) rfl)⟩⟩
theorem clX9_354 : CL RX9 354 yX9_hangs cX9_hangs 5 (some .boolean) 1 false := ⟨(tb7 205 rfl rfl), (tb1 10 rfl rfl), by decide +kernel, Or.inl (tb7 202 rfl rfl), ⟨(tb7 204 rfl rfl), (tbs (List.mem_of_getElem? (i := 134) rfl) rfl)⟩⟩
theorem clX9_357 : CL RX9 357 yX9_mayCome cX9_mayCome 4 (some .boolean) 2 false := ⟨(tb7 201 rfl rfl), (tb1 10 rfl rfl), by decide +kernel, Or.inl (tb7 198 rfl rfl), ⟨(tb7 200 rfl rfl), (tbs (List.mem_of_getElem? (i := 133) rfl) rfl)⟩⟩
theorem clX9_361 : CL RX9 361 yX9_costBy cX9_costBy 4 (some .int) 2 false := ⟨(tb7 209 rfl rfl), (tb1 10 rfl rfl), by decide +kernel, Or.inl (tb7 206 rfl rfl), ⟨(tb7 208 rfl rfl), (tbs (List.mem_of_getElem? (i := 135) rfl) rfl)⟩⟩
theorem clX9_364 : CL RX9 364 yX9_marginOf cX9_marginOf 2 (some .int) 1 false := ⟨(tb7 177 rfl rfl), (tb1 10 rfl rfl), by decide +kernel, Or.inl (tb7 174 rfl rfl), ⟨(tb7 176 rfl rfl), (tbs (List.mem_of_getElem? (i := 127) rfl) rfl)⟩⟩
theorem clX9_367 : CL RX9 367 yX9_bestOf cX9_bestOf 11 (some .int) 1 false := ⟨(tb7 173 rfl rfl), (tb1 10 rfl rfl), by decide +kernel, Or.inl (tb7 170 rfl rfl), ⟨(tb7 172 rfl rfl), (tbs (List.mem_of_getElem? (i := 126) rfl) rfl)⟩⟩
theorem clX9_370 : CL RX9 370 yX9_isMoved cX9_isMoved 3 (some .boolean) 2 false := ⟨(tb7 235 rfl rfl), (tb1 10 rfl rfl), by decide +kernel, Or.inl (tb7 232 rfl rfl), ⟨(tb7 234 rfl rfl), (tbs (List.mem_of_getElem? (i := 140) rfl) rfl)⟩⟩
theorem clX9_373 : CL RX9 373 yX9_comesOver cX9_comesOver 5 none 2 false := ⟨(tb8 3 rfl rfl), (tb1 10 rfl rfl), by decide +kernel, Or.inl (tb8 0 rfl rfl), ⟨(tb8 2 rfl rfl), (tbs (List.mem_of_getElem? (i := 142) rfl) rfl)⟩⟩
theorem clX9_376 : CL RX9 376 yX9_everybody cX9_everybody 1 (some .int) 0 false := ⟨(tb8 7 rfl rfl), (tb1 10 rfl rfl), by decide +kernel, Or.inl (tb8 4 rfl rfl), ⟨(tb8 6 rfl rfl), (tbs (List.mem_of_getElem? (i := 143) rfl) rfl)⟩⟩
theorem clX9_379 : CL RX9 379 yX9_isDrawn cX9_isDrawn 2 (some .boolean) 0 false := ⟨(tb7 169 rfl rfl), (tb1 10 rfl rfl), by decide +kernel, Or.inl (tb7 166 rfl rfl), ⟨(tb7 168 rfl rfl), (tbs (List.mem_of_getElem? (i := 125) rfl) rfl)⟩⟩
theorem clX9_382 : CL RX9 382 yX9_votes cX9_votes 3 none 0 false := ⟨(tb7 239 rfl rfl), (tb1 10 rfl rfl), by decide +kernel, Or.inl (tb7 236 rfl rfl), ⟨(tb7 238 rfl rfl), (tbs (List.mem_of_getElem? (i := 141) rfl) rfl)⟩⟩
theorem clX9_385 : CL RX9 385 yX9_within cX9_within 3 (some .boolean) 3 true := ⟨(tb8 22 rfl rfl), (tb1 10 rfl rfl), by decide +kernel, Or.inl (tb8 20 rfl rfl), (tb8 21 rfl rfl)⟩
theorem clX9_389 : CL RX9 389 yX9_isThere cX9_isThere 3 (some .boolean) 2 false := ⟨(tb8 30 rfl rfl), (tb1 10 rfl rfl), by decide +kernel, Or.inl (tb8 27 rfl rfl), ⟨(tb8 29 rfl rfl), (tbs (List.mem_of_getElem? (i := 144) rfl) rfl)⟩⟩
theorem clX9_392 : CL RX9 392 yX9_mostBy cX9_mostBy 8 (some .int) 2 false := ⟨(tb8 62 rfl rfl), (tb1 10 rfl rfl), by decide +kernel, Or.inl (tb8 59 rfl rfl), ⟨(tb8 61 rfl rfl), (tbs (List.mem_of_getElem? (i := 145) rfl) rfl)⟩⟩
theorem clX9_395 : CL RX9 395 yX9_turnsBy cX9_turnsBy 8 (some .int) 2 false := ⟨(tb8 70 rfl rfl), (tb1 10 rfl rfl), by decide +kernel, Or.inl (tb8 67 rfl rfl), ⟨(tb8 69 rfl rfl), (tbs (List.mem_of_getElem? (i := 146) rfl) rfl)⟩⟩
theorem clX9_398 : CL RX9 398 yX9_areAlike cX9_areAlike 4 (some .boolean) 2 false := ⟨(tb8 82 rfl rfl), (tb1 10 rfl rfl), by decide +kernel, Or.inl (tb8 79 rfl rfl), ⟨(tb8 81 rfl rfl), (tbs (List.mem_of_getElem? (i := 147) rfl) rfl)⟩⟩
theorem clX9_401 : CL RX9 401 yX9_least cX9_least 11 (some .long) 3 true := ⟨(tb8 93 rfl rfl), (tb1 10 rfl rfl), by decide +kernel, Or.inl (tb8 91 rfl rfl), (tb8 92 rfl rfl)⟩
theorem clX9_404 : CL RX9 404 yX9_laysWon cX9_laysWon 3 none 0 false := ⟨(tb8 101 rfl rfl), (tb1 10 rfl rfl), by decide +kernel, Or.inl (tb8 98 rfl rfl), ⟨(tb8 100 rfl rfl), (tbs (List.mem_of_getElem? (i := 148) rfl) rfl)⟩⟩
theorem clX9_407 : CL RX9 407 yX9_isFit cX9_isFit 4 (some .boolean) 1 false := ⟨(tb8 105 rfl rfl), (tb1 10 rfl rfl), by decide +kernel, Or.inl (tb8 102 rfl rfl), ⟨(tb8 104 rfl rfl), (tbs (List.mem_of_getElem? (i := 149) rfl) rfl)⟩⟩
theorem clX9_410 : CL RX9 410 yX9_worstOf cX9_worstOf 5 (some .int) 1 false := ⟨(tb8 113 rfl rfl), (tb1 10 rfl rfl), by decide +kernel, Or.inl (tb8 110 rfl rfl), ⟨(tb8 112 rfl rfl), (tbs (List.mem_of_getElem? (i := 150) rfl) rfl)⟩⟩
theorem clX9_415 : CL RX9 415 yX9_votersOf cX9_votersOf 2 (some .int) 1 false := ⟨(tb8 126 rfl rfl), (tb1 10 rfl rfl), by decide +kernel, Or.inl (tb8 123 rfl rfl), ⟨(tb8 125 rfl rfl), (tbs (List.mem_of_getElem? (i := 151) rfl) rfl)⟩⟩
theorem clX9_418 : CL RX9 418 yX9_leadOf cX9_leadOf 3 (some .int) 1 false := ⟨(tb8 134 rfl rfl), (tb1 10 rfl rfl), by decide +kernel, Or.inl (tb8 131 rfl rfl), ⟨(tb8 133 rfl rfl), (tbs (List.mem_of_getElem? (i := 152) rfl) rfl)⟩⟩
theorem flX9_421 : FL RX9 421 9 48 "I" false := ⟨RX9, TX9, 51, tyX9, rfl, by decide, inTX9, tyX9_ok, nmX9, rfl, rfl, rfl, Or.inl (tb6 136 rfl rfl)⟩
theorem clX9_425 : CL RX9 425 yX9_draws cX9_draws 2 (some .int) 1 false := ⟨(tb8 173 rfl rfl), (tb1 10 rfl rfl), by decide +kernel, Or.inl (tb8 170 rfl rfl), ⟨(tb8 172 rfl rfl), (tbs (List.mem_of_getElem? (i := 154) rfl) rfl)⟩⟩
theorem clX9_428 : CL RX9 428 yX9_isTime cX9_isTime 2 (some .boolean) 2 true := ⟨(tb8 165 rfl rfl), (tb1 10 rfl rfl), by decide +kernel, Or.inl (tb8 163 rfl rfl), (tb8 164 rfl rfl)⟩
theorem clX9_431 : CL RX9 431 yX9_timeGoes cX9_timeGoes 7 none 3 false := ⟨(tb8 169 rfl rfl), (tb1 10 rfl rfl), by decide +kernel, Or.inl (tb8 166 rfl rfl), ⟨(tb8 168 rfl rfl), (tbs (List.mem_of_getElem? (i := 153) rfl) rfl)⟩⟩
theorem clX9_435 : CL RX9 435 yX9_keepsRow cX9_keepsRow 6 (some .int) 4 false := ⟨(tb8 190 rfl rfl), (tb1 10 rfl rfl), by decide +kernel, Or.inl (tb8 187 rfl rfl), ⟨(tb8 189 rfl rfl), (tbs (List.mem_of_getElem? (i := 156) rfl) rfl)⟩⟩
theorem clX9_439 : CL RX9 439 yX9_keepsAll cX9_keepsAll 4 none 2 false := ⟨(tb8 186 rfl rfl), (tb1 10 rfl rfl), by decide +kernel, Or.inl (tb8 183 rfl rfl), ⟨(tb8 185 rfl rfl), (tbs (List.mem_of_getElem? (i := 155) rfl) rfl)⟩⟩
theorem clL_7 : CL RL 7 yX8_county cX8_county 2 (some .int) 1 false := ⟨(tb2 207 rfl rfl), (tb1 1 rfl rfl), by decide +kernel, Or.inl (tb2 204 rfl rfl), ⟨(tb2 205 rfl rfl), (tb2 206 rfl rfl)⟩⟩
theorem clL_15 : CL RL 15 yX8_law cX8_law 2 (some .int) 1 false := ⟨(tb3 184 rfl rfl), (tb1 1 rfl rfl), by decide +kernel, Or.inl (tb3 181 rfl rfl), ⟨(tb3 182 rfl rfl), (tb3 183 rfl rfl)⟩⟩
theorem clL_18 : CL RL 18 yX8_work cX8_work 2 (some .int) 1 false := ⟨(tb3 237 rfl rfl), (tb1 1 rfl rfl), by decide +kernel, Or.inl (tb3 234 rfl rfl), ⟨(tb3 235 rfl rfl), (tb3 236 rfl rfl)⟩⟩
theorem clL_21 : CL RL 21 yX8_book cX8_book 2 (some .int) 1 false := ⟨(tb4 167 rfl rfl), (tb1 1 rfl rfl), by decide +kernel, Or.inl (tb4 164 rfl rfl), ⟨(tb4 165 rfl rfl), (tb4 166 rfl rfl)⟩⟩
theorem clL_24 : CL RL 24 yX8_told cX8_told 2 (some .int) 1 false := ⟨(tb4 202 rfl rfl), (tb1 1 rfl rfl), by decide +kernel, Or.inl (tb4 199 rfl rfl), ⟨(tb4 200 rfl rfl), (tb4 201 rfl rfl)⟩⟩
theorem clL_27 : CL RL 27 yX8_parish cX8_parish 3 (some .int) 2 false := ⟨(tb4 225 rfl rfl), (tb1 1 rfl rfl), by decide +kernel, Or.inl (tb4 222 rfl rfl), ⟨(tb4 223 rfl rfl), (tb4 224 rfl rfl)⟩⟩
theorem clL_33 : CL RL 33 yX8_ward cX8_ward 3 (some .int) 2 false := ⟨(tb5 18 rfl rfl), (tb1 1 rfl rfl), by decide +kernel, Or.inl (tb5 15 rfl rfl), ⟨(tb5 16 rfl rfl), (tb5 17 rfl rfl)⟩⟩
theorem clL_36 : CL RL 36 yX8_side cX8_side 3 (some .int) 2 false := ⟨(tb5 42 rfl rfl), (tb1 1 rfl rfl), by decide +kernel, Or.inl (tb5 39 rfl rfl), ⟨(tb5 40 rfl rfl), (tb5 41 rfl rfl)⟩⟩
theorem clL_39 : CL RL 39 yX8_cost cX8_cost 3 (some .int) 2 false := ⟨(tb5 59 rfl rfl), (tb1 1 rfl rfl), by decide +kernel, Or.inl (tb5 56 rfl rfl), ⟨(tb5 57 rfl rfl), (tb5 58 rfl rfl)⟩⟩
theorem clL_42 : CL RL 42 yX8_would cX8_would 9 (some .int) 8 false := ⟨(tb5 67 rfl rfl), (tb1 1 rfl rfl), by decide +kernel, Or.inl (tb5 64 rfl rfl), ⟨(tb5 65 rfl rfl), (tb5 66 rfl rfl)⟩⟩
theorem clL_46 : CL RL 46 yX8_may cX8_may 2 (some .int) 1 false := ⟨(tb5 76 rfl rfl), (tb1 1 rfl rfl), by decide +kernel, Or.inl (tb5 73 rfl rfl), ⟨(tb5 74 rfl rfl), (tb5 75 rfl rfl)⟩⟩
theorem clL_49 : CL RL 49 yX8_best cX8_best 3 (some .int) 2 false := ⟨(tb5 84 rfl rfl), (tb1 1 rfl rfl), by decide +kernel, Or.inl (tb5 81 rfl rfl), ⟨(tb5 82 rfl rfl), (tb5 83 rfl rfl)⟩⟩
theorem clL_52 : CL RL 52 yX8_redrawn cX8_redrawn 3 (some .int) 2 false := ⟨(tb5 92 rfl rfl), (tb1 1 rfl rfl), by decide +kernel, Or.inl (tb5 89 rfl rfl), ⟨(tb5 90 rfl rfl), (tb5 91 rfl rfl)⟩⟩
theorem clL_55 : CL RL 55 yX8_turned cX8_turned 2 (some .int) 1 false := ⟨(tb5 107 rfl rfl), (tb1 1 rfl rfl), by decide +kernel, Or.inl (tb5 104 rfl rfl), ⟨(tb5 105 rfl rfl), (tb5 106 rfl rfl)⟩⟩
theorem clL_58 : CL RL 58 yX8_reigns cX8_reigns 3 (some .int) 2 false := ⟨(tb5 114 rfl rfl), (tb1 1 rfl rfl), by decide +kernel, Or.inl (tb5 111 rfl rfl), ⟨(tb5 112 rfl rfl), (tb5 113 rfl rfl)⟩⟩
theorem clL_61 : CL RL 61 yX8_round cX8_round 2 (some .int) 1 false := ⟨(tb5 136 rfl rfl), (tb1 1 rfl rfl), by decide +kernel, Or.inl (tb5 133 rfl rfl), ⟨(tb5 134 rfl rfl), (tb5 135 rfl rfl)⟩⟩
theorem clL_64 : CL RL 64 yX8_swing cX8_swing 3 (some .int) 1 false := ⟨(tb5 153 rfl rfl), (tb1 1 rfl rfl), by decide +kernel, Or.inl (tb5 150 rfl rfl), ⟨(tb5 151 rfl rfl), (tb5 152 rfl rfl)⟩⟩
theorem clL_67 : CL RL 67 yX8_waste cX8_waste 3 (some .int) 2 false := ⟨(tb5 164 rfl rfl), (tb1 1 rfl rfl), by decide +kernel, Or.inl (tb5 161 rfl rfl), ⟨(tb5 162 rfl rfl), (tb5 163 rfl rfl)⟩⟩
theorem clL_70 : CL RL 70 yX8_fits cX8_fits 3 (some .int) 1 false := ⟨(tb5 186 rfl rfl), (tb1 1 rfl rfl), by decide +kernel, Or.inl (tb5 183 rfl rfl), ⟨(tb5 184 rfl rfl), (tb5 185 rfl rfl)⟩⟩
theorem clL_73 : CL RL 73 yX8_look cX8_look 6 (some .int) 1 false := ⟨(tb5 206 rfl rfl), (tb1 1 rfl rfl), by decide +kernel, Or.inl (tb5 203 rfl rfl), ⟨(tb5 204 rfl rfl), (tb5 205 rfl rfl)⟩⟩
theorem clL_76 : CL RL 76 yX8_recount cX8_recount 8 (some .long) 4 false := ⟨(tb5 220 rfl rfl), (tb1 1 rfl rfl), by decide +kernel, Or.inl (tb5 217 rfl rfl), ⟨(tb5 218 rfl rfl), (tb5 219 rfl rfl)⟩⟩
theorem clL_80 : CL RL 80 yX8_smallest cX8_smallest 7 (some .int) 1 false := ⟨(tb5 234 rfl rfl), (tb1 1 rfl rfl), by decide +kernel, Or.inl (tb5 231 rfl rfl), ⟨(tb5 232 rfl rfl), (tb5 233 rfl rfl)⟩⟩
theorem clL_83 : CL RL 83 yX8_closest cX8_closest 6 (some .int) 1 false := ⟨(tb6 2 rfl rfl), (tb1 1 rfl rfl), by decide +kernel, Or.inl (tb5 239 rfl rfl), ⟨(tb6 0 rfl rfl), (tb6 1 rfl rfl)⟩⟩
theorem clL_86 : CL RL 86 yX8_tide cX8_tide 2 (some .int) 1 false := ⟨(tb6 11 rfl rfl), (tb1 1 rfl rfl), by decide +kernel, Or.inl (tb6 8 rfl rfl), ⟨(tb6 9 rfl rfl), (tb6 10 rfl rfl)⟩⟩
theorem clL_89 : CL RL 89 yX8_flip cX8_flip 2 (some .int) 1 false := ⟨(tb6 20 rfl rfl), (tb1 1 rfl rfl), by decide +kernel, Or.inl (tb6 17 rfl rfl), ⟨(tb6 18 rfl rfl), (tb6 19 rfl rfl)⟩⟩
theorem clL_92 : CL RL 92 yX8_cluster cX8_cluster 2 (some .int) 1 false := ⟨(tb6 27 rfl rfl), (tb1 1 rfl rfl), by decide +kernel, Or.inl (tb6 24 rfl rfl), ⟨(tb6 25 rfl rfl), (tb6 26 rfl rfl)⟩⟩
theorem clL_95 : CL RL 95 yX8_strongest cX8_strongest 7 (some .int) 2 false := ⟨(tb6 35 rfl rfl), (tb1 1 rfl rfl), by decide +kernel, Or.inl (tb6 32 rfl rfl), ⟨(tb6 33 rfl rfl), (tb6 34 rfl rfl)⟩⟩
theorem clL_98 : CL RL 98 yX8_time cX8_time 5 (some .int) 4 false := ⟨(tb6 42 rfl rfl), (tb1 1 rfl rfl), by decide +kernel, Or.inl (tb6 39 rfl rfl), ⟨(tb6 40 rfl rfl), (tb6 41 rfl rfl)⟩⟩
theorem clL_102 : CL RL 102 yX8_span cX8_span 11 (some .int) 6 false := ⟨(tb6 64 rfl rfl), (tb1 1 rfl rfl), by decide +kernel, Or.inl (tb6 61 rfl rfl), ⟨(tb6 62 rfl rfl), (tb6 63 rfl rfl)⟩⟩
theorem clL_106 : CLI RL 106 yX8_init cX8_init 1 0 := ⟨(tb1 26 rfl rfl), (tb1 1 rfl rfl), by decide +kernel, Or.inl (tb1 24 rfl rfl), (tb1 25 rfl rfl), rfl⟩
theorem clL_109 : CLI RL 109 yX9_init cX9_init 1 0 := ⟨(tb6 74 rfl rfl), (tb1 10 rfl rfl), by decide +kernel, Or.inl (tb6 72 rfl rfl), (tb6 73 rfl rfl), rfl⟩
theorem clL_110 : CL RL 110 yX8_feed cX8_feed 6 (some .int) 5 false := ⟨(tb2 110 rfl rfl), (tb1 1 rfl rfl), by decide +kernel, Or.inl (tb2 107 rfl rfl), ⟨(tb2 108 rfl rfl), (tb2 109 rfl rfl)⟩⟩
theorem clL_114 : CL RL 114 yX9_feed cX9_feed 8 (some .int) 5 false := ⟨(tb7 6 rfl rfl), (tb1 10 rfl rfl), by decide +kernel, Or.inl (tb7 3 rfl rfl), ⟨(tb7 4 rfl rfl), (tb7 5 rfl rfl)⟩⟩
theorem clL_120 : CL RL 120 yX9_county cX9_county 4 (some .int) 1 false := ⟨(tb7 14 rfl rfl), (tb1 10 rfl rfl), by decide +kernel, Or.inl (tb7 11 rfl rfl), ⟨(tb7 12 rfl rfl), (tb7 13 rfl rfl)⟩⟩
theorem clL_121 : CL RL 121 yX9_thrown cX9_thrown 1 (some .int) 0 false := ⟨(tb6 69 rfl rfl), (tb1 10 rfl rfl), by decide +kernel, Or.inl (tb6 66 rfl rfl), ⟨(tb6 67 rfl rfl), (tb6 68 rfl rfl)⟩⟩
theorem clL_127 : CL RL 127 yX9_law cX9_law 3 (some .int) 1 false := ⟨(tb7 92 rfl rfl), (tb1 10 rfl rfl), by decide +kernel, Or.inl (tb7 89 rfl rfl), ⟨(tb7 90 rfl rfl), (tb7 91 rfl rfl)⟩⟩
theorem clL_130 : CL RL 130 yX9_work cX9_work 4 (some .int) 1 false := ⟨(tb7 133 rfl rfl), (tb1 10 rfl rfl), by decide +kernel, Or.inl (tb7 130 rfl rfl), ⟨(tb7 131 rfl rfl), (tb7 132 rfl rfl)⟩⟩
theorem clL_133 : CL RL 133 yX9_book cX9_book 6 (some .int) 1 false := ⟨(tb8 11 rfl rfl), (tb1 10 rfl rfl), by decide +kernel, Or.inl (tb8 8 rfl rfl), ⟨(tb8 9 rfl rfl), (tb8 10 rfl rfl)⟩⟩
theorem clL_134 : CL RL 134 yX8_fault cX8_fault 1 (some .int) 0 false := ⟨(tb2 121 rfl rfl), (tb1 1 rfl rfl), by decide +kernel, Or.inl (tb2 118 rfl rfl), ⟨(tb2 119 rfl rfl), (tb2 120 rfl rfl)⟩⟩
theorem clL_137 : CL RL 137 yX9_fault cX9_fault 1 (some .int) 0 false := ⟨(tb7 10 rfl rfl), (tb1 10 rfl rfl), by decide +kernel, Or.inl (tb7 7 rfl rfl), ⟨(tb7 8 rfl rfl), (tb7 9 rfl rfl)⟩⟩
theorem clL_138 : CL RL 138 yX8_undo cX8_undo 1 (some .int) 0 false := ⟨(tb2 125 rfl rfl), (tb1 1 rfl rfl), by decide +kernel, Or.inl (tb2 122 rfl rfl), ⟨(tb2 123 rfl rfl), (tb2 124 rfl rfl)⟩⟩
theorem clL_141 : CL RL 141 yX9_undo cX9_undo 2 (some .int) 0 false := ⟨(tb8 15 rfl rfl), (tb1 10 rfl rfl), by decide +kernel, Or.inl (tb8 12 rfl rfl), ⟨(tb8 13 rfl rfl), (tb8 14 rfl rfl)⟩⟩
theorem clL_144 : CL RL 144 yX9_told cX9_told 4 (some .int) 1 false := ⟨(tb8 19 rfl rfl), (tb1 10 rfl rfl), by decide +kernel, Or.inl (tb8 16 rfl rfl), ⟨(tb8 17 rfl rfl), (tb8 18 rfl rfl)⟩⟩
theorem clL_148 : CL RL 148 yX9_parish cX9_parish 3 (some .int) 2 false := ⟨(tb8 26 rfl rfl), (tb1 10 rfl rfl), by decide +kernel, Or.inl (tb8 23 rfl rfl), ⟨(tb8 24 rfl rfl), (tb8 25 rfl rfl)⟩⟩
theorem clL_151 : CL RL 151 yX9_ward cX9_ward 4 (some .int) 2 false := ⟨(tb8 34 rfl rfl), (tb1 10 rfl rfl), by decide +kernel, Or.inl (tb8 31 rfl rfl), ⟨(tb8 32 rfl rfl), (tb8 33 rfl rfl)⟩⟩
theorem clL_154 : CL RL 154 yX9_side cX9_side 5 (some .int) 2 false := ⟨(tb8 38 rfl rfl), (tb1 10 rfl rfl), by decide +kernel, Or.inl (tb8 35 rfl rfl), ⟨(tb8 36 rfl rfl), (tb8 37 rfl rfl)⟩⟩
theorem clL_157 : CL RL 157 yX9_cost cX9_cost 3 (some .int) 2 false := ⟨(tb8 42 rfl rfl), (tb1 10 rfl rfl), by decide +kernel, Or.inl (tb8 39 rfl rfl), ⟨(tb8 40 rfl rfl), (tb8 41 rfl rfl)⟩⟩
theorem clL_161 : CL RL 161 yX9_would cX9_would 9 (some .int) 8 false := ⟨(tb8 46 rfl rfl), (tb1 10 rfl rfl), by decide +kernel, Or.inl (tb8 43 rfl rfl), ⟨(tb8 44 rfl rfl), (tb8 45 rfl rfl)⟩⟩
theorem clL_164 : CL RL 164 yX9_may cX9_may 4 (some .int) 1 false := ⟨(tb8 50 rfl rfl), (tb1 10 rfl rfl), by decide +kernel, Or.inl (tb8 47 rfl rfl), ⟨(tb8 48 rfl rfl), (tb8 49 rfl rfl)⟩⟩
theorem clL_167 : CL RL 167 yX9_best cX9_best 4 (some .int) 2 false := ⟨(tb8 54 rfl rfl), (tb1 10 rfl rfl), by decide +kernel, Or.inl (tb8 51 rfl rfl), ⟨(tb8 52 rfl rfl), (tb8 53 rfl rfl)⟩⟩
theorem clL_170 : CL RL 170 yX9_redrawn cX9_redrawn 3 (some .int) 2 false := ⟨(tb8 58 rfl rfl), (tb1 10 rfl rfl), by decide +kernel, Or.inl (tb8 55 rfl rfl), ⟨(tb8 56 rfl rfl), (tb8 57 rfl rfl)⟩⟩
theorem clL_173 : CL RL 173 yX9_turned cX9_turned 2 (some .int) 1 false := ⟨(tb8 66 rfl rfl), (tb1 10 rfl rfl), by decide +kernel, Or.inl (tb8 63 rfl rfl), ⟨(tb8 64 rfl rfl), (tb8 65 rfl rfl)⟩⟩
theorem clL_176 : CL RL 176 yX9_reigns cX9_reigns 6 (some .int) 2 false := ⟨(tb8 74 rfl rfl), (tb1 10 rfl rfl), by decide +kernel, Or.inl (tb8 71 rfl rfl), ⟨(tb8 72 rfl rfl), (tb8 73 rfl rfl)⟩⟩
theorem clL_179 : CL RL 179 yX9_round cX9_round 4 (some .int) 1 false := ⟨(tb8 78 rfl rfl), (tb1 10 rfl rfl), by decide +kernel, Or.inl (tb8 75 rfl rfl), ⟨(tb8 76 rfl rfl), (tb8 77 rfl rfl)⟩⟩
theorem clL_182 : CL RL 182 yX9_swing cX9_swing 3 (some .int) 1 false := ⟨(tb8 86 rfl rfl), (tb1 10 rfl rfl), by decide +kernel, Or.inl (tb8 83 rfl rfl), ⟨(tb8 84 rfl rfl), (tb8 85 rfl rfl)⟩⟩
theorem clL_185 : CL RL 185 yX9_waste cX9_waste 7 (some .int) 2 false := ⟨(tb8 90 rfl rfl), (tb1 10 rfl rfl), by decide +kernel, Or.inl (tb8 87 rfl rfl), ⟨(tb8 88 rfl rfl), (tb8 89 rfl rfl)⟩⟩
theorem clL_188 : CL RL 188 yX9_fits cX9_fits 5 (some .int) 1 false := ⟨(tb8 97 rfl rfl), (tb1 10 rfl rfl), by decide +kernel, Or.inl (tb8 94 rfl rfl), ⟨(tb8 95 rfl rfl), (tb8 96 rfl rfl)⟩⟩
theorem clL_191 : CL RL 191 yX9_look cX9_look 6 (some .int) 1 false := ⟨(tb8 109 rfl rfl), (tb1 10 rfl rfl), by decide +kernel, Or.inl (tb8 106 rfl rfl), ⟨(tb8 107 rfl rfl), (tb8 108 rfl rfl)⟩⟩
theorem clL_195 : CL RL 195 yX9_recount cX9_recount 10 (some .long) 4 false := ⟨(tb8 117 rfl rfl), (tb1 10 rfl rfl), by decide +kernel, Or.inl (tb8 114 rfl rfl), ⟨(tb8 115 rfl rfl), (tb8 116 rfl rfl)⟩⟩
theorem clL_198 : CL RL 198 yX9_smallest cX9_smallest 5 (some .int) 1 false := ⟨(tb8 122 rfl rfl), (tb1 10 rfl rfl), by decide +kernel, Or.inl (tb8 119 rfl rfl), ⟨(tb8 120 rfl rfl), (tb8 121 rfl rfl)⟩⟩
theorem clL_201 : CL RL 201 yX9_closest cX9_closest 4 (some .int) 1 false := ⟨(tb8 130 rfl rfl), (tb1 10 rfl rfl), by decide +kernel, Or.inl (tb8 127 rfl rfl), ⟨(tb8 128 rfl rfl), (tb8 129 rfl rfl)⟩⟩
theorem clL_202 : CL RL 202 yX8_border cX8_border 3 (some .int) 0 false := ⟨(tb2 150 rfl rfl), (tb1 1 rfl rfl), by decide +kernel, Or.inl (tb2 147 rfl rfl), ⟨(tb2 148 rfl rfl), (tb2 149 rfl rfl)⟩⟩
theorem clL_205 : CL RL 205 yX9_border cX9_border 3 (some .int) 0 false := ⟨(tb8 138 rfl rfl), (tb1 10 rfl rfl), by decide +kernel, Or.inl (tb8 135 rfl rfl), ⟨(tb8 136 rfl rfl), (tb8 137 rfl rfl)⟩⟩
theorem clL_208 : CL RL 208 yX9_tide cX9_tide 2 (some .int) 1 false := ⟨(tb8 142 rfl rfl), (tb1 10 rfl rfl), by decide +kernel, Or.inl (tb8 139 rfl rfl), ⟨(tb8 140 rfl rfl), (tb8 141 rfl rfl)⟩⟩
theorem clL_211 : CL RL 211 yX9_flip cX9_flip 2 (some .int) 1 false := ⟨(tb8 146 rfl rfl), (tb1 10 rfl rfl), by decide +kernel, Or.inl (tb8 143 rfl rfl), ⟨(tb8 144 rfl rfl), (tb8 145 rfl rfl)⟩⟩
theorem clL_212 : CL RL 212 yX8_lone cX8_lone 4 (some .int) 0 false := ⟨(tb2 158 rfl rfl), (tb1 1 rfl rfl), by decide +kernel, Or.inl (tb2 155 rfl rfl), ⟨(tb2 156 rfl rfl), (tb2 157 rfl rfl)⟩⟩
theorem clL_215 : CL RL 215 yX9_lone cX9_lone 3 (some .int) 0 false := ⟨(tb8 154 rfl rfl), (tb1 10 rfl rfl), by decide +kernel, Or.inl (tb8 151 rfl rfl), ⟨(tb8 152 rfl rfl), (tb8 153 rfl rfl)⟩⟩
theorem clL_218 : CL RL 218 yX9_cluster cX9_cluster 6 (some .int) 1 false := ⟨(tb8 158 rfl rfl), (tb1 10 rfl rfl), by decide +kernel, Or.inl (tb8 155 rfl rfl), ⟨(tb8 156 rfl rfl), (tb8 157 rfl rfl)⟩⟩
theorem clL_221 : CL RL 221 yX9_strongest cX9_strongest 7 (some .int) 2 false := ⟨(tb8 150 rfl rfl), (tb1 10 rfl rfl), by decide +kernel, Or.inl (tb8 147 rfl rfl), ⟨(tb8 148 rfl rfl), (tb8 149 rfl rfl)⟩⟩
theorem clL_224 : CL RL 224 yX9_time cX9_time 5 (some .int) 4 false := ⟨(tb8 162 rfl rfl), (tb1 10 rfl rfl), by decide +kernel, Or.inl (tb8 159 rfl rfl), ⟨(tb8 160 rfl rfl), (tb8 161 rfl rfl)⟩⟩
theorem clL_228 : CL RL 228 yX9_span cX9_span 12 (some .int) 6 false := ⟨(tb8 178 rfl rfl), (tb1 10 rfl rfl), by decide +kernel, Or.inl (tb8 175 rfl rfl), ⟨(tb8 176 rfl rfl), (tb8 177 rfl rfl)⟩⟩
theorem clL_229 : CL RL 229 yX8_image cX8_image 1 (some .int) 0 false := ⟨(tb2 172 rfl rfl), (tb1 1 rfl rfl), by decide +kernel, Or.inl (tb2 169 rfl rfl), ⟨(tb2 170 rfl rfl), (tb2 171 rfl rfl)⟩⟩
theorem clL_232 : CL RL 232 yX9_image cX9_image 1 (some .int) 0 false := ⟨(tb8 182 rfl rfl), (tb1 10 rfl rfl), by decide +kernel, Or.inl (tb8 179 rfl rfl), ⟨(tb8 180 rfl rfl), (tb8 181 rfl rfl)⟩⟩
theorem clL_233 : CL RL 233 yX8_restore cX8_restore 1 (some .int) 0 false := ⟨(tb2 186 rfl rfl), (tb1 1 rfl rfl), by decide +kernel, Or.inl (tb2 183 rfl rfl), ⟨(tb2 184 rfl rfl), (tb2 185 rfl rfl)⟩⟩
theorem clL_236 : CL RL 236 yX9_restore cX9_restore 1 (some .int) 0 false := ⟨(tb8 194 rfl rfl), (tb1 10 rfl rfl), by decide +kernel, Or.inl (tb8 191 rfl rfl), ⟨(tb8 192 rfl rfl), (tb8 193 rfl rfl)⟩⟩
theorem clL_237 : CL RL 237 yX8_status cX8_status 2 (some .int) 1 false := ⟨(tb2 195 rfl rfl), (tb1 1 rfl rfl), by decide +kernel, Or.inl (tb2 192 rfl rfl), ⟨(tb2 193 rfl rfl), (tb2 194 rfl rfl)⟩⟩
theorem clL_240 : CL RL 240 yX9_status cX9_status 2 (some .int) 1 false := ⟨(tb8 198 rfl rfl), (tb1 10 rfl rfl), by decide +kernel, Or.inl (tb8 195 rfl rfl), ⟨(tb8 196 rfl rfl), (tb8 197 rfl rfl)⟩⟩
theorem clL_241 : CL RL 241 yX8_count cX8_count 2 (some .int) 1 false := ⟨(tb2 199 rfl rfl), (tb1 1 rfl rfl), by decide +kernel, Or.inl (tb2 196 rfl rfl), ⟨(tb2 197 rfl rfl), (tb2 198 rfl rfl)⟩⟩
theorem clL_244 : CL RL 244 yX9_count cX9_count 2 (some .int) 1 false := ⟨(tb8 202 rfl rfl), (tb1 10 rfl rfl), by decide +kernel, Or.inl (tb8 199 rfl rfl), ⟨(tb8 200 rfl rfl), (tb8 201 rfl rfl)⟩⟩
