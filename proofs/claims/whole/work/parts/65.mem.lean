/-! what the tables say that the law's start wants -/
theorem mi_0 : Cond.instantiable RX0 4 ∈ lw_tbl := by decide +kernel
theorem mi_1 : Cond.instantiable RX1 6 ∈ lw_tbl := by decide +kernel
theorem mi_2 : Cond.instantiable RX2 5 ∈ lw_tbl := by decide +kernel
theorem mi_3 : Cond.instantiable RX3 2 ∈ lw_tbl := by decide +kernel
theorem mi_4 : Cond.instantiable RX4 3 ∈ lw_tbl := by decide +kernel
theorem mi_5 : Cond.instantiable RX5 5 ∈ lw_tbl := by decide +kernel
theorem mi_6 : Cond.instantiable RX6 3 ∈ lw_tbl := by decide +kernel
theorem mi_7 : Cond.instantiable RX7 3 ∈ lw_tbl := by decide +kernel
theorem mi_8 : Cond.instantiable RX8 2 ∈ lw_tbl := by decide +kernel
theorem mi_9 : Cond.instantiable RX9 19 ∈ lw_tbl := by decide +kernel
theorem mi_10 : Cond.instantiable RX10 9 ∈ lw_tbl := by decide +kernel
theorem mi_11 : Cond.instantiable RX11 9 ∈ lw_tbl := by decide +kernel
theorem mi_12 : Cond.instantiable RX12 26 ∈ lw_tbl := by decide +kernel
theorem cz_in : ∀ q ∈ cz_list, Cond.methodLinkNest q.1 q.2.1 q.2.2 RX11 ∈ lw_tbl := by decide +kernel
theorem ac_i : Cond.arrayClass .int ∈ lw_tbl := by decide +kernel
theorem ac_z : Cond.arrayClass .boolean ∈ lw_tbl := by decide +kernel
theorem ao_5 : Cond.arrayOver (.object RX5) ∈ lw_tbl := by decide +kernel
theorem ao_4 : Cond.arrayOver (.object RX4) ∈ lw_tbl := by decide +kernel
theorem ao_a : Cond.arrayOver (.array .int) ∈ lw_tbl := by decide +kernel
theorem ls_0 : Cond.laysStatic "LeftShoes$World" "BASE_MINUTES" "[I" ∈ lw_tbl := by decide +kernel
theorem ls_1 : Cond.laysStatic "LeftShoes$World" "MUD_MINUTES" "[I" ∈ lw_tbl := by decide +kernel
theorem ls_2 : Cond.laysStatic "LeftShoes$Walk" "TIMES_A" "[I" ∈ lw_tbl := by decide +kernel
theorem ls_3 : Cond.laysStatic "LeftShoes$Walk" "TIMES_B" "[I" ∈ lw_tbl := by decide +kernel
theorem ls_4 : Cond.laysStatic "LeftShoes$Walk" "TIMES_C" "[I" ∈ lw_tbl := by decide +kernel
theorem in_w : Cond.initialized "LeftShoes$World" ∈ lw_tbl := by decide +kernel
theorem in_k : Cond.initialized "LeftShoes$Walk" ∈ lw_tbl := by decide +kernel
theorem zn_RX0 : Cond.methodLinkNest RX0 27 yX11_isWithin RX11 ∈ lw_tbl := by decide +kernel
theorem zn_RX6 : Cond.methodLinkNest RX6 19 yX11_isWithin RX11 ∈ lw_tbl := by decide +kernel
theorem zn_RX8 : Cond.methodLinkNest RX8 24 yX11_isWithin RX11 ∈ lw_tbl := by decide +kernel
theorem zn_RX10 : Cond.methodLinkNest RX10 57 yX11_isWithin RX11 ∈ lw_tbl := by decide +kernel
theorem st_tab {s : State} {args : Array Value} {A : Nat → Prop} {C n : String} {v0 v1 v2 v3 : Int32} (hl : (Cond.laysStatic C n "[I").before args s = true) (hini : (Cond.initialized C).before args s = true) (harr : (Cond.arrayOf (.static C n "[I") .int).before args s = true) (hlen : (Cond.eq (.length (.static C n "[I")) (.int 4)).before args s = true) (h0 : (Cond.eq (.elem (.static C n "[I") (.int 0)) (.int v0)).before args s = true) (h1 : (Cond.eq (.elem (.static C n "[I") (.int 1)) (.int v1)).before args s = true) (h2 : (Cond.eq (.elem (.static C n "[I") (.int 2)) (.int v2)).before args s = true) (h3 : (Cond.eq (.elem (.static C n "[I") (.int 3)) (.int v3)).before args s = true) (hA : ∀ a, a < s.heap.size → ¬ A a) : mm_Zt C n [v0, v1, v2, v3] A s s.heap := by
  obtain ⟨t, ht, hT⟩ := va_Tof (tm := .static C n "[I") (ty := .int) (N := 4) (f := fun j => .int (mm_tab [v0, v1, v2, v3] j)) (A := A) (by omega) harr (va_eqt hlen) (fun j hj => by
    rcases (show j = 0 ∨ j = 1 ∨ j = 2 ∨ j = 3 by omega) with rfl | rfl | rfl | rfl
    · exact va_eqt h0
    · exact va_eqt h1
    · exact va_eqt h2
    · exact va_eqt h3) hA
  exact ⟨t, va_Zref hl hini ht hA, hT⟩
theorem cy_p {s : State} {args : Array Value} {ty : FieldType} (h : (Cond.arrayClass ty).before args s = true) (hty : ty = .int ∨ ty = .boolean) : ∃ cA, ArrOfT s cA ty ∧ va_RA s cA ty := by
  obtain ⟨c, k, comp, h1, h2, h3⟩ := Cond.arrayClass_spec h
  refine ⟨c, fun n z => ⟨(fun q hq => by cases hq), k, h2, comp, h3⟩, ?_⟩
  rcases hty with rfl | rfl <;> exact h1
theorem cy_o {s : State} {args : Array Value} {C : String} (h : (Cond.arrayOver (.object C)).before args s = true) : ∃ cA, ArrOfT s cA (.object C) ∧ va_RA s cA (.object C) := by
  obtain ⟨comp, c, k, h1, h2, h3, h4, h5⟩ := Cond.arrayOver_spec h
  exact ⟨c, fun n z => ⟨(fun q hq => by cases hq), k, h3, comp, h4⟩, k, comp, h3, h4, h1, h5⟩
theorem cy_a {s : State} {args : Array Value} (h : (Cond.arrayOver (.array .int)).before args s = true) : ∃ cA, ArrOfT s cA (.array .int) ∧ va_RA s cA (.array .int) := by
  obtain ⟨comp, c, k, h1, h2, h3, h4, h5⟩ := arrayOverA_spec h
  exact ⟨c, fun n z => ⟨(fun q hq => by cases hq), k, h3, comp, h4⟩, h5⟩
theorem D_left {A : Nat → Prop} {w1 w2 : va_W} (h : va_D A (w1 ++ w2)) : va_D A w1 := by
  have h1 := AN_of h
  rw [List.map_append] at h1
  exact D_of ⟨(List.pairwise_append.mp h1.1).1, fun a ha => h1.2 a (List.mem_append_left _ ha)⟩
theorem D_right {A : Nat → Prop} {w1 w2 : va_W} (h : va_D A (w1 ++ w2)) : va_D A w2 := by
  have h1 := AN_of h
  rw [List.map_append] at h1
  exact D_of ⟨(List.pairwise_append.mp h1.1).2.1, fun a ha => h1.2 a (List.mem_append_right _ ha)⟩
theorem mm_A_mem {T : List Shp} {ad : Nat → Nat} {cy : Nat → ClassId} {g : Mm} {q : Nat} (h : mm_A T ad q) : q ∈ (mm_L T ad cy g).map Prod.fst := by
  obtain ⟨k, hk, rfl⟩ := h
  rw [mm_L_fst]
  exact List.mem_map.mpr ⟨k, List.mem_range.mpr hk, rfl⟩
