abbrev rm_X10_become : Room := ({ frames := 2, cells := 0, slots := 0, locals := 82 } : Room)
set_option maxHeartbeats 4000000 in
set_option maxRecDepth 100000 in
theorem c_X10_become (l : Launch) (D : va_G) (ad : Nat → Nat) (cy : Nat → ClassId) (p0 : Nat) (q1 : Nat) (g : Mm) (hp : TC[p0]? = some sX10) (hq1 : TC[q1]? = some sX10) (g' : Mm) (hf : f_X10_become p0 q1 g = some g') : Met l yX10_become wsX10_become rm_X10_become (va_Pc [.ref (ad p0), .ref (ad q1)] (mm_pre mm_Z D TC ad cy g)) (mm_Qv D TC ad cy g') 0 0 (mm_A TC ad) := by
  refine Met.ofW (cc := cX10_become) (maxL := 3) (ret := none) (by decide) rfl ?_
  intro p e s m args below meth c s₁ B hml hv
  obtain ⟨hargs, hP, hK, hI, hZ⟩ := hv
  have hx := B.exec
  have hb := B.bytes
  have hr := B.returns
  have hts := atoms_spec (ws := wsX10_become) B.pre
  have hown : s.vm.findClass RX10 = some m.cls := findClass_of_methodNamed B.named
  have hlocks := B.notSynchronized
  have hw0 := hts (.fieldLink RX10 53 "LeftShoes$World" "peopleCount" "I") (by decide +kernel)
  have hiX10 : ∀ w ∈ wsX100, w ∈ wsX10_become := by decide +kernel
  have hw2 := hts (.fieldLink RX10 9 "LeftShoes$World" "purses" "[I") (by decide +kernel)
  have hw3 := hts (.methodLink RX10 130 arraycopyName) (by decide +kernel)
  have hw4 := hts (.native arraycopyName) (by decide +kernel)
  have hw5 := hts (.static arraycopyName) (by decide +kernel)
  have hw6 := hts (.initialized "java/lang/System") (by decide +kernel)
  have hw7 := hts (.fieldLink RX10 15 "LeftShoes$World" "feet" "[I") (by decide +kernel)
  have hw8 := hts (.fieldLink RX10 61 "LeftShoes$World" "shoeCount" "I") (by decide +kernel)
  have hw9 := hts (.fieldLink RX10 27 "LeftShoes$World" "levy" "LLeftShoes$Tax;") (by decide +kernel)
  have hw10 := hts (.fieldLink RX10 34 "LeftShoes$World" "way" "LLeftShoes$Road;") (by decide +kernel)
  have hw11 := hts (.fieldLink RX10 41 "LeftShoes$World" "fords" "LLeftShoes$Fords;") (by decide +kernel)
  have hw12 := hts (.fieldLink RX10 48 "LeftShoes$World" "buyers" "LLeftShoes$Buyers;") (by decide +kernel)
  have hw13 := hts (.fieldLink RX10 20 "LeftShoes$World" "shoes" "[LLeftShoes$Shoe;") (by decide +kernel)
  rw [show entryFrame m args 3 = F0 m 0 ((lg_sl ([.ref (ad p0), .ref (ad q1)] : List Value) ++ List.replicate (3 - (lg_sl ([.ref (ad p0), .ref (ad q1)] : List Value)).length) Slot.unset).toArray) [] from by rw [hargs]; exact lg_entry_eq m _ _]
  have hl := lv_entry ([.ref (ad p0), .ref (ad q1)] : List Value) (n := 3) (by exact Nat.le_of_ble_eq_true rfl)
  generalize (lg_sl ([.ref (ad p0), .ref (ad q1)] : List Value) ++ List.replicate (3 - (lg_sl ([.ref (ad p0), .ref (ad q1)] : List Value)).length) Slot.unset).toArray = ls at hl ⊢
  have hl : lv_has ls 3 [(0, .ref (ad p0)), (1, .ref (ad q1))] := by exact hl
  have hS : va_S (mm_A TC ad) s.heap s.heap [] := va_S.rf
  clear hargs
  have hc46 : ∀ (n : Nat), ∀ (x2 : Int32) (g : Mm) (H : Heap) (locs : List Loc) (ls : Array Slot), va_P D vwCl (mm_L TC ad cy g) H → va_S (mm_A TC ad) s.heap H locs → lv_has ls 3 [(0, .ref (ad p0)), (1, .ref (ad q1)), (2, .int x2)] → f_X10_become_c46 p0 q1 n x2 g = some g' → W p l e (headSpec wsX10_become (rm_X10_become)).room s m args below meth c H locs 0 0 (MQ below (mm_Qv D TC ad cy g') args s 0 0 (mm_A TC ad)) (F0 m 46 ls []) := by
    intro n
    induction n with
    | zero =>
      intro x2 g H locs ls hP hS hl hf
      rw [f_X10_become_c46] at hf
      cases hf
    | succ n ih =>
      intro x2 g H locs ls hP hS hl hf
      rw [f_X10_become_c46] at hf
      refine lv_iload_n hx hb dX10_become_46 rfl (lv_at hl 2 rfl) ?_
      refine lv_bipush (v := 16) hx hb dX10_become_47 (by decide) ?_
      refine lv_icmp_ge (tgt := 73) hx hb dX10_become_49 (by decide) (fun c_5 => ?_) (fun c_5 => ?_)
      · replace hf := ite_t c_5 hf
        refine lv_aload_n hx hb dX10_become_73 rfl (lv_at hl 0 rfl) ?_
        refine mq_getr (Tt := TX10) (N := 9) (C := RX10) hx hb hts hiX10 hown hK hP hp rfl 5 20 (by decide) rfl hw9 (fun _ h9 => h9) dX10_become_74 ?_
        refine lv_aload_n hx hb dX10_become_77 rfl (lv_at hl 1 rfl) ?_
        refine mq_getr (Tt := TX10) (N := 9) (C := RX10) hx hb hts hiX10 hown hK hP hq1 rfl 5 20 (by decide) rfl hw9 (fun _ h9 => h9) dX10_become_78 ?_
        obtain ⟨g_6, hr_7, hf⟩ := op_some hf
        refine mq_callv (va_runV (As := [.ref (ad (q1 + 20))]) (rest := []) ⟨hx, hb, hml, hown, hts⟩ (c_X7_become l D ad cy (p0 + 20) (q1 + 20) g (shTC_X10_20 hp) (shTC_X10_20 hq1) g_6 hr_7) (cwV 1 hts gX10_become_X7_become rfl rfl rfl (by decide +kernel) ⟨Nat.le_of_ble_eq_true rfl, Nat.le_of_ble_eq_true rfl⟩) (mq_preV (q := (RX7, TX7, 3)) mm_zOkC hK hP hI hZ hS (shTC_X10_20 hp) rfl) rfl rfl hl.1 rfl (lv_room (Nat.le_of_ble_eq_true rfl)) dX10_become_81 ⟨Nat.le_refl _, Nat.le_refl _⟩) hS (fun H locs hP hS => ?_)
        refine lv_aload_n hx hb dX10_become_84 rfl (lv_at hl 0 rfl) ?_
        refine mq_getr (Tt := TX10) (N := 9) (C := RX10) hx hb hts hiX10 hown hK hP hp rfl 6 22 (by decide) rfl hw10 (fun _ h9 => h9) dX10_become_85 ?_
        refine lv_aload_n hx hb dX10_become_88 rfl (lv_at hl 1 rfl) ?_
        refine mq_getr (Tt := TX10) (N := 9) (C := RX10) hx hb hts hiX10 hown hK hP hq1 rfl 6 22 (by decide) rfl hw10 (fun _ h9 => h9) dX10_become_89 ?_
        obtain ⟨g_8, hr_9, hf⟩ := op_some hf
        refine mq_callv (va_runV (As := [.ref (ad (q1 + 22))]) (rest := []) ⟨hx, hb, hml, hown, hts⟩ (c_X3_become l D ad cy (p0 + 22) (q1 + 22) g_6 (shTC_X10_22 hp) (shTC_X10_22 hq1) g_8 hr_9) (cwV 1 hts gX10_become_X3_become rfl rfl rfl (by decide +kernel) ⟨Nat.le_of_ble_eq_true rfl, Nat.le_of_ble_eq_true rfl⟩) (mq_preV (q := (RX3, TX3, 2)) mm_zOkC hK hP hI hZ hS (shTC_X10_22 hp) rfl) rfl rfl hl.1 rfl (lv_room (Nat.le_of_ble_eq_true rfl)) dX10_become_92 ⟨Nat.le_refl _, Nat.le_refl _⟩) hS (fun H locs hP hS => ?_)
        refine lv_aload_n hx hb dX10_become_95 rfl (lv_at hl 0 rfl) ?_
        refine mq_getr (Tt := TX10) (N := 9) (C := RX10) hx hb hts hiX10 hown hK hP hp rfl 7 25 (by decide) rfl hw11 (fun _ h9 => h9) dX10_become_96 ?_
        refine lv_aload_n hx hb dX10_become_99 rfl (lv_at hl 1 rfl) ?_
        refine mq_getr (Tt := TX10) (N := 9) (C := RX10) hx hb hts hiX10 hown hK hP hq1 rfl 7 25 (by decide) rfl hw11 (fun _ h9 => h9) dX10_become_100 ?_
        obtain ⟨g_10, hr_11, hf⟩ := op_some hf
        refine mq_callv (va_runV (As := [.ref (ad (q1 + 25))]) (rest := []) ⟨hx, hb, hml, hown, hts⟩ (c_X2_become l D ad cy (p0 + 25) (q1 + 25) g_8 (shTC_X10_25 hp) (shTC_X10_25 hq1) g_10 hr_11) (cwV 1 hts gX10_become_X2_become rfl rfl rfl (by decide +kernel) ⟨Nat.le_of_ble_eq_true rfl, Nat.le_of_ble_eq_true rfl⟩) (mq_preV (q := (RX2, TX2, 5)) mm_zOkC hK hP hI hZ hS (shTC_X10_25 hp) rfl) rfl rfl hl.1 rfl (lv_room (Nat.le_of_ble_eq_true rfl)) dX10_become_103 ⟨Nat.le_refl _, Nat.le_refl _⟩) hS (fun H locs hP hS => ?_)
        refine lv_aload_n hx hb dX10_become_106 rfl (lv_at hl 0 rfl) ?_
        refine mq_getr (Tt := TX10) (N := 9) (C := RX10) hx hb hts hiX10 hown hK hP hp rfl 8 37 (by decide) rfl hw12 (fun _ h9 => h9) dX10_become_107 ?_
        refine lv_aload_n hx hb dX10_become_110 rfl (lv_at hl 1 rfl) ?_
        refine mq_getr (Tt := TX10) (N := 9) (C := RX10) hx hb hts hiX10 hown hK hP hq1 rfl 8 37 (by decide) rfl hw12 (fun _ h9 => h9) dX10_become_111 ?_
        obtain ⟨g_12, hr_13, hf⟩ := op_some hf
        refine mq_callv (va_runV (As := [.ref (ad (q1 + 37))]) (rest := []) ⟨hx, hb, hml, hown, hts⟩ (c_X1_become l D ad cy (p0 + 37) (q1 + 37) g_10 (shTC_X10_37 hp) (shTC_X10_37 hq1) g_12 hr_13) (cwV 1 hts gX10_become_X1_become rfl rfl rfl (by decide +kernel) ⟨Nat.le_of_ble_eq_true rfl, Nat.le_of_ble_eq_true rfl⟩) (mq_preV (q := (RX1, TX1, 6)) mm_zOkC hK hP hI hZ hS (shTC_X10_37 hp) rfl) rfl rfl hl.1 rfl (lv_room (Nat.le_of_ble_eq_true rfl)) dX10_become_114 ⟨Nat.le_refl _, Nat.le_refl _⟩) hS (fun H locs hP hS => ?_)
        exact mq_vret hx hb hr hlocks hP hS (Option.some.inj hf) dX10_become_117
      · replace hf := ite_f c_5 hf
        refine lv_aload_n hx hb dX10_become_52 rfl (lv_at hl 0 rfl) ?_
        refine mq_getr (Tt := TX10) (N := 9) (C := RX10) hx hb hts hiX10 hown hK hP hp rfl 4 3 (by decide) rfl hw13 (fun _ h9 => h9) dX10_become_53 ?_
        refine lv_iload_n hx hb dX10_become_56 rfl (lv_at hl 2 rfl) ?_
        obtain ⟨h_14, hf⟩ := og_some hf
        refine mq_aald hx hb hK hP (N := 16) (shTC_X10_3 hp) rfl h_14 dX10_become_57 ?_
        refine lv_aload_n hx hb dX10_become_58 rfl (lv_at hl 1 rfl) ?_
        refine mq_getr (Tt := TX10) (N := 9) (C := RX10) hx hb hts hiX10 hown hK hP hq1 rfl 4 3 (by decide) rfl hw13 (fun _ h9 => h9) dX10_become_59 ?_
        refine lv_iload_n hx hb dX10_become_62 rfl (lv_at hl 2 rfl) ?_
        obtain ⟨h_15, hf⟩ := og_some hf
        refine mq_aald hx hb hK hP (N := 16) (shTC_X10_3 hq1) rfl h_15 dX10_become_63 ?_
        obtain ⟨g_16, hr_17, hf⟩ := op_some hf
        refine mq_callv (va_runV (As := [.ref (ad (q1 + 4 + x2.toNatClampNeg))]) (rest := []) ⟨hx, hb, hml, hown, hts⟩ (c_X5_become l D ad cy (p0 + 4 + x2.toNatClampNeg) (q1 + 4 + x2.toNatClampNeg) g (shTC_X10_4i_0 hp (mm_in_lt h_14)) (shTC_X10_4i_0 hq1 (mm_in_lt h_15)) g_16 hr_17) (cwV 1 hts gX10_become_X5_become rfl rfl rfl (by decide +kernel) ⟨Nat.le_of_ble_eq_true rfl, Nat.le_of_ble_eq_true rfl⟩) (mq_preV (q := (RX5, TX5, 5)) mm_zOkC hK hP hI hZ hS (shTC_X10_4i_0 hp (mm_in_lt h_14)) rfl) rfl rfl hl.1 rfl (lv_room (Nat.le_of_ble_eq_true rfl)) dX10_become_64 ⟨Nat.le_refl _, Nat.le_refl _⟩) hS (fun H locs hP hS => ?_)
        obtain ⟨x2_18, ex2_18, hf⟩ := mv_some hf
        refine lv_iinc (v := x2_18) (lv' := [(2, .int x2_18), (0, .ref (ad p0)), (1, .ref (ad q1))]) hx hb dX10_become_67 hl (k := 2) rfl (by rw [ex2_18]; rfl) (by decide) rfl (fun ls hl => ?_)
        refine lv_goto (tgt := 46) hx hb dX10_become_70 (by decide) ?_
        exact ih x2_18 g_16 H locs ls hP hS (lv_sub hl [1, 2, 0] rfl) hf
  unfold f_X10_become at hf
  have hH9 : ∀ (H : Heap) (locs : List Loc), H = s.heap → locs = [] → va_P D vwCl (mm_L TC ad cy g) H → va_S (mm_A TC ad) s.heap H locs → W p l e (headSpec wsX10_become (rm_X10_become)).room s m args below meth c H locs 0 0 (MQ below (mm_Qv D TC ad cy g') args s 0 0 (mm_A TC ad)) (F0 m 0 ls []) := by
    intro H locs hH9 hL9 hP hS
    clear hH9 hL9
    refine lv_aload_n hx hb dX10_become_0 rfl (lv_at hl 0 rfl) ?_
    refine lv_aload_n hx hb dX10_become_1 rfl (lv_at hl 1 rfl) ?_
    refine mq_geti (Tt := TX10) (N := 9) (C := RX10) hx hb hts hiX10 hown hK hP hq1 rfl 0 (by decide) rfl hw0 (fun _ h9 => h9) dX10_become_2 ?_
    obtain ⟨g_1, eg_1, hf⟩ := mw_some hf
    refine mq_puti (Tt := TX10) (N := 9) (C := RX10) (ty := .int) hx hb hts hiX10 tyX10 tyX10_ok nmX10 hown hK hI hP hS hp rfl 0 (by decide) rfl hw0 (fun _ h9 => h9) rfl (by decide +kernel) rfl rfl dX10_become_5 eg_1 (fun H locs hP hS => ?_)
    refine lv_aload_n hx hb dX10_become_8 rfl (lv_at hl 1 rfl) ?_
    refine mq_getr (Tt := TX10) (N := 9) (C := RX10) hx hb hts hiX10 hown hK hP hq1 rfl 1 1 (by decide) rfl hw2 (fun _ h9 => h9) dX10_become_9 ?_
    refine lv_iconst (v := 0) hx hb dX10_become_12 (by decide) ?_
    refine lv_aload_n hx hb dX10_become_13 rfl (lv_at hl 0 rfl) ?_
    refine mq_getr (Tt := TX10) (N := 9) (C := RX10) hx hb hts hiX10 hown hK hP hp rfl 1 1 (by decide) rfl hw2 (fun _ h9 => h9) dX10_become_14 ?_
    refine lv_iconst (v := 0) hx hb dX10_become_17 (by decide) ?_
    refine lv_iconst (v := 5) hx hb dX10_become_18 (by decide) ?_
    obtain ⟨g_2, eg_2, hf⟩ := mr_some hf
    refine mq_copy hx hb (hml.trans hl.1.symm) hown hw3 hw4 hw5 hw6 hK hI hP hS (n0 := 5) (n1 := 5) (shTC_X10_1 hq1) (shTC_X10_1 hp) (by decide +kernel : mm_cp 0 0 5 5 5 = true) (Nat.le_of_ble_eq_true rfl) (Nat.le_of_ble_eq_true rfl) dX10_become_19 eg_2 (fun H locs hP hS => ?_)
    refine lv_aload_n hx hb dX10_become_22 rfl (lv_at hl 1 rfl) ?_
    refine mq_getr (Tt := TX10) (N := 9) (C := RX10) hx hb hts hiX10 hown hK hP hq1 rfl 2 2 (by decide) rfl hw7 (fun _ h9 => h9) dX10_become_23 ?_
    refine lv_iconst (v := 0) hx hb dX10_become_26 (by decide) ?_
    refine lv_aload_n hx hb dX10_become_27 rfl (lv_at hl 0 rfl) ?_
    refine mq_getr (Tt := TX10) (N := 9) (C := RX10) hx hb hts hiX10 hown hK hP hp rfl 2 2 (by decide) rfl hw7 (fun _ h9 => h9) dX10_become_28 ?_
    refine lv_iconst (v := 0) hx hb dX10_become_31 (by decide) ?_
    refine lv_iconst (v := 5) hx hb dX10_become_32 (by decide) ?_
    obtain ⟨g_3, eg_3, hf⟩ := mr_some hf
    refine mq_copy hx hb (hml.trans hl.1.symm) hown hw3 hw4 hw5 hw6 hK hI hP hS (n0 := 5) (n1 := 5) (shTC_X10_2 hq1) (shTC_X10_2 hp) (by decide +kernel : mm_cp 0 0 5 5 5 = true) (Nat.le_of_ble_eq_true rfl) (Nat.le_of_ble_eq_true rfl) dX10_become_33 eg_3 (fun H locs hP hS => ?_)
    refine lv_aload_n hx hb dX10_become_36 rfl (lv_at hl 0 rfl) ?_
    refine lv_aload_n hx hb dX10_become_37 rfl (lv_at hl 1 rfl) ?_
    refine mq_geti (Tt := TX10) (N := 9) (C := RX10) hx hb hts hiX10 hown hK hP hq1 rfl 3 (by decide) rfl hw8 (fun _ h9 => h9) dX10_become_38 ?_
    obtain ⟨g_4, eg_4, hf⟩ := mw_some hf
    refine mq_puti (Tt := TX10) (N := 9) (C := RX10) (ty := .int) hx hb hts hiX10 tyX10 tyX10_ok nmX10 hown hK hI hP hS hp rfl 3 (by decide) rfl hw8 (fun _ h9 => h9) rfl (by decide +kernel) rfl rfl dX10_become_41 eg_4 (fun H locs hP hS => ?_)
    refine lv_iconst (v := 0) hx hb dX10_become_44 (by decide) ?_
    refine lv_istore_n (lv' := [(2, .int 0), (0, .ref (ad p0)), (1, .ref (ad q1))]) hx hb dX10_become_45 rfl hl (by decide) rfl (fun ls hl => ?_)
    exact hc46 FU 0 g_4 H locs ls hP hS (lv_sub hl [1, 2, 0] rfl) hf
  exact hH9 s.heap [] rfl rfl hP hS
abbrev rm_X9_isOpenWith : Room := ({ frames := 0, cells := 0, slots := 0, locals := 0 } : Room)
set_option maxHeartbeats 4000000 in
set_option maxRecDepth 100000 in
theorem c_X9_isOpenWith (l : Launch) (D : va_G) (ad : Nat → Nat) (cy : Nat → ClassId) (p0 : Nat) (x1 : Int32) (o2 : Option Nat) (o3 : Option Nat) (g : Mm) (hp : TC[p0]? = some sX9) (ho2 : mm_os TC sX5 o2 = true) (ho3 : mm_os TC sX5 o3 = true) (r0 : Int32) (hf : f_X9_isOpenWith p0 x1 o2 o3 g = some r0) : Met l yX9_isOpenWith wsX9_isOpenWith rm_X9_isOpenWith (va_Pc [.ref (ad p0), .int x1, va_rf (Option.map ad o2), va_rf (Option.map ad o3)] (mm_pre mm_Z D TC ad cy g)) (mm_Qi D TC ad cy r0 g) 0 0 (mm_A TC ad) := by
  refine Met.ofW (cc := cX9_isOpenWith) (maxL := 4) (ret := (some .boolean)) (by decide) rfl ?_
  intro p e s m args below meth c s₁ B hml hv
  obtain ⟨hargs, hP, hK, hI, hZ⟩ := hv
  have hx := B.exec
  have hb := B.bytes
  have hr := B.returns
  have hts := atoms_spec (ws := wsX9_isOpenWith) B.pre
  have hown : s.vm.findClass RX9 = some m.cls := findClass_of_methodNamed B.named
  have hlocks := B.notSynchronized
  have hw0 := hts (.fieldLink RX9 70 "LeftShoes$Walk" "isOneFooted" "Z") (by decide +kernel)
  have hiX9 : ∀ w ∈ wsX90, w ∈ wsX9_isOpenWith := by decide +kernel
  rw [show entryFrame m args 4 = F0 m 0 ((lg_sl ([.ref (ad p0), .int x1, va_rf (Option.map ad o2), va_rf (Option.map ad o3)] : List Value) ++ List.replicate (4 - (lg_sl ([.ref (ad p0), .int x1, va_rf (Option.map ad o2), va_rf (Option.map ad o3)] : List Value)).length) Slot.unset).toArray) [] from by rw [hargs]; exact lg_entry_eq m _ _]
  have hl := lv_entry ([.ref (ad p0), .int x1, va_rf (Option.map ad o2), va_rf (Option.map ad o3)] : List Value) (n := 4) (by cases o2 <;> cases o3 <;> exact Nat.le_of_ble_eq_true rfl)
  generalize (lg_sl ([.ref (ad p0), .int x1, va_rf (Option.map ad o2), va_rf (Option.map ad o3)] : List Value) ++ List.replicate (4 - (lg_sl ([.ref (ad p0), .int x1, va_rf (Option.map ad o2), va_rf (Option.map ad o3)] : List Value)).length) Slot.unset).toArray = ls at hl ⊢
  have hl : lv_has ls 4 [(0, .ref (ad p0)), (1, .int x1), (2, va_rf (Option.map ad o2)), (3, va_rf (Option.map ad o3))] := by cases o2 <;> cases o3 <;> exact hl
  have hS : va_S (mm_A TC ad) s.heap s.heap [] := va_S.rf
  clear hargs
  unfold f_X9_isOpenWith at hf
  have hH9 : ∀ (H : Heap) (locs : List Loc), H = s.heap → locs = [] → va_P D vwCl (mm_L TC ad cy g) H → va_S (mm_A TC ad) s.heap H locs → W p l e (headSpec wsX9_isOpenWith (rm_X9_isOpenWith)).room s m args below meth c H locs 0 0 (MQ below (mm_Qi D TC ad cy r0 g) args s 0 0 (mm_A TC ad)) (F0 m 0 ls []) := by
    intro H locs hH9 hL9 hP hS
    clear hH9 hL9
    refine lv_iload_n hx hb dX9_isOpenWith_0 rfl (lv_at hl 1 rfl) ?_
    refine lv_iconst (v := 2) hx hb dX9_isOpenWith_1 (by decide) ?_
    refine lv_icmp_ne (tgt := 15) hx hb dX9_isOpenWith_2 (by decide) (fun c_1 => ?_) (fun c_1 => ?_)
    · replace hf := ite_f c_1 hf
      refine lv_aload_n hx hb dX9_isOpenWith_15 rfl (lv_at hl 0 rfl) ?_
      refine mq_geti (Tt := TX9) (N := 19) (C := RX9) hx hb hts hiX9 hown hK hP hp rfl 1 (by decide) rfl hw0 (fun _ h9 => h9) dX9_isOpenWith_16 ?_
      refine lv_if_ne (tgt := 39) hx hb dX9_isOpenWith_19 (by decide) (fun c_2 => ?_) (fun c_2 => ?_)
      · replace hf := ite_f c_2 hf
        refine lv_iconst (v := 0) hx hb dX9_isOpenWith_39 (by decide) ?_
        exact mq_iret hx hb hr (by decide +kernel) hlocks hP hS (Option.some.inj hf) rfl dX9_isOpenWith_40
      · replace hf := ite_t c_2 hf
        refine lv_iload_n hx hb dX9_isOpenWith_22 rfl (lv_at hl 1 rfl) ?_
        refine lv_iconst (v := 3) hx hb dX9_isOpenWith_23 (by decide) ?_
        refine lv_icmp_eq (tgt := 35) hx hb dX9_isOpenWith_24 (by decide) (fun c_3 => ?_) (fun c_3 => ?_)
        · replace hf := ite_t c_3 hf
          refine lv_iconst (v := 1) hx hb dX9_isOpenWith_35 (by decide) ?_
          refine lv_goto (tgt := 40) hx hb dX9_isOpenWith_36 (by decide) ?_
          exact mq_iret hx hb hr (by decide +kernel) hlocks hP hS (Option.some.inj hf) rfl dX9_isOpenWith_40
        · replace hf := ite_f c_3 hf
          refine mq_aload_nq hx hb dX9_isOpenWith_27 rfl (lv_at hl 2 rfl) ?_
          cases o2 with
          | none =>
            replace hf := on_n hf
            refine lv_ifnullN (tgt := 39) hx hb dX9_isOpenWith_28 (by decide) ?_
            refine lv_iconst (v := 0) hx hb dX9_isOpenWith_39 (by decide) ?_
            exact mq_iret hx hb hr (by decide +kernel) hlocks hP hS (Option.some.inj hf) rfl dX9_isOpenWith_40
          | some q_4 =>
            replace hf := on_s hf
            refine lv_ifnull hx hb dX9_isOpenWith_28 ?_
            refine mq_aload_nq hx hb dX9_isOpenWith_31 rfl (lv_at hl 3 rfl) ?_
            cases o3 with
            | none =>
              replace hf := on_n hf
              refine lv_ifnullN (tgt := 39) hx hb dX9_isOpenWith_32 (by decide) ?_
              refine lv_iconst (v := 0) hx hb dX9_isOpenWith_39 (by decide) ?_
              exact mq_iret hx hb hr (by decide +kernel) hlocks hP hS (Option.some.inj hf) rfl dX9_isOpenWith_40
            | some q_5 =>
              replace hf := on_s hf
              refine lv_ifnull hx hb dX9_isOpenWith_32 ?_
              refine lv_iconst (v := 1) hx hb dX9_isOpenWith_35 (by decide) ?_
              refine lv_goto (tgt := 40) hx hb dX9_isOpenWith_36 (by decide) ?_
              exact mq_iret hx hb hr (by decide +kernel) hlocks hP hS (Option.some.inj hf) rfl dX9_isOpenWith_40
    · replace hf := ite_t c_1 hf
      refine mq_aload_nq hx hb dX9_isOpenWith_5 rfl (lv_at hl 2 rfl) ?_
      cases o2 with
      | none =>
        replace hf := on_n hf
        refine lv_ifnullN (tgt := 13) hx hb dX9_isOpenWith_6 (by decide) ?_
        refine lv_iconst (v := 0) hx hb dX9_isOpenWith_13 (by decide) ?_
        exact mq_iret hx hb hr (by decide +kernel) hlocks hP hS (Option.some.inj hf) rfl dX9_isOpenWith_14
      | some q_6 =>
        replace hf := on_s hf
        refine lv_ifnull hx hb dX9_isOpenWith_6 ?_
        refine lv_iconst (v := 1) hx hb dX9_isOpenWith_9 (by decide) ?_
        refine lv_goto (tgt := 14) hx hb dX9_isOpenWith_10 (by decide) ?_
        exact mq_iret hx hb hr (by decide +kernel) hlocks hP hS (Option.some.inj hf) rfl dX9_isOpenWith_14
  exact hH9 s.heap [] rfl rfl hP hS
abbrev rm_X9_wear : Room := ({ frames := 1, cells := 0, slots := 0, locals := 20 } : Room)
set_option maxHeartbeats 4000000 in
set_option maxRecDepth 100000 in
theorem c_X9_wear (l : Launch) (D : va_G) (ad : Nat → Nat) (cy : Nat → ClassId) (p0 : Nat) (x1 : Int32) (g : Mm) (hp : TC[p0]? = some sX9) (r0 : Int32) (hf : f_X9_wear p0 x1 g = some r0) : Met l yX9_wear wsX9_wear rm_X9_wear (va_Pc [.ref (ad p0), .int x1] (mm_pre mm_Z D TC ad cy g)) (mm_Qi D TC ad cy r0 g) 0 0 (mm_A TC ad) := by
  refine Met.ofW (cc := cX9_wear) (maxL := 2) (ret := (some .int)) (by decide) rfl ?_
  intro p e s m args below meth c s₁ B hml hv
  obtain ⟨hargs, hP, hK, hI, hZ⟩ := hv
  have hx := B.exec
  have hb := B.bytes
  have hr := B.returns
  have hts := atoms_spec (ws := wsX9_wear) B.pre
  have hown : s.vm.findClass RX9 = some m.cls := findClass_of_methodNamed B.named
  have hlocks := B.notSynchronized
  have hw0 := hts (.fieldLink RX9 11 "LeftShoes$Walk" "worn" "[LLeftShoes$Shoe;") (by decide +kernel)
  have hiX9 : ∀ w ∈ wsX90, w ∈ wsX9_wear := by decide +kernel
  rw [show entryFrame m args 2 = F0 m 0 ((lg_sl ([.ref (ad p0), .int x1] : List Value) ++ List.replicate (2 - (lg_sl ([.ref (ad p0), .int x1] : List Value)).length) Slot.unset).toArray) [] from by rw [hargs]; exact lg_entry_eq m _ _]
  have hl := lv_entry ([.ref (ad p0), .int x1] : List Value) (n := 2) (by exact Nat.le_of_ble_eq_true rfl)
  generalize (lg_sl ([.ref (ad p0), .int x1] : List Value) ++ List.replicate (2 - (lg_sl ([.ref (ad p0), .int x1] : List Value)).length) Slot.unset).toArray = ls at hl ⊢
  have hl : lv_has ls 2 [(0, .ref (ad p0)), (1, .int x1)] := by exact hl
  have hS : va_S (mm_A TC ad) s.heap s.heap [] := va_S.rf
  clear hargs
  unfold f_X9_wear at hf
  have hH9 : ∀ (H : Heap) (locs : List Loc), H = s.heap → locs = [] → va_P D vwCl (mm_L TC ad cy g) H → va_S (mm_A TC ad) s.heap H locs → W p l e (headSpec wsX9_wear (rm_X9_wear)).room s m args below meth c H locs 0 0 (MQ below (mm_Qi D TC ad cy r0 g) args s 0 0 (mm_A TC ad)) (F0 m 0 ls []) := by
    intro H locs hH9 hL9 hP hS
    clear hH9 hL9
    refine lv_aload_n hx hb dX9_wear_0 rfl (lv_at hl 0 rfl) ?_
    refine mq_getr (Tt := TX9) (N := 19) (C := RX9) hx hb hts hiX9 hown hK hP hp rfl 0 1 (by decide) rfl hw0 (fun _ h9 => h9) dX9_wear_1 ?_
    refine lv_iload_n hx hb dX9_wear_4 rfl (lv_at hl 1 rfl) ?_
    obtain ⟨h_1, hf⟩ := og_some hf
    obtain ⟨o_2, eo_2, hf⟩ := mv_some hf
    obtain ⟨h_3, hf⟩ := og_some hf
    refine mq_aaldm hx hb hK hP (N := 3) (shTC_X9_1 hp) rfl h_1 dX9_wear_5 ?_
    refine mq_nmo eo_2 ?_
    cases o_2 with
    | none =>
      replace hf := on_n hf
      refine lv_ifnonnullN hx hb dX9_wear_6 ?_
      refine lv_iconst (v := 0) hx hb dX9_wear_9 (by decide) ?_
      refine lv_goto (tgt := 22) hx hb dX9_wear_10 (by decide) ?_
      exact mq_iret hx hb hr rfl hlocks hP hS (Option.some.inj hf) rfl dX9_wear_22
    | some q_4 =>
      replace hf := on_s hf
      refine lv_ifnonnull (tgt := 13) hx hb dX9_wear_6 (by decide) ?_
      refine lv_aload_n hx hb dX9_wear_13 rfl (lv_at hl 0 rfl) ?_
      refine mq_getr (Tt := TX9) (N := 19) (C := RX9) hx hb hts hiX9 hown hK hP hp rfl 0 1 (by decide) rfl hw0 (fun _ h9 => h9) dX9_wear_14 ?_
      refine lv_iload_n hx hb dX9_wear_17 rfl (lv_at hl 1 rfl) ?_
      obtain ⟨h_5, hf⟩ := og_some hf
      obtain ⟨o_6, eo_6, hf⟩ := mv_some hf
      obtain ⟨h_7, hf⟩ := og_some hf
      refine mq_aaldm hx hb hK hP (N := 3) (shTC_X9_1 hp) rfl h_5 dX9_wear_18 ?_
      refine mq_nmo eo_6 ?_
      obtain ⟨q_8, eq_8, hf⟩ := on_ex hf
      subst eq_8
      obtain ⟨r_9, hr_10, hf⟩ := op_some hf
      refine mq_calli (va_runV (As := []) (rest := []) ⟨hx, hb, hml, hown, hts⟩ (c_X5_wear l D ad cy q_8 g (mm_os_q h_7) r_9 hr_10) (cwV 0 hts gX9_wear_X5_wear rfl rfl rfl (by decide +kernel) ⟨Nat.le_of_ble_eq_true rfl, Nat.le_of_ble_eq_true rfl⟩) (mq_preV (q := (RX5, TX5, 5)) mm_zOkC hK hP hI hZ hS (mm_os_q h_7) rfl) rfl rfl hl.1 rfl (lv_room (Nat.le_of_ble_eq_true rfl)) dX9_wear_19 ⟨Nat.le_refl _, Nat.le_refl _⟩) hS (fun H locs hP hS => ?_)
      exact mq_iret hx hb hr rfl hlocks hP hS (Option.some.inj hf) rfl dX9_wear_22
  exact hH9 s.heap [] rfl rfl hP hS
abbrev rm_X9_prepareGoings : Room := ({ frames := 2, cells := 0, slots := 0, locals := 47 } : Room)
set_option maxHeartbeats 4000000 in
set_option maxRecDepth 100000 in
theorem c_X9_prepareGoings (l : Launch) (D : va_G) (ad : Nat → Nat) (cy : Nat → ClassId) (p0 : Nat) (q1 : Nat) (g : Mm) (hp : TC[p0]? = some sX9) (hq1 : TC[q1]? = some sX10) (g' : Mm) (hf : f_X9_prepareGoings p0 q1 g = some g') : Met l yX9_prepareGoings wsX9_prepareGoings rm_X9_prepareGoings (va_Pc [.ref (ad p0), .ref (ad q1)] (mm_pre mm_Z D TC ad cy g)) (mm_Qv D TC ad cy g') 0 0 (mm_A TC ad) := by
  refine Met.ofW (cc := cX9_prepareGoings) (maxL := 6) (ret := none) (by decide) rfl ?_
  intro p e s m args below meth c s₁ B hml hv
  obtain ⟨hargs, hP, hK, hI, hZ⟩ := hv
  have hx := B.exec
  have hb := B.bytes
  have hr := B.returns
  have hts := atoms_spec (ws := wsX9_prepareGoings) B.pre
  have hown : s.vm.findClass RX9 = some m.cls := findClass_of_methodNamed B.named
  have hlocks := B.notSynchronized
  have hw0 := hts (.fieldLink RX9 51 "LeftShoes$Walk" "solesAt" "[[I") (by decide +kernel)
  have hiX9 : ∀ w ∈ wsX90, w ∈ wsX9_prepareGoings := by decide +kernel
  have hw2 := hts (.fieldLink RX9 11 "LeftShoes$Walk" "worn" "[LLeftShoes$Shoe;") (by decide +kernel)
  have hw3 := hts (.fieldLink RX9 123 "LeftShoes$Shoe" "soles" "I") (by decide +kernel)
  have hiX5 : ∀ w ∈ wsX50, w ∈ wsX9_prepareGoings := by decide +kernel
  have hw5 := hts (.fieldLink RX9 17 "LeftShoes$Walk" "isOpen" "[Z") (by decide +kernel)
  have hw6 := hts (.fieldLink RX9 29 "LeftShoes$Walk" "wearOf" "[[I") (by decide +kernel)
  have hw7 := hts (.fieldLink RX9 110 "LeftShoes$Walk" "TIMES_A" "[I") (by decide +kernel)
  obtain ⟨tTIMES_A, hzTIMES_A, htTIMES_A⟩ := hZ.1.2.2.1
  have hw9 := hts (.fieldLink RX9 117 "LeftShoes$Walk" "TIMES_B" "[I") (by decide +kernel)
  obtain ⟨tTIMES_B, hzTIMES_B, htTIMES_B⟩ := hZ.1.2.2.2.1
  have hw11 := hts (.fieldLink RX9 120 "LeftShoes$Walk" "TIMES_C" "[I") (by decide +kernel)
  obtain ⟨tTIMES_C, hzTIMES_C, htTIMES_C⟩ := hZ.1.2.2.2.2
  have hw13 := hts (.fieldLink RX9 23 "LeftShoes$Walk" "minutesOf" "[[I") (by decide +kernel)
  have hw14 := hts (.fieldLink RX9 26 "LeftShoes$Walk" "costOf" "[[I") (by decide +kernel)
  rw [show entryFrame m args 6 = F0 m 0 ((lg_sl ([.ref (ad p0), .ref (ad q1)] : List Value) ++ List.replicate (6 - (lg_sl ([.ref (ad p0), .ref (ad q1)] : List Value)).length) Slot.unset).toArray) [] from by rw [hargs]; exact lg_entry_eq m _ _]
  have hl := lv_entry ([.ref (ad p0), .ref (ad q1)] : List Value) (n := 6) (by exact Nat.le_of_ble_eq_true rfl)
  generalize (lg_sl ([.ref (ad p0), .ref (ad q1)] : List Value) ++ List.replicate (6 - (lg_sl ([.ref (ad p0), .ref (ad q1)] : List Value)).length) Slot.unset).toArray = ls at hl ⊢
  have hl : lv_has ls 6 [(0, .ref (ad p0)), (1, .ref (ad q1))] := by exact hl
  have hS : va_S (mm_A TC ad) s.heap s.heap [] := va_S.rf
  clear hargs
  have hc232 : ∀ (K_198 : Int32 → Mm → Option (Mm)), (∀ (x2 : Int32) (g : Mm) (H : Heap) (locs : List Loc) (ls : Array Slot), va_P D vwCl (mm_L TC ad cy g) H → va_S (mm_A TC ad) s.heap H locs → lv_has ls 6 [(0, .ref (ad p0)), (1, .ref (ad q1)), (2, .int x2)] → K_198 x2 g = some g' → W p l e (headSpec wsX9_prepareGoings (rm_X9_prepareGoings)).room s m args below meth c H locs 0 0 (MQ below (mm_Qv D TC ad cy g') args s 0 0 (mm_A TC ad)) (F0 m 198 ls [])) → ∀ (x2 : Int32) (sq0 : Nat) (sx1 : Int32) (sx2 : Int32) (g : Mm) (H : Heap) (locs : List Loc) (ls : Array Slot), TC[sq0]? = some (.inr (3, 0, none) : Shp) → va_P D vwCl (mm_L TC ad cy g) H → va_S (mm_A TC ad) s.heap H locs → lv_has ls 6 [(0, .ref (ad p0)), (1, .ref (ad q1)), (2, .int x2)] → f_X9_prepareGoings_c232 K_198 p0 x2 sq0 sx1 sx2 g = some g' → W p l e (headSpec wsX9_prepareGoings (rm_X9_prepareGoings)).room s m args below meth c H locs 0 0 (MQ below (mm_Qv D TC ad cy g') args s 0 0 (mm_A TC ad)) (F0 m 232 ls [.int sx2, .int sx1, .ref (ad sq0)]) := by
    intro K_198 hK_198 x2 sq0 sx1 sx2 g H locs ls hsq0 hP hS hl hf
    unfold f_X9_prepareGoings_c232 at hf
    obtain ⟨h_7, hf⟩ := og_some hf
    obtain ⟨g_8, eg_8, hf⟩ := mw_some hf
    refine mq_iast hx hb hK hI hP hS (N := 3) hsq0 h_7 dX9_prepareGoings_232 eg_8 (fun H locs hP hS => ?_)
    obtain ⟨x2_9, ex2_9, hf⟩ := mv_some hf
    refine lv_iinc (v := x2_9) (lv' := [(2, .int x2_9), (0, .ref (ad p0)), (1, .ref (ad q1))]) hx hb dX9_prepareGoings_233 hl (k := 2) rfl (by rw [ex2_9]; rfl) (by decide) rfl (fun ls hl => ?_)
    refine lv_goto (tgt := 198) hx hb dX9_prepareGoings_236 (by decide) ?_
    exact hK_198 x2_9 g_8 H locs ls hP hS (lv_sub hl [1, 2, 0] rfl) hf
  have hc198 : ∀ (n : Nat), ∀ (x2 : Int32) (g : Mm) (H : Heap) (locs : List Loc) (ls : Array Slot), va_P D vwCl (mm_L TC ad cy g) H → va_S (mm_A TC ad) s.heap H locs → lv_has ls 6 [(0, .ref (ad p0)), (1, .ref (ad q1)), (2, .int x2)] → f_X9_prepareGoings_c198 p0 n x2 g = some g' → W p l e (headSpec wsX9_prepareGoings (rm_X9_prepareGoings)).room s m args below meth c H locs 0 0 (MQ below (mm_Qv D TC ad cy g') args s 0 0 (mm_A TC ad)) (F0 m 198 ls []) := by
    intro n
    induction n with
    | zero =>
      intro x2 g H locs ls hP hS hl hf
      rw [f_X9_prepareGoings_c198] at hf
      cases hf
    | succ n ih =>
      intro x2 g H locs ls hP hS hl hf
      rw [f_X9_prepareGoings_c198] at hf
      refine lv_iload_n hx hb dX9_prepareGoings_198 rfl (lv_at hl 2 rfl) ?_
      refine lv_iconst (v := 3) hx hb dX9_prepareGoings_199 (by decide) ?_
      refine lv_icmp_ge (tgt := 239) hx hb dX9_prepareGoings_200 (by decide) (fun c_2 => ?_) (fun c_2 => ?_)
      · replace hf := ite_t c_2 hf
        exact mq_vret hx hb hr hlocks hP hS (Option.some.inj hf) dX9_prepareGoings_239
      · replace hf := ite_f c_2 hf
        refine lv_aload_n hx hb dX9_prepareGoings_203 rfl (lv_at hl 0 rfl) ?_
        refine mq_getr (Tt := TX9) (N := 19) (C := RX9) hx hb hts hiX9 hown hK hP hp rfl 13 34 (by decide) rfl hw0 (fun _ h9 => h9) dX9_prepareGoings_204 ?_
        refine lv_iconst (v := 0) hx hb dX9_prepareGoings_207 (by decide) ?_
        refine mq_aaldA hx hb hK hP (N := 10) (shTC_X9_34 hp) (by decide : mm_in 0 10 = true) dX9_prepareGoings_208 ?_
        refine lv_iload_n hx hb dX9_prepareGoings_209 rfl (lv_at hl 2 rfl) ?_
        refine lv_aload_n hx hb dX9_prepareGoings_210 rfl (lv_at hl 0 rfl) ?_
        refine mq_getr (Tt := TX9) (N := 19) (C := RX9) hx hb hts hiX9 hown hK hP hp rfl 0 1 (by decide) rfl hw2 (fun _ h9 => h9) dX9_prepareGoings_211 ?_
        refine lv_iload_n hx hb dX9_prepareGoings_214 rfl (lv_at hl 2 rfl) ?_
        obtain ⟨h_3, hf⟩ := og_some hf
        obtain ⟨o_4, eo_4, hf⟩ := mv_some hf
        obtain ⟨h_5, hf⟩ := og_some hf
        refine mq_aaldm hx hb hK hP (N := 3) (shTC_X9_1 hp) rfl h_3 dX9_prepareGoings_215 ?_
        refine mq_nmo eo_4 ?_
        cases o_4 with
        | none =>
          replace hf := on_n hf
          refine lv_ifnonnullN hx hb dX9_prepareGoings_216 ?_
          refine lv_iconst (v := 0) hx hb dX9_prepareGoings_219 (by decide) ?_
          refine lv_goto (tgt := 232) hx hb dX9_prepareGoings_220 (by decide) ?_
          exact hc232 (f_X9_prepareGoings_c198 p0 n) ih x2 (p0 + 35 + (0 : Int32).toNatClampNeg) x2 0 g H locs ls (shTC_X9_35i_0 hp (mm_in_lt (by decide : mm_in 0 10 = true))) hP hS (lv_sub hl [0, 1, 2] rfl) hf
        | some q_6 =>
          replace hf := on_s hf
          refine lv_ifnonnull (tgt := 223) hx hb dX9_prepareGoings_216 (by decide) ?_
          refine lv_aload_n hx hb dX9_prepareGoings_223 rfl (lv_at hl 0 rfl) ?_
          refine mq_getr (Tt := TX9) (N := 19) (C := RX9) hx hb hts hiX9 hown hK hP hp rfl 0 1 (by decide) rfl hw2 (fun _ h9 => h9) dX9_prepareGoings_224 ?_
          refine lv_iload_n hx hb dX9_prepareGoings_227 rfl (lv_at hl 2 rfl) ?_
          obtain ⟨h_10, hf⟩ := og_some hf
          obtain ⟨o_11, eo_11, hf⟩ := mv_some hf
          obtain ⟨h_12, hf⟩ := og_some hf
          refine mq_aaldm hx hb hK hP (N := 3) (shTC_X9_1 hp) rfl h_10 dX9_prepareGoings_228 ?_
          refine mq_nmo eo_11 ?_
          obtain ⟨q_13, eq_13, hf⟩ := on_ex hf
          subst eq_13
          refine mq_geti (Tt := TX5) (N := 5) (C := RX5) hx hb hts hiX5 hown hK hP (mm_os_q h_12) rfl 2 (by decide) rfl hw3 (fun _ h9 => h9) dX9_prepareGoings_229 ?_
          exact hc232 (f_X9_prepareGoings_c198 p0 n) ih x2 (p0 + 35 + (0 : Int32).toNatClampNeg) x2 (g q_13 2) g H locs ls (shTC_X9_35i_0 hp (mm_in_lt (by decide : mm_in 0 10 = true))) hP hS (lv_sub hl [0, 1, 2] rfl) hf
  have hc83 : ∀ (K_2 : Int32 → Mm → Option (Mm)), (∀ (x2 : Int32) (g : Mm) (H : Heap) (locs : List Loc) (ls : Array Slot), va_P D vwCl (mm_L TC ad cy g) H → va_S (mm_A TC ad) s.heap H locs → lv_has ls 6 [(0, .ref (ad p0)), (1, .ref (ad q1)), (2, .int x2)] → K_2 x2 g = some g' → W p l e (headSpec wsX9_prepareGoings (rm_X9_prepareGoings)).room s m args below meth c H locs 0 0 (MQ below (mm_Qv D TC ad cy g') args s 0 0 (mm_A TC ad)) (F0 m 2 ls [])) → ∀ (n : Nat), ∀ (x2 : Int32) (o3 : Option Nat) (o4 : Option Nat) (x5 : Int32) (g : Mm) (H : Heap) (locs : List Loc) (ls : Array Slot), mm_os TC sX5 o3 = true → mm_os TC sX5 o4 = true → va_P D vwCl (mm_L TC ad cy g) H → va_S (mm_A TC ad) s.heap H locs → lv_has ls 6 [(0, .ref (ad p0)), (1, .ref (ad q1)), (2, .int x2), (3, va_rf (Option.map ad o3)), (4, va_rf (Option.map ad o4)), (5, .int x5)] → f_X9_prepareGoings_c83 K_2 p0 q1 n x2 o3 o4 x5 g = some g' → W p l e (headSpec wsX9_prepareGoings (rm_X9_prepareGoings)).room s m args below meth c H locs 0 0 (MQ below (mm_Qv D TC ad cy g') args s 0 0 (mm_A TC ad)) (F0 m 83 ls []) := by
    intro K_2 hK_2 n
    induction n with
    | zero =>
      intro x2 o3 o4 x5 g H locs ls ho3 ho4 hP hS hl hf
      rw [f_X9_prepareGoings_c83] at hf
      cases hf
    | succ n ih =>
      intro x2 o3 o4 x5 g H locs ls ho3 ho4 hP hS hl hf
      rw [f_X9_prepareGoings_c83] at hf
      refine lv_iload hx hb dX9_prepareGoings_83 (lv_at hl 5 rfl) ?_
      refine lv_bipush (v := 9) hx hb dX9_prepareGoings_85 (by decide) ?_
      refine lv_icmp_ge (tgt := 133) hx hb dX9_prepareGoings_87 (by decide) (fun c_25 => ?_) (fun c_25 => ?_)
      · replace hf := ite_t c_25 hf
        refine lv_aload_n hx hb dX9_prepareGoings_133 rfl (lv_at hl 0 rfl) ?_
        refine mq_getr (Tt := TX9) (N := 19) (C := RX9) hx hb hts hiX9 hown hK hP hp rfl 6 13 (by decide) rfl hw6 (fun _ h9 => h9) dX9_prepareGoings_134 ?_
        refine lv_iload_n hx hb dX9_prepareGoings_137 rfl (lv_at hl 2 rfl) ?_
        obtain ⟨h_26, hf⟩ := og_some hf
        refine mq_aaldA hx hb hK hP (N := 4) (shTC_X9_13 hp) h_26 dX9_prepareGoings_138 ?_
        refine lv_iconst (v := 0) hx hb dX9_prepareGoings_139 (by decide) ?_
        refine va_gets hx hb hzTIMES_A hS hown hw7 (fun _ h9 => h9) dX9_prepareGoings_140 ?_
        refine lv_iload_n hx hb dX9_prepareGoings_143 rfl (lv_at hl 2 rfl) ?_
        obtain ⟨h_27, hf⟩ := og_some hf
        refine va_ti hx hb htTIMES_A hS (mm_in_vp h_27) (v := .int (mm_tab mm_tA x2.toNatClampNeg)) rfl dX9_prepareGoings_144 ?_
        refine lv_aload_n hx hb dX9_prepareGoings_145 rfl (lv_at hl 0 rfl) ?_
        refine lv_iconst (v := 0) hx hb dX9_prepareGoings_146 (by decide) ?_
        obtain ⟨r_28, hr_29, hf⟩ := op_some hf
        refine mq_calli (va_runV (As := [.int 0]) (rest := [.int (mm_tab mm_tA x2.toNatClampNeg), .int 0, .ref (ad (p0 + 14 + x2.toNatClampNeg))]) ⟨hx, hb, hml, hown, hts⟩ (c_X9_wear l D ad cy p0 0 g hp r_28 hr_29) (cwV 1 hts gX9_prepareGoings_X9_wear rfl rfl rfl (by decide +kernel) ⟨Nat.le_of_ble_eq_true rfl, Nat.le_of_ble_eq_true rfl⟩) (mq_preV (q := (RX9, TX9, 19)) mm_zOkC hK hP hI hZ hS hp rfl) rfl rfl hl.1 rfl (lv_room (Nat.le_of_ble_eq_true rfl)) dX9_prepareGoings_147 ⟨Nat.le_refl _, Nat.le_refl _⟩) hS (fun H locs hP hS => ?_)
        refine lv_imul hx hb dX9_prepareGoings_150 ?_
        obtain ⟨g_30, eg_30, hf⟩ := mw_some hf
        refine mq_iast hx hb hK hI hP hS (N := 3) (shTC_X9_14i_0 hp (mm_in_lt h_26)) (by decide : mm_in 0 3 = true) dX9_prepareGoings_151 eg_30 (fun H locs hP hS => ?_)
        refine lv_aload_n hx hb dX9_prepareGoings_152 rfl (lv_at hl 0 rfl) ?_
        refine mq_getr (Tt := TX9) (N := 19) (C := RX9) hx hb hts hiX9 hown hK hP hp rfl 6 13 (by decide) rfl hw6 (fun _ h9 => h9) dX9_prepareGoings_153 ?_
        refine lv_iload_n hx hb dX9_prepareGoings_156 rfl (lv_at hl 2 rfl) ?_
        obtain ⟨h_31, hf⟩ := og_some hf
        refine mq_aaldA hx hb hK hP (N := 4) (shTC_X9_13 hp) h_31 dX9_prepareGoings_157 ?_
        refine lv_iconst (v := 1) hx hb dX9_prepareGoings_158 (by decide) ?_
        refine va_gets hx hb hzTIMES_B hS hown hw9 (fun _ h9 => h9) dX9_prepareGoings_159 ?_
        refine lv_iload_n hx hb dX9_prepareGoings_162 rfl (lv_at hl 2 rfl) ?_
        obtain ⟨h_32, hf⟩ := og_some hf
        refine va_ti hx hb htTIMES_B hS (mm_in_vp h_32) (v := .int (mm_tab mm_tB x2.toNatClampNeg)) rfl dX9_prepareGoings_163 ?_
        refine lv_aload_n hx hb dX9_prepareGoings_164 rfl (lv_at hl 0 rfl) ?_
        refine lv_iconst (v := 1) hx hb dX9_prepareGoings_165 (by decide) ?_
        obtain ⟨r_33, hr_34, hf⟩ := op_some hf
        refine mq_calli (va_runV (As := [.int 1]) (rest := [.int (mm_tab mm_tB x2.toNatClampNeg), .int 1, .ref (ad (p0 + 14 + x2.toNatClampNeg))]) ⟨hx, hb, hml, hown, hts⟩ (c_X9_wear l D ad cy p0 1 g_30 hp r_33 hr_34) (cwV 1 hts gX9_prepareGoings_X9_wear rfl rfl rfl (by decide +kernel) ⟨Nat.le_of_ble_eq_true rfl, Nat.le_of_ble_eq_true rfl⟩) (mq_preV (q := (RX9, TX9, 19)) mm_zOkC hK hP hI hZ hS hp rfl) rfl rfl hl.1 rfl (lv_room (Nat.le_of_ble_eq_true rfl)) dX9_prepareGoings_166 ⟨Nat.le_refl _, Nat.le_refl _⟩) hS (fun H locs hP hS => ?_)
        refine lv_imul hx hb dX9_prepareGoings_169 ?_
        obtain ⟨g_35, eg_35, hf⟩ := mw_some hf
        refine mq_iast hx hb hK hI hP hS (N := 3) (shTC_X9_14i_0 hp (mm_in_lt h_31)) (by decide : mm_in 1 3 = true) dX9_prepareGoings_170 eg_35 (fun H locs hP hS => ?_)
        refine lv_aload_n hx hb dX9_prepareGoings_171 rfl (lv_at hl 0 rfl) ?_
        refine mq_getr (Tt := TX9) (N := 19) (C := RX9) hx hb hts hiX9 hown hK hP hp rfl 6 13 (by decide) rfl hw6 (fun _ h9 => h9) dX9_prepareGoings_172 ?_
        refine lv_iload_n hx hb dX9_prepareGoings_175 rfl (lv_at hl 2 rfl) ?_
        obtain ⟨h_36, hf⟩ := og_some hf
        refine mq_aaldA hx hb hK hP (N := 4) (shTC_X9_13 hp) h_36 dX9_prepareGoings_176 ?_
        refine lv_iconst (v := 2) hx hb dX9_prepareGoings_177 (by decide) ?_
        refine va_gets hx hb hzTIMES_C hS hown hw11 (fun _ h9 => h9) dX9_prepareGoings_178 ?_
        refine lv_iload_n hx hb dX9_prepareGoings_181 rfl (lv_at hl 2 rfl) ?_
        obtain ⟨h_37, hf⟩ := og_some hf
        refine va_ti hx hb htTIMES_C hS (mm_in_vp h_37) (v := .int (mm_tab mm_tC x2.toNatClampNeg)) rfl dX9_prepareGoings_182 ?_
        refine lv_aload_n hx hb dX9_prepareGoings_183 rfl (lv_at hl 0 rfl) ?_
        refine lv_iconst (v := 2) hx hb dX9_prepareGoings_184 (by decide) ?_
        obtain ⟨r_38, hr_39, hf⟩ := op_some hf
        refine mq_calli (va_runV (As := [.int 2]) (rest := [.int (mm_tab mm_tC x2.toNatClampNeg), .int 2, .ref (ad (p0 + 14 + x2.toNatClampNeg))]) ⟨hx, hb, hml, hown, hts⟩ (c_X9_wear l D ad cy p0 2 g_35 hp r_38 hr_39) (cwV 1 hts gX9_prepareGoings_X9_wear rfl rfl rfl (by decide +kernel) ⟨Nat.le_of_ble_eq_true rfl, Nat.le_of_ble_eq_true rfl⟩) (mq_preV (q := (RX9, TX9, 19)) mm_zOkC hK hP hI hZ hS hp rfl) rfl rfl hl.1 rfl (lv_room (Nat.le_of_ble_eq_true rfl)) dX9_prepareGoings_185 ⟨Nat.le_refl _, Nat.le_refl _⟩) hS (fun H locs hP hS => ?_)
        refine lv_imul hx hb dX9_prepareGoings_188 ?_
        obtain ⟨g_40, eg_40, hf⟩ := mw_some hf
        refine mq_iast hx hb hK hI hP hS (N := 3) (shTC_X9_14i_0 hp (mm_in_lt h_36)) (by decide : mm_in 2 3 = true) dX9_prepareGoings_189 eg_40 (fun H locs hP hS => ?_)
        obtain ⟨x2_41, ex2_41, hf⟩ := mv_some hf
        refine lv_iinc (v := x2_41) (lv' := [(2, .int x2_41), (0, .ref (ad p0)), (1, .ref (ad q1)), (3, va_rf (Option.map ad o3)), (4, va_rf (Option.map ad o4)), (5, .int x5)]) hx hb dX9_prepareGoings_190 hl (k := 2) rfl (by rw [ex2_41]; rfl) (by decide) rfl (fun ls hl => ?_)
        refine lv_goto (tgt := 2) hx hb dX9_prepareGoings_193 (by decide) ?_
        exact hK_2 x2_41 g_40 H locs ls hP hS (lv_sub hl [1, 2, 0] rfl) hf
      · replace hf := ite_f c_25 hf
        refine lv_aload_n hx hb dX9_prepareGoings_90 rfl (lv_at hl 0 rfl) ?_
        refine mq_getr (Tt := TX9) (N := 19) (C := RX9) hx hb hts hiX9 hown hK hP hp rfl 4 3 (by decide) rfl hw13 (fun _ h9 => h9) dX9_prepareGoings_91 ?_
        refine lv_iload_n hx hb dX9_prepareGoings_94 rfl (lv_at hl 2 rfl) ?_
        obtain ⟨h_42, hf⟩ := og_some hf
        refine mq_aaldA hx hb hK hP (N := 4) (shTC_X9_3 hp) h_42 dX9_prepareGoings_95 ?_
        refine lv_iload hx hb dX9_prepareGoings_96 (lv_at hl 5 rfl) ?_
        refine lv_aload_n hx hb dX9_prepareGoings_98 rfl (lv_at hl 1 rfl) ?_
        refine lv_iload_n hx hb dX9_prepareGoings_99 rfl (lv_at hl 2 rfl) ?_
        refine lv_iload hx hb dX9_prepareGoings_100 (lv_at hl 5 rfl) ?_
        refine mq_aload_nq hx hb dX9_prepareGoings_102 rfl (lv_at hl 3 rfl) ?_
        refine mq_aloadq hx hb dX9_prepareGoings_103 (lv_at hl 4 rfl) ?_
        obtain ⟨r_43, hr_44, hf⟩ := op_some hf
        refine mq_calli (va_runV (As := [.int x2, .int x5, va_rf (Option.map ad o3), va_rf (Option.map ad o4)]) (rest := [.int x5, .ref (ad (p0 + 4 + x2.toNatClampNeg))]) ⟨hx, hb, hml, hown, hts⟩ (c_X10_minutesOf l D ad cy q1 x2 x5 o3 o4 g hq1 ho3 ho4 r_43 hr_44) (cwV 4 hts gX9_prepareGoings_X10_minutesOf rfl rfl rfl (by decide +kernel) ⟨Nat.le_of_ble_eq_true rfl, Nat.le_of_ble_eq_true rfl⟩) (mq_preV (q := (RX10, TX10, 9)) mm_zOkC hK hP hI hZ hS hq1 rfl) rfl rfl hl.1 rfl (lv_room (Nat.le_of_ble_eq_true rfl)) dX9_prepareGoings_105 ⟨Nat.le_refl _, Nat.le_refl _⟩) hS (fun H locs hP hS => ?_)
        obtain ⟨h_45, hf⟩ := og_some hf
        obtain ⟨g_46, eg_46, hf⟩ := mw_some hf
        refine mq_iast hx hb hK hI hP hS (N := 9) (shTC_X9_4i_0 hp (mm_in_lt h_42)) h_45 dX9_prepareGoings_108 eg_46 (fun H locs hP hS => ?_)
        refine lv_aload_n hx hb dX9_prepareGoings_109 rfl (lv_at hl 0 rfl) ?_
        refine mq_getr (Tt := TX9) (N := 19) (C := RX9) hx hb hts hiX9 hown hK hP hp rfl 5 8 (by decide) rfl hw14 (fun _ h9 => h9) dX9_prepareGoings_110 ?_
        refine lv_iload_n hx hb dX9_prepareGoings_113 rfl (lv_at hl 2 rfl) ?_
        obtain ⟨h_47, hf⟩ := og_some hf
        refine mq_aaldA hx hb hK hP (N := 4) (shTC_X9_8 hp) h_47 dX9_prepareGoings_114 ?_
        refine lv_iload hx hb dX9_prepareGoings_115 (lv_at hl 5 rfl) ?_
        refine lv_aload_n hx hb dX9_prepareGoings_117 rfl (lv_at hl 1 rfl) ?_
        refine lv_iload hx hb dX9_prepareGoings_118 (lv_at hl 5 rfl) ?_
        refine mq_aload_nq hx hb dX9_prepareGoings_120 rfl (lv_at hl 3 rfl) ?_
        refine mq_aloadq hx hb dX9_prepareGoings_121 (lv_at hl 4 rfl) ?_
        obtain ⟨r_48, hr_49, hf⟩ := op_some hf
        refine mq_calli (va_runV (As := [.int x5, va_rf (Option.map ad o3), va_rf (Option.map ad o4)]) (rest := [.int x5, .ref (ad (p0 + 9 + x2.toNatClampNeg))]) ⟨hx, hb, hml, hown, hts⟩ (c_X10_costOf l D ad cy q1 x5 o3 o4 g_46 hq1 ho3 ho4 r_48 hr_49) (cwV 3 hts gX9_prepareGoings_X10_costOf rfl rfl rfl (by decide +kernel) ⟨Nat.le_of_ble_eq_true rfl, Nat.le_of_ble_eq_true rfl⟩) (mq_preV (q := (RX10, TX10, 9)) mm_zOkC hK hP hI hZ hS hq1 rfl) rfl rfl hl.1 rfl (lv_room (Nat.le_of_ble_eq_true rfl)) dX9_prepareGoings_123 ⟨Nat.le_refl _, Nat.le_refl _⟩) hS (fun H locs hP hS => ?_)
        obtain ⟨h_50, hf⟩ := og_some hf
        obtain ⟨g_51, eg_51, hf⟩ := mw_some hf
        refine mq_iast hx hb hK hI hP hS (N := 9) (shTC_X9_9i_0 hp (mm_in_lt h_47)) h_50 dX9_prepareGoings_126 eg_51 (fun H locs hP hS => ?_)
        obtain ⟨x5_52, ex5_52, hf⟩ := mv_some hf
        refine lv_iinc (v := x5_52) (lv' := [(5, .int x5_52), (0, .ref (ad p0)), (1, .ref (ad q1)), (2, .int x2), (3, va_rf (Option.map ad o3)), (4, va_rf (Option.map ad o4))]) hx hb dX9_prepareGoings_127 hl (k := 5) rfl (by rw [ex5_52]; rfl) (by decide) (by cases o4 <;> rfl) (fun ls hl => ?_)
        refine lv_goto (tgt := 83) hx hb dX9_prepareGoings_130 (by decide) ?_
        exact ih x2 o3 o4 x5_52 g_51 H locs ls ho3 ho4 hP hS (lv_sub hl [1, 2, 3, 4, 5, 0] rfl) hf
  have hc64 : ∀ (K_2 : Int32 → Mm → Option (Mm)), (∀ (x2 : Int32) (g : Mm) (H : Heap) (locs : List Loc) (ls : Array Slot), va_P D vwCl (mm_L TC ad cy g) H → va_S (mm_A TC ad) s.heap H locs → lv_has ls 6 [(0, .ref (ad p0)), (1, .ref (ad q1)), (2, .int x2)] → K_2 x2 g = some g' → W p l e (headSpec wsX9_prepareGoings (rm_X9_prepareGoings)).room s m args below meth c H locs 0 0 (MQ below (mm_Qv D TC ad cy g') args s 0 0 (mm_A TC ad)) (F0 m 2 ls [])) → ∀ (x2 : Int32) (o3 : Option Nat) (so0 : Option Nat) (g : Mm) (H : Heap) (locs : List Loc) (ls : Array Slot), mm_os TC sX5 o3 = true → mm_os TC sX5 so0 = true → va_P D vwCl (mm_L TC ad cy g) H → va_S (mm_A TC ad) s.heap H locs → lv_has ls 6 [(0, .ref (ad p0)), (1, .ref (ad q1)), (2, .int x2), (3, va_rf (Option.map ad o3))] → f_X9_prepareGoings_c64 K_2 p0 q1 x2 o3 so0 g = some g' → W p l e (headSpec wsX9_prepareGoings (rm_X9_prepareGoings)).room s m args below meth c H locs 0 0 (MQ below (mm_Qv D TC ad cy g') args s 0 0 (mm_A TC ad)) (F0 m 64 ls [va_rf (Option.map ad so0)]) := by
    intro K_2 hK_2 x2 o3 so0 g H locs ls ho3 hso0 hP hS hl hf
    unfold f_X9_prepareGoings_c64 at hf
    refine mq_astoreq (lv' := [(4, va_rf (Option.map ad so0)), (0, .ref (ad p0)), (1, .ref (ad q1)), (2, .int x2), (3, va_rf (Option.map ad o3))]) hx hb dX9_prepareGoings_64 hl (by decide) (by cases o3 <;> cases so0 <;> rfl) (fun ls hl => ?_)
    refine lv_aload_n hx hb dX9_prepareGoings_66 rfl (lv_at hl 1 rfl) ?_
    refine mq_getr (Tt := TX9) (N := 19) (C := RX9) hx hb hts hiX9 hown hK hP hp rfl 3 2 (by decide) rfl hw5 (fun _ h9 => h9) dX9_prepareGoings_67 ?_
    refine lv_iload_n hx hb dX9_prepareGoings_70 rfl (lv_at hl 3 rfl) ?_
    refine lv_aload_n hx hb dX9_prepareGoings_71 rfl (lv_at hl 1 rfl) ?_
    refine lv_iload_n hx hb dX9_prepareGoings_72 rfl (lv_at hl 3 rfl) ?_
    refine mq_aload_nq hx hb dX9_prepareGoings_73 rfl (lv_at hl 4 rfl) ?_
    refine mq_aloadq hx hb dX9_prepareGoings_74 (lv_at hl 0 rfl) ?_
    obtain ⟨r_20, hr_21, hf⟩ := op_some hf
    refine mq_calli (va_runV (As := [.int x2, va_rf (Option.map ad o3), va_rf (Option.map ad so0)]) (rest := [.int x2, .ref (ad (p0 + 2))]) ⟨hx, hb, hml, hown, hts⟩ (c_X9_isOpenWith l D ad cy p0 x2 o3 so0 g hp ho3 hso0 r_20 hr_21) (cwV 3 hts gX9_prepareGoings_X9_isOpenWith rfl rfl rfl (by decide +kernel) ⟨Nat.le_of_ble_eq_true rfl, Nat.le_of_ble_eq_true rfl⟩) (mq_preV (q := (RX9, TX9, 19)) mm_zOkC hK hP hI hZ hS hp rfl) rfl rfl hl.1 rfl (lv_room (Nat.le_of_ble_eq_true rfl)) dX9_prepareGoings_76 ⟨Nat.le_refl _, Nat.le_refl _⟩) hS (fun H locs hP hS => ?_)
    obtain ⟨h_22, hf⟩ := og_some hf
    obtain ⟨h_23, hf⟩ := og_some hf
    obtain ⟨g_24, eg_24, hf⟩ := mw_some hf
    refine mq_zast hx hb hK hI hP hS (N := 4) (shTC_X9_2 hp) h_22 h_23 dX9_prepareGoings_79 eg_24 (fun H locs hP hS => ?_)
    refine lv_iconst (v := 0) hx hb dX9_prepareGoings_80 (by decide) ?_
    refine lv_istore (lv' := [(5, .int 0), (4, va_rf (Option.map ad so0)), (0, .ref (ad p0)), (1, .ref (ad q1)), (2, .int x2), (3, va_rf (Option.map ad o3))]) hx hb dX9_prepareGoings_81 hl (by decide) (by cases so0 <;> rfl) (fun ls hl => ?_)
    exact hc83 K_2 hK_2 FU x2 o3 so0 0 g_24 H locs ls ho3 hso0 hP hS (lv_sub hl [2, 3, 4, 5, 1, 0] rfl) hf
  have hc35 : ∀ (K_2 : Int32 → Mm → Option (Mm)), (∀ (x2 : Int32) (g : Mm) (H : Heap) (locs : List Loc) (ls : Array Slot), va_P D vwCl (mm_L TC ad cy g) H → va_S (mm_A TC ad) s.heap H locs → lv_has ls 6 [(0, .ref (ad p0)), (1, .ref (ad q1)), (2, .int x2)] → K_2 x2 g = some g' → W p l e (headSpec wsX9_prepareGoings (rm_X9_prepareGoings)).room s m args below meth c H locs 0 0 (MQ below (mm_Qv D TC ad cy g') args s 0 0 (mm_A TC ad)) (F0 m 2 ls [])) → ∀ (x2 : Int32) (so0 : Option Nat) (g : Mm) (H : Heap) (locs : List Loc) (ls : Array Slot), mm_os TC sX5 so0 = true → va_P D vwCl (mm_L TC ad cy g) H → va_S (mm_A TC ad) s.heap H locs → lv_has ls 6 [(0, .ref (ad p0)), (1, .ref (ad q1)), (2, .int x2)] → f_X9_prepareGoings_c35 K_2 p0 q1 x2 so0 g = some g' → W p l e (headSpec wsX9_prepareGoings (rm_X9_prepareGoings)).room s m args below meth c H locs 0 0 (MQ below (mm_Qv D TC ad cy g') args s 0 0 (mm_A TC ad)) (F0 m 35 ls [va_rf (Option.map ad so0)]) := by
    intro K_2 hK_2 x2 so0 g H locs ls hso0 hP hS hl hf
    unfold f_X9_prepareGoings_c35 at hf
    refine mq_astore_nq (lv' := [(3, va_rf (Option.map ad so0)), (0, .ref (ad p0)), (1, .ref (ad q1)), (2, .int x2)]) hx hb dX9_prepareGoings_35 rfl hl (by decide) (by cases so0 <;> rfl) (fun ls hl => ?_)
    refine lv_iload_n hx hb dX9_prepareGoings_36 rfl (lv_at hl 3 rfl) ?_
    refine lv_if_ne (tgt := 49) hx hb dX9_prepareGoings_37 (by decide) (fun c_18 => ?_) (fun c_18 => ?_)
    · replace hf := ite_f c_18 hf
      refine lv_iload_n hx hb dX9_prepareGoings_49 rfl (lv_at hl 3 rfl) ?_
      refine lv_iconst (v := 1) hx hb dX9_prepareGoings_50 (by decide) ?_
      refine lv_icmp_ne (tgt := 63) hx hb dX9_prepareGoings_51 (by decide) (fun c_19 => ?_) (fun c_19 => ?_)
      · replace hf := ite_f c_19 hf
        refine lv_null hx hb dX9_prepareGoings_63 ?_
        exact hc64 K_2 hK_2 x2 so0 none g H locs ls hso0 rfl hP hS (lv_sub hl [1, 2, 3, 0] rfl) hf
      · replace hf := ite_t c_19 hf
        refine lv_aload_n hx hb dX9_prepareGoings_54 rfl (lv_at hl 1 rfl) ?_
        refine mq_getr (Tt := TX9) (N := 19) (C := RX9) hx hb hts hiX9 hown hK hP hp rfl 0 1 (by decide) rfl hw2 (fun _ h9 => h9) dX9_prepareGoings_55 ?_
        refine lv_iconst (v := 2) hx hb dX9_prepareGoings_58 (by decide) ?_
        obtain ⟨o_53, eo_53, hf⟩ := mv_some hf
        obtain ⟨h_54, hf⟩ := og_some hf
        refine mq_aaldm hx hb hK hP (N := 3) (shTC_X9_1 hp) rfl (by decide : mm_in 2 3 = true) dX9_prepareGoings_59 ?_
        refine mq_nmo eo_53 ?_
        refine lv_goto (tgt := 64) hx hb dX9_prepareGoings_60 (by decide) ?_
        exact hc64 K_2 hK_2 x2 so0 o_53 g H locs ls hso0 h_54 hP hS (lv_sub hl [1, 2, 3, 0] rfl) hf
    · replace hf := ite_t c_18 hf
      refine lv_aload_n hx hb dX9_prepareGoings_40 rfl (lv_at hl 1 rfl) ?_
      refine mq_getr (Tt := TX9) (N := 19) (C := RX9) hx hb hts hiX9 hown hK hP hp rfl 0 1 (by decide) rfl hw2 (fun _ h9 => h9) dX9_prepareGoings_41 ?_
      refine lv_iconst (v := 1) hx hb dX9_prepareGoings_44 (by decide) ?_
      obtain ⟨o_55, eo_55, hf⟩ := mv_some hf
      obtain ⟨h_56, hf⟩ := og_some hf
      refine mq_aaldm hx hb hK hP (N := 3) (shTC_X9_1 hp) rfl (by decide : mm_in 1 3 = true) dX9_prepareGoings_45 ?_
      refine mq_nmo eo_55 ?_
      refine lv_goto (tgt := 64) hx hb dX9_prepareGoings_46 (by decide) ?_
      exact hc64 K_2 hK_2 x2 so0 o_55 g H locs ls hso0 h_56 hP hS (lv_sub hl [1, 2, 3, 0] rfl) hf
  have hc2 : ∀ (n : Nat), ∀ (x2 : Int32) (g : Mm) (H : Heap) (locs : List Loc) (ls : Array Slot), va_P D vwCl (mm_L TC ad cy g) H → va_S (mm_A TC ad) s.heap H locs → lv_has ls 6 [(0, .ref (ad p0)), (1, .ref (ad q1)), (2, .int x2)] → f_X9_prepareGoings_c2 p0 q1 n x2 g = some g' → W p l e (headSpec wsX9_prepareGoings (rm_X9_prepareGoings)).room s m args below meth c H locs 0 0 (MQ below (mm_Qv D TC ad cy g') args s 0 0 (mm_A TC ad)) (F0 m 2 ls []) := by
    intro n
    induction n with
    | zero =>
      intro x2 g H locs ls hP hS hl hf
      rw [f_X9_prepareGoings_c2] at hf
      cases hf
    | succ n ih =>
      intro x2 g H locs ls hP hS hl hf
      rw [f_X9_prepareGoings_c2] at hf
      refine lv_iload_n hx hb dX9_prepareGoings_2 rfl (lv_at hl 2 rfl) ?_
      refine lv_iconst (v := 4) hx hb dX9_prepareGoings_3 (by decide) ?_
      refine lv_icmp_ge (tgt := 196) hx hb dX9_prepareGoings_4 (by decide) (fun c_1 => ?_) (fun c_1 => ?_)
      · replace hf := ite_t c_1 hf
        refine lv_iconst (v := 0) hx hb dX9_prepareGoings_196 (by decide) ?_
        refine lv_istore_n (lv' := [(2, .int 0), (0, .ref (ad p0)), (1, .ref (ad q1))]) hx hb dX9_prepareGoings_197 rfl hl (by decide) rfl (fun ls hl => ?_)
        exact hc198 FU 0 g H locs ls hP hS (lv_sub hl [1, 2, 0] rfl) hf
      · replace hf := ite_f c_1 hf
        refine lv_iload_n hx hb dX9_prepareGoings_7 rfl (lv_at hl 2 rfl) ?_
        refine lv_if_ne (tgt := 20) hx hb dX9_prepareGoings_8 (by decide) (fun c_14 => ?_) (fun c_14 => ?_)
        · replace hf := ite_f c_14 hf
          refine lv_iload_n hx hb dX9_prepareGoings_20 rfl (lv_at hl 2 rfl) ?_
          refine lv_iconst (v := 3) hx hb dX9_prepareGoings_21 (by decide) ?_
          refine lv_icmp_ne (tgt := 29) hx hb dX9_prepareGoings_22 (by decide) (fun c_15 => ?_) (fun c_15 => ?_)
          · replace hf := ite_f c_15 hf
            refine lv_aload_n hx hb dX9_prepareGoings_29 rfl (lv_at hl 0 rfl) ?_
            refine mq_getr (Tt := TX9) (N := 19) (C := RX9) hx hb hts hiX9 hown hK hP hp rfl 0 1 (by decide) rfl hw2 (fun _ h9 => h9) dX9_prepareGoings_30 ?_
            refine lv_iconst (v := 1) hx hb dX9_prepareGoings_33 (by decide) ?_
            obtain ⟨o_16, eo_16, hf⟩ := mv_some hf
            obtain ⟨h_17, hf⟩ := og_some hf
            refine mq_aaldm hx hb hK hP (N := 3) (shTC_X9_1 hp) rfl (by decide : mm_in 1 3 = true) dX9_prepareGoings_34 ?_
            refine mq_nmo eo_16 ?_
            exact hc35 (f_X9_prepareGoings_c2 p0 q1 n) ih x2 o_16 g H locs ls h_17 hP hS (lv_sub hl [0, 1, 2] rfl) hf
          · replace hf := ite_t c_15 hf
            refine lv_null hx hb dX9_prepareGoings_25 ?_
            refine lv_goto (tgt := 35) hx hb dX9_prepareGoings_26 (by decide) ?_
            exact hc35 (f_X9_prepareGoings_c2 p0 q1 n) ih x2 none g H locs ls rfl hP hS (lv_sub hl [0, 1, 2] rfl) hf
        · replace hf := ite_t c_14 hf
          refine lv_aload_n hx hb dX9_prepareGoings_11 rfl (lv_at hl 0 rfl) ?_
          refine mq_getr (Tt := TX9) (N := 19) (C := RX9) hx hb hts hiX9 hown hK hP hp rfl 0 1 (by decide) rfl hw2 (fun _ h9 => h9) dX9_prepareGoings_12 ?_
          refine lv_iconst (v := 0) hx hb dX9_prepareGoings_15 (by decide) ?_
          obtain ⟨o_57, eo_57, hf⟩ := mv_some hf
          obtain ⟨h_58, hf⟩ := og_some hf
          refine mq_aaldm hx hb hK hP (N := 3) (shTC_X9_1 hp) rfl (by decide : mm_in 0 3 = true) dX9_prepareGoings_16 ?_
          refine mq_nmo eo_57 ?_
          refine lv_goto (tgt := 35) hx hb dX9_prepareGoings_17 (by decide) ?_
          exact hc35 (f_X9_prepareGoings_c2 p0 q1 n) ih x2 o_57 g H locs ls h_58 hP hS (lv_sub hl [0, 1, 2] rfl) hf
  unfold f_X9_prepareGoings at hf
  have hH9 : ∀ (H : Heap) (locs : List Loc), H = s.heap → locs = [] → va_P D vwCl (mm_L TC ad cy g) H → va_S (mm_A TC ad) s.heap H locs → W p l e (headSpec wsX9_prepareGoings (rm_X9_prepareGoings)).room s m args below meth c H locs 0 0 (MQ below (mm_Qv D TC ad cy g') args s 0 0 (mm_A TC ad)) (F0 m 0 ls []) := by
    intro H locs hH9 hL9 hP hS
    clear hH9 hL9
    refine lv_iconst (v := 0) hx hb dX9_prepareGoings_0 (by decide) ?_
    refine lv_istore_n (lv' := [(2, .int 0), (0, .ref (ad p0)), (1, .ref (ad q1))]) hx hb dX9_prepareGoings_1 rfl hl (by decide) rfl (fun ls hl => ?_)
    exact hc2 FU 0 g H locs ls hP hS (lv_sub hl [1, 2, 0] rfl) hf
  exact hH9 s.heap [] rfl rfl hP hS
abbrev rm_X9_prepareLeast : Room := ({ frames := 1, cells := 0, slots := 0, locals := 60 } : Room)
set_option maxHeartbeats 4000000 in
set_option maxRecDepth 100000 in
theorem c_X9_prepareLeast (l : Launch) (D : va_G) (ad : Nat → Nat) (cy : Nat → ClassId) (p0 : Nat) (g : Mm) (hp : TC[p0]? = some sX9) (g' : Mm) (hf : f_X9_prepareLeast p0 g = some g') : Met l yX9_prepareLeast wsX9_prepareLeast rm_X9_prepareLeast (va_Pc [.ref (ad p0)] (mm_pre mm_Z D TC ad cy g)) (mm_Qv D TC ad cy g') 0 0 (mm_A TC ad) := by
  refine Met.ofW (cc := cX9_prepareLeast) (maxL := 4) (ret := none) (by decide) rfl ?_
  intro p e s m args below meth c s₁ B hml hv
  obtain ⟨hargs, hP, hK, hI, hZ⟩ := hv
  have hx := B.exec
  have hb := B.bytes
  have hr := B.returns
  have hts := atoms_spec (ws := wsX9_prepareLeast) B.pre
  have hown : s.vm.findClass RX9 = some m.cls := findClass_of_methodNamed B.named
  have hlocks := B.notSynchronized
  have hw0 := hts (.fieldLink RX9 32 "LeftShoes$Walk" "leastMinutes" "[I") (by decide +kernel)
  have hiX9 : ∀ w ∈ wsX90, w ∈ wsX9_prepareLeast := by decide +kernel
  have hw2 := hts (.fieldLink RX9 74 "LeftShoes$Walk" "limit" "I") (by decide +kernel)
  have hw3 := hts (.fieldLink RX9 17 "LeftShoes$Walk" "isOpen" "[Z") (by decide +kernel)
  have hw4 := hts (.fieldLink RX9 23 "LeftShoes$Walk" "minutesOf" "[[I") (by decide +kernel)
  have hw5 := hts (.methodLink RX9 129 Lib.Math.min.name) (by decide +kernel)
  have hw6 := hts (.static Lib.Math.min.name) (by decide +kernel)
  have hw7 := hts (.initialized "java/lang/Math") (by decide +kernel)
  have hw8 := hts (.code Lib.Math.min.name Lib.Math.min.code 2 (some .int)) (by decide +kernel)
  rw [show entryFrame m args 4 = F0 m 0 ((lg_sl ([.ref (ad p0)] : List Value) ++ List.replicate (4 - (lg_sl ([.ref (ad p0)] : List Value)).length) Slot.unset).toArray) [] from by rw [hargs]; exact lg_entry_eq m _ _]
  have hl := lv_entry ([.ref (ad p0)] : List Value) (n := 4) (by exact Nat.le_of_ble_eq_true rfl)
  generalize (lg_sl ([.ref (ad p0)] : List Value) ++ List.replicate (4 - (lg_sl ([.ref (ad p0)] : List Value)).length) Slot.unset).toArray = ls at hl ⊢
  have hl : lv_has ls 4 [(0, .ref (ad p0))] := by exact hl
  have hS : va_S (mm_A TC ad) s.heap s.heap [] := va_S.rf
  clear hargs
  have hc24 : ∀ (K_11 : Int32 → Mm → Option (Mm)), (∀ (x1 : Int32) (g : Mm) (H : Heap) (locs : List Loc) (ls : Array Slot), va_P D vwCl (mm_L TC ad cy g) H → va_S (mm_A TC ad) s.heap H locs → lv_has ls 4 [(0, .ref (ad p0)), (1, .int x1)] → K_11 x1 g = some g' → W p l e (headSpec wsX9_prepareLeast (rm_X9_prepareLeast)).room s m args below meth c H locs 0 0 (MQ below (mm_Qv D TC ad cy g') args s 0 0 (mm_A TC ad)) (F0 m 11 ls [])) → ∀ (n : Nat), ∀ (x1 : Int32) (x2 : Int32) (x3 : Int32) (g : Mm) (H : Heap) (locs : List Loc) (ls : Array Slot), va_P D vwCl (mm_L TC ad cy g) H → va_S (mm_A TC ad) s.heap H locs → lv_has ls 4 [(0, .ref (ad p0)), (1, .int x1), (2, .int x2), (3, .int x3)] → f_X9_prepareLeast_c24 K_11 p0 n x1 x2 x3 g = some g' → W p l e (headSpec wsX9_prepareLeast (rm_X9_prepareLeast)).room s m args below meth c H locs 0 0 (MQ below (mm_Qv D TC ad cy g') args s 0 0 (mm_A TC ad)) (F0 m 24 ls []) := by
    intro K_11 hK_11 n
    induction n with
    | zero =>
      intro x1 x2 x3 g H locs ls hP hS hl hf
      rw [f_X9_prepareLeast_c24] at hf
      cases hf
    | succ n ih =>
      intro x1 x2 x3 g H locs ls hP hS hl hf
      rw [f_X9_prepareLeast_c24] at hf
      refine lv_iload_n hx hb dX9_prepareLeast_24 rfl (lv_at hl 3 rfl) ?_
      refine lv_iconst (v := 4) hx hb dX9_prepareLeast_25 (by decide) ?_
      refine lv_icmp_ge (tgt := 57) hx hb dX9_prepareLeast_26 (by decide) (fun c_4 => ?_) (fun c_4 => ?_)
      · replace hf := ite_t c_4 hf
        refine lv_aload_n hx hb dX9_prepareLeast_57 rfl (lv_at hl 0 rfl) ?_
        refine mq_getr (Tt := TX9) (N := 19) (C := RX9) hx hb hts hiX9 hown hK hP hp rfl 7 18 (by decide) rfl hw0 (fun _ h9 => h9) dX9_prepareLeast_58 ?_
        refine lv_iload_n hx hb dX9_prepareLeast_61 rfl (lv_at hl 1 rfl) ?_
        refine lv_aload_n hx hb dX9_prepareLeast_62 rfl (lv_at hl 0 rfl) ?_
        refine mq_getr (Tt := TX9) (N := 19) (C := RX9) hx hb hts hiX9 hown hK hP hp rfl 7 18 (by decide) rfl hw0 (fun _ h9 => h9) dX9_prepareLeast_63 ?_
        refine lv_iload_n hx hb dX9_prepareLeast_66 rfl (lv_at hl 1 rfl) ?_
        refine lv_iconst (v := 1) hx hb dX9_prepareLeast_67 (by decide) ?_
        refine lv_iadd hx hb dX9_prepareLeast_68 ?_
        obtain ⟨h_5, hf⟩ := og_some hf
        refine mq_iald hx hb hK hP (N := 10) (shTC_X9_18 hp) h_5 dX9_prepareLeast_69 ?_
        refine lv_iload_n hx hb dX9_prepareLeast_70 rfl (lv_at hl 2 rfl) ?_
        refine lv_iadd hx hb dX9_prepareLeast_71 ?_
        obtain ⟨h_6, hf⟩ := og_some hf
        obtain ⟨g_7, eg_7, hf⟩ := mw_some hf
        refine mq_iast hx hb hK hI hP hS (N := 10) (shTC_X9_18 hp) h_6 dX9_prepareLeast_72 eg_7 (fun H locs hP hS => ?_)
        obtain ⟨x1_8, ex1_8, hf⟩ := mv_some hf
        refine lv_iinc (v := x1_8) (lv' := [(1, .int x1_8), (0, .ref (ad p0)), (2, .int x2), (3, .int x3)]) hx hb dX9_prepareLeast_73 hl (k := 1) rfl (by rw [ex1_8]; rfl) (by decide) rfl (fun ls hl => ?_)
        refine lv_goto (tgt := 11) hx hb dX9_prepareLeast_76 (by decide) ?_
        exact hK_11 x1_8 g_7 H locs ls hP hS (lv_sub hl [1, 0] rfl) hf
      · replace hf := ite_f c_4 hf
        refine lv_aload_n hx hb dX9_prepareLeast_29 rfl (lv_at hl 0 rfl) ?_
        refine mq_getr (Tt := TX9) (N := 19) (C := RX9) hx hb hts hiX9 hown hK hP hp rfl 3 2 (by decide) rfl hw3 (fun _ h9 => h9) dX9_prepareLeast_30 ?_
        refine lv_iload_n hx hb dX9_prepareLeast_33 rfl (lv_at hl 3 rfl) ?_
        obtain ⟨h_9, hf⟩ := og_some hf
        refine mq_zald hx hb hK hP (N := 4) (shTC_X9_2 hp) h_9 dX9_prepareLeast_34 ?_
        refine lv_if_eq (tgt := 51) hx hb dX9_prepareLeast_35 (by decide) (fun c_10 => ?_) (fun c_10 => ?_)
        · replace hf := ite_t c_10 hf
          obtain ⟨x3_11, ex3_11, hf⟩ := mv_some hf
          refine lv_iinc (v := x3_11) (lv' := [(3, .int x3_11), (0, .ref (ad p0)), (1, .int x1), (2, .int x2)]) hx hb dX9_prepareLeast_51 hl (k := 3) rfl (by rw [ex3_11]; rfl) (by decide) rfl (fun ls hl => ?_)
          refine lv_goto (tgt := 24) hx hb dX9_prepareLeast_54 (by decide) ?_
          exact ih x1 x2 x3_11 g H locs ls hP hS (lv_sub hl [1, 2, 3, 0] rfl) hf
        · replace hf := ite_f c_10 hf
          refine lv_iload_n hx hb dX9_prepareLeast_38 rfl (lv_at hl 2 rfl) ?_
          refine lv_aload_n hx hb dX9_prepareLeast_39 rfl (lv_at hl 0 rfl) ?_
          refine mq_getr (Tt := TX9) (N := 19) (C := RX9) hx hb hts hiX9 hown hK hP hp rfl 4 3 (by decide) rfl hw4 (fun _ h9 => h9) dX9_prepareLeast_40 ?_
          refine lv_iload_n hx hb dX9_prepareLeast_43 rfl (lv_at hl 3 rfl) ?_
          obtain ⟨h_12, hf⟩ := og_some hf
          refine mq_aaldA hx hb hK hP (N := 4) (shTC_X9_3 hp) h_12 dX9_prepareLeast_44 ?_
          refine lv_iload_n hx hb dX9_prepareLeast_45 rfl (lv_at hl 1 rfl) ?_
          obtain ⟨h_13, hf⟩ := og_some hf
          refine mq_iald hx hb hK hP (N := 9) (shTC_X9_4i_0 hp (mm_in_lt h_12)) h_13 dX9_prepareLeast_46 ?_
          refine va_mmin hx hb (hml.trans hl.1.symm) hown hw5 hw6 hw7 hw8 (Nat.le_of_ble_eq_true rfl) (Nat.le_of_ble_eq_true rfl) (Nat.le_refl _) (Nat.le_refl _) dX9_prepareLeast_47 ?_
          obtain ⟨x2_14, ex2_14, hf⟩ := mv_some hf
          refine mq_nm ex2_14 ?_
          refine lv_istore_n (lv' := [(2, .int x2_14), (0, .ref (ad p0)), (1, .int x1), (3, .int x3)]) hx hb dX9_prepareLeast_50 rfl hl (by decide) rfl (fun ls hl => ?_)
          obtain ⟨x3_15, ex3_15, hf⟩ := mv_some hf
          refine lv_iinc (v := x3_15) (lv' := [(3, .int x3_15), (2, .int x2_14), (0, .ref (ad p0)), (1, .int x1)]) hx hb dX9_prepareLeast_51 hl (k := 3) rfl (by rw [ex3_15]; rfl) (by decide) rfl (fun ls hl => ?_)
          refine lv_goto (tgt := 24) hx hb dX9_prepareLeast_54 (by decide) ?_
          exact ih x1 x2_14 x3_15 g H locs ls hP hS (lv_sub hl [2, 3, 1, 0] rfl) hf
  have hc11 : ∀ (n : Nat), ∀ (x1 : Int32) (g : Mm) (H : Heap) (locs : List Loc) (ls : Array Slot), va_P D vwCl (mm_L TC ad cy g) H → va_S (mm_A TC ad) s.heap H locs → lv_has ls 4 [(0, .ref (ad p0)), (1, .int x1)] → f_X9_prepareLeast_c11 p0 n x1 g = some g' → W p l e (headSpec wsX9_prepareLeast (rm_X9_prepareLeast)).room s m args below meth c H locs 0 0 (MQ below (mm_Qv D TC ad cy g') args s 0 0 (mm_A TC ad)) (F0 m 11 ls []) := by
    intro n
    induction n with
    | zero =>
      intro x1 g H locs ls hP hS hl hf
      rw [f_X9_prepareLeast_c11] at hf
      cases hf
    | succ n ih =>
      intro x1 g H locs ls hP hS hl hf
      rw [f_X9_prepareLeast_c11] at hf
      refine lv_iload_n hx hb dX9_prepareLeast_11 rfl (lv_at hl 1 rfl) ?_
      refine lv_if_lt (tgt := 79) hx hb dX9_prepareLeast_12 (by decide) (fun c_2 => ?_) (fun c_2 => ?_)
      · replace hf := ite_t c_2 hf
        exact mq_vret hx hb hr hlocks hP hS (Option.some.inj hf) dX9_prepareLeast_79
      · replace hf := ite_f c_2 hf
        refine lv_aload_n hx hb dX9_prepareLeast_15 rfl (lv_at hl 0 rfl) ?_
        refine mq_geti (Tt := TX9) (N := 19) (C := RX9) hx hb hts hiX9 hown hK hP hp rfl 2 (by decide) rfl hw2 (fun _ h9 => h9) dX9_prepareLeast_16 ?_
        refine lv_iconst (v := 1) hx hb dX9_prepareLeast_19 (by decide) ?_
        refine lv_iadd hx hb dX9_prepareLeast_20 ?_
        obtain ⟨x2_3, ex2_3, hf⟩ := mv_some hf
        refine mq_nm ex2_3 ?_
        refine lv_istore_n (lv' := [(2, .int x2_3), (0, .ref (ad p0)), (1, .int x1)]) hx hb dX9_prepareLeast_21 rfl hl (by decide) rfl (fun ls hl => ?_)
        refine lv_iconst (v := 0) hx hb dX9_prepareLeast_22 (by decide) ?_
        refine lv_istore_n (lv' := [(3, .int 0), (2, .int x2_3), (0, .ref (ad p0)), (1, .int x1)]) hx hb dX9_prepareLeast_23 rfl hl (by decide) rfl (fun ls hl => ?_)
        exact hc24 (f_X9_prepareLeast_c11 p0 n) ih FU x1 x2_3 0 g H locs ls hP hS (lv_sub hl [2, 3, 1, 0] rfl) hf
  unfold f_X9_prepareLeast at hf
  have hH9 : ∀ (H : Heap) (locs : List Loc), H = s.heap → locs = [] → va_P D vwCl (mm_L TC ad cy g) H → va_S (mm_A TC ad) s.heap H locs → W p l e (headSpec wsX9_prepareLeast (rm_X9_prepareLeast)).room s m args below meth c H locs 0 0 (MQ below (mm_Qv D TC ad cy g') args s 0 0 (mm_A TC ad)) (F0 m 0 ls []) := by
    intro H locs hH9 hL9 hP hS
    clear hH9 hL9
    refine lv_aload_n hx hb dX9_prepareLeast_0 rfl (lv_at hl 0 rfl) ?_
    refine mq_getr (Tt := TX9) (N := 19) (C := RX9) hx hb hts hiX9 hown hK hP hp rfl 7 18 (by decide) rfl hw0 (fun _ h9 => h9) dX9_prepareLeast_1 ?_
    refine lv_bipush (v := 9) hx hb dX9_prepareLeast_4 (by decide) ?_
    refine lv_iconst (v := 0) hx hb dX9_prepareLeast_6 (by decide) ?_
    obtain ⟨g_1, eg_1, hf⟩ := mw_some hf
    refine mq_iast hx hb hK hI hP hS (N := 10) (shTC_X9_18 hp) (by decide : mm_in 9 10 = true) dX9_prepareLeast_7 eg_1 (fun H locs hP hS => ?_)
    refine lv_bipush (v := 8) hx hb dX9_prepareLeast_8 (by decide) ?_
    refine lv_istore_n (lv' := [(1, .int 8), (0, .ref (ad p0))]) hx hb dX9_prepareLeast_10 rfl hl (by decide) rfl (fun ls hl => ?_)
    exact hc11 FU 8 g_1 H locs ls hP hS (lv_sub hl [1, 0] rfl) hf
  exact hH9 s.heap [] rfl rfl hP hS
abbrev rm_X9_isAllowed : Room := ({ frames := 0, cells := 0, slots := 0, locals := 0 } : Room)
set_option maxHeartbeats 4000000 in
set_option maxRecDepth 100000 in
theorem c_X9_isAllowed (l : Launch) (D : va_G) (ad : Nat → Nat) (cy : Nat → ClassId) (p0 : Nat) (x1 : Int32) (x2 : Int32) (g : Mm) (hp : TC[p0]? = some sX9) (r0 : Int32) (hf : f_X9_isAllowed p0 x1 x2 g = some r0) : Met l yX9_isAllowed wsX9_isAllowed rm_X9_isAllowed (va_Pc [.ref (ad p0), .int x1, .int x2] (mm_pre mm_Z D TC ad cy g)) (mm_Qi D TC ad cy r0 g) 0 0 (mm_A TC ad) := by
  refine Met.ofW (cc := cX9_isAllowed) (maxL := 3) (ret := (some .boolean)) (by decide) rfl ?_
  intro p e s m args below meth c s₁ B hml hv
  obtain ⟨hargs, hP, hK, hI, hZ⟩ := hv
  have hx := B.exec
  have hb := B.bytes
  have hr := B.returns
  have hts := atoms_spec (ws := wsX9_isAllowed) B.pre
  have hown : s.vm.findClass RX9 = some m.cls := findClass_of_methodNamed B.named
  have hlocks := B.notSynchronized
  have hw0 := hts (.fieldLink RX9 17 "LeftShoes$Walk" "isOpen" "[Z") (by decide +kernel)
  have hiX9 : ∀ w ∈ wsX90, w ∈ wsX9_isAllowed := by decide +kernel
  have hw2 := hts (.fieldLink RX9 70 "LeftShoes$Walk" "isOneFooted" "Z") (by decide +kernel)
  have hw3 := hts (.fieldLink RX9 48 "LeftShoes$Walk" "hopsTo" "[I") (by decide +kernel)
  have hw4 := hts (.fieldLink RX9 45 "LeftShoes$Walk" "goneTo" "[[I") (by decide +kernel)
  rw [show entryFrame m args 3 = F0 m 0 ((lg_sl ([.ref (ad p0), .int x1, .int x2] : List Value) ++ List.replicate (3 - (lg_sl ([.ref (ad p0), .int x1, .int x2] : List Value)).length) Slot.unset).toArray) [] from by rw [hargs]; exact lg_entry_eq m _ _]
  have hl := lv_entry ([.ref (ad p0), .int x1, .int x2] : List Value) (n := 3) (by exact Nat.le_of_ble_eq_true rfl)
  generalize (lg_sl ([.ref (ad p0), .int x1, .int x2] : List Value) ++ List.replicate (3 - (lg_sl ([.ref (ad p0), .int x1, .int x2] : List Value)).length) Slot.unset).toArray = ls at hl ⊢
  have hl : lv_has ls 3 [(0, .ref (ad p0)), (1, .int x1), (2, .int x2)] := by exact hl
  have hS : va_S (mm_A TC ad) s.heap s.heap [] := va_S.rf
  clear hargs
  unfold f_X9_isAllowed at hf
  have hH9 : ∀ (H : Heap) (locs : List Loc), H = s.heap → locs = [] → va_P D vwCl (mm_L TC ad cy g) H → va_S (mm_A TC ad) s.heap H locs → W p l e (headSpec wsX9_isAllowed (rm_X9_isAllowed)).room s m args below meth c H locs 0 0 (MQ below (mm_Qi D TC ad cy r0 g) args s 0 0 (mm_A TC ad)) (F0 m 0 ls []) := by
    intro H locs hH9 hL9 hP hS
    clear hH9 hL9
    refine lv_aload_n hx hb dX9_isAllowed_0 rfl (lv_at hl 0 rfl) ?_
    refine mq_getr (Tt := TX9) (N := 19) (C := RX9) hx hb hts hiX9 hown hK hP hp rfl 3 2 (by decide) rfl hw0 (fun _ h9 => h9) dX9_isAllowed_1 ?_
    refine lv_iload_n hx hb dX9_isAllowed_4 rfl (lv_at hl 2 rfl) ?_
    obtain ⟨h_1, hf⟩ := og_some hf
    refine mq_zald hx hb hK hP (N := 4) (shTC_X9_2 hp) h_1 dX9_isAllowed_5 ?_
    refine lv_if_ne (tgt := 11) hx hb dX9_isAllowed_6 (by decide) (fun c_2 => ?_) (fun c_2 => ?_)
    · replace hf := ite_f c_2 hf
      refine lv_iload_n hx hb dX9_isAllowed_11 rfl (lv_at hl 2 rfl) ?_
      refine lv_iconst (v := 3) hx hb dX9_isAllowed_12 (by decide) ?_
      refine lv_icmp_ne (tgt := 34) hx hb dX9_isAllowed_13 (by decide) (fun c_3 => ?_) (fun c_3 => ?_)
      · replace hf := ite_f c_3 hf
        refine lv_iload_n hx hb dX9_isAllowed_34 rfl (lv_at hl 2 rfl) ?_
        refine lv_iconst (v := 2) hx hb dX9_isAllowed_35 (by decide) ?_
        refine lv_icmp_ne (tgt := 56) hx hb dX9_isAllowed_36 (by decide) (fun c_4 => ?_) (fun c_4 => ?_)
        · replace hf := ite_f c_4 hf
          refine lv_iconst (v := 1) hx hb dX9_isAllowed_56 (by decide) ?_
          refine lv_goto (tgt := 61) hx hb dX9_isAllowed_57 (by decide) ?_
          exact mq_iret hx hb hr (by decide +kernel) hlocks hP hS (Option.some.inj hf) rfl dX9_isAllowed_61
        · replace hf := ite_t c_4 hf
          refine lv_aload_n hx hb dX9_isAllowed_39 rfl (lv_at hl 0 rfl) ?_
          refine mq_geti (Tt := TX9) (N := 19) (C := RX9) hx hb hts hiX9 hown hK hP hp rfl 1 (by decide) rfl hw2 (fun _ h9 => h9) dX9_isAllowed_40 ?_
          refine lv_if_ne (tgt := 56) hx hb dX9_isAllowed_43 (by decide) (fun c_5 => ?_) (fun c_5 => ?_)
          · replace hf := ite_f c_5 hf
            refine lv_iconst (v := 1) hx hb dX9_isAllowed_56 (by decide) ?_
            refine lv_goto (tgt := 61) hx hb dX9_isAllowed_57 (by decide) ?_
            exact mq_iret hx hb hr (by decide +kernel) hlocks hP hS (Option.some.inj hf) rfl dX9_isAllowed_61
          · replace hf := ite_t c_5 hf
            refine lv_aload_n hx hb dX9_isAllowed_46 rfl (lv_at hl 0 rfl) ?_
            refine mq_getr (Tt := TX9) (N := 19) (C := RX9) hx hb hts hiX9 hown hK hP hp rfl 12 33 (by decide) rfl hw3 (fun _ h9 => h9) dX9_isAllowed_47 ?_
            refine lv_iload_n hx hb dX9_isAllowed_50 rfl (lv_at hl 1 rfl) ?_
            obtain ⟨h_6, hf⟩ := og_some hf
            refine mq_iald hx hb hK hP (N := 10) (shTC_X9_33 hp) h_6 dX9_isAllowed_51 ?_
            refine lv_iconst (v := 2) hx hb dX9_isAllowed_52 (by decide) ?_
            refine lv_icmp_ge (tgt := 60) hx hb dX9_isAllowed_53 (by decide) (fun c_7 => ?_) (fun c_7 => ?_)
            · replace hf := ite_t c_7 hf
              refine lv_iconst (v := 0) hx hb dX9_isAllowed_60 (by decide) ?_
              exact mq_iret hx hb hr (by decide +kernel) hlocks hP hS (Option.some.inj hf) rfl dX9_isAllowed_61
            · replace hf := ite_f c_7 hf
              refine lv_iconst (v := 1) hx hb dX9_isAllowed_56 (by decide) ?_
              refine lv_goto (tgt := 61) hx hb dX9_isAllowed_57 (by decide) ?_
              exact mq_iret hx hb hr (by decide +kernel) hlocks hP hS (Option.some.inj hf) rfl dX9_isAllowed_61
      · replace hf := ite_t c_3 hf
        refine lv_aload_n hx hb dX9_isAllowed_16 rfl (lv_at hl 0 rfl) ?_
        refine mq_getr (Tt := TX9) (N := 19) (C := RX9) hx hb hts hiX9 hown hK hP hp rfl 11 22 (by decide) rfl hw4 (fun _ h9 => h9) dX9_isAllowed_17 ?_
        refine lv_iload_n hx hb dX9_isAllowed_20 rfl (lv_at hl 1 rfl) ?_
        obtain ⟨h_8, hf⟩ := og_some hf
        refine mq_aaldA hx hb hK hP (N := 10) (shTC_X9_22 hp) h_8 dX9_isAllowed_21 ?_
        refine lv_iconst (v := 3) hx hb dX9_isAllowed_22 (by decide) ?_
        refine mq_iald hx hb hK hP (N := 4) (shTC_X9_23i_0 hp (mm_in_lt h_8)) (by decide : mm_in 3 4 = true) dX9_isAllowed_23 ?_
        refine lv_iconst (v := 4) hx hb dX9_isAllowed_24 (by decide) ?_
        refine lv_icmp_ge (tgt := 32) hx hb dX9_isAllowed_25 (by decide) (fun c_9 => ?_) (fun c_9 => ?_)
        · replace hf := ite_t c_9 hf
          refine lv_iconst (v := 0) hx hb dX9_isAllowed_32 (by decide) ?_
          exact mq_iret hx hb hr (by decide +kernel) hlocks hP hS (Option.some.inj hf) rfl dX9_isAllowed_33
        · replace hf := ite_f c_9 hf
          refine lv_iconst (v := 1) hx hb dX9_isAllowed_28 (by decide) ?_
          refine lv_goto (tgt := 33) hx hb dX9_isAllowed_29 (by decide) ?_
          exact mq_iret hx hb hr (by decide +kernel) hlocks hP hS (Option.some.inj hf) rfl dX9_isAllowed_33
    · replace hf := ite_t c_2 hf
      refine lv_iconst (v := 0) hx hb dX9_isAllowed_9 (by decide) ?_
      exact mq_iret hx hb hr (by decide +kernel) hlocks hP hS (Option.some.inj hf) rfl dX9_isAllowed_10
  exact hH9 s.heap [] rfl rfl hP hS
abbrev rm_X9_hasSoles : Room := ({ frames := 0, cells := 0, slots := 0, locals := 0 } : Room)
set_option maxHeartbeats 4000000 in
set_option maxRecDepth 100000 in
theorem c_X9_hasSoles (l : Launch) (D : va_G) (ad : Nat → Nat) (cy : Nat → ClassId) (p0 : Nat) (x1 : Int32) (x2 : Int32) (g : Mm) (hp : TC[p0]? = some sX9) (r0 : Int32) (hf : f_X9_hasSoles p0 x1 x2 g = some r0) : Met l yX9_hasSoles wsX9_hasSoles rm_X9_hasSoles (va_Pc [.ref (ad p0), .int x1, .int x2] (mm_pre mm_Z D TC ad cy g)) (mm_Qi D TC ad cy r0 g) 0 0 (mm_A TC ad) := by
  refine Met.ofW (cc := cX9_hasSoles) (maxL := 4) (ret := (some .boolean)) (by decide) rfl ?_
  intro p e s m args below meth c s₁ B hml hv
  obtain ⟨hargs, hP, hK, hI, hZ⟩ := hv
  have hx := B.exec
  have hb := B.bytes
  have hr := B.returns
  have hts := atoms_spec (ws := wsX9_hasSoles) B.pre
  have hown : s.vm.findClass RX9 = some m.cls := findClass_of_methodNamed B.named
  have hlocks := B.notSynchronized
  have hw0 := hts (.fieldLink RX9 51 "LeftShoes$Walk" "solesAt" "[[I") (by decide +kernel)
  have hiX9 : ∀ w ∈ wsX90, w ∈ wsX9_hasSoles := by decide +kernel
  have hw2 := hts (.fieldLink RX9 29 "LeftShoes$Walk" "wearOf" "[[I") (by decide +kernel)
  rw [show entryFrame m args 4 = F0 m 0 ((lg_sl ([.ref (ad p0), .int x1, .int x2] : List Value) ++ List.replicate (4 - (lg_sl ([.ref (ad p0), .int x1, .int x2] : List Value)).length) Slot.unset).toArray) [] from by rw [hargs]; exact lg_entry_eq m _ _]
  have hl := lv_entry ([.ref (ad p0), .int x1, .int x2] : List Value) (n := 4) (by exact Nat.le_of_ble_eq_true rfl)
  generalize (lg_sl ([.ref (ad p0), .int x1, .int x2] : List Value) ++ List.replicate (4 - (lg_sl ([.ref (ad p0), .int x1, .int x2] : List Value)).length) Slot.unset).toArray = ls at hl ⊢
  have hl : lv_has ls 4 [(0, .ref (ad p0)), (1, .int x1), (2, .int x2)] := by exact hl
  have hS : va_S (mm_A TC ad) s.heap s.heap [] := va_S.rf
  clear hargs
  have hc2 : ∀ (n : Nat), ∀ (x3 : Int32) (H : Heap) (locs : List Loc) (ls : Array Slot), va_P D vwCl (mm_L TC ad cy g) H → va_S (mm_A TC ad) s.heap H locs → lv_has ls 4 [(0, .ref (ad p0)), (1, .int x1), (2, .int x2), (3, .int x3)] → f_X9_hasSoles_c2 p0 x1 x2 n x3 g = some r0 → W p l e (headSpec wsX9_hasSoles (rm_X9_hasSoles)).room s m args below meth c H locs 0 0 (MQ below (mm_Qi D TC ad cy r0 g) args s 0 0 (mm_A TC ad)) (F0 m 2 ls []) := by
    intro n
    induction n with
    | zero =>
      intro x3 H locs ls hP hS hl hf
      rw [f_X9_hasSoles_c2] at hf
      cases hf
    | succ n ih =>
      intro x3 H locs ls hP hS hl hf
      rw [f_X9_hasSoles_c2] at hf
      refine lv_iload_n hx hb dX9_hasSoles_2 rfl (lv_at hl 3 rfl) ?_
      refine lv_iconst (v := 3) hx hb dX9_hasSoles_3 (by decide) ?_
      refine lv_icmp_ge (tgt := 34) hx hb dX9_hasSoles_4 (by decide) (fun c_1 => ?_) (fun c_1 => ?_)
      · replace hf := ite_t c_1 hf
        refine lv_iconst (v := 1) hx hb dX9_hasSoles_34 (by decide) ?_
        exact mq_iret hx hb hr (by decide +kernel) hlocks hP hS (Option.some.inj hf) rfl dX9_hasSoles_35
      · replace hf := ite_f c_1 hf
        refine lv_aload_n hx hb dX9_hasSoles_7 rfl (lv_at hl 0 rfl) ?_
        refine mq_getr (Tt := TX9) (N := 19) (C := RX9) hx hb hts hiX9 hown hK hP hp rfl 13 34 (by decide) rfl hw0 (fun _ h9 => h9) dX9_hasSoles_8 ?_
        refine lv_iload_n hx hb dX9_hasSoles_11 rfl (lv_at hl 1 rfl) ?_
        obtain ⟨h_2, hf⟩ := og_some hf
        refine mq_aaldA hx hb hK hP (N := 10) (shTC_X9_34 hp) h_2 dX9_hasSoles_12 ?_
        refine lv_iload_n hx hb dX9_hasSoles_13 rfl (lv_at hl 3 rfl) ?_
        obtain ⟨h_3, hf⟩ := og_some hf
        refine mq_iald hx hb hK hP (N := 3) (shTC_X9_35i_0 hp (mm_in_lt h_2)) h_3 dX9_hasSoles_14 ?_
        refine lv_aload_n hx hb dX9_hasSoles_15 rfl (lv_at hl 0 rfl) ?_
        refine mq_getr (Tt := TX9) (N := 19) (C := RX9) hx hb hts hiX9 hown hK hP hp rfl 6 13 (by decide) rfl hw2 (fun _ h9 => h9) dX9_hasSoles_16 ?_
        refine lv_iload_n hx hb dX9_hasSoles_19 rfl (lv_at hl 2 rfl) ?_
        obtain ⟨h_4, hf⟩ := og_some hf
        refine mq_aaldA hx hb hK hP (N := 4) (shTC_X9_13 hp) h_4 dX9_hasSoles_20 ?_
        refine lv_iload_n hx hb dX9_hasSoles_21 rfl (lv_at hl 3 rfl) ?_
        obtain ⟨h_5, hf⟩ := og_some hf
        refine mq_iald hx hb hK hP (N := 3) (shTC_X9_14i_0 hp (mm_in_lt h_4)) h_5 dX9_hasSoles_22 ?_
        refine lv_icmp_ge (tgt := 28) hx hb dX9_hasSoles_23 (by decide) (fun c_6 => ?_) (fun c_6 => ?_)
        · replace hf := ite_t c_6 hf
          obtain ⟨x3_7, ex3_7, hf⟩ := mv_some hf
          refine lv_iinc (v := x3_7) (lv' := [(3, .int x3_7), (0, .ref (ad p0)), (1, .int x1), (2, .int x2)]) hx hb dX9_hasSoles_28 hl (k := 3) rfl (by rw [ex3_7]; rfl) (by decide) rfl (fun ls hl => ?_)
          refine lv_goto (tgt := 2) hx hb dX9_hasSoles_31 (by decide) ?_
          exact ih x3_7 H locs ls hP hS (lv_sub hl [1, 2, 3, 0] rfl) hf
        · replace hf := ite_f c_6 hf
          refine lv_iconst (v := 0) hx hb dX9_hasSoles_26 (by decide) ?_
          exact mq_iret hx hb hr (by decide +kernel) hlocks hP hS (Option.some.inj hf) rfl dX9_hasSoles_27
  unfold f_X9_hasSoles at hf
  have hH9 : ∀ (H : Heap) (locs : List Loc), H = s.heap → locs = [] → va_P D vwCl (mm_L TC ad cy g) H → va_S (mm_A TC ad) s.heap H locs → W p l e (headSpec wsX9_hasSoles (rm_X9_hasSoles)).room s m args below meth c H locs 0 0 (MQ below (mm_Qi D TC ad cy r0 g) args s 0 0 (mm_A TC ad)) (F0 m 0 ls []) := by
    intro H locs hH9 hL9 hP hS
    clear hH9 hL9
    refine lv_iconst (v := 0) hx hb dX9_hasSoles_0 (by decide) ?_
    refine lv_istore_n (lv' := [(3, .int 0), (0, .ref (ad p0)), (1, .int x1), (2, .int x2)]) hx hb dX9_hasSoles_1 rfl hl (by decide) rfl (fun ls hl => ?_)
    exact hc2 FU 0 H locs ls hP hS (lv_sub hl [1, 2, 3, 0] rfl) hf
  exact hH9 s.heap [] rfl rfl hP hS
abbrev rm_X9_isBetter : Room := ({ frames := 0, cells := 0, slots := 0, locals := 0 } : Room)
set_option maxHeartbeats 4000000 in
set_option maxRecDepth 100000 in
theorem c_X9_isBetter (l : Launch) (D : va_G) (ad : Nat → Nat) (cy : Nat → ClassId) (p0 : Nat) (x1 : Int32) (x2 : Int32) (g : Mm) (hp : TC[p0]? = some sX9) (r0 : Int32) (hf : f_X9_isBetter p0 x1 x2 g = some r0) : Met l yX9_isBetter wsX9_isBetter rm_X9_isBetter (va_Pc [.ref (ad p0), .int x1, .int x2] (mm_pre mm_Z D TC ad cy g)) (mm_Qi D TC ad cy r0 g) 0 0 (mm_A TC ad) := by
  refine Met.ofW (cc := cX9_isBetter) (maxL := 5) (ret := (some .boolean)) (by decide) rfl ?_
  intro p e s m args below meth c s₁ B hml hv
  obtain ⟨hargs, hP, hK, hI, hZ⟩ := hv
  have hx := B.exec
  have hb := B.bytes
  have hr := B.returns
  have hts := atoms_spec (ws := wsX9_isBetter) B.pre
  have hown : s.vm.findClass RX9 = some m.cls := findClass_of_methodNamed B.named
  have hlocks := B.notSynchronized
  have hw0 := hts (.fieldLink RX9 39 "LeftShoes$Walk" "minutesTo" "[I") (by decide +kernel)
  have hiX9 : ∀ w ∈ wsX90, w ∈ wsX9_isBetter := by decide +kernel
  have hw2 := hts (.fieldLink RX9 23 "LeftShoes$Walk" "minutesOf" "[[I") (by decide +kernel)
  have hw3 := hts (.fieldLink RX9 32 "LeftShoes$Walk" "leastMinutes" "[I") (by decide +kernel)
  have hw4 := hts (.fieldLink RX9 74 "LeftShoes$Walk" "limit" "I") (by decide +kernel)
  have hw5 := hts (.fieldLink RX9 42 "LeftShoes$Walk" "costTo" "[I") (by decide +kernel)
  have hw6 := hts (.fieldLink RX9 26 "LeftShoes$Walk" "costOf" "[[I") (by decide +kernel)
  have hw7 := hts (.fieldLink RX9 88 "LeftShoes$Walk" "isFound" "Z") (by decide +kernel)
  have hw8 := hts (.fieldLink RX9 91 "LeftShoes$Walk" "bestCost" "I") (by decide +kernel)
  have hw9 := hts (.fieldLink RX9 94 "LeftShoes$Walk" "bestMinutes" "I") (by decide +kernel)
  rw [show entryFrame m args 5 = F0 m 0 ((lg_sl ([.ref (ad p0), .int x1, .int x2] : List Value) ++ List.replicate (5 - (lg_sl ([.ref (ad p0), .int x1, .int x2] : List Value)).length) Slot.unset).toArray) [] from by rw [hargs]; exact lg_entry_eq m _ _]
  have hl := lv_entry ([.ref (ad p0), .int x1, .int x2] : List Value) (n := 5) (by exact Nat.le_of_ble_eq_true rfl)
  generalize (lg_sl ([.ref (ad p0), .int x1, .int x2] : List Value) ++ List.replicate (5 - (lg_sl ([.ref (ad p0), .int x1, .int x2] : List Value)).length) Slot.unset).toArray = ls at hl ⊢
  have hl : lv_has ls 5 [(0, .ref (ad p0)), (1, .int x1), (2, .int x2)] := by exact hl
  have hS : va_S (mm_A TC ad) s.heap s.heap [] := va_S.rf
  clear hargs
  unfold f_X9_isBetter at hf
  have hH9 : ∀ (H : Heap) (locs : List Loc), H = s.heap → locs = [] → va_P D vwCl (mm_L TC ad cy g) H → va_S (mm_A TC ad) s.heap H locs → W p l e (headSpec wsX9_isBetter (rm_X9_isBetter)).room s m args below meth c H locs 0 0 (MQ below (mm_Qi D TC ad cy r0 g) args s 0 0 (mm_A TC ad)) (F0 m 0 ls []) := by
    intro H locs hH9 hL9 hP hS
    clear hH9 hL9
    refine lv_aload_n hx hb dX9_isBetter_0 rfl (lv_at hl 0 rfl) ?_
    refine mq_getr (Tt := TX9) (N := 19) (C := RX9) hx hb hts hiX9 hown hK hP hp rfl 9 20 (by decide) rfl hw0 (fun _ h9 => h9) dX9_isBetter_1 ?_
    refine lv_iload_n hx hb dX9_isBetter_4 rfl (lv_at hl 1 rfl) ?_
    obtain ⟨h_1, hf⟩ := og_some hf
    refine mq_iald hx hb hK hP (N := 10) (shTC_X9_20 hp) h_1 dX9_isBetter_5 ?_
    refine lv_aload_n hx hb dX9_isBetter_6 rfl (lv_at hl 0 rfl) ?_
    refine mq_getr (Tt := TX9) (N := 19) (C := RX9) hx hb hts hiX9 hown hK hP hp rfl 4 3 (by decide) rfl hw2 (fun _ h9 => h9) dX9_isBetter_7 ?_
    refine lv_iload_n hx hb dX9_isBetter_10 rfl (lv_at hl 2 rfl) ?_
    obtain ⟨h_2, hf⟩ := og_some hf
    refine mq_aaldA hx hb hK hP (N := 4) (shTC_X9_3 hp) h_2 dX9_isBetter_11 ?_
    refine lv_iload_n hx hb dX9_isBetter_12 rfl (lv_at hl 1 rfl) ?_
    obtain ⟨h_3, hf⟩ := og_some hf
    refine mq_iald hx hb hK hP (N := 9) (shTC_X9_4i_0 hp (mm_in_lt h_2)) h_3 dX9_isBetter_13 ?_
    refine lv_iadd hx hb dX9_isBetter_14 ?_
    refine lv_aload_n hx hb dX9_isBetter_15 rfl (lv_at hl 0 rfl) ?_
    refine mq_getr (Tt := TX9) (N := 19) (C := RX9) hx hb hts hiX9 hown hK hP hp rfl 7 18 (by decide) rfl hw3 (fun _ h9 => h9) dX9_isBetter_16 ?_
    refine lv_iload_n hx hb dX9_isBetter_19 rfl (lv_at hl 1 rfl) ?_
    refine lv_iconst (v := 1) hx hb dX9_isBetter_20 (by decide) ?_
    refine lv_iadd hx hb dX9_isBetter_21 ?_
    obtain ⟨h_4, hf⟩ := og_some hf
    refine mq_iald hx hb hK hP (N := 10) (shTC_X9_18 hp) h_4 dX9_isBetter_22 ?_
    refine lv_iadd hx hb dX9_isBetter_23 ?_
    obtain ⟨x3_5, ex3_5, hf⟩ := mv_some hf
    refine mq_nm ex3_5 ?_
    refine lv_istore_n (lv' := [(3, .int x3_5), (0, .ref (ad p0)), (1, .int x1), (2, .int x2)]) hx hb dX9_isBetter_24 rfl hl (by decide) rfl (fun ls hl => ?_)
    refine lv_iload_n hx hb dX9_isBetter_25 rfl (lv_at hl 0 rfl) ?_
    refine lv_aload_n hx hb dX9_isBetter_26 rfl (lv_at hl 1 rfl) ?_
    refine mq_geti (Tt := TX9) (N := 19) (C := RX9) hx hb hts hiX9 hown hK hP hp rfl 2 (by decide) rfl hw4 (fun _ h9 => h9) dX9_isBetter_27 ?_
    refine lv_icmp_le (tgt := 35) hx hb dX9_isBetter_30 (by decide) (fun c_6 => ?_) (fun c_6 => ?_)
    · replace hf := ite_t c_6 hf
      refine lv_aload_n hx hb dX9_isBetter_35 rfl (lv_at hl 1 rfl) ?_
      refine mq_getr (Tt := TX9) (N := 19) (C := RX9) hx hb hts hiX9 hown hK hP hp rfl 10 21 (by decide) rfl hw5 (fun _ h9 => h9) dX9_isBetter_36 ?_
      refine lv_iload_n hx hb dX9_isBetter_39 rfl (lv_at hl 2 rfl) ?_
      obtain ⟨h_7, hf⟩ := og_some hf
      refine mq_iald hx hb hK hP (N := 10) (shTC_X9_21 hp) h_7 dX9_isBetter_40 ?_
      refine lv_aload_n hx hb dX9_isBetter_41 rfl (lv_at hl 1 rfl) ?_
      refine mq_getr (Tt := TX9) (N := 19) (C := RX9) hx hb hts hiX9 hown hK hP hp rfl 5 8 (by decide) rfl hw6 (fun _ h9 => h9) dX9_isBetter_42 ?_
      refine lv_iload_n hx hb dX9_isBetter_45 rfl (lv_at hl 3 rfl) ?_
      obtain ⟨h_8, hf⟩ := og_some hf
      refine mq_aaldA hx hb hK hP (N := 4) (shTC_X9_8 hp) h_8 dX9_isBetter_46 ?_
      refine lv_iload_n hx hb dX9_isBetter_47 rfl (lv_at hl 2 rfl) ?_
      obtain ⟨h_9, hf⟩ := og_some hf
      refine mq_iald hx hb hK hP (N := 9) (shTC_X9_9i_0 hp (mm_in_lt h_8)) h_9 dX9_isBetter_48 ?_
      refine lv_iadd hx hb dX9_isBetter_49 ?_
      obtain ⟨x4_10, ex4_10, hf⟩ := mv_some hf
      refine mq_nm ex4_10 ?_
      refine lv_istore (lv' := [(4, .int x4_10), (3, .int x3_5), (0, .ref (ad p0)), (1, .int x1), (2, .int x2)]) hx hb dX9_isBetter_50 hl (by decide) rfl (fun ls hl => ?_)
      refine lv_aload_n hx hb dX9_isBetter_52 rfl (lv_at hl 2 rfl) ?_
      refine mq_geti (Tt := TX9) (N := 19) (C := RX9) hx hb hts hiX9 hown hK hP hp rfl 15 (by decide) rfl hw7 (fun _ h9 => h9) dX9_isBetter_53 ?_
      refine lv_if_eq (tgt := 85) hx hb dX9_isBetter_56 (by decide) (fun c_11 => ?_) (fun c_11 => ?_)
      · replace hf := ite_t c_11 hf
        refine lv_iconst (v := 1) hx hb dX9_isBetter_85 (by decide) ?_
        refine lv_goto (tgt := 90) hx hb dX9_isBetter_86 (by decide) ?_
        exact mq_iret hx hb hr (by decide +kernel) hlocks hP hS (Option.some.inj hf) rfl dX9_isBetter_90
      · replace hf := ite_f c_11 hf
        refine lv_iload hx hb dX9_isBetter_59 (lv_at hl 0 rfl) ?_
        refine lv_aload_n hx hb dX9_isBetter_61 rfl (lv_at hl 2 rfl) ?_
        refine mq_geti (Tt := TX9) (N := 19) (C := RX9) hx hb hts hiX9 hown hK hP hp rfl 17 (by decide) rfl hw8 (fun _ h9 => h9) dX9_isBetter_62 ?_
        refine lv_icmp_lt (tgt := 85) hx hb dX9_isBetter_65 (by decide) (fun c_12 => ?_) (fun c_12 => ?_)
        · replace hf := ite_t c_12 hf
          refine lv_iconst (v := 1) hx hb dX9_isBetter_85 (by decide) ?_
          refine lv_goto (tgt := 90) hx hb dX9_isBetter_86 (by decide) ?_
          exact mq_iret hx hb hr (by decide +kernel) hlocks hP hS (Option.some.inj hf) rfl dX9_isBetter_90
        · replace hf := ite_f c_12 hf
          refine lv_iload hx hb dX9_isBetter_68 (lv_at hl 0 rfl) ?_
          refine lv_aload_n hx hb dX9_isBetter_70 rfl (lv_at hl 2 rfl) ?_
          refine mq_geti (Tt := TX9) (N := 19) (C := RX9) hx hb hts hiX9 hown hK hP hp rfl 17 (by decide) rfl hw8 (fun _ h9 => h9) dX9_isBetter_71 ?_
          refine lv_icmp_ne (tgt := 89) hx hb dX9_isBetter_74 (by decide) (fun c_13 => ?_) (fun c_13 => ?_)
          · replace hf := ite_f c_13 hf
            refine lv_iconst (v := 0) hx hb dX9_isBetter_89 (by decide) ?_
            exact mq_iret hx hb hr (by decide +kernel) hlocks hP hS (Option.some.inj hf) rfl dX9_isBetter_90
          · replace hf := ite_t c_13 hf
            refine lv_iload_n hx hb dX9_isBetter_77 rfl (lv_at hl 1 rfl) ?_
            refine lv_aload_n hx hb dX9_isBetter_78 rfl (lv_at hl 2 rfl) ?_
            refine mq_geti (Tt := TX9) (N := 19) (C := RX9) hx hb hts hiX9 hown hK hP hp rfl 18 (by decide) rfl hw9 (fun _ h9 => h9) dX9_isBetter_79 ?_
            refine lv_icmp_ge (tgt := 89) hx hb dX9_isBetter_82 (by decide) (fun c_14 => ?_) (fun c_14 => ?_)
            · replace hf := ite_t c_14 hf
              refine lv_iconst (v := 0) hx hb dX9_isBetter_89 (by decide) ?_
              exact mq_iret hx hb hr (by decide +kernel) hlocks hP hS (Option.some.inj hf) rfl dX9_isBetter_90
            · replace hf := ite_f c_14 hf
              refine lv_iconst (v := 1) hx hb dX9_isBetter_85 (by decide) ?_
              refine lv_goto (tgt := 90) hx hb dX9_isBetter_86 (by decide) ?_
              exact mq_iret hx hb hr (by decide +kernel) hlocks hP hS (Option.some.inj hf) rfl dX9_isBetter_90
    · replace hf := ite_f c_6 hf
      refine lv_iconst (v := 0) hx hb dX9_isBetter_33 (by decide) ?_
      exact mq_iret hx hb hr (by decide +kernel) hlocks hP hS (Option.some.inj hf) rfl dX9_isBetter_34
  exact hH9 s.heap [] rfl rfl hP hS
abbrev rm_X9_step : Room := ({ frames := 1, cells := 0, slots := 0, locals := 60 } : Room)
set_option maxHeartbeats 4000000 in
set_option maxRecDepth 100000 in
theorem c_X9_step (l : Launch) (D : va_G) (ad : Nat → Nat) (cy : Nat → ClassId) (p0 : Nat) (x1 : Int32) (x2 : Int32) (g : Mm) (hp : TC[p0]? = some sX9) (g' : Mm) (hf : f_X9_step p0 x1 x2 g = some g') : Met l yX9_step wsX9_step rm_X9_step (va_Pc [.ref (ad p0), .int x1, .int x2] (mm_pre mm_Z D TC ad cy g)) (mm_Qv D TC ad cy g') 0 0 (mm_A TC ad) := by
  refine Met.ofW (cc := cX9_step) (maxL := 4) (ret := none) (by decide) rfl ?_
  intro p e s m args below meth c s₁ B hml hv
  obtain ⟨hargs, hP, hK, hI, hZ⟩ := hv
  have hx := B.exec
  have hb := B.bytes
  have hr := B.returns
  have hts := atoms_spec (ws := wsX9_step) B.pre
  have hown : s.vm.findClass RX9 = some m.cls := findClass_of_methodNamed B.named
  have hlocks := B.notSynchronized
  have hw0 := hts (.fieldLink RX9 39 "LeftShoes$Walk" "minutesTo" "[I") (by decide +kernel)
  have hiX9 : ∀ w ∈ wsX90, w ∈ wsX9_step := by decide +kernel
  have hw2 := hts (.fieldLink RX9 23 "LeftShoes$Walk" "minutesOf" "[[I") (by decide +kernel)
  have hw3 := hts (.fieldLink RX9 42 "LeftShoes$Walk" "costTo" "[I") (by decide +kernel)
  have hw4 := hts (.fieldLink RX9 26 "LeftShoes$Walk" "costOf" "[[I") (by decide +kernel)
  have hw5 := hts (.fieldLink RX9 48 "LeftShoes$Walk" "hopsTo" "[I") (by decide +kernel)
  have hw6 := hts (.fieldLink RX9 51 "LeftShoes$Walk" "solesAt" "[[I") (by decide +kernel)
  have hw7 := hts (.fieldLink RX9 29 "LeftShoes$Walk" "wearOf" "[[I") (by decide +kernel)
  have hw8 := hts (.methodLink RX9 129 Lib.Math.min.name) (by decide +kernel)
  have hw9 := hts (.static Lib.Math.min.name) (by decide +kernel)
  have hw10 := hts (.initialized "java/lang/Math") (by decide +kernel)
  have hw11 := hts (.code Lib.Math.min.name Lib.Math.min.code 2 (some .int)) (by decide +kernel)
  have hw12 := hts (.fieldLink RX9 45 "LeftShoes$Walk" "goneTo" "[[I") (by decide +kernel)
  rw [show entryFrame m args 4 = F0 m 0 ((lg_sl ([.ref (ad p0), .int x1, .int x2] : List Value) ++ List.replicate (4 - (lg_sl ([.ref (ad p0), .int x1, .int x2] : List Value)).length) Slot.unset).toArray) [] from by rw [hargs]; exact lg_entry_eq m _ _]
  have hl := lv_entry ([.ref (ad p0), .int x1, .int x2] : List Value) (n := 4) (by exact Nat.le_of_ble_eq_true rfl)
  generalize (lg_sl ([.ref (ad p0), .int x1, .int x2] : List Value) ++ List.replicate (4 - (lg_sl ([.ref (ad p0), .int x1, .int x2] : List Value)).length) Slot.unset).toArray = ls at hl ⊢
  have hl : lv_has ls 4 [(0, .ref (ad p0)), (1, .int x1), (2, .int x2)] := by exact hl
  have hS : va_S (mm_A TC ad) s.heap s.heap [] := va_S.rf
  clear hargs
  have hc119 : ∀ (n : Nat), ∀ (x3 : Int32) (g : Mm) (H : Heap) (locs : List Loc) (ls : Array Slot), va_P D vwCl (mm_L TC ad cy g) H → va_S (mm_A TC ad) s.heap H locs → lv_has ls 4 [(0, .ref (ad p0)), (1, .int x1), (2, .int x2), (3, .int x3)] → f_X9_step_c119 p0 x1 x2 n x3 g = some g' → W p l e (headSpec wsX9_step (rm_X9_step)).room s m args below meth c H locs 0 0 (MQ below (mm_Qv D TC ad cy g') args s 0 0 (mm_A TC ad)) (F0 m 119 ls []) := by
    intro n
    induction n with
    | zero =>
      intro x3 g H locs ls hP hS hl hf
      rw [f_X9_step_c119] at hf
      cases hf
    | succ n ih =>
      intro x3 g H locs ls hP hS hl hf
      rw [f_X9_step_c119] at hf
      refine lv_iload_n hx hb dX9_step_119 rfl (lv_at hl 3 rfl) ?_
      refine lv_iconst (v := 3) hx hb dX9_step_120 (by decide) ?_
      refine lv_icmp_ge (tgt := 157) hx hb dX9_step_121 (by decide) (fun c_15 => ?_) (fun c_15 => ?_)
      · replace hf := ite_t c_15 hf
        exact mq_vret hx hb hr hlocks hP hS (Option.some.inj hf) dX9_step_157
      · replace hf := ite_f c_15 hf
        refine lv_aload_n hx hb dX9_step_124 rfl (lv_at hl 0 rfl) ?_
        refine mq_getr (Tt := TX9) (N := 19) (C := RX9) hx hb hts hiX9 hown hK hP hp rfl 13 34 (by decide) rfl hw6 (fun _ h9 => h9) dX9_step_125 ?_
        refine lv_iload_n hx hb dX9_step_128 rfl (lv_at hl 1 rfl) ?_
        refine lv_iconst (v := 1) hx hb dX9_step_129 (by decide) ?_
        refine lv_iadd hx hb dX9_step_130 ?_
        obtain ⟨h_16, hf⟩ := og_some hf
        refine mq_aaldA hx hb hK hP (N := 10) (shTC_X9_34 hp) h_16 dX9_step_131 ?_
        refine lv_iload_n hx hb dX9_step_132 rfl (lv_at hl 3 rfl) ?_
        refine lv_aload_n hx hb dX9_step_133 rfl (lv_at hl 0 rfl) ?_
        refine mq_getr (Tt := TX9) (N := 19) (C := RX9) hx hb hts hiX9 hown hK hP hp rfl 13 34 (by decide) rfl hw6 (fun _ h9 => h9) dX9_step_134 ?_
        refine lv_iload_n hx hb dX9_step_137 rfl (lv_at hl 1 rfl) ?_
        obtain ⟨h_17, hf⟩ := og_some hf
        refine mq_aaldA hx hb hK hP (N := 10) (shTC_X9_34 hp) h_17 dX9_step_138 ?_
        refine lv_iload_n hx hb dX9_step_139 rfl (lv_at hl 3 rfl) ?_
        obtain ⟨h_18, hf⟩ := og_some hf
        refine mq_iald hx hb hK hP (N := 3) (shTC_X9_35i_0 hp (mm_in_lt h_17)) h_18 dX9_step_140 ?_
        refine lv_aload_n hx hb dX9_step_141 rfl (lv_at hl 0 rfl) ?_
        refine mq_getr (Tt := TX9) (N := 19) (C := RX9) hx hb hts hiX9 hown hK hP hp rfl 6 13 (by decide) rfl hw7 (fun _ h9 => h9) dX9_step_142 ?_
        refine lv_iload_n hx hb dX9_step_145 rfl (lv_at hl 2 rfl) ?_
        obtain ⟨h_19, hf⟩ := og_some hf
        refine mq_aaldA hx hb hK hP (N := 4) (shTC_X9_13 hp) h_19 dX9_step_146 ?_
        refine lv_iload_n hx hb dX9_step_147 rfl (lv_at hl 3 rfl) ?_
        obtain ⟨h_20, hf⟩ := og_some hf
        refine mq_iald hx hb hK hP (N := 3) (shTC_X9_14i_0 hp (mm_in_lt h_19)) h_20 dX9_step_148 ?_
        refine lv_isub hx hb dX9_step_149 ?_
        obtain ⟨h_21, hf⟩ := og_some hf
        obtain ⟨g_22, eg_22, hf⟩ := mw_some hf
        refine mq_iast hx hb hK hI hP hS (N := 3) (shTC_X9_35i_0 hp (mm_in_lt h_16)) h_21 dX9_step_150 eg_22 (fun H locs hP hS => ?_)
        obtain ⟨x3_23, ex3_23, hf⟩ := mv_some hf
        refine lv_iinc (v := x3_23) (lv' := [(3, .int x3_23), (0, .ref (ad p0)), (1, .int x1), (2, .int x2)]) hx hb dX9_step_151 hl (k := 3) rfl (by rw [ex3_23]; rfl) (by decide) rfl (fun ls hl => ?_)
        refine lv_goto (tgt := 119) hx hb dX9_step_154 (by decide) ?_
        exact ih x3_23 g_22 H locs ls hP hS (lv_sub hl [1, 2, 3, 0] rfl) hf
  have hc116 : ∀ (sq0 : Nat) (sx1 : Int32) (sx2 : Int32) (g : Mm) (H : Heap) (locs : List Loc) (ls : Array Slot), TC[sq0]? = some (.inr (10, 0, none) : Shp) → va_P D vwCl (mm_L TC ad cy g) H → va_S (mm_A TC ad) s.heap H locs → lv_has ls 4 [(0, .ref (ad p0)), (1, .int x1), (2, .int x2)] → f_X9_step_c116 p0 x1 x2 sq0 sx1 sx2 g = some g' → W p l e (headSpec wsX9_step (rm_X9_step)).room s m args below meth c H locs 0 0 (MQ below (mm_Qv D TC ad cy g') args s 0 0 (mm_A TC ad)) (F0 m 116 ls [.int sx2, .int sx1, .ref (ad sq0)]) := by
    intro sq0 sx1 sx2 g H locs ls hsq0 hP hS hl hf
    unfold f_X9_step_c116 at hf
    obtain ⟨h_13, hf⟩ := og_some hf
    obtain ⟨g_14, eg_14, hf⟩ := mw_some hf
    refine mq_iast hx hb hK hI hP hS (N := 10) hsq0 h_13 dX9_step_116 eg_14 (fun H locs hP hS => ?_)
    refine lv_iconst (v := 0) hx hb dX9_step_117 (by decide) ?_
    refine lv_istore_n (lv' := [(3, .int 0), (0, .ref (ad p0)), (1, .int x1), (2, .int x2)]) hx hb dX9_step_118 rfl hl (by decide) rfl (fun ls hl => ?_)
    exact hc119 FU 0 g_14 H locs ls hP hS (lv_sub hl [1, 2, 3, 0] rfl) hf
  have hc80 : ∀ (K_48 : Int32 → Mm → Option (Mm)), (∀ (x3 : Int32) (g : Mm) (H : Heap) (locs : List Loc) (ls : Array Slot), va_P D vwCl (mm_L TC ad cy g) H → va_S (mm_A TC ad) s.heap H locs → lv_has ls 4 [(0, .ref (ad p0)), (1, .int x1), (2, .int x2), (3, .int x3)] → K_48 x3 g = some g' → W p l e (headSpec wsX9_step (rm_X9_step)).room s m args below meth c H locs 0 0 (MQ below (mm_Qv D TC ad cy g') args s 0 0 (mm_A TC ad)) (F0 m 48 ls [])) → ∀ (x3 : Int32) (sq0 : Nat) (sx1 : Int32) (sx2 : Int32) (sx3 : Int32) (g : Mm) (H : Heap) (locs : List Loc) (ls : Array Slot), TC[sq0]? = some (.inr (4, 0, none) : Shp) → va_P D vwCl (mm_L TC ad cy g) H → va_S (mm_A TC ad) s.heap H locs → lv_has ls 4 [(0, .ref (ad p0)), (1, .int x1), (2, .int x2), (3, .int x3)] → f_X9_step_c80 K_48 p0 x1 x2 x3 sq0 sx1 sx2 sx3 g = some g' → W p l e (headSpec wsX9_step (rm_X9_step)).room s m args below meth c H locs 0 0 (MQ below (mm_Qv D TC ad cy g') args s 0 0 (mm_A TC ad)) (F0 m 80 ls [.int sx3, .int sx2, .int sx1, .ref (ad sq0)]) := by
    intro K_48 hK_48 x3 sq0 sx1 sx2 sx3 g H locs ls hsq0 hP hS hl hf
    unfold f_X9_step_c80 at hf
    refine lv_iadd hx hb dX9_step_80 ?_
    obtain ⟨h_29, hf⟩ := og_some hf
    obtain ⟨g_30, eg_30, hf⟩ := mw_some hf
    refine mq_iast hx hb hK hI hP hS (N := 4) hsq0 h_29 dX9_step_81 eg_30 (fun H locs hP hS => ?_)
    obtain ⟨x3_31, ex3_31, hf⟩ := mv_some hf
    refine lv_iinc (v := x3_31) (lv' := [(3, .int x3_31), (0, .ref (ad p0)), (1, .int x1), (2, .int x2)]) hx hb dX9_step_82 hl (k := 3) rfl (by rw [ex3_31]; rfl) (by decide) rfl (fun ls hl => ?_)
    refine lv_goto (tgt := 48) hx hb dX9_step_85 (by decide) ?_
    exact hK_48 x3_31 g_30 H locs ls hP hS (lv_sub hl [1, 2, 3, 0] rfl) hf
  have hc48 : ∀ (n : Nat), ∀ (x3 : Int32) (g : Mm) (H : Heap) (locs : List Loc) (ls : Array Slot), va_P D vwCl (mm_L TC ad cy g) H → va_S (mm_A TC ad) s.heap H locs → lv_has ls 4 [(0, .ref (ad p0)), (1, .int x1), (2, .int x2), (3, .int x3)] → f_X9_step_c48 p0 x1 x2 n x3 g = some g' → W p l e (headSpec wsX9_step (rm_X9_step)).room s m args below meth c H locs 0 0 (MQ below (mm_Qv D TC ad cy g') args s 0 0 (mm_A TC ad)) (F0 m 48 ls []) := by
    intro n
    induction n with
    | zero =>
      intro x3 g H locs ls hP hS hl hf
      rw [f_X9_step_c48] at hf
      cases hf
    | succ n ih =>
      intro x3 g H locs ls hP hS hl hf
      rw [f_X9_step_c48] at hf
      refine lv_iload_n hx hb dX9_step_48 rfl (lv_at hl 3 rfl) ?_
      refine lv_iconst (v := 4) hx hb dX9_step_49 (by decide) ?_
      refine lv_icmp_ge (tgt := 88) hx hb dX9_step_50 (by decide) (fun c_11 => ?_) (fun c_11 => ?_)
      · replace hf := ite_t c_11 hf
        refine lv_aload_n hx hb dX9_step_88 rfl (lv_at hl 0 rfl) ?_
        refine mq_getr (Tt := TX9) (N := 19) (C := RX9) hx hb hts hiX9 hown hK hP hp rfl 12 33 (by decide) rfl hw5 (fun _ h9 => h9) dX9_step_89 ?_
        refine lv_iload_n hx hb dX9_step_92 rfl (lv_at hl 1 rfl) ?_
        refine lv_iconst (v := 1) hx hb dX9_step_93 (by decide) ?_
        refine lv_iadd hx hb dX9_step_94 ?_
        refine lv_iload_n hx hb dX9_step_95 rfl (lv_at hl 2 rfl) ?_
        refine lv_iconst (v := 2) hx hb dX9_step_96 (by decide) ?_
        refine lv_icmp_ne (tgt := 115) hx hb dX9_step_97 (by decide) (fun c_12 => ?_) (fun c_12 => ?_)
        · replace hf := ite_f c_12 hf
          refine lv_iconst (v := 0) hx hb dX9_step_115 (by decide) ?_
          exact hc116 (p0 + 33) (x1 + 1) 0 g H locs ls (shTC_X9_33 hp) hP hS (lv_sub hl [0, 1, 2] rfl) hf
        · replace hf := ite_t c_12 hf
          refine lv_aload_n hx hb dX9_step_100 rfl (lv_at hl 0 rfl) ?_
          refine mq_getr (Tt := TX9) (N := 19) (C := RX9) hx hb hts hiX9 hown hK hP hp rfl 12 33 (by decide) rfl hw5 (fun _ h9 => h9) dX9_step_101 ?_
          refine lv_iload_n hx hb dX9_step_104 rfl (lv_at hl 1 rfl) ?_
          obtain ⟨h_24, hf⟩ := og_some hf
          refine mq_iald hx hb hK hP (N := 10) (shTC_X9_33 hp) h_24 dX9_step_105 ?_
          refine lv_iconst (v := 1) hx hb dX9_step_106 (by decide) ?_
          refine lv_iadd hx hb dX9_step_107 ?_
          refine lv_iconst (v := 2) hx hb dX9_step_108 (by decide) ?_
          refine va_mmin hx hb (hml.trans hl.1.symm) hown hw8 hw9 hw10 hw11 (Nat.le_of_ble_eq_true rfl) (Nat.le_of_ble_eq_true rfl) (Nat.le_refl _) (Nat.le_refl _) dX9_step_109 ?_
          refine lv_goto (tgt := 116) hx hb dX9_step_112 (by decide) ?_
          exact hc116 (p0 + 33) (x1 + 1) (if 2 < ((g (p0 + 33) x1.toNatClampNeg) + 1) then 2 else ((g (p0 + 33) x1.toNatClampNeg) + 1)) g H locs ls (shTC_X9_33 hp) hP hS (lv_sub hl [0, 1, 2] rfl) hf
      · replace hf := ite_f c_11 hf
        refine lv_aload_n hx hb dX9_step_53 rfl (lv_at hl 0 rfl) ?_
        refine mq_getr (Tt := TX9) (N := 19) (C := RX9) hx hb hts hiX9 hown hK hP hp rfl 11 22 (by decide) rfl hw12 (fun _ h9 => h9) dX9_step_54 ?_
        refine lv_iload_n hx hb dX9_step_57 rfl (lv_at hl 1 rfl) ?_
        refine lv_iconst (v := 1) hx hb dX9_step_58 (by decide) ?_
        refine lv_iadd hx hb dX9_step_59 ?_
        obtain ⟨h_25, hf⟩ := og_some hf
        refine mq_aaldA hx hb hK hP (N := 10) (shTC_X9_22 hp) h_25 dX9_step_60 ?_
        refine lv_iload_n hx hb dX9_step_61 rfl (lv_at hl 3 rfl) ?_
        refine lv_aload_n hx hb dX9_step_62 rfl (lv_at hl 0 rfl) ?_
        refine mq_getr (Tt := TX9) (N := 19) (C := RX9) hx hb hts hiX9 hown hK hP hp rfl 11 22 (by decide) rfl hw12 (fun _ h9 => h9) dX9_step_63 ?_
        refine lv_iload_n hx hb dX9_step_66 rfl (lv_at hl 1 rfl) ?_
        obtain ⟨h_26, hf⟩ := og_some hf
        refine mq_aaldA hx hb hK hP (N := 10) (shTC_X9_22 hp) h_26 dX9_step_67 ?_
        refine lv_iload_n hx hb dX9_step_68 rfl (lv_at hl 3 rfl) ?_
        obtain ⟨h_27, hf⟩ := og_some hf
        refine mq_iald hx hb hK hP (N := 4) (shTC_X9_23i_0 hp (mm_in_lt h_26)) h_27 dX9_step_69 ?_
        refine lv_iload_n hx hb dX9_step_70 rfl (lv_at hl 2 rfl) ?_
        refine lv_iload_n hx hb dX9_step_71 rfl (lv_at hl 3 rfl) ?_
        refine lv_icmp_ne (tgt := 79) hx hb dX9_step_72 (by decide) (fun c_28 => ?_) (fun c_28 => ?_)
        · replace hf := ite_f c_28 hf
          refine lv_iconst (v := 0) hx hb dX9_step_79 (by decide) ?_
          exact hc80 (f_X9_step_c48 p0 x1 x2 n) ih x3 (p0 + 23 + (x1 + 1).toNatClampNeg) x3 (g (p0 + 23 + x1.toNatClampNeg) x3.toNatClampNeg) 0 g H locs ls (shTC_X9_23i_0 hp (mm_in_lt h_25)) hP hS (lv_sub hl [0, 1, 2, 3] rfl) hf
        · replace hf := ite_t c_28 hf
          refine lv_iconst (v := 1) hx hb dX9_step_75 (by decide) ?_
          refine lv_goto (tgt := 80) hx hb dX9_step_76 (by decide) ?_
          exact hc80 (f_X9_step_c48 p0 x1 x2 n) ih x3 (p0 + 23 + (x1 + 1).toNatClampNeg) x3 (g (p0 + 23 + x1.toNatClampNeg) x3.toNatClampNeg) 1 g H locs ls (shTC_X9_23i_0 hp (mm_in_lt h_25)) hP hS (lv_sub hl [0, 1, 2, 3] rfl) hf
  unfold f_X9_step at hf
  have hH9 : ∀ (H : Heap) (locs : List Loc), H = s.heap → locs = [] → va_P D vwCl (mm_L TC ad cy g) H → va_S (mm_A TC ad) s.heap H locs → W p l e (headSpec wsX9_step (rm_X9_step)).room s m args below meth c H locs 0 0 (MQ below (mm_Qv D TC ad cy g') args s 0 0 (mm_A TC ad)) (F0 m 0 ls []) := by
    intro H locs hH9 hL9 hP hS
    clear hH9 hL9
    refine lv_aload_n hx hb dX9_step_0 rfl (lv_at hl 0 rfl) ?_
    refine mq_getr (Tt := TX9) (N := 19) (C := RX9) hx hb hts hiX9 hown hK hP hp rfl 9 20 (by decide) rfl hw0 (fun _ h9 => h9) dX9_step_1 ?_
    refine lv_iload_n hx hb dX9_step_4 rfl (lv_at hl 1 rfl) ?_
    refine lv_iconst (v := 1) hx hb dX9_step_5 (by decide) ?_
    refine lv_iadd hx hb dX9_step_6 ?_
    refine lv_aload_n hx hb dX9_step_7 rfl (lv_at hl 0 rfl) ?_
    refine mq_getr (Tt := TX9) (N := 19) (C := RX9) hx hb hts hiX9 hown hK hP hp rfl 9 20 (by decide) rfl hw0 (fun _ h9 => h9) dX9_step_8 ?_
    refine lv_iload_n hx hb dX9_step_11 rfl (lv_at hl 1 rfl) ?_
    obtain ⟨h_1, hf⟩ := og_some hf
    refine mq_iald hx hb hK hP (N := 10) (shTC_X9_20 hp) h_1 dX9_step_12 ?_
    refine lv_aload_n hx hb dX9_step_13 rfl (lv_at hl 0 rfl) ?_
    refine mq_getr (Tt := TX9) (N := 19) (C := RX9) hx hb hts hiX9 hown hK hP hp rfl 4 3 (by decide) rfl hw2 (fun _ h9 => h9) dX9_step_14 ?_
    refine lv_iload_n hx hb dX9_step_17 rfl (lv_at hl 2 rfl) ?_
    obtain ⟨h_2, hf⟩ := og_some hf
    refine mq_aaldA hx hb hK hP (N := 4) (shTC_X9_3 hp) h_2 dX9_step_18 ?_
    refine lv_iload_n hx hb dX9_step_19 rfl (lv_at hl 1 rfl) ?_
    obtain ⟨h_3, hf⟩ := og_some hf
    refine mq_iald hx hb hK hP (N := 9) (shTC_X9_4i_0 hp (mm_in_lt h_2)) h_3 dX9_step_20 ?_
    refine lv_iadd hx hb dX9_step_21 ?_
    obtain ⟨h_4, hf⟩ := og_some hf
    obtain ⟨g_5, eg_5, hf⟩ := mw_some hf
    refine mq_iast hx hb hK hI hP hS (N := 10) (shTC_X9_20 hp) h_4 dX9_step_22 eg_5 (fun H locs hP hS => ?_)
    refine lv_aload_n hx hb dX9_step_23 rfl (lv_at hl 0 rfl) ?_
    refine mq_getr (Tt := TX9) (N := 19) (C := RX9) hx hb hts hiX9 hown hK hP hp rfl 10 21 (by decide) rfl hw3 (fun _ h9 => h9) dX9_step_24 ?_
    refine lv_iload_n hx hb dX9_step_27 rfl (lv_at hl 1 rfl) ?_
    refine lv_iconst (v := 1) hx hb dX9_step_28 (by decide) ?_
    refine lv_iadd hx hb dX9_step_29 ?_
    refine lv_aload_n hx hb dX9_step_30 rfl (lv_at hl 0 rfl) ?_
    refine mq_getr (Tt := TX9) (N := 19) (C := RX9) hx hb hts hiX9 hown hK hP hp rfl 10 21 (by decide) rfl hw3 (fun _ h9 => h9) dX9_step_31 ?_
    refine lv_iload_n hx hb dX9_step_34 rfl (lv_at hl 1 rfl) ?_
    obtain ⟨h_6, hf⟩ := og_some hf
    refine mq_iald hx hb hK hP (N := 10) (shTC_X9_21 hp) h_6 dX9_step_35 ?_
    refine lv_aload_n hx hb dX9_step_36 rfl (lv_at hl 0 rfl) ?_
    refine mq_getr (Tt := TX9) (N := 19) (C := RX9) hx hb hts hiX9 hown hK hP hp rfl 5 8 (by decide) rfl hw4 (fun _ h9 => h9) dX9_step_37 ?_
    refine lv_iload_n hx hb dX9_step_40 rfl (lv_at hl 2 rfl) ?_
    obtain ⟨h_7, hf⟩ := og_some hf
    refine mq_aaldA hx hb hK hP (N := 4) (shTC_X9_8 hp) h_7 dX9_step_41 ?_
    refine lv_iload_n hx hb dX9_step_42 rfl (lv_at hl 1 rfl) ?_
    obtain ⟨h_8, hf⟩ := og_some hf
    refine mq_iald hx hb hK hP (N := 9) (shTC_X9_9i_0 hp (mm_in_lt h_7)) h_8 dX9_step_43 ?_
    refine lv_iadd hx hb dX9_step_44 ?_
    obtain ⟨h_9, hf⟩ := og_some hf
    obtain ⟨g_10, eg_10, hf⟩ := mw_some hf
    refine mq_iast hx hb hK hI hP hS (N := 10) (shTC_X9_21 hp) h_9 dX9_step_45 eg_10 (fun H locs hP hS => ?_)
    refine lv_iconst (v := 0) hx hb dX9_step_46 (by decide) ?_
    refine lv_istore_n (lv' := [(3, .int 0), (0, .ref (ad p0)), (1, .int x1), (2, .int x2)]) hx hb dX9_step_47 rfl hl (by decide) rfl (fun ls hl => ?_)
    exact hc48 FU 0 g_10 H locs ls hP hS (lv_sub hl [1, 2, 3, 0] rfl) hf
  exact hH9 s.heap [] rfl rfl hP hS
abbrev rm_X9_keep : Room := ({ frames := 1, cells := 0, slots := 0, locals := 60 } : Room)
set_option maxHeartbeats 4000000 in
set_option maxRecDepth 100000 in
theorem c_X9_keep (l : Launch) (D : va_G) (ad : Nat → Nat) (cy : Nat → ClassId) (p0 : Nat) (g : Mm) (hp : TC[p0]? = some sX9) (g' : Mm) (hf : f_X9_keep p0 g = some g') : Met l yX9_keep wsX9_keep rm_X9_keep (va_Pc [.ref (ad p0)] (mm_pre mm_Z D TC ad cy g)) (mm_Qv D TC ad cy g') 0 0 (mm_A TC ad) := by
  refine Met.ofW (cc := cX9_keep) (maxL := 1) (ret := none) (by decide) rfl ?_
  intro p e s m args below meth c s₁ B hml hv
  obtain ⟨hargs, hP, hK, hI, hZ⟩ := hv
  have hx := B.exec
  have hb := B.bytes
  have hr := B.returns
  have hts := atoms_spec (ws := wsX9_keep) B.pre
  have hown : s.vm.findClass RX9 = some m.cls := findClass_of_methodNamed B.named
  have hlocks := B.notSynchronized
  have hw0 := hts (.fieldLink RX9 88 "LeftShoes$Walk" "isFound" "Z") (by decide +kernel)
  have hiX9 : ∀ w ∈ wsX90, w ∈ wsX9_keep := by decide +kernel
  have hw2 := hts (.fieldLink RX9 36 "LeftShoes$Walk" "row" "[I") (by decide +kernel)
  have hw3 := hts (.fieldLink RX9 61 "LeftShoes$Walk" "best" "[I") (by decide +kernel)
  have hw4 := hts (.methodLink RX9 161 arraycopyName) (by decide +kernel)
  have hw5 := hts (.native arraycopyName) (by decide +kernel)
  have hw6 := hts (.static arraycopyName) (by decide +kernel)
  have hw7 := hts (.initialized "java/lang/System") (by decide +kernel)
  have hw8 := hts (.fieldLink RX9 42 "LeftShoes$Walk" "costTo" "[I") (by decide +kernel)
  have hw9 := hts (.fieldLink RX9 91 "LeftShoes$Walk" "bestCost" "I") (by decide +kernel)
  have hw10 := hts (.fieldLink RX9 39 "LeftShoes$Walk" "minutesTo" "[I") (by decide +kernel)
  have hw11 := hts (.fieldLink RX9 94 "LeftShoes$Walk" "bestMinutes" "I") (by decide +kernel)
  rw [show entryFrame m args 1 = F0 m 0 ((lg_sl ([.ref (ad p0)] : List Value) ++ List.replicate (1 - (lg_sl ([.ref (ad p0)] : List Value)).length) Slot.unset).toArray) [] from by rw [hargs]; exact lg_entry_eq m _ _]
  have hl := lv_entry ([.ref (ad p0)] : List Value) (n := 1) (by exact Nat.le_of_ble_eq_true rfl)
  generalize (lg_sl ([.ref (ad p0)] : List Value) ++ List.replicate (1 - (lg_sl ([.ref (ad p0)] : List Value)).length) Slot.unset).toArray = ls at hl ⊢
  have hl : lv_has ls 1 [(0, .ref (ad p0))] := by exact hl
  have hS : va_S (mm_A TC ad) s.heap s.heap [] := va_S.rf
  clear hargs
  unfold f_X9_keep at hf
  have hH9 : ∀ (H : Heap) (locs : List Loc), H = s.heap → locs = [] → va_P D vwCl (mm_L TC ad cy g) H → va_S (mm_A TC ad) s.heap H locs → W p l e (headSpec wsX9_keep (rm_X9_keep)).room s m args below meth c H locs 0 0 (MQ below (mm_Qv D TC ad cy g') args s 0 0 (mm_A TC ad)) (F0 m 0 ls []) := by
    intro H locs hH9 hL9 hP hS
    clear hH9 hL9
    refine lv_aload_n hx hb dX9_keep_0 rfl (lv_at hl 0 rfl) ?_
    refine lv_iconst (v := 1) hx hb dX9_keep_1 (by decide) ?_
    obtain ⟨g_1, eg_1, hf⟩ := mw_some hf
    refine mq_puti (Tt := TX9) (N := 19) (C := RX9) (ty := .boolean) hx hb hts hiX9 tyX9 tyX9_ok nmX9 hown hK hI hP hS hp rfl 15 (by decide) rfl hw0 (fun _ h9 => h9) rfl (by decide +kernel) (by decide +kernel) (by decide +kernel) dX9_keep_2 eg_1 (fun H locs hP hS => ?_)
    refine lv_aload_n hx hb dX9_keep_5 rfl (lv_at hl 0 rfl) ?_
    refine mq_getr (Tt := TX9) (N := 19) (C := RX9) hx hb hts hiX9 hown hK hP hp rfl 8 19 (by decide) rfl hw2 (fun _ h9 => h9) dX9_keep_6 ?_
    refine lv_iconst (v := 0) hx hb dX9_keep_9 (by decide) ?_
    refine lv_aload_n hx hb dX9_keep_10 rfl (lv_at hl 0 rfl) ?_
    refine mq_getr (Tt := TX9) (N := 19) (C := RX9) hx hb hts hiX9 hown hK hP hp rfl 16 49 (by decide) rfl hw3 (fun _ h9 => h9) dX9_keep_11 ?_
    refine lv_iconst (v := 0) hx hb dX9_keep_14 (by decide) ?_
    refine lv_bipush (v := 9) hx hb dX9_keep_15 (by decide) ?_
    obtain ⟨g_2, eg_2, hf⟩ := mr_some hf
    refine mq_copy hx hb (hml.trans hl.1.symm) hown hw4 hw5 hw6 hw7 hK hI hP hS (n0 := 9) (n1 := 9) (shTC_X9_19 hp) (shTC_X9_49 hp) (by decide +kernel : mm_cp 0 0 9 9 9 = true) (Nat.le_of_ble_eq_true rfl) (Nat.le_of_ble_eq_true rfl) dX9_keep_17 eg_2 (fun H locs hP hS => ?_)
    refine lv_aload_n hx hb dX9_keep_20 rfl (lv_at hl 0 rfl) ?_
    refine lv_aload_n hx hb dX9_keep_21 rfl (lv_at hl 0 rfl) ?_
    refine mq_getr (Tt := TX9) (N := 19) (C := RX9) hx hb hts hiX9 hown hK hP hp rfl 10 21 (by decide) rfl hw8 (fun _ h9 => h9) dX9_keep_22 ?_
    refine lv_bipush (v := 9) hx hb dX9_keep_25 (by decide) ?_
    refine mq_iald hx hb hK hP (N := 10) (shTC_X9_21 hp) (by decide : mm_in 9 10 = true) dX9_keep_27 ?_
    obtain ⟨g_3, eg_3, hf⟩ := mw_some hf
    refine mq_puti (Tt := TX9) (N := 19) (C := RX9) (ty := .int) hx hb hts hiX9 tyX9 tyX9_ok nmX9 hown hK hI hP hS hp rfl 17 (by decide) rfl hw9 (fun _ h9 => h9) rfl (by decide +kernel) rfl rfl dX9_keep_28 eg_3 (fun H locs hP hS => ?_)
    refine lv_aload_n hx hb dX9_keep_31 rfl (lv_at hl 0 rfl) ?_
    refine lv_aload_n hx hb dX9_keep_32 rfl (lv_at hl 0 rfl) ?_
    refine mq_getr (Tt := TX9) (N := 19) (C := RX9) hx hb hts hiX9 hown hK hP hp rfl 9 20 (by decide) rfl hw10 (fun _ h9 => h9) dX9_keep_33 ?_
    refine lv_bipush (v := 9) hx hb dX9_keep_36 (by decide) ?_
    refine mq_iald hx hb hK hP (N := 10) (shTC_X9_20 hp) (by decide : mm_in 9 10 = true) dX9_keep_38 ?_
    obtain ⟨g_4, eg_4, hf⟩ := mw_some hf
    refine mq_puti (Tt := TX9) (N := 19) (C := RX9) (ty := .int) hx hb hts hiX9 tyX9 tyX9_ok nmX9 hown hK hI hP hS hp rfl 18 (by decide) rfl hw11 (fun _ h9 => h9) rfl (by decide +kernel) rfl rfl dX9_keep_39 eg_4 (fun H locs hP hS => ?_)
    exact mq_vret hx hb hr hlocks hP hS (Option.some.inj hf) dX9_keep_42
  exact hH9 s.heap [] rfl rfl hP hS
