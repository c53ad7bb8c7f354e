abbrev rm_X12_shoe : Room := ({ frames := 2, cells := 0, slots := 0, locals := 46 } : Room)
set_option maxHeartbeats 4000000 in
set_option maxRecDepth 100000 in
theorem c_X12_shoe (l : Launch) (D : va_G) (ad : Nat → Nat) (cy : Nat → ClassId) (x1 : Int32) (x2 : Int32) (x3 : Int32) (x4 : Int32) (g : Mm) (hp : TM[0]? = some sX12) (r0 : Int32) (g' : Mm) (hf : f_X12_shoe x1 x2 x3 x4 g = some (r0, g')) : Met l yX12_shoe wsX12_shoe rm_X12_shoe (va_Pc [.ref (ad 0), .int x1, .int x2, .int x3, .int x4] (mm_pre mm_Z0 D TM ad cy g)) (mm_Qi D TM ad cy r0 g') 0 0 (mm_A TM ad) := by
  refine Met.ofW (cc := cX12_shoe) (maxL := 6) (ret := (some .int)) (by decide) rfl ?_
  intro p e s m args below meth c s₁ B hml hv
  obtain ⟨hargs, hP, hK, hI, hZ⟩ := hv
  have hx := B.exec
  have hb := B.bytes
  have hr := B.returns
  have hts := atoms_spec (ws := wsX12_shoe) B.pre
  have hown : s.vm.findClass RX12 = some m.cls := findClass_of_methodNamed B.named
  have hlocks := B.notSynchronized
  have hw0 := hts (.constantLong RX12 79 (3)) (by decide +kernel)
  have hw1 := hts (.constantLong RX12 81 (99)) (by decide +kernel)
  have hw2 := hts (.fieldLink RX12 7 "LeftShoesModel" "now" "[I") (by decide +kernel)
  have hiX12 : ∀ w ∈ wsX120, w ∈ wsX12_shoe := by decide +kernel
  rw [show entryFrame m args 6 = F0 m 0 ((lg_sl ([.ref (ad 0), .int x1, .int x2, .int x3, .int x4] : List Value) ++ List.replicate (6 - (lg_sl ([.ref (ad 0), .int x1, .int x2, .int x3, .int x4] : List Value)).length) Slot.unset).toArray) [] from by rw [hargs]; exact lg_entry_eq m _ _]
  have hl := lv_entry ([.ref (ad 0), .int x1, .int x2, .int x3, .int x4] : List Value) (n := 6) (by exact Nat.le_of_ble_eq_true rfl)
  generalize (lg_sl ([.ref (ad 0), .int x1, .int x2, .int x3, .int x4] : List Value) ++ List.replicate (6 - (lg_sl ([.ref (ad 0), .int x1, .int x2, .int x3, .int x4] : List Value)).length) Slot.unset).toArray = ls at hl ⊢
  have hl : lv_has ls 6 [(0, .ref (ad 0)), (1, .int x1), (2, .int x2), (3, .int x3), (4, .int x4)] := by exact hl
  have hS : va_S (mm_A TM ad) s.heap s.heap [] := va_S.rf
  clear hargs
  unfold f_X12_shoe at hf
  have hH9 : ∀ (H : Heap) (locs : List Loc), H = s.heap → locs = [] → va_P D vwCl (mm_L TM ad cy g) H → va_S (mm_A TM ad) s.heap H locs → W p l e (headSpec wsX12_shoe (rm_X12_shoe)).room s m args below meth c H locs 0 0 (MQ below (mm_Qi D TM ad cy r0 g') args s 0 0 (mm_A TM ad)) (F0 m 0 ls []) := by
    intro H locs hH9 hL9 hP hS
    clear hH9 hL9
    refine lv_aload_n hx hb dX12_shoe_0 rfl (lv_at hl 0 rfl) ?_
    refine lv_iload_n hx hb dX12_shoe_1 rfl (lv_at hl 1 rfl) ?_
    obtain ⟨r_1, hr_2, hf⟩ := op_some hf
    refine mq_calli (va_runV (As := [.int x1]) (rest := []) ⟨hx, hb, hml, hown, hts⟩ (c_X12_isPerson l D ad cy x1 g hp r_1 hr_2) (cwV 1 hts gX12_shoe_X12_isPerson rfl rfl rfl (by decide +kernel) ⟨Nat.le_of_ble_eq_true rfl, Nat.le_of_ble_eq_true rfl⟩) (mq_preV (q := (RX12, TX12, 26)) mm_zOk0 hK hP hI hZ hS hp rfl) rfl rfl hl.1 rfl (lv_room (Nat.le_of_ble_eq_true rfl)) dX12_shoe_2 ⟨Nat.le_refl _, Nat.le_refl _⟩) hS (fun H locs hP hS => ?_)
    refine lv_if_eq (tgt := 43) hx hb dX12_shoe_5 (by decide) (fun c_3 => ?_) (fun c_3 => ?_)
    · replace hf := ite_t c_3 hf
      refine lv_iconst (v := (-1)) hx hb dX12_shoe_43 (by decide) ?_
      exact mq_iret hx hb hr rfl hlocks hP hS (pr_1 hf) (pr_2 hf) dX12_shoe_44
    · replace hf := ite_f c_3 hf
      refine lv_iload_n hx hb dX12_shoe_8 rfl (lv_at hl 2 rfl) ?_
      refine lv_i2l hx hb dX12_shoe_9 rfl ?_
      refine lv_lconst (v := 0) hx hb dX12_shoe_10 (by decide) ?_
      refine lv_lconst (v := 1) hx hb dX12_shoe_11 (by decide) ?_
      obtain ⟨r_4, hr_5, hf⟩ := op_some hf
      refine mq_calli (va_runS (As := [.long (x2.toInt64), .long 0, .long 1]) (rest := []) ⟨hx, hb, hml, hown, hts⟩ (c_X12_in l D ad cy (x2.toInt64) 0 1 g r_4 hr_5) (va_cwS 3 hts gX12_shoe_X12_in rfl rfl rfl (by decide +kernel) ⟨Nat.le_of_ble_eq_true rfl, Nat.le_of_ble_eq_true rfl⟩) (mq_preS mm_zOk0 hK hP hI hZ hS) rfl rfl hl.1 rfl (lv_room (Nat.le_of_ble_eq_true rfl)) dX12_shoe_12 ⟨Nat.le_refl _, Nat.le_refl _⟩) hS (fun H locs hP hS => ?_)
      refine lv_if_eq (tgt := 43) hx hb dX12_shoe_15 (by decide) (fun c_6 => ?_) (fun c_6 => ?_)
      · replace hf := ite_t c_6 hf
        refine lv_iconst (v := (-1)) hx hb dX12_shoe_43 (by decide) ?_
        exact mq_iret hx hb hr rfl hlocks hP hS (pr_1 hf) (pr_2 hf) dX12_shoe_44
      · replace hf := ite_f c_6 hf
        refine lv_iload_n hx hb dX12_shoe_18 rfl (lv_at hl 3 rfl) ?_
        refine lv_i2l hx hb dX12_shoe_19 rfl ?_
        refine lv_lconst (v := 0) hx hb dX12_shoe_20 (by decide) ?_
        refine lv_ldc2 (v := 3) hx hb hown hw0 dX12_shoe_21 ?_
        obtain ⟨r_7, hr_8, hf⟩ := op_some hf
        refine mq_calli (va_runS (As := [.long (x3.toInt64), .long 0, .long 3]) (rest := []) ⟨hx, hb, hml, hown, hts⟩ (c_X12_in l D ad cy (x3.toInt64) 0 3 g r_7 hr_8) (va_cwS 3 hts gX12_shoe_X12_in rfl rfl rfl (by decide +kernel) ⟨Nat.le_of_ble_eq_true rfl, Nat.le_of_ble_eq_true rfl⟩) (mq_preS mm_zOk0 hK hP hI hZ hS) rfl rfl hl.1 rfl (lv_room (Nat.le_of_ble_eq_true rfl)) dX12_shoe_24 ⟨Nat.le_refl _, Nat.le_refl _⟩) hS (fun H locs hP hS => ?_)
        refine lv_if_eq (tgt := 43) hx hb dX12_shoe_27 (by decide) (fun c_9 => ?_) (fun c_9 => ?_)
        · replace hf := ite_t c_9 hf
          refine lv_iconst (v := (-1)) hx hb dX12_shoe_43 (by decide) ?_
          exact mq_iret hx hb hr rfl hlocks hP hS (pr_1 hf) (pr_2 hf) dX12_shoe_44
        · replace hf := ite_f c_9 hf
          refine lv_iload hx hb dX12_shoe_30 (lv_at hl 4 rfl) ?_
          refine lv_i2l hx hb dX12_shoe_32 rfl ?_
          refine lv_lconst (v := 0) hx hb dX12_shoe_33 (by decide) ?_
          refine lv_ldc2 (v := 99) hx hb hown hw1 dX12_shoe_34 ?_
          obtain ⟨r_10, hr_11, hf⟩ := op_some hf
          refine mq_calli (va_runS (As := [.long (x4.toInt64), .long 0, .long 99]) (rest := []) ⟨hx, hb, hml, hown, hts⟩ (c_X12_in l D ad cy (x4.toInt64) 0 99 g r_10 hr_11) (va_cwS 3 hts gX12_shoe_X12_in rfl rfl rfl (by decide +kernel) ⟨Nat.le_of_ble_eq_true rfl, Nat.le_of_ble_eq_true rfl⟩) (mq_preS mm_zOk0 hK hP hI hZ hS) rfl rfl hl.1 rfl (lv_room (Nat.le_of_ble_eq_true rfl)) dX12_shoe_37 ⟨Nat.le_refl _, Nat.le_refl _⟩) hS (fun H locs hP hS => ?_)
          refine lv_if_ne (tgt := 45) hx hb dX12_shoe_40 (by decide) (fun c_12 => ?_) (fun c_12 => ?_)
          · replace hf := ite_f c_12 hf
            refine lv_aload_n hx hb dX12_shoe_45 rfl (lv_at hl 0 rfl) ?_
            refine mq_getr (Tt := TX12) (N := 26) (C := RX12) hx hb hts hiX12 hown hK hP hp rfl 0 1 (by decide) rfl hw2 (fun _ h9 => h9) dX12_shoe_46 ?_
            refine lv_iconst (v := 1) hx hb dX12_shoe_49 (by decide) ?_
            refine mq_iald hx hb hK hP (N := 193) (shTM_X12_1 hp) (by decide : mm_in 1 193 = true) dX12_shoe_50 ?_
            obtain ⟨x5_13, ex5_13, hf⟩ := mv_some hf
            refine mq_nm ex5_13 ?_
            refine lv_istore (lv' := [(5, .int x5_13), (0, .ref (ad 0)), (1, .int x1), (2, .int x2), (3, .int x3), (4, .int x4)]) hx hb dX12_shoe_51 hl (by decide) rfl (fun ls hl => ?_)
            refine lv_iload hx hb dX12_shoe_53 (lv_at hl 0 rfl) ?_
            refine lv_bipush (v := 16) hx hb dX12_shoe_55 (by decide) ?_
            refine lv_icmp_ne (tgt := 63) hx hb dX12_shoe_57 (by decide) (fun c_14 => ?_) (fun c_14 => ?_)
            · replace hf := ite_f c_14 hf
              refine lv_aload_n hx hb dX12_shoe_63 rfl (lv_at hl 1 rfl) ?_
              refine mq_getr (Tt := TX12) (N := 26) (C := RX12) hx hb hts hiX12 hown hK hP hp rfl 0 1 (by decide) rfl hw2 (fun _ h9 => h9) dX12_shoe_64 ?_
              refine lv_bipush (v := 15) hx hb dX12_shoe_67 (by decide) ?_
              refine lv_iload hx hb dX12_shoe_69 (lv_at hl 0 rfl) ?_
              refine lv_iadd hx hb dX12_shoe_71 ?_
              refine lv_iload_n hx hb dX12_shoe_72 rfl (lv_at hl 2 rfl) ?_
              obtain ⟨h_15, hf⟩ := og_some hf
              obtain ⟨g_16, eg_16, hf⟩ := mw_some hf
              refine mq_iast hx hb hK hI hP hS (N := 193) (shTM_X12_1 hp) h_15 dX12_shoe_73 eg_16 (fun H locs hP hS => ?_)
              refine lv_aload_n hx hb dX12_shoe_74 rfl (lv_at hl 1 rfl) ?_
              refine mq_getr (Tt := TX12) (N := 26) (C := RX12) hx hb hts hiX12 hown hK hP hp rfl 0 1 (by decide) rfl hw2 (fun _ h9 => h9) dX12_shoe_75 ?_
              refine lv_bipush (v := 31) hx hb dX12_shoe_78 (by decide) ?_
              refine lv_iload hx hb dX12_shoe_80 (lv_at hl 0 rfl) ?_
              refine lv_iadd hx hb dX12_shoe_82 ?_
              refine lv_iload_n hx hb dX12_shoe_83 rfl (lv_at hl 3 rfl) ?_
              obtain ⟨h_17, hf⟩ := og_some hf
              obtain ⟨g_18, eg_18, hf⟩ := mw_some hf
              refine mq_iast hx hb hK hI hP hS (N := 193) (shTM_X12_1 hp) h_17 dX12_shoe_84 eg_18 (fun H locs hP hS => ?_)
              refine lv_aload_n hx hb dX12_shoe_85 rfl (lv_at hl 1 rfl) ?_
              refine mq_getr (Tt := TX12) (N := 26) (C := RX12) hx hb hts hiX12 hown hK hP hp rfl 0 1 (by decide) rfl hw2 (fun _ h9 => h9) dX12_shoe_86 ?_
              refine lv_bipush (v := 47) hx hb dX12_shoe_89 (by decide) ?_
              refine lv_iload hx hb dX12_shoe_91 (lv_at hl 0 rfl) ?_
              refine lv_iadd hx hb dX12_shoe_93 ?_
              refine lv_iload_n hx hb dX12_shoe_94 rfl (lv_at hl 4 rfl) ?_
              obtain ⟨h_19, hf⟩ := og_some hf
              obtain ⟨g_20, eg_20, hf⟩ := mw_some hf
              refine mq_iast hx hb hK hI hP hS (N := 193) (shTM_X12_1 hp) h_19 dX12_shoe_95 eg_20 (fun H locs hP hS => ?_)
              refine lv_aload_n hx hb dX12_shoe_96 rfl (lv_at hl 1 rfl) ?_
              refine mq_getr (Tt := TX12) (N := 26) (C := RX12) hx hb hts hiX12 hown hK hP hp rfl 0 1 (by decide) rfl hw2 (fun _ h9 => h9) dX12_shoe_97 ?_
              refine lv_bipush (v := 63) hx hb dX12_shoe_100 (by decide) ?_
              refine lv_iload hx hb dX12_shoe_102 (lv_at hl 0 rfl) ?_
              refine lv_iadd hx hb dX12_shoe_104 ?_
              refine lv_iload hx hb dX12_shoe_105 (lv_at hl 5 rfl) ?_
              obtain ⟨h_21, hf⟩ := og_some hf
              obtain ⟨g_22, eg_22, hf⟩ := mw_some hf
              refine mq_iast hx hb hK hI hP hS (N := 193) (shTM_X12_1 hp) h_21 dX12_shoe_107 eg_22 (fun H locs hP hS => ?_)
              refine lv_aload_n hx hb dX12_shoe_108 rfl (lv_at hl 1 rfl) ?_
              refine mq_getr (Tt := TX12) (N := 26) (C := RX12) hx hb hts hiX12 hown hK hP hp rfl 0 1 (by decide) rfl hw2 (fun _ h9 => h9) dX12_shoe_109 ?_
              refine lv_bipush (v := 79) hx hb dX12_shoe_112 (by decide) ?_
              refine lv_iload hx hb dX12_shoe_114 (lv_at hl 0 rfl) ?_
              refine lv_iadd hx hb dX12_shoe_116 ?_
              refine lv_iconst (v := 0) hx hb dX12_shoe_117 (by decide) ?_
              obtain ⟨h_23, hf⟩ := og_some hf
              obtain ⟨g_24, eg_24, hf⟩ := mw_some hf
              refine mq_iast hx hb hK hI hP hS (N := 193) (shTM_X12_1 hp) h_23 dX12_shoe_118 eg_24 (fun H locs hP hS => ?_)
              refine lv_aload_n hx hb dX12_shoe_119 rfl (lv_at hl 1 rfl) ?_
              refine mq_getr (Tt := TX12) (N := 26) (C := RX12) hx hb hts hiX12 hown hK hP hp rfl 0 1 (by decide) rfl hw2 (fun _ h9 => h9) dX12_shoe_120 ?_
              refine lv_iconst (v := 1) hx hb dX12_shoe_123 (by decide) ?_
              refine lv_iload hx hb dX12_shoe_124 (lv_at hl 0 rfl) ?_
              refine lv_iconst (v := 1) hx hb dX12_shoe_126 (by decide) ?_
              refine lv_iadd hx hb dX12_shoe_127 ?_
              obtain ⟨g_25, eg_25, hf⟩ := mw_some hf
              refine mq_iast hx hb hK hI hP hS (N := 193) (shTM_X12_1 hp) (by decide : mm_in 1 193 = true) dX12_shoe_128 eg_25 (fun H locs hP hS => ?_)
              refine lv_iload hx hb dX12_shoe_129 (lv_at hl 0 rfl) ?_
              exact mq_iret hx hb hr rfl hlocks hP hS (pr_1 hf) (pr_2 hf) dX12_shoe_131
            · replace hf := ite_t c_14 hf
              refine lv_bipush (v := (-3)) hx hb dX12_shoe_60 (by decide) ?_
              exact mq_iret hx hb hr rfl hlocks hP hS (pr_1 hf) (pr_2 hf) dX12_shoe_62
          · replace hf := ite_t c_12 hf
            refine lv_iconst (v := (-1)) hx hb dX12_shoe_43 (by decide) ?_
            exact mq_iret hx hb hr rfl hlocks hP hS (pr_1 hf) (pr_2 hf) dX12_shoe_44
  exact hH9 s.heap [] rfl rfl hP hS
abbrev rm_X12_told : Room := ({ frames := 2, cells := 0, slots := 0, locals := 46 } : Room)
set_option maxHeartbeats 4000000 in
set_option maxRecDepth 100000 in
theorem c_X12_told (l : Launch) (D : va_G) (ad : Nat → Nat) (cy : Nat → ClassId) (x1 : Int32) (x2 : Int32) (g : Mm) (hp : TM[0]? = some sX12) (r0 : Int32) (hf : f_X12_told x1 x2 g = some r0) : Met l yX12_told wsX12_told rm_X12_told (va_Pc [.ref (ad 0), .int x1, .int x2] (mm_pre mm_Z0 D TM ad cy g)) (mm_Qi D TM ad cy r0 g) 0 0 (mm_A TM ad) := by
  refine Met.ofW (cc := cX12_told) (maxL := 4) (ret := (some .int)) (by decide) rfl ?_
  intro p e s m args below meth c s₁ B hml hv
  obtain ⟨hargs, hP, hK, hI, hZ⟩ := hv
  have hx := B.exec
  have hb := B.bytes
  have hr := B.returns
  have hts := atoms_spec (ws := wsX12_told) B.pre
  have hown : s.vm.findClass RX12 = some m.cls := findClass_of_methodNamed B.named
  have hlocks := B.notSynchronized
  have hw0 := hts (.constantLong RX12 86 (4)) (by decide +kernel)
  have hw1 := hts (.fieldLink RX12 7 "LeftShoesModel" "now" "[I") (by decide +kernel)
  have hiX12 : ∀ w ∈ wsX120, w ∈ wsX12_told := by decide +kernel
  rw [show entryFrame m args 4 = F0 m 0 ((lg_sl ([.ref (ad 0), .int x1, .int x2] : List Value) ++ List.replicate (4 - (lg_sl ([.ref (ad 0), .int x1, .int x2] : List Value)).length) Slot.unset).toArray) [] from by rw [hargs]; exact lg_entry_eq m _ _]
  have hl := lv_entry ([.ref (ad 0), .int x1, .int x2] : List Value) (n := 4) (by exact Nat.le_of_ble_eq_true rfl)
  generalize (lg_sl ([.ref (ad 0), .int x1, .int x2] : List Value) ++ List.replicate (4 - (lg_sl ([.ref (ad 0), .int x1, .int x2] : List Value)).length) Slot.unset).toArray = ls at hl ⊢
  have hl : lv_has ls 4 [(0, .ref (ad 0)), (1, .int x1), (2, .int x2)] := by exact hl
  have hS : va_S (mm_A TM ad) s.heap s.heap [] := va_S.rf
  clear hargs
  have hc63 : ∀ (sx0 : Int32) (H : Heap) (locs : List Loc) (ls : Array Slot), va_P D vwCl (mm_L TM ad cy g) H → va_S (mm_A TM ad) s.heap H locs → lv_has ls 4 [(0, .ref (ad 0)), (1, .int x1), (2, .int x2)] → f_X12_told_c63 x1 sx0 g = some r0 → W p l e (headSpec wsX12_told (rm_X12_told)).room s m args below meth c H locs 0 0 (MQ below (mm_Qi D TM ad cy r0 g) args s 0 0 (mm_A TM ad)) (F0 m 63 ls [.int sx0]) := by
    intro sx0 H locs ls hP hS hl hf
    unfold f_X12_told_c63 at hf
    refine lv_istore_n (lv' := [(3, .int sx0), (0, .ref (ad 0)), (1, .int x1), (2, .int x2)]) hx hb dX12_told_63 rfl hl (by decide) rfl (fun ls hl => ?_)
    refine lv_aload_n hx hb dX12_told_64 rfl (lv_at hl 1 rfl) ?_
    refine mq_getr (Tt := TX12) (N := 26) (C := RX12) hx hb hts hiX12 hown hK hP hp rfl 0 1 (by decide) rfl hw1 (fun _ h9 => h9) dX12_told_65 ?_
    refine lv_iload_n hx hb dX12_told_68 rfl (lv_at hl 0 rfl) ?_
    refine lv_iload_n hx hb dX12_told_69 rfl (lv_at hl 2 rfl) ?_
    refine lv_iadd hx hb dX12_told_70 ?_
    obtain ⟨h_11, hf⟩ := og_some hf
    refine mq_iald hx hb hK hP (N := 193) (shTM_X12_1 hp) h_11 dX12_told_71 ?_
    exact mq_iret hx hb hr rfl hlocks hP hS (Option.some.inj hf) rfl dX12_told_72
  unfold f_X12_told at hf
  have hH9 : ∀ (H : Heap) (locs : List Loc), H = s.heap → locs = [] → va_P D vwCl (mm_L TM ad cy g) H → va_S (mm_A TM ad) s.heap H locs → W p l e (headSpec wsX12_told (rm_X12_told)).room s m args below meth c H locs 0 0 (MQ below (mm_Qi D TM ad cy r0 g) args s 0 0 (mm_A TM ad)) (F0 m 0 ls []) := by
    intro H locs hH9 hL9 hP hS
    clear hH9 hL9
    refine lv_aload_n hx hb dX12_told_0 rfl (lv_at hl 0 rfl) ?_
    refine lv_iload_n hx hb dX12_told_1 rfl (lv_at hl 1 rfl) ?_
    obtain ⟨r_1, hr_2, hf⟩ := op_some hf
    refine mq_calli (va_runV (As := [.int x1]) (rest := []) ⟨hx, hb, hml, hown, hts⟩ (c_X12_isShoe l D ad cy x1 g hp r_1 hr_2) (cwV 1 hts gX12_told_X12_isShoe rfl rfl rfl (by decide +kernel) ⟨Nat.le_of_ble_eq_true rfl, Nat.le_of_ble_eq_true rfl⟩) (mq_preV (q := (RX12, TX12, 26)) mm_zOk0 hK hP hI hZ hS hp rfl) rfl rfl hl.1 rfl (lv_room (Nat.le_of_ble_eq_true rfl)) dX12_told_2 ⟨Nat.le_refl _, Nat.le_refl _⟩) hS (fun H locs hP hS => ?_)
    refine lv_if_eq (tgt := 20) hx hb dX12_told_5 (by decide) (fun c_3 => ?_) (fun c_3 => ?_)
    · replace hf := ite_t c_3 hf
      refine lv_iconst (v := (-1)) hx hb dX12_told_20 (by decide) ?_
      exact mq_iret hx hb hr rfl hlocks hP hS (Option.some.inj hf) rfl dX12_told_21
    · replace hf := ite_f c_3 hf
      refine lv_iload_n hx hb dX12_told_8 rfl (lv_at hl 2 rfl) ?_
      refine lv_i2l hx hb dX12_told_9 rfl ?_
      refine lv_lconst (v := 0) hx hb dX12_told_10 (by decide) ?_
      refine lv_ldc2 (v := 4) hx hb hown hw0 dX12_told_11 ?_
      obtain ⟨r_4, hr_5, hf⟩ := op_some hf
      refine mq_calli (va_runS (As := [.long (x2.toInt64), .long 0, .long 4]) (rest := []) ⟨hx, hb, hml, hown, hts⟩ (c_X12_in l D ad cy (x2.toInt64) 0 4 g r_4 hr_5) (va_cwS 3 hts gX12_told_X12_in rfl rfl rfl (by decide +kernel) ⟨Nat.le_of_ble_eq_true rfl, Nat.le_of_ble_eq_true rfl⟩) (mq_preS mm_zOk0 hK hP hI hZ hS) rfl rfl hl.1 rfl (lv_room (Nat.le_of_ble_eq_true rfl)) dX12_told_14 ⟨Nat.le_refl _, Nat.le_refl _⟩) hS (fun H locs hP hS => ?_)
      refine lv_if_ne (tgt := 22) hx hb dX12_told_17 (by decide) (fun c_6 => ?_) (fun c_6 => ?_)
      · replace hf := ite_f c_6 hf
        refine lv_iload_n hx hb dX12_told_22 rfl (lv_at hl 2 rfl) ?_
        refine lv_if_ne (tgt := 31) hx hb dX12_told_23 (by decide) (fun c_7 => ?_) (fun c_7 => ?_)
        · replace hf := ite_f c_7 hf
          refine lv_iload_n hx hb dX12_told_31 rfl (lv_at hl 2 rfl) ?_
          refine lv_iconst (v := 1) hx hb dX12_told_32 (by decide) ?_
          refine lv_icmp_ne (tgt := 41) hx hb dX12_told_33 (by decide) (fun c_8 => ?_) (fun c_8 => ?_)
          · replace hf := ite_f c_8 hf
            refine lv_iload_n hx hb dX12_told_41 rfl (lv_at hl 2 rfl) ?_
            refine lv_iconst (v := 2) hx hb dX12_told_42 (by decide) ?_
            refine lv_icmp_ne (tgt := 51) hx hb dX12_told_43 (by decide) (fun c_9 => ?_) (fun c_9 => ?_)
            · replace hf := ite_f c_9 hf
              refine lv_iload_n hx hb dX12_told_51 rfl (lv_at hl 2 rfl) ?_
              refine lv_iconst (v := 3) hx hb dX12_told_52 (by decide) ?_
              refine lv_icmp_ne (tgt := 61) hx hb dX12_told_53 (by decide) (fun c_10 => ?_) (fun c_10 => ?_)
              · replace hf := ite_f c_10 hf
                refine lv_bipush (v := 15) hx hb dX12_told_61 (by decide) ?_
                exact hc63 15 H locs ls hP hS (lv_sub hl [0, 1, 2] rfl) hf
              · replace hf := ite_t c_10 hf
                refine lv_bipush (v := 79) hx hb dX12_told_56 (by decide) ?_
                refine lv_goto (tgt := 63) hx hb dX12_told_58 (by decide) ?_
                exact hc63 79 H locs ls hP hS (lv_sub hl [0, 1, 2] rfl) hf
            · replace hf := ite_t c_9 hf
              refine lv_bipush (v := 63) hx hb dX12_told_46 (by decide) ?_
              refine lv_goto (tgt := 63) hx hb dX12_told_48 (by decide) ?_
              exact hc63 63 H locs ls hP hS (lv_sub hl [0, 1, 2] rfl) hf
          · replace hf := ite_t c_8 hf
            refine lv_bipush (v := 47) hx hb dX12_told_36 (by decide) ?_
            refine lv_goto (tgt := 63) hx hb dX12_told_38 (by decide) ?_
            exact hc63 47 H locs ls hP hS (lv_sub hl [0, 1, 2] rfl) hf
        · replace hf := ite_t c_7 hf
          refine lv_bipush (v := 31) hx hb dX12_told_26 (by decide) ?_
          refine lv_goto (tgt := 63) hx hb dX12_told_28 (by decide) ?_
          exact hc63 31 H locs ls hP hS (lv_sub hl [0, 1, 2] rfl) hf
      · replace hf := ite_t c_6 hf
        refine lv_iconst (v := (-1)) hx hb dX12_told_20 (by decide) ?_
        exact mq_iret hx hb hr rfl hlocks hP hS (Option.some.inj hf) rfl dX12_told_21
  exact hH9 s.heap [] rfl rfl hP hS
abbrev rm_X12_changed : Room := ({ frames := 0, cells := 0, slots := 0, locals := 0 } : Room)
set_option maxHeartbeats 4000000 in
set_option maxRecDepth 100000 in
theorem c_X12_changed (l : Launch) (D : va_G) (ad : Nat → Nat) (cy : Nat → ClassId) (x1 : Int32) (x2 : Int32) (g : Mm) (hp : TM[0]? = some sX12) (r0 : Int32) (g' : Mm) (hf : f_X12_changed x1 x2 g = some (r0, g')) : Met l yX12_changed wsX12_changed rm_X12_changed (va_Pc [.ref (ad 0), .int x1, .int x2] (mm_pre mm_Z0 D TM ad cy g)) (mm_Qi D TM ad cy r0 g') 0 0 (mm_A TM ad) := by
  refine Met.ofW (cc := cX12_changed) (maxL := 4) (ret := (some .int)) (by decide) rfl ?_
  intro p e s m args below meth c s₁ B hml hv
  obtain ⟨hargs, hP, hK, hI, hZ⟩ := hv
  have hx := B.exec
  have hb := B.bytes
  have hr := B.returns
  have hts := atoms_spec (ws := wsX12_changed) B.pre
  have hown : s.vm.findClass RX12 = some m.cls := findClass_of_methodNamed B.named
  have hlocks := B.notSynchronized
  have hw0 := hts (.fieldLink RX12 7 "LeftShoesModel" "now" "[I") (by decide +kernel)
  have hiX12 : ∀ w ∈ wsX120, w ∈ wsX12_changed := by decide +kernel
  rw [show entryFrame m args 4 = F0 m 0 ((lg_sl ([.ref (ad 0), .int x1, .int x2] : List Value) ++ List.replicate (4 - (lg_sl ([.ref (ad 0), .int x1, .int x2] : List Value)).length) Slot.unset).toArray) [] from by rw [hargs]; exact lg_entry_eq m _ _]
  have hl := lv_entry ([.ref (ad 0), .int x1, .int x2] : List Value) (n := 4) (by exact Nat.le_of_ble_eq_true rfl)
  generalize (lg_sl ([.ref (ad 0), .int x1, .int x2] : List Value) ++ List.replicate (4 - (lg_sl ([.ref (ad 0), .int x1, .int x2] : List Value)).length) Slot.unset).toArray = ls at hl ⊢
  have hl : lv_has ls 4 [(0, .ref (ad 0)), (1, .int x1), (2, .int x2)] := by exact hl
  have hS : va_S (mm_A TM ad) s.heap s.heap [] := va_S.rf
  clear hargs
  unfold f_X12_changed at hf
  have hH9 : ∀ (H : Heap) (locs : List Loc), H = s.heap → locs = [] → va_P D vwCl (mm_L TM ad cy g) H → va_S (mm_A TM ad) s.heap H locs → W p l e (headSpec wsX12_changed (rm_X12_changed)).room s m args below meth c H locs 0 0 (MQ below (mm_Qi D TM ad cy r0 g') args s 0 0 (mm_A TM ad)) (F0 m 0 ls []) := by
    intro H locs hH9 hL9 hP hS
    clear hH9 hL9
    refine lv_aload_n hx hb dX12_changed_0 rfl (lv_at hl 0 rfl) ?_
    refine mq_getr (Tt := TX12) (N := 26) (C := RX12) hx hb hts hiX12 hown hK hP hp rfl 0 1 (by decide) rfl hw0 (fun _ h9 => h9) dX12_changed_1 ?_
    refine lv_iload_n hx hb dX12_changed_4 rfl (lv_at hl 1 rfl) ?_
    obtain ⟨h_1, hf⟩ := og_some hf
    refine mq_iald hx hb hK hP (N := 193) (shTM_X12_1 hp) h_1 dX12_changed_5 ?_
    obtain ⟨x3_2, ex3_2, hf⟩ := mv_some hf
    refine mq_nm ex3_2 ?_
    refine lv_istore_n (lv' := [(3, .int x3_2), (0, .ref (ad 0)), (1, .int x1), (2, .int x2)]) hx hb dX12_changed_6 rfl hl (by decide) rfl (fun ls hl => ?_)
    refine lv_aload_n hx hb dX12_changed_7 rfl (lv_at hl 1 rfl) ?_
    refine mq_getr (Tt := TX12) (N := 26) (C := RX12) hx hb hts hiX12 hown hK hP hp rfl 0 1 (by decide) rfl hw0 (fun _ h9 => h9) dX12_changed_8 ?_
    refine lv_iload_n hx hb dX12_changed_11 rfl (lv_at hl 2 rfl) ?_
    refine lv_iload_n hx hb dX12_changed_12 rfl (lv_at hl 3 rfl) ?_
    obtain ⟨h_3, hf⟩ := og_some hf
    obtain ⟨g_4, eg_4, hf⟩ := mw_some hf
    refine mq_iast hx hb hK hI hP hS (N := 193) (shTM_X12_1 hp) h_3 dX12_changed_13 eg_4 (fun H locs hP hS => ?_)
    refine lv_iload_n hx hb dX12_changed_14 rfl (lv_at hl 0 rfl) ?_
    exact mq_iret hx hb hr rfl hlocks hP hS (pr_1 hf) (pr_2 hf) dX12_changed_15
  exact hH9 s.heap [] rfl rfl hP hS
abbrev rm_X12_stamp : Room := ({ frames := 2, cells := 0, slots := 0, locals := 46 } : Room)
set_option maxHeartbeats 4000000 in
set_option maxRecDepth 100000 in
theorem c_X12_stamp (l : Launch) (D : va_G) (ad : Nat → Nat) (cy : Nat → ClassId) (x1 : Int32) (x2 : Int32) (g : Mm) (hp : TM[0]? = some sX12) (r0 : Int32) (g' : Mm) (hf : f_X12_stamp x1 x2 g = some (r0, g')) : Met l yX12_stamp wsX12_stamp rm_X12_stamp (va_Pc [.ref (ad 0), .int x1, .int x2] (mm_pre mm_Z0 D TM ad cy g)) (mm_Qi D TM ad cy r0 g') 0 0 (mm_A TM ad) := by
  refine Met.ofW (cc := cX12_stamp) (maxL := 3) (ret := (some .int)) (by decide) rfl ?_
  intro p e s m args below meth c s₁ B hml hv
  obtain ⟨hargs, hP, hK, hI, hZ⟩ := hv
  have hx := B.exec
  have hb := B.bytes
  have hr := B.returns
  have hts := atoms_spec (ws := wsX12_stamp) B.pre
  have hown : s.vm.findClass RX12 = some m.cls := findClass_of_methodNamed B.named
  have hlocks := B.notSynchronized
  rw [show entryFrame m args 3 = F0 m 0 ((lg_sl ([.ref (ad 0), .int x1, .int x2] : List Value) ++ List.replicate (3 - (lg_sl ([.ref (ad 0), .int x1, .int x2] : List Value)).length) Slot.unset).toArray) [] from by rw [hargs]; exact lg_entry_eq m _ _]
  have hl := lv_entry ([.ref (ad 0), .int x1, .int x2] : List Value) (n := 3) (by exact Nat.le_of_ble_eq_true rfl)
  generalize (lg_sl ([.ref (ad 0), .int x1, .int x2] : List Value) ++ List.replicate (3 - (lg_sl ([.ref (ad 0), .int x1, .int x2] : List Value)).length) Slot.unset).toArray = ls at hl ⊢
  have hl : lv_has ls 3 [(0, .ref (ad 0)), (1, .int x1), (2, .int x2)] := by exact hl
  have hS : va_S (mm_A TM ad) s.heap s.heap [] := va_S.rf
  clear hargs
  have hc24 : ∀ (sx1 : Int32) (sx2 : Int32) (g : Mm) (H : Heap) (locs : List Loc) (ls : Array Slot), va_P D vwCl (mm_L TM ad cy g) H → va_S (mm_A TM ad) s.heap H locs → lv_has ls 3 [(0, .ref (ad 0)), (1, .int x1), (2, .int x2)] → f_X12_stamp_c24 sx1 sx2 g = some (r0, g') → W p l e (headSpec wsX12_stamp (rm_X12_stamp)).room s m args below meth c H locs 0 0 (MQ below (mm_Qi D TM ad cy r0 g') args s 0 0 (mm_A TM ad)) (F0 m 24 ls [.int sx2, .int sx1, .ref (ad 0)]) := by
    intro sx1 sx2 g H locs ls hP hS hl hf
    unfold f_X12_stamp_c24 at hf
    obtain ⟨r_6, g_5, hr_7, hf⟩ := ob_some hf
    refine mq_calli (va_runV (As := [.int sx1, .int sx2]) (rest := []) ⟨hx, hb, hml, hown, hts⟩ (c_X12_changed l D ad cy sx1 sx2 g hp r_6 g_5 hr_7) (cwV 2 hts gX12_stamp_X12_changed rfl rfl rfl (by decide +kernel) ⟨Nat.le_of_ble_eq_true rfl, Nat.le_of_ble_eq_true rfl⟩) (mq_preV (q := (RX12, TX12, 26)) mm_zOk0 hK hP hI hZ hS hp rfl) rfl rfl hl.1 rfl (lv_room (Nat.le_of_ble_eq_true rfl)) dX12_stamp_24 ⟨Nat.le_refl _, Nat.le_refl _⟩) hS (fun H locs hP hS => ?_)
    exact mq_iret hx hb hr rfl hlocks hP hS (pr_1 hf) (pr_2 hf) dX12_stamp_27
  unfold f_X12_stamp at hf
  have hH9 : ∀ (H : Heap) (locs : List Loc), H = s.heap → locs = [] → va_P D vwCl (mm_L TM ad cy g) H → va_S (mm_A TM ad) s.heap H locs → W p l e (headSpec wsX12_stamp (rm_X12_stamp)).room s m args below meth c H locs 0 0 (MQ below (mm_Qi D TM ad cy r0 g') args s 0 0 (mm_A TM ad)) (F0 m 0 ls []) := by
    intro H locs hH9 hL9 hP hS
    clear hH9 hL9
    refine lv_aload_n hx hb dX12_stamp_0 rfl (lv_at hl 0 rfl) ?_
    refine lv_iload_n hx hb dX12_stamp_1 rfl (lv_at hl 1 rfl) ?_
    obtain ⟨r_1, hr_2, hf⟩ := op_some hf
    refine mq_calli (va_runV (As := [.int x1]) (rest := []) ⟨hx, hb, hml, hown, hts⟩ (c_X12_isShoe l D ad cy x1 g hp r_1 hr_2) (cwV 1 hts gX12_stamp_X12_isShoe rfl rfl rfl (by decide +kernel) ⟨Nat.le_of_ble_eq_true rfl, Nat.le_of_ble_eq_true rfl⟩) (mq_preV (q := (RX12, TX12, 26)) mm_zOk0 hK hP hI hZ hS hp rfl) rfl rfl hl.1 rfl (lv_room (Nat.le_of_ble_eq_true rfl)) dX12_stamp_2 ⟨Nat.le_refl _, Nat.le_refl _⟩) hS (fun H locs hP hS => ?_)
    refine lv_if_ne (tgt := 10) hx hb dX12_stamp_5 (by decide) (fun c_3 => ?_) (fun c_3 => ?_)
    · replace hf := ite_f c_3 hf
      refine lv_aload_n hx hb dX12_stamp_10 rfl (lv_at hl 0 rfl) ?_
      refine lv_bipush (v := 79) hx hb dX12_stamp_11 (by decide) ?_
      refine lv_iload_n hx hb dX12_stamp_13 rfl (lv_at hl 1 rfl) ?_
      refine lv_iadd hx hb dX12_stamp_14 ?_
      refine lv_iload_n hx hb dX12_stamp_15 rfl (lv_at hl 2 rfl) ?_
      refine lv_if_eq (tgt := 23) hx hb dX12_stamp_16 (by decide) (fun c_4 => ?_) (fun c_4 => ?_)
      · replace hf := ite_t c_4 hf
        refine lv_iconst (v := 0) hx hb dX12_stamp_23 (by decide) ?_
        exact hc24 (79 + x1) 0 g H locs ls hP hS (lv_sub hl [0, 1, 2] rfl) hf
      · replace hf := ite_f c_4 hf
        refine lv_iconst (v := 1) hx hb dX12_stamp_19 (by decide) ?_
        refine lv_goto (tgt := 24) hx hb dX12_stamp_20 (by decide) ?_
        exact hc24 (79 + x1) 1 g H locs ls hP hS (lv_sub hl [0, 1, 2] rfl) hf
    · replace hf := ite_t c_3 hf
      refine lv_iconst (v := (-1)) hx hb dX12_stamp_8 (by decide) ?_
      exact mq_iret hx hb hr rfl hlocks hP hS (pr_1 hf) (pr_2 hf) dX12_stamp_9
  exact hH9 s.heap [] rfl rfl hP hS
abbrev rm_X12_give : Room := ({ frames := 2, cells := 0, slots := 0, locals := 46 } : Room)
set_option maxHeartbeats 4000000 in
set_option maxRecDepth 100000 in
theorem c_X12_give (l : Launch) (D : va_G) (ad : Nat → Nat) (cy : Nat → ClassId) (x1 : Int32) (x2 : Int32) (g : Mm) (hp : TM[0]? = some sX12) (r0 : Int32) (g' : Mm) (hf : f_X12_give x1 x2 g = some (r0, g')) : Met l yX12_give wsX12_give rm_X12_give (va_Pc [.ref (ad 0), .int x1, .int x2] (mm_pre mm_Z0 D TM ad cy g)) (mm_Qi D TM ad cy r0 g') 0 0 (mm_A TM ad) := by
  refine Met.ofW (cc := cX12_give) (maxL := 3) (ret := (some .int)) (by decide) rfl ?_
  intro p e s m args below meth c s₁ B hml hv
  obtain ⟨hargs, hP, hK, hI, hZ⟩ := hv
  have hx := B.exec
  have hb := B.bytes
  have hr := B.returns
  have hts := atoms_spec (ws := wsX12_give) B.pre
  have hown : s.vm.findClass RX12 = some m.cls := findClass_of_methodNamed B.named
  have hlocks := B.notSynchronized
  rw [show entryFrame m args 3 = F0 m 0 ((lg_sl ([.ref (ad 0), .int x1, .int x2] : List Value) ++ List.replicate (3 - (lg_sl ([.ref (ad 0), .int x1, .int x2] : List Value)).length) Slot.unset).toArray) [] from by rw [hargs]; exact lg_entry_eq m _ _]
  have hl := lv_entry ([.ref (ad 0), .int x1, .int x2] : List Value) (n := 3) (by exact Nat.le_of_ble_eq_true rfl)
  generalize (lg_sl ([.ref (ad 0), .int x1, .int x2] : List Value) ++ List.replicate (3 - (lg_sl ([.ref (ad 0), .int x1, .int x2] : List Value)).length) Slot.unset).toArray = ls at hl ⊢
  have hl : lv_has ls 3 [(0, .ref (ad 0)), (1, .int x1), (2, .int x2)] := by exact hl
  have hS : va_S (mm_A TM ad) s.heap s.heap [] := va_S.rf
  clear hargs
  unfold f_X12_give at hf
  have hH9 : ∀ (H : Heap) (locs : List Loc), H = s.heap → locs = [] → va_P D vwCl (mm_L TM ad cy g) H → va_S (mm_A TM ad) s.heap H locs → W p l e (headSpec wsX12_give (rm_X12_give)).room s m args below meth c H locs 0 0 (MQ below (mm_Qi D TM ad cy r0 g') args s 0 0 (mm_A TM ad)) (F0 m 0 ls []) := by
    intro H locs hH9 hL9 hP hS
    clear hH9 hL9
    refine lv_aload_n hx hb dX12_give_0 rfl (lv_at hl 0 rfl) ?_
    refine lv_iload_n hx hb dX12_give_1 rfl (lv_at hl 1 rfl) ?_
    obtain ⟨r_1, hr_2, hf⟩ := op_some hf
    refine mq_calli (va_runV (As := [.int x1]) (rest := []) ⟨hx, hb, hml, hown, hts⟩ (c_X12_isShoe l D ad cy x1 g hp r_1 hr_2) (cwV 1 hts gX12_give_X12_isShoe rfl rfl rfl (by decide +kernel) ⟨Nat.le_of_ble_eq_true rfl, Nat.le_of_ble_eq_true rfl⟩) (mq_preV (q := (RX12, TX12, 26)) mm_zOk0 hK hP hI hZ hS hp rfl) rfl rfl hl.1 rfl (lv_room (Nat.le_of_ble_eq_true rfl)) dX12_give_2 ⟨Nat.le_refl _, Nat.le_refl _⟩) hS (fun H locs hP hS => ?_)
    refine lv_if_eq (tgt := 28) hx hb dX12_give_5 (by decide) (fun c_3 => ?_) (fun c_3 => ?_)
    · replace hf := ite_t c_3 hf
      refine lv_iconst (v := (-1)) hx hb dX12_give_28 (by decide) ?_
      exact mq_iret hx hb hr rfl hlocks hP hS (pr_1 hf) (pr_2 hf) dX12_give_29
    · replace hf := ite_f c_3 hf
      refine lv_aload_n hx hb dX12_give_8 rfl (lv_at hl 0 rfl) ?_
      refine lv_iload_n hx hb dX12_give_9 rfl (lv_at hl 2 rfl) ?_
      obtain ⟨r_4, hr_5, hf⟩ := op_some hf
      refine mq_calli (va_runV (As := [.int x2]) (rest := []) ⟨hx, hb, hml, hown, hts⟩ (c_X12_isPerson l D ad cy x2 g hp r_4 hr_5) (cwV 1 hts gX12_give_X12_isPerson rfl rfl rfl (by decide +kernel) ⟨Nat.le_of_ble_eq_true rfl, Nat.le_of_ble_eq_true rfl⟩) (mq_preV (q := (RX12, TX12, 26)) mm_zOk0 hK hP hI hZ hS hp rfl) rfl rfl hl.1 rfl (lv_room (Nat.le_of_ble_eq_true rfl)) dX12_give_10 ⟨Nat.le_refl _, Nat.le_refl _⟩) hS (fun H locs hP hS => ?_)
      refine lv_if_eq (tgt := 28) hx hb dX12_give_13 (by decide) (fun c_6 => ?_) (fun c_6 => ?_)
      · replace hf := ite_t c_6 hf
        refine lv_iconst (v := (-1)) hx hb dX12_give_28 (by decide) ?_
        exact mq_iret hx hb hr rfl hlocks hP hS (pr_1 hf) (pr_2 hf) dX12_give_29
      · replace hf := ite_f c_6 hf
        refine lv_aload_n hx hb dX12_give_16 rfl (lv_at hl 0 rfl) ?_
        refine lv_bipush (v := 15) hx hb dX12_give_17 (by decide) ?_
        refine lv_iload_n hx hb dX12_give_19 rfl (lv_at hl 1 rfl) ?_
        refine lv_iadd hx hb dX12_give_20 ?_
        refine lv_iload_n hx hb dX12_give_21 rfl (lv_at hl 2 rfl) ?_
        obtain ⟨r_8, g_7, hr_9, hf⟩ := ob_some hf
        refine mq_calli (va_runV (As := [.int (15 + x1), .int x2]) (rest := []) ⟨hx, hb, hml, hown, hts⟩ (c_X12_changed l D ad cy (15 + x1) x2 g hp r_8 g_7 hr_9) (cwV 2 hts gX12_give_X12_changed rfl rfl rfl (by decide +kernel) ⟨Nat.le_of_ble_eq_true rfl, Nat.le_of_ble_eq_true rfl⟩) (mq_preV (q := (RX12, TX12, 26)) mm_zOk0 hK hP hI hZ hS hp rfl) rfl rfl hl.1 rfl (lv_room (Nat.le_of_ble_eq_true rfl)) dX12_give_22 ⟨Nat.le_refl _, Nat.le_refl _⟩) hS (fun H locs hP hS => ?_)
        refine lv_goto (tgt := 29) hx hb dX12_give_25 (by decide) ?_
        exact mq_iret hx hb hr rfl hlocks hP hS (pr_1 hf) (pr_2 hf) dX12_give_29
  exact hH9 s.heap [] rfl rfl hP hS
abbrev rm_X12_has : Room := ({ frames := 0, cells := 0, slots := 0, locals := 0 } : Room)
set_option maxHeartbeats 4000000 in
set_option maxRecDepth 100000 in
theorem c_X12_has (l : Launch) (D : va_G) (ad : Nat → Nat) (cy : Nat → ClassId) (x1 : Int32) (x2 : Int32) (g : Mm) (hp : TM[0]? = some sX12) (r0 : Int32) (hf : f_X12_has x1 x2 g = some r0) : Met l yX12_has wsX12_has rm_X12_has (va_Pc [.ref (ad 0), .int x1, .int x2] (mm_pre mm_Z0 D TM ad cy g)) (mm_Qi D TM ad cy r0 g) 0 0 (mm_A TM ad) := by
  refine Met.ofW (cc := cX12_has) (maxL := 5) (ret := (some .int)) (by decide) rfl ?_
  intro p e s m args below meth c s₁ B hml hv
  obtain ⟨hargs, hP, hK, hI, hZ⟩ := hv
  have hx := B.exec
  have hb := B.bytes
  have hr := B.returns
  have hts := atoms_spec (ws := wsX12_has) B.pre
  have hown : s.vm.findClass RX12 = some m.cls := findClass_of_methodNamed B.named
  have hlocks := B.notSynchronized
  have hw0 := hts (.fieldLink RX12 7 "LeftShoesModel" "now" "[I") (by decide +kernel)
  have hiX12 : ∀ w ∈ wsX120, w ∈ wsX12_has := by decide +kernel
  rw [show entryFrame m args 5 = F0 m 0 ((lg_sl ([.ref (ad 0), .int x1, .int x2] : List Value) ++ List.replicate (5 - (lg_sl ([.ref (ad 0), .int x1, .int x2] : List Value)).length) Slot.unset).toArray) [] from by rw [hargs]; exact lg_entry_eq m _ _]
  have hl := lv_entry ([.ref (ad 0), .int x1, .int x2] : List Value) (n := 5) (by exact Nat.le_of_ble_eq_true rfl)
  generalize (lg_sl ([.ref (ad 0), .int x1, .int x2] : List Value) ++ List.replicate (5 - (lg_sl ([.ref (ad 0), .int x1, .int x2] : List Value)).length) Slot.unset).toArray = ls at hl ⊢
  have hl : lv_has ls 5 [(0, .ref (ad 0)), (1, .int x1), (2, .int x2)] := by exact hl
  have hS : va_S (mm_A TM ad) s.heap s.heap [] := va_S.rf
  clear hargs
  have hc5 : ∀ (n : Nat), ∀ (x3 : Int32) (x4 : Int32) (H : Heap) (locs : List Loc) (ls : Array Slot), va_P D vwCl (mm_L TM ad cy g) H → va_S (mm_A TM ad) s.heap H locs → lv_has ls 5 [(0, .ref (ad 0)), (1, .int x1), (2, .int x2), (3, .int x3), (4, .int x4)] → f_X12_has_c5 x1 x2 n x3 x4 g = some r0 → W p l e (headSpec wsX12_has (rm_X12_has)).room s m args below meth c H locs 0 0 (MQ below (mm_Qi D TM ad cy r0 g) args s 0 0 (mm_A TM ad)) (F0 m 5 ls []) := by
    intro n
    induction n with
    | zero =>
      intro x3 x4 H locs ls hP hS hl hf
      rw [f_X12_has_c5] at hf
      cases hf
    | succ n ih =>
      intro x3 x4 H locs ls hP hS hl hf
      rw [f_X12_has_c5] at hf
      refine lv_iload hx hb dX12_has_5 (lv_at hl 4 rfl) ?_
      refine lv_aload_n hx hb dX12_has_7 rfl (lv_at hl 0 rfl) ?_
      refine mq_getr (Tt := TX12) (N := 26) (C := RX12) hx hb hts hiX12 hown hK hP hp rfl 0 1 (by decide) rfl hw0 (fun _ h9 => h9) dX12_has_8 ?_
      refine lv_iconst (v := 1) hx hb dX12_has_11 (by decide) ?_
      refine mq_iald hx hb hK hP (N := 193) (shTM_X12_1 hp) (by decide : mm_in 1 193 = true) dX12_has_12 ?_
      refine lv_icmp_ge (tgt := 58) hx hb dX12_has_13 (by decide) (fun c_1 => ?_) (fun c_1 => ?_)
      · replace hf := ite_t c_1 hf
        refine lv_iload_n hx hb dX12_has_58 rfl (lv_at hl 3 rfl) ?_
        exact mq_iret hx hb hr rfl hlocks hP hS (Option.some.inj hf) rfl dX12_has_59
      · replace hf := ite_f c_1 hf
        refine lv_iload_n hx hb dX12_has_16 rfl (lv_at hl 3 rfl) ?_
        refine lv_aload_n hx hb dX12_has_17 rfl (lv_at hl 0 rfl) ?_
        refine mq_getr (Tt := TX12) (N := 26) (C := RX12) hx hb hts hiX12 hown hK hP hp rfl 0 1 (by decide) rfl hw0 (fun _ h9 => h9) dX12_has_18 ?_
        refine lv_bipush (v := 15) hx hb dX12_has_21 (by decide) ?_
        refine lv_iload hx hb dX12_has_23 (lv_at hl 4 rfl) ?_
        refine lv_iadd hx hb dX12_has_25 ?_
        obtain ⟨h_2, hf⟩ := og_some hf
        refine mq_iald hx hb hK hP (N := 193) (shTM_X12_1 hp) h_2 dX12_has_26 ?_
        refine lv_iload_n hx hb dX12_has_27 rfl (lv_at hl 1 rfl) ?_
        refine lv_icmp_ne (tgt := 49) hx hb dX12_has_28 (by decide) (fun c_3 => ?_) (fun c_3 => ?_)
        · replace hf := ite_f c_3 hf
          refine lv_iconst (v := 0) hx hb dX12_has_49 (by decide) ?_
          refine lv_iadd hx hb dX12_has_50 ?_
          obtain ⟨x3_4, ex3_4, hf⟩ := mv_some hf
          refine mq_nm ex3_4 ?_
          refine lv_istore_n (lv' := [(3, .int x3_4), (0, .ref (ad 0)), (1, .int x1), (2, .int x2), (4, .int x4)]) hx hb dX12_has_51 rfl hl (by decide) rfl (fun ls hl => ?_)
          obtain ⟨x4_5, ex4_5, hf⟩ := mv_some hf
          refine lv_iinc (v := x4_5) (lv' := [(4, .int x4_5), (3, .int x3_4), (0, .ref (ad 0)), (1, .int x1), (2, .int x2)]) hx hb dX12_has_52 hl (k := 4) rfl (by rw [ex4_5]; rfl) (by decide) rfl (fun ls hl => ?_)
          refine lv_goto (tgt := 5) hx hb dX12_has_55 (by decide) ?_
          exact ih x3_4 x4_5 H locs ls hP hS (lv_sub hl [2, 3, 4, 1, 0] rfl) hf
        · replace hf := ite_t c_3 hf
          refine lv_aload_n hx hb dX12_has_31 rfl (lv_at hl 0 rfl) ?_
          refine mq_getr (Tt := TX12) (N := 26) (C := RX12) hx hb hts hiX12 hown hK hP hp rfl 0 1 (by decide) rfl hw0 (fun _ h9 => h9) dX12_has_32 ?_
          refine lv_bipush (v := 31) hx hb dX12_has_35 (by decide) ?_
          refine lv_iload hx hb dX12_has_37 (lv_at hl 4 rfl) ?_
          refine lv_iadd hx hb dX12_has_39 ?_
          obtain ⟨h_6, hf⟩ := og_some hf
          refine mq_iald hx hb hK hP (N := 193) (shTM_X12_1 hp) h_6 dX12_has_40 ?_
          refine lv_iload_n hx hb dX12_has_41 rfl (lv_at hl 2 rfl) ?_
          refine lv_icmp_ne (tgt := 49) hx hb dX12_has_42 (by decide) (fun c_7 => ?_) (fun c_7 => ?_)
          · replace hf := ite_f c_7 hf
            refine lv_iconst (v := 0) hx hb dX12_has_49 (by decide) ?_
            refine lv_iadd hx hb dX12_has_50 ?_
            obtain ⟨x3_8, ex3_8, hf⟩ := mv_some hf
            refine mq_nm ex3_8 ?_
            refine lv_istore_n (lv' := [(3, .int x3_8), (0, .ref (ad 0)), (1, .int x1), (2, .int x2), (4, .int x4)]) hx hb dX12_has_51 rfl hl (by decide) rfl (fun ls hl => ?_)
            obtain ⟨x4_9, ex4_9, hf⟩ := mv_some hf
            refine lv_iinc (v := x4_9) (lv' := [(4, .int x4_9), (3, .int x3_8), (0, .ref (ad 0)), (1, .int x1), (2, .int x2)]) hx hb dX12_has_52 hl (k := 4) rfl (by rw [ex4_9]; rfl) (by decide) rfl (fun ls hl => ?_)
            refine lv_goto (tgt := 5) hx hb dX12_has_55 (by decide) ?_
            exact ih x3_8 x4_9 H locs ls hP hS (lv_sub hl [2, 3, 4, 1, 0] rfl) hf
          · replace hf := ite_t c_7 hf
            refine lv_iconst (v := 1) hx hb dX12_has_45 (by decide) ?_
            refine lv_goto (tgt := 50) hx hb dX12_has_46 (by decide) ?_
            refine lv_iadd hx hb dX12_has_50 ?_
            obtain ⟨x3_10, ex3_10, hf⟩ := mv_some hf
            refine mq_nm ex3_10 ?_
            refine lv_istore_n (lv' := [(3, .int x3_10), (0, .ref (ad 0)), (1, .int x1), (2, .int x2), (4, .int x4)]) hx hb dX12_has_51 rfl hl (by decide) rfl (fun ls hl => ?_)
            obtain ⟨x4_11, ex4_11, hf⟩ := mv_some hf
            refine lv_iinc (v := x4_11) (lv' := [(4, .int x4_11), (3, .int x3_10), (0, .ref (ad 0)), (1, .int x1), (2, .int x2)]) hx hb dX12_has_52 hl (k := 4) rfl (by rw [ex4_11]; rfl) (by decide) rfl (fun ls hl => ?_)
            refine lv_goto (tgt := 5) hx hb dX12_has_55 (by decide) ?_
            exact ih x3_10 x4_11 H locs ls hP hS (lv_sub hl [2, 3, 4, 1, 0] rfl) hf
  unfold f_X12_has at hf
  have hH9 : ∀ (H : Heap) (locs : List Loc), H = s.heap → locs = [] → va_P D vwCl (mm_L TM ad cy g) H → va_S (mm_A TM ad) s.heap H locs → W p l e (headSpec wsX12_has (rm_X12_has)).room s m args below meth c H locs 0 0 (MQ below (mm_Qi D TM ad cy r0 g) args s 0 0 (mm_A TM ad)) (F0 m 0 ls []) := by
    intro H locs hH9 hL9 hP hS
    clear hH9 hL9
    refine lv_iconst (v := 0) hx hb dX12_has_0 (by decide) ?_
    refine lv_istore_n (lv' := [(3, .int 0), (0, .ref (ad 0)), (1, .int x1), (2, .int x2)]) hx hb dX12_has_1 rfl hl (by decide) rfl (fun ls hl => ?_)
    refine lv_iconst (v := 0) hx hb dX12_has_2 (by decide) ?_
    refine lv_istore (lv' := [(4, .int 0), (3, .int 0), (0, .ref (ad 0)), (1, .int x1), (2, .int x2)]) hx hb dX12_has_3 hl (by decide) rfl (fun ls hl => ?_)
    exact hc5 FU 0 0 H locs ls hP hS (lv_sub hl [2, 3, 4, 1, 0] rfl) hf
  exact hH9 s.heap [] rfl rfl hP hS
abbrev rm_X12_of : Room := ({ frames := 2, cells := 0, slots := 0, locals := 46 } : Room)
set_option maxHeartbeats 4000000 in
set_option maxRecDepth 100000 in
theorem c_X12_of (l : Launch) (D : va_G) (ad : Nat → Nat) (cy : Nat → ClassId) (x1 : Int32) (x2 : Int32) (g : Mm) (hp : TM[0]? = some sX12) (r0 : Int32) (hf : f_X12_of x1 x2 g = some r0) : Met l yX12_of wsX12_of rm_X12_of (va_Pc [.ref (ad 0), .int x1, .int x2] (mm_pre mm_Z0 D TM ad cy g)) (mm_Qi D TM ad cy r0 g) 0 0 (mm_A TM ad) := by
  refine Met.ofW (cc := cX12_of) (maxL := 3) (ret := (some .int)) (by decide) rfl ?_
  intro p e s m args below meth c s₁ B hml hv
  obtain ⟨hargs, hP, hK, hI, hZ⟩ := hv
  have hx := B.exec
  have hb := B.bytes
  have hr := B.returns
  have hts := atoms_spec (ws := wsX12_of) B.pre
  have hown : s.vm.findClass RX12 = some m.cls := findClass_of_methodNamed B.named
  have hlocks := B.notSynchronized
  have hw0 := hts (.constantLong RX12 79 (3)) (by decide +kernel)
  have hw1 := hts (.fieldLink RX12 7 "LeftShoesModel" "now" "[I") (by decide +kernel)
  have hiX12 : ∀ w ∈ wsX120, w ∈ wsX12_of := by decide +kernel
  rw [show entryFrame m args 3 = F0 m 0 ((lg_sl ([.ref (ad 0), .int x1, .int x2] : List Value) ++ List.replicate (3 - (lg_sl ([.ref (ad 0), .int x1, .int x2] : List Value)).length) Slot.unset).toArray) [] from by rw [hargs]; exact lg_entry_eq m _ _]
  have hl := lv_entry ([.ref (ad 0), .int x1, .int x2] : List Value) (n := 3) (by exact Nat.le_of_ble_eq_true rfl)
  generalize (lg_sl ([.ref (ad 0), .int x1, .int x2] : List Value) ++ List.replicate (3 - (lg_sl ([.ref (ad 0), .int x1, .int x2] : List Value)).length) Slot.unset).toArray = ls at hl ⊢
  have hl : lv_has ls 3 [(0, .ref (ad 0)), (1, .int x1), (2, .int x2)] := by exact hl
  have hS : va_S (mm_A TM ad) s.heap s.heap [] := va_S.rf
  clear hargs
  unfold f_X12_of at hf
  have hH9 : ∀ (H : Heap) (locs : List Loc), H = s.heap → locs = [] → va_P D vwCl (mm_L TM ad cy g) H → va_S (mm_A TM ad) s.heap H locs → W p l e (headSpec wsX12_of (rm_X12_of)).room s m args below meth c H locs 0 0 (MQ below (mm_Qi D TM ad cy r0 g) args s 0 0 (mm_A TM ad)) (F0 m 0 ls []) := by
    intro H locs hH9 hL9 hP hS
    clear hH9 hL9
    refine lv_aload_n hx hb dX12_of_0 rfl (lv_at hl 0 rfl) ?_
    refine lv_iload_n hx hb dX12_of_1 rfl (lv_at hl 1 rfl) ?_
    obtain ⟨r_1, hr_2, hf⟩ := op_some hf
    refine mq_calli (va_runV (As := [.int x1]) (rest := []) ⟨hx, hb, hml, hown, hts⟩ (c_X12_isPerson l D ad cy x1 g hp r_1 hr_2) (cwV 1 hts gX12_of_X12_isPerson rfl rfl rfl (by decide +kernel) ⟨Nat.le_of_ble_eq_true rfl, Nat.le_of_ble_eq_true rfl⟩) (mq_preV (q := (RX12, TX12, 26)) mm_zOk0 hK hP hI hZ hS hp rfl) rfl rfl hl.1 rfl (lv_room (Nat.le_of_ble_eq_true rfl)) dX12_of_2 ⟨Nat.le_refl _, Nat.le_refl _⟩) hS (fun H locs hP hS => ?_)
    refine lv_if_eq (tgt := 20) hx hb dX12_of_5 (by decide) (fun c_3 => ?_) (fun c_3 => ?_)
    · replace hf := ite_t c_3 hf
      refine lv_iconst (v := (-1)) hx hb dX12_of_20 (by decide) ?_
      exact mq_iret hx hb hr rfl hlocks hP hS (Option.some.inj hf) rfl dX12_of_21
    · replace hf := ite_f c_3 hf
      refine lv_iload_n hx hb dX12_of_8 rfl (lv_at hl 2 rfl) ?_
      refine lv_i2l hx hb dX12_of_9 rfl ?_
      refine lv_lconst (v := 0) hx hb dX12_of_10 (by decide) ?_
      refine lv_ldc2 (v := 3) hx hb hown hw0 dX12_of_11 ?_
      obtain ⟨r_4, hr_5, hf⟩ := op_some hf
      refine mq_calli (va_runS (As := [.long (x2.toInt64), .long 0, .long 3]) (rest := []) ⟨hx, hb, hml, hown, hts⟩ (c_X12_in l D ad cy (x2.toInt64) 0 3 g r_4 hr_5) (va_cwS 3 hts gX12_of_X12_in rfl rfl rfl (by decide +kernel) ⟨Nat.le_of_ble_eq_true rfl, Nat.le_of_ble_eq_true rfl⟩) (mq_preS mm_zOk0 hK hP hI hZ hS) rfl rfl hl.1 rfl (lv_room (Nat.le_of_ble_eq_true rfl)) dX12_of_14 ⟨Nat.le_refl _, Nat.le_refl _⟩) hS (fun H locs hP hS => ?_)
      refine lv_if_ne (tgt := 22) hx hb dX12_of_17 (by decide) (fun c_6 => ?_) (fun c_6 => ?_)
      · replace hf := ite_f c_6 hf
        refine lv_iload_n hx hb dX12_of_22 rfl (lv_at hl 2 rfl) ?_
        refine lv_if_ne (tgt := 37) hx hb dX12_of_23 (by decide) (fun c_7 => ?_) (fun c_7 => ?_)
        · replace hf := ite_f c_7 hf
          refine lv_iload_n hx hb dX12_of_37 rfl (lv_at hl 2 rfl) ?_
          refine lv_iconst (v := 1) hx hb dX12_of_38 (by decide) ?_
          refine lv_icmp_ne (tgt := 54) hx hb dX12_of_39 (by decide) (fun c_8 => ?_) (fun c_8 => ?_)
          · replace hf := ite_f c_8 hf
            refine lv_aload_n hx hb dX12_of_54 rfl (lv_at hl 0 rfl) ?_
            refine lv_iload_n hx hb dX12_of_55 rfl (lv_at hl 1 rfl) ?_
            refine lv_iload_n hx hb dX12_of_56 rfl (lv_at hl 2 rfl) ?_
            refine lv_iconst (v := 2) hx hb dX12_of_57 (by decide) ?_
            refine lv_isub hx hb dX12_of_58 ?_
            obtain ⟨r_9, hr_10, hf⟩ := op_some hf
            refine mq_calli (va_runV (As := [.int x1, .int (x2 - 2)]) (rest := []) ⟨hx, hb, hml, hown, hts⟩ (c_X12_has l D ad cy x1 (x2 - 2) g hp r_9 hr_10) (cwV 2 hts gX12_of_X12_has rfl rfl rfl (by decide +kernel) ⟨Nat.le_of_ble_eq_true rfl, Nat.le_of_ble_eq_true rfl⟩) (mq_preV (q := (RX12, TX12, 26)) mm_zOk0 hK hP hI hZ hS hp rfl) rfl rfl hl.1 rfl (lv_room (Nat.le_of_ble_eq_true rfl)) dX12_of_59 ⟨Nat.le_refl _, Nat.le_refl _⟩) hS (fun H locs hP hS => ?_)
            exact mq_iret hx hb hr rfl hlocks hP hS (Option.some.inj hf) rfl dX12_of_62
          · replace hf := ite_t c_8 hf
            refine lv_aload_n hx hb dX12_of_42 rfl (lv_at hl 0 rfl) ?_
            refine mq_getr (Tt := TX12) (N := 26) (C := RX12) hx hb hts hiX12 hown hK hP hp rfl 0 1 (by decide) rfl hw1 (fun _ h9 => h9) dX12_of_43 ?_
            refine lv_bipush (v := 10) hx hb dX12_of_46 (by decide) ?_
            refine lv_iload_n hx hb dX12_of_48 rfl (lv_at hl 1 rfl) ?_
            refine lv_iadd hx hb dX12_of_49 ?_
            obtain ⟨h_11, hf⟩ := og_some hf
            refine mq_iald hx hb hK hP (N := 193) (shTM_X12_1 hp) h_11 dX12_of_50 ?_
            refine lv_goto (tgt := 62) hx hb dX12_of_51 (by decide) ?_
            exact mq_iret hx hb hr rfl hlocks hP hS (Option.some.inj hf) rfl dX12_of_62
        · replace hf := ite_t c_7 hf
          refine lv_aload_n hx hb dX12_of_26 rfl (lv_at hl 0 rfl) ?_
          refine mq_getr (Tt := TX12) (N := 26) (C := RX12) hx hb hts hiX12 hown hK hP hp rfl 0 1 (by decide) rfl hw1 (fun _ h9 => h9) dX12_of_27 ?_
          refine lv_iconst (v := 5) hx hb dX12_of_30 (by decide) ?_
          refine lv_iload_n hx hb dX12_of_31 rfl (lv_at hl 1 rfl) ?_
          refine lv_iadd hx hb dX12_of_32 ?_
          obtain ⟨h_12, hf⟩ := og_some hf
          refine mq_iald hx hb hK hP (N := 193) (shTM_X12_1 hp) h_12 dX12_of_33 ?_
          refine lv_goto (tgt := 62) hx hb dX12_of_34 (by decide) ?_
          exact mq_iret hx hb hr rfl hlocks hP hS (Option.some.inj hf) rfl dX12_of_62
      · replace hf := ite_t c_6 hf
        refine lv_iconst (v := (-1)) hx hb dX12_of_20 (by decide) ?_
        exact mq_iret hx hb hr rfl hlocks hP hS (Option.some.inj hf) rfl dX12_of_21
  exact hH9 s.heap [] rfl rfl hP hS
abbrev rm_X12_tax : Room := ({ frames := 1, cells := 0, slots := 0, locals := 25 } : Room)
set_option maxHeartbeats 4000000 in
set_option maxRecDepth 100000 in
theorem c_X12_tax (l : Launch) (D : va_G) (ad : Nat → Nat) (cy : Nat → ClassId) (x1 : Int32) (x2 : Int32) (g : Mm) (hp : TM[0]? = some sX12) (r0 : Int32) (g' : Mm) (hf : f_X12_tax x1 x2 g = some (r0, g')) : Met l yX12_tax wsX12_tax rm_X12_tax (va_Pc [.ref (ad 0), .int x1, .int x2] (mm_pre mm_Z0 D TM ad cy g)) (mm_Qi D TM ad cy r0 g') 0 0 (mm_A TM ad) := by
  refine Met.ofW (cc := cX12_tax) (maxL := 4) (ret := (some .int)) (by decide) rfl ?_
  intro p e s m args below meth c s₁ B hml hv
  obtain ⟨hargs, hP, hK, hI, hZ⟩ := hv
  have hx := B.exec
  have hb := B.bytes
  have hr := B.returns
  have hts := atoms_spec (ws := wsX12_tax) B.pre
  have hown : s.vm.findClass RX12 = some m.cls := findClass_of_methodNamed B.named
  have hlocks := B.notSynchronized
  have hw0 := hts (.constantLong RX12 79 (3)) (by decide +kernel)
  rw [show entryFrame m args 4 = F0 m 0 ((lg_sl ([.ref (ad 0), .int x1, .int x2] : List Value) ++ List.replicate (4 - (lg_sl ([.ref (ad 0), .int x1, .int x2] : List Value)).length) Slot.unset).toArray) [] from by rw [hargs]; exact lg_entry_eq m _ _]
  have hl := lv_entry ([.ref (ad 0), .int x1, .int x2] : List Value) (n := 4) (by exact Nat.le_of_ble_eq_true rfl)
  generalize (lg_sl ([.ref (ad 0), .int x1, .int x2] : List Value) ++ List.replicate (4 - (lg_sl ([.ref (ad 0), .int x1, .int x2] : List Value)).length) Slot.unset).toArray = ls at hl ⊢
  have hl : lv_has ls 4 [(0, .ref (ad 0)), (1, .int x1), (2, .int x2)] := by exact hl
  have hS : va_S (mm_A TM ad) s.heap s.heap [] := va_S.rf
  clear hargs
  have hc74 : ∀ (sx1 : Int32) (g : Mm) (H : Heap) (locs : List Loc) (ls : Array Slot), va_P D vwCl (mm_L TM ad cy g) H → va_S (mm_A TM ad) s.heap H locs → lv_has ls 4 [(0, .ref (ad 0)), (1, .int x1), (2, .int x2)] → f_X12_tax_c74 x2 sx1 g = some (r0, g') → W p l e (headSpec wsX12_tax (rm_X12_tax)).room s m args below meth c H locs 0 0 (MQ below (mm_Qi D TM ad cy r0 g') args s 0 0 (mm_A TM ad)) (F0 m 74 ls [.int sx1, .ref (ad 0)]) := by
    intro sx1 g H locs ls hP hS hl hf
    unfold f_X12_tax_c74 at hf
    refine lv_iload_n hx hb dX12_tax_74 rfl (lv_at hl 2 rfl) ?_
    obtain ⟨r_12, g_11, hr_13, hf⟩ := ob_some hf
    refine mq_calli (va_runV (As := [.int sx1, .int x2]) (rest := []) ⟨hx, hb, hml, hown, hts⟩ (c_X12_changed l D ad cy sx1 x2 g hp r_12 g_11 hr_13) (cwV 2 hts gX12_tax_X12_changed rfl rfl rfl (by decide +kernel) ⟨Nat.le_of_ble_eq_true rfl, Nat.le_of_ble_eq_true rfl⟩) (mq_preV (q := (RX12, TX12, 26)) mm_zOk0 hK hP hI hZ hS hp rfl) rfl rfl hl.1 rfl (lv_room (Nat.le_of_ble_eq_true rfl)) dX12_tax_75 ⟨Nat.le_refl _, Nat.le_refl _⟩) hS (fun H locs hP hS => ?_)
    exact mq_iret hx hb hr rfl hlocks hP hS (pr_1 hf) (pr_2 hf) dX12_tax_78
  have hc37 : ∀ (sx0 : Int32) (g : Mm) (H : Heap) (locs : List Loc) (ls : Array Slot), va_P D vwCl (mm_L TM ad cy g) H → va_S (mm_A TM ad) s.heap H locs → lv_has ls 4 [(0, .ref (ad 0)), (1, .int x1), (2, .int x2)] → f_X12_tax_c37 x1 x2 sx0 g = some (r0, g') → W p l e (headSpec wsX12_tax (rm_X12_tax)).room s m args below meth c H locs 0 0 (MQ below (mm_Qi D TM ad cy r0 g') args s 0 0 (mm_A TM ad)) (F0 m 37 ls [.int sx0]) := by
    intro sx0 g H locs ls hP hS hl hf
    unfold f_X12_tax_c37 at hf
    refine lv_istore_n (lv' := [(3, .int sx0), (0, .ref (ad 0)), (1, .int x1), (2, .int x2)]) hx hb dX12_tax_37 rfl hl (by decide) rfl (fun ls hl => ?_)
    refine lv_iload_n hx hb dX12_tax_38 rfl (lv_at hl 3 rfl) ?_
    refine lv_i2l hx hb dX12_tax_39 rfl ?_
    refine lv_lconst (v := 0) hx hb dX12_tax_40 (by decide) ?_
    refine lv_iload_n hx hb dX12_tax_41 rfl (lv_at hl 0 rfl) ?_
    refine lv_i2l hx hb dX12_tax_42 rfl ?_
    obtain ⟨r_6, hr_7, hf⟩ := op_some hf
    refine mq_calli (va_runS (As := [.long (x2.toInt64), .long 0, .long (sx0.toInt64)]) (rest := []) ⟨hx, hb, hml, hown, hts⟩ (c_X12_in l D ad cy (x2.toInt64) 0 (sx0.toInt64) g r_6 hr_7) (va_cwS 3 hts gX12_tax_X12_in rfl rfl rfl (by decide +kernel) ⟨Nat.le_of_ble_eq_true rfl, Nat.le_of_ble_eq_true rfl⟩) (mq_preS mm_zOk0 hK hP hI hZ hS) rfl rfl hl.1 rfl (lv_room (Nat.le_of_ble_eq_true rfl)) dX12_tax_43 ⟨Nat.le_refl _, Nat.le_refl _⟩) hS (fun H locs hP hS => ?_)
    refine lv_if_ne (tgt := 51) hx hb dX12_tax_46 (by decide) (fun c_8 => ?_) (fun c_8 => ?_)
    · replace hf := ite_f c_8 hf
      refine lv_aload_n hx hb dX12_tax_51 rfl (lv_at hl 1 rfl) ?_
      refine lv_iload_n hx hb dX12_tax_52 rfl (lv_at hl 2 rfl) ?_
      refine lv_iconst (v := 4) hx hb dX12_tax_53 (by decide) ?_
      refine lv_icmp_ne (tgt := 61) hx hb dX12_tax_54 (by decide) (fun c_9 => ?_) (fun c_9 => ?_)
      · replace hf := ite_f c_9 hf
        refine lv_iload_n hx hb dX12_tax_61 rfl (lv_at hl 2 rfl) ?_
        refine lv_iconst (v := 5) hx hb dX12_tax_62 (by decide) ?_
        refine lv_icmp_ne (tgt := 70) hx hb dX12_tax_63 (by decide) (fun c_10 => ?_) (fun c_10 => ?_)
        · replace hf := ite_f c_10 hf
          refine lv_bipush (v := 95) hx hb dX12_tax_70 (by decide) ?_
          refine lv_iload_n hx hb dX12_tax_72 rfl (lv_at hl 2 rfl) ?_
          refine lv_iadd hx hb dX12_tax_73 ?_
          exact hc74 (95 + x1) g H locs ls hP hS (lv_sub hl [1, 2, 3] rfl) hf
        · replace hf := ite_t c_10 hf
          refine lv_iconst (v := 3) hx hb dX12_tax_66 (by decide) ?_
          refine lv_goto (tgt := 74) hx hb dX12_tax_67 (by decide) ?_
          exact hc74 3 g H locs ls hP hS (lv_sub hl [1, 2, 3] rfl) hf
      · replace hf := ite_t c_9 hf
        refine lv_iconst (v := 2) hx hb dX12_tax_57 (by decide) ?_
        refine lv_goto (tgt := 74) hx hb dX12_tax_58 (by decide) ?_
        exact hc74 2 g H locs ls hP hS (lv_sub hl [1, 2, 3] rfl) hf
    · replace hf := ite_t c_8 hf
      refine lv_iconst (v := (-1)) hx hb dX12_tax_49 (by decide) ?_
      exact mq_iret hx hb hr rfl hlocks hP hS (pr_1 hf) (pr_2 hf) dX12_tax_50
  unfold f_X12_tax at hf
  have hH9 : ∀ (H : Heap) (locs : List Loc), H = s.heap → locs = [] → va_P D vwCl (mm_L TM ad cy g) H → va_S (mm_A TM ad) s.heap H locs → W p l e (headSpec wsX12_tax (rm_X12_tax)).room s m args below meth c H locs 0 0 (MQ below (mm_Qi D TM ad cy r0 g') args s 0 0 (mm_A TM ad)) (F0 m 0 ls []) := by
    intro H locs hH9 hL9 hP hS
    clear hH9 hL9
    refine lv_iload_n hx hb dX12_tax_0 rfl (lv_at hl 1 rfl) ?_
    refine lv_i2l hx hb dX12_tax_1 rfl ?_
    refine lv_lconst (v := 0) hx hb dX12_tax_2 (by decide) ?_
    refine lv_ldc2 (v := 3) hx hb hown hw0 dX12_tax_3 ?_
    obtain ⟨r_1, hr_2, hf⟩ := op_some hf
    refine mq_calli (va_runS (As := [.long (x1.toInt64), .long 0, .long 3]) (rest := []) ⟨hx, hb, hml, hown, hts⟩ (c_X12_in l D ad cy (x1.toInt64) 0 3 g r_1 hr_2) (va_cwS 3 hts gX12_tax_X12_in rfl rfl rfl (by decide +kernel) ⟨Nat.le_of_ble_eq_true rfl, Nat.le_of_ble_eq_true rfl⟩) (mq_preS mm_zOk0 hK hP hI hZ hS) rfl rfl hl.1 rfl (lv_room (Nat.le_of_ble_eq_true rfl)) dX12_tax_6 ⟨Nat.le_refl _, Nat.le_refl _⟩) hS (fun H locs hP hS => ?_)
    refine lv_if_eq (tgt := 17) hx hb dX12_tax_9 (by decide) (fun c_3 => ?_) (fun c_3 => ?_)
    · replace hf := ite_t c_3 hf
      refine lv_iload_n hx hb dX12_tax_17 rfl (lv_at hl 1 rfl) ?_
      refine lv_iconst (v := 4) hx hb dX12_tax_18 (by decide) ?_
      refine lv_icmp_ne (tgt := 27) hx hb dX12_tax_19 (by decide) (fun c_4 => ?_) (fun c_4 => ?_)
      · replace hf := ite_f c_4 hf
        refine lv_iload_n hx hb dX12_tax_27 rfl (lv_at hl 1 rfl) ?_
        refine lv_iconst (v := 5) hx hb dX12_tax_28 (by decide) ?_
        refine lv_icmp_ne (tgt := 36) hx hb dX12_tax_29 (by decide) (fun c_5 => ?_) (fun c_5 => ?_)
        · replace hf := ite_f c_5 hf
          refine lv_iconst (v := (-1)) hx hb dX12_tax_36 (by decide) ?_
          exact hc37 (-1) g H locs ls hP hS (lv_sub hl [0, 1, 2] rfl) hf
        · replace hf := ite_t c_5 hf
          refine lv_iconst (v := 1) hx hb dX12_tax_32 (by decide) ?_
          refine lv_goto (tgt := 37) hx hb dX12_tax_33 (by decide) ?_
          exact hc37 1 g H locs ls hP hS (lv_sub hl [0, 1, 2] rfl) hf
      · replace hf := ite_t c_4 hf
        refine lv_bipush (v := 99) hx hb dX12_tax_22 (by decide) ?_
        refine lv_goto (tgt := 37) hx hb dX12_tax_24 (by decide) ?_
        exact hc37 99 g H locs ls hP hS (lv_sub hl [0, 1, 2] rfl) hf
    · replace hf := ite_f c_3 hf
      refine lv_bipush (v := 9) hx hb dX12_tax_12 (by decide) ?_
      refine lv_goto (tgt := 37) hx hb dX12_tax_14 (by decide) ?_
      exact hc37 9 g H locs ls hP hS (lv_sub hl [0, 1, 2] rfl) hf
  exact hH9 s.heap [] rfl rfl hP hS
abbrev rm_X12_road : Room := ({ frames := 1, cells := 0, slots := 0, locals := 25 } : Room)
set_option maxHeartbeats 4000000 in
set_option maxRecDepth 100000 in
theorem c_X12_road (l : Launch) (D : va_G) (ad : Nat → Nat) (cy : Nat → ClassId) (x1 : Int32) (x2 : Int32) (x3 : Int32) (g : Mm) (hp : TM[0]? = some sX12) (r0 : Int32) (g' : Mm) (hf : f_X12_road x1 x2 x3 g = some (r0, g')) : Met l yX12_road wsX12_road rm_X12_road (va_Pc [.ref (ad 0), .int x1, .int x2, .int x3] (mm_pre mm_Z0 D TM ad cy g)) (mm_Qi D TM ad cy r0 g') 0 0 (mm_A TM ad) := by
  refine Met.ofW (cc := cX12_road) (maxL := 5) (ret := (some .int)) (by decide) rfl ?_
  intro p e s m args below meth c s₁ B hml hv
  obtain ⟨hargs, hP, hK, hI, hZ⟩ := hv
  have hx := B.exec
  have hb := B.bytes
  have hr := B.returns
  have hts := atoms_spec (ws := wsX12_road) B.pre
  have hown : s.vm.findClass RX12 = some m.cls := findClass_of_methodNamed B.named
  have hlocks := B.notSynchronized
  have hw0 := hts (.constantLong RX12 95 (8)) (by decide +kernel)
  rw [show entryFrame m args 5 = F0 m 0 ((lg_sl ([.ref (ad 0), .int x1, .int x2, .int x3] : List Value) ++ List.replicate (5 - (lg_sl ([.ref (ad 0), .int x1, .int x2, .int x3] : List Value)).length) Slot.unset).toArray) [] from by rw [hargs]; exact lg_entry_eq m _ _]
  have hl := lv_entry ([.ref (ad 0), .int x1, .int x2, .int x3] : List Value) (n := 5) (by exact Nat.le_of_ble_eq_true rfl)
  generalize (lg_sl ([.ref (ad 0), .int x1, .int x2, .int x3] : List Value) ++ List.replicate (5 - (lg_sl ([.ref (ad 0), .int x1, .int x2, .int x3] : List Value)).length) Slot.unset).toArray = ls at hl ⊢
  have hl : lv_has ls 5 [(0, .ref (ad 0)), (1, .int x1), (2, .int x2), (3, .int x3)] := by exact hl
  have hS : va_S (mm_A TM ad) s.heap s.heap [] := va_S.rf
  clear hargs
  have hc60 : ∀ (sx1 : Int32) (g : Mm) (H : Heap) (locs : List Loc) (ls : Array Slot), va_P D vwCl (mm_L TM ad cy g) H → va_S (mm_A TM ad) s.heap H locs → lv_has ls 5 [(0, .ref (ad 0)), (1, .int x1), (2, .int x2), (3, .int x3)] → f_X12_road_c60 x1 x3 sx1 g = some (r0, g') → W p l e (headSpec wsX12_road (rm_X12_road)).room s m args below meth c H locs 0 0 (MQ below (mm_Qi D TM ad cy r0 g') args s 0 0 (mm_A TM ad)) (F0 m 60 ls [.int sx1, .ref (ad 0)]) := by
    intro sx1 g H locs ls hP hS hl hf
    unfold f_X12_road_c60 at hf
    refine lv_iload_n hx hb dX12_road_60 rfl (lv_at hl 1 rfl) ?_
    refine lv_iadd hx hb dX12_road_61 ?_
    refine lv_iload_n hx hb dX12_road_62 rfl (lv_at hl 3 rfl) ?_
    obtain ⟨r_11, g_10, hr_12, hf⟩ := ob_some hf
    refine mq_calli (va_runV (As := [.int (sx1 + x1), .int x3]) (rest := []) ⟨hx, hb, hml, hown, hts⟩ (c_X12_changed l D ad cy (sx1 + x1) x3 g hp r_11 g_10 hr_12) (cwV 2 hts gX12_road_X12_changed rfl rfl rfl (by decide +kernel) ⟨Nat.le_of_ble_eq_true rfl, Nat.le_of_ble_eq_true rfl⟩) (mq_preV (q := (RX12, TX12, 26)) mm_zOk0 hK hP hI hZ hS hp rfl) rfl rfl hl.1 rfl (lv_room (Nat.le_of_ble_eq_true rfl)) dX12_road_63 ⟨Nat.le_refl _, Nat.le_refl _⟩) hS (fun H locs hP hS => ?_)
    exact mq_iret hx hb hr rfl hlocks hP hS (pr_1 hf) (pr_2 hf) dX12_road_66
  have hc20 : ∀ (sx0 : Int32) (g : Mm) (H : Heap) (locs : List Loc) (ls : Array Slot), va_P D vwCl (mm_L TM ad cy g) H → va_S (mm_A TM ad) s.heap H locs → lv_has ls 5 [(0, .ref (ad 0)), (1, .int x1), (2, .int x2), (3, .int x3)] → f_X12_road_c20 x1 x2 x3 sx0 g = some (r0, g') → W p l e (headSpec wsX12_road (rm_X12_road)).room s m args below meth c H locs 0 0 (MQ below (mm_Qi D TM ad cy r0 g') args s 0 0 (mm_A TM ad)) (F0 m 20 ls [.int sx0]) := by
    intro sx0 g H locs ls hP hS hl hf
    unfold f_X12_road_c20 at hf
    refine lv_istore (lv' := [(4, .int sx0), (0, .ref (ad 0)), (1, .int x1), (2, .int x2), (3, .int x3)]) hx hb dX12_road_20 hl (by decide) rfl (fun ls hl => ?_)
    refine lv_iload_n hx hb dX12_road_22 rfl (lv_at hl 2 rfl) ?_
    refine lv_i2l hx hb dX12_road_23 rfl ?_
    refine lv_lconst (v := 0) hx hb dX12_road_24 (by decide) ?_
    refine lv_ldc2 (v := 8) hx hb hown hw0 dX12_road_25 ?_
    obtain ⟨r_3, hr_4, hf⟩ := op_some hf
    refine mq_calli (va_runS (As := [.long (x1.toInt64), .long 0, .long 8]) (rest := []) ⟨hx, hb, hml, hown, hts⟩ (c_X12_in l D ad cy (x1.toInt64) 0 8 g r_3 hr_4) (va_cwS 3 hts gX12_road_X12_in rfl rfl rfl (by decide +kernel) ⟨Nat.le_of_ble_eq_true rfl, Nat.le_of_ble_eq_true rfl⟩) (mq_preS mm_zOk0 hK hP hI hZ hS) rfl rfl hl.1 rfl (lv_room (Nat.le_of_ble_eq_true rfl)) dX12_road_28 ⟨Nat.le_refl _, Nat.le_refl _⟩) hS (fun H locs hP hS => ?_)
    refine lv_if_eq (tgt := 46) hx hb dX12_road_31 (by decide) (fun c_5 => ?_) (fun c_5 => ?_)
    · replace hf := ite_t c_5 hf
      refine lv_iconst (v := (-1)) hx hb dX12_road_46 (by decide) ?_
      exact mq_iret hx hb hr rfl hlocks hP hS (pr_1 hf) (pr_2 hf) dX12_road_47
    · replace hf := ite_f c_5 hf
      refine lv_iload_n hx hb dX12_road_34 rfl (lv_at hl 4 rfl) ?_
      refine lv_i2l hx hb dX12_road_35 rfl ?_
      refine lv_lconst (v := 0) hx hb dX12_road_36 (by decide) ?_
      refine lv_iload hx hb dX12_road_37 (lv_at hl 0 rfl) ?_
      refine lv_i2l hx hb dX12_road_39 rfl ?_
      obtain ⟨r_6, hr_7, hf⟩ := op_some hf
      refine mq_calli (va_runS (As := [.long (x3.toInt64), .long 0, .long (sx0.toInt64)]) (rest := []) ⟨hx, hb, hml, hown, hts⟩ (c_X12_in l D ad cy (x3.toInt64) 0 (sx0.toInt64) g r_6 hr_7) (va_cwS 3 hts gX12_road_X12_in rfl rfl rfl (by decide +kernel) ⟨Nat.le_of_ble_eq_true rfl, Nat.le_of_ble_eq_true rfl⟩) (mq_preS mm_zOk0 hK hP hI hZ hS) rfl rfl hl.1 rfl (lv_room (Nat.le_of_ble_eq_true rfl)) dX12_road_40 ⟨Nat.le_refl _, Nat.le_refl _⟩) hS (fun H locs hP hS => ?_)
      refine lv_if_ne (tgt := 48) hx hb dX12_road_43 (by decide) (fun c_8 => ?_) (fun c_8 => ?_)
      · replace hf := ite_f c_8 hf
        refine lv_aload_n hx hb dX12_road_48 rfl (lv_at hl 1 rfl) ?_
        refine lv_iload_n hx hb dX12_road_49 rfl (lv_at hl 3 rfl) ?_
        refine lv_if_ne (tgt := 58) hx hb dX12_road_50 (by decide) (fun c_9 => ?_) (fun c_9 => ?_)
        · replace hf := ite_f c_9 hf
          refine lv_bipush (v := 108) hx hb dX12_road_58 (by decide) ?_
          exact hc60 108 g H locs ls hP hS (lv_sub hl [1, 2, 3, 4] rfl) hf
        · replace hf := ite_t c_9 hf
          refine lv_bipush (v := 99) hx hb dX12_road_53 (by decide) ?_
          refine lv_goto (tgt := 60) hx hb dX12_road_55 (by decide) ?_
          exact hc60 99 g H locs ls hP hS (lv_sub hl [1, 2, 3, 4] rfl) hf
      · replace hf := ite_t c_8 hf
        refine lv_iconst (v := (-1)) hx hb dX12_road_46 (by decide) ?_
        exact mq_iret hx hb hr rfl hlocks hP hS (pr_1 hf) (pr_2 hf) dX12_road_47
  unfold f_X12_road at hf
  have hH9 : ∀ (H : Heap) (locs : List Loc), H = s.heap → locs = [] → va_P D vwCl (mm_L TM ad cy g) H → va_S (mm_A TM ad) s.heap H locs → W p l e (headSpec wsX12_road (rm_X12_road)).room s m args below meth c H locs 0 0 (MQ below (mm_Qi D TM ad cy r0 g') args s 0 0 (mm_A TM ad)) (F0 m 0 ls []) := by
    intro H locs hH9 hL9 hP hS
    clear hH9 hL9
    refine lv_iload_n hx hb dX12_road_0 rfl (lv_at hl 2 rfl) ?_
    refine lv_if_ne (tgt := 9) hx hb dX12_road_1 (by decide) (fun c_1 => ?_) (fun c_1 => ?_)
    · replace hf := ite_f c_1 hf
      refine lv_iload_n hx hb dX12_road_9 rfl (lv_at hl 2 rfl) ?_
      refine lv_iconst (v := 1) hx hb dX12_road_10 (by decide) ?_
      refine lv_icmp_ne (tgt := 19) hx hb dX12_road_11 (by decide) (fun c_2 => ?_) (fun c_2 => ?_)
      · replace hf := ite_f c_2 hf
        refine lv_iconst (v := (-1)) hx hb dX12_road_19 (by decide) ?_
        exact hc20 (-1) g H locs ls hP hS (lv_sub hl [0, 1, 2, 3] rfl) hf
      · replace hf := ite_t c_2 hf
        refine lv_bipush (v := 16) hx hb dX12_road_14 (by decide) ?_
        refine lv_goto (tgt := 20) hx hb dX12_road_16 (by decide) ?_
        exact hc20 16 g H locs ls hP hS (lv_sub hl [0, 1, 2, 3] rfl) hf
    · replace hf := ite_t c_1 hf
      refine lv_bipush (v := 9) hx hb dX12_road_4 (by decide) ?_
      refine lv_goto (tgt := 20) hx hb dX12_road_6 (by decide) ?_
      exact hc20 9 g H locs ls hP hS (lv_sub hl [0, 1, 2, 3] rfl) hf
  exact hH9 s.heap [] rfl rfl hP hS
abbrev rm_X12_type : Room := ({ frames := 1, cells := 0, slots := 0, locals := 25 } : Room)
set_option maxHeartbeats 4000000 in
set_option maxRecDepth 100000 in
theorem c_X12_type (l : Launch) (D : va_G) (ad : Nat → Nat) (cy : Nat → ClassId) (x1 : Int64) (x3 : Int32) (g : Mm) (hp : TM[0]? = some sX12) (r0 : Int32) (g' : Mm) (hf : f_X12_type x1 x3 g = some (r0, g')) : Met l yX12_type wsX12_type rm_X12_type (va_Pc [.ref (ad 0), .long x1, .int x3] (mm_pre mm_Z0 D TM ad cy g)) (mm_Qi D TM ad cy r0 g') 0 0 (mm_A TM ad) := by
  refine Met.ofW (cc := cX12_type) (maxL := 6) (ret := (some .int)) (by decide) rfl ?_
  intro p e s m args below meth c s₁ B hml hv
  obtain ⟨hargs, hP, hK, hI, hZ⟩ := hv
  have hx := B.exec
  have hb := B.bytes
  have hr := B.returns
  have hts := atoms_spec (ws := wsX12_type) B.pre
  have hown : s.vm.findClass RX12 = some m.cls := findClass_of_methodNamed B.named
  have hlocks := B.notSynchronized
  have hw0 := hts (.constantLong RX12 95 (8)) (by decide +kernel)
  have hw1 := hts (.fieldLink RX12 103 "LeftShoesModel" "taped" "I") (by decide +kernel)
  have hiX12 : ∀ w ∈ wsX120, w ∈ wsX12_type := by decide +kernel
  have hw3 := hts (.fieldLink RX12 16 "LeftShoesModel" "tape" "[I") (by decide +kernel)
  have hw4 := hts (.constantLong RX12 97 (255)) (by decide +kernel)
  have hw5 := hts (.constantLong RX12 99 (32)) (by decide +kernel)
  have hw6 := hts (.constantLong RX12 101 (126)) (by decide +kernel)
  rw [show entryFrame m args 6 = F0 m 0 ((lg_sl ([.ref (ad 0), .long x1, .int x3] : List Value) ++ List.replicate (6 - (lg_sl ([.ref (ad 0), .long x1, .int x3] : List Value)).length) Slot.unset).toArray) [] from by rw [hargs]; exact lg_entry_eq m _ _]
  have hl := lv_entry ([.ref (ad 0), .long x1, .int x3] : List Value) (n := 6) (by exact Nat.le_of_ble_eq_true rfl)
  generalize (lg_sl ([.ref (ad 0), .long x1, .int x3] : List Value) ++ List.replicate (6 - (lg_sl ([.ref (ad 0), .long x1, .int x3] : List Value)).length) Slot.unset).toArray = ls at hl ⊢
  have hl : lv_has ls 6 [(0, .ref (ad 0)), (1, .long x1), (3, .int x3)] := by exact hl
  have hS : va_S (mm_A TM ad) s.heap s.heap [] := va_S.rf
  clear hargs
  have hc93 : ∀ (n : Nat), ∀ (x5 : Int32) (g : Mm) (H : Heap) (locs : List Loc) (ls : Array Slot), va_P D vwCl (mm_L TM ad cy g) H → va_S (mm_A TM ad) s.heap H locs → lv_has ls 6 [(0, .ref (ad 0)), (1, .long x1), (3, .int x3), (5, .int x5)] → f_X12_type_c93 x1 n x5 g = some (r0, g') → W p l e (headSpec wsX12_type (rm_X12_type)).room s m args below meth c H locs 0 0 (MQ below (mm_Qi D TM ad cy r0 g') args s 0 0 (mm_A TM ad)) (F0 m 93 ls []) := by
    intro n
    induction n with
    | zero =>
      intro x5 g H locs ls hP hS hl hf
      rw [f_X12_type_c93] at hf
      cases hf
    | succ n ih =>
      intro x5 g H locs ls hP hS hl hf
      rw [f_X12_type_c93] at hf
      refine lv_iload hx hb dX12_type_93 (lv_at hl 3 rfl) ?_
      refine lv_if_lt (tgt := 135) hx hb dX12_type_95 (by decide) (fun c_8 => ?_) (fun c_8 => ?_)
      · replace hf := ite_t c_8 hf
        refine lv_aload_n hx hb dX12_type_135 rfl (lv_at hl 0 rfl) ?_
        refine mq_geti (Tt := TX12) (N := 26) (C := RX12) hx hb hts hiX12 hown hK hP hp rfl 4 (by decide) rfl hw1 (fun _ h9 => h9) dX12_type_136 ?_
        exact mq_iret hx hb hr rfl hlocks hP hS (pr_1 hf) (pr_2 hf) dX12_type_139
      · replace hf := ite_f c_8 hf
        refine lv_aload_n hx hb dX12_type_98 rfl (lv_at hl 0 rfl) ?_
        refine mq_getr (Tt := TX12) (N := 26) (C := RX12) hx hb hts hiX12 hown hK hP hp rfl 3 3 (by decide) rfl hw3 (fun _ h9 => h9) dX12_type_99 ?_
        refine lv_aload_n hx hb dX12_type_102 rfl (lv_at hl 0 rfl) ?_
        refine mq_geti (Tt := TX12) (N := 26) (C := RX12) hx hb hts hiX12 hown hK hP hp rfl 4 (by decide) rfl hw1 (fun _ h9 => h9) dX12_type_103 ?_
        refine lv_lload_n hx hb dX12_type_106 rfl (lv_at hl 1 rfl) ?_
        refine lv_bipush (v := 8) hx hb dX12_type_107 (by decide) ?_
        refine lv_iload hx hb dX12_type_109 (lv_at hl 3 rfl) ?_
        refine lv_imul hx hb dX12_type_111 ?_
        refine lv_lshr hx hb dX12_type_112 rfl ?_
        refine lv_ldc2 (v := 255) hx hb hown hw4 dX12_type_113 ?_
        refine lv_land hx hb dX12_type_116 ?_
        refine lv_l2i hx hb dX12_type_117 rfl ?_
        obtain ⟨h_9, hf⟩ := og_some hf
        obtain ⟨g_10, eg_10, hf⟩ := mw_some hf
        refine mq_iast hx hb hK hI hP hS (N := 60) (shTM_X12_3 hp) h_9 dX12_type_118 eg_10 (fun H locs hP hS => ?_)
        refine lv_aload_n hx hb dX12_type_119 rfl (lv_at hl 0 rfl) ?_
        refine lv_dup hx hb dX12_type_120 rfl ?_
        refine mq_geti (Tt := TX12) (N := 26) (C := RX12) hx hb hts hiX12 hown hK hP hp rfl 4 (by decide) rfl hw1 (fun _ h9 => h9) dX12_type_121 ?_
        refine lv_iconst (v := 1) hx hb dX12_type_124 (by decide) ?_
        refine lv_iadd hx hb dX12_type_125 ?_
        obtain ⟨g_11, eg_11, hf⟩ := mw_some hf
        refine mq_puti (Tt := TX12) (N := 26) (C := RX12) (ty := .int) hx hb hts hiX12 tyX12 tyX12_ok nmX12 hown hK hI hP hS hp rfl 4 (by decide) rfl hw1 (fun _ h9 => h9) rfl (by decide +kernel) rfl rfl dX12_type_126 eg_11 (fun H locs hP hS => ?_)
        obtain ⟨x5_12, ex5_12, hf⟩ := mv_some hf
        refine lv_iinc (v := x5_12) (lv' := [(5, .int x5_12), (0, .ref (ad 0)), (1, .long x1), (3, .int x3)]) hx hb dX12_type_129 hl (k := 3) rfl (by rw [ex5_12]; rfl) (by decide) rfl (fun ls hl => ?_)
        refine lv_goto (tgt := 93) hx hb dX12_type_132 (by decide) ?_
        exact ih x5_12 g_11 H locs ls hP hS (lv_sub hl [1, 2, 3, 0] rfl) hf
  have hc20 : ∀ (n : Nat), ∀ (x4 : Int32) (x5 : Int32) (g : Mm) (H : Heap) (locs : List Loc) (ls : Array Slot), va_P D vwCl (mm_L TM ad cy g) H → va_S (mm_A TM ad) s.heap H locs → lv_has ls 6 [(0, .ref (ad 0)), (1, .long x1), (3, .int x3), (4, .int x4), (5, .int x5)] → f_X12_type_c20 x1 x3 n x4 x5 g = some (r0, g') → W p l e (headSpec wsX12_type (rm_X12_type)).room s m args below meth c H locs 0 0 (MQ below (mm_Qi D TM ad cy r0 g') args s 0 0 (mm_A TM ad)) (F0 m 20 ls []) := by
    intro n
    induction n with
    | zero =>
      intro x4 x5 g H locs ls hP hS hl hf
      rw [f_X12_type_c20] at hf
      cases hf
    | succ n ih =>
      intro x4 x5 g H locs ls hP hS hl hf
      rw [f_X12_type_c20] at hf
      refine lv_iload hx hb dX12_type_20 (lv_at hl 4 rfl) ?_
      refine lv_iload_n hx hb dX12_type_22 rfl (lv_at hl 2 rfl) ?_
      refine lv_icmp_ge (tgt := 67) hx hb dX12_type_23 (by decide) (fun c_4 => ?_) (fun c_4 => ?_)
      · replace hf := ite_t c_4 hf
        refine lv_iload hx hb dX12_type_67 (lv_at hl 3 rfl) ?_
        refine lv_if_ne (tgt := 74) hx hb dX12_type_69 (by decide) (fun c_5 => ?_) (fun c_5 => ?_)
        · replace hf := ite_f c_5 hf
          refine lv_aload_n hx hb dX12_type_74 rfl (lv_at hl 0 rfl) ?_
          refine mq_geti (Tt := TX12) (N := 26) (C := RX12) hx hb hts hiX12 hown hK hP hp rfl 4 (by decide) rfl hw1 (fun _ h9 => h9) dX12_type_75 ?_
          refine lv_iload_n hx hb dX12_type_78 rfl (lv_at hl 2 rfl) ?_
          refine lv_iadd hx hb dX12_type_79 ?_
          refine lv_bipush (v := 60) hx hb dX12_type_80 (by decide) ?_
          refine lv_icmp_le (tgt := 88) hx hb dX12_type_82 (by decide) (fun c_6 => ?_) (fun c_6 => ?_)
          · replace hf := ite_t c_6 hf
            refine lv_iload_n hx hb dX12_type_88 rfl (lv_at hl 2 rfl) ?_
            refine lv_iconst (v := 1) hx hb dX12_type_89 (by decide) ?_
            refine lv_isub hx hb dX12_type_90 ?_
            obtain ⟨x5_7, ex5_7, hf⟩ := mv_some hf
            refine mq_nm ex5_7 ?_
            refine lv_istore (lv' := [(5, .int x5_7), (0, .ref (ad 0)), (1, .long x1), (3, .int x3), (4, .int x4)]) hx hb dX12_type_91 hl (by decide) rfl (fun ls hl => ?_)
            exact hc93 FU x5_7 g H locs ls hP hS (lv_sub hl [1, 2, 3, 0] rfl) hf
          · replace hf := ite_f c_6 hf
            refine lv_bipush (v := (-3)) hx hb dX12_type_85 (by decide) ?_
            exact mq_iret hx hb hr rfl hlocks hP hS (pr_1 hf) (pr_2 hf) dX12_type_87
        · replace hf := ite_t c_5 hf
          refine lv_iconst (v := (-1)) hx hb dX12_type_72 (by decide) ?_
          exact mq_iret hx hb hr rfl hlocks hP hS (pr_1 hf) (pr_2 hf) dX12_type_73
      · replace hf := ite_f c_4 hf
        refine lv_iload hx hb dX12_type_26 (lv_at hl 3 rfl) ?_
        refine lv_if_eq (tgt := 58) hx hb dX12_type_28 (by decide) (fun c_13 => ?_) (fun c_13 => ?_)
        · replace hf := ite_t c_13 hf
          refine lv_iconst (v := 0) hx hb dX12_type_58 (by decide) ?_
          refine lv_istore (lv' := [(4, .int 0), (0, .ref (ad 0)), (1, .long x1), (3, .int x3), (5, .int x5)]) hx hb dX12_type_59 hl (by decide) rfl (fun ls hl => ?_)
          obtain ⟨x5_14, ex5_14, hf⟩ := mv_some hf
          refine lv_iinc (v := x5_14) (lv' := [(5, .int x5_14), (4, .int 0), (0, .ref (ad 0)), (1, .long x1), (3, .int x3)]) hx hb dX12_type_61 hl (k := 4) rfl (by rw [ex5_14]; rfl) (by decide) rfl (fun ls hl => ?_)
          refine lv_goto (tgt := 20) hx hb dX12_type_64 (by decide) ?_
          exact ih 0 x5_14 g H locs ls hP hS (lv_sub hl [2, 3, 4, 1, 0] rfl) hf
        · replace hf := ite_f c_13 hf
          refine lv_lload_n hx hb dX12_type_31 rfl (lv_at hl 1 rfl) ?_
          refine lv_bipush (v := 8) hx hb dX12_type_32 (by decide) ?_
          refine lv_iload hx hb dX12_type_34 (lv_at hl 4 rfl) ?_
          refine lv_imul hx hb dX12_type_36 ?_
          refine lv_lshr hx hb dX12_type_37 rfl ?_
          refine lv_ldc2 (v := 255) hx hb hown hw4 dX12_type_38 ?_
          refine lv_land hx hb dX12_type_41 ?_
          refine lv_ldc2 (v := 32) hx hb hown hw5 dX12_type_42 ?_
          refine lv_ldc2 (v := 126) hx hb hown hw6 dX12_type_45 ?_
          obtain ⟨r_15, hr_16, hf⟩ := op_some hf
          refine mq_calli (va_runS (As := [.long ((x1 >>> ((8 * x5).toInt64 &&& 63)) &&& 255), .long 32, .long 126]) (rest := []) ⟨hx, hb, hml, hown, hts⟩ (c_X12_in l D ad cy ((x1 >>> ((8 * x5).toInt64 &&& 63)) &&& 255) 32 126 g r_15 hr_16) (va_cwS 3 hts gX12_type_X12_in rfl rfl rfl (by decide +kernel) ⟨Nat.le_of_ble_eq_true rfl, Nat.le_of_ble_eq_true rfl⟩) (mq_preS mm_zOk0 hK hP hI hZ hS) rfl rfl hl.1 rfl (lv_room (Nat.le_of_ble_eq_true rfl)) dX12_type_48 ⟨Nat.le_refl _, Nat.le_refl _⟩) hS (fun H locs hP hS => ?_)
          refine lv_if_eq (tgt := 58) hx hb dX12_type_51 (by decide) (fun c_17 => ?_) (fun c_17 => ?_)
          · replace hf := ite_t c_17 hf
            refine lv_iconst (v := 0) hx hb dX12_type_58 (by decide) ?_
            refine lv_istore (lv' := [(4, .int 0), (0, .ref (ad 0)), (1, .long x1), (3, .int x3), (5, .int x5)]) hx hb dX12_type_59 hl (by decide) rfl (fun ls hl => ?_)
            obtain ⟨x5_18, ex5_18, hf⟩ := mv_some hf
            refine lv_iinc (v := x5_18) (lv' := [(5, .int x5_18), (4, .int 0), (0, .ref (ad 0)), (1, .long x1), (3, .int x3)]) hx hb dX12_type_61 hl (k := 4) rfl (by rw [ex5_18]; rfl) (by decide) rfl (fun ls hl => ?_)
            refine lv_goto (tgt := 20) hx hb dX12_type_64 (by decide) ?_
            exact ih 0 x5_18 g H locs ls hP hS (lv_sub hl [2, 3, 4, 1, 0] rfl) hf
          · replace hf := ite_f c_17 hf
            refine lv_iconst (v := 1) hx hb dX12_type_54 (by decide) ?_
            refine lv_goto (tgt := 59) hx hb dX12_type_55 (by decide) ?_
            refine lv_istore (lv' := [(4, .int 1), (0, .ref (ad 0)), (1, .long x1), (3, .int x3), (5, .int x5)]) hx hb dX12_type_59 hl (by decide) rfl (fun ls hl => ?_)
            obtain ⟨x5_19, ex5_19, hf⟩ := mv_some hf
            refine lv_iinc (v := x5_19) (lv' := [(5, .int x5_19), (4, .int 1), (0, .ref (ad 0)), (1, .long x1), (3, .int x3)]) hx hb dX12_type_61 hl (k := 4) rfl (by rw [ex5_19]; rfl) (by decide) rfl (fun ls hl => ?_)
            refine lv_goto (tgt := 20) hx hb dX12_type_64 (by decide) ?_
            exact ih 1 x5_19 g H locs ls hP hS (lv_sub hl [2, 3, 4, 1, 0] rfl) hf
  unfold f_X12_type at hf
  have hH9 : ∀ (H : Heap) (locs : List Loc), H = s.heap → locs = [] → va_P D vwCl (mm_L TM ad cy g) H → va_S (mm_A TM ad) s.heap H locs → W p l e (headSpec wsX12_type (rm_X12_type)).room s m args below meth c H locs 0 0 (MQ below (mm_Qi D TM ad cy r0 g') args s 0 0 (mm_A TM ad)) (F0 m 0 ls []) := by
    intro H locs hH9 hL9 hP hS
    clear hH9 hL9
    refine lv_iload_n hx hb dX12_type_0 rfl (lv_at hl 2 rfl) ?_
    refine lv_i2l hx hb dX12_type_1 rfl ?_
    refine lv_lconst (v := 1) hx hb dX12_type_2 (by decide) ?_
    refine lv_ldc2 (v := 8) hx hb hown hw0 dX12_type_3 ?_
    obtain ⟨r_1, hr_2, hf⟩ := op_some hf
    refine mq_calli (va_runS (As := [.long (x3.toInt64), .long 1, .long 8]) (rest := []) ⟨hx, hb, hml, hown, hts⟩ (c_X12_in l D ad cy (x3.toInt64) 1 8 g r_1 hr_2) (va_cwS 3 hts gX12_type_X12_in rfl rfl rfl (by decide +kernel) ⟨Nat.le_of_ble_eq_true rfl, Nat.le_of_ble_eq_true rfl⟩) (mq_preS mm_zOk0 hK hP hI hZ hS) rfl rfl hl.1 rfl (lv_room (Nat.le_of_ble_eq_true rfl)) dX12_type_6 ⟨Nat.le_refl _, Nat.le_refl _⟩) hS (fun H locs hP hS => ?_)
    refine lv_if_ne (tgt := 14) hx hb dX12_type_9 (by decide) (fun c_3 => ?_) (fun c_3 => ?_)
    · replace hf := ite_f c_3 hf
      refine lv_iconst (v := 1) hx hb dX12_type_14 (by decide) ?_
      refine lv_istore (lv' := [(4, .int 1), (0, .ref (ad 0)), (1, .long x1), (3, .int x3)]) hx hb dX12_type_15 hl (by decide) rfl (fun ls hl => ?_)
      refine lv_iconst (v := 0) hx hb dX12_type_17 (by decide) ?_
      refine lv_istore (lv' := [(5, .int 0), (4, .int 1), (0, .ref (ad 0)), (1, .long x1), (3, .int x3)]) hx hb dX12_type_18 hl (by decide) rfl (fun ls hl => ?_)
      exact hc20 FU 1 0 g H locs ls hP hS (lv_sub hl [2, 3, 4, 1, 0] rfl) hf
    · replace hf := ite_t c_3 hf
      refine lv_iconst (v := (-1)) hx hb dX12_type_12 (by decide) ?_
      exact mq_iret hx hb hr rfl hlocks hP hS (pr_1 hf) (pr_2 hf) dX12_type_13
  exact hH9 s.heap [] rfl rfl hP hS
abbrev rm_X12_next : Room := ({ frames := 0, cells := 0, slots := 0, locals := 0 } : Room)
set_option maxHeartbeats 4000000 in
set_option maxRecDepth 100000 in
theorem c_X12_next (l : Launch) (D : va_G) (ad : Nat → Nat) (cy : Nat → ClassId)  (g : Mm) (hp : TM[0]? = some sX12) (r0 : Int32) (g' : Mm) (hf : f_X12_next g = some (r0, g')) : Met l yX12_next wsX12_next rm_X12_next (va_Pc [.ref (ad 0)] (mm_pre mm_Z0 D TM ad cy g)) (mm_Qi D TM ad cy r0 g') 0 0 (mm_A TM ad) := by
  refine Met.ofW (cc := cX12_next) (maxL := 1) (ret := (some .int)) (by decide) rfl ?_
  intro p e s m args below meth c s₁ B hml hv
  obtain ⟨hargs, hP, hK, hI, hZ⟩ := hv
  have hx := B.exec
  have hb := B.bytes
  have hr := B.returns
  have hts := atoms_spec (ws := wsX12_next) B.pre
  have hown : s.vm.findClass RX12 = some m.cls := findClass_of_methodNamed B.named
  have hlocks := B.notSynchronized
  have hw0 := hts (.fieldLink RX12 107 "LeftShoesModel" "at" "I") (by decide +kernel)
  have hiX12 : ∀ w ∈ wsX120, w ∈ wsX12_next := by decide +kernel
  have hw2 := hts (.fieldLink RX12 103 "LeftShoesModel" "taped" "I") (by decide +kernel)
  have hw3 := hts (.fieldLink RX12 16 "LeftShoesModel" "tape" "[I") (by decide +kernel)
  rw [show entryFrame m args 1 = F0 m 0 ((lg_sl ([.ref (ad 0)] : List Value) ++ List.replicate (1 - (lg_sl ([.ref (ad 0)] : List Value)).length) Slot.unset).toArray) [] from by rw [hargs]; exact lg_entry_eq m _ _]
  have hl := lv_entry ([.ref (ad 0)] : List Value) (n := 1) (by exact Nat.le_of_ble_eq_true rfl)
  generalize (lg_sl ([.ref (ad 0)] : List Value) ++ List.replicate (1 - (lg_sl ([.ref (ad 0)] : List Value)).length) Slot.unset).toArray = ls at hl ⊢
  have hl : lv_has ls 1 [(0, .ref (ad 0))] := by exact hl
  have hS : va_S (mm_A TM ad) s.heap s.heap [] := va_S.rf
  clear hargs
  have hc38 : ∀ (g : Mm) (H : Heap) (locs : List Loc) (ls : Array Slot), va_P D vwCl (mm_L TM ad cy g) H → va_S (mm_A TM ad) s.heap H locs → lv_has ls 1 [(0, .ref (ad 0))] → f_X12_next_c38 g = some (r0, g') → W p l e (headSpec wsX12_next (rm_X12_next)).room s m args below meth c H locs 0 0 (MQ below (mm_Qi D TM ad cy r0 g') args s 0 0 (mm_A TM ad)) (F0 m 38 ls []) := by
    intro g H locs ls hP hS hl hf
    unfold f_X12_next_c38 at hf
    refine lv_aload_n hx hb dX12_next_38 rfl (lv_at hl 0 rfl) ?_
    refine mq_geti (Tt := TX12) (N := 26) (C := RX12) hx hb hts hiX12 hown hK hP hp rfl 8 (by decide) rfl hw0 (fun _ h9 => h9) dX12_next_39 ?_
    refine lv_aload_n hx hb dX12_next_42 rfl (lv_at hl 0 rfl) ?_
    refine mq_geti (Tt := TX12) (N := 26) (C := RX12) hx hb hts hiX12 hown hK hP hp rfl 4 (by decide) rfl hw2 (fun _ h9 => h9) dX12_next_43 ?_
    refine lv_icmp_ge (tgt := 61) hx hb dX12_next_46 (by decide) (fun c_2 => ?_) (fun c_2 => ?_)
    · replace hf := ite_t c_2 hf
      refine lv_iconst (v := (-1)) hx hb dX12_next_61 (by decide) ?_
      exact mq_iret hx hb hr rfl hlocks hP hS (pr_1 hf) (pr_2 hf) dX12_next_62
    · replace hf := ite_f c_2 hf
      refine lv_aload_n hx hb dX12_next_49 rfl (lv_at hl 0 rfl) ?_
      refine mq_getr (Tt := TX12) (N := 26) (C := RX12) hx hb hts hiX12 hown hK hP hp rfl 3 3 (by decide) rfl hw3 (fun _ h9 => h9) dX12_next_50 ?_
      refine lv_aload_n hx hb dX12_next_53 rfl (lv_at hl 0 rfl) ?_
      refine mq_geti (Tt := TX12) (N := 26) (C := RX12) hx hb hts hiX12 hown hK hP hp rfl 8 (by decide) rfl hw0 (fun _ h9 => h9) dX12_next_54 ?_
      obtain ⟨h_3, hf⟩ := og_some hf
      refine mq_iald hx hb hK hP (N := 60) (shTM_X12_3 hp) h_3 dX12_next_57 ?_
      refine lv_goto (tgt := 62) hx hb dX12_next_58 (by decide) ?_
      exact mq_iret hx hb hr rfl hlocks hP hS (pr_1 hf) (pr_2 hf) dX12_next_62
  have hc0 : ∀ (n : Nat), ∀ (g : Mm) (H : Heap) (locs : List Loc) (ls : Array Slot), va_P D vwCl (mm_L TM ad cy g) H → va_S (mm_A TM ad) s.heap H locs → lv_has ls 1 [(0, .ref (ad 0))] → f_X12_next_c0 n g = some (r0, g') → W p l e (headSpec wsX12_next (rm_X12_next)).room s m args below meth c H locs 0 0 (MQ below (mm_Qi D TM ad cy r0 g') args s 0 0 (mm_A TM ad)) (F0 m 0 ls []) := by
    intro n
    induction n with
    | zero =>
      intro g H locs ls hP hS hl hf
      rw [f_X12_next_c0] at hf
      cases hf
    | succ n ih =>
      intro g H locs ls hP hS hl hf
      rw [f_X12_next_c0] at hf
      refine lv_aload_n hx hb dX12_next_0 rfl (lv_at hl 0 rfl) ?_
      refine mq_geti (Tt := TX12) (N := 26) (C := RX12) hx hb hts hiX12 hown hK hP hp rfl 8 (by decide) rfl hw0 (fun _ h9 => h9) dX12_next_1 ?_
      refine lv_aload_n hx hb dX12_next_4 rfl (lv_at hl 0 rfl) ?_
      refine mq_geti (Tt := TX12) (N := 26) (C := RX12) hx hb hts hiX12 hown hK hP hp rfl 4 (by decide) rfl hw2 (fun _ h9 => h9) dX12_next_5 ?_
      refine lv_icmp_ge (tgt := 38) hx hb dX12_next_8 (by decide) (fun c_1 => ?_) (fun c_1 => ?_)
      · replace hf := ite_t c_1 hf
        exact hc38 g H locs ls hP hS (lv_sub hl [0] rfl) hf
      · replace hf := ite_f c_1 hf
        refine lv_aload_n hx hb dX12_next_11 rfl (lv_at hl 0 rfl) ?_
        refine mq_getr (Tt := TX12) (N := 26) (C := RX12) hx hb hts hiX12 hown hK hP hp rfl 3 3 (by decide) rfl hw3 (fun _ h9 => h9) dX12_next_12 ?_
        refine lv_aload_n hx hb dX12_next_15 rfl (lv_at hl 0 rfl) ?_
        refine mq_geti (Tt := TX12) (N := 26) (C := RX12) hx hb hts hiX12 hown hK hP hp rfl 8 (by decide) rfl hw0 (fun _ h9 => h9) dX12_next_16 ?_
        obtain ⟨h_4, hf⟩ := og_some hf
        refine mq_iald hx hb hK hP (N := 60) (shTM_X12_3 hp) h_4 dX12_next_19 ?_
        refine lv_bipush (v := 32) hx hb dX12_next_20 (by decide) ?_
        refine lv_icmp_ne (tgt := 38) hx hb dX12_next_22 (by decide) (fun c_5 => ?_) (fun c_5 => ?_)
        · replace hf := ite_f c_5 hf
          exact hc38 g H locs ls hP hS (lv_sub hl [0] rfl) hf
        · replace hf := ite_t c_5 hf
          refine lv_aload_n hx hb dX12_next_25 rfl (lv_at hl 0 rfl) ?_
          refine lv_dup hx hb dX12_next_26 rfl ?_
          refine mq_geti (Tt := TX12) (N := 26) (C := RX12) hx hb hts hiX12 hown hK hP hp rfl 8 (by decide) rfl hw0 (fun _ h9 => h9) dX12_next_27 ?_
          refine lv_iconst (v := 1) hx hb dX12_next_30 (by decide) ?_
          refine lv_iadd hx hb dX12_next_31 ?_
          obtain ⟨g_6, eg_6, hf⟩ := mw_some hf
          refine mq_puti (Tt := TX12) (N := 26) (C := RX12) (ty := .int) hx hb hts hiX12 tyX12 tyX12_ok nmX12 hown hK hI hP hS hp rfl 8 (by decide) rfl hw0 (fun _ h9 => h9) rfl (by decide +kernel) rfl rfl dX12_next_32 eg_6 (fun H locs hP hS => ?_)
          refine lv_goto (tgt := 0) hx hb dX12_next_35 (by decide) ?_
          exact ih g_6 H locs ls hP hS (lv_sub hl [0] rfl) hf
  unfold f_X12_next at hf
  have hH9 : ∀ (H : Heap) (locs : List Loc), H = s.heap → locs = [] → va_P D vwCl (mm_L TM ad cy g) H → va_S (mm_A TM ad) s.heap H locs → W p l e (headSpec wsX12_next (rm_X12_next)).room s m args below meth c H locs 0 0 (MQ below (mm_Qi D TM ad cy r0 g') args s 0 0 (mm_A TM ad)) (F0 m 0 ls []) := by
    intro H locs hH9 hL9 hP hS
    clear hH9 hL9
    exact hc0 FU g H locs ls hP hS (lv_sub hl [0] rfl) hf
  exact hH9 s.heap [] rfl rfl hP hS
abbrev rm_X12_isFigure : Room := ({ frames := 1, cells := 0, slots := 0, locals := 25 } : Room)
set_option maxHeartbeats 4000000 in
set_option maxRecDepth 100000 in
theorem c_X12_isFigure (l : Launch) (D : va_G) (ad : Nat → Nat) (cy : Nat → ClassId) (x0 : Int32) (g : Mm)  (r0 : Int32) (hf : f_X12_isFigure x0 = some r0) : Met l yX12_isFigure wsX12_isFigure rm_X12_isFigure (va_Pc [.int x0] (mm_pre mm_Z0 D TM ad cy g)) (mm_Qi D TM ad cy r0 g) 0 0 (mm_A TM ad) := by
  refine Met.ofW (cc := cX12_isFigure) (maxL := 1) (ret := (some .boolean)) (by decide) rfl ?_
  intro p e s m args below meth c s₁ B hml hv
  obtain ⟨hargs, hP, hK, hI, hZ⟩ := hv
  have hx := B.exec
  have hb := B.bytes
  have hr := B.returns
  have hts := atoms_spec (ws := wsX12_isFigure) B.pre
  have hown : s.vm.findClass RX12 = some m.cls := findClass_of_methodNamed B.named
  have hlocks := B.notSynchronized
  have hw0 := hts (.constantLong RX12 110 (48)) (by decide +kernel)
  have hw1 := hts (.constantLong RX12 112 (57)) (by decide +kernel)
  rw [show entryFrame m args 1 = F0 m 0 ((lg_sl ([.int x0] : List Value) ++ List.replicate (1 - (lg_sl ([.int x0] : List Value)).length) Slot.unset).toArray) [] from by rw [hargs]; exact lg_entry_eq m _ _]
  have hl := lv_entry ([.int x0] : List Value) (n := 1) (by exact Nat.le_of_ble_eq_true rfl)
  generalize (lg_sl ([.int x0] : List Value) ++ List.replicate (1 - (lg_sl ([.int x0] : List Value)).length) Slot.unset).toArray = ls at hl ⊢
  have hl : lv_has ls 1 [(0, .int x0)] := by exact hl
  have hS : va_S (mm_A TM ad) s.heap s.heap [] := va_S.rf
  clear hargs
  unfold f_X12_isFigure at hf
  have hH9 : ∀ (H : Heap) (locs : List Loc), H = s.heap → locs = [] → va_P D vwCl (mm_L TM ad cy g) H → va_S (mm_A TM ad) s.heap H locs → W p l e (headSpec wsX12_isFigure (rm_X12_isFigure)).room s m args below meth c H locs 0 0 (MQ below (mm_Qi D TM ad cy r0 g) args s 0 0 (mm_A TM ad)) (F0 m 0 ls []) := by
    intro H locs hH9 hL9 hP hS
    clear hH9 hL9
    refine lv_iload_n hx hb dX12_isFigure_0 rfl (lv_at hl 0 rfl) ?_
    refine lv_i2l hx hb dX12_isFigure_1 rfl ?_
    refine lv_ldc2 (v := 48) hx hb hown hw0 dX12_isFigure_2 ?_
    refine lv_ldc2 (v := 57) hx hb hown hw1 dX12_isFigure_5 ?_
    obtain ⟨r_1, hr_2, hf⟩ := op_some hf
    refine mq_calli (va_runS (As := [.long (x0.toInt64), .long 48, .long 57]) (rest := []) ⟨hx, hb, hml, hown, hts⟩ (c_X12_in l D ad cy (x0.toInt64) 48 57 g r_1 hr_2) (va_cwS 3 hts gX12_isFigure_X12_in rfl rfl rfl (by decide +kernel) ⟨Nat.le_of_ble_eq_true rfl, Nat.le_of_ble_eq_true rfl⟩) (mq_preS mm_zOk0 hK hP hI hZ hS) rfl rfl hl.1 rfl (lv_room (Nat.le_of_ble_eq_true rfl)) dX12_isFigure_8 ⟨Nat.le_refl _, Nat.le_refl _⟩) hS (fun H locs hP hS => ?_)
    obtain ⟨h_3, hf⟩ := og_some hf
    exact mq_iret hx hb hr (mm_01_nar h_3) hlocks hP hS (Option.some.inj hf) rfl dX12_isFigure_11
  exact hH9 s.heap [] rfl rfl hP hS
abbrev rm_X12_takesFigure : Room := ({ frames := 2, cells := 0, slots := 0, locals := 45 } : Room)
set_option maxHeartbeats 4000000 in
set_option maxRecDepth 100000 in
theorem c_X12_takesFigure (l : Launch) (D : va_G) (ad : Nat → Nat) (cy : Nat → ClassId) (x1 : Int32) (g : Mm) (hp : TM[0]? = some sX12) (r0 : Int32) (g' : Mm) (hf : f_X12_takesFigure x1 g = some (r0, g')) : Met l yX12_takesFigure wsX12_takesFigure rm_X12_takesFigure (va_Pc [.ref (ad 0), .int x1] (mm_pre mm_Z0 D TM ad cy g)) (mm_Qi D TM ad cy r0 g') 0 0 (mm_A TM ad) := by
  refine Met.ofW (cc := cX12_takesFigure) (maxL := 3) (ret := (some .boolean)) (by decide) rfl ?_
  intro p e s m args below meth c s₁ B hml hv
  obtain ⟨hargs, hP, hK, hI, hZ⟩ := hv
  have hx := B.exec
  have hb := B.bytes
  have hr := B.returns
  have hts := atoms_spec (ws := wsX12_takesFigure) B.pre
  have hown : s.vm.findClass RX12 = some m.cls := findClass_of_methodNamed B.named
  have hlocks := B.notSynchronized
  have hw0 := hts (.fieldLink RX12 28 "LeftShoesModel" "read" "[I") (by decide +kernel)
  have hiX12 : ∀ w ∈ wsX120, w ∈ wsX12_takesFigure := by decide +kernel
  have hw2 := hts (.fieldLink RX12 107 "LeftShoesModel" "at" "I") (by decide +kernel)
  rw [show entryFrame m args 3 = F0 m 0 ((lg_sl ([.ref (ad 0), .int x1] : List Value) ++ List.replicate (3 - (lg_sl ([.ref (ad 0), .int x1] : List Value)).length) Slot.unset).toArray) [] from by rw [hargs]; exact lg_entry_eq m _ _]
  have hl := lv_entry ([.ref (ad 0), .int x1] : List Value) (n := 3) (by exact Nat.le_of_ble_eq_true rfl)
  generalize (lg_sl ([.ref (ad 0), .int x1] : List Value) ++ List.replicate (3 - (lg_sl ([.ref (ad 0), .int x1] : List Value)).length) Slot.unset).toArray = ls at hl ⊢
  have hl : lv_has ls 3 [(0, .ref (ad 0)), (1, .int x1)] := by exact hl
  have hS : va_S (mm_A TM ad) s.heap s.heap [] := va_S.rf
  clear hargs
  unfold f_X12_takesFigure at hf
  have hH9 : ∀ (H : Heap) (locs : List Loc), H = s.heap → locs = [] → va_P D vwCl (mm_L TM ad cy g) H → va_S (mm_A TM ad) s.heap H locs → W p l e (headSpec wsX12_takesFigure (rm_X12_takesFigure)).room s m args below meth c H locs 0 0 (MQ below (mm_Qi D TM ad cy r0 g') args s 0 0 (mm_A TM ad)) (F0 m 0 ls []) := by
    intro H locs hH9 hL9 hP hS
    clear hH9 hL9
    refine lv_aload_n hx hb dX12_takesFigure_0 rfl (lv_at hl 0 rfl) ?_
    obtain ⟨r_2, g_1, hr_3, hf⟩ := ob_some hf
    refine mq_calli (va_runV (As := []) (rest := []) ⟨hx, hb, hml, hown, hts⟩ (c_X12_next l D ad cy g hp r_2 g_1 hr_3) (cwV 0 hts gX12_takesFigure_X12_next rfl rfl rfl (by decide +kernel) ⟨Nat.le_of_ble_eq_true rfl, Nat.le_of_ble_eq_true rfl⟩) (mq_preV (q := (RX12, TX12, 26)) mm_zOk0 hK hP hI hZ hS hp rfl) rfl rfl hl.1 rfl (lv_room (Nat.le_of_ble_eq_true rfl)) dX12_takesFigure_1 ⟨Nat.le_refl _, Nat.le_refl _⟩) hS (fun H locs hP hS => ?_)
    refine lv_istore_n (lv' := [(2, .int r_2), (0, .ref (ad 0)), (1, .int x1)]) hx hb dX12_takesFigure_4 rfl hl (by decide) rfl (fun ls hl => ?_)
    refine lv_iload_n hx hb dX12_takesFigure_5 rfl (lv_at hl 0 rfl) ?_
    obtain ⟨r_4, hr_5, hf⟩ := op_some hf
    refine mq_calli (va_runS (As := [.int r_2]) (rest := []) ⟨hx, hb, hml, hown, hts⟩ (c_X12_isFigure l D ad cy r_2 g_1 r_4 hr_5) (va_cwS 1 hts gX12_takesFigure_X12_isFigure rfl rfl rfl (by decide +kernel) ⟨Nat.le_of_ble_eq_true rfl, Nat.le_of_ble_eq_true rfl⟩) (mq_preS mm_zOk0 hK hP hI hZ hS) rfl rfl hl.1 rfl (lv_room (Nat.le_of_ble_eq_true rfl)) dX12_takesFigure_6 ⟨Nat.le_refl _, Nat.le_refl _⟩) hS (fun H locs hP hS => ?_)
    refine lv_if_ne (tgt := 14) hx hb dX12_takesFigure_9 (by decide) (fun c_6 => ?_) (fun c_6 => ?_)
    · replace hf := ite_f c_6 hf
      refine lv_aload_n hx hb dX12_takesFigure_14 rfl (lv_at hl 1 rfl) ?_
      refine mq_getr (Tt := TX12) (N := 26) (C := RX12) hx hb hts hiX12 hown hK hP hp rfl 9 7 (by decide) rfl hw0 (fun _ h9 => h9) dX12_takesFigure_15 ?_
      refine lv_iload_n hx hb dX12_takesFigure_18 rfl (lv_at hl 2 rfl) ?_
      refine lv_iload_n hx hb dX12_takesFigure_19 rfl (lv_at hl 0 rfl) ?_
      refine lv_bipush (v := 48) hx hb dX12_takesFigure_20 (by decide) ?_
      refine lv_isub hx hb dX12_takesFigure_22 ?_
      obtain ⟨h_7, hf⟩ := og_some hf
      obtain ⟨g_8, eg_8, hf⟩ := mw_some hf
      refine mq_iast hx hb hK hI hP hS (N := 18) (shTM_X12_7 hp) h_7 dX12_takesFigure_23 eg_8 (fun H locs hP hS => ?_)
      refine lv_aload_n hx hb dX12_takesFigure_24 rfl (lv_at hl 1 rfl) ?_
      refine lv_dup hx hb dX12_takesFigure_25 rfl ?_
      refine mq_geti (Tt := TX12) (N := 26) (C := RX12) hx hb hts hiX12 hown hK hP hp rfl 8 (by decide) rfl hw2 (fun _ h9 => h9) dX12_takesFigure_26 ?_
      refine lv_iconst (v := 1) hx hb dX12_takesFigure_29 (by decide) ?_
      refine lv_iadd hx hb dX12_takesFigure_30 ?_
      obtain ⟨g_9, eg_9, hf⟩ := mw_some hf
      refine mq_puti (Tt := TX12) (N := 26) (C := RX12) (ty := .int) hx hb hts hiX12 tyX12 tyX12_ok nmX12 hown hK hI hP hS hp rfl 8 (by decide) rfl hw2 (fun _ h9 => h9) rfl (by decide +kernel) rfl rfl dX12_takesFigure_31 eg_9 (fun H locs hP hS => ?_)
      refine lv_iconst (v := 1) hx hb dX12_takesFigure_34 (by decide) ?_
      exact mq_iret hx hb hr (by decide +kernel) hlocks hP hS (pr_1 hf) (pr_2 hf) dX12_takesFigure_35
    · replace hf := ite_t c_6 hf
      refine lv_iconst (v := 0) hx hb dX12_takesFigure_12 (by decide) ?_
      exact mq_iret hx hb hr (by decide +kernel) hlocks hP hS (pr_1 hf) (pr_2 hf) dX12_takesFigure_13
  exact hH9 s.heap [] rfl rfl hP hS
abbrev rm_X12_takesNumber : Room := ({ frames := 2, cells := 0, slots := 0, locals := 45 } : Room)
set_option maxHeartbeats 4000000 in
set_option maxRecDepth 100000 in
theorem c_X12_takesNumber (l : Launch) (D : va_G) (ad : Nat → Nat) (cy : Nat → ClassId) (x1 : Int32) (x2 : Int32) (g : Mm) (hp : TM[0]? = some sX12) (r0 : Int32) (g' : Mm) (hf : f_X12_takesNumber x1 x2 g = some (r0, g')) : Met l yX12_takesNumber wsX12_takesNumber rm_X12_takesNumber (va_Pc [.ref (ad 0), .int x1, .int x2] (mm_pre mm_Z0 D TM ad cy g)) (mm_Qi D TM ad cy r0 g') 0 0 (mm_A TM ad) := by
  refine Met.ofW (cc := cX12_takesNumber) (maxL := 5) (ret := (some .boolean)) (by decide) rfl ?_
  intro p e s m args below meth c s₁ B hml hv
  obtain ⟨hargs, hP, hK, hI, hZ⟩ := hv
  have hx := B.exec
  have hb := B.bytes
  have hr := B.returns
  have hts := atoms_spec (ws := wsX12_takesNumber) B.pre
  have hown : s.vm.findClass RX12 = some m.cls := findClass_of_methodNamed B.named
  have hlocks := B.notSynchronized
  have hw0 := hts (.fieldLink RX12 107 "LeftShoesModel" "at" "I") (by decide +kernel)
  have hiX12 : ∀ w ∈ wsX120, w ∈ wsX12_takesNumber := by decide +kernel
  have hw2 := hts (.fieldLink RX12 103 "LeftShoesModel" "taped" "I") (by decide +kernel)
  have hw3 := hts (.fieldLink RX12 28 "LeftShoesModel" "read" "[I") (by decide +kernel)
  have hw4 := hts (.fieldLink RX12 16 "LeftShoesModel" "tape" "[I") (by decide +kernel)
  rw [show entryFrame m args 5 = F0 m 0 ((lg_sl ([.ref (ad 0), .int x1, .int x2] : List Value) ++ List.replicate (5 - (lg_sl ([.ref (ad 0), .int x1, .int x2] : List Value)).length) Slot.unset).toArray) [] from by rw [hargs]; exact lg_entry_eq m _ _]
  have hl := lv_entry ([.ref (ad 0), .int x1, .int x2] : List Value) (n := 5) (by exact Nat.le_of_ble_eq_true rfl)
  generalize (lg_sl ([.ref (ad 0), .int x1, .int x2] : List Value) ++ List.replicate (5 - (lg_sl ([.ref (ad 0), .int x1, .int x2] : List Value)).length) Slot.unset).toArray = ls at hl ⊢
  have hl : lv_has ls 5 [(0, .ref (ad 0)), (1, .int x1), (2, .int x2)] := by exact hl
  have hS : va_S (mm_A TM ad) s.heap s.heap [] := va_S.rf
  clear hargs
  have hc90 : ∀ (x3 : Int32) (x4 : Int32) (g : Mm) (H : Heap) (locs : List Loc) (ls : Array Slot), va_P D vwCl (mm_L TM ad cy g) H → va_S (mm_A TM ad) s.heap H locs → lv_has ls 5 [(0, .ref (ad 0)), (1, .int x1), (2, .int x2), (3, .int x3), (4, .int x4)] → f_X12_takesNumber_c90 x1 x2 x3 x4 g = some (r0, g') → W p l e (headSpec wsX12_takesNumber (rm_X12_takesNumber)).room s m args below meth c H locs 0 0 (MQ below (mm_Qi D TM ad cy r0 g') args s 0 0 (mm_A TM ad)) (F0 m 90 ls []) := by
    intro x3 x4 g H locs ls hP hS hl hf
    unfold f_X12_takesNumber_c90 at hf
    refine lv_iload hx hb dX12_takesNumber_90 (lv_at hl 4 rfl) ?_
    refine lv_iload_n hx hb dX12_takesNumber_92 rfl (lv_at hl 2 rfl) ?_
    refine lv_icmp_le (tgt := 103) hx hb dX12_takesNumber_93 (by decide) (fun c_9 => ?_) (fun c_9 => ?_)
    · replace hf := ite_t c_9 hf
      refine lv_aload_n hx hb dX12_takesNumber_103 rfl (lv_at hl 0 rfl) ?_
      refine mq_getr (Tt := TX12) (N := 26) (C := RX12) hx hb hts hiX12 hown hK hP hp rfl 9 7 (by decide) rfl hw3 (fun _ h9 => h9) dX12_takesNumber_104 ?_
      refine lv_iload_n hx hb dX12_takesNumber_107 rfl (lv_at hl 1 rfl) ?_
      refine lv_iload hx hb dX12_takesNumber_108 (lv_at hl 4 rfl) ?_
      obtain ⟨h_10, hf⟩ := og_some hf
      obtain ⟨g_11, eg_11, hf⟩ := mw_some hf
      refine mq_iast hx hb hK hI hP hS (N := 18) (shTM_X12_7 hp) h_10 dX12_takesNumber_110 eg_11 (fun H locs hP hS => ?_)
      refine lv_iconst (v := 1) hx hb dX12_takesNumber_111 (by decide) ?_
      exact mq_iret hx hb hr (by decide +kernel) hlocks hP hS (pr_1 hf) (pr_2 hf) dX12_takesNumber_112
    · replace hf := ite_f c_9 hf
      refine lv_aload_n hx hb dX12_takesNumber_96 rfl (lv_at hl 0 rfl) ?_
      refine lv_iload_n hx hb dX12_takesNumber_97 rfl (lv_at hl 3 rfl) ?_
      obtain ⟨g_12, eg_12, hf⟩ := mw_some hf
      refine mq_puti (Tt := TX12) (N := 26) (C := RX12) (ty := .int) hx hb hts hiX12 tyX12 tyX12_ok nmX12 hown hK hI hP hS hp rfl 8 (by decide) rfl hw0 (fun _ h9 => h9) rfl (by decide +kernel) rfl rfl dX12_takesNumber_98 eg_12 (fun H locs hP hS => ?_)
      refine lv_iconst (v := 0) hx hb dX12_takesNumber_101 (by decide) ?_
      exact mq_iret hx hb hr (by decide +kernel) hlocks hP hS (pr_1 hf) (pr_2 hf) dX12_takesNumber_102
  have hc75 : ∀ (K_20 : Int32 → Int32 → Mm → Option (Int32 × Mm)), (∀ (x3 : Int32) (x4 : Int32) (g : Mm) (H : Heap) (locs : List Loc) (ls : Array Slot), va_P D vwCl (mm_L TM ad cy g) H → va_S (mm_A TM ad) s.heap H locs → lv_has ls 5 [(0, .ref (ad 0)), (1, .int x1), (2, .int x2), (3, .int x3), (4, .int x4)] → K_20 x3 x4 g = some (r0, g') → W p l e (headSpec wsX12_takesNumber (rm_X12_takesNumber)).room s m args below meth c H locs 0 0 (MQ below (mm_Qi D TM ad cy r0 g') args s 0 0 (mm_A TM ad)) (F0 m 20 ls [])) → ∀ (x3 : Int32) (sx0 : Int32) (g : Mm) (H : Heap) (locs : List Loc) (ls : Array Slot), va_P D vwCl (mm_L TM ad cy g) H → va_S (mm_A TM ad) s.heap H locs → lv_has ls 5 [(0, .ref (ad 0)), (1, .int x1), (2, .int x2), (3, .int x3)] → f_X12_takesNumber_c75 K_20 x1 x2 x3 sx0 g = some (r0, g') → W p l e (headSpec wsX12_takesNumber (rm_X12_takesNumber)).room s m args below meth c H locs 0 0 (MQ below (mm_Qi D TM ad cy r0 g') args s 0 0 (mm_A TM ad)) (F0 m 75 ls [.int sx0]) := by
    intro K_20 hK_20 x3 sx0 g H locs ls hP hS hl hf
    unfold f_X12_takesNumber_c75 at hf
    refine lv_istore (lv' := [(4, .int sx0), (0, .ref (ad 0)), (1, .int x1), (2, .int x2), (3, .int x3)]) hx hb dX12_takesNumber_75 hl (by decide) rfl (fun ls hl => ?_)
    refine lv_aload_n hx hb dX12_takesNumber_77 rfl (lv_at hl 1 rfl) ?_
    refine lv_dup hx hb dX12_takesNumber_78 rfl ?_
    refine mq_geti (Tt := TX12) (N := 26) (C := RX12) hx hb hts hiX12 hown hK hP hp rfl 8 (by decide) rfl hw0 (fun _ h9 => h9) dX12_takesNumber_79 ?_
    refine lv_iconst (v := 1) hx hb dX12_takesNumber_82 (by decide) ?_
    refine lv_iadd hx hb dX12_takesNumber_83 ?_
    obtain ⟨g_19, eg_19, hf⟩ := mw_some hf
    refine mq_puti (Tt := TX12) (N := 26) (C := RX12) (ty := .int) hx hb hts hiX12 tyX12 tyX12_ok nmX12 hown hK hI hP hS hp rfl 8 (by decide) rfl hw0 (fun _ h9 => h9) rfl (by decide +kernel) rfl rfl dX12_takesNumber_84 eg_19 (fun H locs hP hS => ?_)
    refine lv_goto (tgt := 20) hx hb dX12_takesNumber_87 (by decide) ?_
    exact hK_20 x3 sx0 g_19 H locs ls hP hS (lv_sub hl [1, 2, 3, 4, 0] rfl) hf
  have hc20 : ∀ (n : Nat), ∀ (x3 : Int32) (x4 : Int32) (g : Mm) (H : Heap) (locs : List Loc) (ls : Array Slot), va_P D vwCl (mm_L TM ad cy g) H → va_S (mm_A TM ad) s.heap H locs → lv_has ls 5 [(0, .ref (ad 0)), (1, .int x1), (2, .int x2), (3, .int x3), (4, .int x4)] → f_X12_takesNumber_c20 x1 x2 n x3 x4 g = some (r0, g') → W p l e (headSpec wsX12_takesNumber (rm_X12_takesNumber)).room s m args below meth c H locs 0 0 (MQ below (mm_Qi D TM ad cy r0 g') args s 0 0 (mm_A TM ad)) (F0 m 20 ls []) := by
    intro n
    induction n with
    | zero =>
      intro x3 x4 g H locs ls hP hS hl hf
      rw [f_X12_takesNumber_c20] at hf
      cases hf
    | succ n ih =>
      intro x3 x4 g H locs ls hP hS hl hf
      rw [f_X12_takesNumber_c20] at hf
      refine lv_aload_n hx hb dX12_takesNumber_20 rfl (lv_at hl 0 rfl) ?_
      refine mq_geti (Tt := TX12) (N := 26) (C := RX12) hx hb hts hiX12 hown hK hP hp rfl 8 (by decide) rfl hw0 (fun _ h9 => h9) dX12_takesNumber_21 ?_
      refine lv_aload_n hx hb dX12_takesNumber_24 rfl (lv_at hl 0 rfl) ?_
      refine mq_geti (Tt := TX12) (N := 26) (C := RX12) hx hb hts hiX12 hown hK hP hp rfl 4 (by decide) rfl hw2 (fun _ h9 => h9) dX12_takesNumber_25 ?_
      refine lv_icmp_ge (tgt := 90) hx hb dX12_takesNumber_28 (by decide) (fun c_8 => ?_) (fun c_8 => ?_)
      · replace hf := ite_t c_8 hf
        exact hc90 x3 x4 g H locs ls hP hS (lv_sub hl [0, 1, 2, 3, 4] rfl) hf
      · replace hf := ite_f c_8 hf
        refine lv_aload_n hx hb dX12_takesNumber_31 rfl (lv_at hl 0 rfl) ?_
        refine mq_getr (Tt := TX12) (N := 26) (C := RX12) hx hb hts hiX12 hown hK hP hp rfl 3 3 (by decide) rfl hw4 (fun _ h9 => h9) dX12_takesNumber_32 ?_
        refine lv_aload_n hx hb dX12_takesNumber_35 rfl (lv_at hl 0 rfl) ?_
        refine mq_geti (Tt := TX12) (N := 26) (C := RX12) hx hb hts hiX12 hown hK hP hp rfl 8 (by decide) rfl hw0 (fun _ h9 => h9) dX12_takesNumber_36 ?_
        obtain ⟨h_13, hf⟩ := og_some hf
        refine mq_iald hx hb hK hP (N := 60) (shTM_X12_3 hp) h_13 dX12_takesNumber_39 ?_
        obtain ⟨r_14, hr_15, hf⟩ := op_some hf
        refine mq_calli (va_runS (As := [.int (g 3 (g 0 8).toNatClampNeg)]) (rest := []) ⟨hx, hb, hml, hown, hts⟩ (c_X12_isFigure l D ad cy (g 3 (g 0 8).toNatClampNeg) g r_14 hr_15) (va_cwS 1 hts gX12_takesNumber_X12_isFigure rfl rfl rfl (by decide +kernel) ⟨Nat.le_of_ble_eq_true rfl, Nat.le_of_ble_eq_true rfl⟩) (mq_preS mm_zOk0 hK hP hI hZ hS) rfl rfl hl.1 rfl (lv_room (Nat.le_of_ble_eq_true rfl)) dX12_takesNumber_40 ⟨Nat.le_refl _, Nat.le_refl _⟩) hS (fun H locs hP hS => ?_)
        refine lv_if_eq (tgt := 90) hx hb dX12_takesNumber_43 (by decide) (fun c_16 => ?_) (fun c_16 => ?_)
        · replace hf := ite_t c_16 hf
          exact hc90 x3 x4 g H locs ls hP hS (lv_sub hl [0, 1, 2, 3, 4] rfl) hf
        · replace hf := ite_f c_16 hf
          refine lv_iload hx hb dX12_takesNumber_46 (lv_at hl 4 rfl) ?_
          refine lv_iload_n hx hb dX12_takesNumber_48 rfl (lv_at hl 2 rfl) ?_
          refine lv_icmp_le (tgt := 57) hx hb dX12_takesNumber_49 (by decide) (fun c_17 => ?_) (fun c_17 => ?_)
          · replace hf := ite_t c_17 hf
            refine lv_bipush (v := 10) hx hb dX12_takesNumber_57 (by decide) ?_
            refine lv_iload hx hb dX12_takesNumber_59 (lv_at hl 4 rfl) ?_
            refine lv_imul hx hb dX12_takesNumber_61 ?_
            refine lv_aload_n hx hb dX12_takesNumber_62 rfl (lv_at hl 0 rfl) ?_
            refine mq_getr (Tt := TX12) (N := 26) (C := RX12) hx hb hts hiX12 hown hK hP hp rfl 3 3 (by decide) rfl hw4 (fun _ h9 => h9) dX12_takesNumber_63 ?_
            refine lv_aload_n hx hb dX12_takesNumber_66 rfl (lv_at hl 0 rfl) ?_
            refine mq_geti (Tt := TX12) (N := 26) (C := RX12) hx hb hts hiX12 hown hK hP hp rfl 8 (by decide) rfl hw0 (fun _ h9 => h9) dX12_takesNumber_67 ?_
            obtain ⟨h_18, hf⟩ := og_some hf
            refine mq_iald hx hb hK hP (N := 60) (shTM_X12_3 hp) h_18 dX12_takesNumber_70 ?_
            refine lv_iadd hx hb dX12_takesNumber_71 ?_
            refine lv_bipush (v := 48) hx hb dX12_takesNumber_72 (by decide) ?_
            refine lv_isub hx hb dX12_takesNumber_74 ?_
            exact hc75 (f_X12_takesNumber_c20 x1 x2 n) ih x3 (((10 * x4) + (g 3 (g 0 8).toNatClampNeg)) - 48) g H locs ls hP hS (lv_sub hl [0, 1, 2, 3] rfl) hf
          · replace hf := ite_f c_17 hf
            refine lv_iload hx hb dX12_takesNumber_52 (lv_at hl 4 rfl) ?_
            refine lv_goto (tgt := 75) hx hb dX12_takesNumber_54 (by decide) ?_
            exact hc75 (f_X12_takesNumber_c20 x1 x2 n) ih x3 x4 g H locs ls hP hS (lv_sub hl [0, 1, 2, 3] rfl) hf
  unfold f_X12_takesNumber at hf
  have hH9 : ∀ (H : Heap) (locs : List Loc), H = s.heap → locs = [] → va_P D vwCl (mm_L TM ad cy g) H → va_S (mm_A TM ad) s.heap H locs → W p l e (headSpec wsX12_takesNumber (rm_X12_takesNumber)).room s m args below meth c H locs 0 0 (MQ below (mm_Qi D TM ad cy r0 g') args s 0 0 (mm_A TM ad)) (F0 m 0 ls []) := by
    intro H locs hH9 hL9 hP hS
    clear hH9 hL9
    refine lv_aload_n hx hb dX12_takesNumber_0 rfl (lv_at hl 0 rfl) ?_
    obtain ⟨r_2, g_1, hr_3, hf⟩ := ob_some hf
    refine mq_calli (va_runV (As := []) (rest := []) ⟨hx, hb, hml, hown, hts⟩ (c_X12_next l D ad cy g hp r_2 g_1 hr_3) (cwV 0 hts gX12_takesNumber_X12_next rfl rfl rfl (by decide +kernel) ⟨Nat.le_of_ble_eq_true rfl, Nat.le_of_ble_eq_true rfl⟩) (mq_preV (q := (RX12, TX12, 26)) mm_zOk0 hK hP hI hZ hS hp rfl) rfl rfl hl.1 rfl (lv_room (Nat.le_of_ble_eq_true rfl)) dX12_takesNumber_1 ⟨Nat.le_refl _, Nat.le_refl _⟩) hS (fun H locs hP hS => ?_)
    obtain ⟨r_4, hr_5, hf⟩ := op_some hf
    refine mq_calli (va_runS (As := [.int r_2]) (rest := []) ⟨hx, hb, hml, hown, hts⟩ (c_X12_isFigure l D ad cy r_2 g_1 r_4 hr_5) (va_cwS 1 hts gX12_takesNumber_X12_isFigure rfl rfl rfl (by decide +kernel) ⟨Nat.le_of_ble_eq_true rfl, Nat.le_of_ble_eq_true rfl⟩) (mq_preS mm_zOk0 hK hP hI hZ hS) rfl rfl hl.1 rfl (lv_room (Nat.le_of_ble_eq_true rfl)) dX12_takesNumber_4 ⟨Nat.le_refl _, Nat.le_refl _⟩) hS (fun H locs hP hS => ?_)
    refine lv_if_ne (tgt := 12) hx hb dX12_takesNumber_7 (by decide) (fun c_6 => ?_) (fun c_6 => ?_)
    · replace hf := ite_f c_6 hf
      refine lv_aload_n hx hb dX12_takesNumber_12 rfl (lv_at hl 0 rfl) ?_
      refine mq_geti (Tt := TX12) (N := 26) (C := RX12) hx hb hts hiX12 hown hK hP hp rfl 8 (by decide) rfl hw0 (fun _ h9 => h9) dX12_takesNumber_13 ?_
      obtain ⟨x3_7, ex3_7, hf⟩ := mv_some hf
      refine mq_nm ex3_7 ?_
      refine lv_istore_n (lv' := [(3, .int x3_7), (0, .ref (ad 0)), (1, .int x1), (2, .int x2)]) hx hb dX12_takesNumber_16 rfl hl (by decide) rfl (fun ls hl => ?_)
      refine lv_iconst (v := 0) hx hb dX12_takesNumber_17 (by decide) ?_
      refine lv_istore (lv' := [(4, .int 0), (3, .int x3_7), (0, .ref (ad 0)), (1, .int x1), (2, .int x2)]) hx hb dX12_takesNumber_18 hl (by decide) rfl (fun ls hl => ?_)
      exact hc20 FU x3_7 0 g_1 H locs ls hP hS (lv_sub hl [2, 3, 4, 1, 0] rfl) hf
    · replace hf := ite_t c_6 hf
      refine lv_iconst (v := 0) hx hb dX12_takesNumber_10 (by decide) ?_
      exact mq_iret hx hb hr (by decide +kernel) hlocks hP hS (pr_1 hf) (pr_2 hf) dX12_takesNumber_11
  exact hH9 s.heap [] rfl rfl hP hS
abbrev rm_X12_sortOf : Room := ({ frames := 0, cells := 0, slots := 0, locals := 0 } : Room)
set_option maxHeartbeats 4000000 in
set_option maxRecDepth 100000 in
theorem c_X12_sortOf (l : Launch) (D : va_G) (ad : Nat → Nat) (cy : Nat → ClassId) (x0 : Int32) (g : Mm)  (r0 : Int32) (hf : f_X12_sortOf x0 = some r0) : Met l yX12_sortOf wsX12_sortOf rm_X12_sortOf (va_Pc [.int x0] (mm_pre mm_Z0 D TM ad cy g)) (mm_Qi D TM ad cy r0 g) 0 0 (mm_A TM ad) := by
  refine Met.ofW (cc := cX12_sortOf) (maxL := 1) (ret := (some .int)) (by decide) rfl ?_
  intro p e s m args below meth c s₁ B hml hv
  obtain ⟨hargs, hP, hK, hI, hZ⟩ := hv
  have hx := B.exec
  have hb := B.bytes
  have hr := B.returns
  have hts := atoms_spec (ws := wsX12_sortOf) B.pre
  have hown : s.vm.findClass RX12 = some m.cls := findClass_of_methodNamed B.named
  have hlocks := B.notSynchronized
  rw [show entryFrame m args 1 = F0 m 0 ((lg_sl ([.int x0] : List Value) ++ List.replicate (1 - (lg_sl ([.int x0] : List Value)).length) Slot.unset).toArray) [] from by rw [hargs]; exact lg_entry_eq m _ _]
  have hl := lv_entry ([.int x0] : List Value) (n := 1) (by exact Nat.le_of_ble_eq_true rfl)
  generalize (lg_sl ([.int x0] : List Value) ++ List.replicate (1 - (lg_sl ([.int x0] : List Value)).length) Slot.unset).toArray = ls at hl ⊢
  have hl : lv_has ls 1 [(0, .int x0)] := by exact hl
  have hS : va_S (mm_A TM ad) s.heap s.heap [] := va_S.rf
  clear hargs
  unfold f_X12_sortOf at hf
  have hH9 : ∀ (H : Heap) (locs : List Loc), H = s.heap → locs = [] → va_P D vwCl (mm_L TM ad cy g) H → va_S (mm_A TM ad) s.heap H locs → W p l e (headSpec wsX12_sortOf (rm_X12_sortOf)).room s m args below meth c H locs 0 0 (MQ below (mm_Qi D TM ad cy r0 g) args s 0 0 (mm_A TM ad)) (F0 m 0 ls []) := by
    intro H locs hH9 hL9 hP hS
    clear hH9 hL9
    refine lv_iload_n hx hb dX12_sortOf_0 rfl (lv_at hl 0 rfl) ?_
    refine lv_bipush (v := 112) hx hb dX12_sortOf_1 (by decide) ?_
    refine lv_icmp_ne (tgt := 10) hx hb dX12_sortOf_3 (by decide) (fun c_1 => ?_) (fun c_1 => ?_)
    · replace hf := ite_f c_1 hf
      refine lv_iload_n hx hb dX12_sortOf_10 rfl (lv_at hl 0 rfl) ?_
      refine lv_bipush (v := 115) hx hb dX12_sortOf_11 (by decide) ?_
      refine lv_icmp_ne (tgt := 20) hx hb dX12_sortOf_13 (by decide) (fun c_2 => ?_) (fun c_2 => ?_)
      · replace hf := ite_f c_2 hf
        refine lv_iload_n hx hb dX12_sortOf_20 rfl (lv_at hl 0 rfl) ?_
        refine lv_bipush (v := 99) hx hb dX12_sortOf_21 (by decide) ?_
        refine lv_icmp_ne (tgt := 30) hx hb dX12_sortOf_23 (by decide) (fun c_3 => ?_) (fun c_3 => ?_)
        · replace hf := ite_f c_3 hf
          refine lv_iload_n hx hb dX12_sortOf_30 rfl (lv_at hl 0 rfl) ?_
          refine lv_bipush (v := 107) hx hb dX12_sortOf_31 (by decide) ?_
          refine lv_icmp_ne (tgt := 40) hx hb dX12_sortOf_33 (by decide) (fun c_4 => ?_) (fun c_4 => ?_)
          · replace hf := ite_f c_4 hf
            refine lv_iconst (v := (-1)) hx hb dX12_sortOf_40 (by decide) ?_
            exact mq_iret hx hb hr rfl hlocks hP hS (Option.some.inj hf) rfl dX12_sortOf_41
          · replace hf := ite_t c_4 hf
            refine lv_iconst (v := 3) hx hb dX12_sortOf_36 (by decide) ?_
            refine lv_goto (tgt := 41) hx hb dX12_sortOf_37 (by decide) ?_
            exact mq_iret hx hb hr rfl hlocks hP hS (Option.some.inj hf) rfl dX12_sortOf_41
        · replace hf := ite_t c_3 hf
          refine lv_iconst (v := 2) hx hb dX12_sortOf_26 (by decide) ?_
          refine lv_goto (tgt := 41) hx hb dX12_sortOf_27 (by decide) ?_
          exact mq_iret hx hb hr rfl hlocks hP hS (Option.some.inj hf) rfl dX12_sortOf_41
      · replace hf := ite_t c_2 hf
        refine lv_iconst (v := 1) hx hb dX12_sortOf_16 (by decide) ?_
        refine lv_goto (tgt := 41) hx hb dX12_sortOf_17 (by decide) ?_
        exact mq_iret hx hb hr rfl hlocks hP hS (Option.some.inj hf) rfl dX12_sortOf_41
    · replace hf := ite_t c_1 hf
      refine lv_iconst (v := 0) hx hb dX12_sortOf_6 (by decide) ?_
      refine lv_goto (tgt := 41) hx hb dX12_sortOf_7 (by decide) ?_
      exact mq_iret hx hb hr rfl hlocks hP hS (Option.some.inj hf) rfl dX12_sortOf_41
  exact hH9 s.heap [] rfl rfl hP hS
