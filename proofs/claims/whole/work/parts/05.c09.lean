abbrev rm_X12_takesTax : Room := ({ frames := 3, cells := 0, slots := 0, locals := 69 } : Room)
set_option maxHeartbeats 4000000 in
set_option maxRecDepth 100000 in
theorem c_X12_takesTax (l : Launch) (D : va_G) (ad : Nat → Nat) (cy : Nat → ClassId)  (g : Mm) (hp : TM[0]? = some sX12) (r0 : Int32) (g' : Mm) (hf : f_X12_takesTax g = some (r0, g')) : Met l yX12_takesTax wsX12_takesTax rm_X12_takesTax (va_Pc [.ref (ad 0)] (mm_pre mm_Z0 D TM ad cy g)) (mm_Qi D TM ad cy r0 g') 0 0 (mm_A TM ad) := by
  refine Met.ofW (cc := cX12_takesTax) (maxL := 4) (ret := (some .int)) (by decide) rfl ?_
  intro p e s m args below meth c s₁ B hml hv
  obtain ⟨hargs, hP, hK, hI, hZ⟩ := hv
  have hx := B.exec
  have hb := B.bytes
  have hr := B.returns
  have hts := atoms_spec (ws := wsX12_takesTax) B.pre
  have hown : s.vm.findClass RX12 = some m.cls := findClass_of_methodNamed B.named
  have hlocks := B.notSynchronized
  have hw0 := hts (.fieldLink RX12 28 "LeftShoesModel" "read" "[I") (by decide +kernel)
  have hiX12 : ∀ w ∈ wsX120, w ∈ wsX12_takesTax := by decide +kernel
  have hw2 := hts (.fieldLink RX12 107 "LeftShoesModel" "at" "I") (by decide +kernel)
  rw [show entryFrame m args 4 = F0 m 0 ((lg_sl ([.ref (ad 0)] : List Value) ++ List.replicate (4 - (lg_sl ([.ref (ad 0)] : List Value)).length) Slot.unset).toArray) [] from by rw [hargs]; exact lg_entry_eq m _ _]
  have hl := lv_entry ([.ref (ad 0)] : List Value) (n := 4) (by exact Nat.le_of_ble_eq_true rfl)
  generalize (lg_sl ([.ref (ad 0)] : List Value) ++ List.replicate (4 - (lg_sl ([.ref (ad 0)] : List Value)).length) Slot.unset).toArray = ls at hl ⊢
  have hl : lv_has ls 4 [(0, .ref (ad 0))] := by exact hl
  have hS : va_S (mm_A TM ad) s.heap s.heap [] := va_S.rf
  clear hargs
  have hc136 : ∀ (x2 : Int32) (g : Mm) (H : Heap) (locs : List Loc) (ls : Array Slot), va_P D vwCl (mm_L TM ad cy g) H → va_S (mm_A TM ad) s.heap H locs → lv_has ls 4 [(0, .ref (ad 0)), (2, .int x2)] → f_X12_takesTax_c136 x2 g = some (r0, g') → W p l e (headSpec wsX12_takesTax (rm_X12_takesTax)).room s m args below meth c H locs 0 0 (MQ below (mm_Qi D TM ad cy r0 g') args s 0 0 (mm_A TM ad)) (F0 m 136 ls []) := by
    intro x2 g H locs ls hP hS hl hf
    unfold f_X12_takesTax_c136 at hf
    refine lv_iload_n hx hb dX12_takesTax_136 rfl (lv_at hl 1 rfl) ?_
    refine lv_if_le (tgt := 151) hx hb dX12_takesTax_137 (by decide) (fun c_16 => ?_) (fun c_16 => ?_)
    · replace hf := ite_t c_16 hf
      refine lv_iconst (v := (-1)) hx hb dX12_takesTax_151 (by decide) ?_
      exact mq_iret hx hb hr rfl hlocks hP hS (pr_1 hf) (pr_2 hf) dX12_takesTax_152
    · replace hf := ite_f c_16 hf
      refine lv_aload_n hx hb dX12_takesTax_140 rfl (lv_at hl 0 rfl) ?_
      obtain ⟨r_18, g_17, hr_19, hf⟩ := ob_some hf
      refine mq_calli (va_runV (As := []) (rest := []) ⟨hx, hb, hml, hown, hts⟩ (c_X12_next l D ad cy g hp r_18 g_17 hr_19) (cwV 0 hts gX12_takesTax_X12_next rfl rfl rfl (by decide +kernel) ⟨Nat.le_of_ble_eq_true rfl, Nat.le_of_ble_eq_true rfl⟩) (mq_preV (q := (RX12, TX12, 26)) mm_zOk0 hK hP hI hZ hS hp rfl) rfl rfl hl.1 rfl (lv_room (Nat.le_of_ble_eq_true rfl)) dX12_takesTax_141 ⟨Nat.le_refl _, Nat.le_refl _⟩) hS (fun H locs hP hS => ?_)
      refine lv_if_ge (tgt := 151) hx hb dX12_takesTax_144 (by decide) (fun c_20 => ?_) (fun c_20 => ?_)
      · replace hf := ite_t c_20 hf
        refine lv_iconst (v := (-1)) hx hb dX12_takesTax_151 (by decide) ?_
        exact mq_iret hx hb hr rfl hlocks hP hS (pr_1 hf) (pr_2 hf) dX12_takesTax_152
      · replace hf := ite_f c_20 hf
        refine lv_iload_n hx hb dX12_takesTax_147 rfl (lv_at hl 1 rfl) ?_
        refine lv_goto (tgt := 152) hx hb dX12_takesTax_148 (by decide) ?_
        exact mq_iret hx hb hr rfl hlocks hP hS (pr_1 hf) (pr_2 hf) dX12_takesTax_152
  have hc101 : ∀ (x2 : Int32) (g : Mm) (H : Heap) (locs : List Loc) (ls : Array Slot), va_P D vwCl (mm_L TM ad cy g) H → va_S (mm_A TM ad) s.heap H locs → lv_has ls 4 [(0, .ref (ad 0)), (2, .int x2)] → f_X12_takesTax_c101 x2 g = some (r0, g') → W p l e (headSpec wsX12_takesTax (rm_X12_takesTax)).room s m args below meth c H locs 0 0 (MQ below (mm_Qi D TM ad cy r0 g') args s 0 0 (mm_A TM ad)) (F0 m 101 ls []) := by
    intro x2 g H locs ls hP hS hl hf
    unfold f_X12_takesTax_c101 at hf
    refine lv_iload_n hx hb dX12_takesTax_101 rfl (lv_at hl 1 rfl) ?_
    refine lv_if_le (tgt := 136) hx hb dX12_takesTax_102 (by decide) (fun c_15 => ?_) (fun c_15 => ?_)
    · replace hf := ite_t c_15 hf
      exact hc136 x2 g H locs ls hP hS (lv_sub hl [0, 1] rfl) hf
    · replace hf := ite_f c_15 hf
      refine lv_aload_n hx hb dX12_takesTax_105 rfl (lv_at hl 0 rfl) ?_
      obtain ⟨r_22, g_21, hr_23, hf⟩ := ob_some hf
      refine mq_calli (va_runV (As := []) (rest := []) ⟨hx, hb, hml, hown, hts⟩ (c_X12_next l D ad cy g hp r_22 g_21 hr_23) (cwV 0 hts gX12_takesTax_X12_next rfl rfl rfl (by decide +kernel) ⟨Nat.le_of_ble_eq_true rfl, Nat.le_of_ble_eq_true rfl⟩) (mq_preV (q := (RX12, TX12, 26)) mm_zOk0 hK hP hI hZ hS hp rfl) rfl rfl hl.1 rfl (lv_room (Nat.le_of_ble_eq_true rfl)) dX12_takesTax_106 ⟨Nat.le_refl _, Nat.le_refl _⟩) hS (fun H locs hP hS => ?_)
      refine lv_bipush (v := 102) hx hb dX12_takesTax_109 (by decide) ?_
      refine lv_icmp_ne (tgt := 136) hx hb dX12_takesTax_111 (by decide) (fun c_24 => ?_) (fun c_24 => ?_)
      · replace hf := ite_f c_24 hf
        exact hc136 x2 g_21 H locs ls hP hS (lv_sub hl [0, 1] rfl) hf
      · replace hf := ite_t c_24 hf
        refine lv_aload_n hx hb dX12_takesTax_114 rfl (lv_at hl 0 rfl) ?_
        refine lv_dup hx hb dX12_takesTax_115 rfl ?_
        refine mq_geti (Tt := TX12) (N := 26) (C := RX12) hx hb hts hiX12 hown hK hP hp rfl 8 (by decide) rfl hw2 (fun _ h9 => h9) dX12_takesTax_116 ?_
        refine lv_iconst (v := 1) hx hb dX12_takesTax_119 (by decide) ?_
        refine lv_iadd hx hb dX12_takesTax_120 ?_
        obtain ⟨g_25, eg_25, hf⟩ := mw_some hf
        refine mq_puti (Tt := TX12) (N := 26) (C := RX12) (ty := .int) hx hb hts hiX12 tyX12 tyX12_ok nmX12 hown hK hI hP hS hp rfl 8 (by decide) rfl hw2 (fun _ h9 => h9) rfl (by decide +kernel) rfl rfl dX12_takesTax_121 eg_25 (fun H locs hP hS => ?_)
        refine lv_aload_n hx hb dX12_takesTax_124 rfl (lv_at hl 0 rfl) ?_
        refine lv_iconst (v := 4) hx hb dX12_takesTax_125 (by decide) ?_
        refine lv_bipush (v := 99) hx hb dX12_takesTax_126 (by decide) ?_
        obtain ⟨r_27, g_26, hr_28, hf⟩ := ob_some hf
        refine mq_calli (va_runV (As := [.int 4, .int 99]) (rest := []) ⟨hx, hb, hml, hown, hts⟩ (c_X12_takesNumber l D ad cy 4 99 g_25 hp r_27 g_26 hr_28) (cwV 2 hts gX12_takesTax_X12_takesNumber rfl rfl rfl (by decide +kernel) ⟨Nat.le_of_ble_eq_true rfl, Nat.le_of_ble_eq_true rfl⟩) (mq_preV (q := (RX12, TX12, 26)) mm_zOk0 hK hP hI hZ hS hp rfl) rfl rfl hl.1 rfl (lv_room (Nat.le_of_ble_eq_true rfl)) dX12_takesTax_128 ⟨Nat.le_refl _, Nat.le_refl _⟩) hS (fun H locs hP hS => ?_)
        refine lv_if_ne (tgt := 136) hx hb dX12_takesTax_131 (by decide) (fun c_29 => ?_) (fun c_29 => ?_)
        · replace hf := ite_f c_29 hf
          exact hc136 x2 g_26 H locs ls hP hS (lv_sub hl [0, 1] rfl) hf
        · replace hf := ite_t c_29 hf
          refine lv_iconst (v := (-1)) hx hb dX12_takesTax_134 (by decide) ?_
          exact mq_iret hx hb hr rfl hlocks hP hS (pr_1 hf) (pr_2 hf) dX12_takesTax_135
  have hc54 : ∀ (n : Nat), ∀ (x2 : Int32) (x3 : Int32) (g : Mm) (H : Heap) (locs : List Loc) (ls : Array Slot), va_P D vwCl (mm_L TM ad cy g) H → va_S (mm_A TM ad) s.heap H locs → lv_has ls 4 [(0, .ref (ad 0)), (2, .int x2), (3, .int x3)] → f_X12_takesTax_c54 n x2 x3 g = some (r0, g') → W p l e (headSpec wsX12_takesTax (rm_X12_takesTax)).room s m args below meth c H locs 0 0 (MQ below (mm_Qi D TM ad cy r0 g') args s 0 0 (mm_A TM ad)) (F0 m 54 ls []) := by
    intro n
    induction n with
    | zero =>
      intro x2 x3 g H locs ls hP hS hl hf
      rw [f_X12_takesTax_c54] at hf
      cases hf
    | succ n ih =>
      intro x2 x3 g H locs ls hP hS hl hf
      rw [f_X12_takesTax_c54] at hf
      refine lv_iload_n hx hb dX12_takesTax_54 rfl (lv_at hl 2 rfl) ?_
      refine lv_if_lt (tgt := 101) hx hb dX12_takesTax_55 (by decide) (fun c_14 => ?_) (fun c_14 => ?_)
      · replace hf := ite_t c_14 hf
        exact hc101 x2 g H locs ls hP hS (lv_sub hl [0, 1] rfl) hf
      · replace hf := ite_f c_14 hf
        refine lv_aload_n hx hb dX12_takesTax_58 rfl (lv_at hl 0 rfl) ?_
        refine mq_getr (Tt := TX12) (N := 26) (C := RX12) hx hb hts hiX12 hown hK hP hp rfl 9 7 (by decide) rfl hw0 (fun _ h9 => h9) dX12_takesTax_59 ?_
        refine lv_iload_n hx hb dX12_takesTax_62 rfl (lv_at hl 2 rfl) ?_
        obtain ⟨h_30, hf⟩ := og_some hf
        refine mq_iald hx hb hK hP (N := 18) (shTM_X12_7 hp) h_30 dX12_takesTax_63 ?_
        refine lv_if_ge (tgt := 101) hx hb dX12_takesTax_64 (by decide) (fun c_31 => ?_) (fun c_31 => ?_)
        · replace hf := ite_t c_31 hf
          exact hc101 x2 g H locs ls hP hS (lv_sub hl [0, 1] rfl) hf
        · replace hf := ite_f c_31 hf
          refine lv_aload_n hx hb dX12_takesTax_67 rfl (lv_at hl 0 rfl) ?_
          refine lv_dup hx hb dX12_takesTax_68 rfl ?_
          refine mq_geti (Tt := TX12) (N := 26) (C := RX12) hx hb hts hiX12 hown hK hP hp rfl 8 (by decide) rfl hw2 (fun _ h9 => h9) dX12_takesTax_69 ?_
          refine lv_iconst (v := 1) hx hb dX12_takesTax_72 (by decide) ?_
          refine lv_iadd hx hb dX12_takesTax_73 ?_
          obtain ⟨g_32, eg_32, hf⟩ := mw_some hf
          refine mq_puti (Tt := TX12) (N := 26) (C := RX12) (ty := .int) hx hb hts hiX12 tyX12 tyX12_ok nmX12 hown hK hI hP hS hp rfl 8 (by decide) rfl hw2 (fun _ h9 => h9) rfl (by decide +kernel) rfl rfl dX12_takesTax_74 eg_32 (fun H locs hP hS => ?_)
          refine lv_aload_n hx hb dX12_takesTax_77 rfl (lv_at hl 0 rfl) ?_
          refine lv_iload_n hx hb dX12_takesTax_78 rfl (lv_at hl 2 rfl) ?_
          obtain ⟨r_34, g_33, hr_35, hf⟩ := ob_some hf
          refine mq_calli (va_runV (As := [.int x3]) (rest := []) ⟨hx, hb, hml, hown, hts⟩ (c_X12_takesFigure l D ad cy x3 g_32 hp r_34 g_33 hr_35) (cwV 1 hts gX12_takesTax_X12_takesFigure rfl rfl rfl (by decide +kernel) ⟨Nat.le_of_ble_eq_true rfl, Nat.le_of_ble_eq_true rfl⟩) (mq_preV (q := (RX12, TX12, 26)) mm_zOk0 hK hP hI hZ hS hp rfl) rfl rfl hl.1 rfl (lv_room (Nat.le_of_ble_eq_true rfl)) dX12_takesTax_79 ⟨Nat.le_refl _, Nat.le_refl _⟩) hS (fun H locs hP hS => ?_)
          refine lv_if_ne (tgt := 87) hx hb dX12_takesTax_82 (by decide) (fun c_36 => ?_) (fun c_36 => ?_)
          · replace hf := ite_f c_36 hf
            obtain ⟨x2_37, ex2_37, hf⟩ := mv_some hf
            refine lv_iinc (v := x2_37) (lv' := [(2, .int x2_37), (0, .ref (ad 0)), (3, .int x3)]) hx hb dX12_takesTax_87 hl (k := 1) rfl (by rw [ex2_37]; rfl) (by decide) rfl (fun ls hl => ?_)
            refine lv_aload_n hx hb dX12_takesTax_90 rfl (lv_at hl 1 rfl) ?_
            obtain ⟨r_39, g_38, hr_40, hf⟩ := ob_some hf
            refine mq_calli (va_runV (As := []) (rest := []) ⟨hx, hb, hml, hown, hts⟩ (c_X12_next l D ad cy g_33 hp r_39 g_38 hr_40) (cwV 0 hts gX12_takesTax_X12_next rfl rfl rfl (by decide +kernel) ⟨Nat.le_of_ble_eq_true rfl, Nat.le_of_ble_eq_true rfl⟩) (mq_preV (q := (RX12, TX12, 26)) mm_zOk0 hK hP hI hZ hS hp rfl) rfl rfl hl.1 rfl (lv_room (Nat.le_of_ble_eq_true rfl)) dX12_takesTax_91 ⟨Nat.le_refl _, Nat.le_refl _⟩) hS (fun H locs hP hS => ?_)
            obtain ⟨r_41, hr_42, hf⟩ := op_some hf
            refine mq_calli (va_runS (As := [.int r_39]) (rest := []) ⟨hx, hb, hml, hown, hts⟩ (c_X12_sortOf l D ad cy r_39 g_38 r_41 hr_42) (va_cwS 1 hts gX12_takesTax_X12_sortOf rfl rfl rfl (by decide +kernel) ⟨Nat.le_of_ble_eq_true rfl, Nat.le_of_ble_eq_true rfl⟩) (mq_preS mm_zOk0 hK hP hI hZ hS) rfl rfl hl.1 rfl (lv_room (Nat.le_of_ble_eq_true rfl)) dX12_takesTax_94 ⟨Nat.le_refl _, Nat.le_refl _⟩) hS (fun H locs hP hS => ?_)
            refine lv_istore_n (lv' := [(3, .int r_41), (2, .int x2_37), (0, .ref (ad 0))]) hx hb dX12_takesTax_97 rfl hl (by decide) rfl (fun ls hl => ?_)
            refine lv_goto (tgt := 54) hx hb dX12_takesTax_98 (by decide) ?_
            exact ih x2_37 r_41 g_38 H locs ls hP hS (lv_sub hl [2, 1, 0] rfl) hf
          · replace hf := ite_t c_36 hf
            refine lv_iconst (v := (-1)) hx hb dX12_takesTax_85 (by decide) ?_
            exact mq_iret hx hb hr rfl hlocks hP hS (pr_1 hf) (pr_2 hf) dX12_takesTax_86
  have hc44 : ∀ (g : Mm) (H : Heap) (locs : List Loc) (ls : Array Slot), va_P D vwCl (mm_L TM ad cy g) H → va_S (mm_A TM ad) s.heap H locs → lv_has ls 4 [(0, .ref (ad 0))] → f_X12_takesTax_c44 g = some (r0, g') → W p l e (headSpec wsX12_takesTax (rm_X12_takesTax)).room s m args below meth c H locs 0 0 (MQ below (mm_Qi D TM ad cy r0 g') args s 0 0 (mm_A TM ad)) (F0 m 44 ls []) := by
    intro g H locs ls hP hS hl hf
    unfold f_X12_takesTax_c44 at hf
    refine lv_iconst (v := 0) hx hb dX12_takesTax_44 (by decide) ?_
    refine lv_istore_n (lv' := [(2, .int 0), (0, .ref (ad 0))]) hx hb dX12_takesTax_45 rfl hl (by decide) rfl (fun ls hl => ?_)
    refine lv_aload_n hx hb dX12_takesTax_46 rfl (lv_at hl 1 rfl) ?_
    obtain ⟨r_10, g_9, hr_11, hf⟩ := ob_some hf
    refine mq_calli (va_runV (As := []) (rest := []) ⟨hx, hb, hml, hown, hts⟩ (c_X12_next l D ad cy g hp r_10 g_9 hr_11) (cwV 0 hts gX12_takesTax_X12_next rfl rfl rfl (by decide +kernel) ⟨Nat.le_of_ble_eq_true rfl, Nat.le_of_ble_eq_true rfl⟩) (mq_preV (q := (RX12, TX12, 26)) mm_zOk0 hK hP hI hZ hS hp rfl) rfl rfl hl.1 rfl (lv_room (Nat.le_of_ble_eq_true rfl)) dX12_takesTax_47 ⟨Nat.le_refl _, Nat.le_refl _⟩) hS (fun H locs hP hS => ?_)
    obtain ⟨r_12, hr_13, hf⟩ := op_some hf
    refine mq_calli (va_runS (As := [.int r_10]) (rest := []) ⟨hx, hb, hml, hown, hts⟩ (c_X12_sortOf l D ad cy r_10 g_9 r_12 hr_13) (va_cwS 1 hts gX12_takesTax_X12_sortOf rfl rfl rfl (by decide +kernel) ⟨Nat.le_of_ble_eq_true rfl, Nat.le_of_ble_eq_true rfl⟩) (mq_preS mm_zOk0 hK hP hI hZ hS) rfl rfl hl.1 rfl (lv_room (Nat.le_of_ble_eq_true rfl)) dX12_takesTax_50 ⟨Nat.le_refl _, Nat.le_refl _⟩) hS (fun H locs hP hS => ?_)
    refine lv_istore_n (lv' := [(3, .int r_12), (2, .int 0), (0, .ref (ad 0))]) hx hb dX12_takesTax_53 rfl hl (by decide) rfl (fun ls hl => ?_)
    exact hc54 FU 0 r_12 g_9 H locs ls hP hS (lv_sub hl [2, 1, 0] rfl) hf
  have hc33 : ∀ (sq0 : Nat) (sx1 : Int32) (sx2 : Int32) (g : Mm) (H : Heap) (locs : List Loc) (ls : Array Slot), TM[sq0]? = some (.inr (18, 0, none) : Shp) → va_P D vwCl (mm_L TM ad cy g) H → va_S (mm_A TM ad) s.heap H locs → lv_has ls 4 [(0, .ref (ad 0))] → f_X12_takesTax_c33 sq0 sx1 sx2 g = some (r0, g') → W p l e (headSpec wsX12_takesTax (rm_X12_takesTax)).room s m args below meth c H locs 0 0 (MQ below (mm_Qi D TM ad cy r0 g') args s 0 0 (mm_A TM ad)) (F0 m 33 ls [.int sx2, .int sx1, .ref (ad sq0)]) := by
    intro sq0 sx1 sx2 g H locs ls hsq0 hP hS hl hf
    unfold f_X12_takesTax_c33 at hf
    obtain ⟨h_6, hf⟩ := og_some hf
    obtain ⟨g_7, eg_7, hf⟩ := mw_some hf
    refine mq_iast hx hb hK hI hP hS (N := 18) hsq0 h_6 dX12_takesTax_33 eg_7 (fun H locs hP hS => ?_)
    refine lv_aload_n hx hb dX12_takesTax_34 rfl (lv_at hl 0 rfl) ?_
    refine lv_dup hx hb dX12_takesTax_35 rfl ?_
    refine mq_geti (Tt := TX12) (N := 26) (C := RX12) hx hb hts hiX12 hown hK hP hp rfl 8 (by decide) rfl hw2 (fun _ h9 => h9) dX12_takesTax_36 ?_
    refine lv_iconst (v := 1) hx hb dX12_takesTax_39 (by decide) ?_
    refine lv_iadd hx hb dX12_takesTax_40 ?_
    obtain ⟨g_8, eg_8, hf⟩ := mw_some hf
    refine mq_puti (Tt := TX12) (N := 26) (C := RX12) (ty := .int) hx hb hts hiX12 tyX12 tyX12_ok nmX12 hown hK hI hP hS hp rfl 8 (by decide) rfl hw2 (fun _ h9 => h9) rfl (by decide +kernel) rfl rfl dX12_takesTax_41 eg_8 (fun H locs hP hS => ?_)
    exact hc44 g_8 H locs ls hP hS (lv_sub hl [0] rfl) hf
  have hc17 : ∀ (x1 : Int32) (g : Mm) (H : Heap) (locs : List Loc) (ls : Array Slot), va_P D vwCl (mm_L TM ad cy g) H → va_S (mm_A TM ad) s.heap H locs → lv_has ls 4 [(0, .ref (ad 0)), (1, .int x1)] → f_X12_takesTax_c17 x1 g = some (r0, g') → W p l e (headSpec wsX12_takesTax (rm_X12_takesTax)).room s m args below meth c H locs 0 0 (MQ below (mm_Qi D TM ad cy r0 g') args s 0 0 (mm_A TM ad)) (F0 m 17 ls []) := by
    intro x1 g H locs ls hP hS hl hf
    unfold f_X12_takesTax_c17 at hf
    refine lv_aload_n hx hb dX12_takesTax_17 rfl (lv_at hl 0 rfl) ?_
    refine mq_getr (Tt := TX12) (N := 26) (C := RX12) hx hb hts hiX12 hown hK hP hp rfl 9 7 (by decide) rfl hw0 (fun _ h9 => h9) dX12_takesTax_18 ?_
    refine lv_iconst (v := 5) hx hb dX12_takesTax_21 (by decide) ?_
    refine lv_iload_n hx hb dX12_takesTax_22 rfl (lv_at hl 1 rfl) ?_
    refine lv_bipush (v := 108) hx hb dX12_takesTax_23 (by decide) ?_
    refine lv_icmp_ne (tgt := 32) hx hb dX12_takesTax_25 (by decide) (fun c_5 => ?_) (fun c_5 => ?_)
    · replace hf := ite_f c_5 hf
      refine lv_iconst (v := 1) hx hb dX12_takesTax_32 (by decide) ?_
      exact hc33 7 5 1 g H locs ls (shTM_X12_7 hp) hP hS (lv_sub hl [0] rfl) hf
    · replace hf := ite_t c_5 hf
      refine lv_iconst (v := 0) hx hb dX12_takesTax_28 (by decide) ?_
      refine lv_goto (tgt := 33) hx hb dX12_takesTax_29 (by decide) ?_
      exact hc33 7 5 0 g H locs ls (shTM_X12_7 hp) hP hS (lv_sub hl [0] rfl) hf
  unfold f_X12_takesTax at hf
  have hH9 : ∀ (H : Heap) (locs : List Loc), H = s.heap → locs = [] → va_P D vwCl (mm_L TM ad cy g) H → va_S (mm_A TM ad) s.heap H locs → W p l e (headSpec wsX12_takesTax (rm_X12_takesTax)).room s m args below meth c H locs 0 0 (MQ below (mm_Qi D TM ad cy r0 g') args s 0 0 (mm_A TM ad)) (F0 m 0 ls []) := by
    intro H locs hH9 hL9 hP hS
    clear hH9 hL9
    refine lv_aload_n hx hb dX12_takesTax_0 rfl (lv_at hl 0 rfl) ?_
    obtain ⟨r_2, g_1, hr_3, hf⟩ := ob_some hf
    refine mq_calli (va_runV (As := []) (rest := []) ⟨hx, hb, hml, hown, hts⟩ (c_X12_next l D ad cy g hp r_2 g_1 hr_3) (cwV 0 hts gX12_takesTax_X12_next rfl rfl rfl (by decide +kernel) ⟨Nat.le_of_ble_eq_true rfl, Nat.le_of_ble_eq_true rfl⟩) (mq_preV (q := (RX12, TX12, 26)) mm_zOk0 hK hP hI hZ hS hp rfl) rfl rfl hl.1 rfl (lv_room (Nat.le_of_ble_eq_true rfl)) dX12_takesTax_1 ⟨Nat.le_refl _, Nat.le_refl _⟩) hS (fun H locs hP hS => ?_)
    refine lv_istore_n (lv' := [(1, .int r_2), (0, .ref (ad 0))]) hx hb dX12_takesTax_4 rfl hl (by decide) rfl (fun ls hl => ?_)
    refine lv_iload_n hx hb dX12_takesTax_5 rfl (lv_at hl 0 rfl) ?_
    refine lv_bipush (v := 108) hx hb dX12_takesTax_6 (by decide) ?_
    refine lv_icmp_eq (tgt := 17) hx hb dX12_takesTax_8 (by decide) (fun c_4 => ?_) (fun c_4 => ?_)
    · replace hf := ite_t c_4 hf
      exact hc17 r_2 g_1 H locs ls hP hS (lv_sub hl [1, 0] rfl) hf
    · replace hf := ite_f c_4 hf
      refine lv_iload_n hx hb dX12_takesTax_11 rfl (lv_at hl 0 rfl) ?_
      refine lv_bipush (v := 114) hx hb dX12_takesTax_12 (by decide) ?_
      refine lv_icmp_ne (tgt := 44) hx hb dX12_takesTax_14 (by decide) (fun c_43 => ?_) (fun c_43 => ?_)
      · replace hf := ite_f c_43 hf
        exact hc44 g_1 H locs ls hP hS (lv_sub hl [1] rfl) hf
      · replace hf := ite_t c_43 hf
        exact hc17 r_2 g_1 H locs ls hP hS (lv_sub hl [1, 0] rfl) hf
  exact hH9 s.heap [] rfl rfl hP hS
abbrev rm_X12_begin : Room := ({ frames := 0, cells := 0, slots := 0, locals := 0 } : Room)
set_option maxHeartbeats 4000000 in
set_option maxRecDepth 100000 in
theorem c_X12_begin (l : Launch) (D : va_G) (ad : Nat → Nat) (cy : Nat → ClassId)  (g : Mm) (hp : TM[0]? = some sX12) (g' : Mm) (hf : f_X12_begin g = some g') : Met l yX12_begin wsX12_begin rm_X12_begin (va_Pc [.ref (ad 0)] (mm_pre mm_Z0 D TM ad cy g)) (mm_Qv D TM ad cy g') 0 0 (mm_A TM ad) := by
  refine Met.ofW (cc := cX12_begin) (maxL := 2) (ret := none) (by decide) rfl ?_
  intro p e s m args below meth c s₁ B hml hv
  obtain ⟨hargs, hP, hK, hI, hZ⟩ := hv
  have hx := B.exec
  have hb := B.bytes
  have hr := B.returns
  have hts := atoms_spec (ws := wsX12_begin) B.pre
  have hown : s.vm.findClass RX12 = some m.cls := findClass_of_methodNamed B.named
  have hlocks := B.notSynchronized
  have hw0 := hts (.fieldLink RX12 107 "LeftShoesModel" "at" "I") (by decide +kernel)
  have hiX12 : ∀ w ∈ wsX120, w ∈ wsX12_begin := by decide +kernel
  have hw2 := hts (.fieldLink RX12 28 "LeftShoesModel" "read" "[I") (by decide +kernel)
  rw [show entryFrame m args 2 = F0 m 0 ((lg_sl ([.ref (ad 0)] : List Value) ++ List.replicate (2 - (lg_sl ([.ref (ad 0)] : List Value)).length) Slot.unset).toArray) [] from by rw [hargs]; exact lg_entry_eq m _ _]
  have hl := lv_entry ([.ref (ad 0)] : List Value) (n := 2) (by exact Nat.le_of_ble_eq_true rfl)
  generalize (lg_sl ([.ref (ad 0)] : List Value) ++ List.replicate (2 - (lg_sl ([.ref (ad 0)] : List Value)).length) Slot.unset).toArray = ls at hl ⊢
  have hl : lv_has ls 2 [(0, .ref (ad 0))] := by exact hl
  have hS : va_S (mm_A TM ad) s.heap s.heap [] := va_S.rf
  clear hargs
  have hc7 : ∀ (n : Nat), ∀ (x1 : Int32) (g : Mm) (H : Heap) (locs : List Loc) (ls : Array Slot), va_P D vwCl (mm_L TM ad cy g) H → va_S (mm_A TM ad) s.heap H locs → lv_has ls 2 [(0, .ref (ad 0)), (1, .int x1)] → f_X12_begin_c7 n x1 g = some g' → W p l e (headSpec wsX12_begin (rm_X12_begin)).room s m args below meth c H locs 0 0 (MQ below (mm_Qv D TM ad cy g') args s 0 0 (mm_A TM ad)) (F0 m 7 ls []) := by
    intro n
    induction n with
    | zero =>
      intro x1 g H locs ls hP hS hl hf
      rw [f_X12_begin_c7] at hf
      cases hf
    | succ n ih =>
      intro x1 g H locs ls hP hS hl hf
      rw [f_X12_begin_c7] at hf
      refine lv_iload_n hx hb dX12_begin_7 rfl (lv_at hl 1 rfl) ?_
      refine lv_bipush (v := 18) hx hb dX12_begin_8 (by decide) ?_
      refine lv_icmp_ge (tgt := 26) hx hb dX12_begin_10 (by decide) (fun c_2 => ?_) (fun c_2 => ?_)
      · replace hf := ite_t c_2 hf
        exact mq_vret hx hb hr hlocks hP hS (Option.some.inj hf) dX12_begin_26
      · replace hf := ite_f c_2 hf
        refine lv_aload_n hx hb dX12_begin_13 rfl (lv_at hl 0 rfl) ?_
        refine mq_getr (Tt := TX12) (N := 26) (C := RX12) hx hb hts hiX12 hown hK hP hp rfl 9 7 (by decide) rfl hw2 (fun _ h9 => h9) dX12_begin_14 ?_
        refine lv_iload_n hx hb dX12_begin_17 rfl (lv_at hl 1 rfl) ?_
        refine lv_iconst (v := (-1)) hx hb dX12_begin_18 (by decide) ?_
        obtain ⟨h_3, hf⟩ := og_some hf
        obtain ⟨g_4, eg_4, hf⟩ := mw_some hf
        refine mq_iast hx hb hK hI hP hS (N := 18) (shTM_X12_7 hp) h_3 dX12_begin_19 eg_4 (fun H locs hP hS => ?_)
        obtain ⟨x1_5, ex1_5, hf⟩ := mv_some hf
        refine lv_iinc (v := x1_5) (lv' := [(1, .int x1_5), (0, .ref (ad 0))]) hx hb dX12_begin_20 hl (k := 1) rfl (by rw [ex1_5]; rfl) (by decide) rfl (fun ls hl => ?_)
        refine lv_goto (tgt := 7) hx hb dX12_begin_23 (by decide) ?_
        exact ih x1_5 g_4 H locs ls hP hS (lv_sub hl [1, 0] rfl) hf
  unfold f_X12_begin at hf
  have hH9 : ∀ (H : Heap) (locs : List Loc), H = s.heap → locs = [] → va_P D vwCl (mm_L TM ad cy g) H → va_S (mm_A TM ad) s.heap H locs → W p l e (headSpec wsX12_begin (rm_X12_begin)).room s m args below meth c H locs 0 0 (MQ below (mm_Qv D TM ad cy g') args s 0 0 (mm_A TM ad)) (F0 m 0 ls []) := by
    intro H locs hH9 hL9 hP hS
    clear hH9 hL9
    refine lv_aload_n hx hb dX12_begin_0 rfl (lv_at hl 0 rfl) ?_
    refine lv_iconst (v := 0) hx hb dX12_begin_1 (by decide) ?_
    obtain ⟨g_1, eg_1, hf⟩ := mw_some hf
    refine mq_puti (Tt := TX12) (N := 26) (C := RX12) (ty := .int) hx hb hts hiX12 tyX12 tyX12_ok nmX12 hown hK hI hP hS hp rfl 8 (by decide) rfl hw0 (fun _ h9 => h9) rfl (by decide +kernel) rfl rfl dX12_begin_2 eg_1 (fun H locs hP hS => ?_)
    refine lv_iconst (v := 0) hx hb dX12_begin_5 (by decide) ?_
    refine lv_istore_n (lv' := [(1, .int 0), (0, .ref (ad 0))]) hx hb dX12_begin_6 rfl hl (by decide) rfl (fun ls hl => ?_)
    exact hc7 FU 0 g_1 H locs ls hP hS (lv_sub hl [1, 0] rfl) hf
  exact hH9 s.heap [] rfl rfl hP hS
abbrev rm_X12_taxes : Room := ({ frames := 4, cells := 0, slots := 0, locals := 92 } : Room)
set_option maxHeartbeats 4000000 in
set_option maxRecDepth 100000 in
theorem c_X12_taxes (l : Launch) (D : va_G) (ad : Nat → Nat) (cy : Nat → ClassId)  (g : Mm) (hp : TM[0]? = some sX12) (r0 : Int32) (g' : Mm) (hf : f_X12_taxes g = some (r0, g')) : Met l yX12_taxes wsX12_taxes rm_X12_taxes (va_Pc [.ref (ad 0)] (mm_pre mm_Z0 D TM ad cy g)) (mm_Qi D TM ad cy r0 g') 0 0 (mm_A TM ad) := by
  refine Met.ofW (cc := cX12_taxes) (maxL := 3) (ret := (some .int)) (by decide) rfl ?_
  intro p e s m args below meth c s₁ B hml hv
  obtain ⟨hargs, hP, hK, hI, hZ⟩ := hv
  have hx := B.exec
  have hb := B.bytes
  have hr := B.returns
  have hts := atoms_spec (ws := wsX12_taxes) B.pre
  have hown : s.vm.findClass RX12 = some m.cls := findClass_of_methodNamed B.named
  have hlocks := B.notSynchronized
  have hw0 := hts (.fieldLink RX12 103 "LeftShoesModel" "taped" "I") (by decide +kernel)
  have hiX12 : ∀ w ∈ wsX120, w ∈ wsX12_taxes := by decide +kernel
  have hw2 := hts (.fieldLink RX12 7 "LeftShoesModel" "now" "[I") (by decide +kernel)
  have hw3 := hts (.fieldLink RX12 28 "LeftShoesModel" "read" "[I") (by decide +kernel)
  have hw4 := hts (.fieldLink RX12 107 "LeftShoesModel" "at" "I") (by decide +kernel)
  rw [show entryFrame m args 3 = F0 m 0 ((lg_sl ([.ref (ad 0)] : List Value) ++ List.replicate (3 - (lg_sl ([.ref (ad 0)] : List Value)).length) Slot.unset).toArray) [] from by rw [hargs]; exact lg_entry_eq m _ _]
  have hl := lv_entry ([.ref (ad 0)] : List Value) (n := 3) (by exact Nat.le_of_ble_eq_true rfl)
  generalize (lg_sl ([.ref (ad 0)] : List Value) ++ List.replicate (3 - (lg_sl ([.ref (ad 0)] : List Value)).length) Slot.unset).toArray = ls at hl ⊢
  have hl : lv_has ls 3 [(0, .ref (ad 0))] := by exact hl
  have hS : va_S (mm_A TM ad) s.heap s.heap [] := va_S.rf
  clear hargs
  have hc144 : ∀ (x1 : Int32) (sq0 : Nat) (sx1 : Int32) (sx2 : Int32) (g : Mm) (H : Heap) (locs : List Loc) (ls : Array Slot), TM[sq0]? = some (.inr (193, 0, none) : Shp) → va_P D vwCl (mm_L TM ad cy g) H → va_S (mm_A TM ad) s.heap H locs → lv_has ls 3 [(0, .ref (ad 0)), (1, .int x1)] → f_X12_taxes_c144 x1 sq0 sx1 sx2 g = some (r0, g') → W p l e (headSpec wsX12_taxes (rm_X12_taxes)).room s m args below meth c H locs 0 0 (MQ below (mm_Qi D TM ad cy r0 g') args s 0 0 (mm_A TM ad)) (F0 m 144 ls [.int sx2, .int sx1, .ref (ad sq0)]) := by
    intro x1 sq0 sx1 sx2 g H locs ls hsq0 hP hS hl hf
    unfold f_X12_taxes_c144 at hf
    obtain ⟨h_13, hf⟩ := og_some hf
    obtain ⟨g_14, eg_14, hf⟩ := mw_some hf
    refine mq_iast hx hb hK hI hP hS (N := 193) hsq0 h_13 dX12_taxes_144 eg_14 (fun H locs hP hS => ?_)
    refine lv_iload_n hx hb dX12_taxes_145 rfl (lv_at hl 1 rfl) ?_
    exact mq_iret hx hb hr rfl hlocks hP hS (pr_1 hf) (pr_2 hf) dX12_taxes_146
  have hc114 : ∀ (x1 : Int32) (sq0 : Nat) (sx1 : Int32) (sx2 : Int32) (g : Mm) (H : Heap) (locs : List Loc) (ls : Array Slot), TM[sq0]? = some (.inr (193, 0, none) : Shp) → va_P D vwCl (mm_L TM ad cy g) H → va_S (mm_A TM ad) s.heap H locs → lv_has ls 3 [(0, .ref (ad 0)), (1, .int x1)] → f_X12_taxes_c114 x1 sq0 sx1 sx2 g = some (r0, g') → W p l e (headSpec wsX12_taxes (rm_X12_taxes)).room s m args below meth c H locs 0 0 (MQ below (mm_Qi D TM ad cy r0 g') args s 0 0 (mm_A TM ad)) (F0 m 114 ls [.int sx2, .int sx1, .ref (ad sq0)]) := by
    intro x1 sq0 sx1 sx2 g H locs ls hsq0 hP hS hl hf
    unfold f_X12_taxes_c114 at hf
    obtain ⟨h_10, hf⟩ := og_some hf
    obtain ⟨g_11, eg_11, hf⟩ := mw_some hf
    refine mq_iast hx hb hK hI hP hS (N := 193) hsq0 h_10 dX12_taxes_114 eg_11 (fun H locs hP hS => ?_)
    refine lv_aload_n hx hb dX12_taxes_115 rfl (lv_at hl 0 rfl) ?_
    refine mq_getr (Tt := TX12) (N := 26) (C := RX12) hx hb hts hiX12 hown hK hP hp rfl 0 1 (by decide) rfl hw2 (fun _ h9 => h9) dX12_taxes_116 ?_
    refine lv_iconst (v := 3) hx hb dX12_taxes_119 (by decide) ?_
    refine lv_aload_n hx hb dX12_taxes_120 rfl (lv_at hl 0 rfl) ?_
    refine mq_getr (Tt := TX12) (N := 26) (C := RX12) hx hb hts hiX12 hown hK hP hp rfl 9 7 (by decide) rfl hw3 (fun _ h9 => h9) dX12_taxes_121 ?_
    refine lv_iconst (v := 5) hx hb dX12_taxes_124 (by decide) ?_
    refine mq_iald hx hb hK hP (N := 18) (shTM_X12_7 hp) (by decide : mm_in 5 18 = true) dX12_taxes_125 ?_
    refine lv_if_ge (tgt := 138) hx hb dX12_taxes_126 (by decide) (fun c_12 => ?_) (fun c_12 => ?_)
    · replace hf := ite_t c_12 hf
      refine lv_aload_n hx hb dX12_taxes_138 rfl (lv_at hl 0 rfl) ?_
      refine mq_getr (Tt := TX12) (N := 26) (C := RX12) hx hb hts hiX12 hown hK hP hp rfl 9 7 (by decide) rfl hw3 (fun _ h9 => h9) dX12_taxes_139 ?_
      refine lv_iconst (v := 5) hx hb dX12_taxes_142 (by decide) ?_
      refine mq_iald hx hb hK hP (N := 18) (shTM_X12_7 hp) (by decide : mm_in 5 18 = true) dX12_taxes_143 ?_
      exact hc144 x1 1 3 (g_11 7 (5 : Int32).toNatClampNeg) g_11 H locs ls (shTM_X12_1 hp) hP hS (lv_sub hl [0, 1] rfl) hf
    · replace hf := ite_f c_12 hf
      refine lv_aload_n hx hb dX12_taxes_129 rfl (lv_at hl 0 rfl) ?_
      refine mq_getr (Tt := TX12) (N := 26) (C := RX12) hx hb hts hiX12 hown hK hP hp rfl 0 1 (by decide) rfl hw2 (fun _ h9 => h9) dX12_taxes_130 ?_
      refine lv_iconst (v := 3) hx hb dX12_taxes_133 (by decide) ?_
      refine mq_iald hx hb hK hP (N := 193) (shTM_X12_1 hp) (by decide : mm_in 3 193 = true) dX12_taxes_134 ?_
      refine lv_goto (tgt := 144) hx hb dX12_taxes_135 (by decide) ?_
      exact hc144 x1 1 3 (g_11 1 (3 : Int32).toNatClampNeg) g_11 H locs ls (shTM_X12_1 hp) hP hS (lv_sub hl [0, 1] rfl) hf
  have hc78 : ∀ (K_38 : Int32 → Int32 → Mm → Option (Int32 × Mm)), (∀ (x1 : Int32) (x2 : Int32) (g : Mm) (H : Heap) (locs : List Loc) (ls : Array Slot), va_P D vwCl (mm_L TM ad cy g) H → va_S (mm_A TM ad) s.heap H locs → lv_has ls 3 [(0, .ref (ad 0)), (1, .int x1), (2, .int x2)] → K_38 x1 x2 g = some (r0, g') → W p l e (headSpec wsX12_taxes (rm_X12_taxes)).room s m args below meth c H locs 0 0 (MQ below (mm_Qi D TM ad cy r0 g') args s 0 0 (mm_A TM ad)) (F0 m 38 ls [])) → ∀ (x1 : Int32) (x2 : Int32) (sq0 : Nat) (sx1 : Int32) (sx2 : Int32) (g : Mm) (H : Heap) (locs : List Loc) (ls : Array Slot), TM[sq0]? = some (.inr (193, 0, none) : Shp) → va_P D vwCl (mm_L TM ad cy g) H → va_S (mm_A TM ad) s.heap H locs → lv_has ls 3 [(0, .ref (ad 0)), (1, .int x1), (2, .int x2)] → f_X12_taxes_c78 K_38 x1 x2 sq0 sx1 sx2 g = some (r0, g') → W p l e (headSpec wsX12_taxes (rm_X12_taxes)).room s m args below meth c H locs 0 0 (MQ below (mm_Qi D TM ad cy r0 g') args s 0 0 (mm_A TM ad)) (F0 m 78 ls [.int sx2, .int sx1, .ref (ad sq0)]) := by
    intro K_38 hK_38 x1 x2 sq0 sx1 sx2 g H locs ls hsq0 hP hS hl hf
    unfold f_X12_taxes_c78 at hf
    obtain ⟨h_18, hf⟩ := og_some hf
    obtain ⟨g_19, eg_19, hf⟩ := mw_some hf
    refine mq_iast hx hb hK hI hP hS (N := 193) hsq0 h_18 dX12_taxes_78 eg_19 (fun H locs hP hS => ?_)
    obtain ⟨x2_20, ex2_20, hf⟩ := mv_some hf
    refine lv_iinc (v := x2_20) (lv' := [(2, .int x2_20), (0, .ref (ad 0)), (1, .int x1)]) hx hb dX12_taxes_79 hl (k := 2) rfl (by rw [ex2_20]; rfl) (by decide) rfl (fun ls hl => ?_)
    refine lv_goto (tgt := 38) hx hb dX12_taxes_82 (by decide) ?_
    exact hK_38 x1 x2_20 g_19 H locs ls hP hS (lv_sub hl [1, 2, 0] rfl) hf
  have hc38 : ∀ (n : Nat), ∀ (x1 : Int32) (x2 : Int32) (g : Mm) (H : Heap) (locs : List Loc) (ls : Array Slot), va_P D vwCl (mm_L TM ad cy g) H → va_S (mm_A TM ad) s.heap H locs → lv_has ls 3 [(0, .ref (ad 0)), (1, .int x1), (2, .int x2)] → f_X12_taxes_c38 n x1 x2 g = some (r0, g') → W p l e (headSpec wsX12_taxes (rm_X12_taxes)).room s m args below meth c H locs 0 0 (MQ below (mm_Qi D TM ad cy r0 g') args s 0 0 (mm_A TM ad)) (F0 m 38 ls []) := by
    intro n
    induction n with
    | zero =>
      intro x1 x2 g H locs ls hP hS hl hf
      rw [f_X12_taxes_c38] at hf
      cases hf
    | succ n ih =>
      intro x1 x2 g H locs ls hP hS hl hf
      rw [f_X12_taxes_c38] at hf
      refine lv_iload_n hx hb dX12_taxes_38 rfl (lv_at hl 2 rfl) ?_
      refine lv_iconst (v := 4) hx hb dX12_taxes_39 (by decide) ?_
      refine lv_icmp_ge (tgt := 85) hx hb dX12_taxes_40 (by decide) (fun c_8 => ?_) (fun c_8 => ?_)
      · replace hf := ite_t c_8 hf
        refine lv_aload_n hx hb dX12_taxes_85 rfl (lv_at hl 0 rfl) ?_
        refine mq_getr (Tt := TX12) (N := 26) (C := RX12) hx hb hts hiX12 hown hK hP hp rfl 0 1 (by decide) rfl hw2 (fun _ h9 => h9) dX12_taxes_86 ?_
        refine lv_iconst (v := 2) hx hb dX12_taxes_89 (by decide) ?_
        refine lv_aload_n hx hb dX12_taxes_90 rfl (lv_at hl 0 rfl) ?_
        refine mq_getr (Tt := TX12) (N := 26) (C := RX12) hx hb hts hiX12 hown hK hP hp rfl 9 7 (by decide) rfl hw3 (fun _ h9 => h9) dX12_taxes_91 ?_
        refine lv_iconst (v := 4) hx hb dX12_taxes_94 (by decide) ?_
        refine mq_iald hx hb hK hP (N := 18) (shTM_X12_7 hp) (by decide : mm_in 4 18 = true) dX12_taxes_95 ?_
        refine lv_if_ge (tgt := 108) hx hb dX12_taxes_96 (by decide) (fun c_9 => ?_) (fun c_9 => ?_)
        · replace hf := ite_t c_9 hf
          refine lv_aload_n hx hb dX12_taxes_108 rfl (lv_at hl 0 rfl) ?_
          refine mq_getr (Tt := TX12) (N := 26) (C := RX12) hx hb hts hiX12 hown hK hP hp rfl 9 7 (by decide) rfl hw3 (fun _ h9 => h9) dX12_taxes_109 ?_
          refine lv_iconst (v := 4) hx hb dX12_taxes_112 (by decide) ?_
          refine mq_iald hx hb hK hP (N := 18) (shTM_X12_7 hp) (by decide : mm_in 4 18 = true) dX12_taxes_113 ?_
          exact hc114 x1 1 2 (g 7 (4 : Int32).toNatClampNeg) g H locs ls (shTM_X12_1 hp) hP hS (lv_sub hl [0, 1] rfl) hf
        · replace hf := ite_f c_9 hf
          refine lv_aload_n hx hb dX12_taxes_99 rfl (lv_at hl 0 rfl) ?_
          refine mq_getr (Tt := TX12) (N := 26) (C := RX12) hx hb hts hiX12 hown hK hP hp rfl 0 1 (by decide) rfl hw2 (fun _ h9 => h9) dX12_taxes_100 ?_
          refine lv_iconst (v := 2) hx hb dX12_taxes_103 (by decide) ?_
          refine mq_iald hx hb hK hP (N := 193) (shTM_X12_1 hp) (by decide : mm_in 2 193 = true) dX12_taxes_104 ?_
          refine lv_goto (tgt := 114) hx hb dX12_taxes_105 (by decide) ?_
          exact hc114 x1 1 2 (g 1 (2 : Int32).toNatClampNeg) g H locs ls (shTM_X12_1 hp) hP hS (lv_sub hl [0, 1] rfl) hf
      · replace hf := ite_f c_8 hf
        refine lv_aload_n hx hb dX12_taxes_43 rfl (lv_at hl 0 rfl) ?_
        refine mq_getr (Tt := TX12) (N := 26) (C := RX12) hx hb hts hiX12 hown hK hP hp rfl 0 1 (by decide) rfl hw2 (fun _ h9 => h9) dX12_taxes_44 ?_
        refine lv_bipush (v := 95) hx hb dX12_taxes_47 (by decide) ?_
        refine lv_iload_n hx hb dX12_taxes_49 rfl (lv_at hl 2 rfl) ?_
        refine lv_iadd hx hb dX12_taxes_50 ?_
        refine lv_aload_n hx hb dX12_taxes_51 rfl (lv_at hl 0 rfl) ?_
        refine mq_getr (Tt := TX12) (N := 26) (C := RX12) hx hb hts hiX12 hown hK hP hp rfl 9 7 (by decide) rfl hw3 (fun _ h9 => h9) dX12_taxes_52 ?_
        refine lv_iload_n hx hb dX12_taxes_55 rfl (lv_at hl 2 rfl) ?_
        obtain ⟨h_15, hf⟩ := og_some hf
        refine mq_iald hx hb hK hP (N := 18) (shTM_X12_7 hp) h_15 dX12_taxes_56 ?_
        refine lv_if_ge (tgt := 72) hx hb dX12_taxes_57 (by decide) (fun c_16 => ?_) (fun c_16 => ?_)
        · replace hf := ite_t c_16 hf
          refine lv_aload_n hx hb dX12_taxes_72 rfl (lv_at hl 0 rfl) ?_
          refine mq_getr (Tt := TX12) (N := 26) (C := RX12) hx hb hts hiX12 hown hK hP hp rfl 9 7 (by decide) rfl hw3 (fun _ h9 => h9) dX12_taxes_73 ?_
          refine lv_iload_n hx hb dX12_taxes_76 rfl (lv_at hl 2 rfl) ?_
          obtain ⟨h_17, hf⟩ := og_some hf
          refine mq_iald hx hb hK hP (N := 18) (shTM_X12_7 hp) h_17 dX12_taxes_77 ?_
          exact hc78 (f_X12_taxes_c38 n) ih x1 x2 1 (95 + x2) (g 7 x2.toNatClampNeg) g H locs ls (shTM_X12_1 hp) hP hS (lv_sub hl [0, 1, 2] rfl) hf
        · replace hf := ite_f c_16 hf
          refine lv_aload_n hx hb dX12_taxes_60 rfl (lv_at hl 0 rfl) ?_
          refine mq_getr (Tt := TX12) (N := 26) (C := RX12) hx hb hts hiX12 hown hK hP hp rfl 0 1 (by decide) rfl hw2 (fun _ h9 => h9) dX12_taxes_61 ?_
          refine lv_bipush (v := 95) hx hb dX12_taxes_64 (by decide) ?_
          refine lv_iload_n hx hb dX12_taxes_66 rfl (lv_at hl 2 rfl) ?_
          refine lv_iadd hx hb dX12_taxes_67 ?_
          obtain ⟨h_21, hf⟩ := og_some hf
          refine mq_iald hx hb hK hP (N := 193) (shTM_X12_1 hp) h_21 dX12_taxes_68 ?_
          refine lv_goto (tgt := 78) hx hb dX12_taxes_69 (by decide) ?_
          exact hc78 (f_X12_taxes_c38 n) ih x1 x2 1 (95 + x2) (g 1 (95 + x2).toNatClampNeg) g H locs ls (shTM_X12_1 hp) hP hS (lv_sub hl [0, 1, 2] rfl) hf
  unfold f_X12_taxes at hf
  have hH9 : ∀ (H : Heap) (locs : List Loc), H = s.heap → locs = [] → va_P D vwCl (mm_L TM ad cy g) H → va_S (mm_A TM ad) s.heap H locs → W p l e (headSpec wsX12_taxes (rm_X12_taxes)).room s m args below meth c H locs 0 0 (MQ below (mm_Qi D TM ad cy r0 g') args s 0 0 (mm_A TM ad)) (F0 m 0 ls []) := by
    intro H locs hH9 hL9 hP hS
    clear hH9 hL9
    refine lv_aload_n hx hb dX12_taxes_0 rfl (lv_at hl 0 rfl) ?_
    obtain ⟨g_1, hr_2, hf⟩ := op_some hf
    refine mq_callv (va_runV (As := []) (rest := []) ⟨hx, hb, hml, hown, hts⟩ (c_X12_begin l D ad cy g hp g_1 hr_2) (cwV 0 hts gX12_taxes_X12_begin rfl rfl rfl (by decide +kernel) ⟨Nat.le_of_ble_eq_true rfl, Nat.le_of_ble_eq_true rfl⟩) (mq_preV (q := (RX12, TX12, 26)) mm_zOk0 hK hP hI hZ hS hp rfl) rfl rfl hl.1 rfl (lv_room (Nat.le_of_ble_eq_true rfl)) dX12_taxes_1 ⟨Nat.le_refl _, Nat.le_refl _⟩) hS (fun H locs hP hS => ?_)
    refine lv_aload_n hx hb dX12_taxes_4 rfl (lv_at hl 0 rfl) ?_
    obtain ⟨r_4, g_3, hr_5, hf⟩ := ob_some hf
    refine mq_calli (va_runV (As := []) (rest := []) ⟨hx, hb, hml, hown, hts⟩ (c_X12_takesTax l D ad cy g_1 hp r_4 g_3 hr_5) (cwV 0 hts gX12_taxes_X12_takesTax rfl rfl rfl (by decide +kernel) ⟨Nat.le_of_ble_eq_true rfl, Nat.le_of_ble_eq_true rfl⟩) (mq_preV (q := (RX12, TX12, 26)) mm_zOk0 hK hP hI hZ hS hp rfl) rfl rfl hl.1 rfl (lv_room (Nat.le_of_ble_eq_true rfl)) dX12_taxes_5 ⟨Nat.le_refl _, Nat.le_refl _⟩) hS (fun H locs hP hS => ?_)
    refine lv_istore_n (lv' := [(1, .int r_4), (0, .ref (ad 0))]) hx hb dX12_taxes_8 rfl hl (by decide) rfl (fun ls hl => ?_)
    refine lv_iload_n hx hb dX12_taxes_9 rfl (lv_at hl 0 rfl) ?_
    refine lv_if_ge (tgt := 31) hx hb dX12_taxes_10 (by decide) (fun c_6 => ?_) (fun c_6 => ?_)
    · replace hf := ite_t c_6 hf
      refine lv_aload_n hx hb dX12_taxes_31 rfl (lv_at hl 1 rfl) ?_
      refine lv_iconst (v := 0) hx hb dX12_taxes_32 (by decide) ?_
      obtain ⟨g_7, eg_7, hf⟩ := mw_some hf
      refine mq_puti (Tt := TX12) (N := 26) (C := RX12) (ty := .int) hx hb hts hiX12 tyX12 tyX12_ok nmX12 hown hK hI hP hS hp rfl 4 (by decide) rfl hw0 (fun _ h9 => h9) rfl (by decide +kernel) rfl rfl dX12_taxes_33 eg_7 (fun H locs hP hS => ?_)
      refine lv_iconst (v := 0) hx hb dX12_taxes_36 (by decide) ?_
      refine lv_istore_n (lv' := [(2, .int 0), (1, .int r_4), (0, .ref (ad 0))]) hx hb dX12_taxes_37 rfl hl (by decide) rfl (fun ls hl => ?_)
      exact hc38 FU r_4 0 g_7 H locs ls hP hS (lv_sub hl [2, 1, 0] rfl) hf
    · replace hf := ite_f c_6 hf
      refine lv_aload_n hx hb dX12_taxes_13 rfl (lv_at hl 1 rfl) ?_
      obtain ⟨r_23, g_22, hr_24, hf⟩ := ob_some hf
      refine mq_calli (va_runV (As := []) (rest := []) ⟨hx, hb, hml, hown, hts⟩ (c_X12_next l D ad cy g_3 hp r_23 g_22 hr_24) (cwV 0 hts gX12_taxes_X12_next rfl rfl rfl (by decide +kernel) ⟨Nat.le_of_ble_eq_true rfl, Nat.le_of_ble_eq_true rfl⟩) (mq_preV (q := (RX12, TX12, 26)) mm_zOk0 hK hP hI hZ hS hp rfl) rfl rfl hl.1 rfl (lv_room (Nat.le_of_ble_eq_true rfl)) dX12_taxes_14 ⟨Nat.le_refl _, Nat.le_refl _⟩) hS (fun H locs hP hS => ?_)
      refine lv_pop hx hb dX12_taxes_17 rfl ?_
      refine lv_aload_n hx hb dX12_taxes_18 rfl (lv_at hl 1 rfl) ?_
      refine lv_iconst (v := 0) hx hb dX12_taxes_19 (by decide) ?_
      obtain ⟨g_25, eg_25, hf⟩ := mw_some hf
      refine mq_puti (Tt := TX12) (N := 26) (C := RX12) (ty := .int) hx hb hts hiX12 tyX12 tyX12_ok nmX12 hown hK hI hP hS hp rfl 4 (by decide) rfl hw0 (fun _ h9 => h9) rfl (by decide +kernel) rfl rfl dX12_taxes_20 eg_25 (fun H locs hP hS => ?_)
      refine lv_bipush (v := (-20)) hx hb dX12_taxes_23 (by decide) ?_
      refine lv_aload_n hx hb dX12_taxes_25 rfl (lv_at hl 1 rfl) ?_
      refine mq_geti (Tt := TX12) (N := 26) (C := RX12) hx hb hts hiX12 hown hK hP hp rfl 8 (by decide) rfl hw4 (fun _ h9 => h9) dX12_taxes_26 ?_
      refine lv_isub hx hb dX12_taxes_29 ?_
      exact mq_iret hx hb hr rfl hlocks hP hS (pr_1 hf) (pr_2 hf) dX12_taxes_30
  exact hH9 s.heap [] rfl rfl hP hS
abbrev rm_X12_takesRoad : Room := ({ frames := 3, cells := 0, slots := 0, locals := 69 } : Room)
set_option maxHeartbeats 4000000 in
set_option maxRecDepth 100000 in
theorem c_X12_takesRoad (l : Launch) (D : va_G) (ad : Nat → Nat) (cy : Nat → ClassId)  (g : Mm) (hp : TM[0]? = some sX12) (r0 : Int32) (g' : Mm) (hf : f_X12_takesRoad g = some (r0, g')) : Met l yX12_takesRoad wsX12_takesRoad rm_X12_takesRoad (va_Pc [.ref (ad 0)] (mm_pre mm_Z0 D TM ad cy g)) (mm_Qi D TM ad cy r0 g') 0 0 (mm_A TM ad) := by
  refine Met.ofW (cc := cX12_takesRoad) (maxL := 2) (ret := (some .boolean)) (by decide) rfl ?_
  intro p e s m args below meth c s₁ B hml hv
  obtain ⟨hargs, hP, hK, hI, hZ⟩ := hv
  have hx := B.exec
  have hb := B.bytes
  have hr := B.returns
  have hts := atoms_spec (ws := wsX12_takesRoad) B.pre
  have hown : s.vm.findClass RX12 = some m.cls := findClass_of_methodNamed B.named
  have hlocks := B.notSynchronized
  have hw0 := hts (.fieldLink RX12 107 "LeftShoesModel" "at" "I") (by decide +kernel)
  have hiX12 : ∀ w ∈ wsX120, w ∈ wsX12_takesRoad := by decide +kernel
  rw [show entryFrame m args 2 = F0 m 0 ((lg_sl ([.ref (ad 0)] : List Value) ++ List.replicate (2 - (lg_sl ([.ref (ad 0)] : List Value)).length) Slot.unset).toArray) [] from by rw [hargs]; exact lg_entry_eq m _ _]
  have hl := lv_entry ([.ref (ad 0)] : List Value) (n := 2) (by exact Nat.le_of_ble_eq_true rfl)
  generalize (lg_sl ([.ref (ad 0)] : List Value) ++ List.replicate (2 - (lg_sl ([.ref (ad 0)] : List Value)).length) Slot.unset).toArray = ls at hl ⊢
  have hl : lv_has ls 2 [(0, .ref (ad 0))] := by exact hl
  have hS : va_S (mm_A TM ad) s.heap s.heap [] := va_S.rf
  clear hargs
  have hc33 : ∀ (K_2 : Int32 → Mm → Option (Int32 × Mm)), (∀ (x1 : Int32) (g : Mm) (H : Heap) (locs : List Loc) (ls : Array Slot), va_P D vwCl (mm_L TM ad cy g) H → va_S (mm_A TM ad) s.heap H locs → lv_has ls 2 [(0, .ref (ad 0)), (1, .int x1)] → K_2 x1 g = some (r0, g') → W p l e (headSpec wsX12_takesRoad (rm_X12_takesRoad)).room s m args below meth c H locs 0 0 (MQ below (mm_Qi D TM ad cy r0 g') args s 0 0 (mm_A TM ad)) (F0 m 2 ls [])) → ∀ (x1 : Int32) (g : Mm) (H : Heap) (locs : List Loc) (ls : Array Slot), va_P D vwCl (mm_L TM ad cy g) H → va_S (mm_A TM ad) s.heap H locs → lv_has ls 2 [(0, .ref (ad 0)), (1, .int x1)] → f_X12_takesRoad_c33 K_2 x1 g = some (r0, g') → W p l e (headSpec wsX12_takesRoad (rm_X12_takesRoad)).room s m args below meth c H locs 0 0 (MQ below (mm_Qi D TM ad cy r0 g') args s 0 0 (mm_A TM ad)) (F0 m 33 ls []) := by
    intro K_2 hK_2 x1 g H locs ls hP hS hl hf
    unfold f_X12_takesRoad_c33 at hf
    refine lv_aload_n hx hb dX12_takesRoad_33 rfl (lv_at hl 0 rfl) ?_
    refine lv_iload_n hx hb dX12_takesRoad_34 rfl (lv_at hl 1 rfl) ?_
    obtain ⟨r_8, g_7, hr_9, hf⟩ := ob_some hf
    refine mq_calli (va_runV (As := [.int x1]) (rest := []) ⟨hx, hb, hml, hown, hts⟩ (c_X12_takesFigure l D ad cy x1 g hp r_8 g_7 hr_9) (cwV 1 hts gX12_takesRoad_X12_takesFigure rfl rfl rfl (by decide +kernel) ⟨Nat.le_of_ble_eq_true rfl, Nat.le_of_ble_eq_true rfl⟩) (mq_preV (q := (RX12, TX12, 26)) mm_zOk0 hK hP hI hZ hS hp rfl) rfl rfl hl.1 rfl (lv_room (Nat.le_of_ble_eq_true rfl)) dX12_takesRoad_35 ⟨Nat.le_refl _, Nat.le_refl _⟩) hS (fun H locs hP hS => ?_)
    refine lv_if_ne (tgt := 43) hx hb dX12_takesRoad_38 (by decide) (fun c_10 => ?_) (fun c_10 => ?_)
    · replace hf := ite_f c_10 hf
      refine lv_aload_n hx hb dX12_takesRoad_43 rfl (lv_at hl 0 rfl) ?_
      obtain ⟨r_12, g_11, hr_13, hf⟩ := ob_some hf
      refine mq_calli (va_runV (As := []) (rest := []) ⟨hx, hb, hml, hown, hts⟩ (c_X12_next l D ad cy g_7 hp r_12 g_11 hr_13) (cwV 0 hts gX12_takesRoad_X12_next rfl rfl rfl (by decide +kernel) ⟨Nat.le_of_ble_eq_true rfl, Nat.le_of_ble_eq_true rfl⟩) (mq_preV (q := (RX12, TX12, 26)) mm_zOk0 hK hP hI hZ hS hp rfl) rfl rfl hl.1 rfl (lv_room (Nat.le_of_ble_eq_true rfl)) dX12_takesRoad_44 ⟨Nat.le_refl _, Nat.le_refl _⟩) hS (fun H locs hP hS => ?_)
      refine lv_bipush (v := 119) hx hb dX12_takesRoad_47 (by decide) ?_
      refine lv_icmp_ne (tgt := 77) hx hb dX12_takesRoad_49 (by decide) (fun c_14 => ?_) (fun c_14 => ?_)
      · replace hf := ite_f c_14 hf
        obtain ⟨x1_15, ex1_15, hf⟩ := mv_some hf
        refine lv_iinc (v := x1_15) (lv' := [(1, .int x1_15), (0, .ref (ad 0))]) hx hb dX12_takesRoad_77 hl (k := 1) rfl (by rw [ex1_15]; rfl) (by decide) rfl (fun ls hl => ?_)
        refine lv_goto (tgt := 2) hx hb dX12_takesRoad_80 (by decide) ?_
        exact hK_2 x1_15 g_11 H locs ls hP hS (lv_sub hl [1, 0] rfl) hf
      · replace hf := ite_t c_14 hf
        refine lv_aload_n hx hb dX12_takesRoad_52 rfl (lv_at hl 0 rfl) ?_
        refine lv_dup hx hb dX12_takesRoad_53 rfl ?_
        refine mq_geti (Tt := TX12) (N := 26) (C := RX12) hx hb hts hiX12 hown hK hP hp rfl 8 (by decide) rfl hw0 (fun _ h9 => h9) dX12_takesRoad_54 ?_
        refine lv_iconst (v := 1) hx hb dX12_takesRoad_57 (by decide) ?_
        refine lv_iadd hx hb dX12_takesRoad_58 ?_
        obtain ⟨g_16, eg_16, hf⟩ := mw_some hf
        refine mq_puti (Tt := TX12) (N := 26) (C := RX12) (ty := .int) hx hb hts hiX12 tyX12 tyX12_ok nmX12 hown hK hI hP hS hp rfl 8 (by decide) rfl hw0 (fun _ h9 => h9) rfl (by decide +kernel) rfl rfl dX12_takesRoad_59 eg_16 (fun H locs hP hS => ?_)
        refine lv_aload_n hx hb dX12_takesRoad_62 rfl (lv_at hl 0 rfl) ?_
        refine lv_bipush (v := 9) hx hb dX12_takesRoad_63 (by decide) ?_
        refine lv_iload_n hx hb dX12_takesRoad_65 rfl (lv_at hl 1 rfl) ?_
        refine lv_iadd hx hb dX12_takesRoad_66 ?_
        refine lv_bipush (v := 16) hx hb dX12_takesRoad_67 (by decide) ?_
        obtain ⟨r_18, g_17, hr_19, hf⟩ := ob_some hf
        refine mq_calli (va_runV (As := [.int (9 + x1), .int 16]) (rest := []) ⟨hx, hb, hml, hown, hts⟩ (c_X12_takesNumber l D ad cy (9 + x1) 16 g_16 hp r_18 g_17 hr_19) (cwV 2 hts gX12_takesRoad_X12_takesNumber rfl rfl rfl (by decide +kernel) ⟨Nat.le_of_ble_eq_true rfl, Nat.le_of_ble_eq_true rfl⟩) (mq_preV (q := (RX12, TX12, 26)) mm_zOk0 hK hP hI hZ hS hp rfl) rfl rfl hl.1 rfl (lv_room (Nat.le_of_ble_eq_true rfl)) dX12_takesRoad_69 ⟨Nat.le_refl _, Nat.le_refl _⟩) hS (fun H locs hP hS => ?_)
        refine lv_if_ne (tgt := 77) hx hb dX12_takesRoad_72 (by decide) (fun c_20 => ?_) (fun c_20 => ?_)
        · replace hf := ite_f c_20 hf
          obtain ⟨x1_21, ex1_21, hf⟩ := mv_some hf
          refine lv_iinc (v := x1_21) (lv' := [(1, .int x1_21), (0, .ref (ad 0))]) hx hb dX12_takesRoad_77 hl (k := 1) rfl (by rw [ex1_21]; rfl) (by decide) rfl (fun ls hl => ?_)
          refine lv_goto (tgt := 2) hx hb dX12_takesRoad_80 (by decide) ?_
          exact hK_2 x1_21 g_17 H locs ls hP hS (lv_sub hl [1, 0] rfl) hf
        · replace hf := ite_t c_20 hf
          refine lv_iconst (v := 0) hx hb dX12_takesRoad_75 (by decide) ?_
          exact mq_iret hx hb hr (by decide +kernel) hlocks hP hS (pr_1 hf) (pr_2 hf) dX12_takesRoad_76
    · replace hf := ite_t c_10 hf
      refine lv_iconst (v := 0) hx hb dX12_takesRoad_41 (by decide) ?_
      exact mq_iret hx hb hr (by decide +kernel) hlocks hP hS (pr_1 hf) (pr_2 hf) dX12_takesRoad_42
  have hc2 : ∀ (n : Nat), ∀ (x1 : Int32) (g : Mm) (H : Heap) (locs : List Loc) (ls : Array Slot), va_P D vwCl (mm_L TM ad cy g) H → va_S (mm_A TM ad) s.heap H locs → lv_has ls 2 [(0, .ref (ad 0)), (1, .int x1)] → f_X12_takesRoad_c2 n x1 g = some (r0, g') → W p l e (headSpec wsX12_takesRoad (rm_X12_takesRoad)).room s m args below meth c H locs 0 0 (MQ below (mm_Qi D TM ad cy r0 g') args s 0 0 (mm_A TM ad)) (F0 m 2 ls []) := by
    intro n
    induction n with
    | zero =>
      intro x1 g H locs ls hP hS hl hf
      rw [f_X12_takesRoad_c2] at hf
      cases hf
    | succ n ih =>
      intro x1 g H locs ls hP hS hl hf
      rw [f_X12_takesRoad_c2] at hf
      refine lv_iload_n hx hb dX12_takesRoad_2 rfl (lv_at hl 1 rfl) ?_
      refine lv_bipush (v := 9) hx hb dX12_takesRoad_3 (by decide) ?_
      refine lv_icmp_ge (tgt := 83) hx hb dX12_takesRoad_5 (by decide) (fun c_1 => ?_) (fun c_1 => ?_)
      · replace hf := ite_t c_1 hf
        refine lv_aload_n hx hb dX12_takesRoad_83 rfl (lv_at hl 0 rfl) ?_
        obtain ⟨r_3, g_2, hr_4, hf⟩ := ob_some hf
        refine mq_calli (va_runV (As := []) (rest := []) ⟨hx, hb, hml, hown, hts⟩ (c_X12_next l D ad cy g hp r_3 g_2 hr_4) (cwV 0 hts gX12_takesRoad_X12_next rfl rfl rfl (by decide +kernel) ⟨Nat.le_of_ble_eq_true rfl, Nat.le_of_ble_eq_true rfl⟩) (mq_preV (q := (RX12, TX12, 26)) mm_zOk0 hK hP hI hZ hS hp rfl) rfl rfl hl.1 rfl (lv_room (Nat.le_of_ble_eq_true rfl)) dX12_takesRoad_84 ⟨Nat.le_refl _, Nat.le_refl _⟩) hS (fun H locs hP hS => ?_)
        refine lv_if_ge (tgt := 94) hx hb dX12_takesRoad_87 (by decide) (fun c_5 => ?_) (fun c_5 => ?_)
        · replace hf := ite_t c_5 hf
          refine lv_iconst (v := 0) hx hb dX12_takesRoad_94 (by decide) ?_
          exact mq_iret hx hb hr (by decide +kernel) hlocks hP hS (pr_1 hf) (pr_2 hf) dX12_takesRoad_95
        · replace hf := ite_f c_5 hf
          refine lv_iconst (v := 1) hx hb dX12_takesRoad_90 (by decide) ?_
          refine lv_goto (tgt := 95) hx hb dX12_takesRoad_91 (by decide) ?_
          exact mq_iret hx hb hr (by decide +kernel) hlocks hP hS (pr_1 hf) (pr_2 hf) dX12_takesRoad_95
      · replace hf := ite_f c_1 hf
        refine lv_iload_n hx hb dX12_takesRoad_8 rfl (lv_at hl 1 rfl) ?_
        refine lv_if_le (tgt := 33) hx hb dX12_takesRoad_9 (by decide) (fun c_6 => ?_) (fun c_6 => ?_)
        · replace hf := ite_t c_6 hf
          exact hc33 (f_X12_takesRoad_c2 n) ih x1 g H locs ls hP hS (lv_sub hl [0, 1] rfl) hf
        · replace hf := ite_f c_6 hf
          refine lv_aload_n hx hb dX12_takesRoad_12 rfl (lv_at hl 0 rfl) ?_
          obtain ⟨r_23, g_22, hr_24, hf⟩ := ob_some hf
          refine mq_calli (va_runV (As := []) (rest := []) ⟨hx, hb, hml, hown, hts⟩ (c_X12_next l D ad cy g hp r_23 g_22 hr_24) (cwV 0 hts gX12_takesRoad_X12_next rfl rfl rfl (by decide +kernel) ⟨Nat.le_of_ble_eq_true rfl, Nat.le_of_ble_eq_true rfl⟩) (mq_preV (q := (RX12, TX12, 26)) mm_zOk0 hK hP hI hZ hS hp rfl) rfl rfl hl.1 rfl (lv_room (Nat.le_of_ble_eq_true rfl)) dX12_takesRoad_13 ⟨Nat.le_refl _, Nat.le_refl _⟩) hS (fun H locs hP hS => ?_)
          refine lv_bipush (v := 44) hx hb dX12_takesRoad_16 (by decide) ?_
          refine lv_icmp_eq (tgt := 23) hx hb dX12_takesRoad_18 (by decide) (fun c_25 => ?_) (fun c_25 => ?_)
          · replace hf := ite_t c_25 hf
            refine lv_aload_n hx hb dX12_takesRoad_23 rfl (lv_at hl 0 rfl) ?_
            refine lv_dup hx hb dX12_takesRoad_24 rfl ?_
            refine mq_geti (Tt := TX12) (N := 26) (C := RX12) hx hb hts hiX12 hown hK hP hp rfl 8 (by decide) rfl hw0 (fun _ h9 => h9) dX12_takesRoad_25 ?_
            refine lv_iconst (v := 1) hx hb dX12_takesRoad_28 (by decide) ?_
            refine lv_iadd hx hb dX12_takesRoad_29 ?_
            obtain ⟨g_26, eg_26, hf⟩ := mw_some hf
            refine mq_puti (Tt := TX12) (N := 26) (C := RX12) (ty := .int) hx hb hts hiX12 tyX12 tyX12_ok nmX12 hown hK hI hP hS hp rfl 8 (by decide) rfl hw0 (fun _ h9 => h9) rfl (by decide +kernel) rfl rfl dX12_takesRoad_30 eg_26 (fun H locs hP hS => ?_)
            exact hc33 (f_X12_takesRoad_c2 n) ih x1 g_26 H locs ls hP hS (lv_sub hl [0, 1] rfl) hf
          · replace hf := ite_f c_25 hf
            refine lv_iconst (v := 0) hx hb dX12_takesRoad_21 (by decide) ?_
            exact mq_iret hx hb hr (by decide +kernel) hlocks hP hS (pr_1 hf) (pr_2 hf) dX12_takesRoad_22
  unfold f_X12_takesRoad at hf
  have hH9 : ∀ (H : Heap) (locs : List Loc), H = s.heap → locs = [] → va_P D vwCl (mm_L TM ad cy g) H → va_S (mm_A TM ad) s.heap H locs → W p l e (headSpec wsX12_takesRoad (rm_X12_takesRoad)).room s m args below meth c H locs 0 0 (MQ below (mm_Qi D TM ad cy r0 g') args s 0 0 (mm_A TM ad)) (F0 m 0 ls []) := by
    intro H locs hH9 hL9 hP hS
    clear hH9 hL9
    refine lv_iconst (v := 0) hx hb dX12_takesRoad_0 (by decide) ?_
    refine lv_istore_n (lv' := [(1, .int 0), (0, .ref (ad 0))]) hx hb dX12_takesRoad_1 rfl hl (by decide) rfl (fun ls hl => ?_)
    exact hc2 FU 0 g H locs ls hP hS (lv_sub hl [1, 0] rfl) hf
  exact hH9 s.heap [] rfl rfl hP hS
abbrev rm_X12_roads : Room := ({ frames := 4, cells := 0, slots := 0, locals := 90 } : Room)
set_option maxHeartbeats 4000000 in
set_option maxRecDepth 100000 in
theorem c_X12_roads (l : Launch) (D : va_G) (ad : Nat → Nat) (cy : Nat → ClassId)  (g : Mm) (hp : TM[0]? = some sX12) (r0 : Int32) (g' : Mm) (hf : f_X12_roads g = some (r0, g')) : Met l yX12_roads wsX12_roads rm_X12_roads (va_Pc [.ref (ad 0)] (mm_pre mm_Z0 D TM ad cy g)) (mm_Qi D TM ad cy r0 g') 0 0 (mm_A TM ad) := by
  refine Met.ofW (cc := cX12_roads) (maxL := 3) (ret := (some .int)) (by decide) rfl ?_
  intro p e s m args below meth c s₁ B hml hv
  obtain ⟨hargs, hP, hK, hI, hZ⟩ := hv
  have hx := B.exec
  have hb := B.bytes
  have hr := B.returns
  have hts := atoms_spec (ws := wsX12_roads) B.pre
  have hown : s.vm.findClass RX12 = some m.cls := findClass_of_methodNamed B.named
  have hlocks := B.notSynchronized
  have hw0 := hts (.fieldLink RX12 103 "LeftShoesModel" "taped" "I") (by decide +kernel)
  have hiX12 : ∀ w ∈ wsX120, w ∈ wsX12_roads := by decide +kernel
  have hw2 := hts (.fieldLink RX12 7 "LeftShoesModel" "now" "[I") (by decide +kernel)
  have hw3 := hts (.fieldLink RX12 28 "LeftShoesModel" "read" "[I") (by decide +kernel)
  have hw4 := hts (.fieldLink RX12 107 "LeftShoesModel" "at" "I") (by decide +kernel)
  rw [show entryFrame m args 3 = F0 m 0 ((lg_sl ([.ref (ad 0)] : List Value) ++ List.replicate (3 - (lg_sl ([.ref (ad 0)] : List Value)).length) Slot.unset).toArray) [] from by rw [hargs]; exact lg_entry_eq m _ _]
  have hl := lv_entry ([.ref (ad 0)] : List Value) (n := 3) (by exact Nat.le_of_ble_eq_true rfl)
  generalize (lg_sl ([.ref (ad 0)] : List Value) ++ List.replicate (3 - (lg_sl ([.ref (ad 0)] : List Value)).length) Slot.unset).toArray = ls at hl ⊢
  have hl : lv_has ls 3 [(0, .ref (ad 0))] := by exact hl
  have hS : va_S (mm_A TM ad) s.heap s.heap [] := va_S.rf
  clear hargs
  have hc92 : ∀ (K_38 : Int32 → Int32 → Mm → Option (Int32 × Mm)), (∀ (x1 : Int32) (x2 : Int32) (g : Mm) (H : Heap) (locs : List Loc) (ls : Array Slot), va_P D vwCl (mm_L TM ad cy g) H → va_S (mm_A TM ad) s.heap H locs → lv_has ls 3 [(0, .ref (ad 0)), (1, .int x1), (2, .int x2)] → K_38 x1 x2 g = some (r0, g') → W p l e (headSpec wsX12_roads (rm_X12_roads)).room s m args below meth c H locs 0 0 (MQ below (mm_Qi D TM ad cy r0 g') args s 0 0 (mm_A TM ad)) (F0 m 38 ls [])) → ∀ (x1 : Int32) (x2 : Int32) (sq0 : Nat) (sx1 : Int32) (sx2 : Int32) (g : Mm) (H : Heap) (locs : List Loc) (ls : Array Slot), TM[sq0]? = some (.inr (193, 0, none) : Shp) → va_P D vwCl (mm_L TM ad cy g) H → va_S (mm_A TM ad) s.heap H locs → lv_has ls 3 [(0, .ref (ad 0)), (1, .int x1), (2, .int x2)] → f_X12_roads_c92 K_38 x1 x2 sq0 sx1 sx2 g = some (r0, g') → W p l e (headSpec wsX12_roads (rm_X12_roads)).room s m args below meth c H locs 0 0 (MQ below (mm_Qi D TM ad cy r0 g') args s 0 0 (mm_A TM ad)) (F0 m 92 ls [.int sx2, .int sx1, .ref (ad sq0)]) := by
    intro K_38 hK_38 x1 x2 sq0 sx1 sx2 g H locs ls hsq0 hP hS hl hf
    unfold f_X12_roads_c92 at hf
    obtain ⟨h_15, hf⟩ := og_some hf
    obtain ⟨g_16, eg_16, hf⟩ := mw_some hf
    refine mq_iast hx hb hK hI hP hS (N := 193) hsq0 h_15 dX12_roads_92 eg_16 (fun H locs hP hS => ?_)
    refine lv_iload_n hx hb dX12_roads_93 rfl (lv_at hl 1 rfl) ?_
    refine lv_aload_n hx hb dX12_roads_94 rfl (lv_at hl 0 rfl) ?_
    refine mq_getr (Tt := TX12) (N := 26) (C := RX12) hx hb hts hiX12 hown hK hP hp rfl 9 7 (by decide) rfl hw3 (fun _ h9 => h9) dX12_roads_95 ?_
    refine lv_iload_n hx hb dX12_roads_98 rfl (lv_at hl 2 rfl) ?_
    obtain ⟨h_17, hf⟩ := og_some hf
    refine mq_iald hx hb hK hP (N := 18) (shTM_X12_7 hp) h_17 dX12_roads_99 ?_
    refine lv_iadd hx hb dX12_roads_100 ?_
    obtain ⟨x1_18, ex1_18, hf⟩ := mv_some hf
    refine mq_nm ex1_18 ?_
    refine lv_istore_n (lv' := [(1, .int x1_18), (0, .ref (ad 0)), (2, .int x2)]) hx hb dX12_roads_101 rfl hl (by decide) rfl (fun ls hl => ?_)
    obtain ⟨x2_19, ex2_19, hf⟩ := mv_some hf
    refine lv_iinc (v := x2_19) (lv' := [(2, .int x2_19), (1, .int x1_18), (0, .ref (ad 0))]) hx hb dX12_roads_102 hl (k := 2) rfl (by rw [ex2_19]; rfl) (by decide) rfl (fun ls hl => ?_)
    refine lv_goto (tgt := 38) hx hb dX12_roads_105 (by decide) ?_
    exact hK_38 x1_18 x2_19 g_16 H locs ls hP hS (lv_sub hl [2, 1, 0] rfl) hf
  have hc38 : ∀ (n : Nat), ∀ (x1 : Int32) (x2 : Int32) (g : Mm) (H : Heap) (locs : List Loc) (ls : Array Slot), va_P D vwCl (mm_L TM ad cy g) H → va_S (mm_A TM ad) s.heap H locs → lv_has ls 3 [(0, .ref (ad 0)), (1, .int x1), (2, .int x2)] → f_X12_roads_c38 n x1 x2 g = some (r0, g') → W p l e (headSpec wsX12_roads (rm_X12_roads)).room s m args below meth c H locs 0 0 (MQ below (mm_Qi D TM ad cy r0 g') args s 0 0 (mm_A TM ad)) (F0 m 38 ls []) := by
    intro n
    induction n with
    | zero =>
      intro x1 x2 g H locs ls hP hS hl hf
      rw [f_X12_roads_c38] at hf
      cases hf
    | succ n ih =>
      intro x1 x2 g H locs ls hP hS hl hf
      rw [f_X12_roads_c38] at hf
      refine lv_iload_n hx hb dX12_roads_38 rfl (lv_at hl 2 rfl) ?_
      refine lv_bipush (v := 9) hx hb dX12_roads_39 (by decide) ?_
      refine lv_icmp_ge (tgt := 108) hx hb dX12_roads_41 (by decide) (fun c_8 => ?_) (fun c_8 => ?_)
      · replace hf := ite_t c_8 hf
        refine lv_iload_n hx hb dX12_roads_108 rfl (lv_at hl 1 rfl) ?_
        exact mq_iret hx hb hr rfl hlocks hP hS (pr_1 hf) (pr_2 hf) dX12_roads_109
      · replace hf := ite_f c_8 hf
        refine lv_aload_n hx hb dX12_roads_44 rfl (lv_at hl 0 rfl) ?_
        refine mq_getr (Tt := TX12) (N := 26) (C := RX12) hx hb hts hiX12 hown hK hP hp rfl 0 1 (by decide) rfl hw2 (fun _ h9 => h9) dX12_roads_45 ?_
        refine lv_bipush (v := 99) hx hb dX12_roads_48 (by decide) ?_
        refine lv_iload_n hx hb dX12_roads_50 rfl (lv_at hl 2 rfl) ?_
        refine lv_iadd hx hb dX12_roads_51 ?_
        refine lv_aload_n hx hb dX12_roads_52 rfl (lv_at hl 0 rfl) ?_
        refine mq_getr (Tt := TX12) (N := 26) (C := RX12) hx hb hts hiX12 hown hK hP hp rfl 9 7 (by decide) rfl hw3 (fun _ h9 => h9) dX12_roads_53 ?_
        refine lv_iload_n hx hb dX12_roads_56 rfl (lv_at hl 2 rfl) ?_
        obtain ⟨h_9, hf⟩ := og_some hf
        refine mq_iald hx hb hK hP (N := 18) (shTM_X12_7 hp) h_9 dX12_roads_57 ?_
        obtain ⟨h_10, hf⟩ := og_some hf
        obtain ⟨g_11, eg_11, hf⟩ := mw_some hf
        refine mq_iast hx hb hK hI hP hS (N := 193) (shTM_X12_1 hp) h_10 dX12_roads_58 eg_11 (fun H locs hP hS => ?_)
        refine lv_aload_n hx hb dX12_roads_59 rfl (lv_at hl 0 rfl) ?_
        refine mq_getr (Tt := TX12) (N := 26) (C := RX12) hx hb hts hiX12 hown hK hP hp rfl 0 1 (by decide) rfl hw2 (fun _ h9 => h9) dX12_roads_60 ?_
        refine lv_bipush (v := 108) hx hb dX12_roads_63 (by decide) ?_
        refine lv_iload_n hx hb dX12_roads_65 rfl (lv_at hl 2 rfl) ?_
        refine lv_iadd hx hb dX12_roads_66 ?_
        refine lv_aload_n hx hb dX12_roads_67 rfl (lv_at hl 0 rfl) ?_
        refine mq_getr (Tt := TX12) (N := 26) (C := RX12) hx hb hts hiX12 hown hK hP hp rfl 9 7 (by decide) rfl hw3 (fun _ h9 => h9) dX12_roads_68 ?_
        refine lv_bipush (v := 9) hx hb dX12_roads_71 (by decide) ?_
        refine lv_iload_n hx hb dX12_roads_73 rfl (lv_at hl 2 rfl) ?_
        refine lv_iadd hx hb dX12_roads_74 ?_
        obtain ⟨h_12, hf⟩ := og_some hf
        refine mq_iald hx hb hK hP (N := 18) (shTM_X12_7 hp) h_12 dX12_roads_75 ?_
        refine lv_if_ge (tgt := 83) hx hb dX12_roads_76 (by decide) (fun c_13 => ?_) (fun c_13 => ?_)
        · replace hf := ite_t c_13 hf
          refine lv_aload_n hx hb dX12_roads_83 rfl (lv_at hl 0 rfl) ?_
          refine mq_getr (Tt := TX12) (N := 26) (C := RX12) hx hb hts hiX12 hown hK hP hp rfl 9 7 (by decide) rfl hw3 (fun _ h9 => h9) dX12_roads_84 ?_
          refine lv_bipush (v := 9) hx hb dX12_roads_87 (by decide) ?_
          refine lv_iload_n hx hb dX12_roads_89 rfl (lv_at hl 2 rfl) ?_
          refine lv_iadd hx hb dX12_roads_90 ?_
          obtain ⟨h_14, hf⟩ := og_some hf
          refine mq_iald hx hb hK hP (N := 18) (shTM_X12_7 hp) h_14 dX12_roads_91 ?_
          exact hc92 (f_X12_roads_c38 n) ih x1 x2 1 (108 + x2) (g_11 7 (9 + x2).toNatClampNeg) g_11 H locs ls (shTM_X12_1 hp) hP hS (lv_sub hl [0, 1, 2] rfl) hf
        · replace hf := ite_f c_13 hf
          refine lv_iconst (v := 0) hx hb dX12_roads_79 (by decide) ?_
          refine lv_goto (tgt := 92) hx hb dX12_roads_80 (by decide) ?_
          exact hc92 (f_X12_roads_c38 n) ih x1 x2 1 (108 + x2) 0 g_11 H locs ls (shTM_X12_1 hp) hP hS (lv_sub hl [0, 1, 2] rfl) hf
  unfold f_X12_roads at hf
  have hH9 : ∀ (H : Heap) (locs : List Loc), H = s.heap → locs = [] → va_P D vwCl (mm_L TM ad cy g) H → va_S (mm_A TM ad) s.heap H locs → W p l e (headSpec wsX12_roads (rm_X12_roads)).room s m args below meth c H locs 0 0 (MQ below (mm_Qi D TM ad cy r0 g') args s 0 0 (mm_A TM ad)) (F0 m 0 ls []) := by
    intro H locs hH9 hL9 hP hS
    clear hH9 hL9
    refine lv_aload_n hx hb dX12_roads_0 rfl (lv_at hl 0 rfl) ?_
    obtain ⟨g_1, hr_2, hf⟩ := op_some hf
    refine mq_callv (va_runV (As := []) (rest := []) ⟨hx, hb, hml, hown, hts⟩ (c_X12_begin l D ad cy g hp g_1 hr_2) (cwV 0 hts gX12_roads_X12_begin rfl rfl rfl (by decide +kernel) ⟨Nat.le_of_ble_eq_true rfl, Nat.le_of_ble_eq_true rfl⟩) (mq_preV (q := (RX12, TX12, 26)) mm_zOk0 hK hP hI hZ hS hp rfl) rfl rfl hl.1 rfl (lv_room (Nat.le_of_ble_eq_true rfl)) dX12_roads_1 ⟨Nat.le_refl _, Nat.le_refl _⟩) hS (fun H locs hP hS => ?_)
    refine lv_aload_n hx hb dX12_roads_4 rfl (lv_at hl 0 rfl) ?_
    obtain ⟨r_4, g_3, hr_5, hf⟩ := ob_some hf
    refine mq_calli (va_runV (As := []) (rest := []) ⟨hx, hb, hml, hown, hts⟩ (c_X12_takesRoad l D ad cy g_1 hp r_4 g_3 hr_5) (cwV 0 hts gX12_roads_X12_takesRoad rfl rfl rfl (by decide +kernel) ⟨Nat.le_of_ble_eq_true rfl, Nat.le_of_ble_eq_true rfl⟩) (mq_preV (q := (RX12, TX12, 26)) mm_zOk0 hK hP hI hZ hS hp rfl) rfl rfl hl.1 rfl (lv_room (Nat.le_of_ble_eq_true rfl)) dX12_roads_5 ⟨Nat.le_refl _, Nat.le_refl _⟩) hS (fun H locs hP hS => ?_)
    refine lv_if_ne (tgt := 29) hx hb dX12_roads_8 (by decide) (fun c_6 => ?_) (fun c_6 => ?_)
    · replace hf := ite_f c_6 hf
      refine lv_aload_n hx hb dX12_roads_29 rfl (lv_at hl 0 rfl) ?_
      refine lv_iconst (v := 0) hx hb dX12_roads_30 (by decide) ?_
      obtain ⟨g_7, eg_7, hf⟩ := mw_some hf
      refine mq_puti (Tt := TX12) (N := 26) (C := RX12) (ty := .int) hx hb hts hiX12 tyX12 tyX12_ok nmX12 hown hK hI hP hS hp rfl 4 (by decide) rfl hw0 (fun _ h9 => h9) rfl (by decide +kernel) rfl rfl dX12_roads_31 eg_7 (fun H locs hP hS => ?_)
      refine lv_iconst (v := 0) hx hb dX12_roads_34 (by decide) ?_
      refine lv_istore_n (lv' := [(1, .int 0), (0, .ref (ad 0))]) hx hb dX12_roads_35 rfl hl (by decide) rfl (fun ls hl => ?_)
      refine lv_iconst (v := 0) hx hb dX12_roads_36 (by decide) ?_
      refine lv_istore_n (lv' := [(2, .int 0), (1, .int 0), (0, .ref (ad 0))]) hx hb dX12_roads_37 rfl hl (by decide) rfl (fun ls hl => ?_)
      exact hc38 FU 0 0 g_7 H locs ls hP hS (lv_sub hl [2, 1, 0] rfl) hf
    · replace hf := ite_t c_6 hf
      refine lv_aload_n hx hb dX12_roads_11 rfl (lv_at hl 0 rfl) ?_
      obtain ⟨r_21, g_20, hr_22, hf⟩ := ob_some hf
      refine mq_calli (va_runV (As := []) (rest := []) ⟨hx, hb, hml, hown, hts⟩ (c_X12_next l D ad cy g_3 hp r_21 g_20 hr_22) (cwV 0 hts gX12_roads_X12_next rfl rfl rfl (by decide +kernel) ⟨Nat.le_of_ble_eq_true rfl, Nat.le_of_ble_eq_true rfl⟩) (mq_preV (q := (RX12, TX12, 26)) mm_zOk0 hK hP hI hZ hS hp rfl) rfl rfl hl.1 rfl (lv_room (Nat.le_of_ble_eq_true rfl)) dX12_roads_12 ⟨Nat.le_refl _, Nat.le_refl _⟩) hS (fun H locs hP hS => ?_)
      refine lv_pop hx hb dX12_roads_15 rfl ?_
      refine lv_aload_n hx hb dX12_roads_16 rfl (lv_at hl 0 rfl) ?_
      refine lv_iconst (v := 0) hx hb dX12_roads_17 (by decide) ?_
      obtain ⟨g_23, eg_23, hf⟩ := mw_some hf
      refine mq_puti (Tt := TX12) (N := 26) (C := RX12) (ty := .int) hx hb hts hiX12 tyX12 tyX12_ok nmX12 hown hK hI hP hS hp rfl 4 (by decide) rfl hw0 (fun _ h9 => h9) rfl (by decide +kernel) rfl rfl dX12_roads_18 eg_23 (fun H locs hP hS => ?_)
      refine lv_bipush (v := (-20)) hx hb dX12_roads_21 (by decide) ?_
      refine lv_aload_n hx hb dX12_roads_23 rfl (lv_at hl 0 rfl) ?_
      refine mq_geti (Tt := TX12) (N := 26) (C := RX12) hx hb hts hiX12 hown hK hP hp rfl 8 (by decide) rfl hw4 (fun _ h9 => h9) dX12_roads_24 ?_
      refine lv_isub hx hb dX12_roads_27 ?_
      exact mq_iret hx hb hr rfl hlocks hP hS (pr_1 hf) (pr_2 hf) dX12_roads_28
  exact hH9 s.heap [] rfl rfl hP hS
abbrev rm_X12_count : Room := ({ frames := 1, cells := 0, slots := 0, locals := 25 } : Room)
set_option maxHeartbeats 4000000 in
set_option maxRecDepth 100000 in
theorem c_X12_count (l : Launch) (D : va_G) (ad : Nat → Nat) (cy : Nat → ClassId) (x1 : Int32) (g : Mm) (hp : TM[0]? = some sX12) (r0 : Int32) (hf : f_X12_count x1 g = some r0) : Met l yX12_count wsX12_count rm_X12_count (va_Pc [.ref (ad 0), .int x1] (mm_pre mm_Z0 D TM ad cy g)) (mm_Qi D TM ad cy r0 g) 0 0 (mm_A TM ad) := by
  refine Met.ofW (cc := cX12_count) (maxL := 6) (ret := (some .int)) (by decide) rfl ?_
  intro p e s m args below meth c s₁ B hml hv
  obtain ⟨hargs, hP, hK, hI, hZ⟩ := hv
  have hx := B.exec
  have hb := B.bytes
  have hr := B.returns
  have hts := atoms_spec (ws := wsX12_count) B.pre
  have hown : s.vm.findClass RX12 = some m.cls := findClass_of_methodNamed B.named
  have hlocks := B.notSynchronized
  have hw0 := hts (.constantLong RX12 142 (5)) (by decide +kernel)
  have hw1 := hts (.fieldLink RX12 7 "LeftShoesModel" "now" "[I") (by decide +kernel)
  have hiX12 : ∀ w ∈ wsX120, w ∈ wsX12_count := by decide +kernel
  rw [show entryFrame m args 6 = F0 m 0 ((lg_sl ([.ref (ad 0), .int x1] : List Value) ++ List.replicate (6 - (lg_sl ([.ref (ad 0), .int x1] : List Value)).length) Slot.unset).toArray) [] from by rw [hargs]; exact lg_entry_eq m _ _]
  have hl := lv_entry ([.ref (ad 0), .int x1] : List Value) (n := 6) (by exact Nat.le_of_ble_eq_true rfl)
  generalize (lg_sl ([.ref (ad 0), .int x1] : List Value) ++ List.replicate (6 - (lg_sl ([.ref (ad 0), .int x1] : List Value)).length) Slot.unset).toArray = ls at hl ⊢
  have hl : lv_has ls 6 [(0, .ref (ad 0)), (1, .int x1)] := by exact hl
  have hS : va_S (mm_A TM ad) s.heap s.heap [] := va_S.rf
  clear hargs
  have hc70 : ∀ (n : Nat), ∀ (x2 : Int32) (x3 : Int32) (x4 : Int32) (x5 : Int32) (H : Heap) (locs : List Loc) (ls : Array Slot), va_P D vwCl (mm_L TM ad cy g) H → va_S (mm_A TM ad) s.heap H locs → lv_has ls 6 [(0, .ref (ad 0)), (1, .int x1), (2, .int x2), (3, .int x3), (4, .int x4), (5, .int x5)] → f_X12_count_c70 x1 n x2 x3 x4 x5 g = some r0 → W p l e (headSpec wsX12_count (rm_X12_count)).room s m args below meth c H locs 0 0 (MQ below (mm_Qi D TM ad cy r0 g) args s 0 0 (mm_A TM ad)) (F0 m 70 ls []) := by
    intro n
    induction n with
    | zero =>
      intro x2 x3 x4 x5 H locs ls hP hS hl hf
      rw [f_X12_count_c70] at hf
      cases hf
    | succ n ih =>
      intro x2 x3 x4 x5 H locs ls hP hS hl hf
      rw [f_X12_count_c70] at hf
      refine lv_iload hx hb dX12_count_70 (lv_at hl 5 rfl) ?_
      refine lv_bipush (v := 64) hx hb dX12_count_72 (by decide) ?_
      refine lv_icmp_ge (tgt := 106) hx hb dX12_count_74 (by decide) (fun c_5 => ?_) (fun c_5 => ?_)
      · replace hf := ite_t c_5 hf
        refine lv_iload_n hx hb dX12_count_106 rfl (lv_at hl 1 rfl) ?_
        refine lv_if_ne (tgt := 119) hx hb dX12_count_107 (by decide) (fun c_6 => ?_) (fun c_6 => ?_)
        · replace hf := ite_f c_6 hf
          refine lv_iload_n hx hb dX12_count_119 rfl (lv_at hl 1 rfl) ?_
          refine lv_iconst (v := 1) hx hb dX12_count_120 (by decide) ?_
          refine lv_icmp_ne (tgt := 133) hx hb dX12_count_121 (by decide) (fun c_7 => ?_) (fun c_7 => ?_)
          · replace hf := ite_f c_7 hf
            refine lv_iload_n hx hb dX12_count_133 rfl (lv_at hl 1 rfl) ?_
            refine lv_iconst (v := 2) hx hb dX12_count_134 (by decide) ?_
            refine lv_icmp_ne (tgt := 142) hx hb dX12_count_135 (by decide) (fun c_8 => ?_) (fun c_8 => ?_)
            · replace hf := ite_f c_8 hf
              refine lv_iload_n hx hb dX12_count_142 rfl (lv_at hl 1 rfl) ?_
              refine lv_iconst (v := 3) hx hb dX12_count_143 (by decide) ?_
              refine lv_icmp_ne (tgt := 151) hx hb dX12_count_144 (by decide) (fun c_9 => ?_) (fun c_9 => ?_)
              · replace hf := ite_f c_9 hf
                refine lv_iload_n hx hb dX12_count_151 rfl (lv_at hl 1 rfl) ?_
                refine lv_iconst (v := 4) hx hb dX12_count_152 (by decide) ?_
                refine lv_icmp_ne (tgt := 165) hx hb dX12_count_153 (by decide) (fun c_10 => ?_) (fun c_10 => ?_)
                · replace hf := ite_f c_10 hf
                  refine lv_iload hx hb dX12_count_165 (lv_at hl 4 rfl) ?_
                  refine lv_iconst (v := 2) hx hb dX12_count_167 (by decide) ?_
                  refine lv_idiv hx hb dX12_count_168 (by decide) ?_
                  exact mq_iret hx hb hr rfl hlocks hP hS (Option.some.inj hf) rfl dX12_count_169
                · replace hf := ite_t c_10 hf
                  refine lv_aload_n hx hb dX12_count_156 rfl (lv_at hl 0 rfl) ?_
                  refine mq_getr (Tt := TX12) (N := 26) (C := RX12) hx hb hts hiX12 hown hK hP hp rfl 0 1 (by decide) rfl hw1 (fun _ h9 => h9) dX12_count_157 ?_
                  refine lv_iconst (v := 4) hx hb dX12_count_160 (by decide) ?_
                  refine mq_iald hx hb hK hP (N := 193) (shTM_X12_1 hp) (by decide : mm_in 4 193 = true) dX12_count_161 ?_
                  refine lv_goto (tgt := 169) hx hb dX12_count_162 (by decide) ?_
                  exact mq_iret hx hb hr rfl hlocks hP hS (Option.some.inj hf) rfl dX12_count_169
              · replace hf := ite_t c_9 hf
                refine lv_iload_n hx hb dX12_count_147 rfl (lv_at hl 3 rfl) ?_
                refine lv_goto (tgt := 169) hx hb dX12_count_148 (by decide) ?_
                exact mq_iret hx hb hr rfl hlocks hP hS (Option.some.inj hf) rfl dX12_count_169
            · replace hf := ite_t c_8 hf
              refine lv_iload_n hx hb dX12_count_138 rfl (lv_at hl 2 rfl) ?_
              refine lv_goto (tgt := 169) hx hb dX12_count_139 (by decide) ?_
              exact mq_iret hx hb hr rfl hlocks hP hS (Option.some.inj hf) rfl dX12_count_169
          · replace hf := ite_t c_7 hf
            refine lv_aload_n hx hb dX12_count_124 rfl (lv_at hl 0 rfl) ?_
            refine mq_getr (Tt := TX12) (N := 26) (C := RX12) hx hb hts hiX12 hown hK hP hp rfl 0 1 (by decide) rfl hw1 (fun _ h9 => h9) dX12_count_125 ?_
            refine lv_iconst (v := 1) hx hb dX12_count_128 (by decide) ?_
            refine mq_iald hx hb hK hP (N := 193) (shTM_X12_1 hp) (by decide : mm_in 1 193 = true) dX12_count_129 ?_
            refine lv_goto (tgt := 169) hx hb dX12_count_130 (by decide) ?_
            exact mq_iret hx hb hr rfl hlocks hP hS (Option.some.inj hf) rfl dX12_count_169
        · replace hf := ite_t c_6 hf
          refine lv_aload_n hx hb dX12_count_110 rfl (lv_at hl 0 rfl) ?_
          refine mq_getr (Tt := TX12) (N := 26) (C := RX12) hx hb hts hiX12 hown hK hP hp rfl 0 1 (by decide) rfl hw1 (fun _ h9 => h9) dX12_count_111 ?_
          refine lv_iconst (v := 0) hx hb dX12_count_114 (by decide) ?_
          refine mq_iald hx hb hK hP (N := 193) (shTM_X12_1 hp) (by decide : mm_in 0 193 = true) dX12_count_115 ?_
          refine lv_goto (tgt := 169) hx hb dX12_count_116 (by decide) ?_
          exact mq_iret hx hb hr rfl hlocks hP hS (Option.some.inj hf) rfl dX12_count_169
      · replace hf := ite_f c_5 hf
        refine lv_iload hx hb dX12_count_77 (lv_at hl 4 rfl) ?_
        refine lv_aload_n hx hb dX12_count_79 rfl (lv_at hl 0 rfl) ?_
        refine mq_getr (Tt := TX12) (N := 26) (C := RX12) hx hb hts hiX12 hown hK hP hp rfl 0 1 (by decide) rfl hw1 (fun _ h9 => h9) dX12_count_80 ?_
        refine lv_bipush (v := 117) hx hb dX12_count_83 (by decide) ?_
        refine lv_iload hx hb dX12_count_85 (lv_at hl 5 rfl) ?_
        refine lv_iadd hx hb dX12_count_87 ?_
        obtain ⟨h_11, hf⟩ := og_some hf
        refine mq_iald hx hb hK hP (N := 193) (shTM_X12_1 hp) h_11 dX12_count_88 ?_
        refine lv_if_ge (tgt := 96) hx hb dX12_count_89 (by decide) (fun c_12 => ?_) (fun c_12 => ?_)
        · replace hf := ite_t c_12 hf
          refine lv_iconst (v := 1) hx hb dX12_count_96 (by decide) ?_
          refine lv_iadd hx hb dX12_count_97 ?_
          obtain ⟨x4_13, ex4_13, hf⟩ := mv_some hf
          refine mq_nm ex4_13 ?_
          refine lv_istore (lv' := [(4, .int x4_13), (0, .ref (ad 0)), (1, .int x1), (2, .int x2), (3, .int x3), (5, .int x5)]) hx hb dX12_count_98 hl (by decide) rfl (fun ls hl => ?_)
          obtain ⟨x5_14, ex5_14, hf⟩ := mv_some hf
          refine lv_iinc (v := x5_14) (lv' := [(5, .int x5_14), (4, .int x4_13), (0, .ref (ad 0)), (1, .int x1), (2, .int x2), (3, .int x3)]) hx hb dX12_count_100 hl (k := 5) rfl (by rw [ex5_14]; rfl) (by decide) rfl (fun ls hl => ?_)
          refine lv_goto (tgt := 70) hx hb dX12_count_103 (by decide) ?_
          exact ih x2 x3 x4_13 x5_14 H locs ls hP hS (lv_sub hl [2, 3, 4, 5, 1, 0] rfl) hf
        · replace hf := ite_f c_12 hf
          refine lv_iconst (v := 0) hx hb dX12_count_92 (by decide) ?_
          refine lv_goto (tgt := 97) hx hb dX12_count_93 (by decide) ?_
          refine lv_iadd hx hb dX12_count_97 ?_
          obtain ⟨x4_15, ex4_15, hf⟩ := mv_some hf
          refine mq_nm ex4_15 ?_
          refine lv_istore (lv' := [(4, .int x4_15), (0, .ref (ad 0)), (1, .int x1), (2, .int x2), (3, .int x3), (5, .int x5)]) hx hb dX12_count_98 hl (by decide) rfl (fun ls hl => ?_)
          obtain ⟨x5_16, ex5_16, hf⟩ := mv_some hf
          refine lv_iinc (v := x5_16) (lv' := [(5, .int x5_16), (4, .int x4_15), (0, .ref (ad 0)), (1, .int x1), (2, .int x2), (3, .int x3)]) hx hb dX12_count_100 hl (k := 5) rfl (by rw [ex5_16]; rfl) (by decide) rfl (fun ls hl => ?_)
          refine lv_goto (tgt := 70) hx hb dX12_count_103 (by decide) ?_
          exact ih x2 x3 x4_15 x5_16 H locs ls hP hS (lv_sub hl [2, 3, 4, 5, 1, 0] rfl) hf
  have hc21 : ∀ (n : Nat), ∀ (x2 : Int32) (x3 : Int32) (x4 : Int32) (H : Heap) (locs : List Loc) (ls : Array Slot), va_P D vwCl (mm_L TM ad cy g) H → va_S (mm_A TM ad) s.heap H locs → lv_has ls 6 [(0, .ref (ad 0)), (1, .int x1), (2, .int x2), (3, .int x3), (4, .int x4)] → f_X12_count_c21 x1 n x2 x3 x4 g = some r0 → W p l e (headSpec wsX12_count (rm_X12_count)).room s m args below meth c H locs 0 0 (MQ below (mm_Qi D TM ad cy r0 g) args s 0 0 (mm_A TM ad)) (F0 m 21 ls []) := by
    intro n
    induction n with
    | zero =>
      intro x2 x3 x4 H locs ls hP hS hl hf
      rw [f_X12_count_c21] at hf
      cases hf
    | succ n ih =>
      intro x2 x3 x4 H locs ls hP hS hl hf
      rw [f_X12_count_c21] at hf
      refine lv_iload hx hb dX12_count_21 (lv_at hl 4 rfl) ?_
      refine lv_aload_n hx hb dX12_count_23 rfl (lv_at hl 0 rfl) ?_
      refine mq_getr (Tt := TX12) (N := 26) (C := RX12) hx hb hts hiX12 hown hK hP hp rfl 0 1 (by decide) rfl hw1 (fun _ h9 => h9) dX12_count_24 ?_
      refine lv_iconst (v := 1) hx hb dX12_count_27 (by decide) ?_
      refine mq_iald hx hb hK hP (N := 193) (shTM_X12_1 hp) (by decide : mm_in 1 193 = true) dX12_count_28 ?_
      refine lv_icmp_ge (tgt := 64) hx hb dX12_count_29 (by decide) (fun c_4 => ?_) (fun c_4 => ?_)
      · replace hf := ite_t c_4 hf
        refine lv_iconst (v := 0) hx hb dX12_count_64 (by decide) ?_
        refine lv_istore (lv' := [(4, .int 0), (0, .ref (ad 0)), (1, .int x1), (2, .int x2), (3, .int x3)]) hx hb dX12_count_65 hl (by decide) rfl (fun ls hl => ?_)
        refine lv_iconst (v := 0) hx hb dX12_count_67 (by decide) ?_
        refine lv_istore (lv' := [(5, .int 0), (4, .int 0), (0, .ref (ad 0)), (1, .int x1), (2, .int x2), (3, .int x3)]) hx hb dX12_count_68 hl (by decide) rfl (fun ls hl => ?_)
        exact hc70 FU x2 x3 0 0 H locs ls hP hS (lv_sub hl [2, 3, 4, 5, 1, 0] rfl) hf
      · replace hf := ite_f c_4 hf
        refine lv_iload_n hx hb dX12_count_32 rfl (lv_at hl 2 rfl) ?_
        refine lv_aload_n hx hb dX12_count_33 rfl (lv_at hl 0 rfl) ?_
        refine mq_getr (Tt := TX12) (N := 26) (C := RX12) hx hb hts hiX12 hown hK hP hp rfl 0 1 (by decide) rfl hw1 (fun _ h9 => h9) dX12_count_34 ?_
        refine lv_bipush (v := 79) hx hb dX12_count_37 (by decide) ?_
        refine lv_iload hx hb dX12_count_39 (lv_at hl 4 rfl) ?_
        refine lv_iadd hx hb dX12_count_41 ?_
        obtain ⟨h_17, hf⟩ := og_some hf
        refine mq_iald hx hb hK hP (N := 193) (shTM_X12_1 hp) h_17 dX12_count_42 ?_
        refine lv_iadd hx hb dX12_count_43 ?_
        obtain ⟨x2_18, ex2_18, hf⟩ := mv_some hf
        refine mq_nm ex2_18 ?_
        refine lv_istore_n (lv' := [(2, .int x2_18), (0, .ref (ad 0)), (1, .int x1), (3, .int x3), (4, .int x4)]) hx hb dX12_count_44 rfl hl (by decide) rfl (fun ls hl => ?_)
        refine lv_iload_n hx hb dX12_count_45 rfl (lv_at hl 3 rfl) ?_
        refine lv_aload_n hx hb dX12_count_46 rfl (lv_at hl 1 rfl) ?_
        refine mq_getr (Tt := TX12) (N := 26) (C := RX12) hx hb hts hiX12 hown hK hP hp rfl 0 1 (by decide) rfl hw1 (fun _ h9 => h9) dX12_count_47 ?_
        refine lv_bipush (v := 63) hx hb dX12_count_50 (by decide) ?_
        refine lv_iload hx hb dX12_count_52 (lv_at hl 4 rfl) ?_
        refine lv_iadd hx hb dX12_count_54 ?_
        obtain ⟨h_19, hf⟩ := og_some hf
        refine mq_iald hx hb hK hP (N := 193) (shTM_X12_1 hp) h_19 dX12_count_55 ?_
        refine lv_iadd hx hb dX12_count_56 ?_
        obtain ⟨x3_20, ex3_20, hf⟩ := mv_some hf
        refine mq_nm ex3_20 ?_
        refine lv_istore_n (lv' := [(3, .int x3_20), (2, .int x2_18), (0, .ref (ad 0)), (1, .int x1), (4, .int x4)]) hx hb dX12_count_57 rfl hl (by decide) rfl (fun ls hl => ?_)
        obtain ⟨x4_21, ex4_21, hf⟩ := mv_some hf
        refine lv_iinc (v := x4_21) (lv' := [(4, .int x4_21), (3, .int x3_20), (2, .int x2_18), (0, .ref (ad 0)), (1, .int x1)]) hx hb dX12_count_58 hl (k := 4) rfl (by rw [ex4_21]; rfl) (by decide) rfl (fun ls hl => ?_)
        refine lv_goto (tgt := 21) hx hb dX12_count_61 (by decide) ?_
        exact ih x2_18 x3_20 x4_21 H locs ls hP hS (lv_sub hl [3, 4, 2, 1, 0] rfl) hf
  unfold f_X12_count at hf
  have hH9 : ∀ (H : Heap) (locs : List Loc), H = s.heap → locs = [] → va_P D vwCl (mm_L TM ad cy g) H → va_S (mm_A TM ad) s.heap H locs → W p l e (headSpec wsX12_count (rm_X12_count)).room s m args below meth c H locs 0 0 (MQ below (mm_Qi D TM ad cy r0 g) args s 0 0 (mm_A TM ad)) (F0 m 0 ls []) := by
    intro H locs hH9 hL9 hP hS
    clear hH9 hL9
    refine lv_iload_n hx hb dX12_count_0 rfl (lv_at hl 1 rfl) ?_
    refine lv_i2l hx hb dX12_count_1 rfl ?_
    refine lv_lconst (v := 0) hx hb dX12_count_2 (by decide) ?_
    refine lv_ldc2 (v := 5) hx hb hown hw0 dX12_count_3 ?_
    obtain ⟨r_1, hr_2, hf⟩ := op_some hf
    refine mq_calli (va_runS (As := [.long (x1.toInt64), .long 0, .long 5]) (rest := []) ⟨hx, hb, hml, hown, hts⟩ (c_X12_in l D ad cy (x1.toInt64) 0 5 g r_1 hr_2) (va_cwS 3 hts gX12_count_X12_in rfl rfl rfl (by decide +kernel) ⟨Nat.le_of_ble_eq_true rfl, Nat.le_of_ble_eq_true rfl⟩) (mq_preS mm_zOk0 hK hP hI hZ hS) rfl rfl hl.1 rfl (lv_room (Nat.le_of_ble_eq_true rfl)) dX12_count_6 ⟨Nat.le_refl _, Nat.le_refl _⟩) hS (fun H locs hP hS => ?_)
    refine lv_if_ne (tgt := 14) hx hb dX12_count_9 (by decide) (fun c_3 => ?_) (fun c_3 => ?_)
    · replace hf := ite_f c_3 hf
      refine lv_iconst (v := 0) hx hb dX12_count_14 (by decide) ?_
      refine lv_istore_n (lv' := [(2, .int 0), (0, .ref (ad 0)), (1, .int x1)]) hx hb dX12_count_15 rfl hl (by decide) rfl (fun ls hl => ?_)
      refine lv_iconst (v := 0) hx hb dX12_count_16 (by decide) ?_
      refine lv_istore_n (lv' := [(3, .int 0), (2, .int 0), (0, .ref (ad 0)), (1, .int x1)]) hx hb dX12_count_17 rfl hl (by decide) rfl (fun ls hl => ?_)
      refine lv_iconst (v := 0) hx hb dX12_count_18 (by decide) ?_
      refine lv_istore (lv' := [(4, .int 0), (3, .int 0), (2, .int 0), (0, .ref (ad 0)), (1, .int x1)]) hx hb dX12_count_19 hl (by decide) rfl (fun ls hl => ?_)
      exact hc21 FU 0 0 0 H locs ls hP hS (lv_sub hl [3, 4, 2, 1, 0] rfl) hf
    · replace hf := ite_t c_3 hf
      refine lv_iconst (v := (-1)) hx hb dX12_count_12 (by decide) ?_
      exact mq_iret hx hb hr rfl hlocks hP hS (Option.some.inj hf) rfl dX12_count_13
  exact hH9 s.heap [] rfl rfl hP hS
abbrev rm_X12_isFor : Room := ({ frames := 2, cells := 0, slots := 0, locals := 46 } : Room)
set_option maxHeartbeats 4000000 in
set_option maxRecDepth 100000 in
theorem c_X12_isFor (l : Launch) (D : va_G) (ad : Nat → Nat) (cy : Nat → ClassId) (x1 : Int32) (x2 : Int32) (g : Mm) (hp : TM[0]? = some sX12) (r0 : Int32) (hf : f_X12_isFor x1 x2 g = some r0) : Met l yX12_isFor wsX12_isFor rm_X12_isFor (va_Pc [.ref (ad 0), .int x1, .int x2] (mm_pre mm_Z0 D TM ad cy g)) (mm_Qi D TM ad cy r0 g) 0 0 (mm_A TM ad) := by
  refine Met.ofW (cc := cX12_isFor) (maxL := 3) (ret := (some .boolean)) (by decide) rfl ?_
  intro p e s m args below meth c s₁ B hml hv
  obtain ⟨hargs, hP, hK, hI, hZ⟩ := hv
  have hx := B.exec
  have hb := B.bytes
  have hr := B.returns
  have hts := atoms_spec (ws := wsX12_isFor) B.pre
  have hown : s.vm.findClass RX12 = some m.cls := findClass_of_methodNamed B.named
  have hlocks := B.notSynchronized
  have hw0 := hts (.fieldLink RX12 7 "LeftShoesModel" "now" "[I") (by decide +kernel)
  have hiX12 : ∀ w ∈ wsX120, w ∈ wsX12_isFor := by decide +kernel
  rw [show entryFrame m args 3 = F0 m 0 ((lg_sl ([.ref (ad 0), .int x1, .int x2] : List Value) ++ List.replicate (3 - (lg_sl ([.ref (ad 0), .int x1, .int x2] : List Value)).length) Slot.unset).toArray) [] from by rw [hargs]; exact lg_entry_eq m _ _]
  have hl := lv_entry ([.ref (ad 0), .int x1, .int x2] : List Value) (n := 3) (by exact Nat.le_of_ble_eq_true rfl)
  generalize (lg_sl ([.ref (ad 0), .int x1, .int x2] : List Value) ++ List.replicate (3 - (lg_sl ([.ref (ad 0), .int x1, .int x2] : List Value)).length) Slot.unset).toArray = ls at hl ⊢
  have hl : lv_has ls 3 [(0, .ref (ad 0)), (1, .int x1), (2, .int x2)] := by exact hl
  have hS : va_S (mm_A TM ad) s.heap s.heap [] := va_S.rf
  clear hargs
  unfold f_X12_isFor at hf
  have hH9 : ∀ (H : Heap) (locs : List Loc), H = s.heap → locs = [] → va_P D vwCl (mm_L TM ad cy g) H → va_S (mm_A TM ad) s.heap H locs → W p l e (headSpec wsX12_isFor (rm_X12_isFor)).room s m args below meth c H locs 0 0 (MQ below (mm_Qi D TM ad cy r0 g) args s 0 0 (mm_A TM ad)) (F0 m 0 ls []) := by
    intro H locs hH9 hL9 hP hS
    clear hH9 hL9
    refine lv_aload_n hx hb dX12_isFor_0 rfl (lv_at hl 0 rfl) ?_
    refine lv_iload_n hx hb dX12_isFor_1 rfl (lv_at hl 1 rfl) ?_
    obtain ⟨r_1, hr_2, hf⟩ := op_some hf
    refine mq_calli (va_runV (As := [.int x1]) (rest := []) ⟨hx, hb, hml, hown, hts⟩ (c_X12_isShoe l D ad cy x1 g hp r_1 hr_2) (cwV 1 hts gX12_isFor_X12_isShoe rfl rfl rfl (by decide +kernel) ⟨Nat.le_of_ble_eq_true rfl, Nat.le_of_ble_eq_true rfl⟩) (mq_preV (q := (RX12, TX12, 26)) mm_zOk0 hK hP hI hZ hS hp rfl) rfl rfl hl.1 rfl (lv_room (Nat.le_of_ble_eq_true rfl)) dX12_isFor_2 ⟨Nat.le_refl _, Nat.le_refl _⟩) hS (fun H locs hP hS => ?_)
    refine lv_if_eq (tgt := 25) hx hb dX12_isFor_5 (by decide) (fun c_3 => ?_) (fun c_3 => ?_)
    · replace hf := ite_t c_3 hf
      refine lv_iconst (v := 0) hx hb dX12_isFor_25 (by decide) ?_
      exact mq_iret hx hb hr (by decide +kernel) hlocks hP hS (Option.some.inj hf) rfl dX12_isFor_26
    · replace hf := ite_f c_3 hf
      refine lv_aload_n hx hb dX12_isFor_8 rfl (lv_at hl 0 rfl) ?_
      refine mq_getr (Tt := TX12) (N := 26) (C := RX12) hx hb hts hiX12 hown hK hP hp rfl 0 1 (by decide) rfl hw0 (fun _ h9 => h9) dX12_isFor_9 ?_
      refine lv_bipush (v := 31) hx hb dX12_isFor_12 (by decide) ?_
      refine lv_iload_n hx hb dX12_isFor_14 rfl (lv_at hl 1 rfl) ?_
      refine lv_iadd hx hb dX12_isFor_15 ?_
      obtain ⟨h_4, hf⟩ := og_some hf
      refine mq_iald hx hb hK hP (N := 193) (shTM_X12_1 hp) h_4 dX12_isFor_16 ?_
      refine lv_iload_n hx hb dX12_isFor_17 rfl (lv_at hl 2 rfl) ?_
      refine lv_icmp_ne (tgt := 25) hx hb dX12_isFor_18 (by decide) (fun c_5 => ?_) (fun c_5 => ?_)
      · replace hf := ite_f c_5 hf
        refine lv_iconst (v := 0) hx hb dX12_isFor_25 (by decide) ?_
        exact mq_iret hx hb hr (by decide +kernel) hlocks hP hS (Option.some.inj hf) rfl dX12_isFor_26
      · replace hf := ite_t c_5 hf
        refine lv_iconst (v := 1) hx hb dX12_isFor_21 (by decide) ?_
        refine lv_goto (tgt := 26) hx hb dX12_isFor_22 (by decide) ?_
        exact mq_iret hx hb hr (by decide +kernel) hlocks hP hS (Option.some.inj hf) rfl dX12_isFor_26
  exact hH9 s.heap [] rfl rfl hP hS
abbrev rm_X12_more : Room := ({ frames := 0, cells := 0, slots := 0, locals := 0 } : Room)
set_option maxHeartbeats 4000000 in
set_option maxRecDepth 100000 in
theorem c_X12_more (l : Launch) (D : va_G) (ad : Nat → Nat) (cy : Nat → ClassId) (x1 : Int32) (x2 : Int32) (g : Mm) (hp : TM[0]? = some sX12) (r0 : Int32) (hf : f_X12_more x1 x2 g = some r0) : Met l yX12_more wsX12_more rm_X12_more (va_Pc [.ref (ad 0), .int x1, .int x2] (mm_pre mm_Z0 D TM ad cy g)) (mm_Qi D TM ad cy r0 g) 0 0 (mm_A TM ad) := by
  refine Met.ofW (cc := cX12_more) (maxL := 4) (ret := (some .int)) (by decide) rfl ?_
  intro p e s m args below meth c s₁ B hml hv
  obtain ⟨hargs, hP, hK, hI, hZ⟩ := hv
  have hx := B.exec
  have hb := B.bytes
  have hr := B.returns
  have hts := atoms_spec (ws := wsX12_more) B.pre
  have hown : s.vm.findClass RX12 = some m.cls := findClass_of_methodNamed B.named
  have hlocks := B.notSynchronized
  have hw0 := hts (.fieldLink RX12 7 "LeftShoesModel" "now" "[I") (by decide +kernel)
  have hiX12 : ∀ w ∈ wsX120, w ∈ wsX12_more := by decide +kernel
  rw [show entryFrame m args 4 = F0 m 0 ((lg_sl ([.ref (ad 0), .int x1, .int x2] : List Value) ++ List.replicate (4 - (lg_sl ([.ref (ad 0), .int x1, .int x2] : List Value)).length) Slot.unset).toArray) [] from by rw [hargs]; exact lg_entry_eq m _ _]
  have hl := lv_entry ([.ref (ad 0), .int x1, .int x2] : List Value) (n := 4) (by exact Nat.le_of_ble_eq_true rfl)
  generalize (lg_sl ([.ref (ad 0), .int x1, .int x2] : List Value) ++ List.replicate (4 - (lg_sl ([.ref (ad 0), .int x1, .int x2] : List Value)).length) Slot.unset).toArray = ls at hl ⊢
  have hl : lv_has ls 4 [(0, .ref (ad 0)), (1, .int x1), (2, .int x2)] := by exact hl
  have hS : va_S (mm_A TM ad) s.heap s.heap [] := va_S.rf
  clear hargs
  have hc17 : ∀ (sx0 : Int32) (H : Heap) (locs : List Loc) (ls : Array Slot), va_P D vwCl (mm_L TM ad cy g) H → va_S (mm_A TM ad) s.heap H locs → lv_has ls 4 [(0, .ref (ad 0)), (1, .int x1), (2, .int x2)] → f_X12_more_c17 x2 sx0 g = some r0 → W p l e (headSpec wsX12_more (rm_X12_more)).room s m args below meth c H locs 0 0 (MQ below (mm_Qi D TM ad cy r0 g) args s 0 0 (mm_A TM ad)) (F0 m 17 ls [.int sx0]) := by
    intro sx0 H locs ls hP hS hl hf
    unfold f_X12_more_c17 at hf
    refine lv_istore_n (lv' := [(3, .int sx0), (0, .ref (ad 0)), (1, .int x1), (2, .int x2)]) hx hb dX12_more_17 rfl hl (by decide) rfl (fun ls hl => ?_)
    refine lv_iload_n hx hb dX12_more_18 rfl (lv_at hl 0 rfl) ?_
    refine lv_iconst (v := 1) hx hb dX12_more_19 (by decide) ?_
    refine lv_icmp_ne (tgt := 27) hx hb dX12_more_20 (by decide) (fun c_3 => ?_) (fun c_3 => ?_)
    · replace hf := ite_f c_3 hf
      refine lv_iload_n hx hb dX12_more_27 rfl (lv_at hl 0 rfl) ?_
      refine lv_iconst (v := 2) hx hb dX12_more_28 (by decide) ?_
      refine lv_icmp_eq (tgt := 36) hx hb dX12_more_29 (by decide) (fun c_4 => ?_) (fun c_4 => ?_)
      · replace hf := ite_t c_4 hf
        refine lv_iload_n hx hb dX12_more_36 rfl (lv_at hl 3 rfl) ?_
        refine lv_iconst (v := 5) hx hb dX12_more_37 (by decide) ?_
        refine lv_icmp_ge (tgt := 45) hx hb dX12_more_38 (by decide) (fun c_5 => ?_) (fun c_5 => ?_)
        · replace hf := ite_t c_5 hf
          refine lv_bipush (v := (-2)) hx hb dX12_more_45 (by decide) ?_
          exact mq_iret hx hb hr rfl hlocks hP hS (Option.some.inj hf) rfl dX12_more_47
        · replace hf := ite_f c_5 hf
          refine lv_iconst (v := 1) hx hb dX12_more_41 (by decide) ?_
          refine lv_goto (tgt := 47) hx hb dX12_more_42 (by decide) ?_
          exact mq_iret hx hb hr rfl hlocks hP hS (Option.some.inj hf) rfl dX12_more_47
      · replace hf := ite_f c_4 hf
        refine lv_iconst (v := 0) hx hb dX12_more_32 (by decide) ?_
        refine lv_goto (tgt := 47) hx hb dX12_more_33 (by decide) ?_
        exact mq_iret hx hb hr rfl hlocks hP hS (Option.some.inj hf) rfl dX12_more_47
    · replace hf := ite_t c_3 hf
      refine lv_iconst (v := (-1)) hx hb dX12_more_23 (by decide) ?_
      refine lv_goto (tgt := 47) hx hb dX12_more_24 (by decide) ?_
      exact mq_iret hx hb hr rfl hlocks hP hS (Option.some.inj hf) rfl dX12_more_47
  unfold f_X12_more at hf
  have hH9 : ∀ (H : Heap) (locs : List Loc), H = s.heap → locs = [] → va_P D vwCl (mm_L TM ad cy g) H → va_S (mm_A TM ad) s.heap H locs → W p l e (headSpec wsX12_more (rm_X12_more)).room s m args below meth c H locs 0 0 (MQ below (mm_Qi D TM ad cy r0 g) args s 0 0 (mm_A TM ad)) (F0 m 0 ls []) := by
    intro H locs hH9 hL9 hP hS
    clear hH9 hL9
    refine lv_iload_n hx hb dX12_more_0 rfl (lv_at hl 1 rfl) ?_
    refine lv_if_ge (tgt := 8) hx hb dX12_more_1 (by decide) (fun c_1 => ?_) (fun c_1 => ?_)
    · replace hf := ite_t c_1 hf
      refine lv_aload_n hx hb dX12_more_8 rfl (lv_at hl 0 rfl) ?_
      refine mq_getr (Tt := TX12) (N := 26) (C := RX12) hx hb hts hiX12 hown hK hP hp rfl 0 1 (by decide) rfl hw0 (fun _ h9 => h9) dX12_more_9 ?_
      refine lv_bipush (v := 47) hx hb dX12_more_12 (by decide) ?_
      refine lv_iload_n hx hb dX12_more_14 rfl (lv_at hl 1 rfl) ?_
      refine lv_iadd hx hb dX12_more_15 ?_
      obtain ⟨h_2, hf⟩ := og_some hf
      refine mq_iald hx hb hK hP (N := 193) (shTM_X12_1 hp) h_2 dX12_more_16 ?_
      exact hc17 (g 1 (47 + x1).toNatClampNeg) H locs ls hP hS (lv_sub hl [0, 1, 2] rfl) hf
    · replace hf := ite_f c_1 hf
      refine lv_iconst (v := 0) hx hb dX12_more_4 (by decide) ?_
      refine lv_goto (tgt := 17) hx hb dX12_more_5 (by decide) ?_
      exact hc17 0 H locs ls hP hS (lv_sub hl [0, 1, 2] rfl) hf
  exact hH9 s.heap [] rfl rfl hP hS
abbrev rm_X12_minutesOf : Room := ({ frames := 1, cells := 0, slots := 0, locals := 23 } : Room)
set_option maxHeartbeats 4000000 in
set_option maxRecDepth 100000 in
theorem c_X12_minutesOf (l : Launch) (D : va_G) (ad : Nat → Nat) (cy : Nat → ClassId) (x1 : Int32) (x2 : Int32) (x3 : Int32) (x4 : Int32) (g : Mm) (hp : TM[0]? = some sX12) (r0 : Int32) (hf : f_X12_minutesOf x1 x2 x3 x4 g = some r0) : Met l yX12_minutesOf wsX12_minutesOf rm_X12_minutesOf (va_Pc [.ref (ad 0), .int x1, .int x2, .int x3, .int x4] (mm_pre mm_Z0 D TM ad cy g)) (mm_Qi D TM ad cy r0 g) 0 0 (mm_A TM ad) := by
  refine Met.ofW (cc := cX12_minutesOf) (maxL := 7) (ret := (some .int)) (by decide) rfl ?_
  intro p e s m args below meth c s₁ B hml hv
  obtain ⟨hargs, hP, hK, hI, hZ⟩ := hv
  have hx := B.exec
  have hb := B.bytes
  have hr := B.returns
  have hts := atoms_spec (ws := wsX12_minutesOf) B.pre
  have hown : s.vm.findClass RX12 = some m.cls := findClass_of_methodNamed B.named
  have hlocks := B.notSynchronized
  have hw0 := hts (.fieldLink RX12 7 "LeftShoesModel" "now" "[I") (by decide +kernel)
  have hiX12 : ∀ w ∈ wsX120, w ∈ wsX12_minutesOf := by decide +kernel
  rw [show entryFrame m args 7 = F0 m 0 ((lg_sl ([.ref (ad 0), .int x1, .int x2, .int x3, .int x4] : List Value) ++ List.replicate (7 - (lg_sl ([.ref (ad 0), .int x1, .int x2, .int x3, .int x4] : List Value)).length) Slot.unset).toArray) [] from by rw [hargs]; exact lg_entry_eq m _ _]
  have hl := lv_entry ([.ref (ad 0), .int x1, .int x2, .int x3, .int x4] : List Value) (n := 7) (by exact Nat.le_of_ble_eq_true rfl)
  generalize (lg_sl ([.ref (ad 0), .int x1, .int x2, .int x3, .int x4] : List Value) ++ List.replicate (7 - (lg_sl ([.ref (ad 0), .int x1, .int x2, .int x3, .int x4] : List Value)).length) Slot.unset).toArray = ls at hl ⊢
  have hl : lv_has ls 7 [(0, .ref (ad 0)), (1, .int x1), (2, .int x2), (3, .int x3), (4, .int x4)] := by exact hl
  have hS : va_S (mm_A TM ad) s.heap s.heap [] := va_S.rf
  clear hargs
  have hc58 : ∀ (x5 : Int32) (sx0 : Int32) (H : Heap) (locs : List Loc) (ls : Array Slot), va_P D vwCl (mm_L TM ad cy g) H → va_S (mm_A TM ad) s.heap H locs → lv_has ls 7 [(0, .ref (ad 0)), (1, .int x1), (2, .int x2), (3, .int x3), (4, .int x4), (5, .int x5)] → f_X12_minutesOf_c58 x3 x4 x5 sx0 g = some r0 → W p l e (headSpec wsX12_minutesOf (rm_X12_minutesOf)).room s m args below meth c H locs 0 0 (MQ below (mm_Qi D TM ad cy r0 g) args s 0 0 (mm_A TM ad)) (F0 m 58 ls [.int sx0]) := by
    intro x5 sx0 H locs ls hP hS hl hf
    unfold f_X12_minutesOf_c58 at hf
    refine lv_istore (lv' := [(6, .int sx0), (0, .ref (ad 0)), (1, .int x1), (2, .int x2), (3, .int x3), (4, .int x4), (5, .int x5)]) hx hb dX12_minutesOf_58 hl (by decide) rfl (fun ls hl => ?_)
    refine lv_iload hx hb dX12_minutesOf_60 (lv_at hl 0 rfl) ?_
    refine lv_aload_n hx hb dX12_minutesOf_62 rfl (lv_at hl 1 rfl) ?_
    refine lv_iload_n hx hb dX12_minutesOf_63 rfl (lv_at hl 4 rfl) ?_
    refine lv_iload hx hb dX12_minutesOf_64 (lv_at hl 6 rfl) ?_
    obtain ⟨r_6, hr_7, hf⟩ := op_some hf
    refine mq_calli (va_runV (As := [.int x3, .int x5]) (rest := [.int sx0]) ⟨hx, hb, hml, hown, hts⟩ (c_X12_more l D ad cy x3 x5 g hp r_6 hr_7) (cwV 2 hts gX12_minutesOf_X12_more rfl rfl rfl (by decide +kernel) ⟨Nat.le_of_ble_eq_true rfl, Nat.le_of_ble_eq_true rfl⟩) (mq_preV (q := (RX12, TX12, 26)) mm_zOk0 hK hP hI hZ hS hp rfl) rfl rfl hl.1 rfl (lv_room (Nat.le_of_ble_eq_true rfl)) dX12_minutesOf_66 ⟨Nat.le_refl _, Nat.le_refl _⟩) hS (fun H locs hP hS => ?_)
    refine lv_iadd hx hb dX12_minutesOf_69 ?_
    refine lv_aload_n hx hb dX12_minutesOf_70 rfl (lv_at hl 1 rfl) ?_
    refine lv_iload hx hb dX12_minutesOf_71 (lv_at hl 5 rfl) ?_
    refine lv_iload hx hb dX12_minutesOf_73 (lv_at hl 6 rfl) ?_
    obtain ⟨r_8, hr_9, hf⟩ := op_some hf
    refine mq_calli (va_runV (As := [.int x4, .int x5]) (rest := [.int (sx0 + r_6)]) ⟨hx, hb, hml, hown, hts⟩ (c_X12_more l D ad cy x4 x5 g hp r_8 hr_9) (cwV 2 hts gX12_minutesOf_X12_more rfl rfl rfl (by decide +kernel) ⟨Nat.le_of_ble_eq_true rfl, Nat.le_of_ble_eq_true rfl⟩) (mq_preV (q := (RX12, TX12, 26)) mm_zOk0 hK hP hI hZ hS hp rfl) rfl rfl hl.1 rfl (lv_room (Nat.le_of_ble_eq_true rfl)) dX12_minutesOf_75 ⟨Nat.le_refl _, Nat.le_refl _⟩) hS (fun H locs hP hS => ?_)
    refine lv_iadd hx hb dX12_minutesOf_78 ?_
    exact mq_iret hx hb hr rfl hlocks hP hS (Option.some.inj hf) rfl dX12_minutesOf_79
  unfold f_X12_minutesOf at hf
  have hH9 : ∀ (H : Heap) (locs : List Loc), H = s.heap → locs = [] → va_P D vwCl (mm_L TM ad cy g) H → va_S (mm_A TM ad) s.heap H locs → W p l e (headSpec wsX12_minutesOf (rm_X12_minutesOf)).room s m args below meth c H locs 0 0 (MQ below (mm_Qi D TM ad cy r0 g) args s 0 0 (mm_A TM ad)) (F0 m 0 ls []) := by
    intro H locs hH9 hL9 hP hS
    clear hH9 hL9
    refine lv_aload_n hx hb dX12_minutesOf_0 rfl (lv_at hl 0 rfl) ?_
    refine mq_getr (Tt := TX12) (N := 26) (C := RX12) hx hb hts hiX12 hown hK hP hp rfl 0 1 (by decide) rfl hw0 (fun _ h9 => h9) dX12_minutesOf_1 ?_
    refine lv_bipush (v := 99) hx hb dX12_minutesOf_4 (by decide) ?_
    refine lv_iload_n hx hb dX12_minutesOf_6 rfl (lv_at hl 2 rfl) ?_
    refine lv_iadd hx hb dX12_minutesOf_7 ?_
    obtain ⟨h_1, hf⟩ := og_some hf
    refine mq_iald hx hb hK hP (N := 193) (shTM_X12_1 hp) h_1 dX12_minutesOf_8 ?_
    obtain ⟨x5_2, ex5_2, hf⟩ := mv_some hf
    refine mq_nm ex5_2 ?_
    refine lv_istore (lv' := [(5, .int x5_2), (0, .ref (ad 0)), (1, .int x1), (2, .int x2), (3, .int x3), (4, .int x4)]) hx hb dX12_minutesOf_9 hl (by decide) rfl (fun ls hl => ?_)
    refine lv_iload_n hx hb dX12_minutesOf_11 rfl (lv_at hl 2 rfl) ?_
    refine lv_if_ne (tgt := 23) hx hb dX12_minutesOf_12 (by decide) (fun c_3 => ?_) (fun c_3 => ?_)
    · replace hf := ite_f c_3 hf
      refine lv_iload_n hx hb dX12_minutesOf_23 rfl (lv_at hl 2 rfl) ?_
      refine lv_iconst (v := 1) hx hb dX12_minutesOf_24 (by decide) ?_
      refine lv_icmp_ne (tgt := 36) hx hb dX12_minutesOf_25 (by decide) (fun c_4 => ?_) (fun c_4 => ?_)
      · replace hf := ite_f c_4 hf
        refine lv_iload_n hx hb dX12_minutesOf_36 rfl (lv_at hl 2 rfl) ?_
        refine lv_iconst (v := 2) hx hb dX12_minutesOf_37 (by decide) ?_
        refine lv_icmp_ne (tgt := 51) hx hb dX12_minutesOf_38 (by decide) (fun c_5 => ?_) (fun c_5 => ?_)
        · replace hf := ite_f c_5 hf
          refine lv_bipush (v := 30) hx hb dX12_minutesOf_51 (by decide) ?_
          refine lv_iconst (v := 3) hx hb dX12_minutesOf_53 (by decide) ?_
          refine lv_iload hx hb dX12_minutesOf_54 (lv_at hl 0 rfl) ?_
          refine lv_imul hx hb dX12_minutesOf_56 ?_
          refine lv_iadd hx hb dX12_minutesOf_57 ?_
          exact hc58 x5_2 (30 + (3 * x5_2)) H locs ls hP hS (lv_sub hl [1, 2, 3, 4, 5, 0] rfl) hf
        · replace hf := ite_t c_5 hf
          refine lv_bipush (v := 40) hx hb dX12_minutesOf_41 (by decide) ?_
          refine lv_iconst (v := 2) hx hb dX12_minutesOf_43 (by decide) ?_
          refine lv_iload hx hb dX12_minutesOf_44 (lv_at hl 0 rfl) ?_
          refine lv_imul hx hb dX12_minutesOf_46 ?_
          refine lv_iadd hx hb dX12_minutesOf_47 ?_
          refine lv_goto (tgt := 58) hx hb dX12_minutesOf_48 (by decide) ?_
          exact hc58 x5_2 (40 + (2 * x5_2)) H locs ls hP hS (lv_sub hl [1, 2, 3, 4, 5, 0] rfl) hf
      · replace hf := ite_t c_4 hf
        refine lv_bipush (v := 26) hx hb dX12_minutesOf_28 (by decide) ?_
        refine lv_iload hx hb dX12_minutesOf_30 (lv_at hl 0 rfl) ?_
        refine lv_iadd hx hb dX12_minutesOf_32 ?_
        refine lv_goto (tgt := 58) hx hb dX12_minutesOf_33 (by decide) ?_
        exact hc58 x5_2 (26 + x5_2) H locs ls hP hS (lv_sub hl [1, 2, 3, 4, 5, 0] rfl) hf
    · replace hf := ite_t c_3 hf
      refine lv_bipush (v := 20) hx hb dX12_minutesOf_15 (by decide) ?_
      refine lv_iload hx hb dX12_minutesOf_17 (lv_at hl 0 rfl) ?_
      refine lv_iadd hx hb dX12_minutesOf_19 ?_
      refine lv_goto (tgt := 58) hx hb dX12_minutesOf_20 (by decide) ?_
      exact hc58 x5_2 (20 + x5_2) H locs ls hP hS (lv_sub hl [1, 2, 3, 4, 5, 0] rfl) hf
  exact hH9 s.heap [] rfl rfl hP hS
abbrev rm_X12_minutes : Room := ({ frames := 3, cells := 0, slots := 0, locals := 68 } : Room)
set_option maxHeartbeats 4000000 in
set_option maxRecDepth 100000 in
theorem c_X12_minutes (l : Launch) (D : va_G) (ad : Nat → Nat) (cy : Nat → ClassId) (x1 : Int32) (x2 : Int32) (x3 : Int32) (x4 : Int32) (g : Mm) (hp : TM[0]? = some sX12) (r0 : Int32) (hf : f_X12_minutes x1 x2 x3 x4 g = some r0) : Met l yX12_minutes wsX12_minutes rm_X12_minutes (va_Pc [.ref (ad 0), .int x1, .int x2, .int x3, .int x4] (mm_pre mm_Z0 D TM ad cy g)) (mm_Qi D TM ad cy r0 g) 0 0 (mm_A TM ad) := by
  refine Met.ofW (cc := cX12_minutes) (maxL := 7) (ret := (some .int)) (by decide) rfl ?_
  intro p e s m args below meth c s₁ B hml hv
  obtain ⟨hargs, hP, hK, hI, hZ⟩ := hv
  have hx := B.exec
  have hb := B.bytes
  have hr := B.returns
  have hts := atoms_spec (ws := wsX12_minutes) B.pre
  have hown : s.vm.findClass RX12 = some m.cls := findClass_of_methodNamed B.named
  have hlocks := B.notSynchronized
  have hw0 := hts (.constantLong RX12 79 (3)) (by decide +kernel)
  have hw1 := hts (.constantLong RX12 95 (8)) (by decide +kernel)
  have hw2 := hts (.fieldLink RX12 7 "LeftShoesModel" "now" "[I") (by decide +kernel)
  have hiX12 : ∀ w ∈ wsX120, w ∈ wsX12_minutes := by decide +kernel
  rw [show entryFrame m args 7 = F0 m 0 ((lg_sl ([.ref (ad 0), .int x1, .int x2, .int x3, .int x4] : List Value) ++ List.replicate (7 - (lg_sl ([.ref (ad 0), .int x1, .int x2, .int x3, .int x4] : List Value)).length) Slot.unset).toArray) [] from by rw [hargs]; exact lg_entry_eq m _ _]
  have hl := lv_entry ([.ref (ad 0), .int x1, .int x2, .int x3, .int x4] : List Value) (n := 7) (by exact Nat.le_of_ble_eq_true rfl)
  generalize (lg_sl ([.ref (ad 0), .int x1, .int x2, .int x3, .int x4] : List Value) ++ List.replicate (7 - (lg_sl ([.ref (ad 0), .int x1, .int x2, .int x3, .int x4] : List Value)).length) Slot.unset).toArray = ls at hl ⊢
  have hl : lv_has ls 7 [(0, .ref (ad 0)), (1, .int x1), (2, .int x2), (3, .int x3), (4, .int x4)] := by exact hl
  have hS : va_S (mm_A TM ad) s.heap s.heap [] := va_S.rf
  clear hargs
  have hc180 : ∀ (x6 : Int32) (H : Heap) (locs : List Loc) (ls : Array Slot), va_P D vwCl (mm_L TM ad cy g) H → va_S (mm_A TM ad) s.heap H locs → lv_has ls 7 [(0, .ref (ad 0)), (1, .int x1), (2, .int x2), (3, .int x3), (4, .int x4), (6, .int x6)] → f_X12_minutes_c180 x1 x2 x3 x4 x6 g = some r0 → W p l e (headSpec wsX12_minutes (rm_X12_minutes)).room s m args below meth c H locs 0 0 (MQ below (mm_Qi D TM ad cy r0 g) args s 0 0 (mm_A TM ad)) (F0 m 180 ls []) := by
    intro x6 H locs ls hP hS hl hf
    unfold f_X12_minutes_c180 at hf
    refine lv_iload hx hb dX12_minutes_180 (lv_at hl 5 rfl) ?_
    refine lv_if_eq (tgt := 197) hx hb dX12_minutes_182 (by decide) (fun c_10 => ?_) (fun c_10 => ?_)
    · replace hf := ite_t c_10 hf
      refine lv_iconst (v := (-1)) hx hb dX12_minutes_197 (by decide) ?_
      exact mq_iret hx hb hr rfl hlocks hP hS (Option.some.inj hf) rfl dX12_minutes_198
    · replace hf := ite_f c_10 hf
      refine lv_aload_n hx hb dX12_minutes_185 rfl (lv_at hl 0 rfl) ?_
      refine lv_iload_n hx hb dX12_minutes_186 rfl (lv_at hl 1 rfl) ?_
      refine lv_iload_n hx hb dX12_minutes_187 rfl (lv_at hl 2 rfl) ?_
      refine lv_iload_n hx hb dX12_minutes_188 rfl (lv_at hl 3 rfl) ?_
      refine lv_iload hx hb dX12_minutes_189 (lv_at hl 4 rfl) ?_
      obtain ⟨r_11, hr_12, hf⟩ := op_some hf
      refine mq_calli (va_runV (As := [.int x1, .int x2, .int x3, .int x4]) (rest := []) ⟨hx, hb, hml, hown, hts⟩ (c_X12_minutesOf l D ad cy x1 x2 x3 x4 g hp r_11 hr_12) (cwV 4 hts gX12_minutes_X12_minutesOf rfl rfl rfl (by decide +kernel) ⟨Nat.le_of_ble_eq_true rfl, Nat.le_of_ble_eq_true rfl⟩) (mq_preV (q := (RX12, TX12, 26)) mm_zOk0 hK hP hI hZ hS hp rfl) rfl rfl hl.1 rfl (lv_room (Nat.le_of_ble_eq_true rfl)) dX12_minutes_191 ⟨Nat.le_refl _, Nat.le_refl _⟩) hS (fun H locs hP hS => ?_)
      refine lv_goto (tgt := 198) hx hb dX12_minutes_194 (by decide) ?_
      exact mq_iret hx hb hr rfl hlocks hP hS (Option.some.inj hf) rfl dX12_minutes_198
  have hc178 : ∀ (sx0 : Int32) (H : Heap) (locs : List Loc) (ls : Array Slot), va_P D vwCl (mm_L TM ad cy g) H → va_S (mm_A TM ad) s.heap H locs → lv_has ls 7 [(0, .ref (ad 0)), (1, .int x1), (2, .int x2), (3, .int x3), (4, .int x4)] → f_X12_minutes_c178 x1 x2 x3 x4 sx0 g = some r0 → W p l e (headSpec wsX12_minutes (rm_X12_minutes)).room s m args below meth c H locs 0 0 (MQ below (mm_Qi D TM ad cy r0 g) args s 0 0 (mm_A TM ad)) (F0 m 178 ls [.int sx0]) := by
    intro sx0 H locs ls hP hS hl hf
    unfold f_X12_minutes_c178 at hf
    refine lv_istore (lv' := [(6, .int sx0), (0, .ref (ad 0)), (1, .int x1), (2, .int x2), (3, .int x3), (4, .int x4)]) hx hb dX12_minutes_178 hl (by decide) rfl (fun ls hl => ?_)
    exact hc180 sx0 H locs ls hP hS (lv_sub hl [1, 2, 3, 4, 5, 0] rfl) hf
  have hc177 : ∀ (H : Heap) (locs : List Loc) (ls : Array Slot), va_P D vwCl (mm_L TM ad cy g) H → va_S (mm_A TM ad) s.heap H locs → lv_has ls 7 [(0, .ref (ad 0)), (1, .int x1), (2, .int x2), (3, .int x3), (4, .int x4)] → f_X12_minutes_c177 x1 x2 x3 x4 g = some r0 → W p l e (headSpec wsX12_minutes (rm_X12_minutes)).room s m args below meth c H locs 0 0 (MQ below (mm_Qi D TM ad cy r0 g) args s 0 0 (mm_A TM ad)) (F0 m 177 ls []) := by
    intro H locs ls hP hS hl hf
    unfold f_X12_minutes_c177 at hf
    refine lv_iconst (v := 0) hx hb dX12_minutes_177 (by decide) ?_
    exact hc178 0 H locs ls hP hS (lv_sub hl [0, 1, 2, 3, 4] rfl) hf
  have hc157 : ∀ (sx0 : Int32) (H : Heap) (locs : List Loc) (ls : Array Slot), va_P D vwCl (mm_L TM ad cy g) H → va_S (mm_A TM ad) s.heap H locs → lv_has ls 7 [(0, .ref (ad 0)), (1, .int x1), (2, .int x2), (3, .int x3), (4, .int x4)] → f_X12_minutes_c157 x1 x2 x3 x4 sx0 g = some r0 → W p l e (headSpec wsX12_minutes (rm_X12_minutes)).room s m args below meth c H locs 0 0 (MQ below (mm_Qi D TM ad cy r0 g) args s 0 0 (mm_A TM ad)) (F0 m 157 ls [.int sx0]) := by
    intro sx0 H locs ls hP hS hl hf
    unfold f_X12_minutes_c157 at hf
    refine lv_istore (lv' := [(6, .int sx0), (0, .ref (ad 0)), (1, .int x1), (2, .int x2), (3, .int x3), (4, .int x4)]) hx hb dX12_minutes_157 hl (by decide) rfl (fun ls hl => ?_)
    refine lv_goto (tgt := 180) hx hb dX12_minutes_159 (by decide) ?_
    exact hc180 sx0 H locs ls hP hS (lv_sub hl [1, 2, 3, 4, 5, 0] rfl) hf
  have hc156 : ∀ (H : Heap) (locs : List Loc) (ls : Array Slot), va_P D vwCl (mm_L TM ad cy g) H → va_S (mm_A TM ad) s.heap H locs → lv_has ls 7 [(0, .ref (ad 0)), (1, .int x1), (2, .int x2), (3, .int x3), (4, .int x4)] → f_X12_minutes_c156 x1 x2 x3 x4 g = some r0 → W p l e (headSpec wsX12_minutes (rm_X12_minutes)).room s m args below meth c H locs 0 0 (MQ below (mm_Qi D TM ad cy r0 g) args s 0 0 (mm_A TM ad)) (F0 m 156 ls []) := by
    intro H locs ls hP hS hl hf
    unfold f_X12_minutes_c156 at hf
    refine lv_iconst (v := 0) hx hb dX12_minutes_156 (by decide) ?_
    exact hc157 0 H locs ls hP hS (lv_sub hl [0, 1, 2, 3, 4] rfl) hf
  have hc129 : ∀ (sx0 : Int32) (H : Heap) (locs : List Loc) (ls : Array Slot), va_P D vwCl (mm_L TM ad cy g) H → va_S (mm_A TM ad) s.heap H locs → lv_has ls 7 [(0, .ref (ad 0)), (1, .int x1), (2, .int x2), (3, .int x3), (4, .int x4)] → f_X12_minutes_c129 x1 x2 x3 x4 sx0 g = some r0 → W p l e (headSpec wsX12_minutes (rm_X12_minutes)).room s m args below meth c H locs 0 0 (MQ below (mm_Qi D TM ad cy r0 g) args s 0 0 (mm_A TM ad)) (F0 m 129 ls [.int sx0]) := by
    intro sx0 H locs ls hP hS hl hf
    unfold f_X12_minutes_c129 at hf
    refine lv_istore (lv' := [(6, .int sx0), (0, .ref (ad 0)), (1, .int x1), (2, .int x2), (3, .int x3), (4, .int x4)]) hx hb dX12_minutes_129 hl (by decide) rfl (fun ls hl => ?_)
    refine lv_goto (tgt := 180) hx hb dX12_minutes_131 (by decide) ?_
    exact hc180 sx0 H locs ls hP hS (lv_sub hl [1, 2, 3, 4, 5, 0] rfl) hf
  have hc128 : ∀ (H : Heap) (locs : List Loc) (ls : Array Slot), va_P D vwCl (mm_L TM ad cy g) H → va_S (mm_A TM ad) s.heap H locs → lv_has ls 7 [(0, .ref (ad 0)), (1, .int x1), (2, .int x2), (3, .int x3), (4, .int x4)] → f_X12_minutes_c128 x1 x2 x3 x4 g = some r0 → W p l e (headSpec wsX12_minutes (rm_X12_minutes)).room s m args below meth c H locs 0 0 (MQ below (mm_Qi D TM ad cy r0 g) args s 0 0 (mm_A TM ad)) (F0 m 128 ls []) := by
    intro H locs ls hP hS hl hf
    unfold f_X12_minutes_c128 at hf
    refine lv_iconst (v := 0) hx hb dX12_minutes_128 (by decide) ?_
    exact hc129 0 H locs ls hP hS (lv_sub hl [0, 1, 2, 3, 4] rfl) hf
  have hc88 : ∀ (sx0 : Int32) (H : Heap) (locs : List Loc) (ls : Array Slot), va_P D vwCl (mm_L TM ad cy g) H → va_S (mm_A TM ad) s.heap H locs → lv_has ls 7 [(0, .ref (ad 0)), (1, .int x1), (2, .int x2), (3, .int x3), (4, .int x4)] → f_X12_minutes_c88 x1 x2 x3 x4 sx0 g = some r0 → W p l e (headSpec wsX12_minutes (rm_X12_minutes)).room s m args below meth c H locs 0 0 (MQ below (mm_Qi D TM ad cy r0 g) args s 0 0 (mm_A TM ad)) (F0 m 88 ls [.int sx0]) := by
    intro sx0 H locs ls hP hS hl hf
    unfold f_X12_minutes_c88 at hf
    refine lv_istore (lv' := [(6, .int sx0), (0, .ref (ad 0)), (1, .int x1), (2, .int x2), (3, .int x3), (4, .int x4)]) hx hb dX12_minutes_88 hl (by decide) rfl (fun ls hl => ?_)
    refine lv_goto (tgt := 180) hx hb dX12_minutes_90 (by decide) ?_
    exact hc180 sx0 H locs ls hP hS (lv_sub hl [1, 2, 3, 4, 5, 0] rfl) hf
  have hc87 : ∀ (H : Heap) (locs : List Loc) (ls : Array Slot), va_P D vwCl (mm_L TM ad cy g) H → va_S (mm_A TM ad) s.heap H locs → lv_has ls 7 [(0, .ref (ad 0)), (1, .int x1), (2, .int x2), (3, .int x3), (4, .int x4)] → f_X12_minutes_c87 x1 x2 x3 x4 g = some r0 → W p l e (headSpec wsX12_minutes (rm_X12_minutes)).room s m args below meth c H locs 0 0 (MQ below (mm_Qi D TM ad cy r0 g) args s 0 0 (mm_A TM ad)) (F0 m 87 ls []) := by
    intro H locs ls hP hS hl hf
    unfold f_X12_minutes_c87 at hf
    refine lv_iconst (v := 0) hx hb dX12_minutes_87 (by decide) ?_
    exact hc88 0 H locs ls hP hS (lv_sub hl [0, 1, 2, 3, 4] rfl) hf
  unfold f_X12_minutes at hf
  have hH9 : ∀ (H : Heap) (locs : List Loc), H = s.heap → locs = [] → va_P D vwCl (mm_L TM ad cy g) H → va_S (mm_A TM ad) s.heap H locs → W p l e (headSpec wsX12_minutes (rm_X12_minutes)).room s m args below meth c H locs 0 0 (MQ below (mm_Qi D TM ad cy r0 g) args s 0 0 (mm_A TM ad)) (F0 m 0 ls []) := by
    intro H locs hH9 hL9 hP hS
    clear hH9 hL9
    refine lv_iload_n hx hb dX12_minutes_0 rfl (lv_at hl 1 rfl) ?_
    refine lv_i2l hx hb dX12_minutes_1 rfl ?_
    refine lv_lconst (v := 0) hx hb dX12_minutes_2 (by decide) ?_
    refine lv_ldc2 (v := 3) hx hb hown hw0 dX12_minutes_3 ?_
    obtain ⟨r_1, hr_2, hf⟩ := op_some hf
    refine mq_calli (va_runS (As := [.long (x1.toInt64), .long 0, .long 3]) (rest := []) ⟨hx, hb, hml, hown, hts⟩ (c_X12_in l D ad cy (x1.toInt64) 0 3 g r_1 hr_2) (va_cwS 3 hts gX12_minutes_X12_in rfl rfl rfl (by decide +kernel) ⟨Nat.le_of_ble_eq_true rfl, Nat.le_of_ble_eq_true rfl⟩) (mq_preS mm_zOk0 hK hP hI hZ hS) rfl rfl hl.1 rfl (lv_room (Nat.le_of_ble_eq_true rfl)) dX12_minutes_6 ⟨Nat.le_refl _, Nat.le_refl _⟩) hS (fun H locs hP hS => ?_)
    refine lv_if_eq (tgt := 24) hx hb dX12_minutes_9 (by decide) (fun c_3 => ?_) (fun c_3 => ?_)
    · replace hf := ite_t c_3 hf
      refine lv_iconst (v := (-1)) hx hb dX12_minutes_24 (by decide) ?_
      exact mq_iret hx hb hr rfl hlocks hP hS (Option.some.inj hf) rfl dX12_minutes_25
    · replace hf := ite_f c_3 hf
      refine lv_iload_n hx hb dX12_minutes_12 rfl (lv_at hl 2 rfl) ?_
      refine lv_i2l hx hb dX12_minutes_13 rfl ?_
      refine lv_lconst (v := 0) hx hb dX12_minutes_14 (by decide) ?_
      refine lv_ldc2 (v := 8) hx hb hown hw1 dX12_minutes_15 ?_
      obtain ⟨r_4, hr_5, hf⟩ := op_some hf
      refine mq_calli (va_runS (As := [.long (x2.toInt64), .long 0, .long 8]) (rest := []) ⟨hx, hb, hml, hown, hts⟩ (c_X12_in l D ad cy (x2.toInt64) 0 8 g r_4 hr_5) (va_cwS 3 hts gX12_minutes_X12_in rfl rfl rfl (by decide +kernel) ⟨Nat.le_of_ble_eq_true rfl, Nat.le_of_ble_eq_true rfl⟩) (mq_preS mm_zOk0 hK hP hI hZ hS) rfl rfl hl.1 rfl (lv_room (Nat.le_of_ble_eq_true rfl)) dX12_minutes_18 ⟨Nat.le_refl _, Nat.le_refl _⟩) hS (fun H locs hP hS => ?_)
      refine lv_if_ne (tgt := 26) hx hb dX12_minutes_21 (by decide) (fun c_6 => ?_) (fun c_6 => ?_)
      · replace hf := ite_f c_6 hf
        refine lv_aload_n hx hb dX12_minutes_26 rfl (lv_at hl 0 rfl) ?_
        refine mq_getr (Tt := TX12) (N := 26) (C := RX12) hx hb hts hiX12 hown hK hP hp rfl 0 1 (by decide) rfl hw2 (fun _ h9 => h9) dX12_minutes_27 ?_
        refine lv_iconst (v := 3) hx hb dX12_minutes_30 (by decide) ?_
        refine mq_iald hx hb hK hP (N := 193) (shTM_X12_1 hp) (by decide : mm_in 3 193 = true) dX12_minutes_31 ?_
        obtain ⟨x5_7, ex5_7, hf⟩ := mv_some hf
        refine mq_nm ex5_7 ?_
        refine lv_istore (lv' := [(5, .int x5_7), (0, .ref (ad 0)), (1, .int x1), (2, .int x2), (3, .int x3), (4, .int x4)]) hx hb dX12_minutes_32 hl (by decide) rfl (fun ls hl => ?_)
        refine lv_iload_n hx hb dX12_minutes_34 rfl (lv_at hl 2 rfl) ?_
        by_cases c_8_0 : x1 = 0
        · replace hf := ite_t c_8_0 hf
          refine lv_tableIn (off := 25) (tgt := 60) hx hb dX12_minutes_35 (by rw [c_8_0]; decide) (by rw [c_8_0]; decide) (by rw [c_8_0]; decide) (by decide) ?_
          refine lv_aload_n hx hb dX12_minutes_60 rfl (lv_at hl 1 rfl) ?_
          refine lv_iload_n hx hb dX12_minutes_61 rfl (lv_at hl 4 rfl) ?_
          refine lv_iload hx hb dX12_minutes_62 (lv_at hl 0 rfl) ?_
          obtain ⟨r_25, hr_26, hf⟩ := op_some hf
          refine mq_calli (va_runV (As := [.int x3, .int x5_7]) (rest := []) ⟨hx, hb, hml, hown, hts⟩ (c_X12_isFor l D ad cy x3 x5_7 g hp r_25 hr_26) (cwV 2 hts gX12_minutes_X12_isFor rfl rfl rfl (by decide +kernel) ⟨Nat.le_of_ble_eq_true rfl, Nat.le_of_ble_eq_true rfl⟩) (mq_preV (q := (RX12, TX12, 26)) mm_zOk0 hK hP hI hZ hS hp rfl) rfl rfl hl.1 rfl (lv_room (Nat.le_of_ble_eq_true rfl)) dX12_minutes_64 ⟨Nat.le_refl _, Nat.le_refl _⟩) hS (fun H locs hP hS => ?_)
          refine lv_if_eq (tgt := 87) hx hb dX12_minutes_67 (by decide) (fun c_27 => ?_) (fun c_27 => ?_)
          · replace hf := ite_t c_27 hf
            exact hc87 H locs ls hP hS (lv_sub hl [1, 2, 3, 4, 5] rfl) hf
          · replace hf := ite_f c_27 hf
            refine lv_aload_n hx hb dX12_minutes_70 rfl (lv_at hl 1 rfl) ?_
            refine lv_iload hx hb dX12_minutes_71 (lv_at hl 5 rfl) ?_
            refine lv_iconst (v := 1) hx hb dX12_minutes_73 (by decide) ?_
            refine lv_iload hx hb dX12_minutes_74 (lv_at hl 0 rfl) ?_
            refine lv_isub hx hb dX12_minutes_76 ?_
            obtain ⟨r_28, hr_29, hf⟩ := op_some hf
            refine mq_calli (va_runV (As := [.int x4, .int (1 - x5_7)]) (rest := []) ⟨hx, hb, hml, hown, hts⟩ (c_X12_isFor l D ad cy x4 (1 - x5_7) g hp r_28 hr_29) (cwV 2 hts gX12_minutes_X12_isFor rfl rfl rfl (by decide +kernel) ⟨Nat.le_of_ble_eq_true rfl, Nat.le_of_ble_eq_true rfl⟩) (mq_preV (q := (RX12, TX12, 26)) mm_zOk0 hK hP hI hZ hS hp rfl) rfl rfl hl.1 rfl (lv_room (Nat.le_of_ble_eq_true rfl)) dX12_minutes_77 ⟨Nat.le_refl _, Nat.le_refl _⟩) hS (fun H locs hP hS => ?_)
            refine lv_if_eq (tgt := 87) hx hb dX12_minutes_80 (by decide) (fun c_30 => ?_) (fun c_30 => ?_)
            · replace hf := ite_t c_30 hf
              exact hc87 H locs ls hP hS (lv_sub hl [1, 2, 3, 4, 5] rfl) hf
            · replace hf := ite_f c_30 hf
              refine lv_iconst (v := 1) hx hb dX12_minutes_83 (by decide) ?_
              refine lv_goto (tgt := 88) hx hb dX12_minutes_84 (by decide) ?_
              exact hc88 1 H locs ls hP hS (lv_sub hl [1, 2, 3, 4, 5] rfl) hf
        · replace hf := ite_f c_8_0 hf
          by_cases c_8_1 : x1 = 1
          · replace hf := ite_t c_8_1 hf
            refine lv_tableIn (off := 58) (tgt := 93) hx hb dX12_minutes_35 (by rw [c_8_1]; decide) (by rw [c_8_1]; decide) (by rw [c_8_1]; decide) (by decide) ?_
            refine lv_aload_n hx hb dX12_minutes_93 rfl (lv_at hl 1 rfl) ?_
            refine lv_iload_n hx hb dX12_minutes_94 rfl (lv_at hl 4 rfl) ?_
            refine lv_iconst (v := 1) hx hb dX12_minutes_95 (by decide) ?_
            refine lv_iload hx hb dX12_minutes_96 (lv_at hl 0 rfl) ?_
            refine lv_isub hx hb dX12_minutes_98 ?_
            obtain ⟨r_18, hr_19, hf⟩ := op_some hf
            refine mq_calli (va_runV (As := [.int x3, .int (1 - x5_7)]) (rest := []) ⟨hx, hb, hml, hown, hts⟩ (c_X12_isFor l D ad cy x3 (1 - x5_7) g hp r_18 hr_19) (cwV 2 hts gX12_minutes_X12_isFor rfl rfl rfl (by decide +kernel) ⟨Nat.le_of_ble_eq_true rfl, Nat.le_of_ble_eq_true rfl⟩) (mq_preV (q := (RX12, TX12, 26)) mm_zOk0 hK hP hI hZ hS hp rfl) rfl rfl hl.1 rfl (lv_room (Nat.le_of_ble_eq_true rfl)) dX12_minutes_99 ⟨Nat.le_refl _, Nat.le_refl _⟩) hS (fun H locs hP hS => ?_)
            refine lv_if_eq (tgt := 128) hx hb dX12_minutes_102 (by decide) (fun c_20 => ?_) (fun c_20 => ?_)
            · replace hf := ite_t c_20 hf
              exact hc128 H locs ls hP hS (lv_sub hl [1, 2, 3, 4, 5] rfl) hf
            · replace hf := ite_f c_20 hf
              refine lv_aload_n hx hb dX12_minutes_105 rfl (lv_at hl 1 rfl) ?_
              refine lv_iload hx hb dX12_minutes_106 (lv_at hl 5 rfl) ?_
              refine lv_iconst (v := 1) hx hb dX12_minutes_108 (by decide) ?_
              refine lv_iload hx hb dX12_minutes_109 (lv_at hl 0 rfl) ?_
              refine lv_isub hx hb dX12_minutes_111 ?_
              obtain ⟨r_21, hr_22, hf⟩ := op_some hf
              refine mq_calli (va_runV (As := [.int x4, .int (1 - x5_7)]) (rest := []) ⟨hx, hb, hml, hown, hts⟩ (c_X12_isFor l D ad cy x4 (1 - x5_7) g hp r_21 hr_22) (cwV 2 hts gX12_minutes_X12_isFor rfl rfl rfl (by decide +kernel) ⟨Nat.le_of_ble_eq_true rfl, Nat.le_of_ble_eq_true rfl⟩) (mq_preV (q := (RX12, TX12, 26)) mm_zOk0 hK hP hI hZ hS hp rfl) rfl rfl hl.1 rfl (lv_room (Nat.le_of_ble_eq_true rfl)) dX12_minutes_112 ⟨Nat.le_refl _, Nat.le_refl _⟩) hS (fun H locs hP hS => ?_)
              refine lv_if_eq (tgt := 128) hx hb dX12_minutes_115 (by decide) (fun c_23 => ?_) (fun c_23 => ?_)
              · replace hf := ite_t c_23 hf
                exact hc128 H locs ls hP hS (lv_sub hl [1, 2, 3, 4, 5] rfl) hf
              · replace hf := ite_f c_23 hf
                refine lv_iload_n hx hb dX12_minutes_118 rfl (lv_at hl 4 rfl) ?_
                refine lv_iload hx hb dX12_minutes_119 (lv_at hl 5 rfl) ?_
                refine lv_icmp_eq (tgt := 128) hx hb dX12_minutes_121 (by decide) (fun c_24 => ?_) (fun c_24 => ?_)
                · replace hf := ite_t c_24 hf
                  exact hc128 H locs ls hP hS (lv_sub hl [1, 2, 3, 4, 5] rfl) hf
                · replace hf := ite_f c_24 hf
                  refine lv_iconst (v := 1) hx hb dX12_minutes_124 (by decide) ?_
                  refine lv_goto (tgt := 129) hx hb dX12_minutes_125 (by decide) ?_
                  exact hc129 1 H locs ls hP hS (lv_sub hl [1, 2, 3, 4, 5] rfl) hf
          · replace hf := ite_f c_8_1 hf
            by_cases c_8_2 : x1 = 2
            · replace hf := ite_t c_8_2 hf
              refine lv_tableIn (off := 99) (tgt := 134) hx hb dX12_minutes_35 (by rw [c_8_2]; decide) (by rw [c_8_2]; decide) (by rw [c_8_2]; decide) (by decide) ?_
              refine lv_aload_n hx hb dX12_minutes_134 rfl (lv_at hl 1 rfl) ?_
              refine lv_iload_n hx hb dX12_minutes_135 rfl (lv_at hl 4 rfl) ?_
              refine lv_iconst (v := 1) hx hb dX12_minutes_136 (by decide) ?_
              refine lv_iload hx hb dX12_minutes_137 (lv_at hl 0 rfl) ?_
              refine lv_isub hx hb dX12_minutes_139 ?_
              obtain ⟨r_14, hr_15, hf⟩ := op_some hf
              refine mq_calli (va_runV (As := [.int x3, .int (1 - x5_7)]) (rest := []) ⟨hx, hb, hml, hown, hts⟩ (c_X12_isFor l D ad cy x3 (1 - x5_7) g hp r_14 hr_15) (cwV 2 hts gX12_minutes_X12_isFor rfl rfl rfl (by decide +kernel) ⟨Nat.le_of_ble_eq_true rfl, Nat.le_of_ble_eq_true rfl⟩) (mq_preV (q := (RX12, TX12, 26)) mm_zOk0 hK hP hI hZ hS hp rfl) rfl rfl hl.1 rfl (lv_room (Nat.le_of_ble_eq_true rfl)) dX12_minutes_140 ⟨Nat.le_refl _, Nat.le_refl _⟩) hS (fun H locs hP hS => ?_)
              refine lv_if_eq (tgt := 156) hx hb dX12_minutes_143 (by decide) (fun c_16 => ?_) (fun c_16 => ?_)
              · replace hf := ite_t c_16 hf
                exact hc156 H locs ls hP hS (lv_sub hl [1, 2, 3, 4, 5] rfl) hf
              · replace hf := ite_f c_16 hf
                refine lv_iload hx hb dX12_minutes_146 (lv_at hl 5 rfl) ?_
                refine lv_iconst (v := (-1)) hx hb dX12_minutes_148 (by decide) ?_
                refine lv_icmp_ne (tgt := 156) hx hb dX12_minutes_149 (by decide) (fun c_17 => ?_) (fun c_17 => ?_)
                · replace hf := ite_f c_17 hf
                  exact hc156 H locs ls hP hS (lv_sub hl [1, 2, 3, 4, 5] rfl) hf
                · replace hf := ite_t c_17 hf
                  refine lv_iconst (v := 1) hx hb dX12_minutes_152 (by decide) ?_
                  refine lv_goto (tgt := 157) hx hb dX12_minutes_153 (by decide) ?_
                  exact hc157 1 H locs ls hP hS (lv_sub hl [1, 2, 3, 4, 5] rfl) hf
            · replace hf := ite_f c_8_2 hf
              refine lv_tableOut (tgt := 162) hx hb dX12_minutes_35 (by
                have e0 : x1.toInt ≠ 0 := sw_ne (k := 0) c_8_0
                have e1 : x1.toInt ≠ 1 := sw_ne (k := 1) c_8_1
                have e2 : x1.toInt ≠ 2 := sw_ne (k := 2) c_8_2
                omega) (by decide) ?_
              refine lv_iload_n hx hb dX12_minutes_162 rfl (lv_at hl 4 rfl) ?_
              refine lv_iconst (v := (-1)) hx hb dX12_minutes_163 (by decide) ?_
              refine lv_icmp_ne (tgt := 177) hx hb dX12_minutes_164 (by decide) (fun c_9 => ?_) (fun c_9 => ?_)
              · replace hf := ite_f c_9 hf
                exact hc177 H locs ls hP hS (lv_sub hl [1, 2, 3, 4, 5] rfl) hf
              · replace hf := ite_t c_9 hf
                refine lv_iload hx hb dX12_minutes_167 (lv_at hl 5 rfl) ?_
                refine lv_iconst (v := (-1)) hx hb dX12_minutes_169 (by decide) ?_
                refine lv_icmp_ne (tgt := 177) hx hb dX12_minutes_170 (by decide) (fun c_13 => ?_) (fun c_13 => ?_)
                · replace hf := ite_f c_13 hf
                  exact hc177 H locs ls hP hS (lv_sub hl [1, 2, 3, 4, 5] rfl) hf
                · replace hf := ite_t c_13 hf
                  refine lv_iconst (v := 1) hx hb dX12_minutes_173 (by decide) ?_
                  refine lv_goto (tgt := 178) hx hb dX12_minutes_174 (by decide) ?_
                  exact hc178 1 H locs ls hP hS (lv_sub hl [1, 2, 3, 4, 5] rfl) hf
      · replace hf := ite_t c_6 hf
        refine lv_iconst (v := (-1)) hx hb dX12_minutes_24 (by decide) ?_
        exact mq_iret hx hb hr rfl hlocks hP hS (Option.some.inj hf) rfl dX12_minutes_25
  exact hH9 s.heap [] rfl rfl hP hS
