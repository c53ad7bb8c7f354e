abbrev rm_X12_cheapest : Room := ({ frames := 5, cells := 0, slots := 0, locals := 117 } : Room)
set_option maxHeartbeats 4000000 in
set_option maxRecDepth 100000 in
theorem c_X12_cheapest (l : Launch) (D : va_G) (ad : Nat → Nat) (cy : Nat → ClassId) (x1 : Int32) (x2 : Int32) (x3 : Int32) (x4 : Int32) (x5 : Int32) (x6 : Int32) (g : Mm) (hp : TM[0]? = some sX12) (r0 : Int32) (g' : Mm) (hf : f_X12_cheapest x1 x2 x3 x4 x5 x6 g = some (r0, g')) : Met l yX12_cheapest wsX12_cheapest rm_X12_cheapest (va_Pc [.ref (ad 0), .int x1, .int x2, .int x3, .int x4, .int x5, .int x6] (mm_pre mm_Z0 D TM ad cy g)) (mm_Qi D TM ad cy r0 g') 0 0 (mm_A TM ad) := by
  refine Met.ofW (cc := cX12_cheapest) (maxL := 7) (ret := (some .int)) (by decide) rfl ?_
  intro p e s m args below meth c s₁ B hml hv
  obtain ⟨hargs, hP, hK, hI, hZ⟩ := hv
  have hx := B.exec
  have hb := B.bytes
  have hr := B.returns
  have hts := atoms_spec (ws := wsX12_cheapest) B.pre
  have hown : s.vm.findClass RX12 = some m.cls := findClass_of_methodNamed B.named
  have hlocks := B.notSynchronized
  have hw0 := hts (.constantLong RX12 185 (999)) (by decide +kernel)
  have hw1 := hts (.constantLong RX12 187 (-2)) (by decide +kernel)
  have hw2 := hts (.constantLong RX12 95 (8)) (by decide +kernel)
  have hw3 := hts (.fieldLink RX12 55 "LeftShoesModel" "best" "[I") (by decide +kernel)
  have hiX12 : ∀ w ∈ wsX120, w ∈ wsX12_cheapest := by decide +kernel
  have hw5 := hts (.fieldLink RX12 178 "LeftShoesModel" "bestTime" "I") (by decide +kernel)
  have hw6 := hts (.fieldLink RX12 164 "LeftShoesModel" "bestCost" "I") (by decide +kernel)
  rw [show entryFrame m args 7 = F0 m 0 ((lg_sl ([.ref (ad 0), .int x1, .int x2, .int x3, .int x4, .int x5, .int x6] : List Value) ++ List.replicate (7 - (lg_sl ([.ref (ad 0), .int x1, .int x2, .int x3, .int x4, .int x5, .int x6] : List Value)).length) Slot.unset).toArray) [] from by rw [hargs]; exact lg_entry_eq m _ _]
  have hl := lv_entry ([.ref (ad 0), .int x1, .int x2, .int x3, .int x4, .int x5, .int x6] : List Value) (n := 7) (by exact Nat.le_of_ble_eq_true rfl)
  generalize (lg_sl ([.ref (ad 0), .int x1, .int x2, .int x3, .int x4, .int x5, .int x6] : List Value) ++ List.replicate (7 - (lg_sl ([.ref (ad 0), .int x1, .int x2, .int x3, .int x4, .int x5, .int x6] : List Value)).length) Slot.unset).toArray = ls at hl ⊢
  have hl : lv_has ls 7 [(0, .ref (ad 0)), (1, .int x1), (2, .int x2), (3, .int x3), (4, .int x4), (5, .int x5), (6, .int x6)] := by exact hl
  have hS : va_S (mm_A TM ad) s.heap s.heap [] := va_S.rf
  clear hargs
  unfold f_X12_cheapest at hf
  have hH9 : ∀ (H : Heap) (locs : List Loc), H = s.heap → locs = [] → va_P D vwCl (mm_L TM ad cy g) H → va_S (mm_A TM ad) s.heap H locs → W p l e (headSpec wsX12_cheapest (rm_X12_cheapest)).room s m args below meth c H locs 0 0 (MQ below (mm_Qi D TM ad cy r0 g') args s 0 0 (mm_A TM ad)) (F0 m 0 ls []) := by
    intro H locs hH9 hL9 hP hS
    clear hH9 hL9
    refine lv_aload_n hx hb dX12_cheapest_0 rfl (lv_at hl 0 rfl) ?_
    refine lv_iload_n hx hb dX12_cheapest_1 rfl (lv_at hl 1 rfl) ?_
    refine lv_iload_n hx hb dX12_cheapest_2 rfl (lv_at hl 2 rfl) ?_
    refine lv_iload_n hx hb dX12_cheapest_3 rfl (lv_at hl 3 rfl) ?_
    refine lv_iload hx hb dX12_cheapest_4 (lv_at hl 4 rfl) ?_
    obtain ⟨r_1, hr_2, hf⟩ := op_some hf
    refine mq_calli (va_runV (As := [.int x1, .int x2, .int x3, .int x4]) (rest := []) ⟨hx, hb, hml, hown, hts⟩ (c_X12_isTrio l D ad cy x1 x2 x3 x4 g hp r_1 hr_2) (cwV 4 hts gX12_cheapest_X12_isTrio rfl rfl rfl (by decide +kernel) ⟨Nat.le_of_ble_eq_true rfl, Nat.le_of_ble_eq_true rfl⟩) (mq_preV (q := (RX12, TX12, 26)) mm_zOk0 hK hP hI hZ hS hp rfl) rfl rfl hl.1 rfl (lv_room (Nat.le_of_ble_eq_true rfl)) dX12_cheapest_6 ⟨Nat.le_refl _, Nat.le_refl _⟩) hS (fun H locs hP hS => ?_)
    refine lv_if_eq (tgt := 40) hx hb dX12_cheapest_9 (by decide) (fun c_3 => ?_) (fun c_3 => ?_)
    · replace hf := ite_t c_3 hf
      refine lv_iconst (v := (-1)) hx hb dX12_cheapest_40 (by decide) ?_
      exact mq_iret hx hb hr rfl hlocks hP hS (pr_1 hf) (pr_2 hf) dX12_cheapest_41
    · replace hf := ite_f c_3 hf
      refine lv_iload hx hb dX12_cheapest_12 (lv_at hl 5 rfl) ?_
      refine lv_i2l hx hb dX12_cheapest_14 rfl ?_
      refine lv_lconst (v := 1) hx hb dX12_cheapest_15 (by decide) ?_
      refine lv_ldc2 (v := 999) hx hb hown hw0 dX12_cheapest_16 ?_
      obtain ⟨r_4, hr_5, hf⟩ := op_some hf
      refine mq_calli (va_runS (As := [.long (x5.toInt64), .long 1, .long 999]) (rest := []) ⟨hx, hb, hml, hown, hts⟩ (c_X12_in l D ad cy (x5.toInt64) 1 999 g r_4 hr_5) (va_cwS 3 hts gX12_cheapest_X12_in rfl rfl rfl (by decide +kernel) ⟨Nat.le_of_ble_eq_true rfl, Nat.le_of_ble_eq_true rfl⟩) (mq_preS mm_zOk0 hK hP hI hZ hS) rfl rfl hl.1 rfl (lv_room (Nat.le_of_ble_eq_true rfl)) dX12_cheapest_19 ⟨Nat.le_refl _, Nat.le_refl _⟩) hS (fun H locs hP hS => ?_)
      refine lv_if_eq (tgt := 40) hx hb dX12_cheapest_22 (by decide) (fun c_6 => ?_) (fun c_6 => ?_)
      · replace hf := ite_t c_6 hf
        refine lv_iconst (v := (-1)) hx hb dX12_cheapest_40 (by decide) ?_
        exact mq_iret hx hb hr rfl hlocks hP hS (pr_1 hf) (pr_2 hf) dX12_cheapest_41
      · replace hf := ite_f c_6 hf
        refine lv_iload hx hb dX12_cheapest_25 (lv_at hl 6 rfl) ?_
        refine lv_i2l hx hb dX12_cheapest_27 rfl ?_
        refine lv_ldc2 (v := (-2)) hx hb hown hw1 dX12_cheapest_28 ?_
        refine lv_ldc2 (v := 8) hx hb hown hw2 dX12_cheapest_31 ?_
        obtain ⟨r_7, hr_8, hf⟩ := op_some hf
        refine mq_calli (va_runS (As := [.long (x6.toInt64), .long (-2), .long 8]) (rest := []) ⟨hx, hb, hml, hown, hts⟩ (c_X12_in l D ad cy (x6.toInt64) (-2) 8 g r_7 hr_8) (va_cwS 3 hts gX12_cheapest_X12_in rfl rfl rfl (by decide +kernel) ⟨Nat.le_of_ble_eq_true rfl, Nat.le_of_ble_eq_true rfl⟩) (mq_preS mm_zOk0 hK hP hI hZ hS) rfl rfl hl.1 rfl (lv_room (Nat.le_of_ble_eq_true rfl)) dX12_cheapest_34 ⟨Nat.le_refl _, Nat.le_refl _⟩) hS (fun H locs hP hS => ?_)
        refine lv_if_ne (tgt := 42) hx hb dX12_cheapest_37 (by decide) (fun c_9 => ?_) (fun c_9 => ?_)
        · replace hf := ite_f c_9 hf
          refine lv_aload_n hx hb dX12_cheapest_42 rfl (lv_at hl 0 rfl) ?_
          refine lv_iload_n hx hb dX12_cheapest_43 rfl (lv_at hl 1 rfl) ?_
          refine lv_iload_n hx hb dX12_cheapest_44 rfl (lv_at hl 2 rfl) ?_
          refine lv_iload_n hx hb dX12_cheapest_45 rfl (lv_at hl 3 rfl) ?_
          refine lv_iload hx hb dX12_cheapest_46 (lv_at hl 4 rfl) ?_
          refine lv_iload hx hb dX12_cheapest_48 (lv_at hl 5 rfl) ?_
          obtain ⟨r_11, g_10, hr_12, hf⟩ := ob_some hf
          refine mq_calli (va_runV (As := [.int x1, .int x2, .int x3, .int x4, .int x5]) (rest := []) ⟨hx, hb, hml, hown, hts⟩ (c_X12_finds l D ad cy x1 x2 x3 x4 x5 g hp r_11 g_10 hr_12) (cwV 5 hts gX12_cheapest_X12_finds rfl rfl rfl (by decide +kernel) ⟨Nat.le_of_ble_eq_true rfl, Nat.le_of_ble_eq_true rfl⟩) (mq_preV (q := (RX12, TX12, 26)) mm_zOk0 hK hP hI hZ hS hp rfl) rfl rfl hl.1 rfl (lv_room (Nat.le_of_ble_eq_true rfl)) dX12_cheapest_50 ⟨Nat.le_refl _, Nat.le_refl _⟩) hS (fun H locs hP hS => ?_)
          refine lv_if_ne (tgt := 59) hx hb dX12_cheapest_53 (by decide) (fun c_13 => ?_) (fun c_13 => ?_)
          · replace hf := ite_f c_13 hf
            refine lv_iload hx hb dX12_cheapest_59 (lv_at hl 6 rfl) ?_
            refine lv_iconst (v := (-1)) hx hb dX12_cheapest_61 (by decide) ?_
            refine lv_icmp_ne (tgt := 72) hx hb dX12_cheapest_62 (by decide) (fun c_14 => ?_) (fun c_14 => ?_)
            · replace hf := ite_f c_14 hf
              refine lv_iload hx hb dX12_cheapest_72 (lv_at hl 6 rfl) ?_
              refine lv_bipush (v := (-2)) hx hb dX12_cheapest_74 (by decide) ?_
              refine lv_icmp_ne (tgt := 86) hx hb dX12_cheapest_76 (by decide) (fun c_15 => ?_) (fun c_15 => ?_)
              · replace hf := ite_f c_15 hf
                refine lv_aload_n hx hb dX12_cheapest_86 rfl (lv_at hl 0 rfl) ?_
                refine mq_getr (Tt := TX12) (N := 26) (C := RX12) hx hb hts hiX12 hown hK hP hp rfl 18 16 (by decide) rfl hw3 (fun _ h9 => h9) dX12_cheapest_87 ?_
                refine lv_iload hx hb dX12_cheapest_90 (lv_at hl 6 rfl) ?_
                obtain ⟨h_16, hf⟩ := og_some hf
                refine mq_iald hx hb hK hP (N := 9) (shTM_X12_16 hp) h_16 dX12_cheapest_92 ?_
                exact mq_iret hx hb hr rfl hlocks hP hS (pr_1 hf) (pr_2 hf) dX12_cheapest_93
              · replace hf := ite_t c_15 hf
                refine lv_aload_n hx hb dX12_cheapest_79 rfl (lv_at hl 0 rfl) ?_
                refine mq_geti (Tt := TX12) (N := 26) (C := RX12) hx hb hts hiX12 hown hK hP hp rfl 20 (by decide) rfl hw5 (fun _ h9 => h9) dX12_cheapest_80 ?_
                refine lv_goto (tgt := 93) hx hb dX12_cheapest_83 (by decide) ?_
                exact mq_iret hx hb hr rfl hlocks hP hS (pr_1 hf) (pr_2 hf) dX12_cheapest_93
            · replace hf := ite_t c_14 hf
              refine lv_aload_n hx hb dX12_cheapest_65 rfl (lv_at hl 0 rfl) ?_
              refine mq_geti (Tt := TX12) (N := 26) (C := RX12) hx hb hts hiX12 hown hK hP hp rfl 19 (by decide) rfl hw6 (fun _ h9 => h9) dX12_cheapest_66 ?_
              refine lv_goto (tgt := 93) hx hb dX12_cheapest_69 (by decide) ?_
              exact mq_iret hx hb hr rfl hlocks hP hS (pr_1 hf) (pr_2 hf) dX12_cheapest_93
          · replace hf := ite_t c_13 hf
            refine lv_bipush (v := (-4)) hx hb dX12_cheapest_56 (by decide) ?_
            exact mq_iret hx hb hr rfl hlocks hP hS (pr_1 hf) (pr_2 hf) dX12_cheapest_58
        · replace hf := ite_t c_9 hf
          refine lv_iconst (v := (-1)) hx hb dX12_cheapest_40 (by decide) ?_
          exact mq_iret hx hb hr rfl hlocks hP hS (pr_1 hf) (pr_2 hf) dX12_cheapest_41
  exact hH9 s.heap [] rfl rfl hP hS
abbrev rm_X12_go : Room := ({ frames := 5, cells := 0, slots := 0, locals := 117 } : Room)
set_option maxHeartbeats 4000000 in
set_option maxRecDepth 100000 in
theorem c_X12_go (l : Launch) (D : va_G) (ad : Nat → Nat) (cy : Nat → ClassId) (x1 : Int32) (x2 : Int32) (x3 : Int32) (x4 : Int32) (x5 : Int32) (g : Mm) (hp : TM[0]? = some sX12) (r0 : Int32) (g' : Mm) (hf : f_X12_go x1 x2 x3 x4 x5 g = some (r0, g')) : Met l yX12_go wsX12_go rm_X12_go (va_Pc [.ref (ad 0), .int x1, .int x2, .int x3, .int x4, .int x5] (mm_pre mm_Z0 D TM ad cy g)) (mm_Qi D TM ad cy r0 g') 0 0 (mm_A TM ad) := by
  refine Met.ofW (cc := cX12_go) (maxL := 9) (ret := (some .int)) (by decide) rfl ?_
  intro p e s m args below meth c s₁ B hml hv
  obtain ⟨hargs, hP, hK, hI, hZ⟩ := hv
  have hx := B.exec
  have hb := B.bytes
  have hr := B.returns
  have hts := atoms_spec (ws := wsX12_go) B.pre
  have hown : s.vm.findClass RX12 = some m.cls := findClass_of_methodNamed B.named
  have hlocks := B.notSynchronized
  have hw0 := hts (.constantLong RX12 185 (999)) (by decide +kernel)
  have hw1 := hts (.fieldLink RX12 164 "LeftShoesModel" "bestCost" "I") (by decide +kernel)
  have hiX12 : ∀ w ∈ wsX120, w ∈ wsX12_go := by decide +kernel
  have hw3 := hts (.fieldLink RX12 7 "LeftShoesModel" "now" "[I") (by decide +kernel)
  have hw4 := hts (.fieldLink RX12 55 "LeftShoesModel" "best" "[I") (by decide +kernel)
  rw [show entryFrame m args 9 = F0 m 0 ((lg_sl ([.ref (ad 0), .int x1, .int x2, .int x3, .int x4, .int x5] : List Value) ++ List.replicate (9 - (lg_sl ([.ref (ad 0), .int x1, .int x2, .int x3, .int x4, .int x5] : List Value)).length) Slot.unset).toArray) [] from by rw [hargs]; exact lg_entry_eq m _ _]
  have hl := lv_entry ([.ref (ad 0), .int x1, .int x2, .int x3, .int x4, .int x5] : List Value) (n := 9) (by exact Nat.le_of_ble_eq_true rfl)
  generalize (lg_sl ([.ref (ad 0), .int x1, .int x2, .int x3, .int x4, .int x5] : List Value) ++ List.replicate (9 - (lg_sl ([.ref (ad 0), .int x1, .int x2, .int x3, .int x4, .int x5] : List Value)).length) Slot.unset).toArray = ls at hl ⊢
  have hl : lv_has ls 9 [(0, .ref (ad 0)), (1, .int x1), (2, .int x2), (3, .int x3), (4, .int x4), (5, .int x5)] := by exact hl
  have hS : va_S (mm_A TM ad) s.heap s.heap [] := va_S.rf
  clear hargs
  have hc162 : ∀ (K_85 : Int32 → Int32 → Mm → Option (Int32 × Mm)), (∀ (x6 : Int32) (x7 : Int32) (g : Mm) (H : Heap) (locs : List Loc) (ls : Array Slot), va_P D vwCl (mm_L TM ad cy g) H → va_S (mm_A TM ad) s.heap H locs → lv_has ls 9 [(0, .ref (ad 0)), (1, .int x1), (2, .int x2), (3, .int x3), (4, .int x4), (5, .int x5), (6, .int x6), (7, .int x7)] → K_85 x6 x7 g = some (r0, g') → W p l e (headSpec wsX12_go (rm_X12_go)).room s m args below meth c H locs 0 0 (MQ below (mm_Qi D TM ad cy r0 g') args s 0 0 (mm_A TM ad)) (F0 m 85 ls [])) → ∀ (x6 : Int32) (x7 : Int32) (x8 : Int32) (g : Mm) (H : Heap) (locs : List Loc) (ls : Array Slot), va_P D vwCl (mm_L TM ad cy g) H → va_S (mm_A TM ad) s.heap H locs → lv_has ls 9 [(0, .ref (ad 0)), (1, .int x1), (2, .int x2), (3, .int x3), (4, .int x4), (5, .int x5), (6, .int x6), (7, .int x7), (8, .int x8)] → f_X12_go_c162 K_85 x2 x3 x4 x6 x7 x8 g = some (r0, g') → W p l e (headSpec wsX12_go (rm_X12_go)).room s m args below meth c H locs 0 0 (MQ below (mm_Qi D TM ad cy r0 g') args s 0 0 (mm_A TM ad)) (F0 m 162 ls []) := by
    intro K_85 hK_85 x6 x7 x8 g H locs ls hP hS hl hf
    unfold f_X12_go_c162 at hf
    refine lv_iload hx hb dX12_go_162 (lv_at hl 8 rfl) ?_
    refine lv_iconst (v := 1) hx hb dX12_go_164 (by decide) ?_
    refine lv_icmp_ne (tgt := 187) hx hb dX12_go_165 (by decide) (fun c_22 => ?_) (fun c_22 => ?_)
    · replace hf := ite_f c_22 hf
      obtain ⟨x7_23, ex7_23, hf⟩ := mv_some hf
      refine lv_iinc (v := x7_23) (lv' := [(7, .int x7_23), (0, .ref (ad 0)), (1, .int x1), (2, .int x2), (3, .int x3), (4, .int x4), (5, .int x5), (6, .int x6), (8, .int x8)]) hx hb dX12_go_187 hl (k := 7) rfl (by rw [ex7_23]; rfl) (by decide) rfl (fun ls hl => ?_)
      refine lv_goto (tgt := 85) hx hb dX12_go_190 (by decide) ?_
      exact hK_85 x6 x7_23 g H locs ls hP hS (lv_sub hl [1, 2, 3, 4, 5, 6, 7, 0] rfl) hf
    · replace hf := ite_t c_22 hf
      refine lv_aload_n hx hb dX12_go_168 rfl (lv_at hl 0 rfl) ?_
      refine mq_getr (Tt := TX12) (N := 26) (C := RX12) hx hb hts hiX12 hown hK hP hp rfl 0 1 (by decide) rfl hw3 (fun _ h9 => h9) dX12_go_169 ?_
      refine lv_bipush (v := 63) hx hb dX12_go_172 (by decide) ?_
      refine lv_iload hx hb dX12_go_174 (lv_at hl 4 rfl) ?_
      refine lv_iadd hx hb dX12_go_176 ?_
      refine lv_dup2_11 hx hb dX12_go_177 rfl rfl ?_
      obtain ⟨h_24, hf⟩ := og_some hf
      refine mq_iald hx hb hK hP (N := 193) (shTM_X12_1 hp) h_24 dX12_go_178 ?_
      refine lv_aload_n hx hb dX12_go_179 rfl (lv_at hl 0 rfl) ?_
      refine lv_iload hx hb dX12_go_180 (lv_at hl 4 rfl) ?_
      obtain ⟨r_25, hr_26, hf⟩ := op_some hf
      refine mq_calli (va_runV (As := [.int x4]) (rest := [.int (g 1 (63 + x4).toNatClampNeg), .int (63 + x4), .ref (ad 1)]) ⟨hx, hb, hml, hown, hts⟩ (c_X12_wear l D ad cy x4 g hp r_25 hr_26) (cwV 1 hts gX12_go_X12_wear rfl rfl rfl (by decide +kernel) ⟨Nat.le_of_ble_eq_true rfl, Nat.le_of_ble_eq_true rfl⟩) (mq_preV (q := (RX12, TX12, 26)) mm_zOk0 hK hP hI hZ hS hp rfl) rfl rfl hl.1 rfl (lv_room (Nat.le_of_ble_eq_true rfl)) dX12_go_182 ⟨Nat.le_refl _, Nat.le_refl _⟩) hS (fun H locs hP hS => ?_)
      refine lv_isub hx hb dX12_go_185 ?_
      obtain ⟨h_27, hf⟩ := og_some hf
      obtain ⟨g_28, eg_28, hf⟩ := mw_some hf
      refine mq_iast hx hb hK hI hP hS (N := 193) (shTM_X12_1 hp) h_27 dX12_go_186 eg_28 (fun H locs hP hS => ?_)
      obtain ⟨x7_29, ex7_29, hf⟩ := mv_some hf
      refine lv_iinc (v := x7_29) (lv' := [(7, .int x7_29), (0, .ref (ad 0)), (1, .int x1), (2, .int x2), (3, .int x3), (4, .int x4), (5, .int x5), (6, .int x6), (8, .int x8)]) hx hb dX12_go_187 hl (k := 7) rfl (by rw [ex7_29]; rfl) (by decide) rfl (fun ls hl => ?_)
      refine lv_goto (tgt := 85) hx hb dX12_go_190 (by decide) ?_
      exact hK_85 x6 x7_29 g_28 H locs ls hP hS (lv_sub hl [1, 2, 3, 4, 5, 6, 7, 0] rfl) hf
  have hc160 : ∀ (K_85 : Int32 → Int32 → Mm → Option (Int32 × Mm)), (∀ (x6 : Int32) (x7 : Int32) (g : Mm) (H : Heap) (locs : List Loc) (ls : Array Slot), va_P D vwCl (mm_L TM ad cy g) H → va_S (mm_A TM ad) s.heap H locs → lv_has ls 9 [(0, .ref (ad 0)), (1, .int x1), (2, .int x2), (3, .int x3), (4, .int x4), (5, .int x5), (6, .int x6), (7, .int x7)] → K_85 x6 x7 g = some (r0, g') → W p l e (headSpec wsX12_go (rm_X12_go)).room s m args below meth c H locs 0 0 (MQ below (mm_Qi D TM ad cy r0 g') args s 0 0 (mm_A TM ad)) (F0 m 85 ls [])) → ∀ (x6 : Int32) (x7 : Int32) (x8 : Int32) (sq0 : Nat) (sx1 : Int32) (sx2 : Int32) (sx3 : Int32) (g : Mm) (H : Heap) (locs : List Loc) (ls : Array Slot), TM[sq0]? = some (.inr (193, 0, none) : Shp) → va_P D vwCl (mm_L TM ad cy g) H → va_S (mm_A TM ad) s.heap H locs → lv_has ls 9 [(0, .ref (ad 0)), (1, .int x1), (2, .int x2), (3, .int x3), (4, .int x4), (5, .int x5), (6, .int x6), (7, .int x7), (8, .int x8)] → f_X12_go_c160 K_85 x2 x3 x4 x6 x7 x8 sq0 sx1 sx2 sx3 g = some (r0, g') → W p l e (headSpec wsX12_go (rm_X12_go)).room s m args below meth c H locs 0 0 (MQ below (mm_Qi D TM ad cy r0 g') args s 0 0 (mm_A TM ad)) (F0 m 160 ls [.int sx3, .int sx2, .int sx1, .ref (ad sq0)]) := by
    intro K_85 hK_85 x6 x7 x8 sq0 sx1 sx2 sx3 g H locs ls hsq0 hP hS hl hf
    unfold f_X12_go_c160 at hf
    refine lv_isub hx hb dX12_go_160 ?_
    obtain ⟨h_34, hf⟩ := og_some hf
    obtain ⟨g_35, eg_35, hf⟩ := mw_some hf
    refine mq_iast hx hb hK hI hP hS (N := 193) hsq0 h_34 dX12_go_161 eg_35 (fun H locs hP hS => ?_)
    exact hc162 K_85 hK_85 x6 x7 x8 g_35 H locs ls hP hS (lv_sub hl [0, 1, 2, 3, 4, 5, 6, 7, 8] rfl) hf
  have hc123 : ∀ (K_85 : Int32 → Int32 → Mm → Option (Int32 × Mm)), (∀ (x6 : Int32) (x7 : Int32) (g : Mm) (H : Heap) (locs : List Loc) (ls : Array Slot), va_P D vwCl (mm_L TM ad cy g) H → va_S (mm_A TM ad) s.heap H locs → lv_has ls 9 [(0, .ref (ad 0)), (1, .int x1), (2, .int x2), (3, .int x3), (4, .int x4), (5, .int x5), (6, .int x6), (7, .int x7)] → K_85 x6 x7 g = some (r0, g') → W p l e (headSpec wsX12_go (rm_X12_go)).room s m args below meth c H locs 0 0 (MQ below (mm_Qi D TM ad cy r0 g') args s 0 0 (mm_A TM ad)) (F0 m 85 ls [])) → ∀ (x6 : Int32) (x7 : Int32) (x8 : Int32) (g : Mm) (H : Heap) (locs : List Loc) (ls : Array Slot), va_P D vwCl (mm_L TM ad cy g) H → va_S (mm_A TM ad) s.heap H locs → lv_has ls 9 [(0, .ref (ad 0)), (1, .int x1), (2, .int x2), (3, .int x3), (4, .int x4), (5, .int x5), (6, .int x6), (7, .int x7), (8, .int x8)] → f_X12_go_c123 K_85 x2 x3 x4 x6 x7 x8 g = some (r0, g') → W p l e (headSpec wsX12_go (rm_X12_go)).room s m args below meth c H locs 0 0 (MQ below (mm_Qi D TM ad cy r0 g') args s 0 0 (mm_A TM ad)) (F0 m 123 ls []) := by
    intro K_85 hK_85 x6 x7 x8 g H locs ls hP hS hl hf
    unfold f_X12_go_c123 at hf
    refine lv_iload hx hb dX12_go_123 (lv_at hl 8 rfl) ?_
    refine lv_iconst (v := 3) hx hb dX12_go_125 (by decide) ?_
    refine lv_icmp_eq (tgt := 162) hx hb dX12_go_126 (by decide) (fun c_21 => ?_) (fun c_21 => ?_)
    · replace hf := ite_t c_21 hf
      exact hc162 K_85 hK_85 x6 x7 x8 g H locs ls hP hS (lv_sub hl [0, 1, 2, 3, 4, 5, 6, 7, 8] rfl) hf
    · replace hf := ite_f c_21 hf
      refine lv_aload_n hx hb dX12_go_129 rfl (lv_at hl 0 rfl) ?_
      refine mq_getr (Tt := TX12) (N := 26) (C := RX12) hx hb hts hiX12 hown hK hP hp rfl 0 1 (by decide) rfl hw3 (fun _ h9 => h9) dX12_go_130 ?_
      refine lv_bipush (v := 63) hx hb dX12_go_133 (by decide) ?_
      refine lv_iload_n hx hb dX12_go_135 rfl (lv_at hl 3 rfl) ?_
      refine lv_iadd hx hb dX12_go_136 ?_
      refine lv_dup2_11 hx hb dX12_go_137 rfl rfl ?_
      obtain ⟨h_30, hf⟩ := og_some hf
      refine mq_iald hx hb hK hP (N := 193) (shTM_X12_1 hp) h_30 dX12_go_138 ?_
      refine lv_iload hx hb dX12_go_139 (lv_at hl 8 rfl) ?_
      refine lv_iconst (v := 2) hx hb dX12_go_141 (by decide) ?_
      refine lv_icmp_ne (tgt := 155) hx hb dX12_go_142 (by decide) (fun c_31 => ?_) (fun c_31 => ?_)
      · replace hf := ite_f c_31 hf
        refine lv_aload_n hx hb dX12_go_155 rfl (lv_at hl 0 rfl) ?_
        refine lv_iload_n hx hb dX12_go_156 rfl (lv_at hl 3 rfl) ?_
        obtain ⟨r_32, hr_33, hf⟩ := op_some hf
        refine mq_calli (va_runV (As := [.int x3]) (rest := [.int (g 1 (63 + x3).toNatClampNeg), .int (63 + x3), .ref (ad 1)]) ⟨hx, hb, hml, hown, hts⟩ (c_X12_wear l D ad cy x3 g hp r_32 hr_33) (cwV 1 hts gX12_go_X12_wear rfl rfl rfl (by decide +kernel) ⟨Nat.le_of_ble_eq_true rfl, Nat.le_of_ble_eq_true rfl⟩) (mq_preV (q := (RX12, TX12, 26)) mm_zOk0 hK hP hI hZ hS hp rfl) rfl rfl hl.1 rfl (lv_room (Nat.le_of_ble_eq_true rfl)) dX12_go_157 ⟨Nat.le_refl _, Nat.le_refl _⟩) hS (fun H locs hP hS => ?_)
        exact hc160 K_85 hK_85 x6 x7 x8 1 (63 + x3) (g 1 (63 + x3).toNatClampNeg) r_32 g H locs ls (shTM_X12_1 hp) hP hS (lv_sub hl [0, 1, 2, 3, 4, 5, 6, 7, 8] rfl) hf
      · replace hf := ite_t c_31 hf
        refine lv_iconst (v := 2) hx hb dX12_go_145 (by decide) ?_
        refine lv_aload_n hx hb dX12_go_146 rfl (lv_at hl 0 rfl) ?_
        refine lv_iload_n hx hb dX12_go_147 rfl (lv_at hl 3 rfl) ?_
        obtain ⟨r_36, hr_37, hf⟩ := op_some hf
        refine mq_calli (va_runV (As := [.int x3]) (rest := [.int 2, .int (g 1 (63 + x3).toNatClampNeg), .int (63 + x3), .ref (ad 1)]) ⟨hx, hb, hml, hown, hts⟩ (c_X12_wear l D ad cy x3 g hp r_36 hr_37) (cwV 1 hts gX12_go_X12_wear rfl rfl rfl (by decide +kernel) ⟨Nat.le_of_ble_eq_true rfl, Nat.le_of_ble_eq_true rfl⟩) (mq_preV (q := (RX12, TX12, 26)) mm_zOk0 hK hP hI hZ hS hp rfl) rfl rfl hl.1 rfl (lv_room (Nat.le_of_ble_eq_true rfl)) dX12_go_148 ⟨Nat.le_refl _, Nat.le_refl _⟩) hS (fun H locs hP hS => ?_)
        refine lv_imul hx hb dX12_go_151 ?_
        refine lv_goto (tgt := 160) hx hb dX12_go_152 (by decide) ?_
        exact hc160 K_85 hK_85 x6 x7 x8 1 (63 + x3) (g 1 (63 + x3).toNatClampNeg) (2 * r_36) g H locs ls (shTM_X12_1 hp) hP hS (lv_sub hl [0, 1, 2, 3, 4, 5, 6, 7, 8] rfl) hf
  have hc85 : ∀ (n : Nat), ∀ (x6 : Int32) (x7 : Int32) (g : Mm) (H : Heap) (locs : List Loc) (ls : Array Slot), va_P D vwCl (mm_L TM ad cy g) H → va_S (mm_A TM ad) s.heap H locs → lv_has ls 9 [(0, .ref (ad 0)), (1, .int x1), (2, .int x2), (3, .int x3), (4, .int x4), (5, .int x5), (6, .int x6), (7, .int x7)] → f_X12_go_c85 x2 x3 x4 n x6 x7 g = some (r0, g') → W p l e (headSpec wsX12_go (rm_X12_go)).room s m args below meth c H locs 0 0 (MQ below (mm_Qi D TM ad cy r0 g') args s 0 0 (mm_A TM ad)) (F0 m 85 ls []) := by
    intro n
    induction n with
    | zero =>
      intro x6 x7 g H locs ls hP hS hl hf
      rw [f_X12_go_c85] at hf
      cases hf
    | succ n ih =>
      intro x6 x7 g H locs ls hP hS hl hf
      rw [f_X12_go_c85] at hf
      refine lv_iload hx hb dX12_go_85 (lv_at hl 7 rfl) ?_
      refine lv_bipush (v := 9) hx hb dX12_go_87 (by decide) ?_
      refine lv_icmp_ge (tgt := 193) hx hb dX12_go_89 (by decide) (fun c_17 => ?_) (fun c_17 => ?_)
      · replace hf := ite_t c_17 hf
        refine lv_iload hx hb dX12_go_193 (lv_at hl 6 rfl) ?_
        exact mq_iret hx hb hr rfl hlocks hP hS (pr_1 hf) (pr_2 hf) dX12_go_195
      · replace hf := ite_f c_17 hf
        refine lv_aload_n hx hb dX12_go_92 rfl (lv_at hl 0 rfl) ?_
        refine mq_getr (Tt := TX12) (N := 26) (C := RX12) hx hb hts hiX12 hown hK hP hp rfl 18 16 (by decide) rfl hw4 (fun _ h9 => h9) dX12_go_93 ?_
        refine lv_iload hx hb dX12_go_96 (lv_at hl 7 rfl) ?_
        obtain ⟨h_18, hf⟩ := og_some hf
        refine mq_iald hx hb hK hP (N := 9) (shTM_X12_16 hp) h_18 dX12_go_98 ?_
        obtain ⟨x8_19, ex8_19, hf⟩ := mv_some hf
        refine mq_nm ex8_19 ?_
        refine lv_istore (lv' := [(8, .int x8_19), (0, .ref (ad 0)), (1, .int x1), (2, .int x2), (3, .int x3), (4, .int x4), (5, .int x5), (6, .int x6), (7, .int x7)]) hx hb dX12_go_99 hl (by decide) rfl (fun ls hl => ?_)
        refine lv_iload hx hb dX12_go_101 (lv_at hl 0 rfl) ?_
        refine lv_if_ne (tgt := 123) hx hb dX12_go_103 (by decide) (fun c_20 => ?_) (fun c_20 => ?_)
        · replace hf := ite_f c_20 hf
          exact hc123 (f_X12_go_c85 x2 x3 x4 n) ih x6 x7 x8_19 g H locs ls hP hS (lv_sub hl [1, 2, 3, 4, 5, 6, 7, 8, 0] rfl) hf
        · replace hf := ite_t c_20 hf
          refine lv_aload_n hx hb dX12_go_106 rfl (lv_at hl 1 rfl) ?_
          refine mq_getr (Tt := TX12) (N := 26) (C := RX12) hx hb hts hiX12 hown hK hP hp rfl 0 1 (by decide) rfl hw3 (fun _ h9 => h9) dX12_go_107 ?_
          refine lv_bipush (v := 63) hx hb dX12_go_110 (by decide) ?_
          refine lv_iload_n hx hb dX12_go_112 rfl (lv_at hl 3 rfl) ?_
          refine lv_iadd hx hb dX12_go_113 ?_
          refine lv_dup2_11 hx hb dX12_go_114 rfl rfl ?_
          obtain ⟨h_38, hf⟩ := og_some hf
          refine mq_iald hx hb hK hP (N := 193) (shTM_X12_1 hp) h_38 dX12_go_115 ?_
          refine lv_aload_n hx hb dX12_go_116 rfl (lv_at hl 1 rfl) ?_
          refine lv_iload_n hx hb dX12_go_117 rfl (lv_at hl 3 rfl) ?_
          obtain ⟨r_39, hr_40, hf⟩ := op_some hf
          refine mq_calli (va_runV (As := [.int x2]) (rest := [.int (g 1 (63 + x2).toNatClampNeg), .int (63 + x2), .ref (ad 1)]) ⟨hx, hb, hml, hown, hts⟩ (c_X12_wear l D ad cy x2 g hp r_39 hr_40) (cwV 1 hts gX12_go_X12_wear rfl rfl rfl (by decide +kernel) ⟨Nat.le_of_ble_eq_true rfl, Nat.le_of_ble_eq_true rfl⟩) (mq_preV (q := (RX12, TX12, 26)) mm_zOk0 hK hP hI hZ hS hp rfl) rfl rfl hl.1 rfl (lv_room (Nat.le_of_ble_eq_true rfl)) dX12_go_118 ⟨Nat.le_refl _, Nat.le_refl _⟩) hS (fun H locs hP hS => ?_)
          refine lv_isub hx hb dX12_go_121 ?_
          obtain ⟨h_41, hf⟩ := og_some hf
          obtain ⟨g_42, eg_42, hf⟩ := mw_some hf
          refine mq_iast hx hb hK hI hP hS (N := 193) (shTM_X12_1 hp) h_41 dX12_go_122 eg_42 (fun H locs hP hS => ?_)
          exact hc123 (f_X12_go_c85 x2 x3 x4 n) ih x6 x7 x8_19 g_42 H locs ls hP hS (lv_sub hl [1, 2, 3, 4, 5, 6, 7, 8, 0] rfl) hf
  unfold f_X12_go at hf
  have hH9 : ∀ (H : Heap) (locs : List Loc), H = s.heap → locs = [] → va_P D vwCl (mm_L TM ad cy g) H → va_S (mm_A TM ad) s.heap H locs → W p l e (headSpec wsX12_go (rm_X12_go)).room s m args below meth c H locs 0 0 (MQ below (mm_Qi D TM ad cy r0 g') args s 0 0 (mm_A TM ad)) (F0 m 0 ls []) := by
    intro H locs hH9 hL9 hP hS
    clear hH9 hL9
    refine lv_aload_n hx hb dX12_go_0 rfl (lv_at hl 0 rfl) ?_
    refine lv_iload_n hx hb dX12_go_1 rfl (lv_at hl 1 rfl) ?_
    refine lv_iload_n hx hb dX12_go_2 rfl (lv_at hl 2 rfl) ?_
    refine lv_iload_n hx hb dX12_go_3 rfl (lv_at hl 3 rfl) ?_
    refine lv_iload hx hb dX12_go_4 (lv_at hl 4 rfl) ?_
    obtain ⟨r_1, hr_2, hf⟩ := op_some hf
    refine mq_calli (va_runV (As := [.int x1, .int x2, .int x3, .int x4]) (rest := []) ⟨hx, hb, hml, hown, hts⟩ (c_X12_isTrio l D ad cy x1 x2 x3 x4 g hp r_1 hr_2) (cwV 4 hts gX12_go_X12_isTrio rfl rfl rfl (by decide +kernel) ⟨Nat.le_of_ble_eq_true rfl, Nat.le_of_ble_eq_true rfl⟩) (mq_preV (q := (RX12, TX12, 26)) mm_zOk0 hK hP hI hZ hS hp rfl) rfl rfl hl.1 rfl (lv_room (Nat.le_of_ble_eq_true rfl)) dX12_go_6 ⟨Nat.le_refl _, Nat.le_refl _⟩) hS (fun H locs hP hS => ?_)
    refine lv_if_eq (tgt := 25) hx hb dX12_go_9 (by decide) (fun c_3 => ?_) (fun c_3 => ?_)
    · replace hf := ite_t c_3 hf
      refine lv_iconst (v := (-1)) hx hb dX12_go_25 (by decide) ?_
      exact mq_iret hx hb hr rfl hlocks hP hS (pr_1 hf) (pr_2 hf) dX12_go_26
    · replace hf := ite_f c_3 hf
      refine lv_iload hx hb dX12_go_12 (lv_at hl 5 rfl) ?_
      refine lv_i2l hx hb dX12_go_14 rfl ?_
      refine lv_lconst (v := 1) hx hb dX12_go_15 (by decide) ?_
      refine lv_ldc2 (v := 999) hx hb hown hw0 dX12_go_16 ?_
      obtain ⟨r_4, hr_5, hf⟩ := op_some hf
      refine mq_calli (va_runS (As := [.long (x5.toInt64), .long 1, .long 999]) (rest := []) ⟨hx, hb, hml, hown, hts⟩ (c_X12_in l D ad cy (x5.toInt64) 1 999 g r_4 hr_5) (va_cwS 3 hts gX12_go_X12_in rfl rfl rfl (by decide +kernel) ⟨Nat.le_of_ble_eq_true rfl, Nat.le_of_ble_eq_true rfl⟩) (mq_preS mm_zOk0 hK hP hI hZ hS) rfl rfl hl.1 rfl (lv_room (Nat.le_of_ble_eq_true rfl)) dX12_go_19 ⟨Nat.le_refl _, Nat.le_refl _⟩) hS (fun H locs hP hS => ?_)
      refine lv_if_ne (tgt := 27) hx hb dX12_go_22 (by decide) (fun c_6 => ?_) (fun c_6 => ?_)
      · replace hf := ite_f c_6 hf
        refine lv_aload_n hx hb dX12_go_27 rfl (lv_at hl 0 rfl) ?_
        refine lv_iload_n hx hb dX12_go_28 rfl (lv_at hl 1 rfl) ?_
        refine lv_iload_n hx hb dX12_go_29 rfl (lv_at hl 2 rfl) ?_
        refine lv_iload_n hx hb dX12_go_30 rfl (lv_at hl 3 rfl) ?_
        refine lv_iload hx hb dX12_go_31 (lv_at hl 4 rfl) ?_
        refine lv_iload hx hb dX12_go_33 (lv_at hl 5 rfl) ?_
        obtain ⟨r_8, g_7, hr_9, hf⟩ := ob_some hf
        refine mq_calli (va_runV (As := [.int x1, .int x2, .int x3, .int x4, .int x5]) (rest := []) ⟨hx, hb, hml, hown, hts⟩ (c_X12_finds l D ad cy x1 x2 x3 x4 x5 g hp r_8 g_7 hr_9) (cwV 5 hts gX12_go_X12_finds rfl rfl rfl (by decide +kernel) ⟨Nat.le_of_ble_eq_true rfl, Nat.le_of_ble_eq_true rfl⟩) (mq_preV (q := (RX12, TX12, 26)) mm_zOk0 hK hP hI hZ hS hp rfl) rfl rfl hl.1 rfl (lv_room (Nat.le_of_ble_eq_true rfl)) dX12_go_35 ⟨Nat.le_refl _, Nat.le_refl _⟩) hS (fun H locs hP hS => ?_)
        refine lv_if_ne (tgt := 44) hx hb dX12_go_38 (by decide) (fun c_10 => ?_) (fun c_10 => ?_)
        · replace hf := ite_f c_10 hf
          refine lv_aload_n hx hb dX12_go_44 rfl (lv_at hl 0 rfl) ?_
          refine mq_geti (Tt := TX12) (N := 26) (C := RX12) hx hb hts hiX12 hown hK hP hp rfl 19 (by decide) rfl hw1 (fun _ h9 => h9) dX12_go_45 ?_
          refine lv_bipush (v := 16) hx hb dX12_go_48 (by decide) ?_
          refine lv_idiv hx hb dX12_go_50 (by decide) ?_
          obtain ⟨x6_11, ex6_11, hf⟩ := mv_some hf
          refine mq_nm ex6_11 ?_
          refine lv_istore (lv' := [(6, .int x6_11), (0, .ref (ad 0)), (1, .int x1), (2, .int x2), (3, .int x3), (4, .int x4), (5, .int x5)]) hx hb dX12_go_51 hl (by decide) rfl (fun ls hl => ?_)
          refine lv_iload hx hb dX12_go_53 (lv_at hl 0 rfl) ?_
          refine lv_aload_n hx hb dX12_go_55 rfl (lv_at hl 1 rfl) ?_
          refine mq_getr (Tt := TX12) (N := 26) (C := RX12) hx hb hts hiX12 hown hK hP hp rfl 0 1 (by decide) rfl hw3 (fun _ h9 => h9) dX12_go_56 ?_
          refine lv_iconst (v := 5) hx hb dX12_go_59 (by decide) ?_
          refine lv_iload_n hx hb dX12_go_60 rfl (lv_at hl 2 rfl) ?_
          refine lv_iadd hx hb dX12_go_61 ?_
          obtain ⟨h_12, hf⟩ := og_some hf
          refine mq_iald hx hb hK hP (N := 193) (shTM_X12_1 hp) h_12 dX12_go_62 ?_
          refine lv_icmp_le (tgt := 69) hx hb dX12_go_63 (by decide) (fun c_13 => ?_) (fun c_13 => ?_)
          · replace hf := ite_t c_13 hf
            refine lv_aload_n hx hb dX12_go_69 rfl (lv_at hl 1 rfl) ?_
            refine mq_getr (Tt := TX12) (N := 26) (C := RX12) hx hb hts hiX12 hown hK hP hp rfl 0 1 (by decide) rfl hw3 (fun _ h9 => h9) dX12_go_70 ?_
            refine lv_iconst (v := 5) hx hb dX12_go_73 (by decide) ?_
            refine lv_iload_n hx hb dX12_go_74 rfl (lv_at hl 2 rfl) ?_
            refine lv_iadd hx hb dX12_go_75 ?_
            refine lv_dup2_11 hx hb dX12_go_76 rfl rfl ?_
            obtain ⟨h_14, hf⟩ := og_some hf
            refine mq_iald hx hb hK hP (N := 193) (shTM_X12_1 hp) h_14 dX12_go_77 ?_
            refine lv_iload hx hb dX12_go_78 (lv_at hl 0 rfl) ?_
            refine lv_isub hx hb dX12_go_80 ?_
            obtain ⟨h_15, hf⟩ := og_some hf
            obtain ⟨g_16, eg_16, hf⟩ := mw_some hf
            refine mq_iast hx hb hK hI hP hS (N := 193) (shTM_X12_1 hp) h_15 dX12_go_81 eg_16 (fun H locs hP hS => ?_)
            refine lv_iconst (v := 0) hx hb dX12_go_82 (by decide) ?_
            refine lv_istore (lv' := [(7, .int 0), (6, .int x6_11), (0, .ref (ad 0)), (1, .int x1), (2, .int x2), (3, .int x3), (4, .int x4), (5, .int x5)]) hx hb dX12_go_83 hl (by decide) rfl (fun ls hl => ?_)
            exact hc85 FU x6_11 0 g_16 H locs ls hP hS (lv_sub hl [2, 3, 4, 5, 6, 7, 1, 0] rfl) hf
          · replace hf := ite_f c_13 hf
            refine lv_bipush (v := (-2)) hx hb dX12_go_66 (by decide) ?_
            exact mq_iret hx hb hr rfl hlocks hP hS (pr_1 hf) (pr_2 hf) dX12_go_68
        · replace hf := ite_t c_10 hf
          refine lv_bipush (v := (-4)) hx hb dX12_go_41 (by decide) ?_
          exact mq_iret hx hb hr rfl hlocks hP hS (pr_1 hf) (pr_2 hf) dX12_go_43
      · replace hf := ite_t c_6 hf
        refine lv_iconst (v := (-1)) hx hb dX12_go_25 (by decide) ?_
        exact mq_iret hx hb hr rfl hlocks hP hS (pr_1 hf) (pr_2 hf) dX12_go_26
  exact hH9 s.heap [] rfl rfl hP hS
abbrev rm_X12_areFords : Room := ({ frames := 1, cells := 0, slots := 0, locals := 25 } : Room)
set_option maxHeartbeats 4000000 in
set_option maxRecDepth 100000 in
theorem c_X12_areFords (l : Launch) (D : va_G) (ad : Nat → Nat) (cy : Nat → ClassId) (x0 : Int32) (x1 : Int32) (g : Mm)  (r0 : Int32) (hf : f_X12_areFords x0 x1 = some r0) : Met l yX12_areFords wsX12_areFords rm_X12_areFords (va_Pc [.int x0, .int x1] (mm_pre mm_Z0 D TM ad cy g)) (mm_Qi D TM ad cy r0 g) 0 0 (mm_A TM ad) := by
  refine Met.ofW (cc := cX12_areFords) (maxL := 2) (ret := (some .boolean)) (by decide) rfl ?_
  intro p e s m args below meth c s₁ B hml hv
  obtain ⟨hargs, hP, hK, hI, hZ⟩ := hv
  have hx := B.exec
  have hb := B.bytes
  have hr := B.returns
  have hts := atoms_spec (ws := wsX12_areFords) B.pre
  have hown : s.vm.findClass RX12 = some m.cls := findClass_of_methodNamed B.named
  have hlocks := B.notSynchronized
  have hw0 := hts (.constantLong RX12 192 (7)) (by decide +kernel)
  rw [show entryFrame m args 2 = F0 m 0 ((lg_sl ([.int x0, .int x1] : List Value) ++ List.replicate (2 - (lg_sl ([.int x0, .int x1] : List Value)).length) Slot.unset).toArray) [] from by rw [hargs]; exact lg_entry_eq m _ _]
  have hl := lv_entry ([.int x0, .int x1] : List Value) (n := 2) (by exact Nat.le_of_ble_eq_true rfl)
  generalize (lg_sl ([.int x0, .int x1] : List Value) ++ List.replicate (2 - (lg_sl ([.int x0, .int x1] : List Value)).length) Slot.unset).toArray = ls at hl ⊢
  have hl : lv_has ls 2 [(0, .int x0), (1, .int x1)] := by exact hl
  have hS : va_S (mm_A TM ad) s.heap s.heap [] := va_S.rf
  clear hargs
  unfold f_X12_areFords at hf
  have hH9 : ∀ (H : Heap) (locs : List Loc), H = s.heap → locs = [] → va_P D vwCl (mm_L TM ad cy g) H → va_S (mm_A TM ad) s.heap H locs → W p l e (headSpec wsX12_areFords (rm_X12_areFords)).room s m args below meth c H locs 0 0 (MQ below (mm_Qi D TM ad cy r0 g) args s 0 0 (mm_A TM ad)) (F0 m 0 ls []) := by
    intro H locs hH9 hL9 hP hS
    clear hH9 hL9
    refine lv_iload_n hx hb dX12_areFords_0 rfl (lv_at hl 0 rfl) ?_
    refine lv_i2l hx hb dX12_areFords_1 rfl ?_
    refine lv_lconst (v := 0) hx hb dX12_areFords_2 (by decide) ?_
    refine lv_ldc2 (v := 7) hx hb hown hw0 dX12_areFords_3 ?_
    obtain ⟨r_1, hr_2, hf⟩ := op_some hf
    refine mq_calli (va_runS (As := [.long (x0.toInt64), .long 0, .long 7]) (rest := []) ⟨hx, hb, hml, hown, hts⟩ (c_X12_in l D ad cy (x0.toInt64) 0 7 g r_1 hr_2) (va_cwS 3 hts gX12_areFords_X12_in rfl rfl rfl (by decide +kernel) ⟨Nat.le_of_ble_eq_true rfl, Nat.le_of_ble_eq_true rfl⟩) (mq_preS mm_zOk0 hK hP hI hZ hS) rfl rfl hl.1 rfl (lv_room (Nat.le_of_ble_eq_true rfl)) dX12_areFords_6 ⟨Nat.le_refl _, Nat.le_refl _⟩) hS (fun H locs hP hS => ?_)
    refine lv_if_eq (tgt := 33) hx hb dX12_areFords_9 (by decide) (fun c_3 => ?_) (fun c_3 => ?_)
    · replace hf := ite_t c_3 hf
      refine lv_iconst (v := 0) hx hb dX12_areFords_33 (by decide) ?_
      exact mq_iret hx hb hr (by decide +kernel) hlocks hP hS (Option.some.inj hf) rfl dX12_areFords_34
    · replace hf := ite_f c_3 hf
      refine lv_iload_n hx hb dX12_areFords_12 rfl (lv_at hl 1 rfl) ?_
      refine lv_i2l hx hb dX12_areFords_13 rfl ?_
      refine lv_lconst (v := 0) hx hb dX12_areFords_14 (by decide) ?_
      refine lv_ldc2 (v := 7) hx hb hown hw0 dX12_areFords_15 ?_
      obtain ⟨r_4, hr_5, hf⟩ := op_some hf
      refine mq_calli (va_runS (As := [.long (x1.toInt64), .long 0, .long 7]) (rest := []) ⟨hx, hb, hml, hown, hts⟩ (c_X12_in l D ad cy (x1.toInt64) 0 7 g r_4 hr_5) (va_cwS 3 hts gX12_areFords_X12_in rfl rfl rfl (by decide +kernel) ⟨Nat.le_of_ble_eq_true rfl, Nat.le_of_ble_eq_true rfl⟩) (mq_preS mm_zOk0 hK hP hI hZ hS) rfl rfl hl.1 rfl (lv_room (Nat.le_of_ble_eq_true rfl)) dX12_areFords_18 ⟨Nat.le_refl _, Nat.le_refl _⟩) hS (fun H locs hP hS => ?_)
      refine lv_if_eq (tgt := 33) hx hb dX12_areFords_21 (by decide) (fun c_6 => ?_) (fun c_6 => ?_)
      · replace hf := ite_t c_6 hf
        refine lv_iconst (v := 0) hx hb dX12_areFords_33 (by decide) ?_
        exact mq_iret hx hb hr (by decide +kernel) hlocks hP hS (Option.some.inj hf) rfl dX12_areFords_34
      · replace hf := ite_f c_6 hf
        refine lv_iload_n hx hb dX12_areFords_24 rfl (lv_at hl 0 rfl) ?_
        refine lv_iload_n hx hb dX12_areFords_25 rfl (lv_at hl 1 rfl) ?_
        refine lv_icmp_eq (tgt := 33) hx hb dX12_areFords_26 (by decide) (fun c_7 => ?_) (fun c_7 => ?_)
        · replace hf := ite_t c_7 hf
          refine lv_iconst (v := 0) hx hb dX12_areFords_33 (by decide) ?_
          exact mq_iret hx hb hr (by decide +kernel) hlocks hP hS (Option.some.inj hf) rfl dX12_areFords_34
        · replace hf := ite_f c_7 hf
          refine lv_iconst (v := 1) hx hb dX12_areFords_29 (by decide) ?_
          refine lv_goto (tgt := 34) hx hb dX12_areFords_30 (by decide) ?_
          exact mq_iret hx hb hr (by decide +kernel) hlocks hP hS (Option.some.inj hf) rfl dX12_areFords_34
  exact hH9 s.heap [] rfl rfl hP hS
abbrev rm_X12_path : Room := ({ frames := 2, cells := 0, slots := 0, locals := 46 } : Room)
set_option maxHeartbeats 4000000 in
set_option maxRecDepth 100000 in
theorem c_X12_path (l : Launch) (D : va_G) (ad : Nat → Nat) (cy : Nat → ClassId) (x1 : Int32) (x2 : Int32) (x3 : Int32) (g : Mm) (hp : TM[0]? = some sX12) (r0 : Int32) (g' : Mm) (hf : f_X12_path x1 x2 x3 g = some (r0, g')) : Met l yX12_path wsX12_path rm_X12_path (va_Pc [.ref (ad 0), .int x1, .int x2, .int x3] (mm_pre mm_Z0 D TM ad cy g)) (mm_Qi D TM ad cy r0 g') 0 0 (mm_A TM ad) := by
  refine Met.ofW (cc := cX12_path) (maxL := 5) (ret := (some .int)) (by decide) rfl ?_
  intro p e s m args below meth c s₁ B hml hv
  obtain ⟨hargs, hP, hK, hI, hZ⟩ := hv
  have hx := B.exec
  have hb := B.bytes
  have hr := B.returns
  have hts := atoms_spec (ws := wsX12_path) B.pre
  have hown : s.vm.findClass RX12 = some m.cls := findClass_of_methodNamed B.named
  have hlocks := B.notSynchronized
  have hw0 := hts (.constantLong RX12 197 (-1)) (by decide +kernel)
  have hw1 := hts (.constantLong RX12 199 (15)) (by decide +kernel)
  have hw2 := hts (.fieldLink RX12 7 "LeftShoesModel" "now" "[I") (by decide +kernel)
  have hiX12 : ∀ w ∈ wsX120, w ∈ wsX12_path := by decide +kernel
  rw [show entryFrame m args 5 = F0 m 0 ((lg_sl ([.ref (ad 0), .int x1, .int x2, .int x3] : List Value) ++ List.replicate (5 - (lg_sl ([.ref (ad 0), .int x1, .int x2, .int x3] : List Value)).length) Slot.unset).toArray) [] from by rw [hargs]; exact lg_entry_eq m _ _]
  have hl := lv_entry ([.ref (ad 0), .int x1, .int x2, .int x3] : List Value) (n := 5) (by exact Nat.le_of_ble_eq_true rfl)
  generalize (lg_sl ([.ref (ad 0), .int x1, .int x2, .int x3] : List Value) ++ List.replicate (5 - (lg_sl ([.ref (ad 0), .int x1, .int x2, .int x3] : List Value)).length) Slot.unset).toArray = ls at hl ⊢
  have hl : lv_has ls 5 [(0, .ref (ad 0)), (1, .int x1), (2, .int x2), (3, .int x3)] := by exact hl
  have hS : va_S (mm_A TM ad) s.heap s.heap [] := va_S.rf
  clear hargs
  unfold f_X12_path at hf
  have hH9 : ∀ (H : Heap) (locs : List Loc), H = s.heap → locs = [] → va_P D vwCl (mm_L TM ad cy g) H → va_S (mm_A TM ad) s.heap H locs → W p l e (headSpec wsX12_path (rm_X12_path)).room s m args below meth c H locs 0 0 (MQ below (mm_Qi D TM ad cy r0 g') args s 0 0 (mm_A TM ad)) (F0 m 0 ls []) := by
    intro H locs hH9 hL9 hP hS
    clear hH9 hL9
    refine lv_iload_n hx hb dX12_path_0 rfl (lv_at hl 1 rfl) ?_
    refine lv_iload_n hx hb dX12_path_1 rfl (lv_at hl 2 rfl) ?_
    obtain ⟨r_1, hr_2, hf⟩ := op_some hf
    refine mq_calli (va_runS (As := [.int x1, .int x2]) (rest := []) ⟨hx, hb, hml, hown, hts⟩ (c_X12_areFords l D ad cy x1 x2 g r_1 hr_2) (va_cwS 2 hts gX12_path_X12_areFords rfl rfl rfl (by decide +kernel) ⟨Nat.le_of_ble_eq_true rfl, Nat.le_of_ble_eq_true rfl⟩) (mq_preS mm_zOk0 hK hP hI hZ hS) rfl rfl hl.1 rfl (lv_room (Nat.le_of_ble_eq_true rfl)) dX12_path_2 ⟨Nat.le_refl _, Nat.le_refl _⟩) hS (fun H locs hP hS => ?_)
    refine lv_if_eq (tgt := 22) hx hb dX12_path_5 (by decide) (fun c_3 => ?_) (fun c_3 => ?_)
    · replace hf := ite_t c_3 hf
      refine lv_iconst (v := (-1)) hx hb dX12_path_22 (by decide) ?_
      exact mq_iret hx hb hr rfl hlocks hP hS (pr_1 hf) (pr_2 hf) dX12_path_23
    · replace hf := ite_f c_3 hf
      refine lv_iload_n hx hb dX12_path_8 rfl (lv_at hl 3 rfl) ?_
      refine lv_i2l hx hb dX12_path_9 rfl ?_
      refine lv_ldc2 (v := (-1)) hx hb hown hw0 dX12_path_10 ?_
      refine lv_ldc2 (v := 15) hx hb hown hw1 dX12_path_13 ?_
      obtain ⟨r_4, hr_5, hf⟩ := op_some hf
      refine mq_calli (va_runS (As := [.long (x3.toInt64), .long (-1), .long 15]) (rest := []) ⟨hx, hb, hml, hown, hts⟩ (c_X12_in l D ad cy (x3.toInt64) (-1) 15 g r_4 hr_5) (va_cwS 3 hts gX12_path_X12_in rfl rfl rfl (by decide +kernel) ⟨Nat.le_of_ble_eq_true rfl, Nat.le_of_ble_eq_true rfl⟩) (mq_preS mm_zOk0 hK hP hI hZ hS) rfl rfl hl.1 rfl (lv_room (Nat.le_of_ble_eq_true rfl)) dX12_path_16 ⟨Nat.le_refl _, Nat.le_refl _⟩) hS (fun H locs hP hS => ?_)
      refine lv_if_ne (tgt := 24) hx hb dX12_path_19 (by decide) (fun c_6 => ?_) (fun c_6 => ?_)
      · replace hf := ite_f c_6 hf
        refine lv_aload_n hx hb dX12_path_24 rfl (lv_at hl 0 rfl) ?_
        refine lv_bipush (v := 117) hx hb dX12_path_25 (by decide) ?_
        refine lv_bipush (v := 8) hx hb dX12_path_27 (by decide) ?_
        refine lv_iload_n hx hb dX12_path_29 rfl (lv_at hl 1 rfl) ?_
        refine lv_imul hx hb dX12_path_30 ?_
        refine lv_iadd hx hb dX12_path_31 ?_
        refine lv_iload_n hx hb dX12_path_32 rfl (lv_at hl 2 rfl) ?_
        refine lv_iadd hx hb dX12_path_33 ?_
        refine lv_iload_n hx hb dX12_path_34 rfl (lv_at hl 3 rfl) ?_
        obtain ⟨r_8, g_7, hr_9, hf⟩ := ob_some hf
        refine mq_calli (va_runV (As := [.int ((117 + (8 * x1)) + x2), .int x3]) (rest := []) ⟨hx, hb, hml, hown, hts⟩ (c_X12_changed l D ad cy ((117 + (8 * x1)) + x2) x3 g hp r_8 g_7 hr_9) (cwV 2 hts gX12_path_X12_changed rfl rfl rfl (by decide +kernel) ⟨Nat.le_of_ble_eq_true rfl, Nat.le_of_ble_eq_true rfl⟩) (mq_preV (q := (RX12, TX12, 26)) mm_zOk0 hK hP hI hZ hS hp rfl) rfl rfl hl.1 rfl (lv_room (Nat.le_of_ble_eq_true rfl)) dX12_path_35 ⟨Nat.le_refl _, Nat.le_refl _⟩) hS (fun H locs hP hS => ?_)
        refine lv_istore (lv' := [(4, .int r_8), (0, .ref (ad 0)), (1, .int x1), (2, .int x2), (3, .int x3)]) hx hb dX12_path_38 hl (by decide) rfl (fun ls hl => ?_)
        refine lv_aload_n hx hb dX12_path_40 rfl (lv_at hl 1 rfl) ?_
        refine mq_getr (Tt := TX12) (N := 26) (C := RX12) hx hb hts hiX12 hown hK hP hp rfl 0 1 (by decide) rfl hw2 (fun _ h9 => h9) dX12_path_41 ?_
        refine lv_bipush (v := 117) hx hb dX12_path_44 (by decide) ?_
        refine lv_bipush (v := 8) hx hb dX12_path_46 (by decide) ?_
        refine lv_iload_n hx hb dX12_path_48 rfl (lv_at hl 3 rfl) ?_
        refine lv_imul hx hb dX12_path_49 ?_
        refine lv_iadd hx hb dX12_path_50 ?_
        refine lv_iload_n hx hb dX12_path_51 rfl (lv_at hl 2 rfl) ?_
        refine lv_iadd hx hb dX12_path_52 ?_
        refine lv_iload_n hx hb dX12_path_53 rfl (lv_at hl 4 rfl) ?_
        obtain ⟨h_10, hf⟩ := og_some hf
        obtain ⟨g_11, eg_11, hf⟩ := mw_some hf
        refine mq_iast hx hb hK hI hP hS (N := 193) (shTM_X12_1 hp) h_10 dX12_path_54 eg_11 (fun H locs hP hS => ?_)
        refine lv_iload hx hb dX12_path_55 (lv_at hl 0 rfl) ?_
        refine lv_bipush (v := 100) hx hb dX12_path_57 (by decide) ?_
        refine lv_iadd hx hb dX12_path_59 ?_
        exact mq_iret hx hb hr rfl hlocks hP hS (pr_1 hf) (pr_2 hf) dX12_path_60
      · replace hf := ite_t c_6 hf
        refine lv_iconst (v := (-1)) hx hb dX12_path_22 (by decide) ?_
        exact mq_iret hx hb hr rfl hlocks hP hS (pr_1 hf) (pr_2 hf) dX12_path_23
  exact hH9 s.heap [] rfl rfl hP hS
abbrev rm_X12_wander : Room := ({ frames := 0, cells := 0, slots := 0, locals := 0 } : Room)
set_option maxHeartbeats 4000000 in
set_option maxRecDepth 100000 in
theorem c_X12_wander (l : Launch) (D : va_G) (ad : Nat → Nat) (cy : Nat → ClassId) (x1 : Int32) (x2 : Int32) (g : Mm) (hp : TM[0]? = some sX12) (g' : Mm) (hf : f_X12_wander x1 x2 g = some g') : Met l yX12_wander wsX12_wander rm_X12_wander (va_Pc [.ref (ad 0), .int x1, .int x2] (mm_pre mm_Z0 D TM ad cy g)) (mm_Qv D TM ad cy g') 0 0 (mm_A TM ad) := by
  refine Met.ofW (cc := cX12_wander) (maxL := 9) (ret := none) (by decide) rfl ?_
  intro p e s m args below meth c s₁ B hml hv
  obtain ⟨hargs, hP, hK, hI, hZ⟩ := hv
  have hx := B.exec
  have hb := B.bytes
  have hr := B.returns
  have hts := atoms_spec (ws := wsX12_wander) B.pre
  have hown : s.vm.findClass RX12 = some m.cls := findClass_of_methodNamed B.named
  have hlocks := B.notSynchronized
  have hw0 := hts (.fieldLink RX12 201 "LeftShoesModel" "unseen" "I") (by decide +kernel)
  have hiX12 : ∀ w ∈ wsX120, w ∈ wsX12_wander := by decide +kernel
  have hw2 := hts (.constant RX12 204 (16777216)) (by decide +kernel)
  have hw3 := hts (.fieldLink RX12 58 "LeftShoesModel" "come" "[I") (by decide +kernel)
  have hw4 := hts (.fieldLink RX12 205 "LeftShoesModel" "fewest" "I") (by decide +kernel)
  have hw5 := hts (.fieldLink RX12 61 "LeftShoesModel" "goes" "[I") (by decide +kernel)
  have hw6 := hts (.fieldLink RX12 7 "LeftShoesModel" "now" "[I") (by decide +kernel)
  rw [show entryFrame m args 9 = F0 m 0 ((lg_sl ([.ref (ad 0), .int x1, .int x2] : List Value) ++ List.replicate (9 - (lg_sl ([.ref (ad 0), .int x1, .int x2] : List Value)).length) Slot.unset).toArray) [] from by rw [hargs]; exact lg_entry_eq m _ _]
  have hl := lv_entry ([.ref (ad 0), .int x1, .int x2] : List Value) (n := 9) (by exact Nat.le_of_ble_eq_true rfl)
  generalize (lg_sl ([.ref (ad 0), .int x1, .int x2] : List Value) ++ List.replicate (9 - (lg_sl ([.ref (ad 0), .int x1, .int x2] : List Value)).length) Slot.unset).toArray = ls at hl ⊢
  have hl : lv_has ls 9 [(0, .ref (ad 0)), (1, .int x1), (2, .int x2)] := by exact hl
  have hS : va_S (mm_A TM ad) s.heap s.heap [] := va_S.rf
  clear hargs
  have hc164 : ∀ (K_41 : Int32 → Int32 → Mm → Option (Mm)), (∀ (x3 : Int32) (x4 : Int32) (g : Mm) (H : Heap) (locs : List Loc) (ls : Array Slot), va_P D vwCl (mm_L TM ad cy g) H → va_S (mm_A TM ad) s.heap H locs → lv_has ls 9 [(0, .ref (ad 0)), (1, .int x1), (2, .int x2), (3, .int x3), (4, .int x4)] → K_41 x3 x4 g = some g' → W p l e (headSpec wsX12_wander (rm_X12_wander)).room s m args below meth c H locs 0 0 (MQ below (mm_Qv D TM ad cy g') args s 0 0 (mm_A TM ad)) (F0 m 41 ls [])) → ∀ (n : Nat), ∀ (x3 : Int32) (x4 : Int32) (x5 : Int32) (g : Mm) (H : Heap) (locs : List Loc) (ls : Array Slot), va_P D vwCl (mm_L TM ad cy g) H → va_S (mm_A TM ad) s.heap H locs → lv_has ls 9 [(0, .ref (ad 0)), (1, .int x1), (2, .int x2), (3, .int x3), (4, .int x4), (5, .int x5)] → f_X12_wander_c164 K_41 x2 n x3 x4 x5 g = some g' → W p l e (headSpec wsX12_wander (rm_X12_wander)).room s m args below meth c H locs 0 0 (MQ below (mm_Qv D TM ad cy g') args s 0 0 (mm_A TM ad)) (F0 m 164 ls []) := by
    intro K_41 hK_41 n
    induction n with
    | zero =>
      intro x3 x4 x5 g H locs ls hP hS hl hf
      rw [f_X12_wander_c164] at hf
      cases hf
    | succ n ih =>
      intro x3 x4 x5 g H locs ls hP hS hl hf
      rw [f_X12_wander_c164] at hf
      refine lv_iload hx hb dX12_wander_164 (lv_at hl 5 rfl) ?_
      refine lv_bipush (v := 8) hx hb dX12_wander_166 (by decide) ?_
      refine lv_icmp_ge (tgt := 191) hx hb dX12_wander_168 (by decide) (fun c_5 => ?_) (fun c_5 => ?_)
      · replace hf := ite_t c_5 hf
        refine lv_aload_n hx hb dX12_wander_191 rfl (lv_at hl 0 rfl) ?_
        refine mq_getr (Tt := TX12) (N := 26) (C := RX12) hx hb hts hiX12 hown hK hP hp rfl 21 17 (by decide) rfl hw3 (fun _ h9 => h9) dX12_wander_192 ?_
        refine lv_iload_n hx hb dX12_wander_195 rfl (lv_at hl 2 rfl) ?_
        obtain ⟨h_6, hf⟩ := og_some hf
        refine mq_iald hx hb hK hP (N := 8) (shTM_X12_17 hp) h_6 dX12_wander_196 ?_
        refine lv_iload_n hx hb dX12_wander_197 rfl (lv_at hl 3 rfl) ?_
        refine lv_imul hx hb dX12_wander_198 ?_
        refine lv_aload_n hx hb dX12_wander_199 rfl (lv_at hl 0 rfl) ?_
        refine mq_geti (Tt := TX12) (N := 26) (C := RX12) hx hb hts hiX12 hown hK hP hp rfl 23 (by decide) rfl hw0 (fun _ h9 => h9) dX12_wander_200 ?_
        refine lv_icmp_le (tgt := 224) hx hb dX12_wander_203 (by decide) (fun c_7 => ?_) (fun c_7 => ?_)
        · replace hf := ite_t c_7 hf
          refine lv_iload_n hx hb dX12_wander_224 rfl (lv_at hl 3 rfl) ?_
          refine lv_bipush (v := 16) hx hb dX12_wander_225 (by decide) ?_
          refine lv_idiv hx hb dX12_wander_227 (by decide) ?_
          obtain ⟨x3_8, ex3_8, hf⟩ := mv_some hf
          refine mq_nm ex3_8 ?_
          refine lv_istore_n (lv' := [(3, .int x3_8), (0, .ref (ad 0)), (1, .int x1), (2, .int x2), (4, .int x4), (5, .int x5)]) hx hb dX12_wander_228 rfl hl (by decide) rfl (fun ls hl => ?_)
          obtain ⟨x4_9, ex4_9, hf⟩ := mv_some hf
          refine lv_iinc (v := x4_9) (lv' := [(4, .int x4_9), (3, .int x3_8), (0, .ref (ad 0)), (1, .int x1), (2, .int x2), (5, .int x5)]) hx hb dX12_wander_229 hl (k := 4) rfl (by rw [ex4_9]; rfl) (by decide) rfl (fun ls hl => ?_)
          refine lv_goto (tgt := 41) hx hb dX12_wander_232 (by decide) ?_
          exact hK_41 x3_8 x4_9 g H locs ls hP hS (lv_sub hl [2, 3, 4, 1, 0] rfl) hf
        · replace hf := ite_f c_7 hf
          refine lv_aload_n hx hb dX12_wander_206 rfl (lv_at hl 0 rfl) ?_
          refine lv_aload_n hx hb dX12_wander_207 rfl (lv_at hl 0 rfl) ?_
          refine mq_getr (Tt := TX12) (N := 26) (C := RX12) hx hb hts hiX12 hown hK hP hp rfl 21 17 (by decide) rfl hw3 (fun _ h9 => h9) dX12_wander_208 ?_
          refine lv_iload_n hx hb dX12_wander_211 rfl (lv_at hl 2 rfl) ?_
          obtain ⟨h_10, hf⟩ := og_some hf
          refine mq_iald hx hb hK hP (N := 8) (shTM_X12_17 hp) h_10 dX12_wander_212 ?_
          refine lv_iload_n hx hb dX12_wander_213 rfl (lv_at hl 3 rfl) ?_
          refine lv_imul hx hb dX12_wander_214 ?_
          obtain ⟨g_11, eg_11, hf⟩ := mw_some hf
          refine mq_puti (Tt := TX12) (N := 26) (C := RX12) (ty := .int) hx hb hts hiX12 tyX12 tyX12_ok nmX12 hown hK hI hP hS hp rfl 23 (by decide) rfl hw0 (fun _ h9 => h9) rfl (by decide +kernel) rfl rfl dX12_wander_215 eg_11 (fun H locs hP hS => ?_)
          refine lv_aload_n hx hb dX12_wander_218 rfl (lv_at hl 0 rfl) ?_
          refine lv_iload hx hb dX12_wander_219 (lv_at hl 4 rfl) ?_
          obtain ⟨g_12, eg_12, hf⟩ := mw_some hf
          refine mq_puti (Tt := TX12) (N := 26) (C := RX12) (ty := .int) hx hb hts hiX12 tyX12 tyX12_ok nmX12 hown hK hI hP hS hp rfl 24 (by decide) rfl hw4 (fun _ h9 => h9) rfl (by decide +kernel) rfl rfl dX12_wander_221 eg_12 (fun H locs hP hS => ?_)
          refine lv_iload_n hx hb dX12_wander_224 rfl (lv_at hl 3 rfl) ?_
          refine lv_bipush (v := 16) hx hb dX12_wander_225 (by decide) ?_
          refine lv_idiv hx hb dX12_wander_227 (by decide) ?_
          obtain ⟨x3_13, ex3_13, hf⟩ := mv_some hf
          refine mq_nm ex3_13 ?_
          refine lv_istore_n (lv' := [(3, .int x3_13), (0, .ref (ad 0)), (1, .int x1), (2, .int x2), (4, .int x4), (5, .int x5)]) hx hb dX12_wander_228 rfl hl (by decide) rfl (fun ls hl => ?_)
          obtain ⟨x4_14, ex4_14, hf⟩ := mv_some hf
          refine lv_iinc (v := x4_14) (lv' := [(4, .int x4_14), (3, .int x3_13), (0, .ref (ad 0)), (1, .int x1), (2, .int x2), (5, .int x5)]) hx hb dX12_wander_229 hl (k := 4) rfl (by rw [ex4_14]; rfl) (by decide) rfl (fun ls hl => ?_)
          refine lv_goto (tgt := 41) hx hb dX12_wander_232 (by decide) ?_
          exact hK_41 x3_13 x4_14 g_12 H locs ls hP hS (lv_sub hl [2, 3, 4, 1, 0] rfl) hf
      · replace hf := ite_f c_5 hf
        refine lv_aload_n hx hb dX12_wander_171 rfl (lv_at hl 0 rfl) ?_
        refine mq_getr (Tt := TX12) (N := 26) (C := RX12) hx hb hts hiX12 hown hK hP hp rfl 21 17 (by decide) rfl hw3 (fun _ h9 => h9) dX12_wander_172 ?_
        refine lv_iload hx hb dX12_wander_175 (lv_at hl 5 rfl) ?_
        refine lv_aload_n hx hb dX12_wander_177 rfl (lv_at hl 0 rfl) ?_
        refine mq_getr (Tt := TX12) (N := 26) (C := RX12) hx hb hts hiX12 hown hK hP hp rfl 22 18 (by decide) rfl hw5 (fun _ h9 => h9) dX12_wander_178 ?_
        refine lv_iload hx hb dX12_wander_181 (lv_at hl 5 rfl) ?_
        obtain ⟨h_15, hf⟩ := og_some hf
        refine mq_iald hx hb hK hP (N := 8) (shTM_X12_18 hp) h_15 dX12_wander_183 ?_
        obtain ⟨h_16, hf⟩ := og_some hf
        obtain ⟨g_17, eg_17, hf⟩ := mw_some hf
        refine mq_iast hx hb hK hI hP hS (N := 8) (shTM_X12_17 hp) h_16 dX12_wander_184 eg_17 (fun H locs hP hS => ?_)
        obtain ⟨x5_18, ex5_18, hf⟩ := mv_some hf
        refine lv_iinc (v := x5_18) (lv' := [(5, .int x5_18), (0, .ref (ad 0)), (1, .int x1), (2, .int x2), (3, .int x3), (4, .int x4)]) hx hb dX12_wander_185 hl (k := 5) rfl (by rw [ex5_18]; rfl) (by decide) rfl (fun ls hl => ?_)
        refine lv_goto (tgt := 164) hx hb dX12_wander_188 (by decide) ?_
        exact ih x3 x4 x5_18 g_17 H locs ls hP hS (lv_sub hl [1, 2, 3, 4, 5, 0] rfl) hf
  have hc148 : ∀ (K_41 : Int32 → Int32 → Mm → Option (Mm)), (∀ (x3 : Int32) (x4 : Int32) (g : Mm) (H : Heap) (locs : List Loc) (ls : Array Slot), va_P D vwCl (mm_L TM ad cy g) H → va_S (mm_A TM ad) s.heap H locs → lv_has ls 9 [(0, .ref (ad 0)), (1, .int x1), (2, .int x2), (3, .int x3), (4, .int x4)] → K_41 x3 x4 g = some g' → W p l e (headSpec wsX12_wander (rm_X12_wander)).room s m args below meth c H locs 0 0 (MQ below (mm_Qv D TM ad cy g') args s 0 0 (mm_A TM ad)) (F0 m 41 ls [])) → ∀ (K_51 : Int32 → Int32 → Int32 → Mm → Option (Mm)), (∀ (x3 : Int32) (x4 : Int32) (x5 : Int32) (g : Mm) (H : Heap) (locs : List Loc) (ls : Array Slot), va_P D vwCl (mm_L TM ad cy g) H → va_S (mm_A TM ad) s.heap H locs → lv_has ls 9 [(0, .ref (ad 0)), (1, .int x1), (2, .int x2), (3, .int x3), (4, .int x4), (5, .int x5)] → K_51 x3 x4 x5 g = some g' → W p l e (headSpec wsX12_wander (rm_X12_wander)).room s m args below meth c H locs 0 0 (MQ below (mm_Qv D TM ad cy g') args s 0 0 (mm_A TM ad)) (F0 m 51 ls [])) → ∀ (K_69 : Int32 → Int32 → Int32 → Int32 → Mm → Option (Mm)), (∀ (x3 : Int32) (x4 : Int32) (x5 : Int32) (x6 : Int32) (g : Mm) (H : Heap) (locs : List Loc) (ls : Array Slot), va_P D vwCl (mm_L TM ad cy g) H → va_S (mm_A TM ad) s.heap H locs → lv_has ls 9 [(0, .ref (ad 0)), (1, .int x1), (2, .int x2), (3, .int x3), (4, .int x4), (5, .int x5), (6, .int x6)] → K_69 x3 x4 x5 x6 g = some g' → W p l e (headSpec wsX12_wander (rm_X12_wander)).room s m args below meth c H locs 0 0 (MQ below (mm_Qv D TM ad cy g') args s 0 0 (mm_A TM ad)) (F0 m 69 ls [])) → ∀ (x3 : Int32) (x4 : Int32) (x5 : Int32) (x6 : Int32) (sq0 : Nat) (sx1 : Int32) (sx2 : Int32) (g : Mm) (H : Heap) (locs : List Loc) (ls : Array Slot), TM[sq0]? = some (.inr (8, 0, none) : Shp) → va_P D vwCl (mm_L TM ad cy g) H → va_S (mm_A TM ad) s.heap H locs → lv_has ls 9 [(0, .ref (ad 0)), (1, .int x1), (2, .int x2), (3, .int x3), (4, .int x4), (5, .int x5), (6, .int x6)] → f_X12_wander_c148 K_41 K_51 K_69 x2 x3 x4 x5 x6 sq0 sx1 sx2 g = some g' → W p l e (headSpec wsX12_wander (rm_X12_wander)).room s m args below meth c H locs 0 0 (MQ below (mm_Qv D TM ad cy g') args s 0 0 (mm_A TM ad)) (F0 m 148 ls [.int sx2, .int sx1, .ref (ad sq0)]) := by
    intro K_41 hK_41 K_51 hK_51 K_69 hK_69 x3 x4 x5 x6 sq0 sx1 sx2 g H locs ls hsq0 hP hS hl hf
    unfold f_X12_wander_c148 at hf
    obtain ⟨h_30, hf⟩ := og_some hf
    obtain ⟨g_31, eg_31, hf⟩ := mw_some hf
    refine mq_iast hx hb hK hI hP hS (N := 8) hsq0 h_30 dX12_wander_148 eg_31 (fun H locs hP hS => ?_)
    obtain ⟨x6_32, ex6_32, hf⟩ := mv_some hf
    refine lv_iinc (v := x6_32) (lv' := [(6, .int x6_32), (0, .ref (ad 0)), (1, .int x1), (2, .int x2), (3, .int x3), (4, .int x4), (5, .int x5)]) hx hb dX12_wander_149 hl (k := 6) rfl (by rw [ex6_32]; rfl) (by decide) rfl (fun ls hl => ?_)
    refine lv_goto (tgt := 69) hx hb dX12_wander_152 (by decide) ?_
    exact hK_69 x3 x4 x5 x6_32 g_31 H locs ls hP hS (lv_sub hl [1, 2, 3, 4, 5, 6, 0] rfl) hf
  have hc116 : ∀ (K_41 : Int32 → Int32 → Mm → Option (Mm)), (∀ (x3 : Int32) (x4 : Int32) (g : Mm) (H : Heap) (locs : List Loc) (ls : Array Slot), va_P D vwCl (mm_L TM ad cy g) H → va_S (mm_A TM ad) s.heap H locs → lv_has ls 9 [(0, .ref (ad 0)), (1, .int x1), (2, .int x2), (3, .int x3), (4, .int x4)] → K_41 x3 x4 g = some g' → W p l e (headSpec wsX12_wander (rm_X12_wander)).room s m args below meth c H locs 0 0 (MQ below (mm_Qv D TM ad cy g') args s 0 0 (mm_A TM ad)) (F0 m 41 ls [])) → ∀ (K_51 : Int32 → Int32 → Int32 → Mm → Option (Mm)), (∀ (x3 : Int32) (x4 : Int32) (x5 : Int32) (g : Mm) (H : Heap) (locs : List Loc) (ls : Array Slot), va_P D vwCl (mm_L TM ad cy g) H → va_S (mm_A TM ad) s.heap H locs → lv_has ls 9 [(0, .ref (ad 0)), (1, .int x1), (2, .int x2), (3, .int x3), (4, .int x4), (5, .int x5)] → K_51 x3 x4 x5 g = some g' → W p l e (headSpec wsX12_wander (rm_X12_wander)).room s m args below meth c H locs 0 0 (MQ below (mm_Qv D TM ad cy g') args s 0 0 (mm_A TM ad)) (F0 m 51 ls [])) → ∀ (K_69 : Int32 → Int32 → Int32 → Int32 → Mm → Option (Mm)), (∀ (x3 : Int32) (x4 : Int32) (x5 : Int32) (x6 : Int32) (g : Mm) (H : Heap) (locs : List Loc) (ls : Array Slot), va_P D vwCl (mm_L TM ad cy g) H → va_S (mm_A TM ad) s.heap H locs → lv_has ls 9 [(0, .ref (ad 0)), (1, .int x1), (2, .int x2), (3, .int x3), (4, .int x4), (5, .int x5), (6, .int x6)] → K_69 x3 x4 x5 x6 g = some g' → W p l e (headSpec wsX12_wander (rm_X12_wander)).room s m args below meth c H locs 0 0 (MQ below (mm_Qv D TM ad cy g') args s 0 0 (mm_A TM ad)) (F0 m 69 ls [])) → ∀ (x3 : Int32) (x4 : Int32) (x5 : Int32) (x6 : Int32) (sx0 : Int32) (g : Mm) (H : Heap) (locs : List Loc) (ls : Array Slot), va_P D vwCl (mm_L TM ad cy g) H → va_S (mm_A TM ad) s.heap H locs → lv_has ls 9 [(0, .ref (ad 0)), (1, .int x1), (2, .int x2), (3, .int x3), (4, .int x4), (5, .int x5), (6, .int x6)] → f_X12_wander_c116 K_41 K_51 K_69 x2 x3 x4 x5 x6 sx0 g = some g' → W p l e (headSpec wsX12_wander (rm_X12_wander)).room s m args below meth c H locs 0 0 (MQ below (mm_Qv D TM ad cy g') args s 0 0 (mm_A TM ad)) (F0 m 116 ls [.int sx0]) := by
    intro K_41 hK_41 K_51 hK_51 K_69 hK_69 x3 x4 x5 x6 sx0 g H locs ls hP hS hl hf
    unfold f_X12_wander_c116 at hf
    refine lv_istore (lv' := [(8, .int sx0), (0, .ref (ad 0)), (1, .int x1), (2, .int x2), (3, .int x3), (4, .int x4), (5, .int x5), (6, .int x6)]) hx hb dX12_wander_116 hl (by decide) rfl (fun ls hl => ?_)
    refine lv_aload_n hx hb dX12_wander_118 rfl (lv_at hl 1 rfl) ?_
    refine mq_getr (Tt := TX12) (N := 26) (C := RX12) hx hb hts hiX12 hown hK hP hp rfl 22 18 (by decide) rfl hw5 (fun _ h9 => h9) dX12_wander_119 ?_
    refine lv_iload hx hb dX12_wander_122 (lv_at hl 6 rfl) ?_
    refine lv_iload hx hb dX12_wander_124 (lv_at hl 0 rfl) ?_
    refine lv_aload_n hx hb dX12_wander_126 rfl (lv_at hl 1 rfl) ?_
    refine mq_getr (Tt := TX12) (N := 26) (C := RX12) hx hb hts hiX12 hown hK hP hp rfl 22 18 (by decide) rfl hw5 (fun _ h9 => h9) dX12_wander_127 ?_
    refine lv_iload hx hb dX12_wander_130 (lv_at hl 6 rfl) ?_
    obtain ⟨h_27, hf⟩ := og_some hf
    refine mq_iald hx hb hK hP (N := 8) (shTM_X12_18 hp) h_27 dX12_wander_132 ?_
    refine lv_icmp_le (tgt := 141) hx hb dX12_wander_133 (by decide) (fun c_28 => ?_) (fun c_28 => ?_)
    · replace hf := ite_t c_28 hf
      refine lv_aload_n hx hb dX12_wander_141 rfl (lv_at hl 1 rfl) ?_
      refine mq_getr (Tt := TX12) (N := 26) (C := RX12) hx hb hts hiX12 hown hK hP hp rfl 22 18 (by decide) rfl hw5 (fun _ h9 => h9) dX12_wander_142 ?_
      refine lv_iload hx hb dX12_wander_145 (lv_at hl 6 rfl) ?_
      obtain ⟨h_29, hf⟩ := og_some hf
      refine mq_iald hx hb hK hP (N := 8) (shTM_X12_18 hp) h_29 dX12_wander_147 ?_
      exact hc148 K_41 hK_41 K_51 hK_51 K_69 hK_69 x3 x4 x5 x6 18 x5 (g 18 x5.toNatClampNeg) g H locs ls (shTM_X12_18 hp) hP hS (lv_sub hl [1, 2, 3, 4, 5, 6, 7] rfl) hf
    · replace hf := ite_f c_28 hf
      refine lv_iload hx hb dX12_wander_136 (lv_at hl 0 rfl) ?_
      refine lv_goto (tgt := 148) hx hb dX12_wander_138 (by decide) ?_
      exact hc148 K_41 hK_41 K_51 hK_51 K_69 hK_69 x3 x4 x5 x6 18 x5 sx0 g H locs ls (shTM_X12_18 hp) hP hS (lv_sub hl [1, 2, 3, 4, 5, 6, 7] rfl) hf
  have hc69 : ∀ (K_41 : Int32 → Int32 → Mm → Option (Mm)), (∀ (x3 : Int32) (x4 : Int32) (g : Mm) (H : Heap) (locs : List Loc) (ls : Array Slot), va_P D vwCl (mm_L TM ad cy g) H → va_S (mm_A TM ad) s.heap H locs → lv_has ls 9 [(0, .ref (ad 0)), (1, .int x1), (2, .int x2), (3, .int x3), (4, .int x4)] → K_41 x3 x4 g = some g' → W p l e (headSpec wsX12_wander (rm_X12_wander)).room s m args below meth c H locs 0 0 (MQ below (mm_Qv D TM ad cy g') args s 0 0 (mm_A TM ad)) (F0 m 41 ls [])) → ∀ (K_51 : Int32 → Int32 → Int32 → Mm → Option (Mm)), (∀ (x3 : Int32) (x4 : Int32) (x5 : Int32) (g : Mm) (H : Heap) (locs : List Loc) (ls : Array Slot), va_P D vwCl (mm_L TM ad cy g) H → va_S (mm_A TM ad) s.heap H locs → lv_has ls 9 [(0, .ref (ad 0)), (1, .int x1), (2, .int x2), (3, .int x3), (4, .int x4), (5, .int x5)] → K_51 x3 x4 x5 g = some g' → W p l e (headSpec wsX12_wander (rm_X12_wander)).room s m args below meth c H locs 0 0 (MQ below (mm_Qv D TM ad cy g') args s 0 0 (mm_A TM ad)) (F0 m 51 ls [])) → ∀ (n : Nat), ∀ (x3 : Int32) (x4 : Int32) (x5 : Int32) (x6 : Int32) (g : Mm) (H : Heap) (locs : List Loc) (ls : Array Slot), va_P D vwCl (mm_L TM ad cy g) H → va_S (mm_A TM ad) s.heap H locs → lv_has ls 9 [(0, .ref (ad 0)), (1, .int x1), (2, .int x2), (3, .int x3), (4, .int x4), (5, .int x5), (6, .int x6)] → f_X12_wander_c69 K_41 K_51 x2 n x3 x4 x5 x6 g = some g' → W p l e (headSpec wsX12_wander (rm_X12_wander)).room s m args below meth c H locs 0 0 (MQ below (mm_Qv D TM ad cy g') args s 0 0 (mm_A TM ad)) (F0 m 69 ls []) := by
    intro K_41 hK_41 K_51 hK_51 n
    induction n with
    | zero =>
      intro x3 x4 x5 x6 g H locs ls hP hS hl hf
      rw [f_X12_wander_c69] at hf
      cases hf
    | succ n ih =>
      intro x3 x4 x5 x6 g H locs ls hP hS hl hf
      rw [f_X12_wander_c69] at hf
      refine lv_iload hx hb dX12_wander_69 (lv_at hl 6 rfl) ?_
      refine lv_bipush (v := 8) hx hb dX12_wander_71 (by decide) ?_
      refine lv_icmp_ge (tgt := 155) hx hb dX12_wander_73 (by decide) (fun c_21 => ?_) (fun c_21 => ?_)
      · replace hf := ite_t c_21 hf
        obtain ⟨x5_22, ex5_22, hf⟩ := mv_some hf
        refine lv_iinc (v := x5_22) (lv' := [(5, .int x5_22), (0, .ref (ad 0)), (1, .int x1), (2, .int x2), (3, .int x3), (4, .int x4), (6, .int x6)]) hx hb dX12_wander_155 hl (k := 5) rfl (by rw [ex5_22]; rfl) (by decide) rfl (fun ls hl => ?_)
        refine lv_goto (tgt := 51) hx hb dX12_wander_158 (by decide) ?_
        exact hK_51 x3 x4 x5_22 g H locs ls hP hS (lv_sub hl [1, 2, 3, 4, 5, 0] rfl) hf
      · replace hf := ite_f c_21 hf
        refine lv_aload_n hx hb dX12_wander_76 rfl (lv_at hl 0 rfl) ?_
        refine mq_getr (Tt := TX12) (N := 26) (C := RX12) hx hb hts hiX12 hown hK hP hp rfl 0 1 (by decide) rfl hw6 (fun _ h9 => h9) dX12_wander_77 ?_
        refine lv_bipush (v := 117) hx hb dX12_wander_80 (by decide) ?_
        refine lv_bipush (v := 8) hx hb dX12_wander_82 (by decide) ?_
        refine lv_iload hx hb dX12_wander_84 (lv_at hl 6 rfl) ?_
        refine lv_imul hx hb dX12_wander_86 ?_
        refine lv_iadd hx hb dX12_wander_87 ?_
        refine lv_iload hx hb dX12_wander_88 (lv_at hl 5 rfl) ?_
        refine lv_iadd hx hb dX12_wander_90 ?_
        obtain ⟨h_23, hf⟩ := og_some hf
        refine mq_iald hx hb hK hP (N := 193) (shTM_X12_1 hp) h_23 dX12_wander_91 ?_
        obtain ⟨x7_24, ex7_24, hf⟩ := mv_some hf
        refine mq_nm ex7_24 ?_
        refine lv_istore (lv' := [(7, .int x7_24), (0, .ref (ad 0)), (1, .int x1), (2, .int x2), (3, .int x3), (4, .int x4), (5, .int x5), (6, .int x6)]) hx hb dX12_wander_92 hl (by decide) rfl (fun ls hl => ?_)
        refine lv_iload hx hb dX12_wander_94 (lv_at hl 0 rfl) ?_
        refine lv_if_ge (tgt := 103) hx hb dX12_wander_96 (by decide) (fun c_25 => ?_) (fun c_25 => ?_)
        · replace hf := ite_t c_25 hf
          refine lv_aload_n hx hb dX12_wander_103 rfl (lv_at hl 1 rfl) ?_
          refine mq_getr (Tt := TX12) (N := 26) (C := RX12) hx hb hts hiX12 hown hK hP hp rfl 21 17 (by decide) rfl hw3 (fun _ h9 => h9) dX12_wander_104 ?_
          refine lv_iload hx hb dX12_wander_107 (lv_at hl 7 rfl) ?_
          obtain ⟨h_26, hf⟩ := og_some hf
          refine mq_iald hx hb hK hP (N := 8) (shTM_X12_17 hp) h_26 dX12_wander_109 ?_
          refine lv_bipush (v := 16) hx hb dX12_wander_110 (by decide) ?_
          refine lv_iload hx hb dX12_wander_112 (lv_at hl 0 rfl) ?_
          refine lv_isub hx hb dX12_wander_114 ?_
          refine lv_imul hx hb dX12_wander_115 ?_
          exact hc116 K_41 hK_41 K_51 hK_51 (f_X12_wander_c69 K_41 K_51 x2 n) ih x3 x4 x5 x6 ((g 17 x6.toNatClampNeg) * (16 - x7_24)) g H locs ls hP hS (lv_sub hl [1, 2, 3, 4, 5, 6, 7] rfl) hf
        · replace hf := ite_f c_25 hf
          refine lv_iconst (v := 0) hx hb dX12_wander_99 (by decide) ?_
          refine lv_goto (tgt := 116) hx hb dX12_wander_100 (by decide) ?_
          exact hc116 K_41 hK_41 K_51 hK_51 (f_X12_wander_c69 K_41 K_51 x2 n) ih x3 x4 x5 x6 0 g H locs ls hP hS (lv_sub hl [1, 2, 3, 4, 5, 6, 7] rfl) hf
  have hc51 : ∀ (K_41 : Int32 → Int32 → Mm → Option (Mm)), (∀ (x3 : Int32) (x4 : Int32) (g : Mm) (H : Heap) (locs : List Loc) (ls : Array Slot), va_P D vwCl (mm_L TM ad cy g) H → va_S (mm_A TM ad) s.heap H locs → lv_has ls 9 [(0, .ref (ad 0)), (1, .int x1), (2, .int x2), (3, .int x3), (4, .int x4)] → K_41 x3 x4 g = some g' → W p l e (headSpec wsX12_wander (rm_X12_wander)).room s m args below meth c H locs 0 0 (MQ below (mm_Qv D TM ad cy g') args s 0 0 (mm_A TM ad)) (F0 m 41 ls [])) → ∀ (n : Nat), ∀ (x3 : Int32) (x4 : Int32) (x5 : Int32) (g : Mm) (H : Heap) (locs : List Loc) (ls : Array Slot), va_P D vwCl (mm_L TM ad cy g) H → va_S (mm_A TM ad) s.heap H locs → lv_has ls 9 [(0, .ref (ad 0)), (1, .int x1), (2, .int x2), (3, .int x3), (4, .int x4), (5, .int x5)] → f_X12_wander_c51 K_41 x2 n x3 x4 x5 g = some g' → W p l e (headSpec wsX12_wander (rm_X12_wander)).room s m args below meth c H locs 0 0 (MQ below (mm_Qv D TM ad cy g') args s 0 0 (mm_A TM ad)) (F0 m 51 ls []) := by
    intro K_41 hK_41 n
    induction n with
    | zero =>
      intro x3 x4 x5 g H locs ls hP hS hl hf
      rw [f_X12_wander_c51] at hf
      cases hf
    | succ n ih =>
      intro x3 x4 x5 g H locs ls hP hS hl hf
      rw [f_X12_wander_c51] at hf
      refine lv_iload hx hb dX12_wander_51 (lv_at hl 5 rfl) ?_
      refine lv_bipush (v := 8) hx hb dX12_wander_53 (by decide) ?_
      refine lv_icmp_ge (tgt := 161) hx hb dX12_wander_55 (by decide) (fun c_4 => ?_) (fun c_4 => ?_)
      · replace hf := ite_t c_4 hf
        refine lv_iconst (v := 0) hx hb dX12_wander_161 (by decide) ?_
        refine lv_istore (lv' := [(5, .int 0), (0, .ref (ad 0)), (1, .int x1), (2, .int x2), (3, .int x3), (4, .int x4)]) hx hb dX12_wander_162 hl (by decide) rfl (fun ls hl => ?_)
        exact hc164 K_41 hK_41 FU x3 x4 0 g H locs ls hP hS (lv_sub hl [1, 2, 3, 4, 5, 0] rfl) hf
      · replace hf := ite_f c_4 hf
        refine lv_aload_n hx hb dX12_wander_58 rfl (lv_at hl 0 rfl) ?_
        refine mq_getr (Tt := TX12) (N := 26) (C := RX12) hx hb hts hiX12 hown hK hP hp rfl 22 18 (by decide) rfl hw5 (fun _ h9 => h9) dX12_wander_59 ?_
        refine lv_iload hx hb dX12_wander_62 (lv_at hl 5 rfl) ?_
        refine lv_iconst (v := 0) hx hb dX12_wander_64 (by decide) ?_
        obtain ⟨h_19, hf⟩ := og_some hf
        obtain ⟨g_20, eg_20, hf⟩ := mw_some hf
        refine mq_iast hx hb hK hI hP hS (N := 8) (shTM_X12_18 hp) h_19 dX12_wander_65 eg_20 (fun H locs hP hS => ?_)
        refine lv_iconst (v := 0) hx hb dX12_wander_66 (by decide) ?_
        refine lv_istore (lv' := [(6, .int 0), (0, .ref (ad 0)), (1, .int x1), (2, .int x2), (3, .int x3), (4, .int x4), (5, .int x5)]) hx hb dX12_wander_67 hl (by decide) rfl (fun ls hl => ?_)
        exact hc69 K_41 hK_41 (f_X12_wander_c51 K_41 x2 n) ih FU x3 x4 x5 0 g_20 H locs ls hP hS (lv_sub hl [1, 2, 3, 4, 5, 6, 0] rfl) hf
  have hc41 : ∀ (n : Nat), ∀ (x3 : Int32) (x4 : Int32) (g : Mm) (H : Heap) (locs : List Loc) (ls : Array Slot), va_P D vwCl (mm_L TM ad cy g) H → va_S (mm_A TM ad) s.heap H locs → lv_has ls 9 [(0, .ref (ad 0)), (1, .int x1), (2, .int x2), (3, .int x3), (4, .int x4)] → f_X12_wander_c41 x2 n x3 x4 g = some g' → W p l e (headSpec wsX12_wander (rm_X12_wander)).room s m args below meth c H locs 0 0 (MQ below (mm_Qv D TM ad cy g') args s 0 0 (mm_A TM ad)) (F0 m 41 ls []) := by
    intro n
    induction n with
    | zero =>
      intro x3 x4 g H locs ls hP hS hl hf
      rw [f_X12_wander_c41] at hf
      cases hf
    | succ n ih =>
      intro x3 x4 g H locs ls hP hS hl hf
      rw [f_X12_wander_c41] at hf
      refine lv_iload hx hb dX12_wander_41 (lv_at hl 4 rfl) ?_
      refine lv_bipush (v := 8) hx hb dX12_wander_43 (by decide) ?_
      refine lv_icmp_ge (tgt := 235) hx hb dX12_wander_45 (by decide) (fun c_3 => ?_) (fun c_3 => ?_)
      · replace hf := ite_t c_3 hf
        exact mq_vret hx hb hr hlocks hP hS (Option.some.inj hf) dX12_wander_235
      · replace hf := ite_f c_3 hf
        refine lv_iconst (v := 0) hx hb dX12_wander_48 (by decide) ?_
        refine lv_istore (lv' := [(5, .int 0), (0, .ref (ad 0)), (1, .int x1), (2, .int x2), (3, .int x3), (4, .int x4)]) hx hb dX12_wander_49 hl (by decide) rfl (fun ls hl => ?_)
        exact hc51 (f_X12_wander_c41 x2 n) ih FU x3 x4 0 g H locs ls hP hS (lv_sub hl [1, 2, 3, 4, 5, 0] rfl) hf
  have hc28 : ∀ (K_7 : Int32 → Mm → Option (Mm)), (∀ (x3 : Int32) (g : Mm) (H : Heap) (locs : List Loc) (ls : Array Slot), va_P D vwCl (mm_L TM ad cy g) H → va_S (mm_A TM ad) s.heap H locs → lv_has ls 9 [(0, .ref (ad 0)), (1, .int x1), (2, .int x2), (3, .int x3)] → K_7 x3 g = some g' → W p l e (headSpec wsX12_wander (rm_X12_wander)).room s m args below meth c H locs 0 0 (MQ below (mm_Qv D TM ad cy g') args s 0 0 (mm_A TM ad)) (F0 m 7 ls [])) → ∀ (x3 : Int32) (sq0 : Nat) (sx1 : Int32) (sx2 : Int32) (g : Mm) (H : Heap) (locs : List Loc) (ls : Array Slot), TM[sq0]? = some (.inr (8, 0, none) : Shp) → va_P D vwCl (mm_L TM ad cy g) H → va_S (mm_A TM ad) s.heap H locs → lv_has ls 9 [(0, .ref (ad 0)), (1, .int x1), (2, .int x2), (3, .int x3)] → f_X12_wander_c28 K_7 x1 x2 x3 sq0 sx1 sx2 g = some g' → W p l e (headSpec wsX12_wander (rm_X12_wander)).room s m args below meth c H locs 0 0 (MQ below (mm_Qv D TM ad cy g') args s 0 0 (mm_A TM ad)) (F0 m 28 ls [.int sx2, .int sx1, .ref (ad sq0)]) := by
    intro K_7 hK_7 x3 sq0 sx1 sx2 g H locs ls hsq0 hP hS hl hf
    unfold f_X12_wander_c28 at hf
    obtain ⟨h_34, hf⟩ := og_some hf
    obtain ⟨g_35, eg_35, hf⟩ := mw_some hf
    refine mq_iast hx hb hK hI hP hS (N := 8) hsq0 h_34 dX12_wander_28 eg_35 (fun H locs hP hS => ?_)
    obtain ⟨x3_36, ex3_36, hf⟩ := mv_some hf
    refine lv_iinc (v := x3_36) (lv' := [(3, .int x3_36), (0, .ref (ad 0)), (1, .int x1), (2, .int x2)]) hx hb dX12_wander_29 hl (k := 3) rfl (by rw [ex3_36]; rfl) (by decide) rfl (fun ls hl => ?_)
    refine lv_goto (tgt := 7) hx hb dX12_wander_32 (by decide) ?_
    exact hK_7 x3_36 g_35 H locs ls hP hS (lv_sub hl [1, 2, 3, 0] rfl) hf
  have hc7 : ∀ (n : Nat), ∀ (x3 : Int32) (g : Mm) (H : Heap) (locs : List Loc) (ls : Array Slot), va_P D vwCl (mm_L TM ad cy g) H → va_S (mm_A TM ad) s.heap H locs → lv_has ls 9 [(0, .ref (ad 0)), (1, .int x1), (2, .int x2), (3, .int x3)] → f_X12_wander_c7 x1 x2 n x3 g = some g' → W p l e (headSpec wsX12_wander (rm_X12_wander)).room s m args below meth c H locs 0 0 (MQ below (mm_Qv D TM ad cy g') args s 0 0 (mm_A TM ad)) (F0 m 7 ls []) := by
    intro n
    induction n with
    | zero =>
      intro x3 g H locs ls hP hS hl hf
      rw [f_X12_wander_c7] at hf
      cases hf
    | succ n ih =>
      intro x3 g H locs ls hP hS hl hf
      rw [f_X12_wander_c7] at hf
      refine lv_iload_n hx hb dX12_wander_7 rfl (lv_at hl 3 rfl) ?_
      refine lv_bipush (v := 8) hx hb dX12_wander_8 (by decide) ?_
      refine lv_icmp_ge (tgt := 35) hx hb dX12_wander_10 (by decide) (fun c_2 => ?_) (fun c_2 => ?_)
      · replace hf := ite_t c_2 hf
        refine lv_ldc (v := 16777216) hx hb hown hw2 dX12_wander_35 ?_
        refine lv_istore_n (lv' := [(3, .int 16777216), (0, .ref (ad 0)), (1, .int x1), (2, .int x2)]) hx hb dX12_wander_37 rfl hl (by decide) rfl (fun ls hl => ?_)
        refine lv_iconst (v := 1) hx hb dX12_wander_38 (by decide) ?_
        refine lv_istore (lv' := [(4, .int 1), (3, .int 16777216), (0, .ref (ad 0)), (1, .int x1), (2, .int x2)]) hx hb dX12_wander_39 hl (by decide) rfl (fun ls hl => ?_)
        exact hc41 FU 16777216 1 g H locs ls hP hS (lv_sub hl [2, 3, 4, 1, 0] rfl) hf
      · replace hf := ite_f c_2 hf
        refine lv_aload_n hx hb dX12_wander_13 rfl (lv_at hl 0 rfl) ?_
        refine mq_getr (Tt := TX12) (N := 26) (C := RX12) hx hb hts hiX12 hown hK hP hp rfl 21 17 (by decide) rfl hw3 (fun _ h9 => h9) dX12_wander_14 ?_
        refine lv_iload_n hx hb dX12_wander_17 rfl (lv_at hl 3 rfl) ?_
        refine lv_iload_n hx hb dX12_wander_18 rfl (lv_at hl 3 rfl) ?_
        refine lv_iload_n hx hb dX12_wander_19 rfl (lv_at hl 1 rfl) ?_
        refine lv_icmp_ne (tgt := 27) hx hb dX12_wander_20 (by decide) (fun c_33 => ?_) (fun c_33 => ?_)
        · replace hf := ite_f c_33 hf
          refine lv_iconst (v := 0) hx hb dX12_wander_27 (by decide) ?_
          exact hc28 (f_X12_wander_c7 x1 x2 n) ih x3 17 x3 0 g H locs ls (shTM_X12_17 hp) hP hS (lv_sub hl [0, 1, 2, 3] rfl) hf
        · replace hf := ite_t c_33 hf
          refine lv_iconst (v := 1) hx hb dX12_wander_23 (by decide) ?_
          refine lv_goto (tgt := 28) hx hb dX12_wander_24 (by decide) ?_
          exact hc28 (f_X12_wander_c7 x1 x2 n) ih x3 17 x3 1 g H locs ls (shTM_X12_17 hp) hP hS (lv_sub hl [0, 1, 2, 3] rfl) hf
  unfold f_X12_wander at hf
  have hH9 : ∀ (H : Heap) (locs : List Loc), H = s.heap → locs = [] → va_P D vwCl (mm_L TM ad cy g) H → va_S (mm_A TM ad) s.heap H locs → W p l e (headSpec wsX12_wander (rm_X12_wander)).room s m args below meth c H locs 0 0 (MQ below (mm_Qv D TM ad cy g') args s 0 0 (mm_A TM ad)) (F0 m 0 ls []) := by
    intro H locs hH9 hL9 hP hS
    clear hH9 hL9
    refine lv_aload_n hx hb dX12_wander_0 rfl (lv_at hl 0 rfl) ?_
    refine lv_iconst (v := 0) hx hb dX12_wander_1 (by decide) ?_
    obtain ⟨g_1, eg_1, hf⟩ := mw_some hf
    refine mq_puti (Tt := TX12) (N := 26) (C := RX12) (ty := .int) hx hb hts hiX12 tyX12 tyX12_ok nmX12 hown hK hI hP hS hp rfl 23 (by decide) rfl hw0 (fun _ h9 => h9) rfl (by decide +kernel) rfl rfl dX12_wander_2 eg_1 (fun H locs hP hS => ?_)
    refine lv_iconst (v := 0) hx hb dX12_wander_5 (by decide) ?_
    refine lv_istore_n (lv' := [(3, .int 0), (0, .ref (ad 0)), (1, .int x1), (2, .int x2)]) hx hb dX12_wander_6 rfl hl (by decide) rfl (fun ls hl => ?_)
    exact hc7 FU 0 g_1 H locs ls hP hS (lv_sub hl [1, 2, 3, 0] rfl) hf
  exact hH9 s.heap [] rfl rfl hP hS
abbrev rm_X12_unseen : Room := ({ frames := 2, cells := 0, slots := 0, locals := 46 } : Room)
set_option maxHeartbeats 4000000 in
set_option maxRecDepth 100000 in
theorem c_X12_unseen (l : Launch) (D : va_G) (ad : Nat → Nat) (cy : Nat → ClassId) (x1 : Int32) (x2 : Int32) (x3 : Int32) (g : Mm) (hp : TM[0]? = some sX12) (r0 : Int32) (g' : Mm) (hf : f_X12_unseen x1 x2 x3 g = some (r0, g')) : Met l yX12_unseen wsX12_unseen rm_X12_unseen (va_Pc [.ref (ad 0), .int x1, .int x2, .int x3] (mm_pre mm_Z0 D TM ad cy g)) (mm_Qi D TM ad cy r0 g') 0 0 (mm_A TM ad) := by
  refine Met.ofW (cc := cX12_unseen) (maxL := 6) (ret := (some .int)) (by decide) rfl ?_
  intro p e s m args below meth c s₁ B hml hv
  obtain ⟨hargs, hP, hK, hI, hZ⟩ := hv
  have hx := B.exec
  have hb := B.bytes
  have hr := B.returns
  have hts := atoms_spec (ws := wsX12_unseen) B.pre
  have hown : s.vm.findClass RX12 = some m.cls := findClass_of_methodNamed B.named
  have hlocks := B.notSynchronized
  have hw0 := hts (.fieldLink RX12 201 "LeftShoesModel" "unseen" "I") (by decide +kernel)
  have hiX12 : ∀ w ∈ wsX120, w ∈ wsX12_unseen := by decide +kernel
  have hw2 := hts (.constant RX12 212 (268435456)) (by decide +kernel)
  rw [show entryFrame m args 6 = F0 m 0 ((lg_sl ([.ref (ad 0), .int x1, .int x2, .int x3] : List Value) ++ List.replicate (6 - (lg_sl ([.ref (ad 0), .int x1, .int x2, .int x3] : List Value)).length) Slot.unset).toArray) [] from by rw [hargs]; exact lg_entry_eq m _ _]
  have hl := lv_entry ([.ref (ad 0), .int x1, .int x2, .int x3] : List Value) (n := 6) (by exact Nat.le_of_ble_eq_true rfl)
  generalize (lg_sl ([.ref (ad 0), .int x1, .int x2, .int x3] : List Value) ++ List.replicate (6 - (lg_sl ([.ref (ad 0), .int x1, .int x2, .int x3] : List Value)).length) Slot.unset).toArray = ls at hl ⊢
  have hl : lv_has ls 6 [(0, .ref (ad 0)), (1, .int x1), (2, .int x2), (3, .int x3)] := by exact hl
  have hS : va_S (mm_A TM ad) s.heap s.heap [] := va_S.rf
  clear hargs
  have hc74 : ∀ (x4 : Int32) (x5 : Int32) (g : Mm) (H : Heap) (locs : List Loc) (ls : Array Slot), va_P D vwCl (mm_L TM ad cy g) H → va_S (mm_A TM ad) s.heap H locs → lv_has ls 6 [(0, .ref (ad 0)), (1, .int x1), (2, .int x2), (3, .int x3), (4, .int x4), (5, .int x5)] → f_X12_unseen_c74 x3 x4 x5 g = some (r0, g') → W p l e (headSpec wsX12_unseen (rm_X12_unseen)).room s m args below meth c H locs 0 0 (MQ below (mm_Qi D TM ad cy r0 g') args s 0 0 (mm_A TM ad)) (F0 m 74 ls []) := by
    intro x4 x5 g H locs ls hP hS hl hf
    unfold f_X12_unseen_c74 at hf
    refine lv_iload_n hx hb dX12_unseen_74 rfl (lv_at hl 3 rfl) ?_
    refine lv_if_ne (tgt := 83) hx hb dX12_unseen_75 (by decide) (fun c_12 => ?_) (fun c_12 => ?_)
    · replace hf := ite_f c_12 hf
      refine lv_iload hx hb dX12_unseen_83 (lv_at hl 5 rfl) ?_
      exact mq_iret hx hb hr rfl hlocks hP hS (pr_1 hf) (pr_2 hf) dX12_unseen_85
    · replace hf := ite_t c_12 hf
      refine lv_iload hx hb dX12_unseen_78 (lv_at hl 4 rfl) ?_
      refine lv_goto (tgt := 85) hx hb dX12_unseen_80 (by decide) ?_
      exact mq_iret hx hb hr rfl hlocks hP hS (pr_1 hf) (pr_2 hf) dX12_unseen_85
  have hc46 : ∀ (n : Nat), ∀ (x4 : Int32) (x5 : Int32) (g : Mm) (H : Heap) (locs : List Loc) (ls : Array Slot), va_P D vwCl (mm_L TM ad cy g) H → va_S (mm_A TM ad) s.heap H locs → lv_has ls 6 [(0, .ref (ad 0)), (1, .int x1), (2, .int x2), (3, .int x3), (4, .int x4), (5, .int x5)] → f_X12_unseen_c46 x3 n x4 x5 g = some (r0, g') → W p l e (headSpec wsX12_unseen (rm_X12_unseen)).room s m args below meth c H locs 0 0 (MQ below (mm_Qi D TM ad cy r0 g') args s 0 0 (mm_A TM ad)) (F0 m 46 ls []) := by
    intro n
    induction n with
    | zero =>
      intro x4 x5 g H locs ls hP hS hl hf
      rw [f_X12_unseen_c46] at hf
      cases hf
    | succ n ih =>
      intro x4 x5 g H locs ls hP hS hl hf
      rw [f_X12_unseen_c46] at hf
      refine lv_iload hx hb dX12_unseen_46 (lv_at hl 4 rfl) ?_
      refine lv_iconst (v := 2) hx hb dX12_unseen_48 (by decide) ?_
      refine lv_irem hx hb dX12_unseen_49 (by decide) ?_
      refine lv_if_ne (tgt := 74) hx hb dX12_unseen_50 (by decide) (fun c_11 => ?_) (fun c_11 => ?_)
      · replace hf := ite_f c_11 hf
        exact hc74 x4 x5 g H locs ls hP hS (lv_sub hl [0, 1, 2, 3, 4, 5] rfl) hf
      · replace hf := ite_t c_11 hf
        refine lv_iload hx hb dX12_unseen_53 (lv_at hl 5 rfl) ?_
        refine lv_iconst (v := 1) hx hb dX12_unseen_55 (by decide) ?_
        refine lv_icmp_le (tgt := 74) hx hb dX12_unseen_56 (by decide) (fun c_13 => ?_) (fun c_13 => ?_)
        · replace hf := ite_t c_13 hf
          exact hc74 x4 x5 g H locs ls hP hS (lv_sub hl [0, 1, 2, 3, 4, 5] rfl) hf
        · replace hf := ite_f c_13 hf
          refine lv_iload hx hb dX12_unseen_59 (lv_at hl 4 rfl) ?_
          refine lv_iconst (v := 2) hx hb dX12_unseen_61 (by decide) ?_
          refine lv_idiv hx hb dX12_unseen_62 (by decide) ?_
          obtain ⟨x4_14, ex4_14, hf⟩ := mv_some hf
          refine mq_nm ex4_14 ?_
          refine lv_istore (lv' := [(4, .int x4_14), (0, .ref (ad 0)), (1, .int x1), (2, .int x2), (3, .int x3), (5, .int x5)]) hx hb dX12_unseen_63 hl (by decide) rfl (fun ls hl => ?_)
          refine lv_iload hx hb dX12_unseen_65 (lv_at hl 5 rfl) ?_
          refine lv_iconst (v := 2) hx hb dX12_unseen_67 (by decide) ?_
          refine lv_idiv hx hb dX12_unseen_68 (by decide) ?_
          obtain ⟨x5_15, ex5_15, hf⟩ := mv_some hf
          refine mq_nm ex5_15 ?_
          refine lv_istore (lv' := [(5, .int x5_15), (4, .int x4_14), (0, .ref (ad 0)), (1, .int x1), (2, .int x2), (3, .int x3)]) hx hb dX12_unseen_69 hl (by decide) rfl (fun ls hl => ?_)
          refine lv_goto (tgt := 46) hx hb dX12_unseen_71 (by decide) ?_
          exact ih x4_14 x5_15 g H locs ls hP hS (lv_sub hl [2, 3, 4, 5, 1, 0] rfl) hf
  unfold f_X12_unseen at hf
  have hH9 : ∀ (H : Heap) (locs : List Loc), H = s.heap → locs = [] → va_P D vwCl (mm_L TM ad cy g) H → va_S (mm_A TM ad) s.heap H locs → W p l e (headSpec wsX12_unseen (rm_X12_unseen)).room s m args below meth c H locs 0 0 (MQ below (mm_Qi D TM ad cy r0 g') args s 0 0 (mm_A TM ad)) (F0 m 0 ls []) := by
    intro H locs hH9 hL9 hP hS
    clear hH9 hL9
    refine lv_iload_n hx hb dX12_unseen_0 rfl (lv_at hl 1 rfl) ?_
    refine lv_iload_n hx hb dX12_unseen_1 rfl (lv_at hl 2 rfl) ?_
    obtain ⟨r_1, hr_2, hf⟩ := op_some hf
    refine mq_calli (va_runS (As := [.int x1, .int x2]) (rest := []) ⟨hx, hb, hml, hown, hts⟩ (c_X12_areFords l D ad cy x1 x2 g r_1 hr_2) (va_cwS 2 hts gX12_unseen_X12_areFords rfl rfl rfl (by decide +kernel) ⟨Nat.le_of_ble_eq_true rfl, Nat.le_of_ble_eq_true rfl⟩) (mq_preS mm_zOk0 hK hP hI hZ hS) rfl rfl hl.1 rfl (lv_room (Nat.le_of_ble_eq_true rfl)) dX12_unseen_2 ⟨Nat.le_refl _, Nat.le_refl _⟩) hS (fun H locs hP hS => ?_)
    refine lv_if_eq (tgt := 18) hx hb dX12_unseen_5 (by decide) (fun c_3 => ?_) (fun c_3 => ?_)
    · replace hf := ite_t c_3 hf
      refine lv_iconst (v := (-1)) hx hb dX12_unseen_18 (by decide) ?_
      exact mq_iret hx hb hr rfl hlocks hP hS (pr_1 hf) (pr_2 hf) dX12_unseen_19
    · replace hf := ite_f c_3 hf
      refine lv_iload_n hx hb dX12_unseen_8 rfl (lv_at hl 3 rfl) ?_
      refine lv_i2l hx hb dX12_unseen_9 rfl ?_
      refine lv_lconst (v := 0) hx hb dX12_unseen_10 (by decide) ?_
      refine lv_lconst (v := 1) hx hb dX12_unseen_11 (by decide) ?_
      obtain ⟨r_4, hr_5, hf⟩ := op_some hf
      refine mq_calli (va_runS (As := [.long (x3.toInt64), .long 0, .long 1]) (rest := []) ⟨hx, hb, hml, hown, hts⟩ (c_X12_in l D ad cy (x3.toInt64) 0 1 g r_4 hr_5) (va_cwS 3 hts gX12_unseen_X12_in rfl rfl rfl (by decide +kernel) ⟨Nat.le_of_ble_eq_true rfl, Nat.le_of_ble_eq_true rfl⟩) (mq_preS mm_zOk0 hK hP hI hZ hS) rfl rfl hl.1 rfl (lv_room (Nat.le_of_ble_eq_true rfl)) dX12_unseen_12 ⟨Nat.le_refl _, Nat.le_refl _⟩) hS (fun H locs hP hS => ?_)
      refine lv_if_ne (tgt := 20) hx hb dX12_unseen_15 (by decide) (fun c_6 => ?_) (fun c_6 => ?_)
      · replace hf := ite_f c_6 hf
        refine lv_aload_n hx hb dX12_unseen_20 rfl (lv_at hl 0 rfl) ?_
        refine lv_iload_n hx hb dX12_unseen_21 rfl (lv_at hl 1 rfl) ?_
        refine lv_iload_n hx hb dX12_unseen_22 rfl (lv_at hl 2 rfl) ?_
        obtain ⟨g_7, hr_8, hf⟩ := op_some hf
        refine mq_callv (va_runV (As := [.int x1, .int x2]) (rest := []) ⟨hx, hb, hml, hown, hts⟩ (c_X12_wander l D ad cy x1 x2 g hp g_7 hr_8) (cwV 2 hts gX12_unseen_X12_wander rfl rfl rfl (by decide +kernel) ⟨Nat.le_of_ble_eq_true rfl, Nat.le_of_ble_eq_true rfl⟩) (mq_preV (q := (RX12, TX12, 26)) mm_zOk0 hK hP hI hZ hS hp rfl) rfl rfl hl.1 rfl (lv_room (Nat.le_of_ble_eq_true rfl)) dX12_unseen_23 ⟨Nat.le_refl _, Nat.le_refl _⟩) hS (fun H locs hP hS => ?_)
        refine lv_aload_n hx hb dX12_unseen_26 rfl (lv_at hl 0 rfl) ?_
        refine mq_geti (Tt := TX12) (N := 26) (C := RX12) hx hb hts hiX12 hown hK hP hp rfl 23 (by decide) rfl hw0 (fun _ h9 => h9) dX12_unseen_27 ?_
        refine lv_if_ne (tgt := 36) hx hb dX12_unseen_30 (by decide) (fun c_9 => ?_) (fun c_9 => ?_)
        · replace hf := ite_f c_9 hf
          refine lv_aload_n hx hb dX12_unseen_36 rfl (lv_at hl 0 rfl) ?_
          refine mq_geti (Tt := TX12) (N := 26) (C := RX12) hx hb hts hiX12 hown hK hP hp rfl 23 (by decide) rfl hw0 (fun _ h9 => h9) dX12_unseen_37 ?_
          obtain ⟨x4_10, ex4_10, hf⟩ := mv_some hf
          refine mq_nm ex4_10 ?_
          refine lv_istore (lv' := [(4, .int x4_10), (0, .ref (ad 0)), (1, .int x1), (2, .int x2), (3, .int x3)]) hx hb dX12_unseen_40 hl (by decide) rfl (fun ls hl => ?_)
          refine lv_ldc (v := 268435456) hx hb hown hw2 dX12_unseen_42 ?_
          refine lv_istore (lv' := [(5, .int 268435456), (4, .int x4_10), (0, .ref (ad 0)), (1, .int x1), (2, .int x2), (3, .int x3)]) hx hb dX12_unseen_44 hl (by decide) rfl (fun ls hl => ?_)
          exact hc46 FU x4_10 268435456 g_7 H locs ls hP hS (lv_sub hl [2, 3, 4, 5, 1, 0] rfl) hf
        · replace hf := ite_t c_9 hf
          refine lv_bipush (v := (-4)) hx hb dX12_unseen_33 (by decide) ?_
          exact mq_iret hx hb hr rfl hlocks hP hS (pr_1 hf) (pr_2 hf) dX12_unseen_35
      · replace hf := ite_t c_6 hf
        refine lv_iconst (v := (-1)) hx hb dX12_unseen_18 (by decide) ?_
        exact mq_iret hx hb hr rfl hlocks hP hS (pr_1 hf) (pr_2 hf) dX12_unseen_19
  exact hH9 s.heap [] rfl rfl hP hS
abbrev rm_X12_paths : Room := ({ frames := 2, cells := 0, slots := 0, locals := 46 } : Room)
set_option maxHeartbeats 4000000 in
set_option maxRecDepth 100000 in
theorem c_X12_paths (l : Launch) (D : va_G) (ad : Nat → Nat) (cy : Nat → ClassId) (x1 : Int32) (x2 : Int32) (g : Mm) (hp : TM[0]? = some sX12) (r0 : Int32) (g' : Mm) (hf : f_X12_paths x1 x2 g = some (r0, g')) : Met l yX12_paths wsX12_paths rm_X12_paths (va_Pc [.ref (ad 0), .int x1, .int x2] (mm_pre mm_Z0 D TM ad cy g)) (mm_Qi D TM ad cy r0 g') 0 0 (mm_A TM ad) := by
  refine Met.ofW (cc := cX12_paths) (maxL := 3) (ret := (some .int)) (by decide) rfl ?_
  intro p e s m args below meth c s₁ B hml hv
  obtain ⟨hargs, hP, hK, hI, hZ⟩ := hv
  have hx := B.exec
  have hb := B.bytes
  have hr := B.returns
  have hts := atoms_spec (ws := wsX12_paths) B.pre
  have hown : s.vm.findClass RX12 = some m.cls := findClass_of_methodNamed B.named
  have hlocks := B.notSynchronized
  have hw0 := hts (.fieldLink RX12 201 "LeftShoesModel" "unseen" "I") (by decide +kernel)
  have hiX12 : ∀ w ∈ wsX120, w ∈ wsX12_paths := by decide +kernel
  have hw2 := hts (.fieldLink RX12 205 "LeftShoesModel" "fewest" "I") (by decide +kernel)
  rw [show entryFrame m args 3 = F0 m 0 ((lg_sl ([.ref (ad 0), .int x1, .int x2] : List Value) ++ List.replicate (3 - (lg_sl ([.ref (ad 0), .int x1, .int x2] : List Value)).length) Slot.unset).toArray) [] from by rw [hargs]; exact lg_entry_eq m _ _]
  have hl := lv_entry ([.ref (ad 0), .int x1, .int x2] : List Value) (n := 3) (by exact Nat.le_of_ble_eq_true rfl)
  generalize (lg_sl ([.ref (ad 0), .int x1, .int x2] : List Value) ++ List.replicate (3 - (lg_sl ([.ref (ad 0), .int x1, .int x2] : List Value)).length) Slot.unset).toArray = ls at hl ⊢
  have hl : lv_has ls 3 [(0, .ref (ad 0)), (1, .int x1), (2, .int x2)] := by exact hl
  have hS : va_S (mm_A TM ad) s.heap s.heap [] := va_S.rf
  clear hargs
  unfold f_X12_paths at hf
  have hH9 : ∀ (H : Heap) (locs : List Loc), H = s.heap → locs = [] → va_P D vwCl (mm_L TM ad cy g) H → va_S (mm_A TM ad) s.heap H locs → W p l e (headSpec wsX12_paths (rm_X12_paths)).room s m args below meth c H locs 0 0 (MQ below (mm_Qi D TM ad cy r0 g') args s 0 0 (mm_A TM ad)) (F0 m 0 ls []) := by
    intro H locs hH9 hL9 hP hS
    clear hH9 hL9
    refine lv_iload_n hx hb dX12_paths_0 rfl (lv_at hl 1 rfl) ?_
    refine lv_iload_n hx hb dX12_paths_1 rfl (lv_at hl 2 rfl) ?_
    obtain ⟨r_1, hr_2, hf⟩ := op_some hf
    refine mq_calli (va_runS (As := [.int x1, .int x2]) (rest := []) ⟨hx, hb, hml, hown, hts⟩ (c_X12_areFords l D ad cy x1 x2 g r_1 hr_2) (va_cwS 2 hts gX12_paths_X12_areFords rfl rfl rfl (by decide +kernel) ⟨Nat.le_of_ble_eq_true rfl, Nat.le_of_ble_eq_true rfl⟩) (mq_preS mm_zOk0 hK hP hI hZ hS) rfl rfl hl.1 rfl (lv_room (Nat.le_of_ble_eq_true rfl)) dX12_paths_2 ⟨Nat.le_refl _, Nat.le_refl _⟩) hS (fun H locs hP hS => ?_)
    refine lv_if_ne (tgt := 10) hx hb dX12_paths_5 (by decide) (fun c_3 => ?_) (fun c_3 => ?_)
    · replace hf := ite_f c_3 hf
      refine lv_aload_n hx hb dX12_paths_10 rfl (lv_at hl 0 rfl) ?_
      refine lv_iload_n hx hb dX12_paths_11 rfl (lv_at hl 1 rfl) ?_
      refine lv_iload_n hx hb dX12_paths_12 rfl (lv_at hl 2 rfl) ?_
      obtain ⟨g_4, hr_5, hf⟩ := op_some hf
      refine mq_callv (va_runV (As := [.int x1, .int x2]) (rest := []) ⟨hx, hb, hml, hown, hts⟩ (c_X12_wander l D ad cy x1 x2 g hp g_4 hr_5) (cwV 2 hts gX12_paths_X12_wander rfl rfl rfl (by decide +kernel) ⟨Nat.le_of_ble_eq_true rfl, Nat.le_of_ble_eq_true rfl⟩) (mq_preV (q := (RX12, TX12, 26)) mm_zOk0 hK hP hI hZ hS hp rfl) rfl rfl hl.1 rfl (lv_room (Nat.le_of_ble_eq_true rfl)) dX12_paths_13 ⟨Nat.le_refl _, Nat.le_refl _⟩) hS (fun H locs hP hS => ?_)
      refine lv_aload_n hx hb dX12_paths_16 rfl (lv_at hl 0 rfl) ?_
      refine mq_geti (Tt := TX12) (N := 26) (C := RX12) hx hb hts hiX12 hown hK hP hp rfl 23 (by decide) rfl hw0 (fun _ h9 => h9) dX12_paths_17 ?_
      refine lv_if_ne (tgt := 28) hx hb dX12_paths_20 (by decide) (fun c_6 => ?_) (fun c_6 => ?_)
      · replace hf := ite_f c_6 hf
        refine lv_aload_n hx hb dX12_paths_28 rfl (lv_at hl 0 rfl) ?_
        refine mq_geti (Tt := TX12) (N := 26) (C := RX12) hx hb hts hiX12 hown hK hP hp rfl 24 (by decide) rfl hw2 (fun _ h9 => h9) dX12_paths_29 ?_
        exact mq_iret hx hb hr rfl hlocks hP hS (pr_1 hf) (pr_2 hf) dX12_paths_32
      · replace hf := ite_t c_6 hf
        refine lv_bipush (v := (-4)) hx hb dX12_paths_23 (by decide) ?_
        refine lv_goto (tgt := 32) hx hb dX12_paths_25 (by decide) ?_
        exact mq_iret hx hb hr rfl hlocks hP hS (pr_1 hf) (pr_2 hf) dX12_paths_32
    · replace hf := ite_t c_3 hf
      refine lv_iconst (v := (-1)) hx hb dX12_paths_8 (by decide) ?_
      exact mq_iret hx hb hr rfl hlocks hP hS (pr_1 hf) (pr_2 hf) dX12_paths_9
  exact hH9 s.heap [] rfl rfl hP hS
abbrev rm_X12_buyer : Room := ({ frames := 1, cells := 0, slots := 0, locals := 25 } : Room)
set_option maxHeartbeats 4000000 in
set_option maxRecDepth 100000 in
theorem c_X12_buyer (l : Launch) (D : va_G) (ad : Nat → Nat) (cy : Nat → ClassId) (x1 : Int32) (x2 : Int32) (g : Mm) (hp : TM[0]? = some sX12) (r0 : Int32) (g' : Mm) (hf : f_X12_buyer x1 x2 g = some (r0, g')) : Met l yX12_buyer wsX12_buyer rm_X12_buyer (va_Pc [.ref (ad 0), .int x1, .int x2] (mm_pre mm_Z0 D TM ad cy g)) (mm_Qi D TM ad cy r0 g') 0 0 (mm_A TM ad) := by
  refine Met.ofW (cc := cX12_buyer) (maxL := 4) (ret := (some .int)) (by decide) rfl ?_
  intro p e s m args below meth c s₁ B hml hv
  obtain ⟨hargs, hP, hK, hI, hZ⟩ := hv
  have hx := B.exec
  have hb := B.bytes
  have hr := B.returns
  have hts := atoms_spec (ws := wsX12_buyer) B.pre
  have hown : s.vm.findClass RX12 = some m.cls := findClass_of_methodNamed B.named
  have hlocks := B.notSynchronized
  have hw0 := hts (.constantLong RX12 213 (9)) (by decide +kernel)
  have hw1 := hts (.constantLong RX12 81 (99)) (by decide +kernel)
  have hw2 := hts (.fieldLink RX12 7 "LeftShoesModel" "now" "[I") (by decide +kernel)
  have hiX12 : ∀ w ∈ wsX120, w ∈ wsX12_buyer := by decide +kernel
  rw [show entryFrame m args 4 = F0 m 0 ((lg_sl ([.ref (ad 0), .int x1, .int x2] : List Value) ++ List.replicate (4 - (lg_sl ([.ref (ad 0), .int x1, .int x2] : List Value)).length) Slot.unset).toArray) [] from by rw [hargs]; exact lg_entry_eq m _ _]
  have hl := lv_entry ([.ref (ad 0), .int x1, .int x2] : List Value) (n := 4) (by exact Nat.le_of_ble_eq_true rfl)
  generalize (lg_sl ([.ref (ad 0), .int x1, .int x2] : List Value) ++ List.replicate (4 - (lg_sl ([.ref (ad 0), .int x1, .int x2] : List Value)).length) Slot.unset).toArray = ls at hl ⊢
  have hl : lv_has ls 4 [(0, .ref (ad 0)), (1, .int x1), (2, .int x2)] := by exact hl
  have hS : va_S (mm_A TM ad) s.heap s.heap [] := va_S.rf
  clear hargs
  unfold f_X12_buyer at hf
  have hH9 : ∀ (H : Heap) (locs : List Loc), H = s.heap → locs = [] → va_P D vwCl (mm_L TM ad cy g) H → va_S (mm_A TM ad) s.heap H locs → W p l e (headSpec wsX12_buyer (rm_X12_buyer)).room s m args below meth c H locs 0 0 (MQ below (mm_Qi D TM ad cy r0 g') args s 0 0 (mm_A TM ad)) (F0 m 0 ls []) := by
    intro H locs hH9 hL9 hP hS
    clear hH9 hL9
    refine lv_iload_n hx hb dX12_buyer_0 rfl (lv_at hl 1 rfl) ?_
    refine lv_i2l hx hb dX12_buyer_1 rfl ?_
    refine lv_lconst (v := 1) hx hb dX12_buyer_2 (by decide) ?_
    refine lv_ldc2 (v := 9) hx hb hown hw0 dX12_buyer_3 ?_
    obtain ⟨r_1, hr_2, hf⟩ := op_some hf
    refine mq_calli (va_runS (As := [.long (x1.toInt64), .long 1, .long 9]) (rest := []) ⟨hx, hb, hml, hown, hts⟩ (c_X12_in l D ad cy (x1.toInt64) 1 9 g r_1 hr_2) (va_cwS 3 hts gX12_buyer_X12_in rfl rfl rfl (by decide +kernel) ⟨Nat.le_of_ble_eq_true rfl, Nat.le_of_ble_eq_true rfl⟩) (mq_preS mm_zOk0 hK hP hI hZ hS) rfl rfl hl.1 rfl (lv_room (Nat.le_of_ble_eq_true rfl)) dX12_buyer_6 ⟨Nat.le_refl _, Nat.le_refl _⟩) hS (fun H locs hP hS => ?_)
    refine lv_if_eq (tgt := 24) hx hb dX12_buyer_9 (by decide) (fun c_3 => ?_) (fun c_3 => ?_)
    · replace hf := ite_t c_3 hf
      refine lv_iconst (v := (-1)) hx hb dX12_buyer_24 (by decide) ?_
      exact mq_iret hx hb hr rfl hlocks hP hS (pr_1 hf) (pr_2 hf) dX12_buyer_25
    · replace hf := ite_f c_3 hf
      refine lv_iload_n hx hb dX12_buyer_12 rfl (lv_at hl 2 rfl) ?_
      refine lv_i2l hx hb dX12_buyer_13 rfl ?_
      refine lv_lconst (v := 1) hx hb dX12_buyer_14 (by decide) ?_
      refine lv_ldc2 (v := 99) hx hb hown hw1 dX12_buyer_15 ?_
      obtain ⟨r_4, hr_5, hf⟩ := op_some hf
      refine mq_calli (va_runS (As := [.long (x2.toInt64), .long 1, .long 99]) (rest := []) ⟨hx, hb, hml, hown, hts⟩ (c_X12_in l D ad cy (x2.toInt64) 1 99 g r_4 hr_5) (va_cwS 3 hts gX12_buyer_X12_in rfl rfl rfl (by decide +kernel) ⟨Nat.le_of_ble_eq_true rfl, Nat.le_of_ble_eq_true rfl⟩) (mq_preS mm_zOk0 hK hP hI hZ hS) rfl rfl hl.1 rfl (lv_room (Nat.le_of_ble_eq_true rfl)) dX12_buyer_18 ⟨Nat.le_refl _, Nat.le_refl _⟩) hS (fun H locs hP hS => ?_)
      refine lv_if_ne (tgt := 26) hx hb dX12_buyer_21 (by decide) (fun c_6 => ?_) (fun c_6 => ?_)
      · replace hf := ite_f c_6 hf
        refine lv_aload_n hx hb dX12_buyer_26 rfl (lv_at hl 0 rfl) ?_
        refine mq_getr (Tt := TX12) (N := 26) (C := RX12) hx hb hts hiX12 hown hK hP hp rfl 0 1 (by decide) rfl hw2 (fun _ h9 => h9) dX12_buyer_27 ?_
        refine lv_iconst (v := 4) hx hb dX12_buyer_30 (by decide) ?_
        refine mq_iald hx hb hK hP (N := 193) (shTM_X12_1 hp) (by decide : mm_in 4 193 = true) dX12_buyer_31 ?_
        obtain ⟨x3_7, ex3_7, hf⟩ := mv_some hf
        refine mq_nm ex3_7 ?_
        refine lv_istore_n (lv' := [(3, .int x3_7), (0, .ref (ad 0)), (1, .int x1), (2, .int x2)]) hx hb dX12_buyer_32 rfl hl (by decide) rfl (fun ls hl => ?_)
        refine lv_iload_n hx hb dX12_buyer_33 rfl (lv_at hl 0 rfl) ?_
        refine lv_bipush (v := 6) hx hb dX12_buyer_34 (by decide) ?_
        refine lv_icmp_ne (tgt := 42) hx hb dX12_buyer_36 (by decide) (fun c_8 => ?_) (fun c_8 => ?_)
        · replace hf := ite_f c_8 hf
          refine lv_aload_n hx hb dX12_buyer_42 rfl (lv_at hl 1 rfl) ?_
          refine mq_getr (Tt := TX12) (N := 26) (C := RX12) hx hb hts hiX12 hown hK hP hp rfl 0 1 (by decide) rfl hw2 (fun _ h9 => h9) dX12_buyer_43 ?_
          refine lv_sipush (v := 181) hx hb dX12_buyer_46 (by decide) ?_
          refine lv_iload_n hx hb dX12_buyer_49 rfl (lv_at hl 0 rfl) ?_
          refine lv_iadd hx hb dX12_buyer_50 ?_
          refine lv_iload_n hx hb dX12_buyer_51 rfl (lv_at hl 2 rfl) ?_
          obtain ⟨h_9, hf⟩ := og_some hf
          obtain ⟨g_10, eg_10, hf⟩ := mw_some hf
          refine mq_iast hx hb hK hI hP hS (N := 193) (shTM_X12_1 hp) h_9 dX12_buyer_52 eg_10 (fun H locs hP hS => ?_)
          refine lv_aload_n hx hb dX12_buyer_53 rfl (lv_at hl 1 rfl) ?_
          refine mq_getr (Tt := TX12) (N := 26) (C := RX12) hx hb hts hiX12 hown hK hP hp rfl 0 1 (by decide) rfl hw2 (fun _ h9 => h9) dX12_buyer_54 ?_
          refine lv_sipush (v := 187) hx hb dX12_buyer_57 (by decide) ?_
          refine lv_iload_n hx hb dX12_buyer_60 rfl (lv_at hl 0 rfl) ?_
          refine lv_iadd hx hb dX12_buyer_61 ?_
          refine lv_iload_n hx hb dX12_buyer_62 rfl (lv_at hl 3 rfl) ?_
          obtain ⟨h_11, hf⟩ := og_some hf
          obtain ⟨g_12, eg_12, hf⟩ := mw_some hf
          refine mq_iast hx hb hK hI hP hS (N := 193) (shTM_X12_1 hp) h_11 dX12_buyer_63 eg_12 (fun H locs hP hS => ?_)
          refine lv_aload_n hx hb dX12_buyer_64 rfl (lv_at hl 1 rfl) ?_
          refine mq_getr (Tt := TX12) (N := 26) (C := RX12) hx hb hts hiX12 hown hK hP hp rfl 0 1 (by decide) rfl hw2 (fun _ h9 => h9) dX12_buyer_65 ?_
          refine lv_iconst (v := 4) hx hb dX12_buyer_68 (by decide) ?_
          refine lv_iload_n hx hb dX12_buyer_69 rfl (lv_at hl 0 rfl) ?_
          refine lv_iconst (v := 1) hx hb dX12_buyer_70 (by decide) ?_
          refine lv_iadd hx hb dX12_buyer_71 ?_
          obtain ⟨g_13, eg_13, hf⟩ := mw_some hf
          refine mq_iast hx hb hK hI hP hS (N := 193) (shTM_X12_1 hp) (by decide : mm_in 4 193 = true) dX12_buyer_72 eg_13 (fun H locs hP hS => ?_)
          refine lv_iload_n hx hb dX12_buyer_73 rfl (lv_at hl 0 rfl) ?_
          exact mq_iret hx hb hr rfl hlocks hP hS (pr_1 hf) (pr_2 hf) dX12_buyer_74
        · replace hf := ite_t c_8 hf
          refine lv_bipush (v := (-3)) hx hb dX12_buyer_39 (by decide) ?_
          exact mq_iret hx hb hr rfl hlocks hP hS (pr_1 hf) (pr_2 hf) dX12_buyer_41
      · replace hf := ite_t c_6 hf
        refine lv_iconst (v := (-1)) hx hb dX12_buyer_24 (by decide) ?_
        exact mq_iret hx hb hr rfl hlocks hP hS (pr_1 hf) (pr_2 hf) dX12_buyer_25
  exact hH9 s.heap [] rfl rfl hP hS
abbrev rm_X12_wanted : Room := ({ frames := 0, cells := 0, slots := 0, locals := 0 } : Room)
set_option maxHeartbeats 4000000 in
set_option maxRecDepth 100000 in
theorem c_X12_wanted (l : Launch) (D : va_G) (ad : Nat → Nat) (cy : Nat → ClassId) (x1 : Int32) (g : Mm) (hp : TM[0]? = some sX12) (r0 : Int32) (hf : f_X12_wanted x1 g = some r0) : Met l yX12_wanted wsX12_wanted rm_X12_wanted (va_Pc [.ref (ad 0), .int x1] (mm_pre mm_Z0 D TM ad cy g)) (mm_Qi D TM ad cy r0 g) 0 0 (mm_A TM ad) := by
  refine Met.ofW (cc := cX12_wanted) (maxL := 4) (ret := (some .int)) (by decide) rfl ?_
  intro p e s m args below meth c s₁ B hml hv
  obtain ⟨hargs, hP, hK, hI, hZ⟩ := hv
  have hx := B.exec
  have hb := B.bytes
  have hr := B.returns
  have hts := atoms_spec (ws := wsX12_wanted) B.pre
  have hown : s.vm.findClass RX12 = some m.cls := findClass_of_methodNamed B.named
  have hlocks := B.notSynchronized
  have hw0 := hts (.fieldLink RX12 7 "LeftShoesModel" "now" "[I") (by decide +kernel)
  have hiX12 : ∀ w ∈ wsX120, w ∈ wsX12_wanted := by decide +kernel
  rw [show entryFrame m args 4 = F0 m 0 ((lg_sl ([.ref (ad 0), .int x1] : List Value) ++ List.replicate (4 - (lg_sl ([.ref (ad 0), .int x1] : List Value)).length) Slot.unset).toArray) [] from by rw [hargs]; exact lg_entry_eq m _ _]
  have hl := lv_entry ([.ref (ad 0), .int x1] : List Value) (n := 4) (by exact Nat.le_of_ble_eq_true rfl)
  generalize (lg_sl ([.ref (ad 0), .int x1] : List Value) ++ List.replicate (4 - (lg_sl ([.ref (ad 0), .int x1] : List Value)).length) Slot.unset).toArray = ls at hl ⊢
  have hl : lv_has ls 4 [(0, .ref (ad 0)), (1, .int x1)] := by exact hl
  have hS : va_S (mm_A TM ad) s.heap s.heap [] := va_S.rf
  clear hargs
  have hc4 : ∀ (n : Nat), ∀ (x2 : Int32) (x3 : Int32) (H : Heap) (locs : List Loc) (ls : Array Slot), va_P D vwCl (mm_L TM ad cy g) H → va_S (mm_A TM ad) s.heap H locs → lv_has ls 4 [(0, .ref (ad 0)), (1, .int x1), (2, .int x2), (3, .int x3)] → f_X12_wanted_c4 x1 n x2 x3 g = some r0 → W p l e (headSpec wsX12_wanted (rm_X12_wanted)).room s m args below meth c H locs 0 0 (MQ below (mm_Qi D TM ad cy r0 g) args s 0 0 (mm_A TM ad)) (F0 m 4 ls []) := by
    intro n
    induction n with
    | zero =>
      intro x2 x3 H locs ls hP hS hl hf
      rw [f_X12_wanted_c4] at hf
      cases hf
    | succ n ih =>
      intro x2 x3 H locs ls hP hS hl hf
      rw [f_X12_wanted_c4] at hf
      refine lv_iload_n hx hb dX12_wanted_4 rfl (lv_at hl 3 rfl) ?_
      refine lv_aload_n hx hb dX12_wanted_5 rfl (lv_at hl 0 rfl) ?_
      refine mq_getr (Tt := TX12) (N := 26) (C := RX12) hx hb hts hiX12 hown hK hP hp rfl 0 1 (by decide) rfl hw0 (fun _ h9 => h9) dX12_wanted_6 ?_
      refine lv_iconst (v := 4) hx hb dX12_wanted_9 (by decide) ?_
      refine mq_iald hx hb hK hP (N := 193) (shTM_X12_1 hp) (by decide : mm_in 4 193 = true) dX12_wanted_10 ?_
      refine lv_icmp_ge (tgt := 51) hx hb dX12_wanted_11 (by decide) (fun c_1 => ?_) (fun c_1 => ?_)
      · replace hf := ite_t c_1 hf
        refine lv_iload_n hx hb dX12_wanted_51 rfl (lv_at hl 2 rfl) ?_
        exact mq_iret hx hb hr rfl hlocks hP hS (Option.some.inj hf) rfl dX12_wanted_52
      · replace hf := ite_f c_1 hf
        refine lv_iload_n hx hb dX12_wanted_14 rfl (lv_at hl 2 rfl) ?_
        refine lv_iload_n hx hb dX12_wanted_15 rfl (lv_at hl 1 rfl) ?_
        refine lv_aload_n hx hb dX12_wanted_16 rfl (lv_at hl 0 rfl) ?_
        refine mq_getr (Tt := TX12) (N := 26) (C := RX12) hx hb hts hiX12 hown hK hP hp rfl 0 1 (by decide) rfl hw0 (fun _ h9 => h9) dX12_wanted_17 ?_
        refine lv_sipush (v := 187) hx hb dX12_wanted_20 (by decide) ?_
        refine lv_iload_n hx hb dX12_wanted_23 rfl (lv_at hl 3 rfl) ?_
        refine lv_iadd hx hb dX12_wanted_24 ?_
        obtain ⟨h_2, hf⟩ := og_some hf
        refine mq_iald hx hb hK hP (N := 193) (shTM_X12_1 hp) h_2 dX12_wanted_25 ?_
        refine lv_icmp_gt (tgt := 42) hx hb dX12_wanted_26 (by decide) (fun c_3 => ?_) (fun c_3 => ?_)
        · replace hf := ite_t c_3 hf
          refine lv_iconst (v := 0) hx hb dX12_wanted_42 (by decide) ?_
          refine lv_iadd hx hb dX12_wanted_43 ?_
          obtain ⟨x2_4, ex2_4, hf⟩ := mv_some hf
          refine mq_nm ex2_4 ?_
          refine lv_istore_n (lv' := [(2, .int x2_4), (0, .ref (ad 0)), (1, .int x1), (3, .int x3)]) hx hb dX12_wanted_44 rfl hl (by decide) rfl (fun ls hl => ?_)
          obtain ⟨x3_5, ex3_5, hf⟩ := mv_some hf
          refine lv_iinc (v := x3_5) (lv' := [(3, .int x3_5), (2, .int x2_4), (0, .ref (ad 0)), (1, .int x1)]) hx hb dX12_wanted_45 hl (k := 3) rfl (by rw [ex3_5]; rfl) (by decide) rfl (fun ls hl => ?_)
          refine lv_goto (tgt := 4) hx hb dX12_wanted_48 (by decide) ?_
          exact ih x2_4 x3_5 H locs ls hP hS (lv_sub hl [2, 3, 1, 0] rfl) hf
        · replace hf := ite_f c_3 hf
          refine lv_aload_n hx hb dX12_wanted_29 rfl (lv_at hl 0 rfl) ?_
          refine mq_getr (Tt := TX12) (N := 26) (C := RX12) hx hb hts hiX12 hown hK hP hp rfl 0 1 (by decide) rfl hw0 (fun _ h9 => h9) dX12_wanted_30 ?_
          refine lv_sipush (v := 181) hx hb dX12_wanted_33 (by decide) ?_
          refine lv_iload_n hx hb dX12_wanted_36 rfl (lv_at hl 3 rfl) ?_
          refine lv_iadd hx hb dX12_wanted_37 ?_
          obtain ⟨h_6, hf⟩ := og_some hf
          refine mq_iald hx hb hK hP (N := 193) (shTM_X12_1 hp) h_6 dX12_wanted_38 ?_
          refine lv_goto (tgt := 43) hx hb dX12_wanted_39 (by decide) ?_
          refine lv_iadd hx hb dX12_wanted_43 ?_
          obtain ⟨x2_7, ex2_7, hf⟩ := mv_some hf
          refine mq_nm ex2_7 ?_
          refine lv_istore_n (lv' := [(2, .int x2_7), (0, .ref (ad 0)), (1, .int x1), (3, .int x3)]) hx hb dX12_wanted_44 rfl hl (by decide) rfl (fun ls hl => ?_)
          obtain ⟨x3_8, ex3_8, hf⟩ := mv_some hf
          refine lv_iinc (v := x3_8) (lv' := [(3, .int x3_8), (2, .int x2_7), (0, .ref (ad 0)), (1, .int x1)]) hx hb dX12_wanted_45 hl (k := 3) rfl (by rw [ex3_8]; rfl) (by decide) rfl (fun ls hl => ?_)
          refine lv_goto (tgt := 4) hx hb dX12_wanted_48 (by decide) ?_
          exact ih x2_7 x3_8 H locs ls hP hS (lv_sub hl [2, 3, 1, 0] rfl) hf
  unfold f_X12_wanted at hf
  have hH9 : ∀ (H : Heap) (locs : List Loc), H = s.heap → locs = [] → va_P D vwCl (mm_L TM ad cy g) H → va_S (mm_A TM ad) s.heap H locs → W p l e (headSpec wsX12_wanted (rm_X12_wanted)).room s m args below meth c H locs 0 0 (MQ below (mm_Qi D TM ad cy r0 g) args s 0 0 (mm_A TM ad)) (F0 m 0 ls []) := by
    intro H locs hH9 hL9 hP hS
    clear hH9 hL9
    refine lv_iconst (v := 0) hx hb dX12_wanted_0 (by decide) ?_
    refine lv_istore_n (lv' := [(2, .int 0), (0, .ref (ad 0)), (1, .int x1)]) hx hb dX12_wanted_1 rfl hl (by decide) rfl (fun ls hl => ?_)
    refine lv_iconst (v := 0) hx hb dX12_wanted_2 (by decide) ?_
    refine lv_istore_n (lv' := [(3, .int 0), (2, .int 0), (0, .ref (ad 0)), (1, .int x1)]) hx hb dX12_wanted_3 rfl hl (by decide) rfl (fun ls hl => ?_)
    exact hc4 FU 0 0 H locs ls hP hS (lv_sub hl [2, 3, 1, 0] rfl) hf
  exact hH9 s.heap [] rfl rfl hP hS
abbrev rm_X12_market : Room := ({ frames := 1, cells := 0, slots := 0, locals := 25 } : Room)
set_option maxHeartbeats 4000000 in
set_option maxRecDepth 100000 in
theorem c_X12_market (l : Launch) (D : va_G) (ad : Nat → Nat) (cy : Nat → ClassId) (x1 : Int32) (x2 : Int32) (x3 : Int32) (g : Mm) (hp : TM[0]? = some sX12) (r0 : Int32) (hf : f_X12_market x1 x2 x3 g = some r0) : Met l yX12_market wsX12_market rm_X12_market (va_Pc [.ref (ad 0), .int x1, .int x2, .int x3] (mm_pre mm_Z0 D TM ad cy g)) (mm_Qi D TM ad cy r0 g) 0 0 (mm_A TM ad) := by
  refine Met.ofW (cc := cX12_market) (maxL := 10) (ret := (some .int)) (by decide) rfl ?_
  intro p e s m args below meth c s₁ B hml hv
  obtain ⟨hargs, hP, hK, hI, hZ⟩ := hv
  have hx := B.exec
  have hb := B.bytes
  have hr := B.returns
  have hts := atoms_spec (ws := wsX12_market) B.pre
  have hown : s.vm.findClass RX12 = some m.cls := findClass_of_methodNamed B.named
  have hlocks := B.notSynchronized
  have hw0 := hts (.constantLong RX12 81 (99)) (by decide +kernel)
  have hw1 := hts (.constantLong RX12 215 (60)) (by decide +kernel)
  rw [show entryFrame m args 10 = F0 m 0 ((lg_sl ([.ref (ad 0), .int x1, .int x2, .int x3] : List Value) ++ List.replicate (10 - (lg_sl ([.ref (ad 0), .int x1, .int x2, .int x3] : List Value)).length) Slot.unset).toArray) [] from by rw [hargs]; exact lg_entry_eq m _ _]
  have hl := lv_entry ([.ref (ad 0), .int x1, .int x2, .int x3] : List Value) (n := 10) (by exact Nat.le_of_ble_eq_true rfl)
  generalize (lg_sl ([.ref (ad 0), .int x1, .int x2, .int x3] : List Value) ++ List.replicate (10 - (lg_sl ([.ref (ad 0), .int x1, .int x2, .int x3] : List Value)).length) Slot.unset).toArray = ls at hl ⊢
  have hl : lv_has ls 10 [(0, .ref (ad 0)), (1, .int x1), (2, .int x2), (3, .int x3)] := by exact hl
  have hS : va_S (mm_A TM ad) s.heap s.heap [] := va_S.rf
  clear hargs
  have hc128 : ∀ (K_45 : Int32 → Int32 → Int32 → Mm → Option (Int32)), (∀ (x4 : Int32) (x5 : Int32) (x6 : Int32) (H : Heap) (locs : List Loc) (ls : Array Slot), va_P D vwCl (mm_L TM ad cy g) H → va_S (mm_A TM ad) s.heap H locs → lv_has ls 10 [(0, .ref (ad 0)), (1, .int x1), (2, .int x2), (3, .int x3), (4, .int x4), (5, .int x5), (6, .int x6)] → K_45 x4 x5 x6 g = some r0 → W p l e (headSpec wsX12_market (rm_X12_market)).room s m args below meth c H locs 0 0 (MQ below (mm_Qi D TM ad cy r0 g) args s 0 0 (mm_A TM ad)) (F0 m 45 ls [])) → ∀ (x4 : Int32) (x6 : Int32) (x8 : Int32) (sx0 : Int32) (H : Heap) (locs : List Loc) (ls : Array Slot), va_P D vwCl (mm_L TM ad cy g) H → va_S (mm_A TM ad) s.heap H locs → lv_has ls 10 [(0, .ref (ad 0)), (1, .int x1), (2, .int x2), (3, .int x3), (4, .int x4), (6, .int x6), (8, .int x8)] → f_X12_market_c128 K_45 x2 x3 x4 x6 x8 sx0 g = some r0 → W p l e (headSpec wsX12_market (rm_X12_market)).room s m args below meth c H locs 0 0 (MQ below (mm_Qi D TM ad cy r0 g) args s 0 0 (mm_A TM ad)) (F0 m 128 ls [.int sx0]) := by
    intro K_45 hK_45 x4 x6 x8 sx0 H locs ls hP hS hl hf
    unfold f_X12_market_c128 at hf
    refine lv_istore (lv' := [(9, .int sx0), (0, .ref (ad 0)), (1, .int x1), (2, .int x2), (3, .int x3), (4, .int x4), (6, .int x6), (8, .int x8)]) hx hb dX12_market_128 hl (by decide) rfl (fun ls hl => ?_)
    refine lv_iload hx hb dX12_market_130 (lv_at hl 0 rfl) ?_
    refine lv_if_eq (tgt := 149) hx hb dX12_market_132 (by decide) (fun c_17 => ?_) (fun c_17 => ?_)
    · replace hf := ite_t c_17 hf
      refine lv_iload hx hb dX12_market_149 (lv_at hl 7 rfl) ?_
      refine lv_istore (lv' := [(5, .int x8), (9, .int sx0), (0, .ref (ad 0)), (1, .int x1), (2, .int x2), (3, .int x3), (4, .int x4), (6, .int x6), (8, .int x8)]) hx hb dX12_market_151 hl (by decide) rfl (fun ls hl => ?_)
      refine lv_iload hx hb dX12_market_153 (lv_at hl 6 rfl) ?_
      refine lv_iload hx hb dX12_market_155 (lv_at hl 8 rfl) ?_
      refine lv_iadd hx hb dX12_market_157 ?_
      obtain ⟨x4_18, ex4_18, hf⟩ := mv_some hf
      refine mq_nm ex4_18 ?_
      refine lv_istore (lv' := [(4, .int x4_18), (5, .int x8), (9, .int sx0), (0, .ref (ad 0)), (1, .int x1), (2, .int x2), (3, .int x3), (6, .int x6), (8, .int x8)]) hx hb dX12_market_158 hl (by decide) rfl (fun ls hl => ?_)
      obtain ⟨x6_19, ex6_19, hf⟩ := mv_some hf
      refine lv_iinc (v := x6_19) (lv' := [(6, .int x6_19), (4, .int x4_18), (5, .int x8), (9, .int sx0), (0, .ref (ad 0)), (1, .int x1), (2, .int x2), (3, .int x3), (8, .int x8)]) hx hb dX12_market_160 hl (k := 7) rfl (by rw [ex6_19]; rfl) (by decide) rfl (fun ls hl => ?_)
      refine lv_goto (tgt := 45) hx hb dX12_market_163 (by decide) ?_
      exact hK_45 x4_18 x8 x6_19 H locs ls hP hS (lv_sub hl [4, 5, 6, 7, 1, 2, 0] rfl) hf
    · replace hf := ite_f c_17 hf
      refine lv_iload_n hx hb dX12_market_135 rfl (lv_at hl 4 rfl) ?_
      refine lv_if_ne (tgt := 144) hx hb dX12_market_136 (by decide) (fun c_20 => ?_) (fun c_20 => ?_)
      · replace hf := ite_f c_20 hf
        refine lv_iload hx hb dX12_market_144 (lv_at hl 6 rfl) ?_
        refine lv_iconst (v := 1) hx hb dX12_market_146 (by decide) ?_
        refine lv_iadd hx hb dX12_market_147 ?_
        exact mq_iret hx hb hr rfl hlocks hP hS (Option.some.inj hf) rfl dX12_market_148
      · replace hf := ite_t c_20 hf
        refine lv_bipush (v := (-4)) hx hb dX12_market_139 (by decide) ?_
        refine lv_goto (tgt := 148) hx hb dX12_market_141 (by decide) ?_
        exact mq_iret hx hb hr rfl hlocks hP hS (Option.some.inj hf) rfl dX12_market_148
  have hc123 : ∀ (K_45 : Int32 → Int32 → Int32 → Mm → Option (Int32)), (∀ (x4 : Int32) (x5 : Int32) (x6 : Int32) (H : Heap) (locs : List Loc) (ls : Array Slot), va_P D vwCl (mm_L TM ad cy g) H → va_S (mm_A TM ad) s.heap H locs → lv_has ls 10 [(0, .ref (ad 0)), (1, .int x1), (2, .int x2), (3, .int x3), (4, .int x4), (5, .int x5), (6, .int x6)] → K_45 x4 x5 x6 g = some r0 → W p l e (headSpec wsX12_market (rm_X12_market)).room s m args below meth c H locs 0 0 (MQ below (mm_Qi D TM ad cy r0 g) args s 0 0 (mm_A TM ad)) (F0 m 45 ls [])) → ∀ (x4 : Int32) (x6 : Int32) (x8 : Int32) (H : Heap) (locs : List Loc) (ls : Array Slot), va_P D vwCl (mm_L TM ad cy g) H → va_S (mm_A TM ad) s.heap H locs → lv_has ls 10 [(0, .ref (ad 0)), (1, .int x1), (2, .int x2), (3, .int x3), (4, .int x4), (6, .int x6), (8, .int x8)] → f_X12_market_c123 K_45 x2 x3 x4 x6 x8 g = some r0 → W p l e (headSpec wsX12_market (rm_X12_market)).room s m args below meth c H locs 0 0 (MQ below (mm_Qi D TM ad cy r0 g) args s 0 0 (mm_A TM ad)) (F0 m 123 ls []) := by
    intro K_45 hK_45 x4 x6 x8 H locs ls hP hS hl hf
    unfold f_X12_market_c123 at hf
    refine lv_iconst (v := 1) hx hb dX12_market_123 (by decide) ?_
    refine lv_goto (tgt := 128) hx hb dX12_market_124 (by decide) ?_
    exact hc128 K_45 hK_45 x4 x6 x8 1 H locs ls hP hS (lv_sub hl [0, 1, 2, 3, 4, 5, 6] rfl) hf
  have hc104 : ∀ (K_45 : Int32 → Int32 → Int32 → Mm → Option (Int32)), (∀ (x4 : Int32) (x5 : Int32) (x6 : Int32) (H : Heap) (locs : List Loc) (ls : Array Slot), va_P D vwCl (mm_L TM ad cy g) H → va_S (mm_A TM ad) s.heap H locs → lv_has ls 10 [(0, .ref (ad 0)), (1, .int x1), (2, .int x2), (3, .int x3), (4, .int x4), (5, .int x5), (6, .int x6)] → K_45 x4 x5 x6 g = some r0 → W p l e (headSpec wsX12_market (rm_X12_market)).room s m args below meth c H locs 0 0 (MQ below (mm_Qi D TM ad cy r0 g) args s 0 0 (mm_A TM ad)) (F0 m 45 ls [])) → ∀ (x4 : Int32) (x6 : Int32) (x8 : Int32) (H : Heap) (locs : List Loc) (ls : Array Slot), va_P D vwCl (mm_L TM ad cy g) H → va_S (mm_A TM ad) s.heap H locs → lv_has ls 10 [(0, .ref (ad 0)), (1, .int x1), (2, .int x2), (3, .int x3), (4, .int x4), (6, .int x6), (8, .int x8)] → f_X12_market_c104 K_45 x2 x3 x4 x6 x8 g = some r0 → W p l e (headSpec wsX12_market (rm_X12_market)).room s m args below meth c H locs 0 0 (MQ below (mm_Qi D TM ad cy r0 g) args s 0 0 (mm_A TM ad)) (F0 m 104 ls []) := by
    intro K_45 hK_45 x4 x6 x8 H locs ls hP hS hl hf
    unfold f_X12_market_c104 at hf
    refine lv_iload hx hb dX12_market_104 (lv_at hl 4 rfl) ?_
    refine lv_iload hx hb dX12_market_106 (lv_at hl 6 rfl) ?_
    refine lv_iadd hx hb dX12_market_108 ?_
    refine lv_bipush (v := 99) hx hb dX12_market_109 (by decide) ?_
    refine lv_icmp_gt (tgt := 123) hx hb dX12_market_111 (by decide) (fun c_16 => ?_) (fun c_16 => ?_)
    · replace hf := ite_t c_16 hf
      exact hc123 K_45 hK_45 x4 x6 x8 H locs ls hP hS (lv_sub hl [0, 1, 2, 3, 4, 5, 6] rfl) hf
    · replace hf := ite_f c_16 hf
      refine lv_iload hx hb dX12_market_114 (lv_at hl 4 rfl) ?_
      refine lv_iload hx hb dX12_market_116 (lv_at hl 6 rfl) ?_
      refine lv_iadd hx hb dX12_market_118 ?_
      refine lv_iconst (v := 1) hx hb dX12_market_119 (by decide) ?_
      refine lv_icmp_ge (tgt := 127) hx hb dX12_market_120 (by decide) (fun c_21 => ?_) (fun c_21 => ?_)
      · replace hf := ite_t c_21 hf
        refine lv_iconst (v := 0) hx hb dX12_market_127 (by decide) ?_
        exact hc128 K_45 hK_45 x4 x6 x8 0 H locs ls hP hS (lv_sub hl [0, 1, 2, 3, 4, 5, 6] rfl) hf
      · replace hf := ite_f c_21 hf
        exact hc123 K_45 hK_45 x4 x6 x8 H locs ls hP hS (lv_sub hl [0, 1, 2, 3, 4, 5, 6] rfl) hf
  have hc90 : ∀ (K_45 : Int32 → Int32 → Int32 → Mm → Option (Int32)), (∀ (x4 : Int32) (x5 : Int32) (x6 : Int32) (H : Heap) (locs : List Loc) (ls : Array Slot), va_P D vwCl (mm_L TM ad cy g) H → va_S (mm_A TM ad) s.heap H locs → lv_has ls 10 [(0, .ref (ad 0)), (1, .int x1), (2, .int x2), (3, .int x3), (4, .int x4), (5, .int x5), (6, .int x6)] → K_45 x4 x5 x6 g = some r0 → W p l e (headSpec wsX12_market (rm_X12_market)).room s m args below meth c H locs 0 0 (MQ below (mm_Qi D TM ad cy r0 g) args s 0 0 (mm_A TM ad)) (F0 m 45 ls [])) → ∀ (x4 : Int32) (x5 : Int32) (x6 : Int32) (sx0 : Int32) (H : Heap) (locs : List Loc) (ls : Array Slot), va_P D vwCl (mm_L TM ad cy g) H → va_S (mm_A TM ad) s.heap H locs → lv_has ls 10 [(0, .ref (ad 0)), (1, .int x1), (2, .int x2), (3, .int x3), (4, .int x4), (5, .int x5), (6, .int x6)] → f_X12_market_c90 K_45 x2 x3 x4 x5 x6 sx0 g = some r0 → W p l e (headSpec wsX12_market (rm_X12_market)).room s m args below meth c H locs 0 0 (MQ below (mm_Qi D TM ad cy r0 g) args s 0 0 (mm_A TM ad)) (F0 m 90 ls [.int sx0]) := by
    intro K_45 hK_45 x4 x5 x6 sx0 H locs ls hP hS hl hf
    unfold f_X12_market_c90 at hf
    refine lv_istore (lv' := [(8, .int sx0), (0, .ref (ad 0)), (1, .int x1), (2, .int x2), (3, .int x3), (4, .int x4), (5, .int x5), (6, .int x6)]) hx hb dX12_market_90 hl (by decide) rfl (fun ls hl => ?_)
    refine lv_iload hx hb dX12_market_92 (lv_at hl 6 rfl) ?_
    refine lv_if_eq (tgt := 104) hx hb dX12_market_94 (by decide) (fun c_15 => ?_) (fun c_15 => ?_)
    · replace hf := ite_t c_15 hf
      exact hc104 K_45 hK_45 x4 x6 sx0 H locs ls hP hS (lv_sub hl [1, 2, 3, 4, 5, 7, 0] rfl) hf
    · replace hf := ite_f c_15 hf
      refine lv_iload hx hb dX12_market_97 (lv_at hl 0 rfl) ?_
      refine lv_iload hx hb dX12_market_99 (lv_at hl 6 rfl) ?_
      refine lv_icmp_ne (tgt := 123) hx hb dX12_market_101 (by decide) (fun c_22 => ?_) (fun c_22 => ?_)
      · replace hf := ite_f c_22 hf
        exact hc123 K_45 hK_45 x4 x6 sx0 H locs ls hP hS (lv_sub hl [1, 2, 3, 4, 5, 7, 0] rfl) hf
      · replace hf := ite_t c_22 hf
        exact hc104 K_45 hK_45 x4 x6 sx0 H locs ls hP hS (lv_sub hl [1, 2, 3, 4, 5, 7, 0] rfl) hf
  have hc45 : ∀ (n : Nat), ∀ (x4 : Int32) (x5 : Int32) (x6 : Int32) (H : Heap) (locs : List Loc) (ls : Array Slot), va_P D vwCl (mm_L TM ad cy g) H → va_S (mm_A TM ad) s.heap H locs → lv_has ls 10 [(0, .ref (ad 0)), (1, .int x1), (2, .int x2), (3, .int x3), (4, .int x4), (5, .int x5), (6, .int x6)] → f_X12_market_c45 x2 x3 n x4 x5 x6 g = some r0 → W p l e (headSpec wsX12_market (rm_X12_market)).room s m args below meth c H locs 0 0 (MQ below (mm_Qi D TM ad cy r0 g) args s 0 0 (mm_A TM ad)) (F0 m 45 ls []) := by
    intro n
    induction n with
    | zero =>
      intro x4 x5 x6 H locs ls hP hS hl hf
      rw [f_X12_market_c45] at hf
      cases hf
    | succ n ih =>
      intro x4 x5 x6 H locs ls hP hS hl hf
      rw [f_X12_market_c45] at hf
      refine lv_iload hx hb dX12_market_45 (lv_at hl 6 rfl) ?_
      refine lv_sipush (v := 200) hx hb dX12_market_47 (by decide) ?_
      refine lv_icmp_ge (tgt := 166) hx hb dX12_market_50 (by decide) (fun c_10 => ?_) (fun c_10 => ?_)
      · replace hf := ite_t c_10 hf
        refine lv_bipush (v := (-4)) hx hb dX12_market_166 (by decide) ?_
        exact mq_iret hx hb hr rfl hlocks hP hS (Option.some.inj hf) rfl dX12_market_168
      · replace hf := ite_f c_10 hf
        refine lv_aload_n hx hb dX12_market_53 rfl (lv_at hl 0 rfl) ?_
        refine lv_iload hx hb dX12_market_54 (lv_at hl 4 rfl) ?_
        obtain ⟨r_11, hr_12, hf⟩ := op_some hf
        refine mq_calli (va_runV (As := [.int x4]) (rest := []) ⟨hx, hb, hml, hown, hts⟩ (c_X12_wanted l D ad cy x4 g hp r_11 hr_12) (cwV 1 hts gX12_market_X12_wanted rfl rfl rfl (by decide +kernel) ⟨Nat.le_of_ble_eq_true rfl, Nat.le_of_ble_eq_true rfl⟩) (mq_preV (q := (RX12, TX12, 26)) mm_zOk0 hK hP hI hZ hS hp rfl) rfl rfl hl.1 rfl (lv_room (Nat.le_of_ble_eq_true rfl)) dX12_market_56 ⟨Nat.le_refl _, Nat.le_refl _⟩) hS (fun H locs hP hS => ?_)
        refine lv_istore (lv' := [(7, .int r_11), (0, .ref (ad 0)), (1, .int x1), (2, .int x2), (3, .int x3), (4, .int x4), (5, .int x5), (6, .int x6)]) hx hb dX12_market_59 hl (by decide) rfl (fun ls hl => ?_)
        refine lv_iload hx hb dX12_market_61 (lv_at hl 0 rfl) ?_
        refine lv_iload_n hx hb dX12_market_63 rfl (lv_at hl 3 rfl) ?_
        refine lv_icmp_ne (tgt := 79) hx hb dX12_market_64 (by decide) (fun c_13 => ?_) (fun c_13 => ?_)
        · replace hf := ite_f c_13 hf
          refine lv_iload hx hb dX12_market_79 (lv_at hl 0 rfl) ?_
          refine lv_iload_n hx hb dX12_market_81 rfl (lv_at hl 3 rfl) ?_
          refine lv_icmp_le (tgt := 89) hx hb dX12_market_82 (by decide) (fun c_14 => ?_) (fun c_14 => ?_)
          · replace hf := ite_t c_14 hf
            refine lv_iconst (v := (-1)) hx hb dX12_market_89 (by decide) ?_
            exact hc90 (f_X12_market_c45 x2 x3 n) ih x4 x5 x6 (-1) H locs ls hP hS (lv_sub hl [1, 2, 3, 4, 5, 6, 7] rfl) hf
          · replace hf := ite_f c_14 hf
            refine lv_iconst (v := 1) hx hb dX12_market_85 (by decide) ?_
            refine lv_goto (tgt := 90) hx hb dX12_market_86 (by decide) ?_
            exact hc90 (f_X12_market_c45 x2 x3 n) ih x4 x5 x6 1 H locs ls hP hS (lv_sub hl [1, 2, 3, 4, 5, 6, 7] rfl) hf
        · replace hf := ite_t c_13 hf
          refine lv_iload_n hx hb dX12_market_67 rfl (lv_at hl 4 rfl) ?_
          refine lv_if_ne (tgt := 76) hx hb dX12_market_68 (by decide) (fun c_23 => ?_) (fun c_23 => ?_)
          · replace hf := ite_f c_23 hf
            refine lv_iload hx hb dX12_market_76 (lv_at hl 7 rfl) ?_
            exact mq_iret hx hb hr rfl hlocks hP hS (Option.some.inj hf) rfl dX12_market_78
          · replace hf := ite_t c_23 hf
            refine lv_iload hx hb dX12_market_71 (lv_at hl 5 rfl) ?_
            refine lv_goto (tgt := 78) hx hb dX12_market_73 (by decide) ?_
            exact mq_iret hx hb hr rfl hlocks hP hS (Option.some.inj hf) rfl dX12_market_78
  unfold f_X12_market at hf
  have hH9 : ∀ (H : Heap) (locs : List Loc), H = s.heap → locs = [] → va_P D vwCl (mm_L TM ad cy g) H → va_S (mm_A TM ad) s.heap H locs → W p l e (headSpec wsX12_market (rm_X12_market)).room s m args below meth c H locs 0 0 (MQ below (mm_Qi D TM ad cy r0 g) args s 0 0 (mm_A TM ad)) (F0 m 0 ls []) := by
    intro H locs hH9 hL9 hP hS
    clear hH9 hL9
    refine lv_iload_n hx hb dX12_market_0 rfl (lv_at hl 1 rfl) ?_
    refine lv_i2l hx hb dX12_market_1 rfl ?_
    refine lv_lconst (v := 1) hx hb dX12_market_2 (by decide) ?_
    refine lv_ldc2 (v := 99) hx hb hown hw0 dX12_market_3 ?_
    obtain ⟨r_1, hr_2, hf⟩ := op_some hf
    refine mq_calli (va_runS (As := [.long (x1.toInt64), .long 1, .long 99]) (rest := []) ⟨hx, hb, hml, hown, hts⟩ (c_X12_in l D ad cy (x1.toInt64) 1 99 g r_1 hr_2) (va_cwS 3 hts gX12_market_X12_in rfl rfl rfl (by decide +kernel) ⟨Nat.le_of_ble_eq_true rfl, Nat.le_of_ble_eq_true rfl⟩) (mq_preS mm_zOk0 hK hP hI hZ hS) rfl rfl hl.1 rfl (lv_room (Nat.le_of_ble_eq_true rfl)) dX12_market_6 ⟨Nat.le_refl _, Nat.le_refl _⟩) hS (fun H locs hP hS => ?_)
    refine lv_if_eq (tgt := 34) hx hb dX12_market_9 (by decide) (fun c_3 => ?_) (fun c_3 => ?_)
    · replace hf := ite_t c_3 hf
      refine lv_iconst (v := (-1)) hx hb dX12_market_34 (by decide) ?_
      exact mq_iret hx hb hr rfl hlocks hP hS (Option.some.inj hf) rfl dX12_market_35
    · replace hf := ite_f c_3 hf
      refine lv_iload_n hx hb dX12_market_12 rfl (lv_at hl 2 rfl) ?_
      refine lv_i2l hx hb dX12_market_13 rfl ?_
      refine lv_lconst (v := 0) hx hb dX12_market_14 (by decide) ?_
      refine lv_ldc2 (v := 60) hx hb hown hw1 dX12_market_15 ?_
      obtain ⟨r_4, hr_5, hf⟩ := op_some hf
      refine mq_calli (va_runS (As := [.long (x2.toInt64), .long 0, .long 60]) (rest := []) ⟨hx, hb, hml, hown, hts⟩ (c_X12_in l D ad cy (x2.toInt64) 0 60 g r_4 hr_5) (va_cwS 3 hts gX12_market_X12_in rfl rfl rfl (by decide +kernel) ⟨Nat.le_of_ble_eq_true rfl, Nat.le_of_ble_eq_true rfl⟩) (mq_preS mm_zOk0 hK hP hI hZ hS) rfl rfl hl.1 rfl (lv_room (Nat.le_of_ble_eq_true rfl)) dX12_market_18 ⟨Nat.le_refl _, Nat.le_refl _⟩) hS (fun H locs hP hS => ?_)
      refine lv_if_eq (tgt := 34) hx hb dX12_market_21 (by decide) (fun c_6 => ?_) (fun c_6 => ?_)
      · replace hf := ite_t c_6 hf
        refine lv_iconst (v := (-1)) hx hb dX12_market_34 (by decide) ?_
        exact mq_iret hx hb hr rfl hlocks hP hS (Option.some.inj hf) rfl dX12_market_35
      · replace hf := ite_f c_6 hf
        refine lv_iload_n hx hb dX12_market_24 rfl (lv_at hl 3 rfl) ?_
        refine lv_i2l hx hb dX12_market_25 rfl ?_
        refine lv_lconst (v := 0) hx hb dX12_market_26 (by decide) ?_
        refine lv_lconst (v := 1) hx hb dX12_market_27 (by decide) ?_
        obtain ⟨r_7, hr_8, hf⟩ := op_some hf
        refine mq_calli (va_runS (As := [.long (x3.toInt64), .long 0, .long 1]) (rest := []) ⟨hx, hb, hml, hown, hts⟩ (c_X12_in l D ad cy (x3.toInt64) 0 1 g r_7 hr_8) (va_cwS 3 hts gX12_market_X12_in rfl rfl rfl (by decide +kernel) ⟨Nat.le_of_ble_eq_true rfl, Nat.le_of_ble_eq_true rfl⟩) (mq_preS mm_zOk0 hK hP hI hZ hS) rfl rfl hl.1 rfl (lv_room (Nat.le_of_ble_eq_true rfl)) dX12_market_28 ⟨Nat.le_refl _, Nat.le_refl _⟩) hS (fun H locs hP hS => ?_)
        refine lv_if_ne (tgt := 36) hx hb dX12_market_31 (by decide) (fun c_9 => ?_) (fun c_9 => ?_)
        · replace hf := ite_f c_9 hf
          refine lv_iload_n hx hb dX12_market_36 rfl (lv_at hl 1 rfl) ?_
          refine lv_istore (lv' := [(4, .int x1), (0, .ref (ad 0)), (1, .int x1), (2, .int x2), (3, .int x3)]) hx hb dX12_market_37 hl (by decide) rfl (fun ls hl => ?_)
          refine lv_iconst (v := 0) hx hb dX12_market_39 (by decide) ?_
          refine lv_istore (lv' := [(5, .int 0), (4, .int x1), (0, .ref (ad 0)), (1, .int x1), (2, .int x2), (3, .int x3)]) hx hb dX12_market_40 hl (by decide) rfl (fun ls hl => ?_)
          refine lv_iconst (v := 0) hx hb dX12_market_42 (by decide) ?_
          refine lv_istore (lv' := [(6, .int 0), (5, .int 0), (4, .int x1), (0, .ref (ad 0)), (1, .int x1), (2, .int x2), (3, .int x3)]) hx hb dX12_market_43 hl (by decide) rfl (fun ls hl => ?_)
          exact hc45 FU x1 0 0 H locs ls hP hS (lv_sub hl [3, 4, 5, 6, 2, 1, 0] rfl) hf
        · replace hf := ite_t c_9 hf
          refine lv_iconst (v := (-1)) hx hb dX12_market_34 (by decide) ?_
          exact mq_iret hx hb hr rfl hlocks hP hS (Option.some.inj hf) rfl dX12_market_35
  exact hH9 s.heap [] rfl rfl hP hS
