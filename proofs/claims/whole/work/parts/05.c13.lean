abbrev rm_X12_barred : Room := ({ frames := 1, cells := 0, slots := 0, locals := 25 } : Room)
set_option maxHeartbeats 4000000 in
set_option maxRecDepth 100000 in
theorem c_X12_barred (l : Launch) (D : va_G) (ad : Nat → Nat) (cy : Nat → ClassId) (x1 : Int32) (x2 : Int32) (x3 : Int32) (x4 : Int32) (g : Mm) (hp : TM[0]? = some sX12) (r0 : Int32) (hf : f_X12_barred x1 x2 x3 x4 g = some r0) : Met l yX12_barred wsX12_barred rm_X12_barred (va_Pc [.ref (ad 0), .int x1, .int x2, .int x3, .int x4] (mm_pre mm_Z0 D TM ad cy g)) (mm_Qi D TM ad cy r0 g) 0 0 (mm_A TM ad) := by
  refine Met.ofW (cc := cX12_barred) (maxL := 7) (ret := (some .int)) (by decide) rfl ?_
  intro p e s m args below meth c s₁ B hml hv
  obtain ⟨hargs, hP, hK, hI, hZ⟩ := hv
  have hx := B.exec
  have hb := B.bytes
  have hr := B.returns
  have hts := atoms_spec (ws := wsX12_barred) B.pre
  have hown : s.vm.findClass RX12 = some m.cls := findClass_of_methodNamed B.named
  have hlocks := B.notSynchronized
  have hw0 := hts (.fieldLink RX12 25 "LeftShoesModel" "items" "[I") (by decide +kernel)
  have hiX12 : ∀ w ∈ wsX120, w ∈ wsX12_barred := by decide +kernel
  have hw2 := hts (.constantLong RX12 213 (9)) (by decide +kernel)
  rw [show entryFrame m args 7 = F0 m 0 ((lg_sl ([.ref (ad 0), .int x1, .int x2, .int x3, .int x4] : List Value) ++ List.replicate (7 - (lg_sl ([.ref (ad 0), .int x1, .int x2, .int x3, .int x4] : List Value)).length) Slot.unset).toArray) [] from by rw [hargs]; exact lg_entry_eq m _ _]
  have hl := lv_entry ([.ref (ad 0), .int x1, .int x2, .int x3, .int x4] : List Value) (n := 7) (by exact Nat.le_of_ble_eq_true rfl)
  generalize (lg_sl ([.ref (ad 0), .int x1, .int x2, .int x3, .int x4] : List Value) ++ List.replicate (7 - (lg_sl ([.ref (ad 0), .int x1, .int x2, .int x3, .int x4] : List Value)).length) Slot.unset).toArray = ls at hl ⊢
  have hl : lv_has ls 7 [(0, .ref (ad 0)), (1, .int x1), (2, .int x2), (3, .int x3), (4, .int x4)] := by exact hl
  have hS : va_S (mm_A TM ad) s.heap s.heap [] := va_S.rf
  clear hargs
  have hc14 : ∀ (n : Nat), ∀ (x5 : Int32) (x6 : Int32) (H : Heap) (locs : List Loc) (ls : Array Slot), va_P D vwCl (mm_L TM ad cy g) H → va_S (mm_A TM ad) s.heap H locs → lv_has ls 7 [(0, .ref (ad 0)), (1, .int x1), (2, .int x2), (3, .int x3), (4, .int x4), (5, .int x5), (6, .int x6)] → f_X12_barred_c14 x1 x3 x4 n x5 x6 g = some r0 → W p l e (headSpec wsX12_barred (rm_X12_barred)).room s m args below meth c H locs 0 0 (MQ below (mm_Qi D TM ad cy r0 g) args s 0 0 (mm_A TM ad)) (F0 m 14 ls []) := by
    intro n
    induction n with
    | zero =>
      intro x5 x6 H locs ls hP hS hl hf
      rw [f_X12_barred_c14] at hf
      cases hf
    | succ n ih =>
      intro x5 x6 H locs ls hP hS hl hf
      rw [f_X12_barred_c14] at hf
      refine lv_iload hx hb dX12_barred_14 (lv_at hl 6 rfl) ?_
      refine lv_iload hx hb dX12_barred_16 (lv_at hl 4 rfl) ?_
      refine lv_icmp_ge (tgt := 65) hx hb dX12_barred_18 (by decide) (fun c_3 => ?_) (fun c_3 => ?_)
      · replace hf := ite_t c_3 hf
        refine lv_iload hx hb dX12_barred_65 (lv_at hl 5 rfl) ?_
        exact mq_iret hx hb hr rfl hlocks hP hS (Option.some.inj hf) rfl dX12_barred_67
      · replace hf := ite_f c_3 hf
        refine lv_iload hx hb dX12_barred_21 (lv_at hl 5 rfl) ?_
        refine lv_if_ne (tgt := 65) hx hb dX12_barred_23 (by decide) (fun c_4 => ?_) (fun c_4 => ?_)
        · replace hf := ite_f c_4 hf
          refine lv_iload hx hb dX12_barred_65 (lv_at hl 5 rfl) ?_
          exact mq_iret hx hb hr rfl hlocks hP hS (Option.some.inj hf) rfl dX12_barred_67
        · replace hf := ite_t c_4 hf
          refine lv_aload_n hx hb dX12_barred_26 rfl (lv_at hl 0 rfl) ?_
          refine mq_getr (Tt := TX12) (N := 26) (C := RX12) hx hb hts hiX12 hown hK hP hp rfl 7 6 (by decide) rfl hw0 (fun _ h9 => h9) dX12_barred_27 ?_
          refine lv_bipush (v := 24) hx hb dX12_barred_30 (by decide) ?_
          refine lv_iload_n hx hb dX12_barred_32 rfl (lv_at hl 1 rfl) ?_
          refine lv_imul hx hb dX12_barred_33 ?_
          refine lv_iload_n hx hb dX12_barred_34 rfl (lv_at hl 3 rfl) ?_
          refine lv_iadd hx hb dX12_barred_35 ?_
          refine lv_iload hx hb dX12_barred_36 (lv_at hl 6 rfl) ?_
          refine lv_iadd hx hb dX12_barred_38 ?_
          obtain ⟨h_5, hf⟩ := og_some hf
          refine mq_iald hx hb hK hP (N := 96) (shTM_X12_6 hp) h_5 dX12_barred_39 ?_
          refine lv_i2l hx hb dX12_barred_40 rfl ?_
          refine lv_lconst (v := 0) hx hb dX12_barred_41 (by decide) ?_
          refine lv_ldc2 (v := 9) hx hb hown hw2 dX12_barred_42 ?_
          obtain ⟨r_6, hr_7, hf⟩ := op_some hf
          refine mq_calli (va_runS (As := [.long ((g 6 (((24 * x1) + x3) + x6).toNatClampNeg).toInt64), .long 0, .long 9]) (rest := []) ⟨hx, hb, hml, hown, hts⟩ (c_X12_in l D ad cy ((g 6 (((24 * x1) + x3) + x6).toNatClampNeg).toInt64) 0 9 g r_6 hr_7) (va_cwS 3 hts gX12_barred_X12_in rfl rfl rfl (by decide +kernel) ⟨Nat.le_of_ble_eq_true rfl, Nat.le_of_ble_eq_true rfl⟩) (mq_preS mm_zOk0 hK hP hI hZ hS) rfl rfl hl.1 rfl (lv_room (Nat.le_of_ble_eq_true rfl)) dX12_barred_45 ⟨Nat.le_refl _, Nat.le_refl _⟩) hS (fun H locs hP hS => ?_)
          refine lv_if_eq (tgt := 55) hx hb dX12_barred_48 (by decide) (fun c_8 => ?_) (fun c_8 => ?_)
          · replace hf := ite_t c_8 hf
            refine lv_bipush (v := (-2)) hx hb dX12_barred_55 (by decide) ?_
            refine lv_istore (lv' := [(5, .int (-2)), (0, .ref (ad 0)), (1, .int x1), (2, .int x2), (3, .int x3), (4, .int x4), (6, .int x6)]) hx hb dX12_barred_57 hl (by decide) rfl (fun ls hl => ?_)
            obtain ⟨x6_9, ex6_9, hf⟩ := mv_some hf
            refine lv_iinc (v := x6_9) (lv' := [(6, .int x6_9), (5, .int (-2)), (0, .ref (ad 0)), (1, .int x1), (2, .int x2), (3, .int x3), (4, .int x4)]) hx hb dX12_barred_59 hl (k := 6) rfl (by rw [ex6_9]; rfl) (by decide) rfl (fun ls hl => ?_)
            refine lv_goto (tgt := 14) hx hb dX12_barred_62 (by decide) ?_
            exact ih (-2) x6_9 H locs ls hP hS (lv_sub hl [2, 3, 4, 5, 6, 1, 0] rfl) hf
          · replace hf := ite_f c_8 hf
            refine lv_iconst (v := 0) hx hb dX12_barred_51 (by decide) ?_
            refine lv_goto (tgt := 57) hx hb dX12_barred_52 (by decide) ?_
            refine lv_istore (lv' := [(5, .int 0), (0, .ref (ad 0)), (1, .int x1), (2, .int x2), (3, .int x3), (4, .int x4), (6, .int x6)]) hx hb dX12_barred_57 hl (by decide) rfl (fun ls hl => ?_)
            obtain ⟨x6_10, ex6_10, hf⟩ := mv_some hf
            refine lv_iinc (v := x6_10) (lv' := [(6, .int x6_10), (5, .int 0), (0, .ref (ad 0)), (1, .int x1), (2, .int x2), (3, .int x3), (4, .int x4)]) hx hb dX12_barred_59 hl (k := 6) rfl (by rw [ex6_10]; rfl) (by decide) rfl (fun ls hl => ?_)
            refine lv_goto (tgt := 14) hx hb dX12_barred_62 (by decide) ?_
            exact ih 0 x6_10 H locs ls hP hS (lv_sub hl [2, 3, 4, 5, 6, 1, 0] rfl) hf
  unfold f_X12_barred at hf
  have hH9 : ∀ (H : Heap) (locs : List Loc), H = s.heap → locs = [] → va_P D vwCl (mm_L TM ad cy g) H → va_S (mm_A TM ad) s.heap H locs → W p l e (headSpec wsX12_barred (rm_X12_barred)).room s m args below meth c H locs 0 0 (MQ below (mm_Qi D TM ad cy r0 g) args s 0 0 (mm_A TM ad)) (F0 m 0 ls []) := by
    intro H locs hH9 hL9 hP hS
    clear hH9 hL9
    refine lv_aload_n hx hb dX12_barred_0 rfl (lv_at hl 0 rfl) ?_
    refine lv_iload_n hx hb dX12_barred_1 rfl (lv_at hl 1 rfl) ?_
    refine lv_iload_n hx hb dX12_barred_2 rfl (lv_at hl 2 rfl) ?_
    refine lv_iload_n hx hb dX12_barred_3 rfl (lv_at hl 3 rfl) ?_
    refine lv_iload hx hb dX12_barred_4 (lv_at hl 4 rfl) ?_
    obtain ⟨r_1, hr_2, hf⟩ := op_some hf
    refine mq_calli (va_runV (As := [.int x1, .int x2, .int x3, .int x4]) (rest := []) ⟨hx, hb, hml, hown, hts⟩ (c_X12_found l D ad cy x1 x2 x3 x4 g hp r_1 hr_2) (cwV 4 hts gX12_barred_X12_found rfl rfl rfl (by decide +kernel) ⟨Nat.le_of_ble_eq_true rfl, Nat.le_of_ble_eq_true rfl⟩) (mq_preV (q := (RX12, TX12, 26)) mm_zOk0 hK hP hI hZ hS hp rfl) rfl rfl hl.1 rfl (lv_room (Nat.le_of_ble_eq_true rfl)) dX12_barred_6 ⟨Nat.le_refl _, Nat.le_refl _⟩) hS (fun H locs hP hS => ?_)
    refine lv_istore (lv' := [(5, .int r_1), (0, .ref (ad 0)), (1, .int x1), (2, .int x2), (3, .int x3), (4, .int x4)]) hx hb dX12_barred_9 hl (by decide) rfl (fun ls hl => ?_)
    refine lv_iconst (v := 0) hx hb dX12_barred_11 (by decide) ?_
    refine lv_istore (lv' := [(6, .int 0), (5, .int r_1), (0, .ref (ad 0)), (1, .int x1), (2, .int x2), (3, .int x3), (4, .int x4)]) hx hb dX12_barred_12 hl (by decide) rfl (fun ls hl => ?_)
    exact hc14 FU r_1 0 H locs ls hP hS (lv_sub hl [2, 3, 4, 5, 6, 1, 0] rfl) hf
  exact hH9 s.heap [] rfl rfl hP hS
abbrev rm_X12_prints : Room := ({ frames := 4, cells := 0, slots := 0, locals := 103 } : Room)
set_option maxHeartbeats 4000000 in
set_option maxRecDepth 100000 in
theorem c_X12_prints (l : Launch) (D : va_G) (ad : Nat → Nat) (cy : Nat → ClassId) (x1 : Int32) (x2 : Int32) (x3 : Int32) (x4 : Int32) (x5 : Int32) (x6 : Int32) (g : Mm) (hp : TM[0]? = some sX12) (r0 : Int32) (hf : f_X12_prints x1 x2 x3 x4 x5 x6 g = some r0) : Met l yX12_prints wsX12_prints rm_X12_prints (va_Pc [.ref (ad 0), .int x1, .int x2, .int x3, .int x4, .int x5, .int x6] (mm_pre mm_Z0 D TM ad cy g)) (mm_Qi D TM ad cy r0 g) 0 0 (mm_A TM ad) := by
  refine Met.ofW (cc := cX12_prints) (maxL := 8) (ret := (some .int)) (by decide) rfl ?_
  intro p e s m args below meth c s₁ B hml hv
  obtain ⟨hargs, hP, hK, hI, hZ⟩ := hv
  have hx := B.exec
  have hb := B.bytes
  have hr := B.returns
  have hts := atoms_spec (ws := wsX12_prints) B.pre
  have hown : s.vm.findClass RX12 = some m.cls := findClass_of_methodNamed B.named
  have hlocks := B.notSynchronized
  have hw0 := hts (.constantLong RX12 243 (12)) (by decide +kernel)
  rw [show entryFrame m args 8 = F0 m 0 ((lg_sl ([.ref (ad 0), .int x1, .int x2, .int x3, .int x4, .int x5, .int x6] : List Value) ++ List.replicate (8 - (lg_sl ([.ref (ad 0), .int x1, .int x2, .int x3, .int x4, .int x5, .int x6] : List Value)).length) Slot.unset).toArray) [] from by rw [hargs]; exact lg_entry_eq m _ _]
  have hl := lv_entry ([.ref (ad 0), .int x1, .int x2, .int x3, .int x4, .int x5, .int x6] : List Value) (n := 8) (by exact Nat.le_of_ble_eq_true rfl)
  generalize (lg_sl ([.ref (ad 0), .int x1, .int x2, .int x3, .int x4, .int x5, .int x6] : List Value) ++ List.replicate (8 - (lg_sl ([.ref (ad 0), .int x1, .int x2, .int x3, .int x4, .int x5, .int x6] : List Value)).length) Slot.unset).toArray = ls at hl ⊢
  have hl : lv_has ls 8 [(0, .ref (ad 0)), (1, .int x1), (2, .int x2), (3, .int x3), (4, .int x4), (5, .int x5), (6, .int x6)] := by exact hl
  have hS : va_S (mm_A TM ad) s.heap s.heap [] := va_S.rf
  clear hargs
  unfold f_X12_prints at hf
  have hH9 : ∀ (H : Heap) (locs : List Loc), H = s.heap → locs = [] → va_P D vwCl (mm_L TM ad cy g) H → va_S (mm_A TM ad) s.heap H locs → W p l e (headSpec wsX12_prints (rm_X12_prints)).room s m args below meth c H locs 0 0 (MQ below (mm_Qi D TM ad cy r0 g) args s 0 0 (mm_A TM ad)) (F0 m 0 ls []) := by
    intro H locs hH9 hL9 hP hS
    clear hH9 hL9
    refine lv_iload_n hx hb dX12_prints_0 rfl (lv_at hl 1 rfl) ?_
    refine lv_iload_n hx hb dX12_prints_1 rfl (lv_at hl 2 rfl) ?_
    obtain ⟨r_1, hr_2, hf⟩ := op_some hf
    refine mq_calli (va_runS (As := [.int x1, .int x2]) (rest := []) ⟨hx, hb, hml, hown, hts⟩ (c_X12_isSheet l D ad cy x1 x2 g r_1 hr_2) (va_cwS 2 hts gX12_prints_X12_isSheet rfl rfl rfl (by decide +kernel) ⟨Nat.le_of_ble_eq_true rfl, Nat.le_of_ble_eq_true rfl⟩) (mq_preS mm_zOk0 hK hP hI hZ hS) rfl rfl hl.1 rfl (lv_room (Nat.le_of_ble_eq_true rfl)) dX12_prints_2 ⟨Nat.le_refl _, Nat.le_refl _⟩) hS (fun H locs hP hS => ?_)
    refine lv_if_eq (tgt := 41) hx hb dX12_prints_5 (by decide) (fun c_3 => ?_) (fun c_3 => ?_)
    · replace hf := ite_t c_3 hf
      refine lv_iconst (v := (-1)) hx hb dX12_prints_41 (by decide) ?_
      exact mq_iret hx hb hr rfl hlocks hP hS (Option.some.inj hf) rfl dX12_prints_42
    · replace hf := ite_f c_3 hf
      refine lv_iload hx hb dX12_prints_8 (lv_at hl 4 rfl) ?_
      refine lv_i2l hx hb dX12_prints_10 rfl ?_
      refine lv_lconst (v := 1) hx hb dX12_prints_11 (by decide) ?_
      refine lv_ldc2 (v := 12) hx hb hown hw0 dX12_prints_12 ?_
      obtain ⟨r_4, hr_5, hf⟩ := op_some hf
      refine mq_calli (va_runS (As := [.long (x4.toInt64), .long 1, .long 12]) (rest := []) ⟨hx, hb, hml, hown, hts⟩ (c_X12_in l D ad cy (x4.toInt64) 1 12 g r_4 hr_5) (va_cwS 3 hts gX12_prints_X12_in rfl rfl rfl (by decide +kernel) ⟨Nat.le_of_ble_eq_true rfl, Nat.le_of_ble_eq_true rfl⟩) (mq_preS mm_zOk0 hK hP hI hZ hS) rfl rfl hl.1 rfl (lv_room (Nat.le_of_ble_eq_true rfl)) dX12_prints_15 ⟨Nat.le_refl _, Nat.le_refl _⟩) hS (fun H locs hP hS => ?_)
      refine lv_if_eq (tgt := 41) hx hb dX12_prints_18 (by decide) (fun c_6 => ?_) (fun c_6 => ?_)
      · replace hf := ite_t c_6 hf
        refine lv_iconst (v := (-1)) hx hb dX12_prints_41 (by decide) ?_
        exact mq_iret hx hb hr rfl hlocks hP hS (Option.some.inj hf) rfl dX12_prints_42
      · replace hf := ite_f c_6 hf
        refine lv_aload_n hx hb dX12_prints_21 rfl (lv_at hl 0 rfl) ?_
        refine lv_iload hx hb dX12_prints_22 (lv_at hl 5 rfl) ?_
        obtain ⟨r_7, hr_8, hf⟩ := op_some hf
        refine mq_calli (va_runV (As := [.int x5]) (rest := []) ⟨hx, hb, hml, hown, hts⟩ (c_X12_isPerson l D ad cy x5 g hp r_7 hr_8) (cwV 1 hts gX12_prints_X12_isPerson rfl rfl rfl (by decide +kernel) ⟨Nat.le_of_ble_eq_true rfl, Nat.le_of_ble_eq_true rfl⟩) (mq_preV (q := (RX12, TX12, 26)) mm_zOk0 hK hP hI hZ hS hp rfl) rfl rfl hl.1 rfl (lv_room (Nat.le_of_ble_eq_true rfl)) dX12_prints_24 ⟨Nat.le_refl _, Nat.le_refl _⟩) hS (fun H locs hP hS => ?_)
        refine lv_if_eq (tgt := 41) hx hb dX12_prints_27 (by decide) (fun c_9 => ?_) (fun c_9 => ?_)
        · replace hf := ite_t c_9 hf
          refine lv_iconst (v := (-1)) hx hb dX12_prints_41 (by decide) ?_
          exact mq_iret hx hb hr rfl hlocks hP hS (Option.some.inj hf) rfl dX12_prints_42
        · replace hf := ite_f c_9 hf
          refine lv_iload hx hb dX12_prints_30 (lv_at hl 6 rfl) ?_
          refine lv_i2l hx hb dX12_prints_32 rfl ?_
          refine lv_lconst (v := 0) hx hb dX12_prints_33 (by decide) ?_
          refine lv_lconst (v := 1) hx hb dX12_prints_34 (by decide) ?_
          obtain ⟨r_10, hr_11, hf⟩ := op_some hf
          refine mq_calli (va_runS (As := [.long (x6.toInt64), .long 0, .long 1]) (rest := []) ⟨hx, hb, hml, hown, hts⟩ (c_X12_in l D ad cy (x6.toInt64) 0 1 g r_10 hr_11) (va_cwS 3 hts gX12_prints_X12_in rfl rfl rfl (by decide +kernel) ⟨Nat.le_of_ble_eq_true rfl, Nat.le_of_ble_eq_true rfl⟩) (mq_preS mm_zOk0 hK hP hI hZ hS) rfl rfl hl.1 rfl (lv_room (Nat.le_of_ble_eq_true rfl)) dX12_prints_35 ⟨Nat.le_refl _, Nat.le_refl _⟩) hS (fun H locs hP hS => ?_)
          refine lv_if_ne (tgt := 43) hx hb dX12_prints_38 (by decide) (fun c_12 => ?_) (fun c_12 => ?_)
          · replace hf := ite_f c_12 hf
            refine lv_aload_n hx hb dX12_prints_43 rfl (lv_at hl 0 rfl) ?_
            refine lv_iload_n hx hb dX12_prints_44 rfl (lv_at hl 1 rfl) ?_
            refine lv_iload_n hx hb dX12_prints_45 rfl (lv_at hl 2 rfl) ?_
            refine lv_iload_n hx hb dX12_prints_46 rfl (lv_at hl 3 rfl) ?_
            refine lv_iload hx hb dX12_prints_47 (lv_at hl 4 rfl) ?_
            obtain ⟨r_13, hr_14, hf⟩ := op_some hf
            refine mq_calli (va_runV (As := [.int x1, .int x2, .int x3, .int x4]) (rest := []) ⟨hx, hb, hml, hown, hts⟩ (c_X12_barred l D ad cy x1 x2 x3 x4 g hp r_13 hr_14) (cwV 4 hts gX12_prints_X12_barred rfl rfl rfl (by decide +kernel) ⟨Nat.le_of_ble_eq_true rfl, Nat.le_of_ble_eq_true rfl⟩) (mq_preV (q := (RX12, TX12, 26)) mm_zOk0 hK hP hI hZ hS hp rfl) rfl rfl hl.1 rfl (lv_room (Nat.le_of_ble_eq_true rfl)) dX12_prints_49 ⟨Nat.le_refl _, Nat.le_refl _⟩) hS (fun H locs hP hS => ?_)
            refine lv_istore (lv' := [(7, .int r_13), (0, .ref (ad 0)), (1, .int x1), (2, .int x2), (3, .int x3), (4, .int x4), (5, .int x5), (6, .int x6)]) hx hb dX12_prints_52 hl (by decide) rfl (fun ls hl => ?_)
            refine lv_iload hx hb dX12_prints_54 (lv_at hl 0 rfl) ?_
            refine lv_if_ge (tgt := 62) hx hb dX12_prints_56 (by decide) (fun c_15 => ?_) (fun c_15 => ?_)
            · replace hf := ite_t c_15 hf
              refine lv_iload hx hb dX12_prints_62 (lv_at hl 7 rfl) ?_
              refine lv_if_ne (tgt := 84) hx hb dX12_prints_64 (by decide) (fun c_16 => ?_) (fun c_16 => ?_)
              · replace hf := ite_f c_16 hf
                refine lv_aload_n hx hb dX12_prints_84 rfl (lv_at hl 1 rfl) ?_
                refine lv_bipush (v := 24) hx hb dX12_prints_85 (by decide) ?_
                refine lv_iload_n hx hb dX12_prints_87 rfl (lv_at hl 2 rfl) ?_
                refine lv_imul hx hb dX12_prints_88 ?_
                refine lv_iload_n hx hb dX12_prints_89 rfl (lv_at hl 4 rfl) ?_
                refine lv_iadd hx hb dX12_prints_90 ?_
                refine lv_iload hx hb dX12_prints_91 (lv_at hl 5 rfl) ?_
                obtain ⟨r_17, hr_18, hf⟩ := op_some hf
                refine mq_calli (va_runV (As := [.int ((24 * x1) + x3), .int x4]) (rest := []) ⟨hx, hb, hml, hown, hts⟩ (c_X12_waysOfAll l D ad cy ((24 * x1) + x3) x4 g hp r_17 hr_18) (cwV 2 hts gX12_prints_X12_waysOfAll rfl rfl rfl (by decide +kernel) ⟨Nat.le_of_ble_eq_true rfl, Nat.le_of_ble_eq_true rfl⟩) (mq_preV (q := (RX12, TX12, 26)) mm_zOk0 hK hP hI hZ hS hp rfl) rfl rfl hl.1 rfl (lv_room (Nat.le_of_ble_eq_true rfl)) dX12_prints_93 ⟨Nat.le_refl _, Nat.le_refl _⟩) hS (fun H locs hP hS => ?_)
                exact mq_iret hx hb hr rfl hlocks hP hS (Option.some.inj hf) rfl dX12_prints_96
              · replace hf := ite_t c_16 hf
                refine lv_aload_n hx hb dX12_prints_67 rfl (lv_at hl 1 rfl) ?_
                refine lv_iload hx hb dX12_prints_68 (lv_at hl 6 rfl) ?_
                refine lv_bipush (v := 24) hx hb dX12_prints_70 (by decide) ?_
                refine lv_iload_n hx hb dX12_prints_72 rfl (lv_at hl 2 rfl) ?_
                refine lv_imul hx hb dX12_prints_73 ?_
                refine lv_iload_n hx hb dX12_prints_74 rfl (lv_at hl 4 rfl) ?_
                refine lv_iadd hx hb dX12_prints_75 ?_
                refine lv_iload hx hb dX12_prints_76 (lv_at hl 5 rfl) ?_
                obtain ⟨r_19, hr_20, hf⟩ := op_some hf
                refine mq_calli (va_runV (As := [.int x5, .int ((24 * x1) + x3), .int x4]) (rest := []) ⟨hx, hb, hml, hown, hts⟩ (c_X12_waysOf l D ad cy x5 ((24 * x1) + x3) x4 g hp r_19 hr_20) (cwV 3 hts gX12_prints_X12_waysOf rfl rfl rfl (by decide +kernel) ⟨Nat.le_of_ble_eq_true rfl, Nat.le_of_ble_eq_true rfl⟩) (mq_preV (q := (RX12, TX12, 26)) mm_zOk0 hK hP hI hZ hS hp rfl) rfl rfl hl.1 rfl (lv_room (Nat.le_of_ble_eq_true rfl)) dX12_prints_78 ⟨Nat.le_refl _, Nat.le_refl _⟩) hS (fun H locs hP hS => ?_)
                refine lv_goto (tgt := 96) hx hb dX12_prints_81 (by decide) ?_
                exact mq_iret hx hb hr rfl hlocks hP hS (Option.some.inj hf) rfl dX12_prints_96
            · replace hf := ite_f c_15 hf
              refine lv_iload hx hb dX12_prints_59 (lv_at hl 0 rfl) ?_
              exact mq_iret hx hb hr rfl hlocks hP hS (Option.some.inj hf) rfl dX12_prints_61
          · replace hf := ite_t c_12 hf
            refine lv_iconst (v := (-1)) hx hb dX12_prints_41 (by decide) ?_
            exact mq_iret hx hb hr rfl hlocks hP hS (Option.some.inj hf) rfl dX12_prints_42
  exact hH9 s.heap [] rfl rfl hP hS
abbrev rm_X12_odds : Room := ({ frames := 4, cells := 0, slots := 0, locals := 103 } : Room)
set_option maxHeartbeats 4000000 in
set_option maxRecDepth 100000 in
theorem c_X12_odds (l : Launch) (D : va_G) (ad : Nat → Nat) (cy : Nat → ClassId) (x1 : Int32) (x2 : Int32) (x3 : Int32) (x4 : Int32) (x5 : Int32) (x6 : Int32) (g : Mm) (hp : TM[0]? = some sX12) (r0 : Int32) (hf : f_X12_odds x1 x2 x3 x4 x5 x6 g = some r0) : Met l yX12_odds wsX12_odds rm_X12_odds (va_Pc [.ref (ad 0), .int x1, .int x2, .int x3, .int x4, .int x5, .int x6] (mm_pre mm_Z0 D TM ad cy g)) (mm_Qi D TM ad cy r0 g) 0 0 (mm_A TM ad) := by
  refine Met.ofW (cc := cX12_odds) (maxL := 13) (ret := (some .int)) (by decide) rfl ?_
  intro p e s m args below meth c s₁ B hml hv
  obtain ⟨hargs, hP, hK, hI, hZ⟩ := hv
  have hx := B.exec
  have hb := B.bytes
  have hr := B.returns
  have hts := atoms_spec (ws := wsX12_odds) B.pre
  have hown : s.vm.findClass RX12 = some m.cls := findClass_of_methodNamed B.named
  have hlocks := B.notSynchronized
  have hw0 := hts (.constantLong RX12 243 (12)) (by decide +kernel)
  rw [show entryFrame m args 13 = F0 m 0 ((lg_sl ([.ref (ad 0), .int x1, .int x2, .int x3, .int x4, .int x5, .int x6] : List Value) ++ List.replicate (13 - (lg_sl ([.ref (ad 0), .int x1, .int x2, .int x3, .int x4, .int x5, .int x6] : List Value)).length) Slot.unset).toArray) [] from by rw [hargs]; exact lg_entry_eq m _ _]
  have hl := lv_entry ([.ref (ad 0), .int x1, .int x2, .int x3, .int x4, .int x5, .int x6] : List Value) (n := 13) (by exact Nat.le_of_ble_eq_true rfl)
  generalize (lg_sl ([.ref (ad 0), .int x1, .int x2, .int x3, .int x4, .int x5, .int x6] : List Value) ++ List.replicate (13 - (lg_sl ([.ref (ad 0), .int x1, .int x2, .int x3, .int x4, .int x5, .int x6] : List Value)).length) Slot.unset).toArray = ls at hl ⊢
  have hl : lv_has ls 13 [(0, .ref (ad 0)), (1, .int x1), (2, .int x2), (3, .int x3), (4, .int x4), (5, .int x5), (6, .int x6)] := by exact hl
  have hS : va_S (mm_A TM ad) s.heap s.heap [] := va_S.rf
  clear hargs
  have hc108 : ∀ (n : Nat), ∀ (x8 : Int32) (x9 : Int32) (x10 : Int32) (x11 : Int32) (H : Heap) (locs : List Loc) (ls : Array Slot), va_P D vwCl (mm_L TM ad cy g) H → va_S (mm_A TM ad) s.heap H locs → lv_has ls 13 [(0, .ref (ad 0)), (1, .int x1), (2, .int x2), (3, .int x3), (4, .int x4), (5, .int x5), (6, .int x6), (8, .int x8), (9, .int x9), (10, .int x10), (11, .int x11)] → f_X12_odds_c108 x6 n x8 x9 x10 x11 g = some r0 → W p l e (headSpec wsX12_odds (rm_X12_odds)).room s m args below meth c H locs 0 0 (MQ below (mm_Qi D TM ad cy r0 g) args s 0 0 (mm_A TM ad)) (F0 m 108 ls []) := by
    intro n
    induction n with
    | zero =>
      intro x8 x9 x10 x11 H locs ls hP hS hl hf
      rw [f_X12_odds_c108] at hf
      cases hf
    | succ n ih =>
      intro x8 x9 x10 x11 H locs ls hP hS hl hf
      rw [f_X12_odds_c108] at hf
      refine lv_iload hx hb dX12_odds_108 (lv_at hl 10 rfl) ?_
      refine lv_if_eq (tgt := 131) hx hb dX12_odds_110 (by decide) (fun c_21 => ?_) (fun c_21 => ?_)
      · replace hf := ite_t c_21 hf
        refine lv_iload hx hb dX12_odds_131 (lv_at hl 6 rfl) ?_
        refine lv_if_ne (tgt := 144) hx hb dX12_odds_133 (by decide) (fun c_22 => ?_) (fun c_22 => ?_)
        · replace hf := ite_f c_22 hf
          refine lv_iload hx hb dX12_odds_144 (lv_at hl 8 rfl) ?_
          refine lv_iload hx hb dX12_odds_146 (lv_at hl 9 rfl) ?_
          obtain ⟨h_23, hf⟩ := og_some hf
          refine lv_idiv hx hb dX12_odds_148 (of_decide_eq_true h_23) ?_
          exact mq_iret hx hb hr rfl hlocks hP hS (Option.some.inj hf) rfl dX12_odds_149
        · replace hf := ite_t c_22 hf
          refine lv_iload hx hb dX12_odds_136 (lv_at hl 7 rfl) ?_
          refine lv_iload hx hb dX12_odds_138 (lv_at hl 9 rfl) ?_
          obtain ⟨h_24, hf⟩ := og_some hf
          refine lv_idiv hx hb dX12_odds_140 (of_decide_eq_true h_24) ?_
          refine lv_goto (tgt := 149) hx hb dX12_odds_141 (by decide) ?_
          exact mq_iret hx hb hr rfl hlocks hP hS (Option.some.inj hf) rfl dX12_odds_149
      · replace hf := ite_f c_21 hf
        refine lv_iload hx hb dX12_odds_113 (lv_at hl 9 rfl) ?_
        refine lv_iload hx hb dX12_odds_115 (lv_at hl 10 rfl) ?_
        obtain ⟨h_25, hf⟩ := og_some hf
        refine lv_irem hx hb dX12_odds_117 (of_decide_eq_true h_25) ?_
        obtain ⟨x12_26, ex12_26, hf⟩ := mv_some hf
        refine mq_nm ex12_26 ?_
        refine lv_istore (lv' := [(12, .int x12_26), (0, .ref (ad 0)), (1, .int x1), (2, .int x2), (3, .int x3), (4, .int x4), (5, .int x5), (6, .int x6), (8, .int x8), (9, .int x9), (10, .int x10), (11, .int x11)]) hx hb dX12_odds_118 hl (by decide) rfl (fun ls hl => ?_)
        refine lv_iload hx hb dX12_odds_120 (lv_at hl 11 rfl) ?_
        refine lv_istore (lv' := [(10, .int x11), (12, .int x12_26), (0, .ref (ad 0)), (1, .int x1), (2, .int x2), (3, .int x3), (4, .int x4), (5, .int x5), (6, .int x6), (8, .int x8), (9, .int x9), (11, .int x11)]) hx hb dX12_odds_122 hl (by decide) rfl (fun ls hl => ?_)
        refine lv_iload hx hb dX12_odds_124 (lv_at hl 1 rfl) ?_
        refine lv_istore (lv' := [(11, .int x12_26), (10, .int x11), (12, .int x12_26), (0, .ref (ad 0)), (1, .int x1), (2, .int x2), (3, .int x3), (4, .int x4), (5, .int x5), (6, .int x6), (8, .int x8), (9, .int x9)]) hx hb dX12_odds_126 hl (by decide) rfl (fun ls hl => ?_)
        refine lv_goto (tgt := 108) hx hb dX12_odds_128 (by decide) ?_
        exact ih x8 x9 x11 x12_26 H locs ls hP hS (lv_sub hl [3, 4, 5, 6, 7, 8, 9, 10, 11, 1, 0] rfl) hf
  unfold f_X12_odds at hf
  have hH9 : ∀ (H : Heap) (locs : List Loc), H = s.heap → locs = [] → va_P D vwCl (mm_L TM ad cy g) H → va_S (mm_A TM ad) s.heap H locs → W p l e (headSpec wsX12_odds (rm_X12_odds)).room s m args below meth c H locs 0 0 (MQ below (mm_Qi D TM ad cy r0 g) args s 0 0 (mm_A TM ad)) (F0 m 0 ls []) := by
    intro H locs hH9 hL9 hP hS
    clear hH9 hL9
    refine lv_iload_n hx hb dX12_odds_0 rfl (lv_at hl 1 rfl) ?_
    refine lv_iload_n hx hb dX12_odds_1 rfl (lv_at hl 2 rfl) ?_
    obtain ⟨r_1, hr_2, hf⟩ := op_some hf
    refine mq_calli (va_runS (As := [.int x1, .int x2]) (rest := []) ⟨hx, hb, hml, hown, hts⟩ (c_X12_isSheet l D ad cy x1 x2 g r_1 hr_2) (va_cwS 2 hts gX12_odds_X12_isSheet rfl rfl rfl (by decide +kernel) ⟨Nat.le_of_ble_eq_true rfl, Nat.le_of_ble_eq_true rfl⟩) (mq_preS mm_zOk0 hK hP hI hZ hS) rfl rfl hl.1 rfl (lv_room (Nat.le_of_ble_eq_true rfl)) dX12_odds_2 ⟨Nat.le_refl _, Nat.le_refl _⟩) hS (fun H locs hP hS => ?_)
    refine lv_if_eq (tgt := 41) hx hb dX12_odds_5 (by decide) (fun c_3 => ?_) (fun c_3 => ?_)
    · replace hf := ite_t c_3 hf
      refine lv_iconst (v := (-1)) hx hb dX12_odds_41 (by decide) ?_
      exact mq_iret hx hb hr rfl hlocks hP hS (Option.some.inj hf) rfl dX12_odds_42
    · replace hf := ite_f c_3 hf
      refine lv_iload hx hb dX12_odds_8 (lv_at hl 4 rfl) ?_
      refine lv_i2l hx hb dX12_odds_10 rfl ?_
      refine lv_lconst (v := 1) hx hb dX12_odds_11 (by decide) ?_
      refine lv_ldc2 (v := 12) hx hb hown hw0 dX12_odds_12 ?_
      obtain ⟨r_4, hr_5, hf⟩ := op_some hf
      refine mq_calli (va_runS (As := [.long (x4.toInt64), .long 1, .long 12]) (rest := []) ⟨hx, hb, hml, hown, hts⟩ (c_X12_in l D ad cy (x4.toInt64) 1 12 g r_4 hr_5) (va_cwS 3 hts gX12_odds_X12_in rfl rfl rfl (by decide +kernel) ⟨Nat.le_of_ble_eq_true rfl, Nat.le_of_ble_eq_true rfl⟩) (mq_preS mm_zOk0 hK hP hI hZ hS) rfl rfl hl.1 rfl (lv_room (Nat.le_of_ble_eq_true rfl)) dX12_odds_15 ⟨Nat.le_refl _, Nat.le_refl _⟩) hS (fun H locs hP hS => ?_)
      refine lv_if_eq (tgt := 41) hx hb dX12_odds_18 (by decide) (fun c_6 => ?_) (fun c_6 => ?_)
      · replace hf := ite_t c_6 hf
        refine lv_iconst (v := (-1)) hx hb dX12_odds_41 (by decide) ?_
        exact mq_iret hx hb hr rfl hlocks hP hS (Option.some.inj hf) rfl dX12_odds_42
      · replace hf := ite_f c_6 hf
        refine lv_aload_n hx hb dX12_odds_21 rfl (lv_at hl 0 rfl) ?_
        refine lv_iload hx hb dX12_odds_22 (lv_at hl 5 rfl) ?_
        obtain ⟨r_7, hr_8, hf⟩ := op_some hf
        refine mq_calli (va_runV (As := [.int x5]) (rest := []) ⟨hx, hb, hml, hown, hts⟩ (c_X12_isPerson l D ad cy x5 g hp r_7 hr_8) (cwV 1 hts gX12_odds_X12_isPerson rfl rfl rfl (by decide +kernel) ⟨Nat.le_of_ble_eq_true rfl, Nat.le_of_ble_eq_true rfl⟩) (mq_preV (q := (RX12, TX12, 26)) mm_zOk0 hK hP hI hZ hS hp rfl) rfl rfl hl.1 rfl (lv_room (Nat.le_of_ble_eq_true rfl)) dX12_odds_24 ⟨Nat.le_refl _, Nat.le_refl _⟩) hS (fun H locs hP hS => ?_)
        refine lv_if_eq (tgt := 41) hx hb dX12_odds_27 (by decide) (fun c_9 => ?_) (fun c_9 => ?_)
        · replace hf := ite_t c_9 hf
          refine lv_iconst (v := (-1)) hx hb dX12_odds_41 (by decide) ?_
          exact mq_iret hx hb hr rfl hlocks hP hS (Option.some.inj hf) rfl dX12_odds_42
        · replace hf := ite_f c_9 hf
          refine lv_iload hx hb dX12_odds_30 (lv_at hl 6 rfl) ?_
          refine lv_i2l hx hb dX12_odds_32 rfl ?_
          refine lv_lconst (v := 0) hx hb dX12_odds_33 (by decide) ?_
          refine lv_lconst (v := 1) hx hb dX12_odds_34 (by decide) ?_
          obtain ⟨r_10, hr_11, hf⟩ := op_some hf
          refine mq_calli (va_runS (As := [.long (x6.toInt64), .long 0, .long 1]) (rest := []) ⟨hx, hb, hml, hown, hts⟩ (c_X12_in l D ad cy (x6.toInt64) 0 1 g r_10 hr_11) (va_cwS 3 hts gX12_odds_X12_in rfl rfl rfl (by decide +kernel) ⟨Nat.le_of_ble_eq_true rfl, Nat.le_of_ble_eq_true rfl⟩) (mq_preS mm_zOk0 hK hP hI hZ hS) rfl rfl hl.1 rfl (lv_room (Nat.le_of_ble_eq_true rfl)) dX12_odds_35 ⟨Nat.le_refl _, Nat.le_refl _⟩) hS (fun H locs hP hS => ?_)
          refine lv_if_ne (tgt := 43) hx hb dX12_odds_38 (by decide) (fun c_12 => ?_) (fun c_12 => ?_)
          · replace hf := ite_f c_12 hf
            refine lv_aload_n hx hb dX12_odds_43 rfl (lv_at hl 0 rfl) ?_
            refine lv_iload_n hx hb dX12_odds_44 rfl (lv_at hl 1 rfl) ?_
            refine lv_iload_n hx hb dX12_odds_45 rfl (lv_at hl 2 rfl) ?_
            refine lv_iload_n hx hb dX12_odds_46 rfl (lv_at hl 3 rfl) ?_
            refine lv_iload hx hb dX12_odds_47 (lv_at hl 4 rfl) ?_
            obtain ⟨r_13, hr_14, hf⟩ := op_some hf
            refine mq_calli (va_runV (As := [.int x1, .int x2, .int x3, .int x4]) (rest := []) ⟨hx, hb, hml, hown, hts⟩ (c_X12_barred l D ad cy x1 x2 x3 x4 g hp r_13 hr_14) (cwV 4 hts gX12_odds_X12_barred rfl rfl rfl (by decide +kernel) ⟨Nat.le_of_ble_eq_true rfl, Nat.le_of_ble_eq_true rfl⟩) (mq_preV (q := (RX12, TX12, 26)) mm_zOk0 hK hP hI hZ hS hp rfl) rfl rfl hl.1 rfl (lv_room (Nat.le_of_ble_eq_true rfl)) dX12_odds_49 ⟨Nat.le_refl _, Nat.le_refl _⟩) hS (fun H locs hP hS => ?_)
            refine lv_istore (lv' := [(7, .int r_13), (0, .ref (ad 0)), (1, .int x1), (2, .int x2), (3, .int x3), (4, .int x4), (5, .int x5), (6, .int x6)]) hx hb dX12_odds_52 hl (by decide) rfl (fun ls hl => ?_)
            refine lv_iload hx hb dX12_odds_54 (lv_at hl 0 rfl) ?_
            refine lv_if_ge (tgt := 62) hx hb dX12_odds_56 (by decide) (fun c_15 => ?_) (fun c_15 => ?_)
            · replace hf := ite_t c_15 hf
              refine lv_aload_n hx hb dX12_odds_62 rfl (lv_at hl 1 rfl) ?_
              refine lv_iload hx hb dX12_odds_63 (lv_at hl 6 rfl) ?_
              refine lv_bipush (v := 24) hx hb dX12_odds_65 (by decide) ?_
              refine lv_iload_n hx hb dX12_odds_67 rfl (lv_at hl 2 rfl) ?_
              refine lv_imul hx hb dX12_odds_68 ?_
              refine lv_iload_n hx hb dX12_odds_69 rfl (lv_at hl 4 rfl) ?_
              refine lv_iadd hx hb dX12_odds_70 ?_
              refine lv_iload hx hb dX12_odds_71 (lv_at hl 5 rfl) ?_
              obtain ⟨r_16, hr_17, hf⟩ := op_some hf
              refine mq_calli (va_runV (As := [.int x5, .int ((24 * x1) + x3), .int x4]) (rest := []) ⟨hx, hb, hml, hown, hts⟩ (c_X12_waysOf l D ad cy x5 ((24 * x1) + x3) x4 g hp r_16 hr_17) (cwV 3 hts gX12_odds_X12_waysOf rfl rfl rfl (by decide +kernel) ⟨Nat.le_of_ble_eq_true rfl, Nat.le_of_ble_eq_true rfl⟩) (mq_preV (q := (RX12, TX12, 26)) mm_zOk0 hK hP hI hZ hS hp rfl) rfl rfl hl.1 rfl (lv_room (Nat.le_of_ble_eq_true rfl)) dX12_odds_73 ⟨Nat.le_refl _, Nat.le_refl _⟩) hS (fun H locs hP hS => ?_)
              refine lv_istore (lv' := [(8, .int r_16), (7, .int r_13), (0, .ref (ad 0)), (1, .int x1), (2, .int x2), (3, .int x3), (4, .int x4), (5, .int x5), (6, .int x6)]) hx hb dX12_odds_76 hl (by decide) rfl (fun ls hl => ?_)
              refine lv_aload_n hx hb dX12_odds_78 rfl (lv_at hl 2 rfl) ?_
              refine lv_bipush (v := 24) hx hb dX12_odds_79 (by decide) ?_
              refine lv_iload_n hx hb dX12_odds_81 rfl (lv_at hl 3 rfl) ?_
              refine lv_imul hx hb dX12_odds_82 ?_
              refine lv_iload_n hx hb dX12_odds_83 rfl (lv_at hl 5 rfl) ?_
              refine lv_iadd hx hb dX12_odds_84 ?_
              refine lv_iload hx hb dX12_odds_85 (lv_at hl 6 rfl) ?_
              obtain ⟨r_18, hr_19, hf⟩ := op_some hf
              refine mq_calli (va_runV (As := [.int ((24 * x1) + x3), .int x4]) (rest := []) ⟨hx, hb, hml, hown, hts⟩ (c_X12_waysOfAll l D ad cy ((24 * x1) + x3) x4 g hp r_18 hr_19) (cwV 2 hts gX12_odds_X12_waysOfAll rfl rfl rfl (by decide +kernel) ⟨Nat.le_of_ble_eq_true rfl, Nat.le_of_ble_eq_true rfl⟩) (mq_preV (q := (RX12, TX12, 26)) mm_zOk0 hK hP hI hZ hS hp rfl) rfl rfl hl.1 rfl (lv_room (Nat.le_of_ble_eq_true rfl)) dX12_odds_87 ⟨Nat.le_refl _, Nat.le_refl _⟩) hS (fun H locs hP hS => ?_)
              refine lv_istore (lv' := [(9, .int r_18), (8, .int r_16), (7, .int r_13), (0, .ref (ad 0)), (1, .int x1), (2, .int x2), (3, .int x3), (4, .int x4), (5, .int x5), (6, .int x6)]) hx hb dX12_odds_90 hl (by decide) rfl (fun ls hl => ?_)
              refine lv_iload hx hb dX12_odds_92 (lv_at hl 0 rfl) ?_
              refine lv_if_ne (tgt := 100) hx hb dX12_odds_94 (by decide) (fun c_20 => ?_) (fun c_20 => ?_)
              · replace hf := ite_f c_20 hf
                refine lv_iload hx hb dX12_odds_100 (lv_at hl 1 rfl) ?_
                refine lv_istore (lv' := [(10, .int r_16), (9, .int r_18), (8, .int r_16), (7, .int r_13), (0, .ref (ad 0)), (1, .int x1), (2, .int x2), (3, .int x3), (4, .int x4), (5, .int x5), (6, .int x6)]) hx hb dX12_odds_102 hl (by decide) rfl (fun ls hl => ?_)
                refine lv_iload hx hb dX12_odds_104 (lv_at hl 1 rfl) ?_
                refine lv_istore (lv' := [(11, .int r_18), (10, .int r_16), (9, .int r_18), (8, .int r_16), (7, .int r_13), (0, .ref (ad 0)), (1, .int x1), (2, .int x2), (3, .int x3), (4, .int x4), (5, .int x5), (6, .int x6)]) hx hb dX12_odds_106 hl (by decide) rfl (fun ls hl => ?_)
                exact hc108 FU r_16 r_18 r_16 r_18 H locs ls hP hS (lv_sub hl [5, 6, 7, 8, 9, 10, 11, 3, 2, 1, 0] rfl) hf
              · replace hf := ite_t c_20 hf
                refine lv_bipush (v := (-4)) hx hb dX12_odds_97 (by decide) ?_
                exact mq_iret hx hb hr rfl hlocks hP hS (Option.some.inj hf) rfl dX12_odds_99
            · replace hf := ite_f c_15 hf
              refine lv_iload hx hb dX12_odds_59 (lv_at hl 0 rfl) ?_
              exact mq_iret hx hb hr rfl hlocks hP hS (Option.some.inj hf) rfl dX12_odds_61
          · replace hf := ite_t c_12 hf
            refine lv_iconst (v := (-1)) hx hb dX12_odds_41 (by decide) ?_
            exact mq_iret hx hb hr rfl hlocks hP hS (Option.some.inj hf) rfl dX12_odds_42
  exact hH9 s.heap [] rfl rfl hP hS
abbrev rm_X12_book : Room := ({ frames := 2, cells := 0, slots := 0, locals := 46 } : Room)
set_option maxHeartbeats 4000000 in
set_option maxRecDepth 100000 in
theorem c_X12_book (l : Launch) (D : va_G) (ad : Nat → Nat) (cy : Nat → ClassId) (x1 : Int32) (x2 : Int32) (x3 : Int32) (x4 : Int32) (g : Mm) (hp : TM[0]? = some sX12) (r0 : Int32) (g' : Mm) (hf : f_X12_book x1 x2 x3 x4 g = some (r0, g')) : Met l yX12_book wsX12_book rm_X12_book (va_Pc [.ref (ad 0), .int x1, .int x2, .int x3, .int x4] (mm_pre mm_Z0 D TM ad cy g)) (mm_Qi D TM ad cy r0 g') 0 0 (mm_A TM ad) := by
  refine Met.ofW (cc := cX12_book) (maxL := 9) (ret := (some .int)) (by decide) rfl ?_
  intro p e s m args below meth c s₁ B hml hv
  obtain ⟨hargs, hP, hK, hI, hZ⟩ := hv
  have hx := B.exec
  have hb := B.bytes
  have hr := B.returns
  have hts := atoms_spec (ws := wsX12_book) B.pre
  have hown : s.vm.findClass RX12 = some m.cls := findClass_of_methodNamed B.named
  have hlocks := B.notSynchronized
  have hw0 := hts (.constantLong RX12 243 (12)) (by decide +kernel)
  have hw1 := hts (.fieldLink RX12 25 "LeftShoesModel" "items" "[I") (by decide +kernel)
  have hiX12 : ∀ w ∈ wsX120, w ∈ wsX12_book := by decide +kernel
  have hw3 := hts (.constantLong RX12 81 (99)) (by decide +kernel)
  have hw4 := hts (.fieldLink RX12 64 "LeftShoesModel" "left" "[I") (by decide +kernel)
  have hw5 := hts (.fieldLink RX12 7 "LeftShoesModel" "now" "[I") (by decide +kernel)
  rw [show entryFrame m args 9 = F0 m 0 ((lg_sl ([.ref (ad 0), .int x1, .int x2, .int x3, .int x4] : List Value) ++ List.replicate (9 - (lg_sl ([.ref (ad 0), .int x1, .int x2, .int x3, .int x4] : List Value)).length) Slot.unset).toArray) [] from by rw [hargs]; exact lg_entry_eq m _ _]
  have hl := lv_entry ([.ref (ad 0), .int x1, .int x2, .int x3, .int x4] : List Value) (n := 9) (by exact Nat.le_of_ble_eq_true rfl)
  generalize (lg_sl ([.ref (ad 0), .int x1, .int x2, .int x3, .int x4] : List Value) ++ List.replicate (9 - (lg_sl ([.ref (ad 0), .int x1, .int x2, .int x3, .int x4] : List Value)).length) Slot.unset).toArray = ls at hl ⊢
  have hl : lv_has ls 9 [(0, .ref (ad 0)), (1, .int x1), (2, .int x2), (3, .int x3), (4, .int x4)] := by exact hl
  have hS : va_S (mm_A TM ad) s.heap s.heap [] := va_S.rf
  clear hargs
  have hc80 : ∀ (n : Nat), ∀ (x6 : Int32) (g : Mm) (H : Heap) (locs : List Loc) (ls : Array Slot), va_P D vwCl (mm_L TM ad cy g) H → va_S (mm_A TM ad) s.heap H locs → lv_has ls 9 [(0, .ref (ad 0)), (1, .int x1), (2, .int x2), (3, .int x3), (4, .int x4), (6, .int x6)] → f_X12_book_c80 x1 x3 x4 n x6 g = some (r0, g') → W p l e (headSpec wsX12_book (rm_X12_book)).room s m args below meth c H locs 0 0 (MQ below (mm_Qi D TM ad cy r0 g') args s 0 0 (mm_A TM ad)) (F0 m 80 ls []) := by
    intro n
    induction n with
    | zero =>
      intro x6 g H locs ls hP hS hl hf
      rw [f_X12_book_c80] at hf
      cases hf
    | succ n ih =>
      intro x6 g H locs ls hP hS hl hf
      rw [f_X12_book_c80] at hf
      refine lv_iload hx hb dX12_book_80 (lv_at hl 5 rfl) ?_
      refine lv_iload hx hb dX12_book_82 (lv_at hl 4 rfl) ?_
      refine lv_icmp_ge (tgt := 180) hx hb dX12_book_84 (by decide) (fun c_11 => ?_) (fun c_11 => ?_)
      · replace hf := ite_t c_11 hf
        refine lv_bipush (v := (-4)) hx hb dX12_book_180 (by decide) ?_
        exact mq_iret hx hb hr rfl hlocks hP hS (pr_1 hf) (pr_2 hf) dX12_book_182
      · replace hf := ite_f c_11 hf
        refine lv_aload_n hx hb dX12_book_87 rfl (lv_at hl 0 rfl) ?_
        refine mq_getr (Tt := TX12) (N := 26) (C := RX12) hx hb hts hiX12 hown hK hP hp rfl 7 6 (by decide) rfl hw1 (fun _ h9 => h9) dX12_book_88 ?_
        refine lv_bipush (v := 24) hx hb dX12_book_91 (by decide) ?_
        refine lv_iload_n hx hb dX12_book_93 rfl (lv_at hl 1 rfl) ?_
        refine lv_imul hx hb dX12_book_94 ?_
        refine lv_iload_n hx hb dX12_book_95 rfl (lv_at hl 3 rfl) ?_
        refine lv_iadd hx hb dX12_book_96 ?_
        refine lv_iconst (v := 2) hx hb dX12_book_97 (by decide) ?_
        refine lv_iload hx hb dX12_book_98 (lv_at hl 5 rfl) ?_
        refine lv_imul hx hb dX12_book_100 ?_
        refine lv_iadd hx hb dX12_book_101 ?_
        obtain ⟨h_12, hf⟩ := og_some hf
        refine mq_iald hx hb hK hP (N := 96) (shTM_X12_6 hp) h_12 dX12_book_102 ?_
        obtain ⟨x7_13, ex7_13, hf⟩ := mv_some hf
        refine mq_nm ex7_13 ?_
        refine lv_istore (lv' := [(7, .int x7_13), (0, .ref (ad 0)), (1, .int x1), (2, .int x2), (3, .int x3), (4, .int x4), (6, .int x6)]) hx hb dX12_book_103 hl (by decide) rfl (fun ls hl => ?_)
        refine lv_aload_n hx hb dX12_book_105 rfl (lv_at hl 1 rfl) ?_
        refine mq_getr (Tt := TX12) (N := 26) (C := RX12) hx hb hts hiX12 hown hK hP hp rfl 7 6 (by decide) rfl hw1 (fun _ h9 => h9) dX12_book_106 ?_
        refine lv_bipush (v := 24) hx hb dX12_book_109 (by decide) ?_
        refine lv_iload_n hx hb dX12_book_111 rfl (lv_at hl 2 rfl) ?_
        refine lv_imul hx hb dX12_book_112 ?_
        refine lv_iload_n hx hb dX12_book_113 rfl (lv_at hl 4 rfl) ?_
        refine lv_iadd hx hb dX12_book_114 ?_
        refine lv_iconst (v := 2) hx hb dX12_book_115 (by decide) ?_
        refine lv_iload hx hb dX12_book_116 (lv_at hl 6 rfl) ?_
        refine lv_imul hx hb dX12_book_118 ?_
        refine lv_iadd hx hb dX12_book_119 ?_
        refine lv_iconst (v := 1) hx hb dX12_book_120 (by decide) ?_
        refine lv_iadd hx hb dX12_book_121 ?_
        obtain ⟨h_14, hf⟩ := og_some hf
        refine mq_iald hx hb hK hP (N := 96) (shTM_X12_6 hp) h_14 dX12_book_122 ?_
        obtain ⟨x8_15, ex8_15, hf⟩ := mv_some hf
        refine mq_nm ex8_15 ?_
        refine lv_istore (lv' := [(8, .int x8_15), (7, .int x7_13), (0, .ref (ad 0)), (1, .int x1), (2, .int x2), (3, .int x3), (4, .int x4), (6, .int x6)]) hx hb dX12_book_123 hl (by decide) rfl (fun ls hl => ?_)
        refine lv_aload_n hx hb dX12_book_125 rfl (lv_at hl 2 rfl) ?_
        refine lv_iload hx hb dX12_book_126 (lv_at hl 1 rfl) ?_
        obtain ⟨r_16, hr_17, hf⟩ := op_some hf
        refine mq_calli (va_runV (As := [.int x7_13]) (rest := []) ⟨hx, hb, hml, hown, hts⟩ (c_X12_isShoe l D ad cy x7_13 g hp r_16 hr_17) (cwV 1 hts gX12_book_X12_isShoe rfl rfl rfl (by decide +kernel) ⟨Nat.le_of_ble_eq_true rfl, Nat.le_of_ble_eq_true rfl⟩) (mq_preV (q := (RX12, TX12, 26)) mm_zOk0 hK hP hI hZ hS hp rfl) rfl rfl hl.1 rfl (lv_room (Nat.le_of_ble_eq_true rfl)) dX12_book_128 ⟨Nat.le_refl _, Nat.le_refl _⟩) hS (fun H locs hP hS => ?_)
        refine lv_if_eq (tgt := 159) hx hb dX12_book_131 (by decide) (fun c_18 => ?_) (fun c_18 => ?_)
        · replace hf := ite_t c_18 hf
          refine lv_iload hx hb dX12_book_159 (lv_at hl 7 rfl) ?_
          exact mq_iret hx hb hr rfl hlocks hP hS (pr_1 hf) (pr_2 hf) dX12_book_161
        · replace hf := ite_f c_18 hf
          refine lv_iload hx hb dX12_book_134 (lv_at hl 0 rfl) ?_
          refine lv_i2l hx hb dX12_book_136 rfl ?_
          refine lv_lconst (v := 1) hx hb dX12_book_137 (by decide) ?_
          refine lv_ldc2 (v := 99) hx hb hown hw3 dX12_book_138 ?_
          obtain ⟨r_19, hr_20, hf⟩ := op_some hf
          refine mq_calli (va_runS (As := [.long (x8_15.toInt64), .long 1, .long 99]) (rest := []) ⟨hx, hb, hml, hown, hts⟩ (c_X12_in l D ad cy (x8_15.toInt64) 1 99 g r_19 hr_20) (va_cwS 3 hts gX12_book_X12_in rfl rfl rfl (by decide +kernel) ⟨Nat.le_of_ble_eq_true rfl, Nat.le_of_ble_eq_true rfl⟩) (mq_preS mm_zOk0 hK hP hI hZ hS) rfl rfl hl.1 rfl (lv_room (Nat.le_of_ble_eq_true rfl)) dX12_book_141 ⟨Nat.le_refl _, Nat.le_refl _⟩) hS (fun H locs hP hS => ?_)
          refine lv_if_eq (tgt := 159) hx hb dX12_book_144 (by decide) (fun c_21 => ?_) (fun c_21 => ?_)
          · replace hf := ite_t c_21 hf
            refine lv_iload hx hb dX12_book_159 (lv_at hl 7 rfl) ?_
            exact mq_iret hx hb hr rfl hlocks hP hS (pr_1 hf) (pr_2 hf) dX12_book_161
          · replace hf := ite_f c_21 hf
            refine lv_aload_n hx hb dX12_book_147 rfl (lv_at hl 2 rfl) ?_
            refine mq_getr (Tt := TX12) (N := 26) (C := RX12) hx hb hts hiX12 hown hK hP hp rfl 25 19 (by decide) rfl hw4 (fun _ h9 => h9) dX12_book_148 ?_
            refine lv_iload hx hb dX12_book_151 (lv_at hl 1 rfl) ?_
            obtain ⟨h_22, hf⟩ := og_some hf
            refine mq_iald hx hb hK hP (N := 16) (shTM_X12_19 hp) h_22 dX12_book_153 ?_
            refine lv_iload hx hb dX12_book_154 (lv_at hl 0 rfl) ?_
            refine lv_icmp_ge (tgt := 162) hx hb dX12_book_156 (by decide) (fun c_23 => ?_) (fun c_23 => ?_)
            · replace hf := ite_t c_23 hf
              refine lv_aload_n hx hb dX12_book_162 rfl (lv_at hl 2 rfl) ?_
              refine mq_getr (Tt := TX12) (N := 26) (C := RX12) hx hb hts hiX12 hown hK hP hp rfl 25 19 (by decide) rfl hw4 (fun _ h9 => h9) dX12_book_163 ?_
              refine lv_iload hx hb dX12_book_166 (lv_at hl 1 rfl) ?_
              refine lv_dup2_11 hx hb dX12_book_168 rfl rfl ?_
              obtain ⟨h_24, hf⟩ := og_some hf
              refine mq_iald hx hb hK hP (N := 16) (shTM_X12_19 hp) h_24 dX12_book_169 ?_
              refine lv_iload hx hb dX12_book_170 (lv_at hl 0 rfl) ?_
              refine lv_isub hx hb dX12_book_172 ?_
              obtain ⟨h_25, hf⟩ := og_some hf
              obtain ⟨g_26, eg_26, hf⟩ := mw_some hf
              refine mq_iast hx hb hK hI hP hS (N := 16) (shTM_X12_19 hp) h_25 dX12_book_173 eg_26 (fun H locs hP hS => ?_)
              obtain ⟨x6_27, ex6_27, hf⟩ := mv_some hf
              refine lv_iinc (v := x6_27) (lv' := [(6, .int x6_27), (8, .int x8_15), (7, .int x7_13), (0, .ref (ad 0)), (1, .int x1), (2, .int x2), (3, .int x3), (4, .int x4)]) hx hb dX12_book_174 hl (k := 7) rfl (by rw [ex6_27]; rfl) (by decide) rfl (fun ls hl => ?_)
              refine lv_goto (tgt := 80) hx hb dX12_book_177 (by decide) ?_
              exact ih x6_27 g_26 H locs ls hP hS (lv_sub hl [3, 4, 5, 6, 7, 0] rfl) hf
            · replace hf := ite_f c_23 hf
              refine lv_iload hx hb dX12_book_159 (lv_at hl 7 rfl) ?_
              exact mq_iret hx hb hr rfl hlocks hP hS (pr_1 hf) (pr_2 hf) dX12_book_161
  have hc47 : ∀ (n : Nat), ∀ (x6 : Int32) (g : Mm) (H : Heap) (locs : List Loc) (ls : Array Slot), va_P D vwCl (mm_L TM ad cy g) H → va_S (mm_A TM ad) s.heap H locs → lv_has ls 9 [(0, .ref (ad 0)), (1, .int x1), (2, .int x2), (3, .int x3), (4, .int x4), (6, .int x6)] → f_X12_book_c47 x1 x3 x4 n x6 g = some (r0, g') → W p l e (headSpec wsX12_book (rm_X12_book)).room s m args below meth c H locs 0 0 (MQ below (mm_Qi D TM ad cy r0 g') args s 0 0 (mm_A TM ad)) (F0 m 47 ls []) := by
    intro n
    induction n with
    | zero =>
      intro x6 g H locs ls hP hS hl hf
      rw [f_X12_book_c47] at hf
      cases hf
    | succ n ih =>
      intro x6 g H locs ls hP hS hl hf
      rw [f_X12_book_c47] at hf
      refine lv_iload hx hb dX12_book_47 (lv_at hl 5 rfl) ?_
      refine lv_bipush (v := 16) hx hb dX12_book_49 (by decide) ?_
      refine lv_icmp_ge (tgt := 77) hx hb dX12_book_51 (by decide) (fun c_10 => ?_) (fun c_10 => ?_)
      · replace hf := ite_t c_10 hf
        refine lv_iconst (v := 0) hx hb dX12_book_77 (by decide) ?_
        refine lv_istore (lv' := [(6, .int 0), (0, .ref (ad 0)), (1, .int x1), (2, .int x2), (3, .int x3), (4, .int x4)]) hx hb dX12_book_78 hl (by decide) rfl (fun ls hl => ?_)
        exact hc80 FU 0 g H locs ls hP hS (lv_sub hl [1, 2, 3, 4, 5, 0] rfl) hf
      · replace hf := ite_f c_10 hf
        refine lv_aload_n hx hb dX12_book_54 rfl (lv_at hl 0 rfl) ?_
        refine mq_getr (Tt := TX12) (N := 26) (C := RX12) hx hb hts hiX12 hown hK hP hp rfl 25 19 (by decide) rfl hw4 (fun _ h9 => h9) dX12_book_55 ?_
        refine lv_iload hx hb dX12_book_58 (lv_at hl 5 rfl) ?_
        refine lv_aload_n hx hb dX12_book_60 rfl (lv_at hl 0 rfl) ?_
        refine mq_getr (Tt := TX12) (N := 26) (C := RX12) hx hb hts hiX12 hown hK hP hp rfl 0 1 (by decide) rfl hw5 (fun _ h9 => h9) dX12_book_61 ?_
        refine lv_bipush (v := 63) hx hb dX12_book_64 (by decide) ?_
        refine lv_iload hx hb dX12_book_66 (lv_at hl 5 rfl) ?_
        refine lv_iadd hx hb dX12_book_68 ?_
        obtain ⟨h_28, hf⟩ := og_some hf
        refine mq_iald hx hb hK hP (N := 193) (shTM_X12_1 hp) h_28 dX12_book_69 ?_
        obtain ⟨h_29, hf⟩ := og_some hf
        obtain ⟨g_30, eg_30, hf⟩ := mw_some hf
        refine mq_iast hx hb hK hI hP hS (N := 16) (shTM_X12_19 hp) h_29 dX12_book_70 eg_30 (fun H locs hP hS => ?_)
        obtain ⟨x6_31, ex6_31, hf⟩ := mv_some hf
        refine lv_iinc (v := x6_31) (lv' := [(6, .int x6_31), (0, .ref (ad 0)), (1, .int x1), (2, .int x2), (3, .int x3), (4, .int x4)]) hx hb dX12_book_71 hl (k := 5) rfl (by rw [ex6_31]; rfl) (by decide) rfl (fun ls hl => ?_)
        refine lv_goto (tgt := 47) hx hb dX12_book_74 (by decide) ?_
        exact ih x6_31 g_30 H locs ls hP hS (lv_sub hl [1, 2, 3, 4, 5, 0] rfl) hf
  unfold f_X12_book at hf
  have hH9 : ∀ (H : Heap) (locs : List Loc), H = s.heap → locs = [] → va_P D vwCl (mm_L TM ad cy g) H → va_S (mm_A TM ad) s.heap H locs → W p l e (headSpec wsX12_book (rm_X12_book)).room s m args below meth c H locs 0 0 (MQ below (mm_Qi D TM ad cy r0 g') args s 0 0 (mm_A TM ad)) (F0 m 0 ls []) := by
    intro H locs hH9 hL9 hP hS
    clear hH9 hL9
    refine lv_iload_n hx hb dX12_book_0 rfl (lv_at hl 1 rfl) ?_
    refine lv_iload_n hx hb dX12_book_1 rfl (lv_at hl 2 rfl) ?_
    obtain ⟨r_1, hr_2, hf⟩ := op_some hf
    refine mq_calli (va_runS (As := [.int x1, .int x2]) (rest := []) ⟨hx, hb, hml, hown, hts⟩ (c_X12_isSheet l D ad cy x1 x2 g r_1 hr_2) (va_cwS 2 hts gX12_book_X12_isSheet rfl rfl rfl (by decide +kernel) ⟨Nat.le_of_ble_eq_true rfl, Nat.le_of_ble_eq_true rfl⟩) (mq_preS mm_zOk0 hK hP hI hZ hS) rfl rfl hl.1 rfl (lv_room (Nat.le_of_ble_eq_true rfl)) dX12_book_2 ⟨Nat.le_refl _, Nat.le_refl _⟩) hS (fun H locs hP hS => ?_)
    refine lv_if_eq (tgt := 21) hx hb dX12_book_5 (by decide) (fun c_3 => ?_) (fun c_3 => ?_)
    · replace hf := ite_t c_3 hf
      refine lv_iconst (v := (-1)) hx hb dX12_book_21 (by decide) ?_
      exact mq_iret hx hb hr rfl hlocks hP hS (pr_1 hf) (pr_2 hf) dX12_book_22
    · replace hf := ite_f c_3 hf
      refine lv_iload hx hb dX12_book_8 (lv_at hl 4 rfl) ?_
      refine lv_i2l hx hb dX12_book_10 rfl ?_
      refine lv_lconst (v := 1) hx hb dX12_book_11 (by decide) ?_
      refine lv_ldc2 (v := 12) hx hb hown hw0 dX12_book_12 ?_
      obtain ⟨r_4, hr_5, hf⟩ := op_some hf
      refine mq_calli (va_runS (As := [.long (x4.toInt64), .long 1, .long 12]) (rest := []) ⟨hx, hb, hml, hown, hts⟩ (c_X12_in l D ad cy (x4.toInt64) 1 12 g r_4 hr_5) (va_cwS 3 hts gX12_book_X12_in rfl rfl rfl (by decide +kernel) ⟨Nat.le_of_ble_eq_true rfl, Nat.le_of_ble_eq_true rfl⟩) (mq_preS mm_zOk0 hK hP hI hZ hS) rfl rfl hl.1 rfl (lv_room (Nat.le_of_ble_eq_true rfl)) dX12_book_15 ⟨Nat.le_refl _, Nat.le_refl _⟩) hS (fun H locs hP hS => ?_)
      refine lv_if_ne (tgt := 23) hx hb dX12_book_18 (by decide) (fun c_6 => ?_) (fun c_6 => ?_)
      · replace hf := ite_f c_6 hf
        refine lv_aload_n hx hb dX12_book_23 rfl (lv_at hl 0 rfl) ?_
        refine lv_iload_n hx hb dX12_book_24 rfl (lv_at hl 1 rfl) ?_
        refine lv_iload_n hx hb dX12_book_25 rfl (lv_at hl 2 rfl) ?_
        refine lv_iload_n hx hb dX12_book_26 rfl (lv_at hl 3 rfl) ?_
        refine lv_iconst (v := 2) hx hb dX12_book_27 (by decide) ?_
        refine lv_iload hx hb dX12_book_28 (lv_at hl 4 rfl) ?_
        refine lv_imul hx hb dX12_book_30 ?_
        obtain ⟨r_7, hr_8, hf⟩ := op_some hf
        refine mq_calli (va_runV (As := [.int x1, .int x2, .int x3, .int (2 * x4)]) (rest := []) ⟨hx, hb, hml, hown, hts⟩ (c_X12_found l D ad cy x1 x2 x3 (2 * x4) g hp r_7 hr_8) (cwV 4 hts gX12_book_X12_found rfl rfl rfl (by decide +kernel) ⟨Nat.le_of_ble_eq_true rfl, Nat.le_of_ble_eq_true rfl⟩) (mq_preV (q := (RX12, TX12, 26)) mm_zOk0 hK hP hI hZ hS hp rfl) rfl rfl hl.1 rfl (lv_room (Nat.le_of_ble_eq_true rfl)) dX12_book_31 ⟨Nat.le_refl _, Nat.le_refl _⟩) hS (fun H locs hP hS => ?_)
        refine lv_istore (lv' := [(5, .int r_7), (0, .ref (ad 0)), (1, .int x1), (2, .int x2), (3, .int x3), (4, .int x4)]) hx hb dX12_book_34 hl (by decide) rfl (fun ls hl => ?_)
        refine lv_iload hx hb dX12_book_36 (lv_at hl 0 rfl) ?_
        refine lv_if_ge (tgt := 44) hx hb dX12_book_38 (by decide) (fun c_9 => ?_) (fun c_9 => ?_)
        · replace hf := ite_t c_9 hf
          refine lv_iconst (v := 0) hx hb dX12_book_44 (by decide) ?_
          refine lv_istore (lv' := [(6, .int 0), (5, .int r_7), (0, .ref (ad 0)), (1, .int x1), (2, .int x2), (3, .int x3), (4, .int x4)]) hx hb dX12_book_45 hl (by decide) rfl (fun ls hl => ?_)
          exact hc47 FU 0 g H locs ls hP hS (lv_sub hl [2, 3, 4, 5, 6, 0] rfl) hf
        · replace hf := ite_f c_9 hf
          refine lv_iload hx hb dX12_book_41 (lv_at hl 0 rfl) ?_
          exact mq_iret hx hb hr rfl hlocks hP hS (pr_1 hf) (pr_2 hf) dX12_book_43
      · replace hf := ite_t c_6 hf
        refine lv_iconst (v := (-1)) hx hb dX12_book_21 (by decide) ?_
        exact mq_iret hx hb hr rfl hlocks hP hS (pr_1 hf) (pr_2 hf) dX12_book_22
  exact hH9 s.heap [] rfl rfl hP hS
abbrev rm_X12_sheet : Room := ({ frames := 2, cells := 0, slots := 0, locals := 46 } : Room)
set_option maxHeartbeats 4000000 in
set_option maxRecDepth 100000 in
theorem c_X12_sheet (l : Launch) (D : va_G) (ad : Nat → Nat) (cy : Nat → ClassId) (x1 : Int32) (x2 : Int32) (x3 : Int32) (g : Mm) (hp : TM[0]? = some sX12) (r0 : Int32) (g' : Mm) (hf : f_X12_sheet x1 x2 x3 g = some (r0, g')) : Met l yX12_sheet wsX12_sheet rm_X12_sheet (va_Pc [.ref (ad 0), .int x1, .int x2, .int x3] (mm_pre mm_Z0 D TM ad cy g)) (mm_Qi D TM ad cy r0 g') 0 0 (mm_A TM ad) := by
  refine Met.ofW (cc := cX12_sheet) (maxL := 5) (ret := (some .int)) (by decide) rfl ?_
  intro p e s m args below meth c s₁ B hml hv
  obtain ⟨hargs, hP, hK, hI, hZ⟩ := hv
  have hx := B.exec
  have hb := B.bytes
  have hr := B.returns
  have hts := atoms_spec (ws := wsX12_sheet) B.pre
  have hown : s.vm.findClass RX12 = some m.cls := findClass_of_methodNamed B.named
  have hlocks := B.notSynchronized
  have hw0 := hts (.fieldLink RX12 19 "LeftShoesModel" "sizes" "[I") (by decide +kernel)
  have hiX12 : ∀ w ∈ wsX120, w ∈ wsX12_sheet := by decide +kernel
  have hw2 := hts (.fieldLink RX12 22 "LeftShoesModel" "lanes" "[I") (by decide +kernel)
  have hw3 := hts (.fieldLink RX12 25 "LeftShoesModel" "items" "[I") (by decide +kernel)
  rw [show entryFrame m args 5 = F0 m 0 ((lg_sl ([.ref (ad 0), .int x1, .int x2, .int x3] : List Value) ++ List.replicate (5 - (lg_sl ([.ref (ad 0), .int x1, .int x2, .int x3] : List Value)).length) Slot.unset).toArray) [] from by rw [hargs]; exact lg_entry_eq m _ _]
  have hl := lv_entry ([.ref (ad 0), .int x1, .int x2, .int x3] : List Value) (n := 5) (by exact Nat.le_of_ble_eq_true rfl)
  generalize (lg_sl ([.ref (ad 0), .int x1, .int x2, .int x3] : List Value) ++ List.replicate (5 - (lg_sl ([.ref (ad 0), .int x1, .int x2, .int x3] : List Value)).length) Slot.unset).toArray = ls at hl ⊢
  have hl : lv_has ls 5 [(0, .ref (ad 0)), (1, .int x1), (2, .int x2), (3, .int x3)] := by exact hl
  have hS : va_S (mm_A TM ad) s.heap s.heap [] := va_S.rf
  clear hargs
  have hc40 : ∀ (n : Nat), ∀ (x4 : Int32) (g : Mm) (H : Heap) (locs : List Loc) (ls : Array Slot), va_P D vwCl (mm_L TM ad cy g) H → va_S (mm_A TM ad) s.heap H locs → lv_has ls 5 [(0, .ref (ad 0)), (1, .int x1), (2, .int x2), (3, .int x3), (4, .int x4)] → f_X12_sheet_c40 x1 x3 n x4 g = some (r0, g') → W p l e (headSpec wsX12_sheet (rm_X12_sheet)).room s m args below meth c H locs 0 0 (MQ below (mm_Qi D TM ad cy r0 g') args s 0 0 (mm_A TM ad)) (F0 m 40 ls []) := by
    intro n
    induction n with
    | zero =>
      intro x4 g H locs ls hP hS hl hf
      rw [f_X12_sheet_c40] at hf
      cases hf
    | succ n ih =>
      intro x4 g H locs ls hP hS hl hf
      rw [f_X12_sheet_c40] at hf
      refine lv_iload hx hb dX12_sheet_40 (lv_at hl 4 rfl) ?_
      refine lv_bipush (v := 24) hx hb dX12_sheet_42 (by decide) ?_
      refine lv_icmp_ge (tgt := 66) hx hb dX12_sheet_44 (by decide) (fun c_10 => ?_) (fun c_10 => ?_)
      · replace hf := ite_t c_10 hf
        refine lv_iload_n hx hb dX12_sheet_66 rfl (lv_at hl 3 rfl) ?_
        exact mq_iret hx hb hr rfl hlocks hP hS (pr_1 hf) (pr_2 hf) dX12_sheet_67
      · replace hf := ite_f c_10 hf
        refine lv_aload_n hx hb dX12_sheet_47 rfl (lv_at hl 0 rfl) ?_
        refine mq_getr (Tt := TX12) (N := 26) (C := RX12) hx hb hts hiX12 hown hK hP hp rfl 7 6 (by decide) rfl hw3 (fun _ h9 => h9) dX12_sheet_48 ?_
        refine lv_bipush (v := 24) hx hb dX12_sheet_51 (by decide) ?_
        refine lv_iload_n hx hb dX12_sheet_53 rfl (lv_at hl 1 rfl) ?_
        refine lv_imul hx hb dX12_sheet_54 ?_
        refine lv_iload hx hb dX12_sheet_55 (lv_at hl 4 rfl) ?_
        refine lv_iadd hx hb dX12_sheet_57 ?_
        refine lv_iconst (v := 0) hx hb dX12_sheet_58 (by decide) ?_
        obtain ⟨h_11, hf⟩ := og_some hf
        obtain ⟨g_12, eg_12, hf⟩ := mw_some hf
        refine mq_iast hx hb hK hI hP hS (N := 96) (shTM_X12_6 hp) h_11 dX12_sheet_59 eg_12 (fun H locs hP hS => ?_)
        obtain ⟨x4_13, ex4_13, hf⟩ := mv_some hf
        refine lv_iinc (v := x4_13) (lv' := [(4, .int x4_13), (0, .ref (ad 0)), (1, .int x1), (2, .int x2), (3, .int x3)]) hx hb dX12_sheet_60 hl (k := 4) rfl (by rw [ex4_13]; rfl) (by decide) rfl (fun ls hl => ?_)
        refine lv_goto (tgt := 40) hx hb dX12_sheet_63 (by decide) ?_
        exact ih x4_13 g_12 H locs ls hP hS (lv_sub hl [1, 2, 3, 4, 0] rfl) hf
  unfold f_X12_sheet at hf
  have hH9 : ∀ (H : Heap) (locs : List Loc), H = s.heap → locs = [] → va_P D vwCl (mm_L TM ad cy g) H → va_S (mm_A TM ad) s.heap H locs → W p l e (headSpec wsX12_sheet (rm_X12_sheet)).room s m args below meth c H locs 0 0 (MQ below (mm_Qi D TM ad cy r0 g') args s 0 0 (mm_A TM ad)) (F0 m 0 ls []) := by
    intro H locs hH9 hL9 hP hS
    clear hH9 hL9
    refine lv_iload_n hx hb dX12_sheet_0 rfl (lv_at hl 1 rfl) ?_
    refine lv_iload_n hx hb dX12_sheet_1 rfl (lv_at hl 2 rfl) ?_
    obtain ⟨r_1, hr_2, hf⟩ := op_some hf
    refine mq_calli (va_runS (As := [.int x1, .int x2]) (rest := []) ⟨hx, hb, hml, hown, hts⟩ (c_X12_isSheet l D ad cy x1 x2 g r_1 hr_2) (va_cwS 2 hts gX12_sheet_X12_isSheet rfl rfl rfl (by decide +kernel) ⟨Nat.le_of_ble_eq_true rfl, Nat.le_of_ble_eq_true rfl⟩) (mq_preS mm_zOk0 hK hP hI hZ hS) rfl rfl hl.1 rfl (lv_room (Nat.le_of_ble_eq_true rfl)) dX12_sheet_2 ⟨Nat.le_refl _, Nat.le_refl _⟩) hS (fun H locs hP hS => ?_)
    refine lv_if_eq (tgt := 14) hx hb dX12_sheet_5 (by decide) (fun c_3 => ?_) (fun c_3 => ?_)
    · replace hf := ite_t c_3 hf
      refine lv_iconst (v := (-1)) hx hb dX12_sheet_14 (by decide) ?_
      exact mq_iret hx hb hr rfl hlocks hP hS (pr_1 hf) (pr_2 hf) dX12_sheet_15
    · replace hf := ite_f c_3 hf
      refine lv_iload_n hx hb dX12_sheet_8 rfl (lv_at hl 3 rfl) ?_
      refine lv_bipush (v := 24) hx hb dX12_sheet_9 (by decide) ?_
      refine lv_icmp_le (tgt := 16) hx hb dX12_sheet_11 (by decide) (fun c_4 => ?_) (fun c_4 => ?_)
      · replace hf := ite_t c_4 hf
        refine lv_iload_n hx hb dX12_sheet_16 rfl (lv_at hl 3 rfl) ?_
        refine lv_if_ge (tgt := 23) hx hb dX12_sheet_17 (by decide) (fun c_5 => ?_) (fun c_5 => ?_)
        · replace hf := ite_t c_5 hf
          refine lv_aload_n hx hb dX12_sheet_23 rfl (lv_at hl 0 rfl) ?_
          refine mq_getr (Tt := TX12) (N := 26) (C := RX12) hx hb hts hiX12 hown hK hP hp rfl 5 4 (by decide) rfl hw0 (fun _ h9 => h9) dX12_sheet_24 ?_
          refine lv_iload_n hx hb dX12_sheet_27 rfl (lv_at hl 1 rfl) ?_
          refine lv_iload_n hx hb dX12_sheet_28 rfl (lv_at hl 3 rfl) ?_
          obtain ⟨h_6, hf⟩ := og_some hf
          obtain ⟨g_7, eg_7, hf⟩ := mw_some hf
          refine mq_iast hx hb hK hI hP hS (N := 4) (shTM_X12_4 hp) h_6 dX12_sheet_29 eg_7 (fun H locs hP hS => ?_)
          refine lv_aload_n hx hb dX12_sheet_30 rfl (lv_at hl 0 rfl) ?_
          refine mq_getr (Tt := TX12) (N := 26) (C := RX12) hx hb hts hiX12 hown hK hP hp rfl 6 5 (by decide) rfl hw2 (fun _ h9 => h9) dX12_sheet_31 ?_
          refine lv_iload_n hx hb dX12_sheet_34 rfl (lv_at hl 1 rfl) ?_
          refine lv_iload_n hx hb dX12_sheet_35 rfl (lv_at hl 2 rfl) ?_
          obtain ⟨h_8, hf⟩ := og_some hf
          obtain ⟨g_9, eg_9, hf⟩ := mw_some hf
          refine mq_iast hx hb hK hI hP hS (N := 4) (shTM_X12_5 hp) h_8 dX12_sheet_36 eg_9 (fun H locs hP hS => ?_)
          refine lv_iconst (v := 0) hx hb dX12_sheet_37 (by decide) ?_
          refine lv_istore (lv' := [(4, .int 0), (0, .ref (ad 0)), (1, .int x1), (2, .int x2), (3, .int x3)]) hx hb dX12_sheet_38 hl (by decide) rfl (fun ls hl => ?_)
          exact hc40 FU 0 g_9 H locs ls hP hS (lv_sub hl [1, 2, 3, 4, 0] rfl) hf
        · replace hf := ite_f c_5 hf
          refine lv_bipush (v := (-14)) hx hb dX12_sheet_20 (by decide) ?_
          exact mq_iret hx hb hr rfl hlocks hP hS (pr_1 hf) (pr_2 hf) dX12_sheet_22
      · replace hf := ite_f c_4 hf
        refine lv_iconst (v := (-1)) hx hb dX12_sheet_14 (by decide) ?_
        exact mq_iret hx hb hr rfl hlocks hP hS (pr_1 hf) (pr_2 hf) dX12_sheet_15
  exact hH9 s.heap [] rfl rfl hP hS
abbrev rm_X12_drop : Room := ({ frames := 1, cells := 0, slots := 0, locals := 25 } : Room)
set_option maxHeartbeats 4000000 in
set_option maxRecDepth 100000 in
theorem c_X12_drop (l : Launch) (D : va_G) (ad : Nat → Nat) (cy : Nat → ClassId) (x1 : Int32) (g : Mm) (hp : TM[0]? = some sX12) (r0 : Int32) (g' : Mm) (hf : f_X12_drop x1 g = some (r0, g')) : Met l yX12_drop wsX12_drop rm_X12_drop (va_Pc [.ref (ad 0), .int x1] (mm_pre mm_Z0 D TM ad cy g)) (mm_Qi D TM ad cy r0 g') 0 0 (mm_A TM ad) := by
  refine Met.ofW (cc := cX12_drop) (maxL := 3) (ret := (some .int)) (by decide) rfl ?_
  intro p e s m args below meth c s₁ B hml hv
  obtain ⟨hargs, hP, hK, hI, hZ⟩ := hv
  have hx := B.exec
  have hb := B.bytes
  have hr := B.returns
  have hts := atoms_spec (ws := wsX12_drop) B.pre
  have hown : s.vm.findClass RX12 = some m.cls := findClass_of_methodNamed B.named
  have hlocks := B.notSynchronized
  have hw0 := hts (.constantLong RX12 79 (3)) (by decide +kernel)
  have hw1 := hts (.fieldLink RX12 19 "LeftShoesModel" "sizes" "[I") (by decide +kernel)
  have hiX12 : ∀ w ∈ wsX120, w ∈ wsX12_drop := by decide +kernel
  rw [show entryFrame m args 3 = F0 m 0 ((lg_sl ([.ref (ad 0), .int x1] : List Value) ++ List.replicate (3 - (lg_sl ([.ref (ad 0), .int x1] : List Value)).length) Slot.unset).toArray) [] from by rw [hargs]; exact lg_entry_eq m _ _]
  have hl := lv_entry ([.ref (ad 0), .int x1] : List Value) (n := 3) (by exact Nat.le_of_ble_eq_true rfl)
  generalize (lg_sl ([.ref (ad 0), .int x1] : List Value) ++ List.replicate (3 - (lg_sl ([.ref (ad 0), .int x1] : List Value)).length) Slot.unset).toArray = ls at hl ⊢
  have hl : lv_has ls 3 [(0, .ref (ad 0)), (1, .int x1)] := by exact hl
  have hS : va_S (mm_A TM ad) s.heap s.heap [] := va_S.rf
  clear hargs
  unfold f_X12_drop at hf
  have hH9 : ∀ (H : Heap) (locs : List Loc), H = s.heap → locs = [] → va_P D vwCl (mm_L TM ad cy g) H → va_S (mm_A TM ad) s.heap H locs → W p l e (headSpec wsX12_drop (rm_X12_drop)).room s m args below meth c H locs 0 0 (MQ below (mm_Qi D TM ad cy r0 g') args s 0 0 (mm_A TM ad)) (F0 m 0 ls []) := by
    intro H locs hH9 hL9 hP hS
    clear hH9 hL9
    refine lv_iload_n hx hb dX12_drop_0 rfl (lv_at hl 1 rfl) ?_
    refine lv_i2l hx hb dX12_drop_1 rfl ?_
    refine lv_lconst (v := 0) hx hb dX12_drop_2 (by decide) ?_
    refine lv_ldc2 (v := 3) hx hb hown hw0 dX12_drop_3 ?_
    obtain ⟨r_1, hr_2, hf⟩ := op_some hf
    refine mq_calli (va_runS (As := [.long (x1.toInt64), .long 0, .long 3]) (rest := []) ⟨hx, hb, hml, hown, hts⟩ (c_X12_in l D ad cy (x1.toInt64) 0 3 g r_1 hr_2) (va_cwS 3 hts gX12_drop_X12_in rfl rfl rfl (by decide +kernel) ⟨Nat.le_of_ble_eq_true rfl, Nat.le_of_ble_eq_true rfl⟩) (mq_preS mm_zOk0 hK hP hI hZ hS) rfl rfl hl.1 rfl (lv_room (Nat.le_of_ble_eq_true rfl)) dX12_drop_6 ⟨Nat.le_refl _, Nat.le_refl _⟩) hS (fun H locs hP hS => ?_)
    refine lv_if_ne (tgt := 14) hx hb dX12_drop_9 (by decide) (fun c_3 => ?_) (fun c_3 => ?_)
    · replace hf := ite_f c_3 hf
      refine lv_aload_n hx hb dX12_drop_14 rfl (lv_at hl 0 rfl) ?_
      refine mq_getr (Tt := TX12) (N := 26) (C := RX12) hx hb hts hiX12 hown hK hP hp rfl 5 4 (by decide) rfl hw1 (fun _ h9 => h9) dX12_drop_15 ?_
      refine lv_iload_n hx hb dX12_drop_18 rfl (lv_at hl 1 rfl) ?_
      obtain ⟨h_4, hf⟩ := og_some hf
      refine mq_iald hx hb hK hP (N := 4) (shTM_X12_4 hp) h_4 dX12_drop_19 ?_
      refine lv_if_ge (tgt := 26) hx hb dX12_drop_20 (by decide) (fun c_5 => ?_) (fun c_5 => ?_)
      · replace hf := ite_t c_5 hf
        refine lv_aload_n hx hb dX12_drop_26 rfl (lv_at hl 0 rfl) ?_
        refine mq_getr (Tt := TX12) (N := 26) (C := RX12) hx hb hts hiX12 hown hK hP hp rfl 5 4 (by decide) rfl hw1 (fun _ h9 => h9) dX12_drop_27 ?_
        refine lv_iload_n hx hb dX12_drop_30 rfl (lv_at hl 1 rfl) ?_
        obtain ⟨h_6, hf⟩ := og_some hf
        refine mq_iald hx hb hK hP (N := 4) (shTM_X12_4 hp) h_6 dX12_drop_31 ?_
        obtain ⟨x2_7, ex2_7, hf⟩ := mv_some hf
        refine mq_nm ex2_7 ?_
        refine lv_istore_n (lv' := [(2, .int x2_7), (0, .ref (ad 0)), (1, .int x1)]) hx hb dX12_drop_32 rfl hl (by decide) rfl (fun ls hl => ?_)
        refine lv_aload_n hx hb dX12_drop_33 rfl (lv_at hl 1 rfl) ?_
        refine mq_getr (Tt := TX12) (N := 26) (C := RX12) hx hb hts hiX12 hown hK hP hp rfl 5 4 (by decide) rfl hw1 (fun _ h9 => h9) dX12_drop_34 ?_
        refine lv_iload_n hx hb dX12_drop_37 rfl (lv_at hl 2 rfl) ?_
        refine lv_iconst (v := (-1)) hx hb dX12_drop_38 (by decide) ?_
        obtain ⟨h_8, hf⟩ := og_some hf
        obtain ⟨g_9, eg_9, hf⟩ := mw_some hf
        refine mq_iast hx hb hK hI hP hS (N := 4) (shTM_X12_4 hp) h_8 dX12_drop_39 eg_9 (fun H locs hP hS => ?_)
        refine lv_iload_n hx hb dX12_drop_40 rfl (lv_at hl 0 rfl) ?_
        exact mq_iret hx hb hr rfl hlocks hP hS (pr_1 hf) (pr_2 hf) dX12_drop_41
      · replace hf := ite_f c_5 hf
        refine lv_bipush (v := (-11)) hx hb dX12_drop_23 (by decide) ?_
        exact mq_iret hx hb hr rfl hlocks hP hS (pr_1 hf) (pr_2 hf) dX12_drop_25
    · replace hf := ite_t c_3 hf
      refine lv_iconst (v := (-1)) hx hb dX12_drop_12 (by decide) ?_
      exact mq_iret hx hb hr rfl hlocks hP hS (pr_1 hf) (pr_2 hf) dX12_drop_13
  exact hH9 s.heap [] rfl rfl hP hS
abbrev rm_X12_item : Room := ({ frames := 2, cells := 0, slots := 0, locals := 46 } : Room)
set_option maxHeartbeats 4000000 in
set_option maxRecDepth 100000 in
theorem c_X12_item (l : Launch) (D : va_G) (ad : Nat → Nat) (cy : Nat → ClassId) (x1 : Int32) (x2 : Int32) (x3 : Int32) (x4 : Int32) (g : Mm) (hp : TM[0]? = some sX12) (r0 : Int32) (g' : Mm) (hf : f_X12_item x1 x2 x3 x4 g = some (r0, g')) : Met l yX12_item wsX12_item rm_X12_item (va_Pc [.ref (ad 0), .int x1, .int x2, .int x3, .int x4] (mm_pre mm_Z0 D TM ad cy g)) (mm_Qi D TM ad cy r0 g') 0 0 (mm_A TM ad) := by
  refine Met.ofW (cc := cX12_item) (maxL := 6) (ret := (some .int)) (by decide) rfl ?_
  intro p e s m args below meth c s₁ B hml hv
  obtain ⟨hargs, hP, hK, hI, hZ⟩ := hv
  have hx := B.exec
  have hb := B.bytes
  have hr := B.returns
  have hts := atoms_spec (ws := wsX12_item) B.pre
  have hown : s.vm.findClass RX12 = some m.cls := findClass_of_methodNamed B.named
  have hlocks := B.notSynchronized
  have hw0 := hts (.fieldLink RX12 25 "LeftShoesModel" "items" "[I") (by decide +kernel)
  have hiX12 : ∀ w ∈ wsX120, w ∈ wsX12_item := by decide +kernel
  rw [show entryFrame m args 6 = F0 m 0 ((lg_sl ([.ref (ad 0), .int x1, .int x2, .int x3, .int x4] : List Value) ++ List.replicate (6 - (lg_sl ([.ref (ad 0), .int x1, .int x2, .int x3, .int x4] : List Value)).length) Slot.unset).toArray) [] from by rw [hargs]; exact lg_entry_eq m _ _]
  have hl := lv_entry ([.ref (ad 0), .int x1, .int x2, .int x3, .int x4] : List Value) (n := 6) (by exact Nat.le_of_ble_eq_true rfl)
  generalize (lg_sl ([.ref (ad 0), .int x1, .int x2, .int x3, .int x4] : List Value) ++ List.replicate (6 - (lg_sl ([.ref (ad 0), .int x1, .int x2, .int x3, .int x4] : List Value)).length) Slot.unset).toArray = ls at hl ⊢
  have hl : lv_has ls 6 [(0, .ref (ad 0)), (1, .int x1), (2, .int x2), (3, .int x3), (4, .int x4)] := by exact hl
  have hS : va_S (mm_A TM ad) s.heap s.heap [] := va_S.rf
  clear hargs
  have hc61 : ∀ (sq0 : Nat) (sx1 : Int32) (sx2 : Int32) (g : Mm) (H : Heap) (locs : List Loc) (ls : Array Slot), TM[sq0]? = some (.inr (96, 0, none) : Shp) → va_P D vwCl (mm_L TM ad cy g) H → va_S (mm_A TM ad) s.heap H locs → lv_has ls 6 [(0, .ref (ad 0)), (1, .int x1), (2, .int x2), (3, .int x3), (4, .int x4)] → f_X12_item_c61 sq0 sx1 sx2 g = some (r0, g') → W p l e (headSpec wsX12_item (rm_X12_item)).room s m args below meth c H locs 0 0 (MQ below (mm_Qi D TM ad cy r0 g') args s 0 0 (mm_A TM ad)) (F0 m 61 ls [.int sx2, .int sx1, .ref (ad sq0)]) := by
    intro sq0 sx1 sx2 g H locs ls hsq0 hP hS hl hf
    unfold f_X12_item_c61 at hf
    obtain ⟨h_9, hf⟩ := og_some hf
    obtain ⟨g_10, eg_10, hf⟩ := mw_some hf
    refine mq_iast hx hb hK hI hP hS (N := 96) hsq0 h_9 dX12_item_61 eg_10 (fun H locs hP hS => ?_)
    refine lv_iconst (v := 1) hx hb dX12_item_62 (by decide) ?_
    exact mq_iret hx hb hr rfl hlocks hP hS (pr_1 hf) (pr_2 hf) dX12_item_63
  unfold f_X12_item at hf
  have hH9 : ∀ (H : Heap) (locs : List Loc), H = s.heap → locs = [] → va_P D vwCl (mm_L TM ad cy g) H → va_S (mm_A TM ad) s.heap H locs → W p l e (headSpec wsX12_item (rm_X12_item)).room s m args below meth c H locs 0 0 (MQ below (mm_Qi D TM ad cy r0 g') args s 0 0 (mm_A TM ad)) (F0 m 0 ls []) := by
    intro H locs hH9 hL9 hP hS
    clear hH9 hL9
    refine lv_iload_n hx hb dX12_item_0 rfl (lv_at hl 1 rfl) ?_
    refine lv_iload_n hx hb dX12_item_1 rfl (lv_at hl 2 rfl) ?_
    obtain ⟨r_1, hr_2, hf⟩ := op_some hf
    refine mq_calli (va_runS (As := [.int x1, .int x2]) (rest := []) ⟨hx, hb, hml, hown, hts⟩ (c_X12_isSheet l D ad cy x1 x2 g r_1 hr_2) (va_cwS 2 hts gX12_item_X12_isSheet rfl rfl rfl (by decide +kernel) ⟨Nat.le_of_ble_eq_true rfl, Nat.le_of_ble_eq_true rfl⟩) (mq_preS mm_zOk0 hK hP hI hZ hS) rfl rfl hl.1 rfl (lv_room (Nat.le_of_ble_eq_true rfl)) dX12_item_2 ⟨Nat.le_refl _, Nat.le_refl _⟩) hS (fun H locs hP hS => ?_)
    refine lv_if_ne (tgt := 10) hx hb dX12_item_5 (by decide) (fun c_3 => ?_) (fun c_3 => ?_)
    · replace hf := ite_f c_3 hf
      refine lv_aload_n hx hb dX12_item_10 rfl (lv_at hl 0 rfl) ?_
      refine lv_iload_n hx hb dX12_item_11 rfl (lv_at hl 1 rfl) ?_
      refine lv_iload_n hx hb dX12_item_12 rfl (lv_at hl 2 rfl) ?_
      refine lv_iload_n hx hb dX12_item_13 rfl (lv_at hl 3 rfl) ?_
      refine lv_iconst (v := 1) hx hb dX12_item_14 (by decide) ?_
      obtain ⟨r_4, hr_5, hf⟩ := op_some hf
      refine mq_calli (va_runV (As := [.int x1, .int x2, .int x3, .int 1]) (rest := []) ⟨hx, hb, hml, hown, hts⟩ (c_X12_found l D ad cy x1 x2 x3 1 g hp r_4 hr_5) (cwV 4 hts gX12_item_X12_found rfl rfl rfl (by decide +kernel) ⟨Nat.le_of_ble_eq_true rfl, Nat.le_of_ble_eq_true rfl⟩) (mq_preV (q := (RX12, TX12, 26)) mm_zOk0 hK hP hI hZ hS hp rfl) rfl rfl hl.1 rfl (lv_room (Nat.le_of_ble_eq_true rfl)) dX12_item_15 ⟨Nat.le_refl _, Nat.le_refl _⟩) hS (fun H locs hP hS => ?_)
      refine lv_istore (lv' := [(5, .int r_4), (0, .ref (ad 0)), (1, .int x1), (2, .int x2), (3, .int x3), (4, .int x4)]) hx hb dX12_item_18 hl (by decide) rfl (fun ls hl => ?_)
      refine lv_iload hx hb dX12_item_20 (lv_at hl 0 rfl) ?_
      refine lv_if_ge (tgt := 28) hx hb dX12_item_22 (by decide) (fun c_6 => ?_) (fun c_6 => ?_)
      · replace hf := ite_t c_6 hf
        refine lv_aload_n hx hb dX12_item_28 rfl (lv_at hl 1 rfl) ?_
        refine mq_getr (Tt := TX12) (N := 26) (C := RX12) hx hb hts hiX12 hown hK hP hp rfl 7 6 (by decide) rfl hw0 (fun _ h9 => h9) dX12_item_29 ?_
        refine lv_bipush (v := 24) hx hb dX12_item_32 (by decide) ?_
        refine lv_iload_n hx hb dX12_item_34 rfl (lv_at hl 2 rfl) ?_
        refine lv_imul hx hb dX12_item_35 ?_
        refine lv_iload_n hx hb dX12_item_36 rfl (lv_at hl 4 rfl) ?_
        refine lv_iadd hx hb dX12_item_37 ?_
        refine lv_iload_n hx hb dX12_item_38 rfl (lv_at hl 3 rfl) ?_
        refine lv_if_ne (tgt := 48) hx hb dX12_item_39 (by decide) (fun c_7 => ?_) (fun c_7 => ?_)
        · replace hf := ite_f c_7 hf
          refine lv_iload_n hx hb dX12_item_48 rfl (lv_at hl 3 rfl) ?_
          refine lv_iconst (v := 1) hx hb dX12_item_49 (by decide) ?_
          refine lv_icmp_ne (tgt := 59) hx hb dX12_item_50 (by decide) (fun c_8 => ?_) (fun c_8 => ?_)
          · replace hf := ite_f c_8 hf
            refine lv_iload hx hb dX12_item_59 (lv_at hl 5 rfl) ?_
            exact hc61 6 ((24 * x1) + x3) x4 g H locs ls (shTM_X12_6 hp) hP hS (lv_sub hl [1, 2, 3, 4, 5] rfl) hf
          · replace hf := ite_t c_8 hf
            refine lv_iload hx hb dX12_item_53 (lv_at hl 5 rfl) ?_
            refine lv_i2s hx hb dX12_item_55 rfl ?_
            refine lv_goto (tgt := 61) hx hb dX12_item_56 (by decide) ?_
            exact hc61 6 ((24 * x1) + x3) (x4.toInt16.toInt32) g H locs ls (shTM_X12_6 hp) hP hS (lv_sub hl [1, 2, 3, 4, 5] rfl) hf
        · replace hf := ite_t c_7 hf
          refine lv_iload hx hb dX12_item_42 (lv_at hl 5 rfl) ?_
          refine lv_i2b hx hb dX12_item_44 rfl ?_
          refine lv_goto (tgt := 61) hx hb dX12_item_45 (by decide) ?_
          exact hc61 6 ((24 * x1) + x3) (x4.toInt8.toInt32) g H locs ls (shTM_X12_6 hp) hP hS (lv_sub hl [1, 2, 3, 4, 5] rfl) hf
      · replace hf := ite_f c_6 hf
        refine lv_iload hx hb dX12_item_25 (lv_at hl 0 rfl) ?_
        exact mq_iret hx hb hr rfl hlocks hP hS (pr_1 hf) (pr_2 hf) dX12_item_27
    · replace hf := ite_t c_3 hf
      refine lv_iconst (v := (-1)) hx hb dX12_item_8 (by decide) ?_
      exact mq_iret hx hb hr rfl hlocks hP hS (pr_1 hf) (pr_2 hf) dX12_item_9
  exact hH9 s.heap [] rfl rfl hP hS
abbrev rm_X12_copy : Room := ({ frames := 1, cells := 0, slots := 0, locals := 25 } : Room)
set_option maxHeartbeats 4000000 in
set_option maxRecDepth 100000 in
theorem c_X12_copy (l : Launch) (D : va_G) (ad : Nat → Nat) (cy : Nat → ClassId) (x1 : Int32) (x2 : Int32) (x3 : Int32) (x4 : Int32) (x5 : Int32) (g : Mm) (hp : TM[0]? = some sX12) (r0 : Int32) (g' : Mm) (hf : f_X12_copy x1 x2 x3 x4 x5 g = some (r0, g')) : Met l yX12_copy wsX12_copy rm_X12_copy (va_Pc [.ref (ad 0), .int x1, .int x2, .int x3, .int x4, .int x5] (mm_pre mm_Z0 D TM ad cy g)) (mm_Qi D TM ad cy r0 g') 0 0 (mm_A TM ad) := by
  refine Met.ofW (cc := cX12_copy) (maxL := 8) (ret := (some .int)) (by decide) rfl ?_
  intro p e s m args below meth c s₁ B hml hv
  obtain ⟨hargs, hP, hK, hI, hZ⟩ := hv
  have hx := B.exec
  have hb := B.bytes
  have hr := B.returns
  have hts := atoms_spec (ws := wsX12_copy) B.pre
  have hown : s.vm.findClass RX12 = some m.cls := findClass_of_methodNamed B.named
  have hlocks := B.notSynchronized
  have hw0 := hts (.constantLong RX12 79 (3)) (by decide +kernel)
  have hw1 := hts (.fieldLink RX12 19 "LeftShoesModel" "sizes" "[I") (by decide +kernel)
  have hiX12 : ∀ w ∈ wsX120, w ∈ wsX12_copy := by decide +kernel
  have hw3 := hts (.fieldLink RX12 22 "LeftShoesModel" "lanes" "[I") (by decide +kernel)
  have hw4 := hts (.fieldLink RX12 25 "LeftShoesModel" "items" "[I") (by decide +kernel)
  rw [show entryFrame m args 8 = F0 m 0 ((lg_sl ([.ref (ad 0), .int x1, .int x2, .int x3, .int x4, .int x5] : List Value) ++ List.replicate (8 - (lg_sl ([.ref (ad 0), .int x1, .int x2, .int x3, .int x4, .int x5] : List Value)).length) Slot.unset).toArray) [] from by rw [hargs]; exact lg_entry_eq m _ _]
  have hl := lv_entry ([.ref (ad 0), .int x1, .int x2, .int x3, .int x4, .int x5] : List Value) (n := 8) (by exact Nat.le_of_ble_eq_true rfl)
  generalize (lg_sl ([.ref (ad 0), .int x1, .int x2, .int x3, .int x4, .int x5] : List Value) ++ List.replicate (8 - (lg_sl ([.ref (ad 0), .int x1, .int x2, .int x3, .int x4, .int x5] : List Value)).length) Slot.unset).toArray = ls at hl ⊢
  have hl : lv_has ls 8 [(0, .ref (ad 0)), (1, .int x1), (2, .int x2), (3, .int x3), (4, .int x4), (5, .int x5)] := by exact hl
  have hS : va_S (mm_A TM ad) s.heap s.heap [] := va_S.rf
  clear hargs
  have hc136 : ∀ (K_111 : Int32 → Mm → Option (Int32 × Mm)), (∀ (x6 : Int32) (g : Mm) (H : Heap) (locs : List Loc) (ls : Array Slot), va_P D vwCl (mm_L TM ad cy g) H → va_S (mm_A TM ad) s.heap H locs → lv_has ls 8 [(0, .ref (ad 0)), (1, .int x1), (2, .int x2), (3, .int x3), (4, .int x4), (5, .int x5), (6, .int x6)] → K_111 x6 g = some (r0, g') → W p l e (headSpec wsX12_copy (rm_X12_copy)).room s m args below meth c H locs 0 0 (MQ below (mm_Qi D TM ad cy r0 g') args s 0 0 (mm_A TM ad)) (F0 m 111 ls [])) → ∀ (x6 : Int32) (sx0 : Int32) (g : Mm) (H : Heap) (locs : List Loc) (ls : Array Slot), va_P D vwCl (mm_L TM ad cy g) H → va_S (mm_A TM ad) s.heap H locs → lv_has ls 8 [(0, .ref (ad 0)), (1, .int x1), (2, .int x2), (3, .int x3), (4, .int x4), (5, .int x5), (6, .int x6)] → f_X12_copy_c136 K_111 x1 x2 x3 x4 x5 x6 sx0 g = some (r0, g') → W p l e (headSpec wsX12_copy (rm_X12_copy)).room s m args below meth c H locs 0 0 (MQ below (mm_Qi D TM ad cy r0 g') args s 0 0 (mm_A TM ad)) (F0 m 136 ls [.int sx0]) := by
    intro K_111 hK_111 x6 sx0 g H locs ls hP hS hl hf
    unfold f_X12_copy_c136 at hf
    refine lv_istore (lv' := [(7, .int sx0), (0, .ref (ad 0)), (1, .int x1), (2, .int x2), (3, .int x3), (4, .int x4), (5, .int x5), (6, .int x6)]) hx hb dX12_copy_136 hl (by decide) rfl (fun ls hl => ?_)
    refine lv_aload_n hx hb dX12_copy_138 rfl (lv_at hl 1 rfl) ?_
    refine mq_getr (Tt := TX12) (N := 26) (C := RX12) hx hb hts hiX12 hown hK hP hp rfl 7 6 (by decide) rfl hw4 (fun _ h9 => h9) dX12_copy_139 ?_
    refine lv_bipush (v := 24) hx hb dX12_copy_142 (by decide) ?_
    refine lv_iload_n hx hb dX12_copy_144 rfl (lv_at hl 4 rfl) ?_
    refine lv_imul hx hb dX12_copy_145 ?_
    refine lv_iload hx hb dX12_copy_146 (lv_at hl 5 rfl) ?_
    refine lv_iadd hx hb dX12_copy_148 ?_
    refine lv_iload hx hb dX12_copy_149 (lv_at hl 0 rfl) ?_
    refine lv_iadd hx hb dX12_copy_151 ?_
    refine lv_aload_n hx hb dX12_copy_152 rfl (lv_at hl 1 rfl) ?_
    refine mq_getr (Tt := TX12) (N := 26) (C := RX12) hx hb hts hiX12 hown hK hP hp rfl 7 6 (by decide) rfl hw4 (fun _ h9 => h9) dX12_copy_153 ?_
    refine lv_bipush (v := 24) hx hb dX12_copy_156 (by decide) ?_
    refine lv_iload_n hx hb dX12_copy_158 rfl (lv_at hl 2 rfl) ?_
    refine lv_imul hx hb dX12_copy_159 ?_
    refine lv_iload_n hx hb dX12_copy_160 rfl (lv_at hl 3 rfl) ?_
    refine lv_iadd hx hb dX12_copy_161 ?_
    refine lv_iload hx hb dX12_copy_162 (lv_at hl 0 rfl) ?_
    refine lv_iadd hx hb dX12_copy_164 ?_
    obtain ⟨h_25, hf⟩ := og_some hf
    refine mq_iald hx hb hK hP (N := 96) (shTM_X12_6 hp) h_25 dX12_copy_165 ?_
    obtain ⟨h_26, hf⟩ := og_some hf
    obtain ⟨g_27, eg_27, hf⟩ := mw_some hf
    refine mq_iast hx hb hK hI hP hS (N := 96) (shTM_X12_6 hp) h_26 dX12_copy_166 eg_27 (fun H locs hP hS => ?_)
    obtain ⟨x6_28, ex6_28, hf⟩ := mv_some hf
    refine lv_iinc (v := x6_28) (lv' := [(6, .int x6_28), (7, .int sx0), (0, .ref (ad 0)), (1, .int x1), (2, .int x2), (3, .int x3), (4, .int x4), (5, .int x5)]) hx hb dX12_copy_167 hl (k := 7) rfl (by rw [ex6_28]; rfl) (by decide) rfl (fun ls hl => ?_)
    refine lv_goto (tgt := 111) hx hb dX12_copy_170 (by decide) ?_
    exact hK_111 x6_28 g_27 H locs ls hP hS (lv_sub hl [2, 3, 4, 5, 6, 7, 0] rfl) hf
  have hc111 : ∀ (n : Nat), ∀ (x6 : Int32) (g : Mm) (H : Heap) (locs : List Loc) (ls : Array Slot), va_P D vwCl (mm_L TM ad cy g) H → va_S (mm_A TM ad) s.heap H locs → lv_has ls 8 [(0, .ref (ad 0)), (1, .int x1), (2, .int x2), (3, .int x3), (4, .int x4), (5, .int x5), (6, .int x6)] → f_X12_copy_c111 x1 x2 x3 x4 x5 n x6 g = some (r0, g') → W p l e (headSpec wsX12_copy (rm_X12_copy)).room s m args below meth c H locs 0 0 (MQ below (mm_Qi D TM ad cy r0 g') args s 0 0 (mm_A TM ad)) (F0 m 111 ls []) := by
    intro n
    induction n with
    | zero =>
      intro x6 g H locs ls hP hS hl hf
      rw [f_X12_copy_c111] at hf
      cases hf
    | succ n ih =>
      intro x6 g H locs ls hP hS hl hf
      rw [f_X12_copy_c111] at hf
      refine lv_iload hx hb dX12_copy_111 (lv_at hl 6 rfl) ?_
      refine lv_iload hx hb dX12_copy_113 (lv_at hl 5 rfl) ?_
      refine lv_icmp_ge (tgt := 173) hx hb dX12_copy_115 (by decide) (fun c_23 => ?_) (fun c_23 => ?_)
      · replace hf := ite_t c_23 hf
        refine lv_iload hx hb dX12_copy_173 (lv_at hl 5 rfl) ?_
        exact mq_iret hx hb hr rfl hlocks hP hS (pr_1 hf) (pr_2 hf) dX12_copy_175
      · replace hf := ite_f c_23 hf
        refine lv_iload hx hb dX12_copy_118 (lv_at hl 4 rfl) ?_
        refine lv_iload_n hx hb dX12_copy_120 rfl (lv_at hl 2 rfl) ?_
        refine lv_icmp_le (tgt := 134) hx hb dX12_copy_121 (by decide) (fun c_24 => ?_) (fun c_24 => ?_)
        · replace hf := ite_t c_24 hf
          refine lv_iload hx hb dX12_copy_134 (lv_at hl 6 rfl) ?_
          exact hc136 (f_X12_copy_c111 x1 x2 x3 x4 x5 n) ih x6 x6 g H locs ls hP hS (lv_sub hl [0, 1, 2, 3, 4, 5, 6] rfl) hf
        · replace hf := ite_f c_24 hf
          refine lv_iload hx hb dX12_copy_124 (lv_at hl 5 rfl) ?_
          refine lv_iconst (v := 1) hx hb dX12_copy_126 (by decide) ?_
          refine lv_isub hx hb dX12_copy_127 ?_
          refine lv_iload hx hb dX12_copy_128 (lv_at hl 6 rfl) ?_
          refine lv_isub hx hb dX12_copy_130 ?_
          refine lv_goto (tgt := 136) hx hb dX12_copy_131 (by decide) ?_
          exact hc136 (f_X12_copy_c111 x1 x2 x3 x4 x5 n) ih x6 ((x5 - 1) - x6) g H locs ls hP hS (lv_sub hl [0, 1, 2, 3, 4, 5, 6] rfl) hf
  unfold f_X12_copy at hf
  have hH9 : ∀ (H : Heap) (locs : List Loc), H = s.heap → locs = [] → va_P D vwCl (mm_L TM ad cy g) H → va_S (mm_A TM ad) s.heap H locs → W p l e (headSpec wsX12_copy (rm_X12_copy)).room s m args below meth c H locs 0 0 (MQ below (mm_Qi D TM ad cy r0 g') args s 0 0 (mm_A TM ad)) (F0 m 0 ls []) := by
    intro H locs hH9 hL9 hP hS
    clear hH9 hL9
    refine lv_iload_n hx hb dX12_copy_0 rfl (lv_at hl 1 rfl) ?_
    refine lv_i2l hx hb dX12_copy_1 rfl ?_
    refine lv_lconst (v := 0) hx hb dX12_copy_2 (by decide) ?_
    refine lv_ldc2 (v := 3) hx hb hown hw0 dX12_copy_3 ?_
    obtain ⟨r_1, hr_2, hf⟩ := op_some hf
    refine mq_calli (va_runS (As := [.long (x1.toInt64), .long 0, .long 3]) (rest := []) ⟨hx, hb, hml, hown, hts⟩ (c_X12_in l D ad cy (x1.toInt64) 0 3 g r_1 hr_2) (va_cwS 3 hts gX12_copy_X12_in rfl rfl rfl (by decide +kernel) ⟨Nat.le_of_ble_eq_true rfl, Nat.le_of_ble_eq_true rfl⟩) (mq_preS mm_zOk0 hK hP hI hZ hS) rfl rfl hl.1 rfl (lv_room (Nat.le_of_ble_eq_true rfl)) dX12_copy_6 ⟨Nat.le_refl _, Nat.le_refl _⟩) hS (fun H locs hP hS => ?_)
    refine lv_if_eq (tgt := 24) hx hb dX12_copy_9 (by decide) (fun c_3 => ?_) (fun c_3 => ?_)
    · replace hf := ite_t c_3 hf
      refine lv_iconst (v := (-1)) hx hb dX12_copy_24 (by decide) ?_
      exact mq_iret hx hb hr rfl hlocks hP hS (pr_1 hf) (pr_2 hf) dX12_copy_25
    · replace hf := ite_f c_3 hf
      refine lv_iload_n hx hb dX12_copy_12 rfl (lv_at hl 3 rfl) ?_
      refine lv_i2l hx hb dX12_copy_13 rfl ?_
      refine lv_lconst (v := 0) hx hb dX12_copy_14 (by decide) ?_
      refine lv_ldc2 (v := 3) hx hb hown hw0 dX12_copy_15 ?_
      obtain ⟨r_4, hr_5, hf⟩ := op_some hf
      refine mq_calli (va_runS (As := [.long (x3.toInt64), .long 0, .long 3]) (rest := []) ⟨hx, hb, hml, hown, hts⟩ (c_X12_in l D ad cy (x3.toInt64) 0 3 g r_4 hr_5) (va_cwS 3 hts gX12_copy_X12_in rfl rfl rfl (by decide +kernel) ⟨Nat.le_of_ble_eq_true rfl, Nat.le_of_ble_eq_true rfl⟩) (mq_preS mm_zOk0 hK hP hI hZ hS) rfl rfl hl.1 rfl (lv_room (Nat.le_of_ble_eq_true rfl)) dX12_copy_18 ⟨Nat.le_refl _, Nat.le_refl _⟩) hS (fun H locs hP hS => ?_)
      refine lv_if_ne (tgt := 26) hx hb dX12_copy_21 (by decide) (fun c_6 => ?_) (fun c_6 => ?_)
      · replace hf := ite_f c_6 hf
        refine lv_aload_n hx hb dX12_copy_26 rfl (lv_at hl 0 rfl) ?_
        refine mq_getr (Tt := TX12) (N := 26) (C := RX12) hx hb hts hiX12 hown hK hP hp rfl 5 4 (by decide) rfl hw1 (fun _ h9 => h9) dX12_copy_27 ?_
        refine lv_iload_n hx hb dX12_copy_30 rfl (lv_at hl 1 rfl) ?_
        obtain ⟨h_7, hf⟩ := og_some hf
        refine mq_iald hx hb hK hP (N := 4) (shTM_X12_4 hp) h_7 dX12_copy_31 ?_
        refine lv_if_lt (tgt := 44) hx hb dX12_copy_32 (by decide) (fun c_8 => ?_) (fun c_8 => ?_)
        · replace hf := ite_t c_8 hf
          refine lv_bipush (v := (-11)) hx hb dX12_copy_44 (by decide) ?_
          exact mq_iret hx hb hr rfl hlocks hP hS (pr_1 hf) (pr_2 hf) dX12_copy_46
        · replace hf := ite_f c_8 hf
          refine lv_aload_n hx hb dX12_copy_35 rfl (lv_at hl 0 rfl) ?_
          refine mq_getr (Tt := TX12) (N := 26) (C := RX12) hx hb hts hiX12 hown hK hP hp rfl 5 4 (by decide) rfl hw1 (fun _ h9 => h9) dX12_copy_36 ?_
          refine lv_iload_n hx hb dX12_copy_39 rfl (lv_at hl 3 rfl) ?_
          obtain ⟨h_9, hf⟩ := og_some hf
          refine mq_iald hx hb hK hP (N := 4) (shTM_X12_4 hp) h_9 dX12_copy_40 ?_
          refine lv_if_ge (tgt := 47) hx hb dX12_copy_41 (by decide) (fun c_10 => ?_) (fun c_10 => ?_)
          · replace hf := ite_t c_10 hf
            refine lv_aload_n hx hb dX12_copy_47 rfl (lv_at hl 0 rfl) ?_
            refine mq_getr (Tt := TX12) (N := 26) (C := RX12) hx hb hts hiX12 hown hK hP hp rfl 6 5 (by decide) rfl hw3 (fun _ h9 => h9) dX12_copy_48 ?_
            refine lv_iload_n hx hb dX12_copy_51 rfl (lv_at hl 1 rfl) ?_
            obtain ⟨h_11, hf⟩ := og_some hf
            refine mq_iald hx hb hK hP (N := 4) (shTM_X12_5 hp) h_11 dX12_copy_52 ?_
            refine lv_aload_n hx hb dX12_copy_53 rfl (lv_at hl 0 rfl) ?_
            refine mq_getr (Tt := TX12) (N := 26) (C := RX12) hx hb hts hiX12 hown hK hP hp rfl 6 5 (by decide) rfl hw3 (fun _ h9 => h9) dX12_copy_54 ?_
            refine lv_iload_n hx hb dX12_copy_57 rfl (lv_at hl 3 rfl) ?_
            obtain ⟨h_12, hf⟩ := og_some hf
            refine mq_iald hx hb hK hP (N := 4) (shTM_X12_5 hp) h_12 dX12_copy_58 ?_
            refine lv_icmp_eq (tgt := 65) hx hb dX12_copy_59 (by decide) (fun c_13 => ?_) (fun c_13 => ?_)
            · replace hf := ite_t c_13 hf
              refine lv_iload hx hb dX12_copy_65 (lv_at hl 5 rfl) ?_
              refine lv_if_lt (tgt := 105) hx hb dX12_copy_67 (by decide) (fun c_14 => ?_) (fun c_14 => ?_)
              · replace hf := ite_t c_14 hf
                refine lv_bipush (v := (-13)) hx hb dX12_copy_105 (by decide) ?_
                exact mq_iret hx hb hr rfl hlocks hP hS (pr_1 hf) (pr_2 hf) dX12_copy_107
              · replace hf := ite_f c_14 hf
                refine lv_aload_n hx hb dX12_copy_70 rfl (lv_at hl 0 rfl) ?_
                refine lv_iload_n hx hb dX12_copy_71 rfl (lv_at hl 1 rfl) ?_
                refine lv_aload_n hx hb dX12_copy_72 rfl (lv_at hl 0 rfl) ?_
                refine mq_getr (Tt := TX12) (N := 26) (C := RX12) hx hb hts hiX12 hown hK hP hp rfl 6 5 (by decide) rfl hw3 (fun _ h9 => h9) dX12_copy_73 ?_
                refine lv_iload_n hx hb dX12_copy_76 rfl (lv_at hl 1 rfl) ?_
                obtain ⟨h_15, hf⟩ := og_some hf
                refine mq_iald hx hb hK hP (N := 4) (shTM_X12_5 hp) h_15 dX12_copy_77 ?_
                refine lv_iload_n hx hb dX12_copy_78 rfl (lv_at hl 2 rfl) ?_
                refine lv_iload hx hb dX12_copy_79 (lv_at hl 5 rfl) ?_
                obtain ⟨r_16, hr_17, hf⟩ := op_some hf
                refine mq_calli (va_runV (As := [.int x1, .int (g 5 x1.toNatClampNeg), .int x2, .int x5]) (rest := []) ⟨hx, hb, hml, hown, hts⟩ (c_X12_found l D ad cy x1 (g 5 x1.toNatClampNeg) x2 x5 g hp r_16 hr_17) (cwV 4 hts gX12_copy_X12_found rfl rfl rfl (by decide +kernel) ⟨Nat.le_of_ble_eq_true rfl, Nat.le_of_ble_eq_true rfl⟩) (mq_preV (q := (RX12, TX12, 26)) mm_zOk0 hK hP hI hZ hS hp rfl) rfl rfl hl.1 rfl (lv_room (Nat.le_of_ble_eq_true rfl)) dX12_copy_81 ⟨Nat.le_refl _, Nat.le_refl _⟩) hS (fun H locs hP hS => ?_)
                refine lv_if_lt (tgt := 105) hx hb dX12_copy_84 (by decide) (fun c_18 => ?_) (fun c_18 => ?_)
                · replace hf := ite_t c_18 hf
                  refine lv_bipush (v := (-13)) hx hb dX12_copy_105 (by decide) ?_
                  exact mq_iret hx hb hr rfl hlocks hP hS (pr_1 hf) (pr_2 hf) dX12_copy_107
                · replace hf := ite_f c_18 hf
                  refine lv_aload_n hx hb dX12_copy_87 rfl (lv_at hl 0 rfl) ?_
                  refine lv_iload_n hx hb dX12_copy_88 rfl (lv_at hl 3 rfl) ?_
                  refine lv_aload_n hx hb dX12_copy_89 rfl (lv_at hl 0 rfl) ?_
                  refine mq_getr (Tt := TX12) (N := 26) (C := RX12) hx hb hts hiX12 hown hK hP hp rfl 6 5 (by decide) rfl hw3 (fun _ h9 => h9) dX12_copy_90 ?_
                  refine lv_iload_n hx hb dX12_copy_93 rfl (lv_at hl 3 rfl) ?_
                  obtain ⟨h_19, hf⟩ := og_some hf
                  refine mq_iald hx hb hK hP (N := 4) (shTM_X12_5 hp) h_19 dX12_copy_94 ?_
                  refine lv_iload hx hb dX12_copy_95 (lv_at hl 4 rfl) ?_
                  refine lv_iload hx hb dX12_copy_97 (lv_at hl 5 rfl) ?_
                  obtain ⟨r_20, hr_21, hf⟩ := op_some hf
                  refine mq_calli (va_runV (As := [.int x3, .int (g 5 x3.toNatClampNeg), .int x4, .int x5]) (rest := []) ⟨hx, hb, hml, hown, hts⟩ (c_X12_found l D ad cy x3 (g 5 x3.toNatClampNeg) x4 x5 g hp r_20 hr_21) (cwV 4 hts gX12_copy_X12_found rfl rfl rfl (by decide +kernel) ⟨Nat.le_of_ble_eq_true rfl, Nat.le_of_ble_eq_true rfl⟩) (mq_preV (q := (RX12, TX12, 26)) mm_zOk0 hK hP hI hZ hS hp rfl) rfl rfl hl.1 rfl (lv_room (Nat.le_of_ble_eq_true rfl)) dX12_copy_99 ⟨Nat.le_refl _, Nat.le_refl _⟩) hS (fun H locs hP hS => ?_)
                  refine lv_if_ge (tgt := 108) hx hb dX12_copy_102 (by decide) (fun c_22 => ?_) (fun c_22 => ?_)
                  · replace hf := ite_t c_22 hf
                    refine lv_iconst (v := 0) hx hb dX12_copy_108 (by decide) ?_
                    refine lv_istore (lv' := [(6, .int 0), (0, .ref (ad 0)), (1, .int x1), (2, .int x2), (3, .int x3), (4, .int x4), (5, .int x5)]) hx hb dX12_copy_109 hl (by decide) rfl (fun ls hl => ?_)
                    exact hc111 FU 0 g H locs ls hP hS (lv_sub hl [1, 2, 3, 4, 5, 6, 0] rfl) hf
                  · replace hf := ite_f c_22 hf
                    refine lv_bipush (v := (-13)) hx hb dX12_copy_105 (by decide) ?_
                    exact mq_iret hx hb hr rfl hlocks hP hS (pr_1 hf) (pr_2 hf) dX12_copy_107
            · replace hf := ite_f c_13 hf
              refine lv_bipush (v := (-12)) hx hb dX12_copy_62 (by decide) ?_
              exact mq_iret hx hb hr rfl hlocks hP hS (pr_1 hf) (pr_2 hf) dX12_copy_64
          · replace hf := ite_f c_10 hf
            refine lv_bipush (v := (-11)) hx hb dX12_copy_44 (by decide) ?_
            exact mq_iret hx hb hr rfl hlocks hP hS (pr_1 hf) (pr_2 hf) dX12_copy_46
      · replace hf := ite_t c_6 hf
        refine lv_iconst (v := (-1)) hx hb dX12_copy_24 (by decide) ?_
        exact mq_iret hx hb hr rfl hlocks hP hS (pr_1 hf) (pr_2 hf) dX12_copy_25
  exact hH9 s.heap [] rfl rfl hP hS
