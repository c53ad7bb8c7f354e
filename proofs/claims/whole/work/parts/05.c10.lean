abbrev rm_X12_costOf : Room := ({ frames := 0, cells := 0, slots := 0, locals := 0 } : Room)
set_option maxHeartbeats 4000000 in
set_option maxRecDepth 100000 in
theorem c_X12_costOf (l : Launch) (D : va_G) (ad : Nat → Nat) (cy : Nat → ClassId) (x1 : Int32) (x2 : Int32) (g : Mm) (hp : TM[0]? = some sX12) (r0 : Int32) (hf : f_X12_costOf x1 x2 g = some r0) : Met l yX12_costOf wsX12_costOf rm_X12_costOf (va_Pc [.ref (ad 0), .int x1, .int x2] (mm_pre mm_Z0 D TM ad cy g)) (mm_Qi D TM ad cy r0 g) 0 0 (mm_A TM ad) := by
  refine Met.ofW (cc := cX12_costOf) (maxL := 3) (ret := (some .int)) (by decide) rfl ?_
  intro p e s m args below meth c s₁ B hml hv
  obtain ⟨hargs, hP, hK, hI, hZ⟩ := hv
  have hx := B.exec
  have hb := B.bytes
  have hr := B.returns
  have hts := atoms_spec (ws := wsX12_costOf) B.pre
  have hown : s.vm.findClass RX12 = some m.cls := findClass_of_methodNamed B.named
  have hlocks := B.notSynchronized
  have hw0 := hts (.fieldLink RX12 7 "LeftShoesModel" "now" "[I") (by decide +kernel)
  have hiX12 : ∀ w ∈ wsX120, w ∈ wsX12_costOf := by decide +kernel
  rw [show entryFrame m args 3 = F0 m 0 ((lg_sl ([.ref (ad 0), .int x1, .int x2] : List Value) ++ List.replicate (3 - (lg_sl ([.ref (ad 0), .int x1, .int x2] : List Value)).length) Slot.unset).toArray) [] from by rw [hargs]; exact lg_entry_eq m _ _]
  have hl := lv_entry ([.ref (ad 0), .int x1, .int x2] : List Value) (n := 3) (by exact Nat.le_of_ble_eq_true rfl)
  generalize (lg_sl ([.ref (ad 0), .int x1, .int x2] : List Value) ++ List.replicate (3 - (lg_sl ([.ref (ad 0), .int x1, .int x2] : List Value)).length) Slot.unset).toArray = ls at hl ⊢
  have hl : lv_has ls 3 [(0, .ref (ad 0)), (1, .int x1), (2, .int x2)] := by exact hl
  have hS : va_S (mm_A TM ad) s.heap s.heap [] := va_S.rf
  clear hargs
  unfold f_X12_costOf at hf
  have hH9 : ∀ (H : Heap) (locs : List Loc), H = s.heap → locs = [] → va_P D vwCl (mm_L TM ad cy g) H → va_S (mm_A TM ad) s.heap H locs → W p l e (headSpec wsX12_costOf (rm_X12_costOf)).room s m args below meth c H locs 0 0 (MQ below (mm_Qi D TM ad cy r0 g) args s 0 0 (mm_A TM ad)) (F0 m 0 ls []) := by
    intro H locs hH9 hL9 hP hS
    clear hH9 hL9
    refine lv_aload_n hx hb dX12_costOf_0 rfl (lv_at hl 0 rfl) ?_
    refine mq_getr (Tt := TX12) (N := 26) (C := RX12) hx hb hts hiX12 hown hK hP hp rfl 0 1 (by decide) rfl hw0 (fun _ h9 => h9) dX12_costOf_1 ?_
    refine lv_bipush (v := 79) hx hb dX12_costOf_4 (by decide) ?_
    refine lv_iload_n hx hb dX12_costOf_6 rfl (lv_at hl 1 rfl) ?_
    refine lv_iadd hx hb dX12_costOf_7 ?_
    obtain ⟨h_1, hf⟩ := og_some hf
    refine mq_iald hx hb hK hP (N := 193) (shTM_X12_1 hp) h_1 dX12_costOf_8 ?_
    refine lv_iconst (v := 1) hx hb dX12_costOf_9 (by decide) ?_
    refine lv_icmp_ne (tgt := 36) hx hb dX12_costOf_10 (by decide) (fun c_2 => ?_) (fun c_2 => ?_)
    · replace hf := ite_f c_2 hf
      refine lv_aload_n hx hb dX12_costOf_36 rfl (lv_at hl 0 rfl) ?_
      refine mq_getr (Tt := TX12) (N := 26) (C := RX12) hx hb hts hiX12 hown hK hP hp rfl 0 1 (by decide) rfl hw0 (fun _ h9 => h9) dX12_costOf_37 ?_
      refine lv_iconst (v := 2) hx hb dX12_costOf_40 (by decide) ?_
      refine mq_iald hx hb hK hP (N := 193) (shTM_X12_1 hp) (by decide : mm_in 2 193 = true) dX12_costOf_41 ?_
      refine lv_aload_n hx hb dX12_costOf_42 rfl (lv_at hl 0 rfl) ?_
      refine mq_getr (Tt := TX12) (N := 26) (C := RX12) hx hb hts hiX12 hown hK hP hp rfl 0 1 (by decide) rfl hw0 (fun _ h9 => h9) dX12_costOf_43 ?_
      refine lv_bipush (v := 108) hx hb dX12_costOf_46 (by decide) ?_
      refine lv_iload_n hx hb dX12_costOf_48 rfl (lv_at hl 2 rfl) ?_
      refine lv_iadd hx hb dX12_costOf_49 ?_
      obtain ⟨h_3, hf⟩ := og_some hf
      refine mq_iald hx hb hK hP (N := 193) (shTM_X12_1 hp) h_3 dX12_costOf_50 ?_
      refine lv_imul hx hb dX12_costOf_51 ?_
      exact mq_iret hx hb hr rfl hlocks hP hS (Option.some.inj hf) rfl dX12_costOf_52
    · replace hf := ite_t c_2 hf
      refine lv_bipush (v := 16) hx hb dX12_costOf_13 (by decide) ?_
      refine lv_aload_n hx hb dX12_costOf_15 rfl (lv_at hl 0 rfl) ?_
      refine mq_getr (Tt := TX12) (N := 26) (C := RX12) hx hb hts hiX12 hown hK hP hp rfl 0 1 (by decide) rfl hw0 (fun _ h9 => h9) dX12_costOf_16 ?_
      refine lv_bipush (v := 95) hx hb dX12_costOf_19 (by decide) ?_
      refine lv_aload_n hx hb dX12_costOf_21 rfl (lv_at hl 0 rfl) ?_
      refine mq_getr (Tt := TX12) (N := 26) (C := RX12) hx hb hts hiX12 hown hK hP hp rfl 0 1 (by decide) rfl hw0 (fun _ h9 => h9) dX12_costOf_22 ?_
      refine lv_bipush (v := 47) hx hb dX12_costOf_25 (by decide) ?_
      refine lv_iload_n hx hb dX12_costOf_27 rfl (lv_at hl 1 rfl) ?_
      refine lv_iadd hx hb dX12_costOf_28 ?_
      obtain ⟨h_4, hf⟩ := og_some hf
      refine mq_iald hx hb hK hP (N := 193) (shTM_X12_1 hp) h_4 dX12_costOf_29 ?_
      refine lv_iadd hx hb dX12_costOf_30 ?_
      obtain ⟨h_5, hf⟩ := og_some hf
      refine mq_iald hx hb hK hP (N := 193) (shTM_X12_1 hp) h_5 dX12_costOf_31 ?_
      refine lv_imul hx hb dX12_costOf_32 ?_
      refine lv_goto (tgt := 52) hx hb dX12_costOf_33 (by decide) ?_
      exact mq_iret hx hb hr rfl hlocks hP hS (Option.some.inj hf) rfl dX12_costOf_52
  exact hH9 s.heap [] rfl rfl hP hS
abbrev rm_X12_wear : Room := ({ frames := 0, cells := 0, slots := 0, locals := 0 } : Room)
set_option maxHeartbeats 4000000 in
set_option maxRecDepth 100000 in
theorem c_X12_wear (l : Launch) (D : va_G) (ad : Nat → Nat) (cy : Nat → ClassId) (x1 : Int32) (g : Mm) (hp : TM[0]? = some sX12) (r0 : Int32) (hf : f_X12_wear x1 g = some r0) : Met l yX12_wear wsX12_wear rm_X12_wear (va_Pc [.ref (ad 0), .int x1] (mm_pre mm_Z0 D TM ad cy g)) (mm_Qi D TM ad cy r0 g) 0 0 (mm_A TM ad) := by
  refine Met.ofW (cc := cX12_wear) (maxL := 2) (ret := (some .int)) (by decide) rfl ?_
  intro p e s m args below meth c s₁ B hml hv
  obtain ⟨hargs, hP, hK, hI, hZ⟩ := hv
  have hx := B.exec
  have hb := B.bytes
  have hr := B.returns
  have hts := atoms_spec (ws := wsX12_wear) B.pre
  have hown : s.vm.findClass RX12 = some m.cls := findClass_of_methodNamed B.named
  have hlocks := B.notSynchronized
  have hw0 := hts (.fieldLink RX12 7 "LeftShoesModel" "now" "[I") (by decide +kernel)
  have hiX12 : ∀ w ∈ wsX120, w ∈ wsX12_wear := by decide +kernel
  rw [show entryFrame m args 2 = F0 m 0 ((lg_sl ([.ref (ad 0), .int x1] : List Value) ++ List.replicate (2 - (lg_sl ([.ref (ad 0), .int x1] : List Value)).length) Slot.unset).toArray) [] from by rw [hargs]; exact lg_entry_eq m _ _]
  have hl := lv_entry ([.ref (ad 0), .int x1] : List Value) (n := 2) (by exact Nat.le_of_ble_eq_true rfl)
  generalize (lg_sl ([.ref (ad 0), .int x1] : List Value) ++ List.replicate (2 - (lg_sl ([.ref (ad 0), .int x1] : List Value)).length) Slot.unset).toArray = ls at hl ⊢
  have hl : lv_has ls 2 [(0, .ref (ad 0)), (1, .int x1)] := by exact hl
  have hS : va_S (mm_A TM ad) s.heap s.heap [] := va_S.rf
  clear hargs
  unfold f_X12_wear at hf
  have hH9 : ∀ (H : Heap) (locs : List Loc), H = s.heap → locs = [] → va_P D vwCl (mm_L TM ad cy g) H → va_S (mm_A TM ad) s.heap H locs → W p l e (headSpec wsX12_wear (rm_X12_wear)).room s m args below meth c H locs 0 0 (MQ below (mm_Qi D TM ad cy r0 g) args s 0 0 (mm_A TM ad)) (F0 m 0 ls []) := by
    intro H locs hH9 hL9 hP hS
    clear hH9 hL9
    refine lv_aload_n hx hb dX12_wear_0 rfl (lv_at hl 0 rfl) ?_
    refine mq_getr (Tt := TX12) (N := 26) (C := RX12) hx hb hts hiX12 hown hK hP hp rfl 0 1 (by decide) rfl hw0 (fun _ h9 => h9) dX12_wear_1 ?_
    refine lv_bipush (v := 47) hx hb dX12_wear_4 (by decide) ?_
    refine lv_iload_n hx hb dX12_wear_6 rfl (lv_at hl 1 rfl) ?_
    refine lv_iadd hx hb dX12_wear_7 ?_
    obtain ⟨h_1, hf⟩ := og_some hf
    refine mq_iald hx hb hK hP (N := 193) (shTM_X12_1 hp) h_1 dX12_wear_8 ?_
    refine lv_iconst (v := 3) hx hb dX12_wear_9 (by decide) ?_
    refine lv_icmp_ne (tgt := 17) hx hb dX12_wear_10 (by decide) (fun c_2 => ?_) (fun c_2 => ?_)
    · replace hf := ite_f c_2 hf
      refine lv_iconst (v := 1) hx hb dX12_wear_17 (by decide) ?_
      exact mq_iret hx hb hr rfl hlocks hP hS (Option.some.inj hf) rfl dX12_wear_18
    · replace hf := ite_t c_2 hf
      refine lv_iconst (v := 2) hx hb dX12_wear_13 (by decide) ?_
      refine lv_goto (tgt := 18) hx hb dX12_wear_14 (by decide) ?_
      exact mq_iret hx hb hr rfl hlocks hP hS (Option.some.inj hf) rfl dX12_wear_18
  exact hH9 s.heap [] rfl rfl hP hS
abbrev rm_X12_isHis : Room := ({ frames := 3, cells := 0, slots := 0, locals := 68 } : Room)
set_option maxHeartbeats 4000000 in
set_option maxRecDepth 100000 in
theorem c_X12_isHis (l : Launch) (D : va_G) (ad : Nat → Nat) (cy : Nat → ClassId) (x1 : Int32) (x2 : Int32) (x3 : Int32) (g : Mm) (hp : TM[0]? = some sX12) (r0 : Int32) (hf : f_X12_isHis x1 x2 x3 g = some r0) : Met l yX12_isHis wsX12_isHis rm_X12_isHis (va_Pc [.ref (ad 0), .int x1, .int x2, .int x3] (mm_pre mm_Z0 D TM ad cy g)) (mm_Qi D TM ad cy r0 g) 0 0 (mm_A TM ad) := by
  refine Met.ofW (cc := cX12_isHis) (maxL := 4) (ret := (some .boolean)) (by decide) rfl ?_
  intro p e s m args below meth c s₁ B hml hv
  obtain ⟨hargs, hP, hK, hI, hZ⟩ := hv
  have hx := B.exec
  have hb := B.bytes
  have hr := B.returns
  have hts := atoms_spec (ws := wsX12_isHis) B.pre
  have hown : s.vm.findClass RX12 = some m.cls := findClass_of_methodNamed B.named
  have hlocks := B.notSynchronized
  have hw0 := hts (.fieldLink RX12 7 "LeftShoesModel" "now" "[I") (by decide +kernel)
  have hiX12 : ∀ w ∈ wsX120, w ∈ wsX12_isHis := by decide +kernel
  rw [show entryFrame m args 4 = F0 m 0 ((lg_sl ([.ref (ad 0), .int x1, .int x2, .int x3] : List Value) ++ List.replicate (4 - (lg_sl ([.ref (ad 0), .int x1, .int x2, .int x3] : List Value)).length) Slot.unset).toArray) [] from by rw [hargs]; exact lg_entry_eq m _ _]
  have hl := lv_entry ([.ref (ad 0), .int x1, .int x2, .int x3] : List Value) (n := 4) (by exact Nat.le_of_ble_eq_true rfl)
  generalize (lg_sl ([.ref (ad 0), .int x1, .int x2, .int x3] : List Value) ++ List.replicate (4 - (lg_sl ([.ref (ad 0), .int x1, .int x2, .int x3] : List Value)).length) Slot.unset).toArray = ls at hl ⊢
  have hl : lv_has ls 4 [(0, .ref (ad 0)), (1, .int x1), (2, .int x2), (3, .int x3)] := by exact hl
  have hS : va_S (mm_A TM ad) s.heap s.heap [] := va_S.rf
  clear hargs
  unfold f_X12_isHis at hf
  have hH9 : ∀ (H : Heap) (locs : List Loc), H = s.heap → locs = [] → va_P D vwCl (mm_L TM ad cy g) H → va_S (mm_A TM ad) s.heap H locs → W p l e (headSpec wsX12_isHis (rm_X12_isHis)).room s m args below meth c H locs 0 0 (MQ below (mm_Qi D TM ad cy r0 g) args s 0 0 (mm_A TM ad)) (F0 m 0 ls []) := by
    intro H locs hH9 hL9 hP hS
    clear hH9 hL9
    refine lv_iload_n hx hb dX12_isHis_0 rfl (lv_at hl 2 rfl) ?_
    refine lv_iconst (v := (-1)) hx hb dX12_isHis_1 (by decide) ?_
    refine lv_icmp_eq (tgt := 27) hx hb dX12_isHis_2 (by decide) (fun c_1 => ?_) (fun c_1 => ?_)
    · replace hf := ite_t c_1 hf
      refine lv_iconst (v := 1) hx hb dX12_isHis_27 (by decide) ?_
      refine lv_goto (tgt := 32) hx hb dX12_isHis_28 (by decide) ?_
      exact mq_iret hx hb hr (by decide +kernel) hlocks hP hS (Option.some.inj hf) rfl dX12_isHis_32
    · replace hf := ite_f c_1 hf
      refine lv_aload_n hx hb dX12_isHis_5 rfl (lv_at hl 0 rfl) ?_
      refine lv_iload_n hx hb dX12_isHis_6 rfl (lv_at hl 2 rfl) ?_
      refine lv_iload_n hx hb dX12_isHis_7 rfl (lv_at hl 3 rfl) ?_
      obtain ⟨r_2, hr_3, hf⟩ := op_some hf
      refine mq_calli (va_runV (As := [.int x2, .int x3]) (rest := []) ⟨hx, hb, hml, hown, hts⟩ (c_X12_isFor l D ad cy x2 x3 g hp r_2 hr_3) (cwV 2 hts gX12_isHis_X12_isFor rfl rfl rfl (by decide +kernel) ⟨Nat.le_of_ble_eq_true rfl, Nat.le_of_ble_eq_true rfl⟩) (mq_preV (q := (RX12, TX12, 26)) mm_zOk0 hK hP hI hZ hS hp rfl) rfl rfl hl.1 rfl (lv_room (Nat.le_of_ble_eq_true rfl)) dX12_isHis_8 ⟨Nat.le_refl _, Nat.le_refl _⟩) hS (fun H locs hP hS => ?_)
      refine lv_if_eq (tgt := 31) hx hb dX12_isHis_11 (by decide) (fun c_4 => ?_) (fun c_4 => ?_)
      · replace hf := ite_t c_4 hf
        refine lv_iconst (v := 0) hx hb dX12_isHis_31 (by decide) ?_
        exact mq_iret hx hb hr (by decide +kernel) hlocks hP hS (Option.some.inj hf) rfl dX12_isHis_32
      · replace hf := ite_f c_4 hf
        refine lv_aload_n hx hb dX12_isHis_14 rfl (lv_at hl 0 rfl) ?_
        refine mq_getr (Tt := TX12) (N := 26) (C := RX12) hx hb hts hiX12 hown hK hP hp rfl 0 1 (by decide) rfl hw0 (fun _ h9 => h9) dX12_isHis_15 ?_
        refine lv_bipush (v := 15) hx hb dX12_isHis_18 (by decide) ?_
        refine lv_iload_n hx hb dX12_isHis_20 rfl (lv_at hl 2 rfl) ?_
        refine lv_iadd hx hb dX12_isHis_21 ?_
        obtain ⟨h_5, hf⟩ := og_some hf
        refine mq_iald hx hb hK hP (N := 193) (shTM_X12_1 hp) h_5 dX12_isHis_22 ?_
        refine lv_iload_n hx hb dX12_isHis_23 rfl (lv_at hl 1 rfl) ?_
        refine lv_icmp_ne (tgt := 31) hx hb dX12_isHis_24 (by decide) (fun c_6 => ?_) (fun c_6 => ?_)
        · replace hf := ite_f c_6 hf
          refine lv_iconst (v := 0) hx hb dX12_isHis_31 (by decide) ?_
          exact mq_iret hx hb hr (by decide +kernel) hlocks hP hS (Option.some.inj hf) rfl dX12_isHis_32
        · replace hf := ite_t c_6 hf
          refine lv_iconst (v := 1) hx hb dX12_isHis_27 (by decide) ?_
          refine lv_goto (tgt := 32) hx hb dX12_isHis_28 (by decide) ?_
          exact mq_iret hx hb hr (by decide +kernel) hlocks hP hS (Option.some.inj hf) rfl dX12_isHis_32
  exact hH9 s.heap [] rfl rfl hP hS
abbrev rm_X12_isTrio : Room := ({ frames := 4, cells := 0, slots := 0, locals := 91 } : Room)
set_option maxHeartbeats 4000000 in
set_option maxRecDepth 100000 in
theorem c_X12_isTrio (l : Launch) (D : va_G) (ad : Nat → Nat) (cy : Nat → ClassId) (x1 : Int32) (x2 : Int32) (x3 : Int32) (x4 : Int32) (g : Mm) (hp : TM[0]? = some sX12) (r0 : Int32) (hf : f_X12_isTrio x1 x2 x3 x4 g = some r0) : Met l yX12_isTrio wsX12_isTrio rm_X12_isTrio (va_Pc [.ref (ad 0), .int x1, .int x2, .int x3, .int x4] (mm_pre mm_Z0 D TM ad cy g)) (mm_Qi D TM ad cy r0 g) 0 0 (mm_A TM ad) := by
  refine Met.ofW (cc := cX12_isTrio) (maxL := 7) (ret := (some .boolean)) (by decide) rfl ?_
  intro p e s m args below meth c s₁ B hml hv
  obtain ⟨hargs, hP, hK, hI, hZ⟩ := hv
  have hx := B.exec
  have hb := B.bytes
  have hr := B.returns
  have hts := atoms_spec (ws := wsX12_isTrio) B.pre
  have hown : s.vm.findClass RX12 = some m.cls := findClass_of_methodNamed B.named
  have hlocks := B.notSynchronized
  have hw0 := hts (.fieldLink RX12 7 "LeftShoesModel" "now" "[I") (by decide +kernel)
  have hiX12 : ∀ w ∈ wsX120, w ∈ wsX12_isTrio := by decide +kernel
  rw [show entryFrame m args 7 = F0 m 0 ((lg_sl ([.ref (ad 0), .int x1, .int x2, .int x3, .int x4] : List Value) ++ List.replicate (7 - (lg_sl ([.ref (ad 0), .int x1, .int x2, .int x3, .int x4] : List Value)).length) Slot.unset).toArray) [] from by rw [hargs]; exact lg_entry_eq m _ _]
  have hl := lv_entry ([.ref (ad 0), .int x1, .int x2, .int x3, .int x4] : List Value) (n := 7) (by exact Nat.le_of_ble_eq_true rfl)
  generalize (lg_sl ([.ref (ad 0), .int x1, .int x2, .int x3, .int x4] : List Value) ++ List.replicate (7 - (lg_sl ([.ref (ad 0), .int x1, .int x2, .int x3, .int x4] : List Value)).length) Slot.unset).toArray = ls at hl ⊢
  have hl : lv_has ls 7 [(0, .ref (ad 0)), (1, .int x1), (2, .int x2), (3, .int x3), (4, .int x4)] := by exact hl
  have hS : va_S (mm_A TM ad) s.heap s.heap [] := va_S.rf
  clear hargs
  unfold f_X12_isTrio at hf
  have hH9 : ∀ (H : Heap) (locs : List Loc), H = s.heap → locs = [] → va_P D vwCl (mm_L TM ad cy g) H → va_S (mm_A TM ad) s.heap H locs → W p l e (headSpec wsX12_isTrio (rm_X12_isTrio)).room s m args below meth c H locs 0 0 (MQ below (mm_Qi D TM ad cy r0 g) args s 0 0 (mm_A TM ad)) (F0 m 0 ls []) := by
    intro H locs hH9 hL9 hP hS
    clear hH9 hL9
    refine lv_aload_n hx hb dX12_isTrio_0 rfl (lv_at hl 0 rfl) ?_
    refine lv_iload_n hx hb dX12_isTrio_1 rfl (lv_at hl 1 rfl) ?_
    obtain ⟨r_1, hr_2, hf⟩ := op_some hf
    refine mq_calli (va_runV (As := [.int x1]) (rest := []) ⟨hx, hb, hml, hown, hts⟩ (c_X12_isPerson l D ad cy x1 g hp r_1 hr_2) (cwV 1 hts gX12_isTrio_X12_isPerson rfl rfl rfl (by decide +kernel) ⟨Nat.le_of_ble_eq_true rfl, Nat.le_of_ble_eq_true rfl⟩) (mq_preV (q := (RX12, TX12, 26)) mm_zOk0 hK hP hI hZ hS hp rfl) rfl rfl hl.1 rfl (lv_room (Nat.le_of_ble_eq_true rfl)) dX12_isTrio_2 ⟨Nat.le_refl _, Nat.le_refl _⟩) hS (fun H locs hP hS => ?_)
    refine lv_if_ne (tgt := 10) hx hb dX12_isTrio_5 (by decide) (fun c_3 => ?_) (fun c_3 => ?_)
    · replace hf := ite_f c_3 hf
      refine lv_aload_n hx hb dX12_isTrio_10 rfl (lv_at hl 0 rfl) ?_
      refine mq_getr (Tt := TX12) (N := 26) (C := RX12) hx hb hts hiX12 hown hK hP hp rfl 0 1 (by decide) rfl hw0 (fun _ h9 => h9) dX12_isTrio_11 ?_
      refine lv_bipush (v := 10) hx hb dX12_isTrio_14 (by decide) ?_
      refine lv_iload_n hx hb dX12_isTrio_16 rfl (lv_at hl 1 rfl) ?_
      refine lv_iadd hx hb dX12_isTrio_17 ?_
      obtain ⟨h_4, hf⟩ := og_some hf
      refine mq_iald hx hb hK hP (N := 193) (shTM_X12_1 hp) h_4 dX12_isTrio_18 ?_
      obtain ⟨x5_5, ex5_5, hf⟩ := mv_some hf
      refine mq_nm ex5_5 ?_
      refine lv_istore (lv' := [(5, .int x5_5), (0, .ref (ad 0)), (1, .int x1), (2, .int x2), (3, .int x3), (4, .int x4)]) hx hb dX12_isTrio_19 hl (by decide) rfl (fun ls hl => ?_)
      refine lv_iload hx hb dX12_isTrio_21 (lv_at hl 0 rfl) ?_
      refine lv_if_le (tgt := 56) hx hb dX12_isTrio_23 (by decide) (fun c_6 => ?_) (fun c_6 => ?_)
      · replace hf := ite_t c_6 hf
        refine lv_aload_n hx hb dX12_isTrio_56 rfl (lv_at hl 1 rfl) ?_
        refine mq_getr (Tt := TX12) (N := 26) (C := RX12) hx hb hts hiX12 hown hK hP hp rfl 0 1 (by decide) rfl hw0 (fun _ h9 => h9) dX12_isTrio_57 ?_
        refine lv_iconst (v := 3) hx hb dX12_isTrio_60 (by decide) ?_
        refine mq_iald hx hb hK hP (N := 193) (shTM_X12_1 hp) (by decide : mm_in 3 193 = true) dX12_isTrio_61 ?_
        obtain ⟨x6_7, ex6_7, hf⟩ := mv_some hf
        refine mq_nm ex6_7 ?_
        refine lv_istore (lv' := [(6, .int x6_7), (5, .int x5_5), (0, .ref (ad 0)), (1, .int x1), (2, .int x2), (3, .int x3), (4, .int x4)]) hx hb dX12_isTrio_62 hl (by decide) rfl (fun ls hl => ?_)
        refine lv_aload_n hx hb dX12_isTrio_64 rfl (lv_at hl 2 rfl) ?_
        refine lv_iload_n hx hb dX12_isTrio_65 rfl (lv_at hl 3 rfl) ?_
        refine lv_iload_n hx hb dX12_isTrio_66 rfl (lv_at hl 4 rfl) ?_
        refine lv_iload hx hb dX12_isTrio_67 (lv_at hl 0 rfl) ?_
        obtain ⟨r_8, hr_9, hf⟩ := op_some hf
        refine mq_calli (va_runV (As := [.int x1, .int x2, .int x6_7]) (rest := []) ⟨hx, hb, hml, hown, hts⟩ (c_X12_isHis l D ad cy x1 x2 x6_7 g hp r_8 hr_9) (cwV 3 hts gX12_isTrio_X12_isHis rfl rfl rfl (by decide +kernel) ⟨Nat.le_of_ble_eq_true rfl, Nat.le_of_ble_eq_true rfl⟩) (mq_preV (q := (RX12, TX12, 26)) mm_zOk0 hK hP hI hZ hS hp rfl) rfl rfl hl.1 rfl (lv_room (Nat.le_of_ble_eq_true rfl)) dX12_isTrio_69 ⟨Nat.le_refl _, Nat.le_refl _⟩) hS (fun H locs hP hS => ?_)
        refine lv_if_eq (tgt := 117) hx hb dX12_isTrio_72 (by decide) (fun c_10 => ?_) (fun c_10 => ?_)
        · replace hf := ite_t c_10 hf
          refine lv_iconst (v := 0) hx hb dX12_isTrio_117 (by decide) ?_
          exact mq_iret hx hb hr (by decide +kernel) hlocks hP hS (Option.some.inj hf) rfl dX12_isTrio_118
        · replace hf := ite_f c_10 hf
          refine lv_aload_n hx hb dX12_isTrio_75 rfl (lv_at hl 2 rfl) ?_
          refine lv_iload_n hx hb dX12_isTrio_76 rfl (lv_at hl 3 rfl) ?_
          refine lv_iload_n hx hb dX12_isTrio_77 rfl (lv_at hl 5 rfl) ?_
          refine lv_iconst (v := 1) hx hb dX12_isTrio_78 (by decide) ?_
          refine lv_iload hx hb dX12_isTrio_79 (lv_at hl 0 rfl) ?_
          refine lv_isub hx hb dX12_isTrio_81 ?_
          obtain ⟨r_11, hr_12, hf⟩ := op_some hf
          refine mq_calli (va_runV (As := [.int x1, .int x3, .int (1 - x6_7)]) (rest := []) ⟨hx, hb, hml, hown, hts⟩ (c_X12_isHis l D ad cy x1 x3 (1 - x6_7) g hp r_11 hr_12) (cwV 3 hts gX12_isTrio_X12_isHis rfl rfl rfl (by decide +kernel) ⟨Nat.le_of_ble_eq_true rfl, Nat.le_of_ble_eq_true rfl⟩) (mq_preV (q := (RX12, TX12, 26)) mm_zOk0 hK hP hI hZ hS hp rfl) rfl rfl hl.1 rfl (lv_room (Nat.le_of_ble_eq_true rfl)) dX12_isTrio_82 ⟨Nat.le_refl _, Nat.le_refl _⟩) hS (fun H locs hP hS => ?_)
          refine lv_if_eq (tgt := 117) hx hb dX12_isTrio_85 (by decide) (fun c_13 => ?_) (fun c_13 => ?_)
          · replace hf := ite_t c_13 hf
            refine lv_iconst (v := 0) hx hb dX12_isTrio_117 (by decide) ?_
            exact mq_iret hx hb hr (by decide +kernel) hlocks hP hS (Option.some.inj hf) rfl dX12_isTrio_118
          · replace hf := ite_f c_13 hf
            refine lv_aload_n hx hb dX12_isTrio_88 rfl (lv_at hl 2 rfl) ?_
            refine lv_iload_n hx hb dX12_isTrio_89 rfl (lv_at hl 3 rfl) ?_
            refine lv_iload hx hb dX12_isTrio_90 (lv_at hl 6 rfl) ?_
            refine lv_iconst (v := 1) hx hb dX12_isTrio_92 (by decide) ?_
            refine lv_iload hx hb dX12_isTrio_93 (lv_at hl 0 rfl) ?_
            refine lv_isub hx hb dX12_isTrio_95 ?_
            obtain ⟨r_14, hr_15, hf⟩ := op_some hf
            refine mq_calli (va_runV (As := [.int x1, .int x4, .int (1 - x6_7)]) (rest := []) ⟨hx, hb, hml, hown, hts⟩ (c_X12_isHis l D ad cy x1 x4 (1 - x6_7) g hp r_14 hr_15) (cwV 3 hts gX12_isTrio_X12_isHis rfl rfl rfl (by decide +kernel) ⟨Nat.le_of_ble_eq_true rfl, Nat.le_of_ble_eq_true rfl⟩) (mq_preV (q := (RX12, TX12, 26)) mm_zOk0 hK hP hI hZ hS hp rfl) rfl rfl hl.1 rfl (lv_room (Nat.le_of_ble_eq_true rfl)) dX12_isTrio_96 ⟨Nat.le_refl _, Nat.le_refl _⟩) hS (fun H locs hP hS => ?_)
            refine lv_if_eq (tgt := 117) hx hb dX12_isTrio_99 (by decide) (fun c_16 => ?_) (fun c_16 => ?_)
            · replace hf := ite_t c_16 hf
              refine lv_iconst (v := 0) hx hb dX12_isTrio_117 (by decide) ?_
              exact mq_iret hx hb hr (by decide +kernel) hlocks hP hS (Option.some.inj hf) rfl dX12_isTrio_118
            · replace hf := ite_f c_16 hf
              refine lv_iload_n hx hb dX12_isTrio_102 rfl (lv_at hl 5 rfl) ?_
              refine lv_iconst (v := (-1)) hx hb dX12_isTrio_103 (by decide) ?_
              refine lv_icmp_eq (tgt := 113) hx hb dX12_isTrio_104 (by decide) (fun c_17 => ?_) (fun c_17 => ?_)
              · replace hf := ite_t c_17 hf
                refine lv_iconst (v := 1) hx hb dX12_isTrio_113 (by decide) ?_
                refine lv_goto (tgt := 118) hx hb dX12_isTrio_114 (by decide) ?_
                exact mq_iret hx hb hr (by decide +kernel) hlocks hP hS (Option.some.inj hf) rfl dX12_isTrio_118
              · replace hf := ite_f c_17 hf
                refine lv_iload_n hx hb dX12_isTrio_107 rfl (lv_at hl 5 rfl) ?_
                refine lv_iload hx hb dX12_isTrio_108 (lv_at hl 6 rfl) ?_
                refine lv_icmp_eq (tgt := 117) hx hb dX12_isTrio_110 (by decide) (fun c_18 => ?_) (fun c_18 => ?_)
                · replace hf := ite_t c_18 hf
                  refine lv_iconst (v := 0) hx hb dX12_isTrio_117 (by decide) ?_
                  exact mq_iret hx hb hr (by decide +kernel) hlocks hP hS (Option.some.inj hf) rfl dX12_isTrio_118
                · replace hf := ite_f c_18 hf
                  refine lv_iconst (v := 1) hx hb dX12_isTrio_113 (by decide) ?_
                  refine lv_goto (tgt := 118) hx hb dX12_isTrio_114 (by decide) ?_
                  exact mq_iret hx hb hr (by decide +kernel) hlocks hP hS (Option.some.inj hf) rfl dX12_isTrio_118
      · replace hf := ite_f c_6 hf
        refine lv_iload_n hx hb dX12_isTrio_26 rfl (lv_at hl 3 rfl) ?_
        refine lv_iconst (v := (-1)) hx hb dX12_isTrio_27 (by decide) ?_
        refine lv_icmp_ne (tgt := 54) hx hb dX12_isTrio_28 (by decide) (fun c_19 => ?_) (fun c_19 => ?_)
        · replace hf := ite_f c_19 hf
          refine lv_iconst (v := 0) hx hb dX12_isTrio_54 (by decide) ?_
          exact mq_iret hx hb hr (by decide +kernel) hlocks hP hS (Option.some.inj hf) rfl dX12_isTrio_55
        · replace hf := ite_t c_19 hf
          refine lv_iload hx hb dX12_isTrio_31 (lv_at hl 5 rfl) ?_
          refine lv_iconst (v := (-1)) hx hb dX12_isTrio_33 (by decide) ?_
          refine lv_icmp_ne (tgt := 54) hx hb dX12_isTrio_34 (by decide) (fun c_20 => ?_) (fun c_20 => ?_)
          · replace hf := ite_f c_20 hf
            refine lv_iconst (v := 0) hx hb dX12_isTrio_54 (by decide) ?_
            exact mq_iret hx hb hr (by decide +kernel) hlocks hP hS (Option.some.inj hf) rfl dX12_isTrio_55
          · replace hf := ite_t c_20 hf
            refine lv_aload_n hx hb dX12_isTrio_37 rfl (lv_at hl 1 rfl) ?_
            refine lv_iload_n hx hb dX12_isTrio_38 rfl (lv_at hl 2 rfl) ?_
            refine lv_iload_n hx hb dX12_isTrio_39 rfl (lv_at hl 4 rfl) ?_
            refine lv_iload hx hb dX12_isTrio_40 (lv_at hl 0 rfl) ?_
            refine lv_iconst (v := 1) hx hb dX12_isTrio_42 (by decide) ?_
            refine lv_isub hx hb dX12_isTrio_43 ?_
            obtain ⟨r_21, hr_22, hf⟩ := op_some hf
            refine mq_calli (va_runV (As := [.int x1, .int x3, .int (x5_5 - 1)]) (rest := []) ⟨hx, hb, hml, hown, hts⟩ (c_X12_isHis l D ad cy x1 x3 (x5_5 - 1) g hp r_21 hr_22) (cwV 3 hts gX12_isTrio_X12_isHis rfl rfl rfl (by decide +kernel) ⟨Nat.le_of_ble_eq_true rfl, Nat.le_of_ble_eq_true rfl⟩) (mq_preV (q := (RX12, TX12, 26)) mm_zOk0 hK hP hI hZ hS hp rfl) rfl rfl hl.1 rfl (lv_room (Nat.le_of_ble_eq_true rfl)) dX12_isTrio_44 ⟨Nat.le_refl _, Nat.le_refl _⟩) hS (fun H locs hP hS => ?_)
            refine lv_if_eq (tgt := 54) hx hb dX12_isTrio_47 (by decide) (fun c_23 => ?_) (fun c_23 => ?_)
            · replace hf := ite_t c_23 hf
              refine lv_iconst (v := 0) hx hb dX12_isTrio_54 (by decide) ?_
              exact mq_iret hx hb hr (by decide +kernel) hlocks hP hS (Option.some.inj hf) rfl dX12_isTrio_55
            · replace hf := ite_f c_23 hf
              refine lv_iconst (v := 1) hx hb dX12_isTrio_50 (by decide) ?_
              refine lv_goto (tgt := 55) hx hb dX12_isTrio_51 (by decide) ?_
              exact mq_iret hx hb hr (by decide +kernel) hlocks hP hS (Option.some.inj hf) rfl dX12_isTrio_55
    · replace hf := ite_t c_3 hf
      refine lv_iconst (v := 0) hx hb dX12_isTrio_8 (by decide) ?_
      exact mq_iret hx hb hr (by decide +kernel) hlocks hP hS (Option.some.inj hf) rfl dX12_isTrio_9
  exact hH9 s.heap [] rfl rfl hP hS
abbrev rm_X12_sum : Room := ({ frames := 2, cells := 0, slots := 0, locals := 49 } : Room)
set_option maxHeartbeats 4000000 in
set_option maxRecDepth 100000 in
theorem c_X12_sum (l : Launch) (D : va_G) (ad : Nat → Nat) (cy : Nat → ClassId) (x1 : Int32) (x2 : Int32) (x3 : Int32) (x4 : Int32) (x5 : Int32) (g : Mm) (hp : TM[0]? = some sX12) (g' : Mm) (hf : f_X12_sum x1 x2 x3 x4 x5 g = some g') : Met l yX12_sum wsX12_sum rm_X12_sum (va_Pc [.ref (ad 0), .int x1, .int x2, .int x3, .int x4, .int x5] (mm_pre mm_Z0 D TM ad cy g)) (mm_Qv D TM ad cy g') 0 0 (mm_A TM ad) := by
  refine Met.ofW (cc := cX12_sum) (maxL := 9) (ret := none) (by decide) rfl ?_
  intro p e s m args below meth c s₁ B hml hv
  obtain ⟨hargs, hP, hK, hI, hZ⟩ := hv
  have hx := B.exec
  have hb := B.bytes
  have hr := B.returns
  have hts := atoms_spec (ws := wsX12_sum) B.pre
  have hown : s.vm.findClass RX12 = some m.cls := findClass_of_methodNamed B.named
  have hlocks := B.notSynchronized
  have hw0 := hts (.fieldLink RX12 31 "LeftShoesModel" "going" "[I") (by decide +kernel)
  have hiX12 : ∀ w ∈ wsX120, w ∈ wsX12_sum := by decide +kernel
  have hw2 := hts (.fieldLink RX12 7 "LeftShoesModel" "now" "[I") (by decide +kernel)
  have hw3 := hts (.fieldLink RX12 34 "LeftShoesModel" "costs" "[I") (by decide +kernel)
  have hw4 := hts (.fieldLink RX12 37 "LeftShoesModel" "times" "[I") (by decide +kernel)
  have hw5 := hts (.fieldLink RX12 40 "LeftShoesModel" "wornA" "[I") (by decide +kernel)
  have hw6 := hts (.fieldLink RX12 43 "LeftShoesModel" "wornB" "[I") (by decide +kernel)
  have hw7 := hts (.fieldLink RX12 46 "LeftShoesModel" "wornC" "[I") (by decide +kernel)
  have hw8 := hts (.fieldLink RX12 49 "LeftShoesModel" "bares" "[I") (by decide +kernel)
  have hw9 := hts (.fieldLink RX12 52 "LeftShoesModel" "hops" "[I") (by decide +kernel)
  rw [show entryFrame m args 9 = F0 m 0 ((lg_sl ([.ref (ad 0), .int x1, .int x2, .int x3, .int x4, .int x5] : List Value) ++ List.replicate (9 - (lg_sl ([.ref (ad 0), .int x1, .int x2, .int x3, .int x4, .int x5] : List Value)).length) Slot.unset).toArray) [] from by rw [hargs]; exact lg_entry_eq m _ _]
  have hl := lv_entry ([.ref (ad 0), .int x1, .int x2, .int x3, .int x4, .int x5] : List Value) (n := 9) (by exact Nat.le_of_ble_eq_true rfl)
  generalize (lg_sl ([.ref (ad 0), .int x1, .int x2, .int x3, .int x4, .int x5] : List Value) ++ List.replicate (9 - (lg_sl ([.ref (ad 0), .int x1, .int x2, .int x3, .int x4, .int x5] : List Value)).length) Slot.unset).toArray = ls at hl ⊢
  have hl : lv_has ls 9 [(0, .ref (ad 0)), (1, .int x1), (2, .int x2), (3, .int x3), (4, .int x4), (5, .int x5)] := by exact hl
  have hS : va_S (mm_A TM ad) s.heap s.heap [] := va_S.rf
  clear hargs
  have hc338 : ∀ (sq0 : Nat) (sx1 : Int32) (sx2 : Int32) (g : Mm) (H : Heap) (locs : List Loc) (ls : Array Slot), TM[sq0]? = some (.inr (10, 0, none) : Shp) → va_P D vwCl (mm_L TM ad cy g) H → va_S (mm_A TM ad) s.heap H locs → lv_has ls 9 [(0, .ref (ad 0)), (1, .int x1), (2, .int x2), (3, .int x3), (4, .int x4), (5, .int x5)] → f_X12_sum_c338 sq0 sx1 sx2 g = some g' → W p l e (headSpec wsX12_sum (rm_X12_sum)).room s m args below meth c H locs 0 0 (MQ below (mm_Qv D TM ad cy g') args s 0 0 (mm_A TM ad)) (F0 m 338 ls [.int sx2, .int sx1, .ref (ad sq0)]) := by
    intro sq0 sx1 sx2 g H locs ls hsq0 hP hS hl hf
    unfold f_X12_sum_c338 at hf
    obtain ⟨h_39, hf⟩ := og_some hf
    obtain ⟨g_40, eg_40, hf⟩ := mw_some hf
    refine mq_iast hx hb hK hI hP hS (N := 10) hsq0 h_39 dX12_sum_338 eg_40 (fun H locs hP hS => ?_)
    exact mq_vret hx hb hr hlocks hP hS (Option.some.inj hf) dX12_sum_339
  have hc309 : ∀ (x6 : Int32) (sq0 : Nat) (sx1 : Int32) (sx2 : Int32) (sx3 : Int32) (g : Mm) (H : Heap) (locs : List Loc) (ls : Array Slot), TM[sq0]? = some (.inr (10, 0, none) : Shp) → va_P D vwCl (mm_L TM ad cy g) H → va_S (mm_A TM ad) s.heap H locs → lv_has ls 9 [(0, .ref (ad 0)), (1, .int x1), (2, .int x2), (3, .int x3), (4, .int x4), (5, .int x5), (6, .int x6)] → f_X12_sum_c309 x5 x6 sq0 sx1 sx2 sx3 g = some g' → W p l e (headSpec wsX12_sum (rm_X12_sum)).room s m args below meth c H locs 0 0 (MQ below (mm_Qv D TM ad cy g') args s 0 0 (mm_A TM ad)) (F0 m 309 ls [.int sx3, .int sx2, .int sx1, .ref (ad sq0)]) := by
    intro x6 sq0 sx1 sx2 sx3 g H locs ls hsq0 hP hS hl hf
    unfold f_X12_sum_c309 at hf
    refine lv_iadd hx hb dX12_sum_309 ?_
    obtain ⟨h_36, hf⟩ := og_some hf
    obtain ⟨g_37, eg_37, hf⟩ := mw_some hf
    refine mq_iast hx hb hK hI hP hS (N := 10) hsq0 h_36 dX12_sum_310 eg_37 (fun H locs hP hS => ?_)
    refine lv_aload_n hx hb dX12_sum_311 rfl (lv_at hl 0 rfl) ?_
    refine mq_getr (Tt := TX12) (N := 26) (C := RX12) hx hb hts hiX12 hown hK hP hp rfl 17 15 (by decide) rfl hw9 (fun _ h9 => h9) dX12_sum_312 ?_
    refine lv_iload hx hb dX12_sum_315 (lv_at hl 5 rfl) ?_
    refine lv_iconst (v := 1) hx hb dX12_sum_317 (by decide) ?_
    refine lv_iadd hx hb dX12_sum_318 ?_
    refine lv_iload hx hb dX12_sum_319 (lv_at hl 6 rfl) ?_
    refine lv_iconst (v := 2) hx hb dX12_sum_321 (by decide) ?_
    refine lv_icmp_ne (tgt := 337) hx hb dX12_sum_322 (by decide) (fun c_38 => ?_) (fun c_38 => ?_)
    · replace hf := ite_f c_38 hf
      refine lv_iconst (v := 0) hx hb dX12_sum_337 (by decide) ?_
      exact hc338 15 (x5 + 1) 0 g_37 H locs ls (shTM_X12_15 hp) hP hS (lv_sub hl [0, 1, 2, 3, 4, 5] rfl) hf
    · replace hf := ite_t c_38 hf
      refine lv_aload_n hx hb dX12_sum_325 rfl (lv_at hl 0 rfl) ?_
      refine mq_getr (Tt := TX12) (N := 26) (C := RX12) hx hb hts hiX12 hown hK hP hp rfl 17 15 (by decide) rfl hw9 (fun _ h9 => h9) dX12_sum_326 ?_
      refine lv_iload hx hb dX12_sum_329 (lv_at hl 5 rfl) ?_
      obtain ⟨h_41, hf⟩ := og_some hf
      refine mq_iald hx hb hK hP (N := 10) (shTM_X12_15 hp) h_41 dX12_sum_331 ?_
      refine lv_iconst (v := 1) hx hb dX12_sum_332 (by decide) ?_
      refine lv_iadd hx hb dX12_sum_333 ?_
      refine lv_goto (tgt := 338) hx hb dX12_sum_334 (by decide) ?_
      exact hc338 15 (x5 + 1) ((g_37 15 x5.toNatClampNeg) + 1) g_37 H locs ls (shTM_X12_15 hp) hP hS (lv_sub hl [0, 1, 2, 3, 4, 5] rfl) hf
  have hc281 : ∀ (x6 : Int32) (sq0 : Nat) (sx1 : Int32) (sx2 : Int32) (sx3 : Int32) (g : Mm) (H : Heap) (locs : List Loc) (ls : Array Slot), TM[sq0]? = some (.inr (10, 0, none) : Shp) → va_P D vwCl (mm_L TM ad cy g) H → va_S (mm_A TM ad) s.heap H locs → lv_has ls 9 [(0, .ref (ad 0)), (1, .int x1), (2, .int x2), (3, .int x3), (4, .int x4), (5, .int x5), (6, .int x6)] → f_X12_sum_c281 x5 x6 sq0 sx1 sx2 sx3 g = some g' → W p l e (headSpec wsX12_sum (rm_X12_sum)).room s m args below meth c H locs 0 0 (MQ below (mm_Qv D TM ad cy g') args s 0 0 (mm_A TM ad)) (F0 m 281 ls [.int sx3, .int sx2, .int sx1, .ref (ad sq0)]) := by
    intro x6 sq0 sx1 sx2 sx3 g H locs ls hsq0 hP hS hl hf
    unfold f_X12_sum_c281 at hf
    refine lv_iadd hx hb dX12_sum_281 ?_
    obtain ⟨h_32, hf⟩ := og_some hf
    obtain ⟨g_33, eg_33, hf⟩ := mw_some hf
    refine mq_iast hx hb hK hI hP hS (N := 10) hsq0 h_32 dX12_sum_282 eg_33 (fun H locs hP hS => ?_)
    refine lv_aload_n hx hb dX12_sum_283 rfl (lv_at hl 0 rfl) ?_
    refine mq_getr (Tt := TX12) (N := 26) (C := RX12) hx hb hts hiX12 hown hK hP hp rfl 16 14 (by decide) rfl hw8 (fun _ h9 => h9) dX12_sum_284 ?_
    refine lv_iload hx hb dX12_sum_287 (lv_at hl 5 rfl) ?_
    refine lv_iconst (v := 1) hx hb dX12_sum_289 (by decide) ?_
    refine lv_iadd hx hb dX12_sum_290 ?_
    refine lv_aload_n hx hb dX12_sum_291 rfl (lv_at hl 0 rfl) ?_
    refine mq_getr (Tt := TX12) (N := 26) (C := RX12) hx hb hts hiX12 hown hK hP hp rfl 16 14 (by decide) rfl hw8 (fun _ h9 => h9) dX12_sum_292 ?_
    refine lv_iload hx hb dX12_sum_295 (lv_at hl 5 rfl) ?_
    obtain ⟨h_34, hf⟩ := og_some hf
    refine mq_iald hx hb hK hP (N := 10) (shTM_X12_14 hp) h_34 dX12_sum_297 ?_
    refine lv_iload hx hb dX12_sum_298 (lv_at hl 6 rfl) ?_
    refine lv_iconst (v := 3) hx hb dX12_sum_300 (by decide) ?_
    refine lv_icmp_ne (tgt := 308) hx hb dX12_sum_301 (by decide) (fun c_35 => ?_) (fun c_35 => ?_)
    · replace hf := ite_f c_35 hf
      refine lv_iconst (v := 0) hx hb dX12_sum_308 (by decide) ?_
      exact hc309 x6 14 (x5 + 1) (g_33 14 x5.toNatClampNeg) 0 g_33 H locs ls (shTM_X12_14 hp) hP hS (lv_sub hl [0, 1, 2, 3, 4, 5, 6] rfl) hf
    · replace hf := ite_t c_35 hf
      refine lv_iconst (v := 1) hx hb dX12_sum_304 (by decide) ?_
      refine lv_goto (tgt := 309) hx hb dX12_sum_305 (by decide) ?_
      exact hc309 x6 14 (x5 + 1) (g_33 14 x5.toNatClampNeg) 1 g_33 H locs ls (shTM_X12_14 hp) hP hS (lv_sub hl [0, 1, 2, 3, 4, 5, 6] rfl) hf
  have hc248 : ∀ (x6 : Int32) (sq0 : Nat) (sx1 : Int32) (sx2 : Int32) (sx3 : Int32) (g : Mm) (H : Heap) (locs : List Loc) (ls : Array Slot), TM[sq0]? = some (.inr (10, 0, none) : Shp) → va_P D vwCl (mm_L TM ad cy g) H → va_S (mm_A TM ad) s.heap H locs → lv_has ls 9 [(0, .ref (ad 0)), (1, .int x1), (2, .int x2), (3, .int x3), (4, .int x4), (5, .int x5), (6, .int x6)] → f_X12_sum_c248 x4 x5 x6 sq0 sx1 sx2 sx3 g = some g' → W p l e (headSpec wsX12_sum (rm_X12_sum)).room s m args below meth c H locs 0 0 (MQ below (mm_Qv D TM ad cy g') args s 0 0 (mm_A TM ad)) (F0 m 248 ls [.int sx3, .int sx2, .int sx1, .ref (ad sq0)]) := by
    intro x6 sq0 sx1 sx2 sx3 g H locs ls hsq0 hP hS hl hf
    unfold f_X12_sum_c248 at hf
    refine lv_iadd hx hb dX12_sum_248 ?_
    obtain ⟨h_28, hf⟩ := og_some hf
    obtain ⟨g_29, eg_29, hf⟩ := mw_some hf
    refine mq_iast hx hb hK hI hP hS (N := 10) hsq0 h_28 dX12_sum_249 eg_29 (fun H locs hP hS => ?_)
    refine lv_aload_n hx hb dX12_sum_250 rfl (lv_at hl 0 rfl) ?_
    refine mq_getr (Tt := TX12) (N := 26) (C := RX12) hx hb hts hiX12 hown hK hP hp rfl 15 13 (by decide) rfl hw7 (fun _ h9 => h9) dX12_sum_251 ?_
    refine lv_iload hx hb dX12_sum_254 (lv_at hl 5 rfl) ?_
    refine lv_iconst (v := 1) hx hb dX12_sum_256 (by decide) ?_
    refine lv_iadd hx hb dX12_sum_257 ?_
    refine lv_aload_n hx hb dX12_sum_258 rfl (lv_at hl 0 rfl) ?_
    refine mq_getr (Tt := TX12) (N := 26) (C := RX12) hx hb hts hiX12 hown hK hP hp rfl 15 13 (by decide) rfl hw7 (fun _ h9 => h9) dX12_sum_259 ?_
    refine lv_iload hx hb dX12_sum_262 (lv_at hl 5 rfl) ?_
    obtain ⟨h_30, hf⟩ := og_some hf
    refine mq_iald hx hb hK hP (N := 10) (shTM_X12_13 hp) h_30 dX12_sum_264 ?_
    refine lv_iload hx hb dX12_sum_265 (lv_at hl 6 rfl) ?_
    refine lv_iconst (v := 1) hx hb dX12_sum_267 (by decide) ?_
    refine lv_icmp_ne (tgt := 280) hx hb dX12_sum_268 (by decide) (fun c_31 => ?_) (fun c_31 => ?_)
    · replace hf := ite_f c_31 hf
      refine lv_iconst (v := 0) hx hb dX12_sum_280 (by decide) ?_
      exact hc281 x6 13 (x5 + 1) (g_29 13 x5.toNatClampNeg) 0 g_29 H locs ls (shTM_X12_13 hp) hP hS (lv_sub hl [0, 1, 2, 3, 4, 5, 6] rfl) hf
    · replace hf := ite_t c_31 hf
      refine lv_aload_n hx hb dX12_sum_271 rfl (lv_at hl 0 rfl) ?_
      refine lv_iload hx hb dX12_sum_272 (lv_at hl 4 rfl) ?_
      obtain ⟨r_42, hr_43, hf⟩ := op_some hf
      refine mq_calli (va_runV (As := [.int x4]) (rest := [.int (g_29 13 x5.toNatClampNeg), .int (x5 + 1), .ref (ad 13)]) ⟨hx, hb, hml, hown, hts⟩ (c_X12_wear l D ad cy x4 g_29 hp r_42 hr_43) (cwV 1 hts gX12_sum_X12_wear rfl rfl rfl (by decide +kernel) ⟨Nat.le_of_ble_eq_true rfl, Nat.le_of_ble_eq_true rfl⟩) (mq_preV (q := (RX12, TX12, 26)) mm_zOk0 hK hP hI hZ hS hp rfl) rfl rfl hl.1 rfl (lv_room (Nat.le_of_ble_eq_true rfl)) dX12_sum_274 ⟨Nat.le_refl _, Nat.le_refl _⟩) hS (fun H locs hP hS => ?_)
      refine lv_goto (tgt := 281) hx hb dX12_sum_277 (by decide) ?_
      exact hc281 x6 13 (x5 + 1) (g_29 13 x5.toNatClampNeg) r_42 g_29 H locs ls (shTM_X12_13 hp) hP hS (lv_sub hl [0, 1, 2, 3, 4, 5, 6] rfl) hf
  have hc200 : ∀ (x6 : Int32) (sq0 : Nat) (sx1 : Int32) (sx2 : Int32) (sx3 : Int32) (g : Mm) (H : Heap) (locs : List Loc) (ls : Array Slot), TM[sq0]? = some (.inr (10, 0, none) : Shp) → va_P D vwCl (mm_L TM ad cy g) H → va_S (mm_A TM ad) s.heap H locs → lv_has ls 9 [(0, .ref (ad 0)), (1, .int x1), (2, .int x2), (3, .int x3), (4, .int x4), (5, .int x5), (6, .int x6)] → f_X12_sum_c200 x3 x4 x5 x6 sq0 sx1 sx2 sx3 g = some g' → W p l e (headSpec wsX12_sum (rm_X12_sum)).room s m args below meth c H locs 0 0 (MQ below (mm_Qv D TM ad cy g') args s 0 0 (mm_A TM ad)) (F0 m 200 ls [.int sx3, .int sx2, .int sx1, .ref (ad sq0)]) := by
    intro x6 sq0 sx1 sx2 sx3 g H locs ls hsq0 hP hS hl hf
    unfold f_X12_sum_c200 at hf
    refine lv_iadd hx hb dX12_sum_200 ?_
    obtain ⟨h_21, hf⟩ := og_some hf
    obtain ⟨g_22, eg_22, hf⟩ := mw_some hf
    refine mq_iast hx hb hK hI hP hS (N := 10) hsq0 h_21 dX12_sum_201 eg_22 (fun H locs hP hS => ?_)
    refine lv_aload_n hx hb dX12_sum_202 rfl (lv_at hl 0 rfl) ?_
    refine mq_getr (Tt := TX12) (N := 26) (C := RX12) hx hb hts hiX12 hown hK hP hp rfl 14 12 (by decide) rfl hw6 (fun _ h9 => h9) dX12_sum_203 ?_
    refine lv_iload hx hb dX12_sum_206 (lv_at hl 5 rfl) ?_
    refine lv_iconst (v := 1) hx hb dX12_sum_208 (by decide) ?_
    refine lv_iadd hx hb dX12_sum_209 ?_
    refine lv_aload_n hx hb dX12_sum_210 rfl (lv_at hl 0 rfl) ?_
    refine mq_getr (Tt := TX12) (N := 26) (C := RX12) hx hb hts hiX12 hown hK hP hp rfl 14 12 (by decide) rfl hw6 (fun _ h9 => h9) dX12_sum_211 ?_
    refine lv_iload hx hb dX12_sum_214 (lv_at hl 5 rfl) ?_
    obtain ⟨h_23, hf⟩ := og_some hf
    refine mq_iald hx hb hK hP (N := 10) (shTM_X12_12 hp) h_23 dX12_sum_216 ?_
    refine lv_iload hx hb dX12_sum_217 (lv_at hl 6 rfl) ?_
    refine lv_iconst (v := 3) hx hb dX12_sum_219 (by decide) ?_
    refine lv_icmp_ne (tgt := 227) hx hb dX12_sum_220 (by decide) (fun c_24 => ?_) (fun c_24 => ?_)
    · replace hf := ite_f c_24 hf
      refine lv_iload hx hb dX12_sum_227 (lv_at hl 6 rfl) ?_
      refine lv_iconst (v := 2) hx hb dX12_sum_229 (by decide) ?_
      refine lv_icmp_ne (tgt := 243) hx hb dX12_sum_230 (by decide) (fun c_25 => ?_) (fun c_25 => ?_)
      · replace hf := ite_f c_25 hf
        refine lv_aload_n hx hb dX12_sum_243 rfl (lv_at hl 0 rfl) ?_
        refine lv_iload_n hx hb dX12_sum_244 rfl (lv_at hl 3 rfl) ?_
        obtain ⟨r_26, hr_27, hf⟩ := op_some hf
        refine mq_calli (va_runV (As := [.int x3]) (rest := [.int (g_22 12 x5.toNatClampNeg), .int (x5 + 1), .ref (ad 12)]) ⟨hx, hb, hml, hown, hts⟩ (c_X12_wear l D ad cy x3 g_22 hp r_26 hr_27) (cwV 1 hts gX12_sum_X12_wear rfl rfl rfl (by decide +kernel) ⟨Nat.le_of_ble_eq_true rfl, Nat.le_of_ble_eq_true rfl⟩) (mq_preV (q := (RX12, TX12, 26)) mm_zOk0 hK hP hI hZ hS hp rfl) rfl rfl hl.1 rfl (lv_room (Nat.le_of_ble_eq_true rfl)) dX12_sum_245 ⟨Nat.le_refl _, Nat.le_refl _⟩) hS (fun H locs hP hS => ?_)
        exact hc248 x6 12 (x5 + 1) (g_22 12 x5.toNatClampNeg) r_26 g_22 H locs ls (shTM_X12_12 hp) hP hS (lv_sub hl [0, 1, 2, 3, 4, 5, 6] rfl) hf
      · replace hf := ite_t c_25 hf
        refine lv_iconst (v := 2) hx hb dX12_sum_233 (by decide) ?_
        refine lv_aload_n hx hb dX12_sum_234 rfl (lv_at hl 0 rfl) ?_
        refine lv_iload_n hx hb dX12_sum_235 rfl (lv_at hl 3 rfl) ?_
        obtain ⟨r_44, hr_45, hf⟩ := op_some hf
        refine mq_calli (va_runV (As := [.int x3]) (rest := [.int 2, .int (g_22 12 x5.toNatClampNeg), .int (x5 + 1), .ref (ad 12)]) ⟨hx, hb, hml, hown, hts⟩ (c_X12_wear l D ad cy x3 g_22 hp r_44 hr_45) (cwV 1 hts gX12_sum_X12_wear rfl rfl rfl (by decide +kernel) ⟨Nat.le_of_ble_eq_true rfl, Nat.le_of_ble_eq_true rfl⟩) (mq_preV (q := (RX12, TX12, 26)) mm_zOk0 hK hP hI hZ hS hp rfl) rfl rfl hl.1 rfl (lv_room (Nat.le_of_ble_eq_true rfl)) dX12_sum_236 ⟨Nat.le_refl _, Nat.le_refl _⟩) hS (fun H locs hP hS => ?_)
        refine lv_imul hx hb dX12_sum_239 ?_
        refine lv_goto (tgt := 248) hx hb dX12_sum_240 (by decide) ?_
        exact hc248 x6 12 (x5 + 1) (g_22 12 x5.toNatClampNeg) (2 * r_44) g_22 H locs ls (shTM_X12_12 hp) hP hS (lv_sub hl [0, 1, 2, 3, 4, 5, 6] rfl) hf
    · replace hf := ite_t c_24 hf
      refine lv_iconst (v := 0) hx hb dX12_sum_223 (by decide) ?_
      refine lv_goto (tgt := 248) hx hb dX12_sum_224 (by decide) ?_
      exact hc248 x6 12 (x5 + 1) (g_22 12 x5.toNatClampNeg) 0 g_22 H locs ls (shTM_X12_12 hp) hP hS (lv_sub hl [0, 1, 2, 3, 4, 5, 6] rfl) hf
  have hc166 : ∀ (x6 : Int32) (sq0 : Nat) (sx1 : Int32) (sx2 : Int32) (sx4 : Int32) (sx5 : Int32) (sx6 : Int32) (sx7 : Int32) (g : Mm) (H : Heap) (locs : List Loc) (ls : Array Slot), TM[sq0]? = some (.inr (10, 0, none) : Shp) → va_P D vwCl (mm_L TM ad cy g) H → va_S (mm_A TM ad) s.heap H locs → lv_has ls 9 [(0, .ref (ad 0)), (1, .int x1), (2, .int x2), (3, .int x3), (4, .int x4), (5, .int x5), (6, .int x6)] → f_X12_sum_c166 x2 x3 x4 x5 x6 sq0 sx1 sx2 sx4 sx5 sx6 sx7 g = some g' → W p l e (headSpec wsX12_sum (rm_X12_sum)).room s m args below meth c H locs 0 0 (MQ below (mm_Qv D TM ad cy g') args s 0 0 (mm_A TM ad)) (F0 m 166 ls [.int sx7, .int sx6, .int sx5, .int sx4, .ref (ad 0), .int sx2, .int sx1, .ref (ad sq0)]) := by
    intro x6 sq0 sx1 sx2 sx4 sx5 sx6 sx7 g H locs ls hsq0 hP hS hl hf
    unfold f_X12_sum_c166 at hf
    obtain ⟨r_15, hr_16, hf⟩ := op_some hf
    refine mq_calli (va_runV (As := [.int sx4, .int sx5, .int sx6, .int sx7]) (rest := [.int sx2, .int sx1, .ref (ad sq0)]) ⟨hx, hb, hml, hown, hts⟩ (c_X12_minutesOf l D ad cy sx4 sx5 sx6 sx7 g hp r_15 hr_16) (cwV 4 hts gX12_sum_X12_minutesOf rfl rfl rfl (by decide +kernel) ⟨Nat.le_of_ble_eq_true rfl, Nat.le_of_ble_eq_true rfl⟩) (mq_preV (q := (RX12, TX12, 26)) mm_zOk0 hK hP hI hZ hS hp rfl) rfl rfl hl.1 rfl (lv_room (Nat.le_of_ble_eq_true rfl)) dX12_sum_166 ⟨Nat.le_refl _, Nat.le_refl _⟩) hS (fun H locs hP hS => ?_)
    refine lv_iadd hx hb dX12_sum_169 ?_
    obtain ⟨h_17, hf⟩ := og_some hf
    obtain ⟨g_18, eg_18, hf⟩ := mw_some hf
    refine mq_iast hx hb hK hI hP hS (N := 10) hsq0 h_17 dX12_sum_170 eg_18 (fun H locs hP hS => ?_)
    refine lv_aload_n hx hb dX12_sum_171 rfl (lv_at hl 0 rfl) ?_
    refine mq_getr (Tt := TX12) (N := 26) (C := RX12) hx hb hts hiX12 hown hK hP hp rfl 13 11 (by decide) rfl hw5 (fun _ h9 => h9) dX12_sum_172 ?_
    refine lv_iload hx hb dX12_sum_175 (lv_at hl 5 rfl) ?_
    refine lv_iconst (v := 1) hx hb dX12_sum_177 (by decide) ?_
    refine lv_iadd hx hb dX12_sum_178 ?_
    refine lv_aload_n hx hb dX12_sum_179 rfl (lv_at hl 0 rfl) ?_
    refine mq_getr (Tt := TX12) (N := 26) (C := RX12) hx hb hts hiX12 hown hK hP hp rfl 13 11 (by decide) rfl hw5 (fun _ h9 => h9) dX12_sum_180 ?_
    refine lv_iload hx hb dX12_sum_183 (lv_at hl 5 rfl) ?_
    obtain ⟨h_19, hf⟩ := og_some hf
    refine mq_iald hx hb hK hP (N := 10) (shTM_X12_11 hp) h_19 dX12_sum_185 ?_
    refine lv_iload hx hb dX12_sum_186 (lv_at hl 6 rfl) ?_
    refine lv_if_ne (tgt := 199) hx hb dX12_sum_188 (by decide) (fun c_20 => ?_) (fun c_20 => ?_)
    · replace hf := ite_f c_20 hf
      refine lv_iconst (v := 0) hx hb dX12_sum_199 (by decide) ?_
      exact hc200 x6 11 (x5 + 1) (g_18 11 x5.toNatClampNeg) 0 g_18 H locs ls (shTM_X12_11 hp) hP hS (lv_sub hl [0, 1, 2, 3, 4, 5, 6] rfl) hf
    · replace hf := ite_t c_20 hf
      refine lv_aload_n hx hb dX12_sum_191 rfl (lv_at hl 0 rfl) ?_
      refine lv_iload_n hx hb dX12_sum_192 rfl (lv_at hl 2 rfl) ?_
      obtain ⟨r_46, hr_47, hf⟩ := op_some hf
      refine mq_calli (va_runV (As := [.int x2]) (rest := [.int (g_18 11 x5.toNatClampNeg), .int (x5 + 1), .ref (ad 11)]) ⟨hx, hb, hml, hown, hts⟩ (c_X12_wear l D ad cy x2 g_18 hp r_46 hr_47) (cwV 1 hts gX12_sum_X12_wear rfl rfl rfl (by decide +kernel) ⟨Nat.le_of_ble_eq_true rfl, Nat.le_of_ble_eq_true rfl⟩) (mq_preV (q := (RX12, TX12, 26)) mm_zOk0 hK hP hI hZ hS hp rfl) rfl rfl hl.1 rfl (lv_room (Nat.le_of_ble_eq_true rfl)) dX12_sum_193 ⟨Nat.le_refl _, Nat.le_refl _⟩) hS (fun H locs hP hS => ?_)
      refine lv_goto (tgt := 200) hx hb dX12_sum_196 (by decide) ?_
      exact hc200 x6 11 (x5 + 1) (g_18 11 x5.toNatClampNeg) r_46 g_18 H locs ls (shTM_X12_11 hp) hP hS (lv_sub hl [0, 1, 2, 3, 4, 5, 6] rfl) hf
  have hc145 : ∀ (x6 : Int32) (sq0 : Nat) (sx1 : Int32) (sx2 : Int32) (sx4 : Int32) (sx5 : Int32) (sx6 : Int32) (g : Mm) (H : Heap) (locs : List Loc) (ls : Array Slot), TM[sq0]? = some (.inr (10, 0, none) : Shp) → va_P D vwCl (mm_L TM ad cy g) H → va_S (mm_A TM ad) s.heap H locs → lv_has ls 9 [(0, .ref (ad 0)), (1, .int x1), (2, .int x2), (3, .int x3), (4, .int x4), (5, .int x5), (6, .int x6)] → f_X12_sum_c145 x2 x3 x4 x5 x6 sq0 sx1 sx2 sx4 sx5 sx6 g = some g' → W p l e (headSpec wsX12_sum (rm_X12_sum)).room s m args below meth c H locs 0 0 (MQ below (mm_Qv D TM ad cy g') args s 0 0 (mm_A TM ad)) (F0 m 145 ls [.int sx6, .int sx5, .int sx4, .ref (ad 0), .int sx2, .int sx1, .ref (ad sq0)]) := by
    intro x6 sq0 sx1 sx2 sx4 sx5 sx6 g H locs ls hsq0 hP hS hl hf
    unfold f_X12_sum_c145 at hf
    refine lv_iload hx hb dX12_sum_145 (lv_at hl 6 rfl) ?_
    refine lv_if_ne (tgt := 154) hx hb dX12_sum_147 (by decide) (fun c_13 => ?_) (fun c_13 => ?_)
    · replace hf := ite_f c_13 hf
      refine lv_iload hx hb dX12_sum_154 (lv_at hl 6 rfl) ?_
      refine lv_iconst (v := 1) hx hb dX12_sum_156 (by decide) ?_
      refine lv_icmp_ne (tgt := 165) hx hb dX12_sum_157 (by decide) (fun c_14 => ?_) (fun c_14 => ?_)
      · replace hf := ite_f c_14 hf
        refine lv_iconst (v := (-1)) hx hb dX12_sum_165 (by decide) ?_
        exact hc166 x6 sq0 sx1 sx2 sx4 sx5 sx6 (-1) g H locs ls hsq0 hP hS (lv_sub hl [0, 1, 2, 3, 4, 5, 6] rfl) hf
      · replace hf := ite_t c_14 hf
        refine lv_iload hx hb dX12_sum_160 (lv_at hl 4 rfl) ?_
        refine lv_goto (tgt := 166) hx hb dX12_sum_162 (by decide) ?_
        exact hc166 x6 sq0 sx1 sx2 sx4 sx5 sx6 x4 g H locs ls hsq0 hP hS (lv_sub hl [0, 1, 2, 3, 4, 5, 6] rfl) hf
    · replace hf := ite_t c_13 hf
      refine lv_iload_n hx hb dX12_sum_150 rfl (lv_at hl 3 rfl) ?_
      refine lv_goto (tgt := 166) hx hb dX12_sum_151 (by decide) ?_
      exact hc166 x6 sq0 sx1 sx2 sx4 sx5 sx6 x3 g H locs ls hsq0 hP hS (lv_sub hl [0, 1, 2, 3, 4, 5, 6] rfl) hf
  have hc103 : ∀ (x6 : Int32) (sq0 : Nat) (sx1 : Int32) (sx2 : Int32) (sx3 : Int32) (g : Mm) (H : Heap) (locs : List Loc) (ls : Array Slot), TM[sq0]? = some (.inr (10, 0, none) : Shp) → va_P D vwCl (mm_L TM ad cy g) H → va_S (mm_A TM ad) s.heap H locs → lv_has ls 9 [(0, .ref (ad 0)), (1, .int x1), (2, .int x2), (3, .int x3), (4, .int x4), (5, .int x5), (6, .int x6)] → f_X12_sum_c103 x2 x3 x4 x5 x6 sq0 sx1 sx2 sx3 g = some g' → W p l e (headSpec wsX12_sum (rm_X12_sum)).room s m args below meth c H locs 0 0 (MQ below (mm_Qv D TM ad cy g') args s 0 0 (mm_A TM ad)) (F0 m 103 ls [.int sx3, .int sx2, .int sx1, .ref (ad sq0)]) := by
    intro x6 sq0 sx1 sx2 sx3 g H locs ls hsq0 hP hS hl hf
    unfold f_X12_sum_c103 at hf
    refine lv_iadd hx hb dX12_sum_103 ?_
    obtain ⟨h_8, hf⟩ := og_some hf
    obtain ⟨g_9, eg_9, hf⟩ := mw_some hf
    refine mq_iast hx hb hK hI hP hS (N := 10) hsq0 h_8 dX12_sum_104 eg_9 (fun H locs hP hS => ?_)
    refine lv_aload_n hx hb dX12_sum_105 rfl (lv_at hl 0 rfl) ?_
    refine mq_getr (Tt := TX12) (N := 26) (C := RX12) hx hb hts hiX12 hown hK hP hp rfl 12 10 (by decide) rfl hw4 (fun _ h9 => h9) dX12_sum_106 ?_
    refine lv_iload hx hb dX12_sum_109 (lv_at hl 5 rfl) ?_
    refine lv_iconst (v := 1) hx hb dX12_sum_111 (by decide) ?_
    refine lv_iadd hx hb dX12_sum_112 ?_
    refine lv_aload_n hx hb dX12_sum_113 rfl (lv_at hl 0 rfl) ?_
    refine mq_getr (Tt := TX12) (N := 26) (C := RX12) hx hb hts hiX12 hown hK hP hp rfl 12 10 (by decide) rfl hw4 (fun _ h9 => h9) dX12_sum_114 ?_
    refine lv_iload hx hb dX12_sum_117 (lv_at hl 5 rfl) ?_
    obtain ⟨h_10, hf⟩ := og_some hf
    refine mq_iald hx hb hK hP (N := 10) (shTM_X12_10 hp) h_10 dX12_sum_119 ?_
    refine lv_aload_n hx hb dX12_sum_120 rfl (lv_at hl 0 rfl) ?_
    refine lv_iload hx hb dX12_sum_121 (lv_at hl 6 rfl) ?_
    refine lv_iload hx hb dX12_sum_123 (lv_at hl 5 rfl) ?_
    refine lv_iload hx hb dX12_sum_125 (lv_at hl 6 rfl) ?_
    refine lv_if_ne (tgt := 134) hx hb dX12_sum_127 (by decide) (fun c_11 => ?_) (fun c_11 => ?_)
    · replace hf := ite_f c_11 hf
      refine lv_iload hx hb dX12_sum_134 (lv_at hl 6 rfl) ?_
      refine lv_iconst (v := 3) hx hb dX12_sum_136 (by decide) ?_
      refine lv_icmp_ne (tgt := 144) hx hb dX12_sum_137 (by decide) (fun c_12 => ?_) (fun c_12 => ?_)
      · replace hf := ite_f c_12 hf
        refine lv_iload_n hx hb dX12_sum_144 rfl (lv_at hl 3 rfl) ?_
        exact hc145 x6 10 (x5 + 1) (g_9 10 x5.toNatClampNeg) x6 x5 x3 g_9 H locs ls (shTM_X12_10 hp) hP hS (lv_sub hl [0, 1, 2, 3, 4, 5, 6] rfl) hf
      · replace hf := ite_t c_12 hf
        refine lv_iconst (v := (-1)) hx hb dX12_sum_140 (by decide) ?_
        refine lv_goto (tgt := 145) hx hb dX12_sum_141 (by decide) ?_
        exact hc145 x6 10 (x5 + 1) (g_9 10 x5.toNatClampNeg) x6 x5 (-1) g_9 H locs ls (shTM_X12_10 hp) hP hS (lv_sub hl [0, 1, 2, 3, 4, 5, 6] rfl) hf
    · replace hf := ite_t c_11 hf
      refine lv_iload_n hx hb dX12_sum_130 rfl (lv_at hl 2 rfl) ?_
      refine lv_goto (tgt := 145) hx hb dX12_sum_131 (by decide) ?_
      exact hc145 x6 10 (x5 + 1) (g_9 10 x5.toNatClampNeg) x6 x5 x2 g_9 H locs ls (shTM_X12_10 hp) hP hS (lv_sub hl [0, 1, 2, 3, 4, 5, 6] rfl) hf
  have hc94 : ∀ (x6 : Int32) (sq0 : Nat) (sx1 : Int32) (sx2 : Int32) (sx4 : Int32) (g : Mm) (H : Heap) (locs : List Loc) (ls : Array Slot), TM[sq0]? = some (.inr (10, 0, none) : Shp) → va_P D vwCl (mm_L TM ad cy g) H → va_S (mm_A TM ad) s.heap H locs → lv_has ls 9 [(0, .ref (ad 0)), (1, .int x1), (2, .int x2), (3, .int x3), (4, .int x4), (5, .int x5), (6, .int x6)] → f_X12_sum_c94 x2 x3 x4 x5 x6 sq0 sx1 sx2 sx4 g = some g' → W p l e (headSpec wsX12_sum (rm_X12_sum)).room s m args below meth c H locs 0 0 (MQ below (mm_Qv D TM ad cy g') args s 0 0 (mm_A TM ad)) (F0 m 94 ls [.int sx4, .ref (ad 0), .int sx2, .int sx1, .ref (ad sq0)]) := by
    intro x6 sq0 sx1 sx2 sx4 g H locs ls hsq0 hP hS hl hf
    unfold f_X12_sum_c94 at hf
    refine lv_iload hx hb dX12_sum_94 (lv_at hl 5 rfl) ?_
    obtain ⟨r_49, hr_50, hf⟩ := op_some hf
    refine mq_calli (va_runV (As := [.int sx4, .int x5]) (rest := [.int sx2, .int sx1, .ref (ad sq0)]) ⟨hx, hb, hml, hown, hts⟩ (c_X12_costOf l D ad cy sx4 x5 g hp r_49 hr_50) (cwV 2 hts gX12_sum_X12_costOf rfl rfl rfl (by decide +kernel) ⟨Nat.le_of_ble_eq_true rfl, Nat.le_of_ble_eq_true rfl⟩) (mq_preV (q := (RX12, TX12, 26)) mm_zOk0 hK hP hI hZ hS hp rfl) rfl rfl hl.1 rfl (lv_room (Nat.le_of_ble_eq_true rfl)) dX12_sum_96 ⟨Nat.le_refl _, Nat.le_refl _⟩) hS (fun H locs hP hS => ?_)
    refine lv_goto (tgt := 103) hx hb dX12_sum_99 (by decide) ?_
    exact hc103 x6 sq0 sx1 sx2 r_49 g H locs ls hsq0 hP hS (lv_sub hl [0, 1, 2, 3, 4, 5, 6] rfl) hf
  have hc61 : ∀ (x6 : Int32) (sx0 : Int32) (g : Mm) (H : Heap) (locs : List Loc) (ls : Array Slot), va_P D vwCl (mm_L TM ad cy g) H → va_S (mm_A TM ad) s.heap H locs → lv_has ls 9 [(0, .ref (ad 0)), (1, .int x1), (2, .int x2), (3, .int x3), (4, .int x4), (5, .int x5), (6, .int x6)] → f_X12_sum_c61 x2 x3 x4 x5 x6 sx0 g = some g' → W p l e (headSpec wsX12_sum (rm_X12_sum)).room s m args below meth c H locs 0 0 (MQ below (mm_Qv D TM ad cy g') args s 0 0 (mm_A TM ad)) (F0 m 61 ls [.int sx0]) := by
    intro x6 sx0 g H locs ls hP hS hl hf
    unfold f_X12_sum_c61 at hf
    refine lv_istore (lv' := [(8, .int sx0), (0, .ref (ad 0)), (1, .int x1), (2, .int x2), (3, .int x3), (4, .int x4), (5, .int x5), (6, .int x6)]) hx hb dX12_sum_61 hl (by decide) rfl (fun ls hl => ?_)
    refine lv_aload_n hx hb dX12_sum_63 rfl (lv_at hl 1 rfl) ?_
    refine mq_getr (Tt := TX12) (N := 26) (C := RX12) hx hb hts hiX12 hown hK hP hp rfl 11 9 (by decide) rfl hw3 (fun _ h9 => h9) dX12_sum_64 ?_
    refine lv_iload hx hb dX12_sum_67 (lv_at hl 6 rfl) ?_
    refine lv_iconst (v := 1) hx hb dX12_sum_69 (by decide) ?_
    refine lv_iadd hx hb dX12_sum_70 ?_
    refine lv_aload_n hx hb dX12_sum_71 rfl (lv_at hl 1 rfl) ?_
    refine mq_getr (Tt := TX12) (N := 26) (C := RX12) hx hb hts hiX12 hown hK hP hp rfl 11 9 (by decide) rfl hw3 (fun _ h9 => h9) dX12_sum_72 ?_
    refine lv_iload hx hb dX12_sum_75 (lv_at hl 6 rfl) ?_
    obtain ⟨h_6, hf⟩ := og_some hf
    refine mq_iald hx hb hK hP (N := 10) (shTM_X12_9 hp) h_6 dX12_sum_77 ?_
    refine lv_iload hx hb dX12_sum_78 (lv_at hl 0 rfl) ?_
    refine lv_if_eq (tgt := 102) hx hb dX12_sum_80 (by decide) (fun c_7 => ?_) (fun c_7 => ?_)
    · replace hf := ite_t c_7 hf
      refine lv_iconst (v := 0) hx hb dX12_sum_102 (by decide) ?_
      exact hc103 x6 9 (x5 + 1) (g 9 x5.toNatClampNeg) 0 g H locs ls (shTM_X12_9 hp) hP hS (lv_sub hl [1, 2, 3, 4, 5, 6, 7] rfl) hf
    · replace hf := ite_f c_7 hf
      refine lv_aload_n hx hb dX12_sum_83 rfl (lv_at hl 1 rfl) ?_
      refine lv_iload hx hb dX12_sum_84 (lv_at hl 7 rfl) ?_
      refine lv_if_ne (tgt := 93) hx hb dX12_sum_86 (by decide) (fun c_48 => ?_) (fun c_48 => ?_)
      · replace hf := ite_f c_48 hf
        refine lv_iload_n hx hb dX12_sum_93 rfl (lv_at hl 4 rfl) ?_
        exact hc94 x6 9 (x5 + 1) (g 9 x5.toNatClampNeg) x3 g H locs ls (shTM_X12_9 hp) hP hS (lv_sub hl [1, 2, 3, 4, 5, 6, 7] rfl) hf
      · replace hf := ite_t c_48 hf
        refine lv_iload_n hx hb dX12_sum_89 rfl (lv_at hl 3 rfl) ?_
        refine lv_goto (tgt := 94) hx hb dX12_sum_90 (by decide) ?_
        exact hc94 x6 9 (x5 + 1) (g 9 x5.toNatClampNeg) x2 g H locs ls (shTM_X12_9 hp) hP hS (lv_sub hl [1, 2, 3, 4, 5, 6, 7] rfl) hf
  have hc56 : ∀ (x6 : Int32) (g : Mm) (H : Heap) (locs : List Loc) (ls : Array Slot), va_P D vwCl (mm_L TM ad cy g) H → va_S (mm_A TM ad) s.heap H locs → lv_has ls 9 [(0, .ref (ad 0)), (1, .int x1), (2, .int x2), (3, .int x3), (4, .int x4), (5, .int x5), (6, .int x6)] → f_X12_sum_c56 x2 x3 x4 x5 x6 g = some g' → W p l e (headSpec wsX12_sum (rm_X12_sum)).room s m args below meth c H locs 0 0 (MQ below (mm_Qv D TM ad cy g') args s 0 0 (mm_A TM ad)) (F0 m 56 ls []) := by
    intro x6 g H locs ls hP hS hl hf
    unfold f_X12_sum_c56 at hf
    refine lv_iconst (v := 1) hx hb dX12_sum_56 (by decide) ?_
    refine lv_goto (tgt := 61) hx hb dX12_sum_57 (by decide) ?_
    exact hc61 x6 1 g H locs ls hP hS (lv_sub hl [0, 1, 2, 3, 4, 5, 6] rfl) hf
  have hc60 : ∀ (x6 : Int32) (g : Mm) (H : Heap) (locs : List Loc) (ls : Array Slot), va_P D vwCl (mm_L TM ad cy g) H → va_S (mm_A TM ad) s.heap H locs → lv_has ls 9 [(0, .ref (ad 0)), (1, .int x1), (2, .int x2), (3, .int x3), (4, .int x4), (5, .int x5), (6, .int x6)] → f_X12_sum_c60 x2 x3 x4 x5 x6 g = some g' → W p l e (headSpec wsX12_sum (rm_X12_sum)).room s m args below meth c H locs 0 0 (MQ below (mm_Qv D TM ad cy g') args s 0 0 (mm_A TM ad)) (F0 m 60 ls []) := by
    intro x6 g H locs ls hP hS hl hf
    unfold f_X12_sum_c60 at hf
    refine lv_iconst (v := 0) hx hb dX12_sum_60 (by decide) ?_
    exact hc61 x6 0 g H locs ls hP hS (lv_sub hl [0, 1, 2, 3, 4, 5, 6] rfl) hf
  have hc26 : ∀ (x6 : Int32) (sx0 : Int32) (g : Mm) (H : Heap) (locs : List Loc) (ls : Array Slot), va_P D vwCl (mm_L TM ad cy g) H → va_S (mm_A TM ad) s.heap H locs → lv_has ls 9 [(0, .ref (ad 0)), (1, .int x1), (2, .int x2), (3, .int x3), (4, .int x4), (5, .int x5), (6, .int x6)] → f_X12_sum_c26 x2 x3 x4 x5 x6 sx0 g = some g' → W p l e (headSpec wsX12_sum (rm_X12_sum)).room s m args below meth c H locs 0 0 (MQ below (mm_Qv D TM ad cy g') args s 0 0 (mm_A TM ad)) (F0 m 26 ls [.int sx0]) := by
    intro x6 sx0 g H locs ls hP hS hl hf
    unfold f_X12_sum_c26 at hf
    refine lv_istore (lv' := [(7, .int sx0), (0, .ref (ad 0)), (1, .int x1), (2, .int x2), (3, .int x3), (4, .int x4), (5, .int x5), (6, .int x6)]) hx hb dX12_sum_26 hl (by decide) rfl (fun ls hl => ?_)
    refine lv_iload hx hb dX12_sum_28 (lv_at hl 7 rfl) ?_
    refine lv_if_eq (tgt := 56) hx hb dX12_sum_30 (by decide) (fun c_5 => ?_) (fun c_5 => ?_)
    · replace hf := ite_t c_5 hf
      exact hc56 x6 g H locs ls hP hS (lv_sub hl [1, 2, 3, 4, 5, 6, 7] rfl) hf
    · replace hf := ite_f c_5 hf
      refine lv_iload hx hb dX12_sum_33 (lv_at hl 0 rfl) ?_
      refine lv_if_eq (tgt := 60) hx hb dX12_sum_35 (by decide) (fun c_51 => ?_) (fun c_51 => ?_)
      · replace hf := ite_t c_51 hf
        exact hc60 x6 g H locs ls hP hS (lv_sub hl [1, 2, 3, 4, 5, 6, 7] rfl) hf
      · replace hf := ite_f c_51 hf
        refine lv_aload_n hx hb dX12_sum_38 rfl (lv_at hl 1 rfl) ?_
        refine mq_getr (Tt := TX12) (N := 26) (C := RX12) hx hb hts hiX12 hown hK hP hp rfl 0 1 (by decide) rfl hw2 (fun _ h9 => h9) dX12_sum_39 ?_
        refine lv_bipush (v := 31) hx hb dX12_sum_42 (by decide) ?_
        refine lv_iload_n hx hb dX12_sum_44 rfl (lv_at hl 4 rfl) ?_
        refine lv_iadd hx hb dX12_sum_45 ?_
        obtain ⟨h_52, hf⟩ := og_some hf
        refine mq_iald hx hb hK hP (N := 193) (shTM_X12_1 hp) h_52 dX12_sum_46 ?_
        refine lv_aload_n hx hb dX12_sum_47 rfl (lv_at hl 1 rfl) ?_
        refine mq_getr (Tt := TX12) (N := 26) (C := RX12) hx hb hts hiX12 hown hK hP hp rfl 0 1 (by decide) rfl hw2 (fun _ h9 => h9) dX12_sum_48 ?_
        refine lv_iconst (v := 3) hx hb dX12_sum_51 (by decide) ?_
        refine mq_iald hx hb hK hP (N := 193) (shTM_X12_1 hp) (by decide : mm_in 3 193 = true) dX12_sum_52 ?_
        refine lv_icmp_ne (tgt := 60) hx hb dX12_sum_53 (by decide) (fun c_53 => ?_) (fun c_53 => ?_)
        · replace hf := ite_f c_53 hf
          exact hc60 x6 g H locs ls hP hS (lv_sub hl [1, 2, 3, 4, 5, 6, 7] rfl) hf
        · replace hf := ite_t c_53 hf
          exact hc56 x6 g H locs ls hP hS (lv_sub hl [1, 2, 3, 4, 5, 6, 7] rfl) hf
  unfold f_X12_sum at hf
  have hH9 : ∀ (H : Heap) (locs : List Loc), H = s.heap → locs = [] → va_P D vwCl (mm_L TM ad cy g) H → va_S (mm_A TM ad) s.heap H locs → W p l e (headSpec wsX12_sum (rm_X12_sum)).room s m args below meth c H locs 0 0 (MQ below (mm_Qv D TM ad cy g') args s 0 0 (mm_A TM ad)) (F0 m 0 ls []) := by
    intro H locs hH9 hL9 hP hS
    clear hH9 hL9
    refine lv_aload_n hx hb dX12_sum_0 rfl (lv_at hl 0 rfl) ?_
    refine mq_getr (Tt := TX12) (N := 26) (C := RX12) hx hb hts hiX12 hown hK hP hp rfl 10 8 (by decide) rfl hw0 (fun _ h9 => h9) dX12_sum_1 ?_
    refine lv_iload hx hb dX12_sum_4 (lv_at hl 5 rfl) ?_
    obtain ⟨h_1, hf⟩ := og_some hf
    refine mq_iald hx hb hK hP (N := 9) (shTM_X12_8 hp) h_1 dX12_sum_6 ?_
    obtain ⟨x6_2, ex6_2, hf⟩ := mv_some hf
    refine mq_nm ex6_2 ?_
    refine lv_istore (lv' := [(6, .int x6_2), (0, .ref (ad 0)), (1, .int x1), (2, .int x2), (3, .int x3), (4, .int x4), (5, .int x5)]) hx hb dX12_sum_7 hl (by decide) rfl (fun ls hl => ?_)
    refine lv_aload_n hx hb dX12_sum_9 rfl (lv_at hl 1 rfl) ?_
    refine mq_getr (Tt := TX12) (N := 26) (C := RX12) hx hb hts hiX12 hown hK hP hp rfl 0 1 (by decide) rfl hw2 (fun _ h9 => h9) dX12_sum_10 ?_
    refine lv_bipush (v := 10) hx hb dX12_sum_13 (by decide) ?_
    refine lv_iload_n hx hb dX12_sum_15 rfl (lv_at hl 2 rfl) ?_
    refine lv_iadd hx hb dX12_sum_16 ?_
    obtain ⟨h_3, hf⟩ := og_some hf
    refine mq_iald hx hb hK hP (N := 193) (shTM_X12_1 hp) h_3 dX12_sum_17 ?_
    refine lv_if_le (tgt := 25) hx hb dX12_sum_18 (by decide) (fun c_4 => ?_) (fun c_4 => ?_)
    · replace hf := ite_t c_4 hf
      refine lv_iconst (v := 0) hx hb dX12_sum_25 (by decide) ?_
      exact hc26 x6_2 0 g H locs ls hP hS (lv_sub hl [1, 2, 3, 4, 5, 6, 0] rfl) hf
    · replace hf := ite_f c_4 hf
      refine lv_iconst (v := 1) hx hb dX12_sum_21 (by decide) ?_
      refine lv_goto (tgt := 26) hx hb dX12_sum_22 (by decide) ?_
      exact hc26 x6_2 1 g H locs ls hP hS (lv_sub hl [1, 2, 3, 4, 5, 6, 0] rfl) hf
  exact hH9 s.heap [] rfl rfl hP hS
abbrev rm_X12_can : Room := ({ frames := 0, cells := 0, slots := 0, locals := 0 } : Room)
set_option maxHeartbeats 4000000 in
set_option maxRecDepth 100000 in
theorem c_X12_can (l : Launch) (D : va_G) (ad : Nat → Nat) (cy : Nat → ClassId) (x1 : Int32) (x2 : Int32) (x3 : Int32) (x4 : Int32) (x5 : Int32) (g : Mm) (hp : TM[0]? = some sX12) (r0 : Int32) (hf : f_X12_can x1 x2 x3 x4 x5 g = some r0) : Met l yX12_can wsX12_can rm_X12_can (va_Pc [.ref (ad 0), .int x1, .int x2, .int x3, .int x4, .int x5] (mm_pre mm_Z0 D TM ad cy g)) (mm_Qi D TM ad cy r0 g) 0 0 (mm_A TM ad) := by
  refine Met.ofW (cc := cX12_can) (maxL := 7) (ret := (some .boolean)) (by decide) rfl ?_
  intro p e s m args below meth c s₁ B hml hv
  obtain ⟨hargs, hP, hK, hI, hZ⟩ := hv
  have hx := B.exec
  have hb := B.bytes
  have hr := B.returns
  have hts := atoms_spec (ws := wsX12_can) B.pre
  have hown : s.vm.findClass RX12 = some m.cls := findClass_of_methodNamed B.named
  have hlocks := B.notSynchronized
  have hw0 := hts (.fieldLink RX12 31 "LeftShoesModel" "going" "[I") (by decide +kernel)
  have hiX12 : ∀ w ∈ wsX120, w ∈ wsX12_can := by decide +kernel
  have hw2 := hts (.fieldLink RX12 7 "LeftShoesModel" "now" "[I") (by decide +kernel)
  have hw3 := hts (.fieldLink RX12 49 "LeftShoesModel" "bares" "[I") (by decide +kernel)
  have hw4 := hts (.fieldLink RX12 52 "LeftShoesModel" "hops" "[I") (by decide +kernel)
  rw [show entryFrame m args 7 = F0 m 0 ((lg_sl ([.ref (ad 0), .int x1, .int x2, .int x3, .int x4, .int x5] : List Value) ++ List.replicate (7 - (lg_sl ([.ref (ad 0), .int x1, .int x2, .int x3, .int x4, .int x5] : List Value)).length) Slot.unset).toArray) [] from by rw [hargs]; exact lg_entry_eq m _ _]
  have hl := lv_entry ([.ref (ad 0), .int x1, .int x2, .int x3, .int x4, .int x5] : List Value) (n := 7) (by exact Nat.le_of_ble_eq_true rfl)
  generalize (lg_sl ([.ref (ad 0), .int x1, .int x2, .int x3, .int x4, .int x5] : List Value) ++ List.replicate (7 - (lg_sl ([.ref (ad 0), .int x1, .int x2, .int x3, .int x4, .int x5] : List Value)).length) Slot.unset).toArray = ls at hl ⊢
  have hl : lv_has ls 7 [(0, .ref (ad 0)), (1, .int x1), (2, .int x2), (3, .int x3), (4, .int x4), (5, .int x5)] := by exact hl
  have hS : va_S (mm_A TM ad) s.heap s.heap [] := va_S.rf
  clear hargs
  unfold f_X12_can at hf
  have hH9 : ∀ (H : Heap) (locs : List Loc), H = s.heap → locs = [] → va_P D vwCl (mm_L TM ad cy g) H → va_S (mm_A TM ad) s.heap H locs → W p l e (headSpec wsX12_can (rm_X12_can)).room s m args below meth c H locs 0 0 (MQ below (mm_Qi D TM ad cy r0 g) args s 0 0 (mm_A TM ad)) (F0 m 0 ls []) := by
    intro H locs hH9 hL9 hP hS
    clear hH9 hL9
    refine lv_aload_n hx hb dX12_can_0 rfl (lv_at hl 0 rfl) ?_
    refine mq_getr (Tt := TX12) (N := 26) (C := RX12) hx hb hts hiX12 hown hK hP hp rfl 10 8 (by decide) rfl hw0 (fun _ h9 => h9) dX12_can_1 ?_
    refine lv_iload hx hb dX12_can_4 (lv_at hl 5 rfl) ?_
    obtain ⟨h_1, hf⟩ := og_some hf
    refine mq_iald hx hb hK hP (N := 9) (shTM_X12_8 hp) h_1 dX12_can_6 ?_
    obtain ⟨x6_2, ex6_2, hf⟩ := mv_some hf
    refine mq_nm ex6_2 ?_
    refine lv_istore (lv' := [(6, .int x6_2), (0, .ref (ad 0)), (1, .int x1), (2, .int x2), (3, .int x3), (4, .int x4), (5, .int x5)]) hx hb dX12_can_7 hl (by decide) rfl (fun ls hl => ?_)
    refine lv_aload_n hx hb dX12_can_9 rfl (lv_at hl 1 rfl) ?_
    refine mq_getr (Tt := TX12) (N := 26) (C := RX12) hx hb hts hiX12 hown hK hP hp rfl 0 1 (by decide) rfl hw2 (fun _ h9 => h9) dX12_can_10 ?_
    refine lv_bipush (v := 10) hx hb dX12_can_13 (by decide) ?_
    refine lv_iload_n hx hb dX12_can_15 rfl (lv_at hl 2 rfl) ?_
    refine lv_iadd hx hb dX12_can_16 ?_
    obtain ⟨h_3, hf⟩ := og_some hf
    refine mq_iald hx hb hK hP (N := 193) (shTM_X12_1 hp) h_3 dX12_can_17 ?_
    refine lv_if_le (tgt := 37) hx hb dX12_can_18 (by decide) (fun c_4 => ?_) (fun c_4 => ?_)
    · replace hf := ite_t c_4 hf
      refine lv_iload hx hb dX12_can_37 (lv_at hl 0 rfl) ?_
      refine lv_if_ne (tgt := 58) hx hb dX12_can_39 (by decide) (fun c_5 => ?_) (fun c_5 => ?_)
      · replace hf := ite_f c_5 hf
        refine lv_iload hx hb dX12_can_58 (lv_at hl 0 rfl) ?_
        refine lv_iconst (v := 1) hx hb dX12_can_60 (by decide) ?_
        refine lv_icmp_ne (tgt := 81) hx hb dX12_can_61 (by decide) (fun c_6 => ?_) (fun c_6 => ?_)
        · replace hf := ite_f c_6 hf
          refine lv_iload hx hb dX12_can_81 (lv_at hl 0 rfl) ?_
          refine lv_iconst (v := 2) hx hb dX12_can_83 (by decide) ?_
          refine lv_icmp_ne (tgt := 110) hx hb dX12_can_84 (by decide) (fun c_7 => ?_) (fun c_7 => ?_)
          · replace hf := ite_f c_7 hf
            refine lv_aload_n hx hb dX12_can_110 rfl (lv_at hl 1 rfl) ?_
            refine mq_getr (Tt := TX12) (N := 26) (C := RX12) hx hb hts hiX12 hown hK hP hp rfl 16 14 (by decide) rfl hw3 (fun _ h9 => h9) dX12_can_111 ?_
            refine lv_iload hx hb dX12_can_114 (lv_at hl 6 rfl) ?_
            obtain ⟨h_8, hf⟩ := og_some hf
            refine mq_iald hx hb hK hP (N := 10) (shTM_X12_14 hp) h_8 dX12_can_116 ?_
            refine lv_iconst (v := 4) hx hb dX12_can_117 (by decide) ?_
            refine lv_icmp_ge (tgt := 125) hx hb dX12_can_118 (by decide) (fun c_9 => ?_) (fun c_9 => ?_)
            · replace hf := ite_t c_9 hf
              refine lv_iconst (v := 0) hx hb dX12_can_125 (by decide) ?_
              exact mq_iret hx hb hr (by decide +kernel) hlocks hP hS (Option.some.inj hf) rfl dX12_can_126
            · replace hf := ite_f c_9 hf
              refine lv_iconst (v := 1) hx hb dX12_can_121 (by decide) ?_
              refine lv_goto (tgt := 126) hx hb dX12_can_122 (by decide) ?_
              exact mq_iret hx hb hr (by decide +kernel) hlocks hP hS (Option.some.inj hf) rfl dX12_can_126
          · replace hf := ite_t c_7 hf
            refine lv_iload_n hx hb dX12_can_87 rfl (lv_at hl 4 rfl) ?_
            refine lv_if_lt (tgt := 106) hx hb dX12_can_88 (by decide) (fun c_10 => ?_) (fun c_10 => ?_)
            · replace hf := ite_t c_10 hf
              refine lv_iconst (v := 0) hx hb dX12_can_106 (by decide) ?_
              refine lv_goto (tgt := 126) hx hb dX12_can_107 (by decide) ?_
              exact mq_iret hx hb hr (by decide +kernel) hlocks hP hS (Option.some.inj hf) rfl dX12_can_126
            · replace hf := ite_f c_10 hf
              refine lv_aload_n hx hb dX12_can_91 rfl (lv_at hl 1 rfl) ?_
              refine mq_getr (Tt := TX12) (N := 26) (C := RX12) hx hb hts hiX12 hown hK hP hp rfl 17 15 (by decide) rfl hw4 (fun _ h9 => h9) dX12_can_92 ?_
              refine lv_iload hx hb dX12_can_95 (lv_at hl 6 rfl) ?_
              obtain ⟨h_11, hf⟩ := og_some hf
              refine mq_iald hx hb hK hP (N := 10) (shTM_X12_15 hp) h_11 dX12_can_97 ?_
              refine lv_iconst (v := 2) hx hb dX12_can_98 (by decide) ?_
              refine lv_icmp_ge (tgt := 106) hx hb dX12_can_99 (by decide) (fun c_12 => ?_) (fun c_12 => ?_)
              · replace hf := ite_t c_12 hf
                refine lv_iconst (v := 0) hx hb dX12_can_106 (by decide) ?_
                refine lv_goto (tgt := 126) hx hb dX12_can_107 (by decide) ?_
                exact mq_iret hx hb hr (by decide +kernel) hlocks hP hS (Option.some.inj hf) rfl dX12_can_126
              · replace hf := ite_f c_12 hf
                refine lv_iconst (v := 1) hx hb dX12_can_102 (by decide) ?_
                refine lv_goto (tgt := 126) hx hb dX12_can_103 (by decide) ?_
                exact mq_iret hx hb hr (by decide +kernel) hlocks hP hS (Option.some.inj hf) rfl dX12_can_126
        · replace hf := ite_t c_6 hf
          refine lv_iload_n hx hb dX12_can_64 rfl (lv_at hl 4 rfl) ?_
          refine lv_if_lt (tgt := 77) hx hb dX12_can_65 (by decide) (fun c_13 => ?_) (fun c_13 => ?_)
          · replace hf := ite_t c_13 hf
            refine lv_iconst (v := 0) hx hb dX12_can_77 (by decide) ?_
            refine lv_goto (tgt := 126) hx hb dX12_can_78 (by decide) ?_
            exact mq_iret hx hb hr (by decide +kernel) hlocks hP hS (Option.some.inj hf) rfl dX12_can_126
          · replace hf := ite_f c_13 hf
            refine lv_iload hx hb dX12_can_68 (lv_at hl 5 rfl) ?_
            refine lv_if_lt (tgt := 77) hx hb dX12_can_70 (by decide) (fun c_14 => ?_) (fun c_14 => ?_)
            · replace hf := ite_t c_14 hf
              refine lv_iconst (v := 0) hx hb dX12_can_77 (by decide) ?_
              refine lv_goto (tgt := 126) hx hb dX12_can_78 (by decide) ?_
              exact mq_iret hx hb hr (by decide +kernel) hlocks hP hS (Option.some.inj hf) rfl dX12_can_126
            · replace hf := ite_f c_14 hf
              refine lv_iconst (v := 1) hx hb dX12_can_73 (by decide) ?_
              refine lv_goto (tgt := 126) hx hb dX12_can_74 (by decide) ?_
              exact mq_iret hx hb hr (by decide +kernel) hlocks hP hS (Option.some.inj hf) rfl dX12_can_126
      · replace hf := ite_t c_5 hf
        refine lv_iload_n hx hb dX12_can_42 rfl (lv_at hl 3 rfl) ?_
        refine lv_if_lt (tgt := 54) hx hb dX12_can_43 (by decide) (fun c_15 => ?_) (fun c_15 => ?_)
        · replace hf := ite_t c_15 hf
          refine lv_iconst (v := 0) hx hb dX12_can_54 (by decide) ?_
          refine lv_goto (tgt := 126) hx hb dX12_can_55 (by decide) ?_
          exact mq_iret hx hb hr (by decide +kernel) hlocks hP hS (Option.some.inj hf) rfl dX12_can_126
        · replace hf := ite_f c_15 hf
          refine lv_iload_n hx hb dX12_can_46 rfl (lv_at hl 4 rfl) ?_
          refine lv_if_lt (tgt := 54) hx hb dX12_can_47 (by decide) (fun c_16 => ?_) (fun c_16 => ?_)
          · replace hf := ite_t c_16 hf
            refine lv_iconst (v := 0) hx hb dX12_can_54 (by decide) ?_
            refine lv_goto (tgt := 126) hx hb dX12_can_55 (by decide) ?_
            exact mq_iret hx hb hr (by decide +kernel) hlocks hP hS (Option.some.inj hf) rfl dX12_can_126
          · replace hf := ite_f c_16 hf
            refine lv_iconst (v := 1) hx hb dX12_can_50 (by decide) ?_
            refine lv_goto (tgt := 126) hx hb dX12_can_51 (by decide) ?_
            exact mq_iret hx hb hr (by decide +kernel) hlocks hP hS (Option.some.inj hf) rfl dX12_can_126
    · replace hf := ite_f c_4 hf
      refine lv_iload hx hb dX12_can_21 (lv_at hl 0 rfl) ?_
      refine lv_iconst (v := 2) hx hb dX12_can_23 (by decide) ?_
      refine lv_icmp_ne (tgt := 35) hx hb dX12_can_24 (by decide) (fun c_17 => ?_) (fun c_17 => ?_)
      · replace hf := ite_f c_17 hf
        refine lv_iconst (v := 0) hx hb dX12_can_35 (by decide) ?_
        exact mq_iret hx hb hr (by decide +kernel) hlocks hP hS (Option.some.inj hf) rfl dX12_can_36
      · replace hf := ite_t c_17 hf
        refine lv_iload_n hx hb dX12_can_27 rfl (lv_at hl 4 rfl) ?_
        refine lv_if_lt (tgt := 35) hx hb dX12_can_28 (by decide) (fun c_18 => ?_) (fun c_18 => ?_)
        · replace hf := ite_t c_18 hf
          refine lv_iconst (v := 0) hx hb dX12_can_35 (by decide) ?_
          exact mq_iret hx hb hr (by decide +kernel) hlocks hP hS (Option.some.inj hf) rfl dX12_can_36
        · replace hf := ite_f c_18 hf
          refine lv_iconst (v := 1) hx hb dX12_can_31 (by decide) ?_
          refine lv_goto (tgt := 36) hx hb dX12_can_32 (by decide) ?_
          exact mq_iret hx hb hr (by decide +kernel) hlocks hP hS (Option.some.inj hf) rfl dX12_can_36
  exact hH9 s.heap [] rfl rfl hP hS
abbrev rm_X12_lasts : Room := ({ frames := 0, cells := 0, slots := 0, locals := 0 } : Room)
set_option maxHeartbeats 4000000 in
set_option maxRecDepth 100000 in
theorem c_X12_lasts (l : Launch) (D : va_G) (ad : Nat → Nat) (cy : Nat → ClassId) (x1 : Int32) (x2 : Int32) (g : Mm) (hp : TM[0]? = some sX12) (r0 : Int32) (hf : f_X12_lasts x1 x2 g = some r0) : Met l yX12_lasts wsX12_lasts rm_X12_lasts (va_Pc [.ref (ad 0), .int x1, .int x2] (mm_pre mm_Z0 D TM ad cy g)) (mm_Qi D TM ad cy r0 g) 0 0 (mm_A TM ad) := by
  refine Met.ofW (cc := cX12_lasts) (maxL := 3) (ret := (some .boolean)) (by decide) rfl ?_
  intro p e s m args below meth c s₁ B hml hv
  obtain ⟨hargs, hP, hK, hI, hZ⟩ := hv
  have hx := B.exec
  have hb := B.bytes
  have hr := B.returns
  have hts := atoms_spec (ws := wsX12_lasts) B.pre
  have hown : s.vm.findClass RX12 = some m.cls := findClass_of_methodNamed B.named
  have hlocks := B.notSynchronized
  have hw0 := hts (.fieldLink RX12 7 "LeftShoesModel" "now" "[I") (by decide +kernel)
  have hiX12 : ∀ w ∈ wsX120, w ∈ wsX12_lasts := by decide +kernel
  rw [show entryFrame m args 3 = F0 m 0 ((lg_sl ([.ref (ad 0), .int x1, .int x2] : List Value) ++ List.replicate (3 - (lg_sl ([.ref (ad 0), .int x1, .int x2] : List Value)).length) Slot.unset).toArray) [] from by rw [hargs]; exact lg_entry_eq m _ _]
  have hl := lv_entry ([.ref (ad 0), .int x1, .int x2] : List Value) (n := 3) (by exact Nat.le_of_ble_eq_true rfl)
  generalize (lg_sl ([.ref (ad 0), .int x1, .int x2] : List Value) ++ List.replicate (3 - (lg_sl ([.ref (ad 0), .int x1, .int x2] : List Value)).length) Slot.unset).toArray = ls at hl ⊢
  have hl : lv_has ls 3 [(0, .ref (ad 0)), (1, .int x1), (2, .int x2)] := by exact hl
  have hS : va_S (mm_A TM ad) s.heap s.heap [] := va_S.rf
  clear hargs
  unfold f_X12_lasts at hf
  have hH9 : ∀ (H : Heap) (locs : List Loc), H = s.heap → locs = [] → va_P D vwCl (mm_L TM ad cy g) H → va_S (mm_A TM ad) s.heap H locs → W p l e (headSpec wsX12_lasts (rm_X12_lasts)).room s m args below meth c H locs 0 0 (MQ below (mm_Qi D TM ad cy r0 g) args s 0 0 (mm_A TM ad)) (F0 m 0 ls []) := by
    intro H locs hH9 hL9 hP hS
    clear hH9 hL9
    refine lv_iload_n hx hb dX12_lasts_0 rfl (lv_at hl 1 rfl) ?_
    refine lv_if_lt (tgt := 17) hx hb dX12_lasts_1 (by decide) (fun c_1 => ?_) (fun c_1 => ?_)
    · replace hf := ite_t c_1 hf
      refine lv_iconst (v := 1) hx hb dX12_lasts_17 (by decide) ?_
      refine lv_goto (tgt := 22) hx hb dX12_lasts_18 (by decide) ?_
      exact mq_iret hx hb hr (by decide +kernel) hlocks hP hS (Option.some.inj hf) rfl dX12_lasts_22
    · replace hf := ite_f c_1 hf
      refine lv_iload_n hx hb dX12_lasts_4 rfl (lv_at hl 2 rfl) ?_
      refine lv_aload_n hx hb dX12_lasts_5 rfl (lv_at hl 0 rfl) ?_
      refine mq_getr (Tt := TX12) (N := 26) (C := RX12) hx hb hts hiX12 hown hK hP hp rfl 0 1 (by decide) rfl hw0 (fun _ h9 => h9) dX12_lasts_6 ?_
      refine lv_bipush (v := 63) hx hb dX12_lasts_9 (by decide) ?_
      refine lv_iload_n hx hb dX12_lasts_11 rfl (lv_at hl 1 rfl) ?_
      refine lv_iadd hx hb dX12_lasts_12 ?_
      obtain ⟨h_2, hf⟩ := og_some hf
      refine mq_iald hx hb hK hP (N := 193) (shTM_X12_1 hp) h_2 dX12_lasts_13 ?_
      refine lv_icmp_gt (tgt := 21) hx hb dX12_lasts_14 (by decide) (fun c_3 => ?_) (fun c_3 => ?_)
      · replace hf := ite_t c_3 hf
        refine lv_iconst (v := 0) hx hb dX12_lasts_21 (by decide) ?_
        exact mq_iret hx hb hr (by decide +kernel) hlocks hP hS (Option.some.inj hf) rfl dX12_lasts_22
      · replace hf := ite_f c_3 hf
        refine lv_iconst (v := 1) hx hb dX12_lasts_17 (by decide) ?_
        refine lv_goto (tgt := 22) hx hb dX12_lasts_18 (by decide) ?_
        exact mq_iret hx hb hr (by decide +kernel) hlocks hP hS (Option.some.inj hf) rfl dX12_lasts_22
  exact hH9 s.heap [] rfl rfl hP hS
abbrev rm_X12_finds : Room := ({ frames := 3, cells := 0, slots := 0, locals := 77 } : Room)
set_option maxHeartbeats 4000000 in
set_option maxRecDepth 100000 in
theorem c_X12_finds (l : Launch) (D : va_G) (ad : Nat → Nat) (cy : Nat → ClassId) (x1 : Int32) (x2 : Int32) (x3 : Int32) (x4 : Int32) (x5 : Int32) (g : Mm) (hp : TM[0]? = some sX12) (r0 : Int32) (g' : Mm) (hf : f_X12_finds x1 x2 x3 x4 x5 g = some (r0, g')) : Met l yX12_finds wsX12_finds rm_X12_finds (va_Pc [.ref (ad 0), .int x1, .int x2, .int x3, .int x4, .int x5] (mm_pre mm_Z0 D TM ad cy g)) (mm_Qi D TM ad cy r0 g') 0 0 (mm_A TM ad) := by
  refine Met.ofW (cc := cX12_finds) (maxL := 10) (ret := (some .boolean)) (by decide) rfl ?_
  intro p e s m args below meth c s₁ B hml hv
  obtain ⟨hargs, hP, hK, hI, hZ⟩ := hv
  have hx := B.exec
  have hb := B.bytes
  have hr := B.returns
  have hts := atoms_spec (ws := wsX12_finds) B.pre
  have hown : s.vm.findClass RX12 = some m.cls := findClass_of_methodNamed B.named
  have hlocks := B.notSynchronized
  have hw0 := hts (.fieldLink RX12 164 "LeftShoesModel" "bestCost" "I") (by decide +kernel)
  have hiX12 : ∀ w ∈ wsX120, w ∈ wsX12_finds := by decide +kernel
  have hw2 := hts (.fieldLink RX12 31 "LeftShoesModel" "going" "[I") (by decide +kernel)
  have hw3 := hts (.fieldLink RX12 37 "LeftShoesModel" "times" "[I") (by decide +kernel)
  have hw4 := hts (.fieldLink RX12 34 "LeftShoesModel" "costs" "[I") (by decide +kernel)
  have hw5 := hts (.fieldLink RX12 178 "LeftShoesModel" "bestTime" "I") (by decide +kernel)
  have hw6 := hts (.fieldLink RX12 55 "LeftShoesModel" "best" "[I") (by decide +kernel)
  have hw7 := hts (.fieldLink RX12 40 "LeftShoesModel" "wornA" "[I") (by decide +kernel)
  have hw8 := hts (.fieldLink RX12 43 "LeftShoesModel" "wornB" "[I") (by decide +kernel)
  have hw9 := hts (.fieldLink RX12 46 "LeftShoesModel" "wornC" "[I") (by decide +kernel)
  rw [show entryFrame m args 10 = F0 m 0 ((lg_sl ([.ref (ad 0), .int x1, .int x2, .int x3, .int x4, .int x5] : List Value) ++ List.replicate (10 - (lg_sl ([.ref (ad 0), .int x1, .int x2, .int x3, .int x4, .int x5] : List Value)).length) Slot.unset).toArray) [] from by rw [hargs]; exact lg_entry_eq m _ _]
  have hl := lv_entry ([.ref (ad 0), .int x1, .int x2, .int x3, .int x4, .int x5] : List Value) (n := 10) (by exact Nat.le_of_ble_eq_true rfl)
  generalize (lg_sl ([.ref (ad 0), .int x1, .int x2, .int x3, .int x4, .int x5] : List Value) ++ List.replicate (10 - (lg_sl ([.ref (ad 0), .int x1, .int x2, .int x3, .int x4, .int x5] : List Value)).length) Slot.unset).toArray = ls at hl ⊢
  have hl : lv_has ls 10 [(0, .ref (ad 0)), (1, .int x1), (2, .int x2), (3, .int x3), (4, .int x4), (5, .int x5)] := by exact hl
  have hS : va_S (mm_A TM ad) s.heap s.heap [] := va_S.rf
  clear hargs
  have hc270 : ∀ (K_15 : Int32 → Mm → Option (Int32 × Mm)), (∀ (x6 : Int32) (g : Mm) (H : Heap) (locs : List Loc) (ls : Array Slot), va_P D vwCl (mm_L TM ad cy g) H → va_S (mm_A TM ad) s.heap H locs → lv_has ls 10 [(0, .ref (ad 0)), (1, .int x1), (2, .int x2), (3, .int x3), (4, .int x4), (5, .int x5), (6, .int x6)] → K_15 x6 g = some (r0, g') → W p l e (headSpec wsX12_finds (rm_X12_finds)).room s m args below meth c H locs 0 0 (MQ below (mm_Qi D TM ad cy r0 g') args s 0 0 (mm_A TM ad)) (F0 m 15 ls [])) → ∀ (n : Nat), ∀ (x6 : Int32) (x9 : Int32) (g : Mm) (H : Heap) (locs : List Loc) (ls : Array Slot), va_P D vwCl (mm_L TM ad cy g) H → va_S (mm_A TM ad) s.heap H locs → lv_has ls 10 [(0, .ref (ad 0)), (1, .int x1), (2, .int x2), (3, .int x3), (4, .int x4), (5, .int x5), (6, .int x6), (9, .int x9)] → f_X12_finds_c270 K_15 x1 x2 x3 x4 x5 n x6 x9 g = some (r0, g') → W p l e (headSpec wsX12_finds (rm_X12_finds)).room s m args below meth c H locs 0 0 (MQ below (mm_Qi D TM ad cy r0 g') args s 0 0 (mm_A TM ad)) (F0 m 270 ls []) := by
    intro K_15 hK_15 n
    induction n with
    | zero =>
      intro x6 x9 g H locs ls hP hS hl hf
      rw [f_X12_finds_c270] at hf
      cases hf
    | succ n ih =>
      intro x6 x9 g H locs ls hP hS hl hf
      rw [f_X12_finds_c270] at hf
      refine lv_iload hx hb dX12_finds_270 (lv_at hl 7 rfl) ?_
      refine lv_bipush (v := 9) hx hb dX12_finds_272 (by decide) ?_
      refine lv_icmp_ge (tgt := 297) hx hb dX12_finds_274 (by decide) (fun c_23 => ?_) (fun c_23 => ?_)
      · replace hf := ite_t c_23 hf
        refine lv_goto (tgt := 15) hx hb dX12_finds_297 (by decide) ?_
        exact hK_15 x6 g H locs ls hP hS (lv_sub hl [0, 1, 2, 3, 4, 5, 6] rfl) hf
      · replace hf := ite_f c_23 hf
        refine lv_aload_n hx hb dX12_finds_277 rfl (lv_at hl 0 rfl) ?_
        refine mq_getr (Tt := TX12) (N := 26) (C := RX12) hx hb hts hiX12 hown hK hP hp rfl 18 16 (by decide) rfl hw6 (fun _ h9 => h9) dX12_finds_278 ?_
        refine lv_iload hx hb dX12_finds_281 (lv_at hl 7 rfl) ?_
        refine lv_aload_n hx hb dX12_finds_283 rfl (lv_at hl 0 rfl) ?_
        refine mq_getr (Tt := TX12) (N := 26) (C := RX12) hx hb hts hiX12 hown hK hP hp rfl 10 8 (by decide) rfl hw2 (fun _ h9 => h9) dX12_finds_284 ?_
        refine lv_iload hx hb dX12_finds_287 (lv_at hl 7 rfl) ?_
        obtain ⟨h_24, hf⟩ := og_some hf
        refine mq_iald hx hb hK hP (N := 9) (shTM_X12_8 hp) h_24 dX12_finds_289 ?_
        obtain ⟨h_25, hf⟩ := og_some hf
        obtain ⟨g_26, eg_26, hf⟩ := mw_some hf
        refine mq_iast hx hb hK hI hP hS (N := 9) (shTM_X12_16 hp) h_25 dX12_finds_290 eg_26 (fun H locs hP hS => ?_)
        obtain ⟨x9_27, ex9_27, hf⟩ := mv_some hf
        refine lv_iinc (v := x9_27) (lv' := [(9, .int x9_27), (0, .ref (ad 0)), (1, .int x1), (2, .int x2), (3, .int x3), (4, .int x4), (5, .int x5), (6, .int x6)]) hx hb dX12_finds_291 hl (k := 7) rfl (by rw [ex9_27]; rfl) (by decide) rfl (fun ls hl => ?_)
        refine lv_goto (tgt := 270) hx hb dX12_finds_294 (by decide) ?_
        exact ih x6 x9_27 g_26 H locs ls hP hS (lv_sub hl [1, 2, 3, 4, 5, 6, 7, 0] rfl) hf
  have hc209 : ∀ (K_15 : Int32 → Mm → Option (Int32 × Mm)), (∀ (x6 : Int32) (g : Mm) (H : Heap) (locs : List Loc) (ls : Array Slot), va_P D vwCl (mm_L TM ad cy g) H → va_S (mm_A TM ad) s.heap H locs → lv_has ls 10 [(0, .ref (ad 0)), (1, .int x1), (2, .int x2), (3, .int x3), (4, .int x4), (5, .int x5), (6, .int x6)] → K_15 x6 g = some (r0, g') → W p l e (headSpec wsX12_finds (rm_X12_finds)).room s m args below meth c H locs 0 0 (MQ below (mm_Qi D TM ad cy r0 g') args s 0 0 (mm_A TM ad)) (F0 m 15 ls [])) → ∀ (x6 : Int32) (x7 : Int32) (sx0 : Int32) (g : Mm) (H : Heap) (locs : List Loc) (ls : Array Slot), va_P D vwCl (mm_L TM ad cy g) H → va_S (mm_A TM ad) s.heap H locs → lv_has ls 10 [(0, .ref (ad 0)), (1, .int x1), (2, .int x2), (3, .int x3), (4, .int x4), (5, .int x5), (6, .int x6), (7, .int x7)] → f_X12_finds_c209 K_15 x1 x2 x3 x4 x5 x6 x7 sx0 g = some (r0, g') → W p l e (headSpec wsX12_finds (rm_X12_finds)).room s m args below meth c H locs 0 0 (MQ below (mm_Qi D TM ad cy r0 g') args s 0 0 (mm_A TM ad)) (F0 m 209 ls [.int sx0]) := by
    intro K_15 hK_15 x6 x7 sx0 g H locs ls hP hS hl hf
    unfold f_X12_finds_c209 at hf
    refine lv_istore (lv' := [(8, .int sx0), (0, .ref (ad 0)), (1, .int x1), (2, .int x2), (3, .int x3), (4, .int x4), (5, .int x5), (6, .int x6), (7, .int x7)]) hx hb dX12_finds_209 hl (by decide) rfl (fun ls hl => ?_)
    refine lv_iload hx hb dX12_finds_211 (lv_at hl 8 rfl) ?_
    refine lv_if_eq (tgt := 15) hx hb dX12_finds_213 (by decide) (fun c_18 => ?_) (fun c_18 => ?_)
    · replace hf := ite_t c_18 hf
      exact hK_15 x6 g H locs ls hP hS (lv_sub hl [1, 2, 3, 4, 5, 6, 7] rfl) hf
    · replace hf := ite_f c_18 hf
      refine lv_iload hx hb dX12_finds_216 (lv_at hl 0 rfl) ?_
      refine lv_if_ne (tgt := 224) hx hb dX12_finds_218 (by decide) (fun c_19 => ?_) (fun c_19 => ?_)
      · replace hf := ite_f c_19 hf
        refine lv_iload hx hb dX12_finds_224 (lv_at hl 7 rfl) ?_
        refine lv_bipush (v := 8) hx hb dX12_finds_226 (by decide) ?_
        refine lv_icmp_ge (tgt := 245) hx hb dX12_finds_228 (by decide) (fun c_20 => ?_) (fun c_20 => ?_)
        · replace hf := ite_t c_20 hf
          refine lv_aload_n hx hb dX12_finds_245 rfl (lv_at hl 1 rfl) ?_
          refine lv_aload_n hx hb dX12_finds_246 rfl (lv_at hl 1 rfl) ?_
          refine mq_getr (Tt := TX12) (N := 26) (C := RX12) hx hb hts hiX12 hown hK hP hp rfl 11 9 (by decide) rfl hw4 (fun _ h9 => h9) dX12_finds_247 ?_
          refine lv_bipush (v := 9) hx hb dX12_finds_250 (by decide) ?_
          refine mq_iald hx hb hK hP (N := 10) (shTM_X12_9 hp) (by decide : mm_in 9 10 = true) dX12_finds_252 ?_
          obtain ⟨g_21, eg_21, hf⟩ := mw_some hf
          refine mq_puti (Tt := TX12) (N := 26) (C := RX12) (ty := .int) hx hb hts hiX12 tyX12 tyX12_ok nmX12 hown hK hI hP hS hp rfl 19 (by decide) rfl hw0 (fun _ h9 => h9) rfl (by decide +kernel) rfl rfl dX12_finds_253 eg_21 (fun H locs hP hS => ?_)
          refine lv_aload_n hx hb dX12_finds_256 rfl (lv_at hl 1 rfl) ?_
          refine lv_aload_n hx hb dX12_finds_257 rfl (lv_at hl 1 rfl) ?_
          refine mq_getr (Tt := TX12) (N := 26) (C := RX12) hx hb hts hiX12 hown hK hP hp rfl 12 10 (by decide) rfl hw3 (fun _ h9 => h9) dX12_finds_258 ?_
          refine lv_bipush (v := 9) hx hb dX12_finds_261 (by decide) ?_
          refine mq_iald hx hb hK hP (N := 10) (shTM_X12_10 hp) (by decide : mm_in 9 10 = true) dX12_finds_263 ?_
          obtain ⟨g_22, eg_22, hf⟩ := mw_some hf
          refine mq_puti (Tt := TX12) (N := 26) (C := RX12) (ty := .int) hx hb hts hiX12 tyX12 tyX12_ok nmX12 hown hK hI hP hS hp rfl 20 (by decide) rfl hw5 (fun _ h9 => h9) rfl (by decide +kernel) rfl rfl dX12_finds_264 eg_22 (fun H locs hP hS => ?_)
          refine lv_iconst (v := 0) hx hb dX12_finds_267 (by decide) ?_
          refine lv_istore (lv' := [(9, .int 0), (8, .int sx0), (0, .ref (ad 0)), (1, .int x1), (2, .int x2), (3, .int x3), (4, .int x4), (5, .int x5), (6, .int x6), (7, .int x7)]) hx hb dX12_finds_268 hl (by decide) rfl (fun ls hl => ?_)
          exact hc270 K_15 hK_15 FU x6 0 g_22 H locs ls hP hS (lv_sub hl [2, 3, 4, 5, 6, 7, 8, 0] rfl) hf
        · replace hf := ite_f c_20 hf
          obtain ⟨x6_28, ex6_28, hf⟩ := mv_some hf
          refine lv_iinc (v := x6_28) (lv' := [(6, .int x6_28), (8, .int sx0), (0, .ref (ad 0)), (1, .int x1), (2, .int x2), (3, .int x3), (4, .int x4), (5, .int x5), (7, .int x7)]) hx hb dX12_finds_231 hl (k := 7) rfl (by rw [ex6_28]; rfl) (by decide) rfl (fun ls hl => ?_)
          refine lv_aload_n hx hb dX12_finds_234 rfl (lv_at hl 2 rfl) ?_
          refine mq_getr (Tt := TX12) (N := 26) (C := RX12) hx hb hts hiX12 hown hK hP hp rfl 10 8 (by decide) rfl hw2 (fun _ h9 => h9) dX12_finds_235 ?_
          refine lv_iload hx hb dX12_finds_238 (lv_at hl 0 rfl) ?_
          refine lv_iconst (v := (-1)) hx hb dX12_finds_240 (by decide) ?_
          obtain ⟨h_29, hf⟩ := og_some hf
          obtain ⟨g_30, eg_30, hf⟩ := mw_some hf
          refine mq_iast hx hb hK hI hP hS (N := 9) (shTM_X12_8 hp) h_29 dX12_finds_241 eg_30 (fun H locs hP hS => ?_)
          refine lv_goto (tgt := 15) hx hb dX12_finds_242 (by decide) ?_
          exact hK_15 x6_28 g_30 H locs ls hP hS (lv_sub hl [2, 3, 4, 5, 6, 7, 0] rfl) hf
      · replace hf := ite_t c_19 hf
        refine lv_goto (tgt := 15) hx hb dX12_finds_221 (by decide) ?_
        exact hK_15 x6 g H locs ls hP hS (lv_sub hl [1, 2, 3, 4, 5, 6, 7] rfl) hf
  have hc204 : ∀ (K_15 : Int32 → Mm → Option (Int32 × Mm)), (∀ (x6 : Int32) (g : Mm) (H : Heap) (locs : List Loc) (ls : Array Slot), va_P D vwCl (mm_L TM ad cy g) H → va_S (mm_A TM ad) s.heap H locs → lv_has ls 10 [(0, .ref (ad 0)), (1, .int x1), (2, .int x2), (3, .int x3), (4, .int x4), (5, .int x5), (6, .int x6)] → K_15 x6 g = some (r0, g') → W p l e (headSpec wsX12_finds (rm_X12_finds)).room s m args below meth c H locs 0 0 (MQ below (mm_Qi D TM ad cy r0 g') args s 0 0 (mm_A TM ad)) (F0 m 15 ls [])) → ∀ (x6 : Int32) (x7 : Int32) (g : Mm) (H : Heap) (locs : List Loc) (ls : Array Slot), va_P D vwCl (mm_L TM ad cy g) H → va_S (mm_A TM ad) s.heap H locs → lv_has ls 10 [(0, .ref (ad 0)), (1, .int x1), (2, .int x2), (3, .int x3), (4, .int x4), (5, .int x5), (6, .int x6), (7, .int x7)] → f_X12_finds_c204 K_15 x1 x2 x3 x4 x5 x6 x7 g = some (r0, g') → W p l e (headSpec wsX12_finds (rm_X12_finds)).room s m args below meth c H locs 0 0 (MQ below (mm_Qi D TM ad cy r0 g') args s 0 0 (mm_A TM ad)) (F0 m 204 ls []) := by
    intro K_15 hK_15 x6 x7 g H locs ls hP hS hl hf
    unfold f_X12_finds_c204 at hf
    refine lv_iconst (v := 1) hx hb dX12_finds_204 (by decide) ?_
    refine lv_goto (tgt := 209) hx hb dX12_finds_205 (by decide) ?_
    exact hc209 K_15 hK_15 x6 x7 1 g H locs ls hP hS (lv_sub hl [0, 1, 2, 3, 4, 5, 6, 7] rfl) hf
  have hc208 : ∀ (K_15 : Int32 → Mm → Option (Int32 × Mm)), (∀ (x6 : Int32) (g : Mm) (H : Heap) (locs : List Loc) (ls : Array Slot), va_P D vwCl (mm_L TM ad cy g) H → va_S (mm_A TM ad) s.heap H locs → lv_has ls 10 [(0, .ref (ad 0)), (1, .int x1), (2, .int x2), (3, .int x3), (4, .int x4), (5, .int x5), (6, .int x6)] → K_15 x6 g = some (r0, g') → W p l e (headSpec wsX12_finds (rm_X12_finds)).room s m args below meth c H locs 0 0 (MQ below (mm_Qi D TM ad cy r0 g') args s 0 0 (mm_A TM ad)) (F0 m 15 ls [])) → ∀ (x6 : Int32) (x7 : Int32) (g : Mm) (H : Heap) (locs : List Loc) (ls : Array Slot), va_P D vwCl (mm_L TM ad cy g) H → va_S (mm_A TM ad) s.heap H locs → lv_has ls 10 [(0, .ref (ad 0)), (1, .int x1), (2, .int x2), (3, .int x3), (4, .int x4), (5, .int x5), (6, .int x6), (7, .int x7)] → f_X12_finds_c208 K_15 x1 x2 x3 x4 x5 x6 x7 g = some (r0, g') → W p l e (headSpec wsX12_finds (rm_X12_finds)).room s m args below meth c H locs 0 0 (MQ below (mm_Qi D TM ad cy r0 g') args s 0 0 (mm_A TM ad)) (F0 m 208 ls []) := by
    intro K_15 hK_15 x6 x7 g H locs ls hP hS hl hf
    unfold f_X12_finds_c208 at hf
    refine lv_iconst (v := 0) hx hb dX12_finds_208 (by decide) ?_
    exact hc209 K_15 hK_15 x6 x7 0 g H locs ls hP hS (lv_sub hl [0, 1, 2, 3, 4, 5, 6, 7] rfl) hf
  have hc147 : ∀ (K_15 : Int32 → Mm → Option (Int32 × Mm)), (∀ (x6 : Int32) (g : Mm) (H : Heap) (locs : List Loc) (ls : Array Slot), va_P D vwCl (mm_L TM ad cy g) H → va_S (mm_A TM ad) s.heap H locs → lv_has ls 10 [(0, .ref (ad 0)), (1, .int x1), (2, .int x2), (3, .int x3), (4, .int x4), (5, .int x5), (6, .int x6)] → K_15 x6 g = some (r0, g') → W p l e (headSpec wsX12_finds (rm_X12_finds)).room s m args below meth c H locs 0 0 (MQ below (mm_Qi D TM ad cy r0 g') args s 0 0 (mm_A TM ad)) (F0 m 15 ls [])) → ∀ (x6 : Int32) (sx0 : Int32) (g : Mm) (H : Heap) (locs : List Loc) (ls : Array Slot), va_P D vwCl (mm_L TM ad cy g) H → va_S (mm_A TM ad) s.heap H locs → lv_has ls 10 [(0, .ref (ad 0)), (1, .int x1), (2, .int x2), (3, .int x3), (4, .int x4), (5, .int x5), (6, .int x6)] → f_X12_finds_c147 K_15 x1 x2 x3 x4 x5 x6 sx0 g = some (r0, g') → W p l e (headSpec wsX12_finds (rm_X12_finds)).room s m args below meth c H locs 0 0 (MQ below (mm_Qi D TM ad cy r0 g') args s 0 0 (mm_A TM ad)) (F0 m 147 ls [.int sx0]) := by
    intro K_15 hK_15 x6 sx0 g H locs ls hP hS hl hf
    unfold f_X12_finds_c147 at hf
    refine lv_istore (lv' := [(7, .int sx0), (0, .ref (ad 0)), (1, .int x1), (2, .int x2), (3, .int x3), (4, .int x4), (5, .int x5), (6, .int x6)]) hx hb dX12_finds_147 hl (by decide) rfl (fun ls hl => ?_)
    refine lv_aload_n hx hb dX12_finds_149 rfl (lv_at hl 1 rfl) ?_
    refine mq_geti (Tt := TX12) (N := 26) (C := RX12) hx hb hts hiX12 hown hK hP hp rfl 19 (by decide) rfl hw0 (fun _ h9 => h9) dX12_finds_150 ?_
    refine lv_if_lt (tgt := 204) hx hb dX12_finds_153 (by decide) (fun c_17 => ?_) (fun c_17 => ?_)
    · replace hf := ite_t c_17 hf
      exact hc204 K_15 hK_15 x6 sx0 g H locs ls hP hS (lv_sub hl [1, 2, 3, 4, 5, 6, 7, 0] rfl) hf
    · replace hf := ite_f c_17 hf
      refine lv_aload_n hx hb dX12_finds_156 rfl (lv_at hl 1 rfl) ?_
      refine mq_getr (Tt := TX12) (N := 26) (C := RX12) hx hb hts hiX12 hown hK hP hp rfl 11 9 (by decide) rfl hw4 (fun _ h9 => h9) dX12_finds_157 ?_
      refine lv_iload hx hb dX12_finds_160 (lv_at hl 7 rfl) ?_
      refine lv_iconst (v := 1) hx hb dX12_finds_162 (by decide) ?_
      refine lv_iadd hx hb dX12_finds_163 ?_
      obtain ⟨h_31, hf⟩ := og_some hf
      refine mq_iald hx hb hK hP (N := 10) (shTM_X12_9 hp) h_31 dX12_finds_164 ?_
      refine lv_aload_n hx hb dX12_finds_165 rfl (lv_at hl 1 rfl) ?_
      refine mq_geti (Tt := TX12) (N := 26) (C := RX12) hx hb hts hiX12 hown hK hP hp rfl 19 (by decide) rfl hw0 (fun _ h9 => h9) dX12_finds_166 ?_
      refine lv_icmp_lt (tgt := 204) hx hb dX12_finds_169 (by decide) (fun c_32 => ?_) (fun c_32 => ?_)
      · replace hf := ite_t c_32 hf
        exact hc204 K_15 hK_15 x6 sx0 g H locs ls hP hS (lv_sub hl [1, 2, 3, 4, 5, 6, 7, 0] rfl) hf
      · replace hf := ite_f c_32 hf
        refine lv_aload_n hx hb dX12_finds_172 rfl (lv_at hl 1 rfl) ?_
        refine mq_getr (Tt := TX12) (N := 26) (C := RX12) hx hb hts hiX12 hown hK hP hp rfl 11 9 (by decide) rfl hw4 (fun _ h9 => h9) dX12_finds_173 ?_
        refine lv_iload hx hb dX12_finds_176 (lv_at hl 7 rfl) ?_
        refine lv_iconst (v := 1) hx hb dX12_finds_178 (by decide) ?_
        refine lv_iadd hx hb dX12_finds_179 ?_
        obtain ⟨h_33, hf⟩ := og_some hf
        refine mq_iald hx hb hK hP (N := 10) (shTM_X12_9 hp) h_33 dX12_finds_180 ?_
        refine lv_aload_n hx hb dX12_finds_181 rfl (lv_at hl 1 rfl) ?_
        refine mq_geti (Tt := TX12) (N := 26) (C := RX12) hx hb hts hiX12 hown hK hP hp rfl 19 (by decide) rfl hw0 (fun _ h9 => h9) dX12_finds_182 ?_
        refine lv_icmp_ne (tgt := 208) hx hb dX12_finds_185 (by decide) (fun c_34 => ?_) (fun c_34 => ?_)
        · replace hf := ite_f c_34 hf
          exact hc208 K_15 hK_15 x6 sx0 g H locs ls hP hS (lv_sub hl [1, 2, 3, 4, 5, 6, 7, 0] rfl) hf
        · replace hf := ite_t c_34 hf
          refine lv_aload_n hx hb dX12_finds_188 rfl (lv_at hl 1 rfl) ?_
          refine mq_getr (Tt := TX12) (N := 26) (C := RX12) hx hb hts hiX12 hown hK hP hp rfl 12 10 (by decide) rfl hw3 (fun _ h9 => h9) dX12_finds_189 ?_
          refine lv_iload hx hb dX12_finds_192 (lv_at hl 7 rfl) ?_
          refine lv_iconst (v := 1) hx hb dX12_finds_194 (by decide) ?_
          refine lv_iadd hx hb dX12_finds_195 ?_
          obtain ⟨h_35, hf⟩ := og_some hf
          refine mq_iald hx hb hK hP (N := 10) (shTM_X12_10 hp) h_35 dX12_finds_196 ?_
          refine lv_aload_n hx hb dX12_finds_197 rfl (lv_at hl 1 rfl) ?_
          refine mq_geti (Tt := TX12) (N := 26) (C := RX12) hx hb hts hiX12 hown hK hP hp rfl 20 (by decide) rfl hw5 (fun _ h9 => h9) dX12_finds_198 ?_
          refine lv_icmp_ge (tgt := 208) hx hb dX12_finds_201 (by decide) (fun c_36 => ?_) (fun c_36 => ?_)
          · replace hf := ite_t c_36 hf
            exact hc208 K_15 hK_15 x6 sx0 g H locs ls hP hS (lv_sub hl [1, 2, 3, 4, 5, 6, 7, 0] rfl) hf
          · replace hf := ite_f c_36 hf
            exact hc204 K_15 hK_15 x6 sx0 g H locs ls hP hS (lv_sub hl [1, 2, 3, 4, 5, 6, 7, 0] rfl) hf
  have hc146 : ∀ (K_15 : Int32 → Mm → Option (Int32 × Mm)), (∀ (x6 : Int32) (g : Mm) (H : Heap) (locs : List Loc) (ls : Array Slot), va_P D vwCl (mm_L TM ad cy g) H → va_S (mm_A TM ad) s.heap H locs → lv_has ls 10 [(0, .ref (ad 0)), (1, .int x1), (2, .int x2), (3, .int x3), (4, .int x4), (5, .int x5), (6, .int x6)] → K_15 x6 g = some (r0, g') → W p l e (headSpec wsX12_finds (rm_X12_finds)).room s m args below meth c H locs 0 0 (MQ below (mm_Qi D TM ad cy r0 g') args s 0 0 (mm_A TM ad)) (F0 m 15 ls [])) → ∀ (x6 : Int32) (g : Mm) (H : Heap) (locs : List Loc) (ls : Array Slot), va_P D vwCl (mm_L TM ad cy g) H → va_S (mm_A TM ad) s.heap H locs → lv_has ls 10 [(0, .ref (ad 0)), (1, .int x1), (2, .int x2), (3, .int x3), (4, .int x4), (5, .int x5), (6, .int x6)] → f_X12_finds_c146 K_15 x1 x2 x3 x4 x5 x6 g = some (r0, g') → W p l e (headSpec wsX12_finds (rm_X12_finds)).room s m args below meth c H locs 0 0 (MQ below (mm_Qi D TM ad cy r0 g') args s 0 0 (mm_A TM ad)) (F0 m 146 ls []) := by
    intro K_15 hK_15 x6 g H locs ls hP hS hl hf
    unfold f_X12_finds_c146 at hf
    refine lv_iconst (v := 0) hx hb dX12_finds_146 (by decide) ?_
    exact hc147 K_15 hK_15 x6 0 g H locs ls hP hS (lv_sub hl [0, 1, 2, 3, 4, 5, 6] rfl) hf
  have hc15 : ∀ (n : Nat), ∀ (x6 : Int32) (g : Mm) (H : Heap) (locs : List Loc) (ls : Array Slot), va_P D vwCl (mm_L TM ad cy g) H → va_S (mm_A TM ad) s.heap H locs → lv_has ls 10 [(0, .ref (ad 0)), (1, .int x1), (2, .int x2), (3, .int x3), (4, .int x4), (5, .int x5), (6, .int x6)] → f_X12_finds_c15 x1 x2 x3 x4 x5 n x6 g = some (r0, g') → W p l e (headSpec wsX12_finds (rm_X12_finds)).room s m args below meth c H locs 0 0 (MQ below (mm_Qi D TM ad cy r0 g') args s 0 0 (mm_A TM ad)) (F0 m 15 ls []) := by
    intro n
    induction n with
    | zero =>
      intro x6 g H locs ls hP hS hl hf
      rw [f_X12_finds_c15] at hf
      cases hf
    | succ n ih =>
      intro x6 g H locs ls hP hS hl hf
      rw [f_X12_finds_c15] at hf
      refine lv_iload hx hb dX12_finds_15 (lv_at hl 6 rfl) ?_
      refine lv_if_lt (tgt := 300) hx hb dX12_finds_17 (by decide) (fun c_3 => ?_) (fun c_3 => ?_)
      · replace hf := ite_t c_3 hf
        refine lv_aload_n hx hb dX12_finds_300 rfl (lv_at hl 0 rfl) ?_
        refine mq_geti (Tt := TX12) (N := 26) (C := RX12) hx hb hts hiX12 hown hK hP hp rfl 19 (by decide) rfl hw0 (fun _ h9 => h9) dX12_finds_301 ?_
        refine lv_if_lt (tgt := 311) hx hb dX12_finds_304 (by decide) (fun c_4 => ?_) (fun c_4 => ?_)
        · replace hf := ite_t c_4 hf
          refine lv_iconst (v := 0) hx hb dX12_finds_311 (by decide) ?_
          exact mq_iret hx hb hr (by decide +kernel) hlocks hP hS (pr_1 hf) (pr_2 hf) dX12_finds_312
        · replace hf := ite_f c_4 hf
          refine lv_iconst (v := 1) hx hb dX12_finds_307 (by decide) ?_
          refine lv_goto (tgt := 312) hx hb dX12_finds_308 (by decide) ?_
          exact mq_iret hx hb hr (by decide +kernel) hlocks hP hS (pr_1 hf) (pr_2 hf) dX12_finds_312
      · replace hf := ite_f c_3 hf
        refine lv_aload_n hx hb dX12_finds_20 rfl (lv_at hl 0 rfl) ?_
        refine mq_getr (Tt := TX12) (N := 26) (C := RX12) hx hb hts hiX12 hown hK hP hp rfl 10 8 (by decide) rfl hw2 (fun _ h9 => h9) dX12_finds_21 ?_
        refine lv_iload hx hb dX12_finds_24 (lv_at hl 6 rfl) ?_
        refine lv_dup2_11 hx hb dX12_finds_26 rfl rfl ?_
        obtain ⟨h_5, hf⟩ := og_some hf
        refine mq_iald hx hb hK hP (N := 9) (shTM_X12_8 hp) h_5 dX12_finds_27 ?_
        refine lv_iconst (v := 1) hx hb dX12_finds_28 (by decide) ?_
        refine lv_iadd hx hb dX12_finds_29 ?_
        obtain ⟨h_6, hf⟩ := og_some hf
        obtain ⟨g_7, eg_7, hf⟩ := mw_some hf
        refine mq_iast hx hb hK hI hP hS (N := 9) (shTM_X12_8 hp) h_6 dX12_finds_30 eg_7 (fun H locs hP hS => ?_)
        refine lv_aload_n hx hb dX12_finds_31 rfl (lv_at hl 0 rfl) ?_
        refine mq_getr (Tt := TX12) (N := 26) (C := RX12) hx hb hts hiX12 hown hK hP hp rfl 10 8 (by decide) rfl hw2 (fun _ h9 => h9) dX12_finds_32 ?_
        refine lv_iload hx hb dX12_finds_35 (lv_at hl 6 rfl) ?_
        obtain ⟨h_8, hf⟩ := og_some hf
        refine mq_iald hx hb hK hP (N := 9) (shTM_X12_8 hp) h_8 dX12_finds_37 ?_
        refine lv_iconst (v := 3) hx hb dX12_finds_38 (by decide) ?_
        refine lv_icmp_le (tgt := 48) hx hb dX12_finds_39 (by decide) (fun c_9 => ?_) (fun c_9 => ?_)
        · replace hf := ite_t c_9 hf
          refine lv_aload_n hx hb dX12_finds_48 rfl (lv_at hl 0 rfl) ?_
          refine lv_iload_n hx hb dX12_finds_49 rfl (lv_at hl 1 rfl) ?_
          refine lv_iload_n hx hb dX12_finds_50 rfl (lv_at hl 2 rfl) ?_
          refine lv_iload_n hx hb dX12_finds_51 rfl (lv_at hl 3 rfl) ?_
          refine lv_iload hx hb dX12_finds_52 (lv_at hl 4 rfl) ?_
          refine lv_iload hx hb dX12_finds_54 (lv_at hl 6 rfl) ?_
          obtain ⟨r_10, hr_11, hf⟩ := op_some hf
          refine mq_calli (va_runV (As := [.int x1, .int x2, .int x3, .int x4, .int x6]) (rest := []) ⟨hx, hb, hml, hown, hts⟩ (c_X12_can l D ad cy x1 x2 x3 x4 x6 g_7 hp r_10 hr_11) (cwV 5 hts gX12_finds_X12_can rfl rfl rfl (by decide +kernel) ⟨Nat.le_of_ble_eq_true rfl, Nat.le_of_ble_eq_true rfl⟩) (mq_preV (q := (RX12, TX12, 26)) mm_zOk0 hK hP hI hZ hS hp rfl) rfl rfl hl.1 rfl (lv_room (Nat.le_of_ble_eq_true rfl)) dX12_finds_56 ⟨Nat.le_refl _, Nat.le_refl _⟩) hS (fun H locs hP hS => ?_)
          refine lv_if_ne (tgt := 65) hx hb dX12_finds_59 (by decide) (fun c_12 => ?_) (fun c_12 => ?_)
          · replace hf := ite_f c_12 hf
            refine lv_aload_n hx hb dX12_finds_65 rfl (lv_at hl 0 rfl) ?_
            refine lv_iload_n hx hb dX12_finds_66 rfl (lv_at hl 1 rfl) ?_
            refine lv_iload_n hx hb dX12_finds_67 rfl (lv_at hl 2 rfl) ?_
            refine lv_iload_n hx hb dX12_finds_68 rfl (lv_at hl 3 rfl) ?_
            refine lv_iload hx hb dX12_finds_69 (lv_at hl 4 rfl) ?_
            refine lv_iload hx hb dX12_finds_71 (lv_at hl 6 rfl) ?_
            obtain ⟨g_13, hr_14, hf⟩ := op_some hf
            refine mq_callv (va_runV (As := [.int x1, .int x2, .int x3, .int x4, .int x6]) (rest := []) ⟨hx, hb, hml, hown, hts⟩ (c_X12_sum l D ad cy x1 x2 x3 x4 x6 g_7 hp g_13 hr_14) (cwV 5 hts gX12_finds_X12_sum rfl rfl rfl (by decide +kernel) ⟨Nat.le_of_ble_eq_true rfl, Nat.le_of_ble_eq_true rfl⟩) (mq_preV (q := (RX12, TX12, 26)) mm_zOk0 hK hP hI hZ hS hp rfl) rfl rfl hl.1 rfl (lv_room (Nat.le_of_ble_eq_true rfl)) dX12_finds_73 ⟨Nat.le_refl _, Nat.le_refl _⟩) hS (fun H locs hP hS => ?_)
            refine lv_aload_n hx hb dX12_finds_76 rfl (lv_at hl 0 rfl) ?_
            refine mq_getr (Tt := TX12) (N := 26) (C := RX12) hx hb hts hiX12 hown hK hP hp rfl 12 10 (by decide) rfl hw3 (fun _ h9 => h9) dX12_finds_77 ?_
            refine lv_iload hx hb dX12_finds_80 (lv_at hl 6 rfl) ?_
            refine lv_iconst (v := 1) hx hb dX12_finds_82 (by decide) ?_
            refine lv_iadd hx hb dX12_finds_83 ?_
            obtain ⟨h_15, hf⟩ := og_some hf
            refine mq_iald hx hb hK hP (N := 10) (shTM_X12_10 hp) h_15 dX12_finds_84 ?_
            refine lv_iload hx hb dX12_finds_85 (lv_at hl 5 rfl) ?_
            refine lv_icmp_gt (tgt := 146) hx hb dX12_finds_87 (by decide) (fun c_16 => ?_) (fun c_16 => ?_)
            · replace hf := ite_t c_16 hf
              exact hc146 (f_X12_finds_c15 x1 x2 x3 x4 x5 n) ih x6 g_13 H locs ls hP hS (lv_sub hl [0, 1, 2, 3, 4, 5, 6] rfl) hf
            · replace hf := ite_f c_16 hf
              refine lv_aload_n hx hb dX12_finds_90 rfl (lv_at hl 0 rfl) ?_
              refine lv_iload_n hx hb dX12_finds_91 rfl (lv_at hl 2 rfl) ?_
              refine lv_aload_n hx hb dX12_finds_92 rfl (lv_at hl 0 rfl) ?_
              refine mq_getr (Tt := TX12) (N := 26) (C := RX12) hx hb hts hiX12 hown hK hP hp rfl 13 11 (by decide) rfl hw7 (fun _ h9 => h9) dX12_finds_93 ?_
              refine lv_iload hx hb dX12_finds_96 (lv_at hl 6 rfl) ?_
              refine lv_iconst (v := 1) hx hb dX12_finds_98 (by decide) ?_
              refine lv_iadd hx hb dX12_finds_99 ?_
              obtain ⟨h_37, hf⟩ := og_some hf
              refine mq_iald hx hb hK hP (N := 10) (shTM_X12_11 hp) h_37 dX12_finds_100 ?_
              obtain ⟨r_38, hr_39, hf⟩ := op_some hf
              refine mq_calli (va_runV (As := [.int x2, .int (g_13 11 (x6 + 1).toNatClampNeg)]) (rest := []) ⟨hx, hb, hml, hown, hts⟩ (c_X12_lasts l D ad cy x2 (g_13 11 (x6 + 1).toNatClampNeg) g_13 hp r_38 hr_39) (cwV 2 hts gX12_finds_X12_lasts rfl rfl rfl (by decide +kernel) ⟨Nat.le_of_ble_eq_true rfl, Nat.le_of_ble_eq_true rfl⟩) (mq_preV (q := (RX12, TX12, 26)) mm_zOk0 hK hP hI hZ hS hp rfl) rfl rfl hl.1 rfl (lv_room (Nat.le_of_ble_eq_true rfl)) dX12_finds_101 ⟨Nat.le_refl _, Nat.le_refl _⟩) hS (fun H locs hP hS => ?_)
              refine lv_if_eq (tgt := 146) hx hb dX12_finds_104 (by decide) (fun c_40 => ?_) (fun c_40 => ?_)
              · replace hf := ite_t c_40 hf
                exact hc146 (f_X12_finds_c15 x1 x2 x3 x4 x5 n) ih x6 g_13 H locs ls hP hS (lv_sub hl [0, 1, 2, 3, 4, 5, 6] rfl) hf
              · replace hf := ite_f c_40 hf
                refine lv_aload_n hx hb dX12_finds_107 rfl (lv_at hl 0 rfl) ?_
                refine lv_iload_n hx hb dX12_finds_108 rfl (lv_at hl 3 rfl) ?_
                refine lv_aload_n hx hb dX12_finds_109 rfl (lv_at hl 0 rfl) ?_
                refine mq_getr (Tt := TX12) (N := 26) (C := RX12) hx hb hts hiX12 hown hK hP hp rfl 14 12 (by decide) rfl hw8 (fun _ h9 => h9) dX12_finds_110 ?_
                refine lv_iload hx hb dX12_finds_113 (lv_at hl 6 rfl) ?_
                refine lv_iconst (v := 1) hx hb dX12_finds_115 (by decide) ?_
                refine lv_iadd hx hb dX12_finds_116 ?_
                obtain ⟨h_41, hf⟩ := og_some hf
                refine mq_iald hx hb hK hP (N := 10) (shTM_X12_12 hp) h_41 dX12_finds_117 ?_
                obtain ⟨r_42, hr_43, hf⟩ := op_some hf
                refine mq_calli (va_runV (As := [.int x3, .int (g_13 12 (x6 + 1).toNatClampNeg)]) (rest := []) ⟨hx, hb, hml, hown, hts⟩ (c_X12_lasts l D ad cy x3 (g_13 12 (x6 + 1).toNatClampNeg) g_13 hp r_42 hr_43) (cwV 2 hts gX12_finds_X12_lasts rfl rfl rfl (by decide +kernel) ⟨Nat.le_of_ble_eq_true rfl, Nat.le_of_ble_eq_true rfl⟩) (mq_preV (q := (RX12, TX12, 26)) mm_zOk0 hK hP hI hZ hS hp rfl) rfl rfl hl.1 rfl (lv_room (Nat.le_of_ble_eq_true rfl)) dX12_finds_118 ⟨Nat.le_refl _, Nat.le_refl _⟩) hS (fun H locs hP hS => ?_)
                refine lv_if_eq (tgt := 146) hx hb dX12_finds_121 (by decide) (fun c_44 => ?_) (fun c_44 => ?_)
                · replace hf := ite_t c_44 hf
                  exact hc146 (f_X12_finds_c15 x1 x2 x3 x4 x5 n) ih x6 g_13 H locs ls hP hS (lv_sub hl [0, 1, 2, 3, 4, 5, 6] rfl) hf
                · replace hf := ite_f c_44 hf
                  refine lv_aload_n hx hb dX12_finds_124 rfl (lv_at hl 0 rfl) ?_
                  refine lv_iload hx hb dX12_finds_125 (lv_at hl 4 rfl) ?_
                  refine lv_aload_n hx hb dX12_finds_127 rfl (lv_at hl 0 rfl) ?_
                  refine mq_getr (Tt := TX12) (N := 26) (C := RX12) hx hb hts hiX12 hown hK hP hp rfl 15 13 (by decide) rfl hw9 (fun _ h9 => h9) dX12_finds_128 ?_
                  refine lv_iload hx hb dX12_finds_131 (lv_at hl 6 rfl) ?_
                  refine lv_iconst (v := 1) hx hb dX12_finds_133 (by decide) ?_
                  refine lv_iadd hx hb dX12_finds_134 ?_
                  obtain ⟨h_45, hf⟩ := og_some hf
                  refine mq_iald hx hb hK hP (N := 10) (shTM_X12_13 hp) h_45 dX12_finds_135 ?_
                  obtain ⟨r_46, hr_47, hf⟩ := op_some hf
                  refine mq_calli (va_runV (As := [.int x4, .int (g_13 13 (x6 + 1).toNatClampNeg)]) (rest := []) ⟨hx, hb, hml, hown, hts⟩ (c_X12_lasts l D ad cy x4 (g_13 13 (x6 + 1).toNatClampNeg) g_13 hp r_46 hr_47) (cwV 2 hts gX12_finds_X12_lasts rfl rfl rfl (by decide +kernel) ⟨Nat.le_of_ble_eq_true rfl, Nat.le_of_ble_eq_true rfl⟩) (mq_preV (q := (RX12, TX12, 26)) mm_zOk0 hK hP hI hZ hS hp rfl) rfl rfl hl.1 rfl (lv_room (Nat.le_of_ble_eq_true rfl)) dX12_finds_136 ⟨Nat.le_refl _, Nat.le_refl _⟩) hS (fun H locs hP hS => ?_)
                  refine lv_if_eq (tgt := 146) hx hb dX12_finds_139 (by decide) (fun c_48 => ?_) (fun c_48 => ?_)
                  · replace hf := ite_t c_48 hf
                    exact hc146 (f_X12_finds_c15 x1 x2 x3 x4 x5 n) ih x6 g_13 H locs ls hP hS (lv_sub hl [0, 1, 2, 3, 4, 5, 6] rfl) hf
                  · replace hf := ite_f c_48 hf
                    refine lv_iconst (v := 1) hx hb dX12_finds_142 (by decide) ?_
                    refine lv_goto (tgt := 147) hx hb dX12_finds_143 (by decide) ?_
                    exact hc147 (f_X12_finds_c15 x1 x2 x3 x4 x5 n) ih x6 1 g_13 H locs ls hP hS (lv_sub hl [0, 1, 2, 3, 4, 5, 6] rfl) hf
          · replace hf := ite_t c_12 hf
            refine lv_goto (tgt := 15) hx hb dX12_finds_62 (by decide) ?_
            exact ih x6 g_7 H locs ls hP hS (lv_sub hl [0, 1, 2, 3, 4, 5, 6] rfl) hf
        · replace hf := ite_f c_9 hf
          obtain ⟨x6_49, ex6_49, hf⟩ := mv_some hf
          refine lv_iinc (v := x6_49) (lv' := [(6, .int x6_49), (0, .ref (ad 0)), (1, .int x1), (2, .int x2), (3, .int x3), (4, .int x4), (5, .int x5)]) hx hb dX12_finds_42 hl (k := 6) rfl (by rw [ex6_49]; rfl) (by decide) rfl (fun ls hl => ?_)
          refine lv_goto (tgt := 15) hx hb dX12_finds_45 (by decide) ?_
          exact ih x6_49 g_7 H locs ls hP hS (lv_sub hl [1, 2, 3, 4, 5, 6, 0] rfl) hf
  unfold f_X12_finds at hf
  have hH9 : ∀ (H : Heap) (locs : List Loc), H = s.heap → locs = [] → va_P D vwCl (mm_L TM ad cy g) H → va_S (mm_A TM ad) s.heap H locs → W p l e (headSpec wsX12_finds (rm_X12_finds)).room s m args below meth c H locs 0 0 (MQ below (mm_Qi D TM ad cy r0 g') args s 0 0 (mm_A TM ad)) (F0 m 0 ls []) := by
    intro H locs hH9 hL9 hP hS
    clear hH9 hL9
    refine lv_aload_n hx hb dX12_finds_0 rfl (lv_at hl 0 rfl) ?_
    refine lv_iconst (v := (-1)) hx hb dX12_finds_1 (by decide) ?_
    obtain ⟨g_1, eg_1, hf⟩ := mw_some hf
    refine mq_puti (Tt := TX12) (N := 26) (C := RX12) (ty := .int) hx hb hts hiX12 tyX12 tyX12_ok nmX12 hown hK hI hP hS hp rfl 19 (by decide) rfl hw0 (fun _ h9 => h9) rfl (by decide +kernel) rfl rfl dX12_finds_2 eg_1 (fun H locs hP hS => ?_)
    refine lv_iconst (v := 0) hx hb dX12_finds_5 (by decide) ?_
    refine lv_istore (lv' := [(6, .int 0), (0, .ref (ad 0)), (1, .int x1), (2, .int x2), (3, .int x3), (4, .int x4), (5, .int x5)]) hx hb dX12_finds_6 hl (by decide) rfl (fun ls hl => ?_)
    refine lv_aload_n hx hb dX12_finds_8 rfl (lv_at hl 1 rfl) ?_
    refine mq_getr (Tt := TX12) (N := 26) (C := RX12) hx hb hts hiX12 hown hK hP hp rfl 10 8 (by decide) rfl hw2 (fun _ h9 => h9) dX12_finds_9 ?_
    refine lv_iconst (v := 0) hx hb dX12_finds_12 (by decide) ?_
    refine lv_iconst (v := (-1)) hx hb dX12_finds_13 (by decide) ?_
    obtain ⟨g_2, eg_2, hf⟩ := mw_some hf
    refine mq_iast hx hb hK hI hP hS (N := 9) (shTM_X12_8 hp) (by decide : mm_in 0 9 = true) dX12_finds_14 eg_2 (fun H locs hP hS => ?_)
    exact hc15 FU 0 g_2 H locs ls hP hS (lv_sub hl [1, 2, 3, 4, 5, 6, 0] rfl) hf
  exact hH9 s.heap [] rfl rfl hP hS
