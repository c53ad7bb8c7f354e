abbrev rm_X10_addPerson : Room := ({ frames := 0, cells := 0, slots := 0, locals := 0 } : Room)
set_option maxHeartbeats 4000000 in
set_option maxRecDepth 100000 in
theorem c_X10_addPerson (l : Launch) (D : va_G) (ad : Nat → Nat) (cy : Nat → ClassId) (p0 : Nat) (x1 : Int32) (x2 : Int32) (g : Mm) (hp : TC[p0]? = some sX10) (r0 : Int32) (g' : Mm) (hf : f_X10_addPerson p0 x1 x2 g = some (r0, g')) : Met l yX10_addPerson wsX10_addPerson rm_X10_addPerson (va_Pc [.ref (ad p0), .int x1, .int x2] (mm_pre mm_Z D TC ad cy g)) (mm_Qi D TC ad cy r0 g') 0 0 (mm_A TC ad) := by
  refine Met.ofW (cc := cX10_addPerson) (maxL := 3) (ret := (some .int)) (by decide) rfl ?_
  intro p e s m args below meth c s₁ B hml hv
  obtain ⟨hargs, hP, hK, hI, hZ⟩ := hv
  have hx := B.exec
  have hb := B.bytes
  have hr := B.returns
  have hts := atoms_spec (ws := wsX10_addPerson) B.pre
  have hown : s.vm.findClass RX10 = some m.cls := findClass_of_methodNamed B.named
  have hlocks := B.notSynchronized
  have hw0 := hts (.fieldLink RX10 53 "LeftShoes$World" "peopleCount" "I") (by decide +kernel)
  have hiX10 : ∀ w ∈ wsX100, w ∈ wsX10_addPerson := by decide +kernel
  have hw2 := hts (.fieldLink RX10 9 "LeftShoes$World" "purses" "[I") (by decide +kernel)
  have hw3 := hts (.fieldLink RX10 15 "LeftShoes$World" "feet" "[I") (by decide +kernel)
  rw [show entryFrame m args 3 = F0 m 0 ((lg_sl ([.ref (ad p0), .int x1, .int x2] : List Value) ++ List.replicate (3 - (lg_sl ([.ref (ad p0), .int x1, .int x2] : List Value)).length) Slot.unset).toArray) [] from by rw [hargs]; exact lg_entry_eq m _ _]
  have hl := lv_entry ([.ref (ad p0), .int x1, .int x2] : List Value) (n := 3) (by exact Nat.le_of_ble_eq_true rfl)
  generalize (lg_sl ([.ref (ad p0), .int x1, .int x2] : List Value) ++ List.replicate (3 - (lg_sl ([.ref (ad p0), .int x1, .int x2] : List Value)).length) Slot.unset).toArray = ls at hl ⊢
  have hl : lv_has ls 3 [(0, .ref (ad p0)), (1, .int x1), (2, .int x2)] := by exact hl
  have hS : va_S (mm_A TC ad) s.heap s.heap [] := va_S.rf
  clear hargs
  unfold f_X10_addPerson at hf
  have hH9 : ∀ (H : Heap) (locs : List Loc), H = s.heap → locs = [] → va_P D vwCl (mm_L TC ad cy g) H → va_S (mm_A TC ad) s.heap H locs → W p l e (headSpec wsX10_addPerson (rm_X10_addPerson)).room s m args below meth c H locs 0 0 (MQ below (mm_Qi D TC ad cy r0 g') args s 0 0 (mm_A TC ad)) (F0 m 0 ls []) := by
    intro H locs hH9 hL9 hP hS
    clear hH9 hL9
    refine lv_aload_n hx hb dX10_addPerson_0 rfl (lv_at hl 0 rfl) ?_
    refine mq_geti (Tt := TX10) (N := 9) (C := RX10) hx hb hts hiX10 hown hK hP hp rfl 0 (by decide) rfl hw0 (fun _ h9 => h9) dX10_addPerson_1 ?_
    refine lv_iconst (v := 5) hx hb dX10_addPerson_4 (by decide) ?_
    refine lv_icmp_lt (tgt := 11) hx hb dX10_addPerson_5 (by decide) (fun c_1 => ?_) (fun c_1 => ?_)
    · replace hf := ite_t c_1 hf
      refine lv_aload_n hx hb dX10_addPerson_11 rfl (lv_at hl 0 rfl) ?_
      refine mq_getr (Tt := TX10) (N := 9) (C := RX10) hx hb hts hiX10 hown hK hP hp rfl 1 1 (by decide) rfl hw2 (fun _ h9 => h9) dX10_addPerson_12 ?_
      refine lv_aload_n hx hb dX10_addPerson_15 rfl (lv_at hl 0 rfl) ?_
      refine mq_geti (Tt := TX10) (N := 9) (C := RX10) hx hb hts hiX10 hown hK hP hp rfl 0 (by decide) rfl hw0 (fun _ h9 => h9) dX10_addPerson_16 ?_
      refine lv_iload_n hx hb dX10_addPerson_19 rfl (lv_at hl 1 rfl) ?_
      obtain ⟨h_2, hf⟩ := og_some hf
      obtain ⟨g_3, eg_3, hf⟩ := mw_some hf
      refine mq_iast hx hb hK hI hP hS (N := 5) (shTC_X10_1 hp) h_2 dX10_addPerson_20 eg_3 (fun H locs hP hS => ?_)
      refine lv_aload_n hx hb dX10_addPerson_21 rfl (lv_at hl 0 rfl) ?_
      refine mq_getr (Tt := TX10) (N := 9) (C := RX10) hx hb hts hiX10 hown hK hP hp rfl 2 2 (by decide) rfl hw3 (fun _ h9 => h9) dX10_addPerson_22 ?_
      refine lv_aload_n hx hb dX10_addPerson_25 rfl (lv_at hl 0 rfl) ?_
      refine mq_geti (Tt := TX10) (N := 9) (C := RX10) hx hb hts hiX10 hown hK hP hp rfl 0 (by decide) rfl hw0 (fun _ h9 => h9) dX10_addPerson_26 ?_
      refine lv_iload_n hx hb dX10_addPerson_29 rfl (lv_at hl 2 rfl) ?_
      obtain ⟨h_4, hf⟩ := og_some hf
      obtain ⟨g_5, eg_5, hf⟩ := mw_some hf
      refine mq_iast hx hb hK hI hP hS (N := 5) (shTC_X10_2 hp) h_4 dX10_addPerson_30 eg_5 (fun H locs hP hS => ?_)
      refine lv_aload_n hx hb dX10_addPerson_31 rfl (lv_at hl 0 rfl) ?_
      refine lv_dup hx hb dX10_addPerson_32 rfl ?_
      refine mq_geti (Tt := TX10) (N := 9) (C := RX10) hx hb hts hiX10 hown hK hP hp rfl 0 (by decide) rfl hw0 (fun _ h9 => h9) dX10_addPerson_33 ?_
      refine lv_iconst (v := 1) hx hb dX10_addPerson_36 (by decide) ?_
      refine lv_iadd hx hb dX10_addPerson_37 ?_
      obtain ⟨g_6, eg_6, hf⟩ := mw_some hf
      refine mq_puti (Tt := TX10) (N := 9) (C := RX10) (ty := .int) hx hb hts hiX10 tyX10 tyX10_ok nmX10 hown hK hI hP hS hp rfl 0 (by decide) rfl hw0 (fun _ h9 => h9) rfl (by decide +kernel) rfl rfl dX10_addPerson_38 eg_6 (fun H locs hP hS => ?_)
      refine lv_aload_n hx hb dX10_addPerson_41 rfl (lv_at hl 0 rfl) ?_
      refine mq_geti (Tt := TX10) (N := 9) (C := RX10) hx hb hts hiX10 hown hK hP hp rfl 0 (by decide) rfl hw0 (fun _ h9 => h9) dX10_addPerson_42 ?_
      refine lv_iconst (v := 1) hx hb dX10_addPerson_45 (by decide) ?_
      refine lv_isub hx hb dX10_addPerson_46 ?_
      exact mq_iret hx hb hr rfl hlocks hP hS (pr_1 hf) (pr_2 hf) dX10_addPerson_47
    · replace hf := ite_f c_1 hf
      refine lv_bipush (v := (-3)) hx hb dX10_addPerson_8 (by decide) ?_
      exact mq_iret hx hb hr rfl hlocks hP hS (pr_1 hf) (pr_2 hf) dX10_addPerson_10
  exact hH9 s.heap [] rfl rfl hP hS
abbrev rm_X10_addShoe : Room := ({ frames := 0, cells := 0, slots := 0, locals := 0 } : Room)
set_option maxHeartbeats 4000000 in
set_option maxRecDepth 100000 in
theorem c_X10_addShoe (l : Launch) (D : va_G) (ad : Nat → Nat) (cy : Nat → ClassId) (p0 : Nat) (x1 : Int32) (x2 : Int32) (x3 : Int32) (x4 : Int32) (g : Mm) (hp : TC[p0]? = some sX10) (r0 : Int32) (g' : Mm) (hf : f_X10_addShoe p0 x1 x2 x3 x4 g = some (r0, g')) : Met l yX10_addShoe wsX10_addShoe rm_X10_addShoe (va_Pc [.ref (ad p0), .int x1, .int x2, .int x3, .int x4] (mm_pre mm_Z D TC ad cy g)) (mm_Qi D TC ad cy r0 g') 0 0 (mm_A TC ad) := by
  refine Met.ofW (cc := cX10_addShoe) (maxL := 6) (ret := (some .int)) (by decide) rfl ?_
  intro p e s m args below meth c s₁ B hml hv
  obtain ⟨hargs, hP, hK, hI, hZ⟩ := hv
  have hx := B.exec
  have hb := B.bytes
  have hr := B.returns
  have hts := atoms_spec (ws := wsX10_addShoe) B.pre
  have hown : s.vm.findClass RX10 = some m.cls := findClass_of_methodNamed B.named
  have hlocks := B.notSynchronized
  have hw0 := hts (.fieldLink RX10 61 "LeftShoes$World" "shoeCount" "I") (by decide +kernel)
  have hiX10 : ∀ w ∈ wsX100, w ∈ wsX10_addShoe := by decide +kernel
  have hw2 := hts (.fieldLink RX10 20 "LeftShoes$World" "shoes" "[LLeftShoes$Shoe;") (by decide +kernel)
  have hw3 := hts (.fieldLink RX10 68 "LeftShoes$Shoe" "owner" "I") (by decide +kernel)
  have hiX5 : ∀ w ∈ wsX50, w ∈ wsX10_addShoe := by decide +kernel
  have hw5 := hts (.fieldLink RX10 71 "LeftShoes$Shoe" "foot" "I") (by decide +kernel)
  have hw6 := hts (.fieldLink RX10 74 "LeftShoes$Shoe" "sort" "I") (by decide +kernel)
  have hw7 := hts (.fieldLink RX10 77 "LeftShoes$Shoe" "soles" "I") (by decide +kernel)
  have hw8 := hts (.fieldLink RX10 80 "LeftShoes$Shoe" "isStamped" "Z") (by decide +kernel)
  rw [show entryFrame m args 6 = F0 m 0 ((lg_sl ([.ref (ad p0), .int x1, .int x2, .int x3, .int x4] : List Value) ++ List.replicate (6 - (lg_sl ([.ref (ad p0), .int x1, .int x2, .int x3, .int x4] : List Value)).length) Slot.unset).toArray) [] from by rw [hargs]; exact lg_entry_eq m _ _]
  have hl := lv_entry ([.ref (ad p0), .int x1, .int x2, .int x3, .int x4] : List Value) (n := 6) (by exact Nat.le_of_ble_eq_true rfl)
  generalize (lg_sl ([.ref (ad p0), .int x1, .int x2, .int x3, .int x4] : List Value) ++ List.replicate (6 - (lg_sl ([.ref (ad p0), .int x1, .int x2, .int x3, .int x4] : List Value)).length) Slot.unset).toArray = ls at hl ⊢
  have hl : lv_has ls 6 [(0, .ref (ad p0)), (1, .int x1), (2, .int x2), (3, .int x3), (4, .int x4)] := by exact hl
  have hS : va_S (mm_A TC ad) s.heap s.heap [] := va_S.rf
  clear hargs
  unfold f_X10_addShoe at hf
  have hH9 : ∀ (H : Heap) (locs : List Loc), H = s.heap → locs = [] → va_P D vwCl (mm_L TC ad cy g) H → va_S (mm_A TC ad) s.heap H locs → W p l e (headSpec wsX10_addShoe (rm_X10_addShoe)).room s m args below meth c H locs 0 0 (MQ below (mm_Qi D TC ad cy r0 g') args s 0 0 (mm_A TC ad)) (F0 m 0 ls []) := by
    intro H locs hH9 hL9 hP hS
    clear hH9 hL9
    refine lv_aload_n hx hb dX10_addShoe_0 rfl (lv_at hl 0 rfl) ?_
    refine mq_geti (Tt := TX10) (N := 9) (C := RX10) hx hb hts hiX10 hown hK hP hp rfl 3 (by decide) rfl hw0 (fun _ h9 => h9) dX10_addShoe_1 ?_
    refine lv_bipush (v := 16) hx hb dX10_addShoe_4 (by decide) ?_
    refine lv_icmp_lt (tgt := 12) hx hb dX10_addShoe_6 (by decide) (fun c_1 => ?_) (fun c_1 => ?_)
    · replace hf := ite_t c_1 hf
      refine lv_aload_n hx hb dX10_addShoe_12 rfl (lv_at hl 0 rfl) ?_
      refine mq_getr (Tt := TX10) (N := 9) (C := RX10) hx hb hts hiX10 hown hK hP hp rfl 4 3 (by decide) rfl hw2 (fun _ h9 => h9) dX10_addShoe_13 ?_
      refine lv_aload_n hx hb dX10_addShoe_16 rfl (lv_at hl 0 rfl) ?_
      refine mq_geti (Tt := TX10) (N := 9) (C := RX10) hx hb hts hiX10 hown hK hP hp rfl 3 (by decide) rfl hw0 (fun _ h9 => h9) dX10_addShoe_17 ?_
      obtain ⟨h_2, hf⟩ := og_some hf
      refine mq_aald hx hb hK hP (N := 16) (shTC_X10_3 hp) rfl h_2 dX10_addShoe_20 ?_
      refine lv_astore (lv' := [(5, .ref (ad (p0 + 4 + (g p0 3).toNatClampNeg))), (0, .ref (ad p0)), (1, .int x1), (2, .int x2), (3, .int x3), (4, .int x4)]) hx hb dX10_addShoe_21 hl (by decide) rfl (fun ls hl => ?_)
      refine lv_aload hx hb dX10_addShoe_23 (lv_at hl 0 rfl) ?_
      refine lv_iload_n hx hb dX10_addShoe_25 rfl (lv_at hl 2 rfl) ?_
      obtain ⟨g_3, eg_3, hf⟩ := mw_some hf
      refine mq_puti (Tt := TX5) (N := 5) (C := RX5) (ty := .int) hx hb hts hiX5 tyX5 tyX5_ok nmX5 hown hK hI hP hS (shTC_X10_4i_0 hp (mm_in_lt h_2)) rfl 3 (by decide) rfl hw3 (fun _ h9 => h9) rfl (by decide +kernel) rfl rfl dX10_addShoe_26 eg_3 (fun H locs hP hS => ?_)
      refine lv_aload hx hb dX10_addShoe_29 (lv_at hl 0 rfl) ?_
      refine lv_iload_n hx hb dX10_addShoe_31 rfl (lv_at hl 3 rfl) ?_
      obtain ⟨g_4, eg_4, hf⟩ := mw_some hf
      refine mq_puti (Tt := TX5) (N := 5) (C := RX5) (ty := .int) hx hb hts hiX5 tyX5 tyX5_ok nmX5 hown hK hI hP hS (shTC_X10_4i_0 hp (mm_in_lt h_2)) rfl 0 (by decide) rfl hw5 (fun _ h9 => h9) rfl (by decide +kernel) rfl rfl dX10_addShoe_32 eg_4 (fun H locs hP hS => ?_)
      refine lv_aload hx hb dX10_addShoe_35 (lv_at hl 0 rfl) ?_
      refine lv_iload_n hx hb dX10_addShoe_37 rfl (lv_at hl 4 rfl) ?_
      obtain ⟨g_5, eg_5, hf⟩ := mw_some hf
      refine mq_puti (Tt := TX5) (N := 5) (C := RX5) (ty := .int) hx hb hts hiX5 tyX5 tyX5_ok nmX5 hown hK hI hP hS (shTC_X10_4i_0 hp (mm_in_lt h_2)) rfl 1 (by decide) rfl hw6 (fun _ h9 => h9) rfl (by decide +kernel) rfl rfl dX10_addShoe_38 eg_5 (fun H locs hP hS => ?_)
      refine lv_aload hx hb dX10_addShoe_41 (lv_at hl 0 rfl) ?_
      refine lv_iload hx hb dX10_addShoe_43 (lv_at hl 5 rfl) ?_
      obtain ⟨g_6, eg_6, hf⟩ := mw_some hf
      refine mq_puti (Tt := TX5) (N := 5) (C := RX5) (ty := .int) hx hb hts hiX5 tyX5 tyX5_ok nmX5 hown hK hI hP hS (shTC_X10_4i_0 hp (mm_in_lt h_2)) rfl 2 (by decide) rfl hw7 (fun _ h9 => h9) rfl (by decide +kernel) rfl rfl dX10_addShoe_45 eg_6 (fun H locs hP hS => ?_)
      refine lv_aload hx hb dX10_addShoe_48 (lv_at hl 0 rfl) ?_
      refine lv_iconst (v := 0) hx hb dX10_addShoe_50 (by decide) ?_
      obtain ⟨g_7, eg_7, hf⟩ := mw_some hf
      refine mq_puti (Tt := TX5) (N := 5) (C := RX5) (ty := .boolean) hx hb hts hiX5 tyX5 tyX5_ok nmX5 hown hK hI hP hS (shTC_X10_4i_0 hp (mm_in_lt h_2)) rfl 4 (by decide) rfl hw8 (fun _ h9 => h9) rfl (by decide +kernel) (by decide +kernel) (by decide +kernel) dX10_addShoe_51 eg_7 (fun H locs hP hS => ?_)
      refine lv_aload_n hx hb dX10_addShoe_54 rfl (lv_at hl 1 rfl) ?_
      refine lv_dup hx hb dX10_addShoe_55 rfl ?_
      refine mq_geti (Tt := TX10) (N := 9) (C := RX10) hx hb hts hiX10 hown hK hP hp rfl 3 (by decide) rfl hw0 (fun _ h9 => h9) dX10_addShoe_56 ?_
      refine lv_iconst (v := 1) hx hb dX10_addShoe_59 (by decide) ?_
      refine lv_iadd hx hb dX10_addShoe_60 ?_
      obtain ⟨g_8, eg_8, hf⟩ := mw_some hf
      refine mq_puti (Tt := TX10) (N := 9) (C := RX10) (ty := .int) hx hb hts hiX10 tyX10 tyX10_ok nmX10 hown hK hI hP hS hp rfl 3 (by decide) rfl hw0 (fun _ h9 => h9) rfl (by decide +kernel) rfl rfl dX10_addShoe_61 eg_8 (fun H locs hP hS => ?_)
      refine lv_aload_n hx hb dX10_addShoe_64 rfl (lv_at hl 1 rfl) ?_
      refine mq_geti (Tt := TX10) (N := 9) (C := RX10) hx hb hts hiX10 hown hK hP hp rfl 3 (by decide) rfl hw0 (fun _ h9 => h9) dX10_addShoe_65 ?_
      refine lv_iconst (v := 1) hx hb dX10_addShoe_68 (by decide) ?_
      refine lv_isub hx hb dX10_addShoe_69 ?_
      exact mq_iret hx hb hr rfl hlocks hP hS (pr_1 hf) (pr_2 hf) dX10_addShoe_70
    · replace hf := ite_f c_1 hf
      refine lv_bipush (v := (-3)) hx hb dX10_addShoe_9 (by decide) ?_
      exact mq_iret hx hb hr rfl hlocks hP hS (pr_1 hf) (pr_2 hf) dX10_addShoe_11
  exact hH9 s.heap [] rfl rfl hP hS
abbrev rm_X10_shoesOf : Room := ({ frames := 0, cells := 0, slots := 0, locals := 0 } : Room)
set_option maxHeartbeats 4000000 in
set_option maxRecDepth 100000 in
theorem c_X10_shoesOf (l : Launch) (D : va_G) (ad : Nat → Nat) (cy : Nat → ClassId) (p0 : Nat) (x1 : Int32) (x2 : Int32) (g : Mm) (hp : TC[p0]? = some sX10) (r0 : Int32) (hf : f_X10_shoesOf p0 x1 x2 g = some r0) : Met l yX10_shoesOf wsX10_shoesOf rm_X10_shoesOf (va_Pc [.ref (ad p0), .int x1, .int x2] (mm_pre mm_Z D TC ad cy g)) (mm_Qi D TC ad cy r0 g) 0 0 (mm_A TC ad) := by
  refine Met.ofW (cc := cX10_shoesOf) (maxL := 5) (ret := (some .int)) (by decide) rfl ?_
  intro p e s m args below meth c s₁ B hml hv
  obtain ⟨hargs, hP, hK, hI, hZ⟩ := hv
  have hx := B.exec
  have hb := B.bytes
  have hr := B.returns
  have hts := atoms_spec (ws := wsX10_shoesOf) B.pre
  have hown : s.vm.findClass RX10 = some m.cls := findClass_of_methodNamed B.named
  have hlocks := B.notSynchronized
  have hw0 := hts (.fieldLink RX10 61 "LeftShoes$World" "shoeCount" "I") (by decide +kernel)
  have hiX10 : ∀ w ∈ wsX100, w ∈ wsX10_shoesOf := by decide +kernel
  have hw2 := hts (.fieldLink RX10 20 "LeftShoes$World" "shoes" "[LLeftShoes$Shoe;") (by decide +kernel)
  have hw3 := hts (.fieldLink RX10 68 "LeftShoes$Shoe" "owner" "I") (by decide +kernel)
  have hiX5 : ∀ w ∈ wsX50, w ∈ wsX10_shoesOf := by decide +kernel
  have hw5 := hts (.fieldLink RX10 71 "LeftShoes$Shoe" "foot" "I") (by decide +kernel)
  rw [show entryFrame m args 5 = F0 m 0 ((lg_sl ([.ref (ad p0), .int x1, .int x2] : List Value) ++ List.replicate (5 - (lg_sl ([.ref (ad p0), .int x1, .int x2] : List Value)).length) Slot.unset).toArray) [] from by rw [hargs]; exact lg_entry_eq m _ _]
  have hl := lv_entry ([.ref (ad p0), .int x1, .int x2] : List Value) (n := 5) (by exact Nat.le_of_ble_eq_true rfl)
  generalize (lg_sl ([.ref (ad p0), .int x1, .int x2] : List Value) ++ List.replicate (5 - (lg_sl ([.ref (ad p0), .int x1, .int x2] : List Value)).length) Slot.unset).toArray = ls at hl ⊢
  have hl : lv_has ls 5 [(0, .ref (ad p0)), (1, .int x1), (2, .int x2)] := by exact hl
  have hS : va_S (mm_A TC ad) s.heap s.heap [] := va_S.rf
  clear hargs
  have hc5 : ∀ (n : Nat), ∀ (x3 : Int32) (x4 : Int32) (H : Heap) (locs : List Loc) (ls : Array Slot), va_P D vwCl (mm_L TC ad cy g) H → va_S (mm_A TC ad) s.heap H locs → lv_has ls 5 [(0, .ref (ad p0)), (1, .int x1), (2, .int x2), (3, .int x3), (4, .int x4)] → f_X10_shoesOf_c5 p0 x1 x2 n x3 x4 g = some r0 → W p l e (headSpec wsX10_shoesOf (rm_X10_shoesOf)).room s m args below meth c H locs 0 0 (MQ below (mm_Qi D TC ad cy r0 g) args s 0 0 (mm_A TC ad)) (F0 m 5 ls []) := by
    intro n
    induction n with
    | zero =>
      intro x3 x4 H locs ls hP hS hl hf
      rw [f_X10_shoesOf_c5] at hf
      cases hf
    | succ n ih =>
      intro x3 x4 H locs ls hP hS hl hf
      rw [f_X10_shoesOf_c5] at hf
      refine lv_iload hx hb dX10_shoesOf_5 (lv_at hl 4 rfl) ?_
      refine lv_aload_n hx hb dX10_shoesOf_7 rfl (lv_at hl 0 rfl) ?_
      refine mq_geti (Tt := TX10) (N := 9) (C := RX10) hx hb hts hiX10 hown hK hP hp rfl 3 (by decide) rfl hw0 (fun _ h9 => h9) dX10_shoesOf_8 ?_
      refine lv_icmp_ge (tgt := 51) hx hb dX10_shoesOf_11 (by decide) (fun c_1 => ?_) (fun c_1 => ?_)
      · replace hf := ite_t c_1 hf
        refine lv_iload_n hx hb dX10_shoesOf_51 rfl (lv_at hl 3 rfl) ?_
        exact mq_iret hx hb hr rfl hlocks hP hS (Option.some.inj hf) rfl dX10_shoesOf_52
      · replace hf := ite_f c_1 hf
        refine lv_aload_n hx hb dX10_shoesOf_14 rfl (lv_at hl 0 rfl) ?_
        refine mq_getr (Tt := TX10) (N := 9) (C := RX10) hx hb hts hiX10 hown hK hP hp rfl 4 3 (by decide) rfl hw2 (fun _ h9 => h9) dX10_shoesOf_15 ?_
        refine lv_iload hx hb dX10_shoesOf_18 (lv_at hl 4 rfl) ?_
        obtain ⟨h_2, hf⟩ := og_some hf
        refine mq_aald hx hb hK hP (N := 16) (shTC_X10_3 hp) rfl h_2 dX10_shoesOf_20 ?_
        refine mq_geti (Tt := TX5) (N := 5) (C := RX5) hx hb hts hiX5 hown hK hP (shTC_X10_4i_0 hp (mm_in_lt h_2)) rfl 3 (by decide) rfl hw3 (fun _ h9 => h9) dX10_shoesOf_21 ?_
        refine lv_iload_n hx hb dX10_shoesOf_24 rfl (lv_at hl 1 rfl) ?_
        refine lv_icmp_ne (tgt := 45) hx hb dX10_shoesOf_25 (by decide) (fun c_3 => ?_) (fun c_3 => ?_)
        · replace hf := ite_f c_3 hf
          obtain ⟨x4_4, ex4_4, hf⟩ := mv_some hf
          refine lv_iinc (v := x4_4) (lv' := [(4, .int x4_4), (0, .ref (ad p0)), (1, .int x1), (2, .int x2), (3, .int x3)]) hx hb dX10_shoesOf_45 hl (k := 4) rfl (by rw [ex4_4]; rfl) (by decide) rfl (fun ls hl => ?_)
          refine lv_goto (tgt := 5) hx hb dX10_shoesOf_48 (by decide) ?_
          exact ih x3 x4_4 H locs ls hP hS (lv_sub hl [1, 2, 3, 4, 0] rfl) hf
        · replace hf := ite_t c_3 hf
          refine lv_aload_n hx hb dX10_shoesOf_28 rfl (lv_at hl 0 rfl) ?_
          refine mq_getr (Tt := TX10) (N := 9) (C := RX10) hx hb hts hiX10 hown hK hP hp rfl 4 3 (by decide) rfl hw2 (fun _ h9 => h9) dX10_shoesOf_29 ?_
          refine lv_iload hx hb dX10_shoesOf_32 (lv_at hl 4 rfl) ?_
          obtain ⟨h_5, hf⟩ := og_some hf
          refine mq_aald hx hb hK hP (N := 16) (shTC_X10_3 hp) rfl h_5 dX10_shoesOf_34 ?_
          refine mq_geti (Tt := TX5) (N := 5) (C := RX5) hx hb hts hiX5 hown hK hP (shTC_X10_4i_0 hp (mm_in_lt h_5)) rfl 0 (by decide) rfl hw5 (fun _ h9 => h9) dX10_shoesOf_35 ?_
          refine lv_iload_n hx hb dX10_shoesOf_38 rfl (lv_at hl 2 rfl) ?_
          refine lv_icmp_ne (tgt := 45) hx hb dX10_shoesOf_39 (by decide) (fun c_6 => ?_) (fun c_6 => ?_)
          · replace hf := ite_f c_6 hf
            obtain ⟨x4_7, ex4_7, hf⟩ := mv_some hf
            refine lv_iinc (v := x4_7) (lv' := [(4, .int x4_7), (0, .ref (ad p0)), (1, .int x1), (2, .int x2), (3, .int x3)]) hx hb dX10_shoesOf_45 hl (k := 4) rfl (by rw [ex4_7]; rfl) (by decide) rfl (fun ls hl => ?_)
            refine lv_goto (tgt := 5) hx hb dX10_shoesOf_48 (by decide) ?_
            exact ih x3 x4_7 H locs ls hP hS (lv_sub hl [1, 2, 3, 4, 0] rfl) hf
          · replace hf := ite_t c_6 hf
            obtain ⟨x3_8, ex3_8, hf⟩ := mv_some hf
            refine lv_iinc (v := x3_8) (lv' := [(3, .int x3_8), (0, .ref (ad p0)), (1, .int x1), (2, .int x2), (4, .int x4)]) hx hb dX10_shoesOf_42 hl (k := 3) rfl (by rw [ex3_8]; rfl) (by decide) rfl (fun ls hl => ?_)
            obtain ⟨x4_9, ex4_9, hf⟩ := mv_some hf
            refine lv_iinc (v := x4_9) (lv' := [(4, .int x4_9), (3, .int x3_8), (0, .ref (ad p0)), (1, .int x1), (2, .int x2)]) hx hb dX10_shoesOf_45 hl (k := 4) rfl (by rw [ex4_9]; rfl) (by decide) rfl (fun ls hl => ?_)
            refine lv_goto (tgt := 5) hx hb dX10_shoesOf_48 (by decide) ?_
            exact ih x3_8 x4_9 H locs ls hP hS (lv_sub hl [2, 3, 4, 1, 0] rfl) hf
  unfold f_X10_shoesOf at hf
  have hH9 : ∀ (H : Heap) (locs : List Loc), H = s.heap → locs = [] → va_P D vwCl (mm_L TC ad cy g) H → va_S (mm_A TC ad) s.heap H locs → W p l e (headSpec wsX10_shoesOf (rm_X10_shoesOf)).room s m args below meth c H locs 0 0 (MQ below (mm_Qi D TC ad cy r0 g) args s 0 0 (mm_A TC ad)) (F0 m 0 ls []) := by
    intro H locs hH9 hL9 hP hS
    clear hH9 hL9
    refine lv_iconst (v := 0) hx hb dX10_shoesOf_0 (by decide) ?_
    refine lv_istore_n (lv' := [(3, .int 0), (0, .ref (ad p0)), (1, .int x1), (2, .int x2)]) hx hb dX10_shoesOf_1 rfl hl (by decide) rfl (fun ls hl => ?_)
    refine lv_iconst (v := 0) hx hb dX10_shoesOf_2 (by decide) ?_
    refine lv_istore (lv' := [(4, .int 0), (3, .int 0), (0, .ref (ad p0)), (1, .int x1), (2, .int x2)]) hx hb dX10_shoesOf_3 hl (by decide) rfl (fun ls hl => ?_)
    exact hc5 FU 0 0 H locs ls hP hS (lv_sub hl [2, 3, 4, 1, 0] rfl) hf
  exact hH9 s.heap [] rfl rfl hP hS
abbrev rm_X10_stampedShoes : Room := ({ frames := 0, cells := 0, slots := 0, locals := 0 } : Room)
set_option maxHeartbeats 4000000 in
set_option maxRecDepth 100000 in
theorem c_X10_stampedShoes (l : Launch) (D : va_G) (ad : Nat → Nat) (cy : Nat → ClassId) (p0 : Nat) (g : Mm) (hp : TC[p0]? = some sX10) (r0 : Int32) (hf : f_X10_stampedShoes p0 g = some r0) : Met l yX10_stampedShoes wsX10_stampedShoes rm_X10_stampedShoes (va_Pc [.ref (ad p0)] (mm_pre mm_Z D TC ad cy g)) (mm_Qi D TC ad cy r0 g) 0 0 (mm_A TC ad) := by
  refine Met.ofW (cc := cX10_stampedShoes) (maxL := 3) (ret := (some .int)) (by decide) rfl ?_
  intro p e s m args below meth c s₁ B hml hv
  obtain ⟨hargs, hP, hK, hI, hZ⟩ := hv
  have hx := B.exec
  have hb := B.bytes
  have hr := B.returns
  have hts := atoms_spec (ws := wsX10_stampedShoes) B.pre
  have hown : s.vm.findClass RX10 = some m.cls := findClass_of_methodNamed B.named
  have hlocks := B.notSynchronized
  have hw0 := hts (.fieldLink RX10 61 "LeftShoes$World" "shoeCount" "I") (by decide +kernel)
  have hiX10 : ∀ w ∈ wsX100, w ∈ wsX10_stampedShoes := by decide +kernel
  have hw2 := hts (.fieldLink RX10 20 "LeftShoes$World" "shoes" "[LLeftShoes$Shoe;") (by decide +kernel)
  have hw3 := hts (.fieldLink RX10 80 "LeftShoes$Shoe" "isStamped" "Z") (by decide +kernel)
  have hiX5 : ∀ w ∈ wsX50, w ∈ wsX10_stampedShoes := by decide +kernel
  rw [show entryFrame m args 3 = F0 m 0 ((lg_sl ([.ref (ad p0)] : List Value) ++ List.replicate (3 - (lg_sl ([.ref (ad p0)] : List Value)).length) Slot.unset).toArray) [] from by rw [hargs]; exact lg_entry_eq m _ _]
  have hl := lv_entry ([.ref (ad p0)] : List Value) (n := 3) (by exact Nat.le_of_ble_eq_true rfl)
  generalize (lg_sl ([.ref (ad p0)] : List Value) ++ List.replicate (3 - (lg_sl ([.ref (ad p0)] : List Value)).length) Slot.unset).toArray = ls at hl ⊢
  have hl : lv_has ls 3 [(0, .ref (ad p0))] := by exact hl
  have hS : va_S (mm_A TC ad) s.heap s.heap [] := va_S.rf
  clear hargs
  have hc4 : ∀ (n : Nat), ∀ (x1 : Int32) (x2 : Int32) (H : Heap) (locs : List Loc) (ls : Array Slot), va_P D vwCl (mm_L TC ad cy g) H → va_S (mm_A TC ad) s.heap H locs → lv_has ls 3 [(0, .ref (ad p0)), (1, .int x1), (2, .int x2)] → f_X10_stampedShoes_c4 p0 n x1 x2 g = some r0 → W p l e (headSpec wsX10_stampedShoes (rm_X10_stampedShoes)).room s m args below meth c H locs 0 0 (MQ below (mm_Qi D TC ad cy r0 g) args s 0 0 (mm_A TC ad)) (F0 m 4 ls []) := by
    intro n
    induction n with
    | zero =>
      intro x1 x2 H locs ls hP hS hl hf
      rw [f_X10_stampedShoes_c4] at hf
      cases hf
    | succ n ih =>
      intro x1 x2 H locs ls hP hS hl hf
      rw [f_X10_stampedShoes_c4] at hf
      refine lv_iload_n hx hb dX10_stampedShoes_4 rfl (lv_at hl 2 rfl) ?_
      refine lv_aload_n hx hb dX10_stampedShoes_5 rfl (lv_at hl 0 rfl) ?_
      refine mq_geti (Tt := TX10) (N := 9) (C := RX10) hx hb hts hiX10 hown hK hP hp rfl 3 (by decide) rfl hw0 (fun _ h9 => h9) dX10_stampedShoes_6 ?_
      refine lv_icmp_ge (tgt := 33) hx hb dX10_stampedShoes_9 (by decide) (fun c_1 => ?_) (fun c_1 => ?_)
      · replace hf := ite_t c_1 hf
        refine lv_iload_n hx hb dX10_stampedShoes_33 rfl (lv_at hl 1 rfl) ?_
        exact mq_iret hx hb hr rfl hlocks hP hS (Option.some.inj hf) rfl dX10_stampedShoes_34
      · replace hf := ite_f c_1 hf
        refine lv_aload_n hx hb dX10_stampedShoes_12 rfl (lv_at hl 0 rfl) ?_
        refine mq_getr (Tt := TX10) (N := 9) (C := RX10) hx hb hts hiX10 hown hK hP hp rfl 4 3 (by decide) rfl hw2 (fun _ h9 => h9) dX10_stampedShoes_13 ?_
        refine lv_iload_n hx hb dX10_stampedShoes_16 rfl (lv_at hl 2 rfl) ?_
        obtain ⟨h_2, hf⟩ := og_some hf
        refine mq_aald hx hb hK hP (N := 16) (shTC_X10_3 hp) rfl h_2 dX10_stampedShoes_17 ?_
        refine mq_geti (Tt := TX5) (N := 5) (C := RX5) hx hb hts hiX5 hown hK hP (shTC_X10_4i_0 hp (mm_in_lt h_2)) rfl 4 (by decide) rfl hw3 (fun _ h9 => h9) dX10_stampedShoes_18 ?_
        refine lv_if_eq (tgt := 27) hx hb dX10_stampedShoes_21 (by decide) (fun c_3 => ?_) (fun c_3 => ?_)
        · replace hf := ite_t c_3 hf
          obtain ⟨x2_4, ex2_4, hf⟩ := mv_some hf
          refine lv_iinc (v := x2_4) (lv' := [(2, .int x2_4), (0, .ref (ad p0)), (1, .int x1)]) hx hb dX10_stampedShoes_27 hl (k := 2) rfl (by rw [ex2_4]; rfl) (by decide) rfl (fun ls hl => ?_)
          refine lv_goto (tgt := 4) hx hb dX10_stampedShoes_30 (by decide) ?_
          exact ih x1 x2_4 H locs ls hP hS (lv_sub hl [1, 2, 0] rfl) hf
        · replace hf := ite_f c_3 hf
          obtain ⟨x1_5, ex1_5, hf⟩ := mv_some hf
          refine lv_iinc (v := x1_5) (lv' := [(1, .int x1_5), (0, .ref (ad p0)), (2, .int x2)]) hx hb dX10_stampedShoes_24 hl (k := 1) rfl (by rw [ex1_5]; rfl) (by decide) rfl (fun ls hl => ?_)
          obtain ⟨x2_6, ex2_6, hf⟩ := mv_some hf
          refine lv_iinc (v := x2_6) (lv' := [(2, .int x2_6), (1, .int x1_5), (0, .ref (ad p0))]) hx hb dX10_stampedShoes_27 hl (k := 2) rfl (by rw [ex2_6]; rfl) (by decide) rfl (fun ls hl => ?_)
          refine lv_goto (tgt := 4) hx hb dX10_stampedShoes_30 (by decide) ?_
          exact ih x1_5 x2_6 H locs ls hP hS (lv_sub hl [2, 1, 0] rfl) hf
  unfold f_X10_stampedShoes at hf
  have hH9 : ∀ (H : Heap) (locs : List Loc), H = s.heap → locs = [] → va_P D vwCl (mm_L TC ad cy g) H → va_S (mm_A TC ad) s.heap H locs → W p l e (headSpec wsX10_stampedShoes (rm_X10_stampedShoes)).room s m args below meth c H locs 0 0 (MQ below (mm_Qi D TC ad cy r0 g) args s 0 0 (mm_A TC ad)) (F0 m 0 ls []) := by
    intro H locs hH9 hL9 hP hS
    clear hH9 hL9
    refine lv_iconst (v := 0) hx hb dX10_stampedShoes_0 (by decide) ?_
    refine lv_istore_n (lv' := [(1, .int 0), (0, .ref (ad p0))]) hx hb dX10_stampedShoes_1 rfl hl (by decide) rfl (fun ls hl => ?_)
    refine lv_iconst (v := 0) hx hb dX10_stampedShoes_2 (by decide) ?_
    refine lv_istore_n (lv' := [(2, .int 0), (1, .int 0), (0, .ref (ad p0))]) hx hb dX10_stampedShoes_3 rfl hl (by decide) rfl (fun ls hl => ?_)
    exact hc4 FU 0 0 H locs ls hP hS (lv_sub hl [2, 1, 0] rfl) hf
  exact hH9 s.heap [] rfl rfl hP hS
abbrev rm_X10_solesOfAll : Room := ({ frames := 0, cells := 0, slots := 0, locals := 0 } : Room)
set_option maxHeartbeats 4000000 in
set_option maxRecDepth 100000 in
theorem c_X10_solesOfAll (l : Launch) (D : va_G) (ad : Nat → Nat) (cy : Nat → ClassId) (p0 : Nat) (g : Mm) (hp : TC[p0]? = some sX10) (r0 : Int32) (hf : f_X10_solesOfAll p0 g = some r0) : Met l yX10_solesOfAll wsX10_solesOfAll rm_X10_solesOfAll (va_Pc [.ref (ad p0)] (mm_pre mm_Z D TC ad cy g)) (mm_Qi D TC ad cy r0 g) 0 0 (mm_A TC ad) := by
  refine Met.ofW (cc := cX10_solesOfAll) (maxL := 3) (ret := (some .int)) (by decide) rfl ?_
  intro p e s m args below meth c s₁ B hml hv
  obtain ⟨hargs, hP, hK, hI, hZ⟩ := hv
  have hx := B.exec
  have hb := B.bytes
  have hr := B.returns
  have hts := atoms_spec (ws := wsX10_solesOfAll) B.pre
  have hown : s.vm.findClass RX10 = some m.cls := findClass_of_methodNamed B.named
  have hlocks := B.notSynchronized
  have hw0 := hts (.fieldLink RX10 61 "LeftShoes$World" "shoeCount" "I") (by decide +kernel)
  have hiX10 : ∀ w ∈ wsX100, w ∈ wsX10_solesOfAll := by decide +kernel
  have hw2 := hts (.fieldLink RX10 20 "LeftShoes$World" "shoes" "[LLeftShoes$Shoe;") (by decide +kernel)
  have hw3 := hts (.fieldLink RX10 77 "LeftShoes$Shoe" "soles" "I") (by decide +kernel)
  have hiX5 : ∀ w ∈ wsX50, w ∈ wsX10_solesOfAll := by decide +kernel
  rw [show entryFrame m args 3 = F0 m 0 ((lg_sl ([.ref (ad p0)] : List Value) ++ List.replicate (3 - (lg_sl ([.ref (ad p0)] : List Value)).length) Slot.unset).toArray) [] from by rw [hargs]; exact lg_entry_eq m _ _]
  have hl := lv_entry ([.ref (ad p0)] : List Value) (n := 3) (by exact Nat.le_of_ble_eq_true rfl)
  generalize (lg_sl ([.ref (ad p0)] : List Value) ++ List.replicate (3 - (lg_sl ([.ref (ad p0)] : List Value)).length) Slot.unset).toArray = ls at hl ⊢
  have hl : lv_has ls 3 [(0, .ref (ad p0))] := by exact hl
  have hS : va_S (mm_A TC ad) s.heap s.heap [] := va_S.rf
  clear hargs
  have hc4 : ∀ (n : Nat), ∀ (x1 : Int32) (x2 : Int32) (H : Heap) (locs : List Loc) (ls : Array Slot), va_P D vwCl (mm_L TC ad cy g) H → va_S (mm_A TC ad) s.heap H locs → lv_has ls 3 [(0, .ref (ad p0)), (1, .int x1), (2, .int x2)] → f_X10_solesOfAll_c4 p0 n x1 x2 g = some r0 → W p l e (headSpec wsX10_solesOfAll (rm_X10_solesOfAll)).room s m args below meth c H locs 0 0 (MQ below (mm_Qi D TC ad cy r0 g) args s 0 0 (mm_A TC ad)) (F0 m 4 ls []) := by
    intro n
    induction n with
    | zero =>
      intro x1 x2 H locs ls hP hS hl hf
      rw [f_X10_solesOfAll_c4] at hf
      cases hf
    | succ n ih =>
      intro x1 x2 H locs ls hP hS hl hf
      rw [f_X10_solesOfAll_c4] at hf
      refine lv_iload_n hx hb dX10_solesOfAll_4 rfl (lv_at hl 2 rfl) ?_
      refine lv_aload_n hx hb dX10_solesOfAll_5 rfl (lv_at hl 0 rfl) ?_
      refine mq_geti (Tt := TX10) (N := 9) (C := RX10) hx hb hts hiX10 hown hK hP hp rfl 3 (by decide) rfl hw0 (fun _ h9 => h9) dX10_solesOfAll_6 ?_
      refine lv_icmp_ge (tgt := 30) hx hb dX10_solesOfAll_9 (by decide) (fun c_1 => ?_) (fun c_1 => ?_)
      · replace hf := ite_t c_1 hf
        refine lv_iload_n hx hb dX10_solesOfAll_30 rfl (lv_at hl 1 rfl) ?_
        exact mq_iret hx hb hr rfl hlocks hP hS (Option.some.inj hf) rfl dX10_solesOfAll_31
      · replace hf := ite_f c_1 hf
        refine lv_iload_n hx hb dX10_solesOfAll_12 rfl (lv_at hl 1 rfl) ?_
        refine lv_aload_n hx hb dX10_solesOfAll_13 rfl (lv_at hl 0 rfl) ?_
        refine mq_getr (Tt := TX10) (N := 9) (C := RX10) hx hb hts hiX10 hown hK hP hp rfl 4 3 (by decide) rfl hw2 (fun _ h9 => h9) dX10_solesOfAll_14 ?_
        refine lv_iload_n hx hb dX10_solesOfAll_17 rfl (lv_at hl 2 rfl) ?_
        obtain ⟨h_2, hf⟩ := og_some hf
        refine mq_aald hx hb hK hP (N := 16) (shTC_X10_3 hp) rfl h_2 dX10_solesOfAll_18 ?_
        refine mq_geti (Tt := TX5) (N := 5) (C := RX5) hx hb hts hiX5 hown hK hP (shTC_X10_4i_0 hp (mm_in_lt h_2)) rfl 2 (by decide) rfl hw3 (fun _ h9 => h9) dX10_solesOfAll_19 ?_
        refine lv_iadd hx hb dX10_solesOfAll_22 ?_
        obtain ⟨x1_3, ex1_3, hf⟩ := mv_some hf
        refine mq_nm ex1_3 ?_
        refine lv_istore_n (lv' := [(1, .int x1_3), (0, .ref (ad p0)), (2, .int x2)]) hx hb dX10_solesOfAll_23 rfl hl (by decide) rfl (fun ls hl => ?_)
        obtain ⟨x2_4, ex2_4, hf⟩ := mv_some hf
        refine lv_iinc (v := x2_4) (lv' := [(2, .int x2_4), (1, .int x1_3), (0, .ref (ad p0))]) hx hb dX10_solesOfAll_24 hl (k := 2) rfl (by rw [ex2_4]; rfl) (by decide) rfl (fun ls hl => ?_)
        refine lv_goto (tgt := 4) hx hb dX10_solesOfAll_27 (by decide) ?_
        exact ih x1_3 x2_4 H locs ls hP hS (lv_sub hl [2, 1, 0] rfl) hf
  unfold f_X10_solesOfAll at hf
  have hH9 : ∀ (H : Heap) (locs : List Loc), H = s.heap → locs = [] → va_P D vwCl (mm_L TC ad cy g) H → va_S (mm_A TC ad) s.heap H locs → W p l e (headSpec wsX10_solesOfAll (rm_X10_solesOfAll)).room s m args below meth c H locs 0 0 (MQ below (mm_Qi D TC ad cy r0 g) args s 0 0 (mm_A TC ad)) (F0 m 0 ls []) := by
    intro H locs hH9 hL9 hP hS
    clear hH9 hL9
    refine lv_iconst (v := 0) hx hb dX10_solesOfAll_0 (by decide) ?_
    refine lv_istore_n (lv' := [(1, .int 0), (0, .ref (ad p0))]) hx hb dX10_solesOfAll_1 rfl hl (by decide) rfl (fun ls hl => ?_)
    refine lv_iconst (v := 0) hx hb dX10_solesOfAll_2 (by decide) ?_
    refine lv_istore_n (lv' := [(2, .int 0), (1, .int 0), (0, .ref (ad p0))]) hx hb dX10_solesOfAll_3 rfl hl (by decide) rfl (fun ls hl => ?_)
    exact hc4 FU 0 0 H locs ls hP hS (lv_sub hl [2, 1, 0] rfl) hf
  exact hH9 s.heap [] rfl rfl hP hS
abbrev rm_X10_isShoeFor : Room := ({ frames := 2, cells := 0, slots := 0, locals := 43 } : Room)
set_option maxHeartbeats 4000000 in
set_option maxRecDepth 100000 in
theorem c_X10_isShoeFor (l : Launch) (D : va_G) (ad : Nat → Nat) (cy : Nat → ClassId) (p0 : Nat) (x1 : Int32) (x2 : Int32) (g : Mm) (hp : TC[p0]? = some sX10) (r0 : Int32) (hf : f_X10_isShoeFor p0 x1 x2 g = some r0) : Met l yX10_isShoeFor wsX10_isShoeFor rm_X10_isShoeFor (va_Pc [.ref (ad p0), .int x1, .int x2] (mm_pre mm_Z D TC ad cy g)) (mm_Qi D TC ad cy r0 g) 0 0 (mm_A TC ad) := by
  refine Met.ofW (cc := cX10_isShoeFor) (maxL := 3) (ret := (some .boolean)) (by decide) rfl ?_
  intro p e s m args below meth c s₁ B hml hv
  obtain ⟨hargs, hP, hK, hI, hZ⟩ := hv
  have hx := B.exec
  have hb := B.bytes
  have hr := B.returns
  have hts := atoms_spec (ws := wsX10_isShoeFor) B.pre
  have hown : s.vm.findClass RX10 = some m.cls := findClass_of_methodNamed B.named
  have hlocks := B.notSynchronized
  have hw0 := hts (.fieldLink RX10 20 "LeftShoes$World" "shoes" "[LLeftShoes$Shoe;") (by decide +kernel)
  have hiX10 : ∀ w ∈ wsX100, w ∈ wsX10_isShoeFor := by decide +kernel
  have hw2 := hts (.fieldLink RX10 71 "LeftShoes$Shoe" "foot" "I") (by decide +kernel)
  have hiX5 : ∀ w ∈ wsX50, w ∈ wsX10_isShoeFor := by decide +kernel
  rw [show entryFrame m args 3 = F0 m 0 ((lg_sl ([.ref (ad p0), .int x1, .int x2] : List Value) ++ List.replicate (3 - (lg_sl ([.ref (ad p0), .int x1, .int x2] : List Value)).length) Slot.unset).toArray) [] from by rw [hargs]; exact lg_entry_eq m _ _]
  have hl := lv_entry ([.ref (ad p0), .int x1, .int x2] : List Value) (n := 3) (by exact Nat.le_of_ble_eq_true rfl)
  generalize (lg_sl ([.ref (ad p0), .int x1, .int x2] : List Value) ++ List.replicate (3 - (lg_sl ([.ref (ad p0), .int x1, .int x2] : List Value)).length) Slot.unset).toArray = ls at hl ⊢
  have hl : lv_has ls 3 [(0, .ref (ad p0)), (1, .int x1), (2, .int x2)] := by exact hl
  have hS : va_S (mm_A TC ad) s.heap s.heap [] := va_S.rf
  clear hargs
  unfold f_X10_isShoeFor at hf
  have hH9 : ∀ (H : Heap) (locs : List Loc), H = s.heap → locs = [] → va_P D vwCl (mm_L TC ad cy g) H → va_S (mm_A TC ad) s.heap H locs → W p l e (headSpec wsX10_isShoeFor (rm_X10_isShoeFor)).room s m args below meth c H locs 0 0 (MQ below (mm_Qi D TC ad cy r0 g) args s 0 0 (mm_A TC ad)) (F0 m 0 ls []) := by
    intro H locs hH9 hL9 hP hS
    clear hH9 hL9
    refine lv_aload_n hx hb dX10_isShoeFor_0 rfl (lv_at hl 0 rfl) ?_
    refine lv_iload_n hx hb dX10_isShoeFor_1 rfl (lv_at hl 1 rfl) ?_
    obtain ⟨r_1, hr_2, hf⟩ := op_some hf
    refine mq_calli (va_runV (As := [.int x1]) (rest := []) ⟨hx, hb, hml, hown, hts⟩ (c_X10_isShoe l D ad cy p0 x1 g hp r_1 hr_2) (cwV 1 hts gX10_isShoeFor_X10_isShoe rfl rfl rfl (by decide +kernel) ⟨Nat.le_of_ble_eq_true rfl, Nat.le_of_ble_eq_true rfl⟩) (mq_preV (q := (RX10, TX10, 9)) mm_zOkC hK hP hI hZ hS hp rfl) rfl rfl hl.1 rfl (lv_room (Nat.le_of_ble_eq_true rfl)) dX10_isShoeFor_2 ⟨Nat.le_refl _, Nat.le_refl _⟩) hS (fun H locs hP hS => ?_)
    refine lv_if_eq (tgt := 25) hx hb dX10_isShoeFor_5 (by decide) (fun c_3 => ?_) (fun c_3 => ?_)
    · replace hf := ite_t c_3 hf
      refine lv_iconst (v := 0) hx hb dX10_isShoeFor_25 (by decide) ?_
      exact mq_iret hx hb hr (by decide +kernel) hlocks hP hS (Option.some.inj hf) rfl dX10_isShoeFor_26
    · replace hf := ite_f c_3 hf
      refine lv_aload_n hx hb dX10_isShoeFor_8 rfl (lv_at hl 0 rfl) ?_
      refine mq_getr (Tt := TX10) (N := 9) (C := RX10) hx hb hts hiX10 hown hK hP hp rfl 4 3 (by decide) rfl hw0 (fun _ h9 => h9) dX10_isShoeFor_9 ?_
      refine lv_iload_n hx hb dX10_isShoeFor_12 rfl (lv_at hl 1 rfl) ?_
      obtain ⟨h_4, hf⟩ := og_some hf
      refine mq_aald hx hb hK hP (N := 16) (shTC_X10_3 hp) rfl h_4 dX10_isShoeFor_13 ?_
      refine mq_geti (Tt := TX5) (N := 5) (C := RX5) hx hb hts hiX5 hown hK hP (shTC_X10_4i_0 hp (mm_in_lt h_4)) rfl 0 (by decide) rfl hw2 (fun _ h9 => h9) dX10_isShoeFor_14 ?_
      refine lv_iload_n hx hb dX10_isShoeFor_17 rfl (lv_at hl 2 rfl) ?_
      refine lv_icmp_ne (tgt := 25) hx hb dX10_isShoeFor_18 (by decide) (fun c_5 => ?_) (fun c_5 => ?_)
      · replace hf := ite_f c_5 hf
        refine lv_iconst (v := 0) hx hb dX10_isShoeFor_25 (by decide) ?_
        exact mq_iret hx hb hr (by decide +kernel) hlocks hP hS (Option.some.inj hf) rfl dX10_isShoeFor_26
      · replace hf := ite_t c_5 hf
        refine lv_iconst (v := 1) hx hb dX10_isShoeFor_21 (by decide) ?_
        refine lv_goto (tgt := 26) hx hb dX10_isShoeFor_22 (by decide) ?_
        exact mq_iret hx hb hr (by decide +kernel) hlocks hP hS (Option.some.inj hf) rfl dX10_isShoeFor_26
  exact hH9 s.heap [] rfl rfl hP hS
abbrev rm_X10_isGoingWith : Room := ({ frames := 3, cells := 0, slots := 0, locals := 65 } : Room)
set_option maxHeartbeats 4000000 in
set_option maxRecDepth 100000 in
theorem c_X10_isGoingWith (l : Launch) (D : va_G) (ad : Nat → Nat) (cy : Nat → ClassId) (p0 : Nat) (x1 : Int32) (x2 : Int32) (x3 : Int32) (g : Mm) (hp : TC[p0]? = some sX10) (r0 : Int32) (hf : f_X10_isGoingWith p0 x1 x2 x3 g = some r0) : Met l yX10_isGoingWith wsX10_isGoingWith rm_X10_isGoingWith (va_Pc [.ref (ad p0), .int x1, .int x2, .int x3] (mm_pre mm_Z D TC ad cy g)) (mm_Qi D TC ad cy r0 g) 0 0 (mm_A TC ad) := by
  refine Met.ofW (cc := cX10_isGoingWith) (maxL := 4) (ret := (some .boolean)) (by decide) rfl ?_
  intro p e s m args below meth c s₁ B hml hv
  obtain ⟨hargs, hP, hK, hI, hZ⟩ := hv
  have hx := B.exec
  have hb := B.bytes
  have hr := B.returns
  have hts := atoms_spec (ws := wsX10_isGoingWith) B.pre
  have hown : s.vm.findClass RX10 = some m.cls := findClass_of_methodNamed B.named
  have hlocks := B.notSynchronized
  have hw0 := hts (.fieldLink RX10 27 "LeftShoes$World" "levy" "LLeftShoes$Tax;") (by decide +kernel)
  have hiX10 : ∀ w ∈ wsX100, w ∈ wsX10_isGoingWith := by decide +kernel
  have hw2 := hts (.fieldLink RX10 84 "LeftShoes$Tax" "foot" "I") (by decide +kernel)
  have hiX7 : ∀ w ∈ wsX70, w ∈ wsX10_isGoingWith := by decide +kernel
  rw [show entryFrame m args 4 = F0 m 0 ((lg_sl ([.ref (ad p0), .int x1, .int x2, .int x3] : List Value) ++ List.replicate (4 - (lg_sl ([.ref (ad p0), .int x1, .int x2, .int x3] : List Value)).length) Slot.unset).toArray) [] from by rw [hargs]; exact lg_entry_eq m _ _]
  have hl := lv_entry ([.ref (ad p0), .int x1, .int x2, .int x3] : List Value) (n := 4) (by exact Nat.le_of_ble_eq_true rfl)
  generalize (lg_sl ([.ref (ad p0), .int x1, .int x2, .int x3] : List Value) ++ List.replicate (4 - (lg_sl ([.ref (ad p0), .int x1, .int x2, .int x3] : List Value)).length) Slot.unset).toArray = ls at hl ⊢
  have hl : lv_has ls 4 [(0, .ref (ad p0)), (1, .int x1), (2, .int x2), (3, .int x3)] := by exact hl
  have hS : va_S (mm_A TC ad) s.heap s.heap [] := va_S.rf
  clear hargs
  unfold f_X10_isGoingWith at hf
  have hH9 : ∀ (H : Heap) (locs : List Loc), H = s.heap → locs = [] → va_P D vwCl (mm_L TC ad cy g) H → va_S (mm_A TC ad) s.heap H locs → W p l e (headSpec wsX10_isGoingWith (rm_X10_isGoingWith)).room s m args below meth c H locs 0 0 (MQ below (mm_Qi D TC ad cy r0 g) args s 0 0 (mm_A TC ad)) (F0 m 0 ls []) := by
    intro H locs hH9 hL9 hP hS
    clear hH9 hL9
    refine lv_iload_n hx hb dX10_isGoingWith_0 rfl (lv_at hl 1 rfl) ?_
    by_cases c_1_0 : x1 = 0
    · replace hf := ite_t c_1_0 hf
      refine lv_tableIn (off := 31) (tgt := 32) hx hb dX10_isGoingWith_1 (by rw [c_1_0]; decide) (by rw [c_1_0]; decide) (by rw [c_1_0]; decide) (by decide) ?_
      refine lv_aload_n hx hb dX10_isGoingWith_32 rfl (lv_at hl 0 rfl) ?_
      refine lv_iload_n hx hb dX10_isGoingWith_33 rfl (lv_at hl 2 rfl) ?_
      refine lv_aload_n hx hb dX10_isGoingWith_34 rfl (lv_at hl 0 rfl) ?_
      refine mq_getr (Tt := TX10) (N := 9) (C := RX10) hx hb hts hiX10 hown hK hP hp rfl 5 20 (by decide) rfl hw0 (fun _ h9 => h9) dX10_isGoingWith_35 ?_
      refine mq_geti (Tt := TX7) (N := 3) (C := RX7) hx hb hts hiX7 hown hK hP (shTC_X10_20 hp) rfl 2 (by decide) rfl hw2 (fun _ h9 => h9) dX10_isGoingWith_38 ?_
      obtain ⟨r_15, hr_16, hf⟩ := op_some hf
      refine mq_calli (va_runV (As := [.int x2, .int (g (p0 + 20) 2)]) (rest := []) ⟨hx, hb, hml, hown, hts⟩ (c_X10_isShoeFor l D ad cy p0 x2 (g (p0 + 20) 2) g hp r_15 hr_16) (cwV 2 hts gX10_isGoingWith_X10_isShoeFor rfl rfl rfl (by decide +kernel) ⟨Nat.le_of_ble_eq_true rfl, Nat.le_of_ble_eq_true rfl⟩) (mq_preV (q := (RX10, TX10, 9)) mm_zOkC hK hP hI hZ hS hp rfl) rfl rfl hl.1 rfl (lv_room (Nat.le_of_ble_eq_true rfl)) dX10_isGoingWith_41 ⟨Nat.le_refl _, Nat.le_refl _⟩) hS (fun H locs hP hS => ?_)
      refine lv_if_eq (tgt := 68) hx hb dX10_isGoingWith_44 (by decide) (fun c_17 => ?_) (fun c_17 => ?_)
      · replace hf := ite_t c_17 hf
        refine lv_iconst (v := 0) hx hb dX10_isGoingWith_68 (by decide) ?_
        exact mq_iret hx hb hr (by decide +kernel) hlocks hP hS (Option.some.inj hf) rfl dX10_isGoingWith_69
      · replace hf := ite_f c_17 hf
        refine lv_aload_n hx hb dX10_isGoingWith_47 rfl (lv_at hl 0 rfl) ?_
        refine lv_iload_n hx hb dX10_isGoingWith_48 rfl (lv_at hl 3 rfl) ?_
        refine lv_iconst (v := 1) hx hb dX10_isGoingWith_49 (by decide) ?_
        refine lv_aload_n hx hb dX10_isGoingWith_50 rfl (lv_at hl 0 rfl) ?_
        refine mq_getr (Tt := TX10) (N := 9) (C := RX10) hx hb hts hiX10 hown hK hP hp rfl 5 20 (by decide) rfl hw0 (fun _ h9 => h9) dX10_isGoingWith_51 ?_
        refine mq_geti (Tt := TX7) (N := 3) (C := RX7) hx hb hts hiX7 hown hK hP (shTC_X10_20 hp) rfl 2 (by decide) rfl hw2 (fun _ h9 => h9) dX10_isGoingWith_54 ?_
        refine lv_isub hx hb dX10_isGoingWith_57 ?_
        obtain ⟨r_18, hr_19, hf⟩ := op_some hf
        refine mq_calli (va_runV (As := [.int x3, .int (1 - (g (p0 + 20) 2))]) (rest := []) ⟨hx, hb, hml, hown, hts⟩ (c_X10_isShoeFor l D ad cy p0 x3 (1 - (g (p0 + 20) 2)) g hp r_18 hr_19) (cwV 2 hts gX10_isGoingWith_X10_isShoeFor rfl rfl rfl (by decide +kernel) ⟨Nat.le_of_ble_eq_true rfl, Nat.le_of_ble_eq_true rfl⟩) (mq_preV (q := (RX10, TX10, 9)) mm_zOkC hK hP hI hZ hS hp rfl) rfl rfl hl.1 rfl (lv_room (Nat.le_of_ble_eq_true rfl)) dX10_isGoingWith_58 ⟨Nat.le_refl _, Nat.le_refl _⟩) hS (fun H locs hP hS => ?_)
        refine lv_if_eq (tgt := 68) hx hb dX10_isGoingWith_61 (by decide) (fun c_20 => ?_) (fun c_20 => ?_)
        · replace hf := ite_t c_20 hf
          refine lv_iconst (v := 0) hx hb dX10_isGoingWith_68 (by decide) ?_
          exact mq_iret hx hb hr (by decide +kernel) hlocks hP hS (Option.some.inj hf) rfl dX10_isGoingWith_69
        · replace hf := ite_f c_20 hf
          refine lv_iconst (v := 1) hx hb dX10_isGoingWith_64 (by decide) ?_
          refine lv_goto (tgt := 69) hx hb dX10_isGoingWith_65 (by decide) ?_
          exact mq_iret hx hb hr (by decide +kernel) hlocks hP hS (Option.some.inj hf) rfl dX10_isGoingWith_69
    · replace hf := ite_f c_1_0 hf
      by_cases c_1_1 : x1 = 1
      · replace hf := ite_t c_1_1 hf
        refine lv_tableIn (off := 69) (tgt := 70) hx hb dX10_isGoingWith_1 (by rw [c_1_1]; decide) (by rw [c_1_1]; decide) (by rw [c_1_1]; decide) (by decide) ?_
        refine lv_iload_n hx hb dX10_isGoingWith_70 rfl (lv_at hl 2 rfl) ?_
        refine lv_iload_n hx hb dX10_isGoingWith_71 rfl (lv_at hl 3 rfl) ?_
        refine lv_icmp_eq (tgt := 113) hx hb dX10_isGoingWith_72 (by decide) (fun c_8 => ?_) (fun c_8 => ?_)
        · replace hf := ite_t c_8 hf
          refine lv_iconst (v := 0) hx hb dX10_isGoingWith_113 (by decide) ?_
          exact mq_iret hx hb hr (by decide +kernel) hlocks hP hS (Option.some.inj hf) rfl dX10_isGoingWith_114
        · replace hf := ite_f c_8 hf
          refine lv_aload_n hx hb dX10_isGoingWith_75 rfl (lv_at hl 0 rfl) ?_
          refine lv_iload_n hx hb dX10_isGoingWith_76 rfl (lv_at hl 2 rfl) ?_
          refine lv_iconst (v := 1) hx hb dX10_isGoingWith_77 (by decide) ?_
          refine lv_aload_n hx hb dX10_isGoingWith_78 rfl (lv_at hl 0 rfl) ?_
          refine mq_getr (Tt := TX10) (N := 9) (C := RX10) hx hb hts hiX10 hown hK hP hp rfl 5 20 (by decide) rfl hw0 (fun _ h9 => h9) dX10_isGoingWith_79 ?_
          refine mq_geti (Tt := TX7) (N := 3) (C := RX7) hx hb hts hiX7 hown hK hP (shTC_X10_20 hp) rfl 2 (by decide) rfl hw2 (fun _ h9 => h9) dX10_isGoingWith_82 ?_
          refine lv_isub hx hb dX10_isGoingWith_85 ?_
          obtain ⟨r_9, hr_10, hf⟩ := op_some hf
          refine mq_calli (va_runV (As := [.int x2, .int (1 - (g (p0 + 20) 2))]) (rest := []) ⟨hx, hb, hml, hown, hts⟩ (c_X10_isShoeFor l D ad cy p0 x2 (1 - (g (p0 + 20) 2)) g hp r_9 hr_10) (cwV 2 hts gX10_isGoingWith_X10_isShoeFor rfl rfl rfl (by decide +kernel) ⟨Nat.le_of_ble_eq_true rfl, Nat.le_of_ble_eq_true rfl⟩) (mq_preV (q := (RX10, TX10, 9)) mm_zOkC hK hP hI hZ hS hp rfl) rfl rfl hl.1 rfl (lv_room (Nat.le_of_ble_eq_true rfl)) dX10_isGoingWith_86 ⟨Nat.le_refl _, Nat.le_refl _⟩) hS (fun H locs hP hS => ?_)
          refine lv_if_eq (tgt := 113) hx hb dX10_isGoingWith_89 (by decide) (fun c_11 => ?_) (fun c_11 => ?_)
          · replace hf := ite_t c_11 hf
            refine lv_iconst (v := 0) hx hb dX10_isGoingWith_113 (by decide) ?_
            exact mq_iret hx hb hr (by decide +kernel) hlocks hP hS (Option.some.inj hf) rfl dX10_isGoingWith_114
          · replace hf := ite_f c_11 hf
            refine lv_aload_n hx hb dX10_isGoingWith_92 rfl (lv_at hl 0 rfl) ?_
            refine lv_iload_n hx hb dX10_isGoingWith_93 rfl (lv_at hl 3 rfl) ?_
            refine lv_iconst (v := 1) hx hb dX10_isGoingWith_94 (by decide) ?_
            refine lv_aload_n hx hb dX10_isGoingWith_95 rfl (lv_at hl 0 rfl) ?_
            refine mq_getr (Tt := TX10) (N := 9) (C := RX10) hx hb hts hiX10 hown hK hP hp rfl 5 20 (by decide) rfl hw0 (fun _ h9 => h9) dX10_isGoingWith_96 ?_
            refine mq_geti (Tt := TX7) (N := 3) (C := RX7) hx hb hts hiX7 hown hK hP (shTC_X10_20 hp) rfl 2 (by decide) rfl hw2 (fun _ h9 => h9) dX10_isGoingWith_99 ?_
            refine lv_isub hx hb dX10_isGoingWith_102 ?_
            obtain ⟨r_12, hr_13, hf⟩ := op_some hf
            refine mq_calli (va_runV (As := [.int x3, .int (1 - (g (p0 + 20) 2))]) (rest := []) ⟨hx, hb, hml, hown, hts⟩ (c_X10_isShoeFor l D ad cy p0 x3 (1 - (g (p0 + 20) 2)) g hp r_12 hr_13) (cwV 2 hts gX10_isGoingWith_X10_isShoeFor rfl rfl rfl (by decide +kernel) ⟨Nat.le_of_ble_eq_true rfl, Nat.le_of_ble_eq_true rfl⟩) (mq_preV (q := (RX10, TX10, 9)) mm_zOkC hK hP hI hZ hS hp rfl) rfl rfl hl.1 rfl (lv_room (Nat.le_of_ble_eq_true rfl)) dX10_isGoingWith_103 ⟨Nat.le_refl _, Nat.le_refl _⟩) hS (fun H locs hP hS => ?_)
            refine lv_if_eq (tgt := 113) hx hb dX10_isGoingWith_106 (by decide) (fun c_14 => ?_) (fun c_14 => ?_)
            · replace hf := ite_t c_14 hf
              refine lv_iconst (v := 0) hx hb dX10_isGoingWith_113 (by decide) ?_
              exact mq_iret hx hb hr (by decide +kernel) hlocks hP hS (Option.some.inj hf) rfl dX10_isGoingWith_114
            · replace hf := ite_f c_14 hf
              refine lv_iconst (v := 1) hx hb dX10_isGoingWith_109 (by decide) ?_
              refine lv_goto (tgt := 114) hx hb dX10_isGoingWith_110 (by decide) ?_
              exact mq_iret hx hb hr (by decide +kernel) hlocks hP hS (Option.some.inj hf) rfl dX10_isGoingWith_114
      · replace hf := ite_f c_1_1 hf
        by_cases c_1_2 : x1 = 2
        · replace hf := ite_t c_1_2 hf
          refine lv_tableIn (off := 114) (tgt := 115) hx hb dX10_isGoingWith_1 (by rw [c_1_2]; decide) (by rw [c_1_2]; decide) (by rw [c_1_2]; decide) (by decide) ?_
          refine lv_aload_n hx hb dX10_isGoingWith_115 rfl (lv_at hl 0 rfl) ?_
          refine lv_iload_n hx hb dX10_isGoingWith_116 rfl (lv_at hl 2 rfl) ?_
          refine lv_iconst (v := 1) hx hb dX10_isGoingWith_117 (by decide) ?_
          refine lv_aload_n hx hb dX10_isGoingWith_118 rfl (lv_at hl 0 rfl) ?_
          refine mq_getr (Tt := TX10) (N := 9) (C := RX10) hx hb hts hiX10 hown hK hP hp rfl 5 20 (by decide) rfl hw0 (fun _ h9 => h9) dX10_isGoingWith_119 ?_
          refine mq_geti (Tt := TX7) (N := 3) (C := RX7) hx hb hts hiX7 hown hK hP (shTC_X10_20 hp) rfl 2 (by decide) rfl hw2 (fun _ h9 => h9) dX10_isGoingWith_122 ?_
          refine lv_isub hx hb dX10_isGoingWith_125 ?_
          obtain ⟨r_4, hr_5, hf⟩ := op_some hf
          refine mq_calli (va_runV (As := [.int x2, .int (1 - (g (p0 + 20) 2))]) (rest := []) ⟨hx, hb, hml, hown, hts⟩ (c_X10_isShoeFor l D ad cy p0 x2 (1 - (g (p0 + 20) 2)) g hp r_4 hr_5) (cwV 2 hts gX10_isGoingWith_X10_isShoeFor rfl rfl rfl (by decide +kernel) ⟨Nat.le_of_ble_eq_true rfl, Nat.le_of_ble_eq_true rfl⟩) (mq_preV (q := (RX10, TX10, 9)) mm_zOkC hK hP hI hZ hS hp rfl) rfl rfl hl.1 rfl (lv_room (Nat.le_of_ble_eq_true rfl)) dX10_isGoingWith_126 ⟨Nat.le_refl _, Nat.le_refl _⟩) hS (fun H locs hP hS => ?_)
          refine lv_if_eq (tgt := 141) hx hb dX10_isGoingWith_129 (by decide) (fun c_6 => ?_) (fun c_6 => ?_)
          · replace hf := ite_t c_6 hf
            refine lv_iconst (v := 0) hx hb dX10_isGoingWith_141 (by decide) ?_
            exact mq_iret hx hb hr (by decide +kernel) hlocks hP hS (Option.some.inj hf) rfl dX10_isGoingWith_142
          · replace hf := ite_f c_6 hf
            refine lv_iload_n hx hb dX10_isGoingWith_132 rfl (lv_at hl 3 rfl) ?_
            refine lv_iconst (v := (-1)) hx hb dX10_isGoingWith_133 (by decide) ?_
            refine lv_icmp_ne (tgt := 141) hx hb dX10_isGoingWith_134 (by decide) (fun c_7 => ?_) (fun c_7 => ?_)
            · replace hf := ite_f c_7 hf
              refine lv_iconst (v := 0) hx hb dX10_isGoingWith_141 (by decide) ?_
              exact mq_iret hx hb hr (by decide +kernel) hlocks hP hS (Option.some.inj hf) rfl dX10_isGoingWith_142
            · replace hf := ite_t c_7 hf
              refine lv_iconst (v := 1) hx hb dX10_isGoingWith_137 (by decide) ?_
              refine lv_goto (tgt := 142) hx hb dX10_isGoingWith_138 (by decide) ?_
              exact mq_iret hx hb hr (by decide +kernel) hlocks hP hS (Option.some.inj hf) rfl dX10_isGoingWith_142
        · replace hf := ite_f c_1_2 hf
          by_cases c_1_3 : x1 = 3
          · replace hf := ite_t c_1_3 hf
            refine lv_tableIn (off := 142) (tgt := 143) hx hb dX10_isGoingWith_1 (by rw [c_1_3]; decide) (by rw [c_1_3]; decide) (by rw [c_1_3]; decide) (by decide) ?_
            refine lv_iload_n hx hb dX10_isGoingWith_143 rfl (lv_at hl 2 rfl) ?_
            refine lv_iconst (v := (-1)) hx hb dX10_isGoingWith_144 (by decide) ?_
            refine lv_icmp_ne (tgt := 157) hx hb dX10_isGoingWith_145 (by decide) (fun c_2 => ?_) (fun c_2 => ?_)
            · replace hf := ite_f c_2 hf
              refine lv_iconst (v := 0) hx hb dX10_isGoingWith_157 (by decide) ?_
              exact mq_iret hx hb hr (by decide +kernel) hlocks hP hS (Option.some.inj hf) rfl dX10_isGoingWith_158
            · replace hf := ite_t c_2 hf
              refine lv_iload_n hx hb dX10_isGoingWith_148 rfl (lv_at hl 3 rfl) ?_
              refine lv_iconst (v := (-1)) hx hb dX10_isGoingWith_149 (by decide) ?_
              refine lv_icmp_ne (tgt := 157) hx hb dX10_isGoingWith_150 (by decide) (fun c_3 => ?_) (fun c_3 => ?_)
              · replace hf := ite_f c_3 hf
                refine lv_iconst (v := 0) hx hb dX10_isGoingWith_157 (by decide) ?_
                exact mq_iret hx hb hr (by decide +kernel) hlocks hP hS (Option.some.inj hf) rfl dX10_isGoingWith_158
              · replace hf := ite_t c_3 hf
                refine lv_iconst (v := 1) hx hb dX10_isGoingWith_153 (by decide) ?_
                refine lv_goto (tgt := 158) hx hb dX10_isGoingWith_154 (by decide) ?_
                exact mq_iret hx hb hr (by decide +kernel) hlocks hP hS (Option.some.inj hf) rfl dX10_isGoingWith_158
          · replace hf := ite_f c_1_3 hf
            refine lv_tableOut (tgt := 159) hx hb dX10_isGoingWith_1 (by
              have e0 : x1.toInt ≠ 0 := sw_ne (k := 0) c_1_0
              have e1 : x1.toInt ≠ 1 := sw_ne (k := 1) c_1_1
              have e2 : x1.toInt ≠ 2 := sw_ne (k := 2) c_1_2
              have e3 : x1.toInt ≠ 3 := sw_ne (k := 3) c_1_3
              omega) (by decide) ?_
            refine lv_iconst (v := 0) hx hb dX10_isGoingWith_159 (by decide) ?_
            exact mq_iret hx hb hr (by decide +kernel) hlocks hP hS (Option.some.inj hf) rfl dX10_isGoingWith_160
  exact hH9 s.heap [] rfl rfl hP hS
abbrev rm_X10_isNoneOrHis : Room := ({ frames := 3, cells := 0, slots := 0, locals := 65 } : Room)
set_option maxHeartbeats 4000000 in
set_option maxRecDepth 100000 in
theorem c_X10_isNoneOrHis (l : Launch) (D : va_G) (ad : Nat → Nat) (cy : Nat → ClassId) (p0 : Nat) (x1 : Int32) (x2 : Int32) (x3 : Int32) (g : Mm) (hp : TC[p0]? = some sX10) (r0 : Int32) (hf : f_X10_isNoneOrHis p0 x1 x2 x3 g = some r0) : Met l yX10_isNoneOrHis wsX10_isNoneOrHis rm_X10_isNoneOrHis (va_Pc [.ref (ad p0), .int x1, .int x2, .int x3] (mm_pre mm_Z D TC ad cy g)) (mm_Qi D TC ad cy r0 g) 0 0 (mm_A TC ad) := by
  refine Met.ofW (cc := cX10_isNoneOrHis) (maxL := 4) (ret := (some .boolean)) (by decide) rfl ?_
  intro p e s m args below meth c s₁ B hml hv
  obtain ⟨hargs, hP, hK, hI, hZ⟩ := hv
  have hx := B.exec
  have hb := B.bytes
  have hr := B.returns
  have hts := atoms_spec (ws := wsX10_isNoneOrHis) B.pre
  have hown : s.vm.findClass RX10 = some m.cls := findClass_of_methodNamed B.named
  have hlocks := B.notSynchronized
  have hw0 := hts (.fieldLink RX10 20 "LeftShoes$World" "shoes" "[LLeftShoes$Shoe;") (by decide +kernel)
  have hiX10 : ∀ w ∈ wsX100, w ∈ wsX10_isNoneOrHis := by decide +kernel
  have hw2 := hts (.fieldLink RX10 68 "LeftShoes$Shoe" "owner" "I") (by decide +kernel)
  have hiX5 : ∀ w ∈ wsX50, w ∈ wsX10_isNoneOrHis := by decide +kernel
  rw [show entryFrame m args 4 = F0 m 0 ((lg_sl ([.ref (ad p0), .int x1, .int x2, .int x3] : List Value) ++ List.replicate (4 - (lg_sl ([.ref (ad p0), .int x1, .int x2, .int x3] : List Value)).length) Slot.unset).toArray) [] from by rw [hargs]; exact lg_entry_eq m _ _]
  have hl := lv_entry ([.ref (ad p0), .int x1, .int x2, .int x3] : List Value) (n := 4) (by exact Nat.le_of_ble_eq_true rfl)
  generalize (lg_sl ([.ref (ad p0), .int x1, .int x2, .int x3] : List Value) ++ List.replicate (4 - (lg_sl ([.ref (ad p0), .int x1, .int x2, .int x3] : List Value)).length) Slot.unset).toArray = ls at hl ⊢
  have hl : lv_has ls 4 [(0, .ref (ad p0)), (1, .int x1), (2, .int x2), (3, .int x3)] := by exact hl
  have hS : va_S (mm_A TC ad) s.heap s.heap [] := va_S.rf
  clear hargs
  unfold f_X10_isNoneOrHis at hf
  have hH9 : ∀ (H : Heap) (locs : List Loc), H = s.heap → locs = [] → va_P D vwCl (mm_L TC ad cy g) H → va_S (mm_A TC ad) s.heap H locs → W p l e (headSpec wsX10_isNoneOrHis (rm_X10_isNoneOrHis)).room s m args below meth c H locs 0 0 (MQ below (mm_Qi D TC ad cy r0 g) args s 0 0 (mm_A TC ad)) (F0 m 0 ls []) := by
    intro H locs hH9 hL9 hP hS
    clear hH9 hL9
    refine lv_iload_n hx hb dX10_isNoneOrHis_0 rfl (lv_at hl 1 rfl) ?_
    refine lv_iconst (v := (-1)) hx hb dX10_isNoneOrHis_1 (by decide) ?_
    refine lv_icmp_eq (tgt := 27) hx hb dX10_isNoneOrHis_2 (by decide) (fun c_1 => ?_) (fun c_1 => ?_)
    · replace hf := ite_t c_1 hf
      refine lv_iconst (v := 1) hx hb dX10_isNoneOrHis_27 (by decide) ?_
      refine lv_goto (tgt := 32) hx hb dX10_isNoneOrHis_28 (by decide) ?_
      exact mq_iret hx hb hr (by decide +kernel) hlocks hP hS (Option.some.inj hf) rfl dX10_isNoneOrHis_32
    · replace hf := ite_f c_1 hf
      refine lv_aload_n hx hb dX10_isNoneOrHis_5 rfl (lv_at hl 0 rfl) ?_
      refine lv_iload_n hx hb dX10_isNoneOrHis_6 rfl (lv_at hl 1 rfl) ?_
      refine lv_iload_n hx hb dX10_isNoneOrHis_7 rfl (lv_at hl 3 rfl) ?_
      obtain ⟨r_2, hr_3, hf⟩ := op_some hf
      refine mq_calli (va_runV (As := [.int x1, .int x3]) (rest := []) ⟨hx, hb, hml, hown, hts⟩ (c_X10_isShoeFor l D ad cy p0 x1 x3 g hp r_2 hr_3) (cwV 2 hts gX10_isNoneOrHis_X10_isShoeFor rfl rfl rfl (by decide +kernel) ⟨Nat.le_of_ble_eq_true rfl, Nat.le_of_ble_eq_true rfl⟩) (mq_preV (q := (RX10, TX10, 9)) mm_zOkC hK hP hI hZ hS hp rfl) rfl rfl hl.1 rfl (lv_room (Nat.le_of_ble_eq_true rfl)) dX10_isNoneOrHis_8 ⟨Nat.le_refl _, Nat.le_refl _⟩) hS (fun H locs hP hS => ?_)
      refine lv_if_eq (tgt := 31) hx hb dX10_isNoneOrHis_11 (by decide) (fun c_4 => ?_) (fun c_4 => ?_)
      · replace hf := ite_t c_4 hf
        refine lv_iconst (v := 0) hx hb dX10_isNoneOrHis_31 (by decide) ?_
        exact mq_iret hx hb hr (by decide +kernel) hlocks hP hS (Option.some.inj hf) rfl dX10_isNoneOrHis_32
      · replace hf := ite_f c_4 hf
        refine lv_aload_n hx hb dX10_isNoneOrHis_14 rfl (lv_at hl 0 rfl) ?_
        refine mq_getr (Tt := TX10) (N := 9) (C := RX10) hx hb hts hiX10 hown hK hP hp rfl 4 3 (by decide) rfl hw0 (fun _ h9 => h9) dX10_isNoneOrHis_15 ?_
        refine lv_iload_n hx hb dX10_isNoneOrHis_18 rfl (lv_at hl 1 rfl) ?_
        obtain ⟨h_5, hf⟩ := og_some hf
        refine mq_aald hx hb hK hP (N := 16) (shTC_X10_3 hp) rfl h_5 dX10_isNoneOrHis_19 ?_
        refine mq_geti (Tt := TX5) (N := 5) (C := RX5) hx hb hts hiX5 hown hK hP (shTC_X10_4i_0 hp (mm_in_lt h_5)) rfl 3 (by decide) rfl hw2 (fun _ h9 => h9) dX10_isNoneOrHis_20 ?_
        refine lv_iload_n hx hb dX10_isNoneOrHis_23 rfl (lv_at hl 2 rfl) ?_
        refine lv_icmp_ne (tgt := 31) hx hb dX10_isNoneOrHis_24 (by decide) (fun c_6 => ?_) (fun c_6 => ?_)
        · replace hf := ite_f c_6 hf
          refine lv_iconst (v := 0) hx hb dX10_isNoneOrHis_31 (by decide) ?_
          exact mq_iret hx hb hr (by decide +kernel) hlocks hP hS (Option.some.inj hf) rfl dX10_isNoneOrHis_32
        · replace hf := ite_t c_6 hf
          refine lv_iconst (v := 1) hx hb dX10_isNoneOrHis_27 (by decide) ?_
          refine lv_goto (tgt := 32) hx hb dX10_isNoneOrHis_28 (by decide) ?_
          exact mq_iret hx hb hr (by decide +kernel) hlocks hP hS (Option.some.inj hf) rfl dX10_isNoneOrHis_32
  exact hH9 s.heap [] rfl rfl hP hS
abbrev rm_X10_areWorn : Room := ({ frames := 4, cells := 0, slots := 0, locals := 88 } : Room)
set_option maxHeartbeats 4000000 in
set_option maxRecDepth 100000 in
theorem c_X10_areWorn (l : Launch) (D : va_G) (ad : Nat → Nat) (cy : Nat → ClassId) (p0 : Nat) (x1 : Int32) (x2 : Int32) (x3 : Int32) (x4 : Int32) (g : Mm) (hp : TC[p0]? = some sX10) (r0 : Int32) (hf : f_X10_areWorn p0 x1 x2 x3 x4 g = some r0) : Met l yX10_areWorn wsX10_areWorn rm_X10_areWorn (va_Pc [.ref (ad p0), .int x1, .int x2, .int x3, .int x4] (mm_pre mm_Z D TC ad cy g)) (mm_Qi D TC ad cy r0 g) 0 0 (mm_A TC ad) := by
  refine Met.ofW (cc := cX10_areWorn) (maxL := 6) (ret := (some .boolean)) (by decide) rfl ?_
  intro p e s m args below meth c s₁ B hml hv
  obtain ⟨hargs, hP, hK, hI, hZ⟩ := hv
  have hx := B.exec
  have hb := B.bytes
  have hr := B.returns
  have hts := atoms_spec (ws := wsX10_areWorn) B.pre
  have hown : s.vm.findClass RX10 = some m.cls := findClass_of_methodNamed B.named
  have hlocks := B.notSynchronized
  have hw0 := hts (.fieldLink RX10 15 "LeftShoes$World" "feet" "[I") (by decide +kernel)
  have hiX10 : ∀ w ∈ wsX100, w ∈ wsX10_areWorn := by decide +kernel
  have hw2 := hts (.fieldLink RX10 27 "LeftShoes$World" "levy" "LLeftShoes$Tax;") (by decide +kernel)
  have hw3 := hts (.fieldLink RX10 84 "LeftShoes$Tax" "foot" "I") (by decide +kernel)
  have hiX7 : ∀ w ∈ wsX70, w ∈ wsX10_areWorn := by decide +kernel
  rw [show entryFrame m args 6 = F0 m 0 ((lg_sl ([.ref (ad p0), .int x1, .int x2, .int x3, .int x4] : List Value) ++ List.replicate (6 - (lg_sl ([.ref (ad p0), .int x1, .int x2, .int x3, .int x4] : List Value)).length) Slot.unset).toArray) [] from by rw [hargs]; exact lg_entry_eq m _ _]
  have hl := lv_entry ([.ref (ad p0), .int x1, .int x2, .int x3, .int x4] : List Value) (n := 6) (by exact Nat.le_of_ble_eq_true rfl)
  generalize (lg_sl ([.ref (ad p0), .int x1, .int x2, .int x3, .int x4] : List Value) ++ List.replicate (6 - (lg_sl ([.ref (ad p0), .int x1, .int x2, .int x3, .int x4] : List Value)).length) Slot.unset).toArray = ls at hl ⊢
  have hl : lv_has ls 6 [(0, .ref (ad p0)), (1, .int x1), (2, .int x2), (3, .int x3), (4, .int x4)] := by exact hl
  have hS : va_S (mm_A TC ad) s.heap s.heap [] := va_S.rf
  clear hargs
  have hc59 : ∀ (sx0 : Int32) (H : Heap) (locs : List Loc) (ls : Array Slot), va_P D vwCl (mm_L TC ad cy g) H → va_S (mm_A TC ad) s.heap H locs → lv_has ls 6 [(0, .ref (ad p0)), (1, .int x1), (2, .int x2), (3, .int x3), (4, .int x4)] → f_X10_areWorn_c59 p0 x1 x2 x3 x4 sx0 g = some r0 → W p l e (headSpec wsX10_areWorn (rm_X10_areWorn)).room s m args below meth c H locs 0 0 (MQ below (mm_Qi D TC ad cy r0 g) args s 0 0 (mm_A TC ad)) (F0 m 59 ls [.int sx0]) := by
    intro sx0 H locs ls hP hS hl hf
    unfold f_X10_areWorn_c59 at hf
    refine lv_istore (lv' := [(5, .int sx0), (0, .ref (ad p0)), (1, .int x1), (2, .int x2), (3, .int x3), (4, .int x4)]) hx hb dX10_areWorn_59 hl (by decide) rfl (fun ls hl => ?_)
    refine lv_iload hx hb dX10_areWorn_61 (lv_at hl 0 rfl) ?_
    refine lv_if_ne (tgt := 123) hx hb dX10_areWorn_63 (by decide) (fun c_4 => ?_) (fun c_4 => ?_)
    · replace hf := ite_f c_4 hf
      refine lv_iconst (v := 0) hx hb dX10_areWorn_123 (by decide) ?_
      exact mq_iret hx hb hr (by decide +kernel) hlocks hP hS (Option.some.inj hf) rfl dX10_areWorn_124
    · replace hf := ite_t c_4 hf
      refine lv_aload_n hx hb dX10_areWorn_66 rfl (lv_at hl 1 rfl) ?_
      refine lv_iload_n hx hb dX10_areWorn_67 rfl (lv_at hl 3 rfl) ?_
      refine lv_iload_n hx hb dX10_areWorn_68 rfl (lv_at hl 2 rfl) ?_
      refine lv_aload_n hx hb dX10_areWorn_69 rfl (lv_at hl 1 rfl) ?_
      refine mq_getr (Tt := TX10) (N := 9) (C := RX10) hx hb hts hiX10 hown hK hP hp rfl 5 20 (by decide) rfl hw2 (fun _ h9 => h9) dX10_areWorn_70 ?_
      refine mq_geti (Tt := TX7) (N := 3) (C := RX7) hx hb hts hiX7 hown hK hP (shTC_X10_20 hp) rfl 2 (by decide) rfl hw3 (fun _ h9 => h9) dX10_areWorn_73 ?_
      obtain ⟨r_5, hr_6, hf⟩ := op_some hf
      refine mq_calli (va_runV (As := [.int x2, .int x1, .int (g (p0 + 20) 2)]) (rest := []) ⟨hx, hb, hml, hown, hts⟩ (c_X10_isNoneOrHis l D ad cy p0 x2 x1 (g (p0 + 20) 2) g hp r_5 hr_6) (cwV 3 hts gX10_areWorn_X10_isNoneOrHis rfl rfl rfl (by decide +kernel) ⟨Nat.le_of_ble_eq_true rfl, Nat.le_of_ble_eq_true rfl⟩) (mq_preV (q := (RX10, TX10, 9)) mm_zOkC hK hP hI hZ hS hp rfl) rfl rfl hl.1 rfl (lv_room (Nat.le_of_ble_eq_true rfl)) dX10_areWorn_76 ⟨Nat.le_refl _, Nat.le_refl _⟩) hS (fun H locs hP hS => ?_)
      refine lv_if_eq (tgt := 123) hx hb dX10_areWorn_79 (by decide) (fun c_7 => ?_) (fun c_7 => ?_)
      · replace hf := ite_t c_7 hf
        refine lv_iconst (v := 0) hx hb dX10_areWorn_123 (by decide) ?_
        exact mq_iret hx hb hr (by decide +kernel) hlocks hP hS (Option.some.inj hf) rfl dX10_areWorn_124
      · replace hf := ite_f c_7 hf
        refine lv_aload_n hx hb dX10_areWorn_82 rfl (lv_at hl 1 rfl) ?_
        refine lv_iload_n hx hb dX10_areWorn_83 rfl (lv_at hl 4 rfl) ?_
        refine lv_iload_n hx hb dX10_areWorn_84 rfl (lv_at hl 2 rfl) ?_
        refine lv_iconst (v := 1) hx hb dX10_areWorn_85 (by decide) ?_
        refine lv_aload_n hx hb dX10_areWorn_86 rfl (lv_at hl 1 rfl) ?_
        refine mq_getr (Tt := TX10) (N := 9) (C := RX10) hx hb hts hiX10 hown hK hP hp rfl 5 20 (by decide) rfl hw2 (fun _ h9 => h9) dX10_areWorn_87 ?_
        refine mq_geti (Tt := TX7) (N := 3) (C := RX7) hx hb hts hiX7 hown hK hP (shTC_X10_20 hp) rfl 2 (by decide) rfl hw3 (fun _ h9 => h9) dX10_areWorn_90 ?_
        refine lv_isub hx hb dX10_areWorn_93 ?_
        obtain ⟨r_8, hr_9, hf⟩ := op_some hf
        refine mq_calli (va_runV (As := [.int x3, .int x1, .int (1 - (g (p0 + 20) 2))]) (rest := []) ⟨hx, hb, hml, hown, hts⟩ (c_X10_isNoneOrHis l D ad cy p0 x3 x1 (1 - (g (p0 + 20) 2)) g hp r_8 hr_9) (cwV 3 hts gX10_areWorn_X10_isNoneOrHis rfl rfl rfl (by decide +kernel) ⟨Nat.le_of_ble_eq_true rfl, Nat.le_of_ble_eq_true rfl⟩) (mq_preV (q := (RX10, TX10, 9)) mm_zOkC hK hP hI hZ hS hp rfl) rfl rfl hl.1 rfl (lv_room (Nat.le_of_ble_eq_true rfl)) dX10_areWorn_94 ⟨Nat.le_refl _, Nat.le_refl _⟩) hS (fun H locs hP hS => ?_)
        refine lv_if_eq (tgt := 123) hx hb dX10_areWorn_97 (by decide) (fun c_10 => ?_) (fun c_10 => ?_)
        · replace hf := ite_t c_10 hf
          refine lv_iconst (v := 0) hx hb dX10_areWorn_123 (by decide) ?_
          exact mq_iret hx hb hr (by decide +kernel) hlocks hP hS (Option.some.inj hf) rfl dX10_areWorn_124
        · replace hf := ite_f c_10 hf
          refine lv_aload_n hx hb dX10_areWorn_100 rfl (lv_at hl 1 rfl) ?_
          refine lv_iload hx hb dX10_areWorn_101 (lv_at hl 5 rfl) ?_
          refine lv_iload_n hx hb dX10_areWorn_103 rfl (lv_at hl 2 rfl) ?_
          refine lv_iconst (v := 1) hx hb dX10_areWorn_104 (by decide) ?_
          refine lv_aload_n hx hb dX10_areWorn_105 rfl (lv_at hl 1 rfl) ?_
          refine mq_getr (Tt := TX10) (N := 9) (C := RX10) hx hb hts hiX10 hown hK hP hp rfl 5 20 (by decide) rfl hw2 (fun _ h9 => h9) dX10_areWorn_106 ?_
          refine mq_geti (Tt := TX7) (N := 3) (C := RX7) hx hb hts hiX7 hown hK hP (shTC_X10_20 hp) rfl 2 (by decide) rfl hw3 (fun _ h9 => h9) dX10_areWorn_109 ?_
          refine lv_isub hx hb dX10_areWorn_112 ?_
          obtain ⟨r_11, hr_12, hf⟩ := op_some hf
          refine mq_calli (va_runV (As := [.int x4, .int x1, .int (1 - (g (p0 + 20) 2))]) (rest := []) ⟨hx, hb, hml, hown, hts⟩ (c_X10_isNoneOrHis l D ad cy p0 x4 x1 (1 - (g (p0 + 20) 2)) g hp r_11 hr_12) (cwV 3 hts gX10_areWorn_X10_isNoneOrHis rfl rfl rfl (by decide +kernel) ⟨Nat.le_of_ble_eq_true rfl, Nat.le_of_ble_eq_true rfl⟩) (mq_preV (q := (RX10, TX10, 9)) mm_zOkC hK hP hI hZ hS hp rfl) rfl rfl hl.1 rfl (lv_room (Nat.le_of_ble_eq_true rfl)) dX10_areWorn_113 ⟨Nat.le_refl _, Nat.le_refl _⟩) hS (fun H locs hP hS => ?_)
          refine lv_if_eq (tgt := 123) hx hb dX10_areWorn_116 (by decide) (fun c_13 => ?_) (fun c_13 => ?_)
          · replace hf := ite_t c_13 hf
            refine lv_iconst (v := 0) hx hb dX10_areWorn_123 (by decide) ?_
            exact mq_iret hx hb hr (by decide +kernel) hlocks hP hS (Option.some.inj hf) rfl dX10_areWorn_124
          · replace hf := ite_f c_13 hf
            refine lv_iconst (v := 1) hx hb dX10_areWorn_119 (by decide) ?_
            refine lv_goto (tgt := 124) hx hb dX10_areWorn_120 (by decide) ?_
            exact mq_iret hx hb hr (by decide +kernel) hlocks hP hS (Option.some.inj hf) rfl dX10_areWorn_124
  have hc58 : ∀ (H : Heap) (locs : List Loc) (ls : Array Slot), va_P D vwCl (mm_L TC ad cy g) H → va_S (mm_A TC ad) s.heap H locs → lv_has ls 6 [(0, .ref (ad p0)), (1, .int x1), (2, .int x2), (3, .int x3), (4, .int x4)] → f_X10_areWorn_c58 p0 x1 x2 x3 x4 g = some r0 → W p l e (headSpec wsX10_areWorn (rm_X10_areWorn)).room s m args below meth c H locs 0 0 (MQ below (mm_Qi D TC ad cy r0 g) args s 0 0 (mm_A TC ad)) (F0 m 58 ls []) := by
    intro H locs ls hP hS hl hf
    unfold f_X10_areWorn_c58 at hf
    refine lv_iconst (v := 0) hx hb dX10_areWorn_58 (by decide) ?_
    exact hc59 0 H locs ls hP hS (lv_sub hl [0, 1, 2, 3, 4] rfl) hf
  unfold f_X10_areWorn at hf
  have hH9 : ∀ (H : Heap) (locs : List Loc), H = s.heap → locs = [] → va_P D vwCl (mm_L TC ad cy g) H → va_S (mm_A TC ad) s.heap H locs → W p l e (headSpec wsX10_areWorn (rm_X10_areWorn)).room s m args below meth c H locs 0 0 (MQ below (mm_Qi D TC ad cy r0 g) args s 0 0 (mm_A TC ad)) (F0 m 0 ls []) := by
    intro H locs hH9 hL9 hP hS
    clear hH9 hL9
    refine lv_aload_n hx hb dX10_areWorn_0 rfl (lv_at hl 0 rfl) ?_
    refine mq_getr (Tt := TX10) (N := 9) (C := RX10) hx hb hts hiX10 hown hK hP hp rfl 2 2 (by decide) rfl hw0 (fun _ h9 => h9) dX10_areWorn_1 ?_
    refine lv_iload_n hx hb dX10_areWorn_4 rfl (lv_at hl 1 rfl) ?_
    obtain ⟨h_1, hf⟩ := og_some hf
    refine mq_iald hx hb hK hP (N := 5) (shTC_X10_2 hp) h_1 dX10_areWorn_5 ?_
    refine lv_if_eq (tgt := 43) hx hb dX10_areWorn_6 (by decide) (fun c_2 => ?_) (fun c_2 => ?_)
    · replace hf := ite_t c_2 hf
      refine lv_iload_n hx hb dX10_areWorn_43 rfl (lv_at hl 3 rfl) ?_
      refine lv_iconst (v := (-1)) hx hb dX10_areWorn_44 (by decide) ?_
      refine lv_icmp_eq (tgt := 58) hx hb dX10_areWorn_45 (by decide) (fun c_3 => ?_) (fun c_3 => ?_)
      · replace hf := ite_t c_3 hf
        exact hc58 H locs ls hP hS (lv_sub hl [0, 1, 2, 3, 4] rfl) hf
      · replace hf := ite_f c_3 hf
        refine lv_iload_n hx hb dX10_areWorn_48 rfl (lv_at hl 3 rfl) ?_
        refine lv_iload hx hb dX10_areWorn_49 (lv_at hl 4 rfl) ?_
        refine lv_icmp_ne (tgt := 58) hx hb dX10_areWorn_51 (by decide) (fun c_14 => ?_) (fun c_14 => ?_)
        · replace hf := ite_f c_14 hf
          exact hc58 H locs ls hP hS (lv_sub hl [0, 1, 2, 3, 4] rfl) hf
        · replace hf := ite_t c_14 hf
          refine lv_iconst (v := 1) hx hb dX10_areWorn_54 (by decide) ?_
          refine lv_goto (tgt := 59) hx hb dX10_areWorn_55 (by decide) ?_
          exact hc59 1 H locs ls hP hS (lv_sub hl [0, 1, 2, 3, 4] rfl) hf
    · replace hf := ite_f c_2 hf
      refine lv_iload_n hx hb dX10_areWorn_9 rfl (lv_at hl 2 rfl) ?_
      refine lv_iconst (v := (-1)) hx hb dX10_areWorn_10 (by decide) ?_
      refine lv_icmp_ne (tgt := 41) hx hb dX10_areWorn_11 (by decide) (fun c_15 => ?_) (fun c_15 => ?_)
      · replace hf := ite_f c_15 hf
        refine lv_iconst (v := 0) hx hb dX10_areWorn_41 (by decide) ?_
        exact mq_iret hx hb hr (by decide +kernel) hlocks hP hS (Option.some.inj hf) rfl dX10_areWorn_42
      · replace hf := ite_t c_15 hf
        refine lv_iload hx hb dX10_areWorn_14 (lv_at hl 4 rfl) ?_
        refine lv_iconst (v := (-1)) hx hb dX10_areWorn_16 (by decide) ?_
        refine lv_icmp_ne (tgt := 41) hx hb dX10_areWorn_17 (by decide) (fun c_16 => ?_) (fun c_16 => ?_)
        · replace hf := ite_f c_16 hf
          refine lv_iconst (v := 0) hx hb dX10_areWorn_41 (by decide) ?_
          exact mq_iret hx hb hr (by decide +kernel) hlocks hP hS (Option.some.inj hf) rfl dX10_areWorn_42
        · replace hf := ite_t c_16 hf
          refine lv_aload_n hx hb dX10_areWorn_20 rfl (lv_at hl 0 rfl) ?_
          refine lv_iload_n hx hb dX10_areWorn_21 rfl (lv_at hl 3 rfl) ?_
          refine lv_iload_n hx hb dX10_areWorn_22 rfl (lv_at hl 1 rfl) ?_
          refine lv_aload_n hx hb dX10_areWorn_23 rfl (lv_at hl 0 rfl) ?_
          refine mq_getr (Tt := TX10) (N := 9) (C := RX10) hx hb hts hiX10 hown hK hP hp rfl 2 2 (by decide) rfl hw0 (fun _ h9 => h9) dX10_areWorn_24 ?_
          refine lv_iload_n hx hb dX10_areWorn_27 rfl (lv_at hl 1 rfl) ?_
          obtain ⟨h_17, hf⟩ := og_some hf
          refine mq_iald hx hb hK hP (N := 5) (shTC_X10_2 hp) h_17 dX10_areWorn_28 ?_
          refine lv_iconst (v := 1) hx hb dX10_areWorn_29 (by decide) ?_
          refine lv_isub hx hb dX10_areWorn_30 ?_
          obtain ⟨r_18, hr_19, hf⟩ := op_some hf
          refine mq_calli (va_runV (As := [.int x3, .int x1, .int ((g (p0 + 2) x1.toNatClampNeg) - 1)]) (rest := []) ⟨hx, hb, hml, hown, hts⟩ (c_X10_isNoneOrHis l D ad cy p0 x3 x1 ((g (p0 + 2) x1.toNatClampNeg) - 1) g hp r_18 hr_19) (cwV 3 hts gX10_areWorn_X10_isNoneOrHis rfl rfl rfl (by decide +kernel) ⟨Nat.le_of_ble_eq_true rfl, Nat.le_of_ble_eq_true rfl⟩) (mq_preV (q := (RX10, TX10, 9)) mm_zOkC hK hP hI hZ hS hp rfl) rfl rfl hl.1 rfl (lv_room (Nat.le_of_ble_eq_true rfl)) dX10_areWorn_31 ⟨Nat.le_refl _, Nat.le_refl _⟩) hS (fun H locs hP hS => ?_)
          refine lv_if_eq (tgt := 41) hx hb dX10_areWorn_34 (by decide) (fun c_20 => ?_) (fun c_20 => ?_)
          · replace hf := ite_t c_20 hf
            refine lv_iconst (v := 0) hx hb dX10_areWorn_41 (by decide) ?_
            exact mq_iret hx hb hr (by decide +kernel) hlocks hP hS (Option.some.inj hf) rfl dX10_areWorn_42
          · replace hf := ite_f c_20 hf
            refine lv_iconst (v := 1) hx hb dX10_areWorn_37 (by decide) ?_
            refine lv_goto (tgt := 42) hx hb dX10_areWorn_38 (by decide) ?_
            exact mq_iret hx hb hr (by decide +kernel) hlocks hP hS (Option.some.inj hf) rfl dX10_areWorn_42
  exact hH9 s.heap [] rfl rfl hP hS
abbrev rm_X10_isIn : Room := ({ frames := 0, cells := 0, slots := 0, locals := 0 } : Room)
set_option maxHeartbeats 4000000 in
set_option maxRecDepth 100000 in
theorem c_X10_isIn (l : Launch) (D : va_G) (ad : Nat → Nat) (cy : Nat → ClassId) (x0 : Int32) (x1 : Int32) (g : Mm)  (r0 : Int32) (hf : f_X10_isIn x0 x1 = some r0) : Met l yX10_isIn wsX10_isIn rm_X10_isIn (va_Pc [.int x0, .int x1] (mm_pre mm_Z D TC ad cy g)) (mm_Qi D TC ad cy r0 g) 0 0 (mm_A TC ad) := by
  refine Met.ofW (cc := cX10_isIn) (maxL := 2) (ret := (some .boolean)) (by decide) rfl ?_
  intro p e s m args below meth c s₁ B hml hv
  obtain ⟨hargs, hP, hK, hI, hZ⟩ := hv
  have hx := B.exec
  have hb := B.bytes
  have hr := B.returns
  have hts := atoms_spec (ws := wsX10_isIn) B.pre
  have hown : s.vm.findClass RX10 = some m.cls := findClass_of_methodNamed B.named
  have hlocks := B.notSynchronized
  rw [show entryFrame m args 2 = F0 m 0 ((lg_sl ([.int x0, .int x1] : List Value) ++ List.replicate (2 - (lg_sl ([.int x0, .int x1] : List Value)).length) Slot.unset).toArray) [] from by rw [hargs]; exact lg_entry_eq m _ _]
  have hl := lv_entry ([.int x0, .int x1] : List Value) (n := 2) (by exact Nat.le_of_ble_eq_true rfl)
  generalize (lg_sl ([.int x0, .int x1] : List Value) ++ List.replicate (2 - (lg_sl ([.int x0, .int x1] : List Value)).length) Slot.unset).toArray = ls at hl ⊢
  have hl : lv_has ls 2 [(0, .int x0), (1, .int x1)] := by exact hl
  have hS : va_S (mm_A TC ad) s.heap s.heap [] := va_S.rf
  clear hargs
  unfold f_X10_isIn at hf
  have hH9 : ∀ (H : Heap) (locs : List Loc), H = s.heap → locs = [] → va_P D vwCl (mm_L TC ad cy g) H → va_S (mm_A TC ad) s.heap H locs → W p l e (headSpec wsX10_isIn (rm_X10_isIn)).room s m args below meth c H locs 0 0 (MQ below (mm_Qi D TC ad cy r0 g) args s 0 0 (mm_A TC ad)) (F0 m 0 ls []) := by
    intro H locs hH9 hL9 hP hS
    clear hH9 hL9
    refine lv_iload_n hx hb dX10_isIn_0 rfl (lv_at hl 0 rfl) ?_
    refine lv_iload_n hx hb dX10_isIn_1 rfl (lv_at hl 1 rfl) ?_
    refine lv_ishr hx hb dX10_isIn_2 ?_
    refine lv_iconst (v := 1) hx hb dX10_isIn_3 (by decide) ?_
    refine lv_iand hx hb dX10_isIn_4 ?_
    refine lv_iconst (v := 1) hx hb dX10_isIn_5 (by decide) ?_
    refine lv_icmp_ne (tgt := 13) hx hb dX10_isIn_6 (by decide) (fun c_1 => ?_) (fun c_1 => ?_)
    · replace hf := ite_f c_1 hf
      refine lv_iconst (v := 0) hx hb dX10_isIn_13 (by decide) ?_
      exact mq_iret hx hb hr (by decide +kernel) hlocks hP hS (Option.some.inj hf) rfl dX10_isIn_14
    · replace hf := ite_t c_1 hf
      refine lv_iconst (v := 1) hx hb dX10_isIn_9 (by decide) ?_
      refine lv_goto (tgt := 14) hx hb dX10_isIn_10 (by decide) ?_
      exact mq_iret hx hb hr (by decide +kernel) hlocks hP hS (Option.some.inj hf) rfl dX10_isIn_14
  exact hH9 s.heap [] rfl rfl hP hS
abbrev rm_X10_wearable : Room := ({ frames := 1, cells := 0, slots := 0, locals := 21 } : Room)
set_option maxHeartbeats 4000000 in
set_option maxRecDepth 100000 in
theorem c_X10_wearable (l : Launch) (D : va_G) (ad : Nat → Nat) (cy : Nat → ClassId) (p0 : Nat) (x1 : Int32) (x2 : Int32) (x3 : Int32) (g : Mm) (hp : TC[p0]? = some sX10) (r0 : Int32) (hf : f_X10_wearable p0 x1 x2 x3 g = some r0) : Met l yX10_wearable wsX10_wearable rm_X10_wearable (va_Pc [.ref (ad p0), .int x1, .int x2, .int x3] (mm_pre mm_Z D TC ad cy g)) (mm_Qi D TC ad cy r0 g) 0 0 (mm_A TC ad) := by
  refine Met.ofW (cc := cX10_wearable) (maxL := 7) (ret := (some .int)) (by decide) rfl ?_
  intro p e s m args below meth c s₁ B hml hv
  obtain ⟨hargs, hP, hK, hI, hZ⟩ := hv
  have hx := B.exec
  have hb := B.bytes
  have hr := B.returns
  have hts := atoms_spec (ws := wsX10_wearable) B.pre
  have hown : s.vm.findClass RX10 = some m.cls := findClass_of_methodNamed B.named
  have hlocks := B.notSynchronized
  have hw0 := hts (.fieldLink RX10 61 "LeftShoes$World" "shoeCount" "I") (by decide +kernel)
  have hiX10 : ∀ w ∈ wsX100, w ∈ wsX10_wearable := by decide +kernel
  have hw2 := hts (.fieldLink RX10 20 "LeftShoes$World" "shoes" "[LLeftShoes$Shoe;") (by decide +kernel)
  have hw3 := hts (.fieldLink RX10 68 "LeftShoes$Shoe" "owner" "I") (by decide +kernel)
  have hiX5 : ∀ w ∈ wsX50, w ∈ wsX10_wearable := by decide +kernel
  have hw5 := hts (.fieldLink RX10 71 "LeftShoes$Shoe" "foot" "I") (by decide +kernel)
  have hw6 := hts (.fieldLink RX10 74 "LeftShoes$Shoe" "sort" "I") (by decide +kernel)
  have hw7 := hts (.fieldLink RX10 77 "LeftShoes$Shoe" "soles" "I") (by decide +kernel)
  rw [show entryFrame m args 7 = F0 m 0 ((lg_sl ([.ref (ad p0), .int x1, .int x2, .int x3] : List Value) ++ List.replicate (7 - (lg_sl ([.ref (ad p0), .int x1, .int x2, .int x3] : List Value)).length) Slot.unset).toArray) [] from by rw [hargs]; exact lg_entry_eq m _ _]
  have hl := lv_entry ([.ref (ad p0), .int x1, .int x2, .int x3] : List Value) (n := 7) (by exact Nat.le_of_ble_eq_true rfl)
  generalize (lg_sl ([.ref (ad p0), .int x1, .int x2, .int x3] : List Value) ++ List.replicate (7 - (lg_sl ([.ref (ad p0), .int x1, .int x2, .int x3] : List Value)).length) Slot.unset).toArray = ls at hl ⊢
  have hl : lv_has ls 7 [(0, .ref (ad p0)), (1, .int x1), (2, .int x2), (3, .int x3)] := by exact hl
  have hS : va_S (mm_A TC ad) s.heap s.heap [] := va_S.rf
  clear hargs
  have hc6 : ∀ (n : Nat), ∀ (x4 : Int32) (x5 : Int32) (H : Heap) (locs : List Loc) (ls : Array Slot), va_P D vwCl (mm_L TC ad cy g) H → va_S (mm_A TC ad) s.heap H locs → lv_has ls 7 [(0, .ref (ad p0)), (1, .int x1), (2, .int x2), (3, .int x3), (4, .int x4), (5, .int x5)] → f_X10_wearable_c6 p0 x1 x2 x3 n x4 x5 g = some r0 → W p l e (headSpec wsX10_wearable (rm_X10_wearable)).room s m args below meth c H locs 0 0 (MQ below (mm_Qi D TC ad cy r0 g) args s 0 0 (mm_A TC ad)) (F0 m 6 ls []) := by
    intro n
    induction n with
    | zero =>
      intro x4 x5 H locs ls hP hS hl hf
      rw [f_X10_wearable_c6] at hf
      cases hf
    | succ n ih =>
      intro x4 x5 H locs ls hP hS hl hf
      rw [f_X10_wearable_c6] at hf
      refine lv_iload hx hb dX10_wearable_6 (lv_at hl 5 rfl) ?_
      refine lv_aload_n hx hb dX10_wearable_8 rfl (lv_at hl 0 rfl) ?_
      refine mq_geti (Tt := TX10) (N := 9) (C := RX10) hx hb hts hiX10 hown hK hP hp rfl 3 (by decide) rfl hw0 (fun _ h9 => h9) dX10_wearable_9 ?_
      refine lv_icmp_ge (tgt := 71) hx hb dX10_wearable_12 (by decide) (fun c_1 => ?_) (fun c_1 => ?_)
      · replace hf := ite_t c_1 hf
        refine lv_iload hx hb dX10_wearable_71 (lv_at hl 4 rfl) ?_
        exact mq_iret hx hb hr rfl hlocks hP hS (Option.some.inj hf) rfl dX10_wearable_73
      · replace hf := ite_f c_1 hf
        refine lv_aload_n hx hb dX10_wearable_15 rfl (lv_at hl 0 rfl) ?_
        refine mq_getr (Tt := TX10) (N := 9) (C := RX10) hx hb hts hiX10 hown hK hP hp rfl 4 3 (by decide) rfl hw2 (fun _ h9 => h9) dX10_wearable_16 ?_
        refine lv_iload hx hb dX10_wearable_19 (lv_at hl 5 rfl) ?_
        obtain ⟨h_2, hf⟩ := og_some hf
        refine mq_aald hx hb hK hP (N := 16) (shTC_X10_3 hp) rfl h_2 dX10_wearable_21 ?_
        refine lv_astore (lv' := [(6, .ref (ad (p0 + 4 + x5.toNatClampNeg))), (0, .ref (ad p0)), (1, .int x1), (2, .int x2), (3, .int x3), (4, .int x4), (5, .int x5)]) hx hb dX10_wearable_22 hl (by decide) rfl (fun ls hl => ?_)
        refine lv_iload_n hx hb dX10_wearable_24 rfl (lv_at hl 2 rfl) ?_
        refine lv_aload hx hb dX10_wearable_25 (lv_at hl 0 rfl) ?_
        refine mq_geti (Tt := TX5) (N := 5) (C := RX5) hx hb hts hiX5 hown hK hP (shTC_X10_4i_0 hp (mm_in_lt h_2)) rfl 3 (by decide) rfl hw3 (fun _ h9 => h9) dX10_wearable_27 ?_
        obtain ⟨r_3, hr_4, hf⟩ := op_some hf
        refine mq_calli (va_runS (As := [.int x1, .int (g (p0 + 4 + x5.toNatClampNeg) 3)]) (rest := []) ⟨hx, hb, hml, hown, hts⟩ (c_X10_isIn l D ad cy x1 (g (p0 + 4 + x5.toNatClampNeg) 3) g r_3 hr_4) (va_cwS 2 hts gX10_wearable_X10_isIn rfl rfl rfl (by decide +kernel) ⟨Nat.le_of_ble_eq_true rfl, Nat.le_of_ble_eq_true rfl⟩) (mq_preS mm_zOkC hK hP hI hZ hS) rfl rfl hl.1 rfl (lv_room (Nat.le_of_ble_eq_true rfl)) dX10_wearable_30 ⟨Nat.le_refl _, Nat.le_refl _⟩) hS (fun H locs hP hS => ?_)
        refine lv_if_eq (tgt := 65) hx hb dX10_wearable_33 (by decide) (fun c_5 => ?_) (fun c_5 => ?_)
        · replace hf := ite_t c_5 hf
          obtain ⟨x5_6, ex5_6, hf⟩ := mv_some hf
          refine lv_iinc (v := x5_6) (lv' := [(5, .int x5_6), (6, .ref (ad (p0 + 4 + x5.toNatClampNeg))), (0, .ref (ad p0)), (1, .int x1), (2, .int x2), (3, .int x3), (4, .int x4)]) hx hb dX10_wearable_65 hl (k := 6) rfl (by rw [ex5_6]; rfl) (by decide) rfl (fun ls hl => ?_)
          refine lv_goto (tgt := 6) hx hb dX10_wearable_68 (by decide) ?_
          exact ih x4 x5_6 H locs ls hP hS (lv_sub hl [2, 3, 4, 5, 6, 0] rfl) hf
        · replace hf := ite_f c_5 hf
          refine lv_aload hx hb dX10_wearable_36 (lv_at hl 0 rfl) ?_
          refine mq_geti (Tt := TX5) (N := 5) (C := RX5) hx hb hts hiX5 hown hK hP (shTC_X10_4i_0 hp (mm_in_lt h_2)) rfl 0 (by decide) rfl hw5 (fun _ h9 => h9) dX10_wearable_38 ?_
          refine lv_iload_n hx hb dX10_wearable_41 rfl (lv_at hl 3 rfl) ?_
          refine lv_icmp_ne (tgt := 65) hx hb dX10_wearable_42 (by decide) (fun c_7 => ?_) (fun c_7 => ?_)
          · replace hf := ite_f c_7 hf
            obtain ⟨x5_8, ex5_8, hf⟩ := mv_some hf
            refine lv_iinc (v := x5_8) (lv' := [(5, .int x5_8), (6, .ref (ad (p0 + 4 + x5.toNatClampNeg))), (0, .ref (ad p0)), (1, .int x1), (2, .int x2), (3, .int x3), (4, .int x4)]) hx hb dX10_wearable_65 hl (k := 6) rfl (by rw [ex5_8]; rfl) (by decide) rfl (fun ls hl => ?_)
            refine lv_goto (tgt := 6) hx hb dX10_wearable_68 (by decide) ?_
            exact ih x4 x5_8 H locs ls hP hS (lv_sub hl [2, 3, 4, 5, 6, 0] rfl) hf
          · replace hf := ite_t c_7 hf
            refine lv_aload hx hb dX10_wearable_45 (lv_at hl 0 rfl) ?_
            refine mq_geti (Tt := TX5) (N := 5) (C := RX5) hx hb hts hiX5 hown hK hP (shTC_X10_4i_0 hp (mm_in_lt h_2)) rfl 1 (by decide) rfl hw6 (fun _ h9 => h9) dX10_wearable_47 ?_
            refine lv_iload_n hx hb dX10_wearable_50 rfl (lv_at hl 4 rfl) ?_
            refine lv_icmp_ne (tgt := 65) hx hb dX10_wearable_51 (by decide) (fun c_9 => ?_) (fun c_9 => ?_)
            · replace hf := ite_f c_9 hf
              obtain ⟨x5_10, ex5_10, hf⟩ := mv_some hf
              refine lv_iinc (v := x5_10) (lv' := [(5, .int x5_10), (6, .ref (ad (p0 + 4 + x5.toNatClampNeg))), (0, .ref (ad p0)), (1, .int x1), (2, .int x2), (3, .int x3), (4, .int x4)]) hx hb dX10_wearable_65 hl (k := 6) rfl (by rw [ex5_10]; rfl) (by decide) rfl (fun ls hl => ?_)
              refine lv_goto (tgt := 6) hx hb dX10_wearable_68 (by decide) ?_
              exact ih x4 x5_10 H locs ls hP hS (lv_sub hl [2, 3, 4, 5, 6, 0] rfl) hf
            · replace hf := ite_t c_9 hf
              refine lv_aload hx hb dX10_wearable_54 (lv_at hl 0 rfl) ?_
              refine mq_geti (Tt := TX5) (N := 5) (C := RX5) hx hb hts hiX5 hown hK hP (shTC_X10_4i_0 hp (mm_in_lt h_2)) rfl 2 (by decide) rfl hw7 (fun _ h9 => h9) dX10_wearable_56 ?_
              refine lv_if_le (tgt := 65) hx hb dX10_wearable_59 (by decide) (fun c_11 => ?_) (fun c_11 => ?_)
              · replace hf := ite_t c_11 hf
                obtain ⟨x5_12, ex5_12, hf⟩ := mv_some hf
                refine lv_iinc (v := x5_12) (lv' := [(5, .int x5_12), (6, .ref (ad (p0 + 4 + x5.toNatClampNeg))), (0, .ref (ad p0)), (1, .int x1), (2, .int x2), (3, .int x3), (4, .int x4)]) hx hb dX10_wearable_65 hl (k := 6) rfl (by rw [ex5_12]; rfl) (by decide) rfl (fun ls hl => ?_)
                refine lv_goto (tgt := 6) hx hb dX10_wearable_68 (by decide) ?_
                exact ih x4 x5_12 H locs ls hP hS (lv_sub hl [2, 3, 4, 5, 6, 0] rfl) hf
              · replace hf := ite_f c_11 hf
                obtain ⟨x4_13, ex4_13, hf⟩ := mv_some hf
                refine lv_iinc (v := x4_13) (lv' := [(4, .int x4_13), (6, .ref (ad (p0 + 4 + x5.toNatClampNeg))), (0, .ref (ad p0)), (1, .int x1), (2, .int x2), (3, .int x3), (5, .int x5)]) hx hb dX10_wearable_62 hl (k := 5) rfl (by rw [ex4_13]; rfl) (by decide) rfl (fun ls hl => ?_)
                obtain ⟨x5_14, ex5_14, hf⟩ := mv_some hf
                refine lv_iinc (v := x5_14) (lv' := [(5, .int x5_14), (4, .int x4_13), (6, .ref (ad (p0 + 4 + x5.toNatClampNeg))), (0, .ref (ad p0)), (1, .int x1), (2, .int x2), (3, .int x3)]) hx hb dX10_wearable_65 hl (k := 6) rfl (by rw [ex5_14]; rfl) (by decide) rfl (fun ls hl => ?_)
                refine lv_goto (tgt := 6) hx hb dX10_wearable_68 (by decide) ?_
                exact ih x4_13 x5_14 H locs ls hP hS (lv_sub hl [3, 4, 5, 6, 1, 0] rfl) hf
  unfold f_X10_wearable at hf
  have hH9 : ∀ (H : Heap) (locs : List Loc), H = s.heap → locs = [] → va_P D vwCl (mm_L TC ad cy g) H → va_S (mm_A TC ad) s.heap H locs → W p l e (headSpec wsX10_wearable (rm_X10_wearable)).room s m args below meth c H locs 0 0 (MQ below (mm_Qi D TC ad cy r0 g) args s 0 0 (mm_A TC ad)) (F0 m 0 ls []) := by
    intro H locs hH9 hL9 hP hS
    clear hH9 hL9
    refine lv_iconst (v := 0) hx hb dX10_wearable_0 (by decide) ?_
    refine lv_istore (lv' := [(4, .int 0), (0, .ref (ad p0)), (1, .int x1), (2, .int x2), (3, .int x3)]) hx hb dX10_wearable_1 hl (by decide) rfl (fun ls hl => ?_)
    refine lv_iconst (v := 0) hx hb dX10_wearable_3 (by decide) ?_
    refine lv_istore (lv' := [(5, .int 0), (4, .int 0), (0, .ref (ad p0)), (1, .int x1), (2, .int x2), (3, .int x3)]) hx hb dX10_wearable_4 hl (by decide) rfl (fun ls hl => ?_)
    exact hc6 FU 0 0 H locs ls hP hS (lv_sub hl [2, 3, 4, 5, 1, 0] rfl) hf
  exact hH9 s.heap [] rfl rfl hP hS
abbrev rm_X10_pairsOf : Room := ({ frames := 2, cells := 0, slots := 0, locals := 60 } : Room)
set_option maxHeartbeats 4000000 in
set_option maxRecDepth 100000 in
theorem c_X10_pairsOf (l : Launch) (D : va_G) (ad : Nat → Nat) (cy : Nat → ClassId) (p0 : Nat) (x1 : Int32) (g : Mm) (hp : TC[p0]? = some sX10) (r0 : Int32) (hf : f_X10_pairsOf p0 x1 g = some r0) : Met l yX10_pairsOf wsX10_pairsOf rm_X10_pairsOf (va_Pc [.ref (ad p0), .int x1] (mm_pre mm_Z D TC ad cy g)) (mm_Qi D TC ad cy r0 g) 0 0 (mm_A TC ad) := by
  refine Met.ofW (cc := cX10_pairsOf) (maxL := 4) (ret := (some .int)) (by decide) rfl ?_
  intro p e s m args below meth c s₁ B hml hv
  obtain ⟨hargs, hP, hK, hI, hZ⟩ := hv
  have hx := B.exec
  have hb := B.bytes
  have hr := B.returns
  have hts := atoms_spec (ws := wsX10_pairsOf) B.pre
  have hown : s.vm.findClass RX10 = some m.cls := findClass_of_methodNamed B.named
  have hlocks := B.notSynchronized
  have hw0 := hts (.methodLink RX10 116 Lib.Math.min.name) (by decide +kernel)
  have hw1 := hts (.static Lib.Math.min.name) (by decide +kernel)
  have hw2 := hts (.initialized "java/lang/Math") (by decide +kernel)
  have hw3 := hts (.code Lib.Math.min.name Lib.Math.min.code 2 (some .int)) (by decide +kernel)
  rw [show entryFrame m args 4 = F0 m 0 ((lg_sl ([.ref (ad p0), .int x1] : List Value) ++ List.replicate (4 - (lg_sl ([.ref (ad p0), .int x1] : List Value)).length) Slot.unset).toArray) [] from by rw [hargs]; exact lg_entry_eq m _ _]
  have hl := lv_entry ([.ref (ad p0), .int x1] : List Value) (n := 4) (by exact Nat.le_of_ble_eq_true rfl)
  generalize (lg_sl ([.ref (ad p0), .int x1] : List Value) ++ List.replicate (4 - (lg_sl ([.ref (ad p0), .int x1] : List Value)).length) Slot.unset).toArray = ls at hl ⊢
  have hl : lv_has ls 4 [(0, .ref (ad p0)), (1, .int x1)] := by exact hl
  have hS : va_S (mm_A TC ad) s.heap s.heap [] := va_S.rf
  clear hargs
  have hc4 : ∀ (n : Nat), ∀ (x2 : Int32) (x3 : Int32) (H : Heap) (locs : List Loc) (ls : Array Slot), va_P D vwCl (mm_L TC ad cy g) H → va_S (mm_A TC ad) s.heap H locs → lv_has ls 4 [(0, .ref (ad p0)), (1, .int x1), (2, .int x2), (3, .int x3)] → f_X10_pairsOf_c4 p0 x1 n x2 x3 g = some r0 → W p l e (headSpec wsX10_pairsOf (rm_X10_pairsOf)).room s m args below meth c H locs 0 0 (MQ below (mm_Qi D TC ad cy r0 g) args s 0 0 (mm_A TC ad)) (F0 m 4 ls []) := by
    intro n
    induction n with
    | zero =>
      intro x2 x3 H locs ls hP hS hl hf
      rw [f_X10_pairsOf_c4] at hf
      cases hf
    | succ n ih =>
      intro x2 x3 H locs ls hP hS hl hf
      rw [f_X10_pairsOf_c4] at hf
      refine lv_iload_n hx hb dX10_pairsOf_4 rfl (lv_at hl 3 rfl) ?_
      refine lv_iconst (v := 4) hx hb dX10_pairsOf_5 (by decide) ?_
      refine lv_icmp_ge (tgt := 35) hx hb dX10_pairsOf_6 (by decide) (fun c_1 => ?_) (fun c_1 => ?_)
      · replace hf := ite_t c_1 hf
        refine lv_iload_n hx hb dX10_pairsOf_35 rfl (lv_at hl 2 rfl) ?_
        exact mq_iret hx hb hr rfl hlocks hP hS (Option.some.inj hf) rfl dX10_pairsOf_36
      · replace hf := ite_f c_1 hf
        refine lv_iload_n hx hb dX10_pairsOf_9 rfl (lv_at hl 2 rfl) ?_
        refine lv_aload_n hx hb dX10_pairsOf_10 rfl (lv_at hl 0 rfl) ?_
        refine lv_iload_n hx hb dX10_pairsOf_11 rfl (lv_at hl 1 rfl) ?_
        refine lv_iconst (v := 0) hx hb dX10_pairsOf_12 (by decide) ?_
        refine lv_iload_n hx hb dX10_pairsOf_13 rfl (lv_at hl 3 rfl) ?_
        obtain ⟨r_2, hr_3, hf⟩ := op_some hf
        refine mq_calli (va_runV (As := [.int x1, .int 0, .int x3]) (rest := [.int x2]) ⟨hx, hb, hml, hown, hts⟩ (c_X10_wearable l D ad cy p0 x1 0 x3 g hp r_2 hr_3) (cwV 3 hts gX10_pairsOf_X10_wearable rfl rfl rfl (by decide +kernel) ⟨Nat.le_of_ble_eq_true rfl, Nat.le_of_ble_eq_true rfl⟩) (mq_preV (q := (RX10, TX10, 9)) mm_zOkC hK hP hI hZ hS hp rfl) rfl rfl hl.1 rfl (lv_room (Nat.le_of_ble_eq_true rfl)) dX10_pairsOf_14 ⟨Nat.le_refl _, Nat.le_refl _⟩) hS (fun H locs hP hS => ?_)
        refine lv_aload_n hx hb dX10_pairsOf_17 rfl (lv_at hl 0 rfl) ?_
        refine lv_iload_n hx hb dX10_pairsOf_18 rfl (lv_at hl 1 rfl) ?_
        refine lv_iconst (v := 1) hx hb dX10_pairsOf_19 (by decide) ?_
        refine lv_iload_n hx hb dX10_pairsOf_20 rfl (lv_at hl 3 rfl) ?_
        obtain ⟨r_4, hr_5, hf⟩ := op_some hf
        refine mq_calli (va_runV (As := [.int x1, .int 1, .int x3]) (rest := [.int r_2, .int x2]) ⟨hx, hb, hml, hown, hts⟩ (c_X10_wearable l D ad cy p0 x1 1 x3 g hp r_4 hr_5) (cwV 3 hts gX10_pairsOf_X10_wearable rfl rfl rfl (by decide +kernel) ⟨Nat.le_of_ble_eq_true rfl, Nat.le_of_ble_eq_true rfl⟩) (mq_preV (q := (RX10, TX10, 9)) mm_zOkC hK hP hI hZ hS hp rfl) rfl rfl hl.1 rfl (lv_room (Nat.le_of_ble_eq_true rfl)) dX10_pairsOf_21 ⟨Nat.le_refl _, Nat.le_refl _⟩) hS (fun H locs hP hS => ?_)
        refine va_mmin hx hb (hml.trans hl.1.symm) hown hw0 hw1 hw2 hw3 (Nat.le_of_ble_eq_true rfl) (Nat.le_of_ble_eq_true rfl) (Nat.le_refl _) (Nat.le_refl _) dX10_pairsOf_24 ?_
        refine lv_iadd hx hb dX10_pairsOf_27 ?_
        obtain ⟨x2_6, ex2_6, hf⟩ := mv_some hf
        refine mq_nm ex2_6 ?_
        refine lv_istore_n (lv' := [(2, .int x2_6), (0, .ref (ad p0)), (1, .int x1), (3, .int x3)]) hx hb dX10_pairsOf_28 rfl hl (by decide) rfl (fun ls hl => ?_)
        obtain ⟨x3_7, ex3_7, hf⟩ := mv_some hf
        refine lv_iinc (v := x3_7) (lv' := [(3, .int x3_7), (2, .int x2_6), (0, .ref (ad p0)), (1, .int x1)]) hx hb dX10_pairsOf_29 hl (k := 3) rfl (by rw [ex3_7]; rfl) (by decide) rfl (fun ls hl => ?_)
        refine lv_goto (tgt := 4) hx hb dX10_pairsOf_32 (by decide) ?_
        exact ih x2_6 x3_7 H locs ls hP hS (lv_sub hl [2, 3, 1, 0] rfl) hf
  unfold f_X10_pairsOf at hf
  have hH9 : ∀ (H : Heap) (locs : List Loc), H = s.heap → locs = [] → va_P D vwCl (mm_L TC ad cy g) H → va_S (mm_A TC ad) s.heap H locs → W p l e (headSpec wsX10_pairsOf (rm_X10_pairsOf)).room s m args below meth c H locs 0 0 (MQ below (mm_Qi D TC ad cy r0 g) args s 0 0 (mm_A TC ad)) (F0 m 0 ls []) := by
    intro H locs hH9 hL9 hP hS
    clear hH9 hL9
    refine lv_iconst (v := 0) hx hb dX10_pairsOf_0 (by decide) ?_
    refine lv_istore_n (lv' := [(2, .int 0), (0, .ref (ad p0)), (1, .int x1)]) hx hb dX10_pairsOf_1 rfl hl (by decide) rfl (fun ls hl => ?_)
    refine lv_iconst (v := 0) hx hb dX10_pairsOf_2 (by decide) ?_
    refine lv_istore_n (lv' := [(3, .int 0), (2, .int 0), (0, .ref (ad p0)), (1, .int x1)]) hx hb dX10_pairsOf_3 rfl hl (by decide) rfl (fun ls hl => ?_)
    exact hc4 FU 0 0 H locs ls hP hS (lv_sub hl [2, 3, 1, 0] rfl) hf
  exact hH9 s.heap [] rfl rfl hP hS
abbrev rm_X10_twoFooted : Room := ({ frames := 1, cells := 0, slots := 0, locals := 21 } : Room)
set_option maxHeartbeats 4000000 in
set_option maxRecDepth 100000 in
theorem c_X10_twoFooted (l : Launch) (D : va_G) (ad : Nat → Nat) (cy : Nat → ClassId) (p0 : Nat) (x1 : Int32) (g : Mm) (hp : TC[p0]? = some sX10) (r0 : Int32) (hf : f_X10_twoFooted p0 x1 g = some r0) : Met l yX10_twoFooted wsX10_twoFooted rm_X10_twoFooted (va_Pc [.ref (ad p0), .int x1] (mm_pre mm_Z D TC ad cy g)) (mm_Qi D TC ad cy r0 g) 0 0 (mm_A TC ad) := by
  refine Met.ofW (cc := cX10_twoFooted) (maxL := 4) (ret := (some .int)) (by decide) rfl ?_
  intro p e s m args below meth c s₁ B hml hv
  obtain ⟨hargs, hP, hK, hI, hZ⟩ := hv
  have hx := B.exec
  have hb := B.bytes
  have hr := B.returns
  have hts := atoms_spec (ws := wsX10_twoFooted) B.pre
  have hown : s.vm.findClass RX10 = some m.cls := findClass_of_methodNamed B.named
  have hlocks := B.notSynchronized
  have hw0 := hts (.fieldLink RX10 53 "LeftShoes$World" "peopleCount" "I") (by decide +kernel)
  have hiX10 : ∀ w ∈ wsX100, w ∈ wsX10_twoFooted := by decide +kernel
  have hw2 := hts (.fieldLink RX10 15 "LeftShoes$World" "feet" "[I") (by decide +kernel)
  rw [show entryFrame m args 4 = F0 m 0 ((lg_sl ([.ref (ad p0), .int x1] : List Value) ++ List.replicate (4 - (lg_sl ([.ref (ad p0), .int x1] : List Value)).length) Slot.unset).toArray) [] from by rw [hargs]; exact lg_entry_eq m _ _]
  have hl := lv_entry ([.ref (ad p0), .int x1] : List Value) (n := 4) (by exact Nat.le_of_ble_eq_true rfl)
  generalize (lg_sl ([.ref (ad p0), .int x1] : List Value) ++ List.replicate (4 - (lg_sl ([.ref (ad p0), .int x1] : List Value)).length) Slot.unset).toArray = ls at hl ⊢
  have hl : lv_has ls 4 [(0, .ref (ad p0)), (1, .int x1)] := by exact hl
  have hS : va_S (mm_A TC ad) s.heap s.heap [] := va_S.rf
  clear hargs
  have hc4 : ∀ (n : Nat), ∀ (x2 : Int32) (x3 : Int32) (H : Heap) (locs : List Loc) (ls : Array Slot), va_P D vwCl (mm_L TC ad cy g) H → va_S (mm_A TC ad) s.heap H locs → lv_has ls 4 [(0, .ref (ad p0)), (1, .int x1), (2, .int x2), (3, .int x3)] → f_X10_twoFooted_c4 p0 x1 n x2 x3 g = some r0 → W p l e (headSpec wsX10_twoFooted (rm_X10_twoFooted)).room s m args below meth c H locs 0 0 (MQ below (mm_Qi D TC ad cy r0 g) args s 0 0 (mm_A TC ad)) (F0 m 4 ls []) := by
    intro n
    induction n with
    | zero =>
      intro x2 x3 H locs ls hP hS hl hf
      rw [f_X10_twoFooted_c4] at hf
      cases hf
    | succ n ih =>
      intro x2 x3 H locs ls hP hS hl hf
      rw [f_X10_twoFooted_c4] at hf
      refine lv_iload_n hx hb dX10_twoFooted_4 rfl (lv_at hl 3 rfl) ?_
      refine lv_aload_n hx hb dX10_twoFooted_5 rfl (lv_at hl 0 rfl) ?_
      refine mq_geti (Tt := TX10) (N := 9) (C := RX10) hx hb hts hiX10 hown hK hP hp rfl 0 (by decide) rfl hw0 (fun _ h9 => h9) dX10_twoFooted_6 ?_
      refine lv_icmp_ge (tgt := 38) hx hb dX10_twoFooted_9 (by decide) (fun c_1 => ?_) (fun c_1 => ?_)
      · replace hf := ite_t c_1 hf
        refine lv_iload_n hx hb dX10_twoFooted_38 rfl (lv_at hl 2 rfl) ?_
        exact mq_iret hx hb hr rfl hlocks hP hS (Option.some.inj hf) rfl dX10_twoFooted_39
      · replace hf := ite_f c_1 hf
        refine lv_iload_n hx hb dX10_twoFooted_12 rfl (lv_at hl 1 rfl) ?_
        refine lv_iload_n hx hb dX10_twoFooted_13 rfl (lv_at hl 3 rfl) ?_
        obtain ⟨r_2, hr_3, hf⟩ := op_some hf
        refine mq_calli (va_runS (As := [.int x1, .int x3]) (rest := []) ⟨hx, hb, hml, hown, hts⟩ (c_X10_isIn l D ad cy x1 x3 g r_2 hr_3) (va_cwS 2 hts gX10_twoFooted_X10_isIn rfl rfl rfl (by decide +kernel) ⟨Nat.le_of_ble_eq_true rfl, Nat.le_of_ble_eq_true rfl⟩) (mq_preS mm_zOkC hK hP hI hZ hS) rfl rfl hl.1 rfl (lv_room (Nat.le_of_ble_eq_true rfl)) dX10_twoFooted_14 ⟨Nat.le_refl _, Nat.le_refl _⟩) hS (fun H locs hP hS => ?_)
        refine lv_if_eq (tgt := 32) hx hb dX10_twoFooted_17 (by decide) (fun c_4 => ?_) (fun c_4 => ?_)
        · replace hf := ite_t c_4 hf
          obtain ⟨x3_5, ex3_5, hf⟩ := mv_some hf
          refine lv_iinc (v := x3_5) (lv' := [(3, .int x3_5), (0, .ref (ad p0)), (1, .int x1), (2, .int x2)]) hx hb dX10_twoFooted_32 hl (k := 3) rfl (by rw [ex3_5]; rfl) (by decide) rfl (fun ls hl => ?_)
          refine lv_goto (tgt := 4) hx hb dX10_twoFooted_35 (by decide) ?_
          exact ih x2 x3_5 H locs ls hP hS (lv_sub hl [1, 2, 3, 0] rfl) hf
        · replace hf := ite_f c_4 hf
          refine lv_aload_n hx hb dX10_twoFooted_20 rfl (lv_at hl 0 rfl) ?_
          refine mq_getr (Tt := TX10) (N := 9) (C := RX10) hx hb hts hiX10 hown hK hP hp rfl 2 2 (by decide) rfl hw2 (fun _ h9 => h9) dX10_twoFooted_21 ?_
          refine lv_iload_n hx hb dX10_twoFooted_24 rfl (lv_at hl 3 rfl) ?_
          obtain ⟨h_6, hf⟩ := og_some hf
          refine mq_iald hx hb hK hP (N := 5) (shTC_X10_2 hp) h_6 dX10_twoFooted_25 ?_
          refine lv_if_ne (tgt := 32) hx hb dX10_twoFooted_26 (by decide) (fun c_7 => ?_) (fun c_7 => ?_)
          · replace hf := ite_f c_7 hf
            obtain ⟨x3_8, ex3_8, hf⟩ := mv_some hf
            refine lv_iinc (v := x3_8) (lv' := [(3, .int x3_8), (0, .ref (ad p0)), (1, .int x1), (2, .int x2)]) hx hb dX10_twoFooted_32 hl (k := 3) rfl (by rw [ex3_8]; rfl) (by decide) rfl (fun ls hl => ?_)
            refine lv_goto (tgt := 4) hx hb dX10_twoFooted_35 (by decide) ?_
            exact ih x2 x3_8 H locs ls hP hS (lv_sub hl [1, 2, 3, 0] rfl) hf
          · replace hf := ite_t c_7 hf
            obtain ⟨x2_9, ex2_9, hf⟩ := mv_some hf
            refine lv_iinc (v := x2_9) (lv' := [(2, .int x2_9), (0, .ref (ad p0)), (1, .int x1), (3, .int x3)]) hx hb dX10_twoFooted_29 hl (k := 2) rfl (by rw [ex2_9]; rfl) (by decide) rfl (fun ls hl => ?_)
            obtain ⟨x3_10, ex3_10, hf⟩ := mv_some hf
            refine lv_iinc (v := x3_10) (lv' := [(3, .int x3_10), (2, .int x2_9), (0, .ref (ad p0)), (1, .int x1)]) hx hb dX10_twoFooted_32 hl (k := 3) rfl (by rw [ex3_10]; rfl) (by decide) rfl (fun ls hl => ?_)
            refine lv_goto (tgt := 4) hx hb dX10_twoFooted_35 (by decide) ?_
            exact ih x2_9 x3_10 H locs ls hP hS (lv_sub hl [2, 3, 1, 0] rfl) hf
  unfold f_X10_twoFooted at hf
  have hH9 : ∀ (H : Heap) (locs : List Loc), H = s.heap → locs = [] → va_P D vwCl (mm_L TC ad cy g) H → va_S (mm_A TC ad) s.heap H locs → W p l e (headSpec wsX10_twoFooted (rm_X10_twoFooted)).room s m args below meth c H locs 0 0 (MQ below (mm_Qi D TC ad cy r0 g) args s 0 0 (mm_A TC ad)) (F0 m 0 ls []) := by
    intro H locs hH9 hL9 hP hS
    clear hH9 hL9
    refine lv_iconst (v := 0) hx hb dX10_twoFooted_0 (by decide) ?_
    refine lv_istore_n (lv' := [(2, .int 0), (0, .ref (ad p0)), (1, .int x1)]) hx hb dX10_twoFooted_1 rfl hl (by decide) rfl (fun ls hl => ?_)
    refine lv_iconst (v := 0) hx hb dX10_twoFooted_2 (by decide) ?_
    refine lv_istore_n (lv' := [(3, .int 0), (2, .int 0), (0, .ref (ad p0)), (1, .int x1)]) hx hb dX10_twoFooted_3 rfl hl (by decide) rfl (fun ls hl => ?_)
    exact hc4 FU 0 0 H locs ls hP hS (lv_sub hl [2, 3, 1, 0] rfl) hf
  exact hH9 s.heap [] rfl rfl hP hS
abbrev rm_X10_canBe : Room := ({ frames := 2, cells := 0, slots := 0, locals := 43 } : Room)
set_option maxHeartbeats 4000000 in
set_option maxRecDepth 100000 in
theorem c_X10_canBe (l : Launch) (D : va_G) (ad : Nat → Nat) (cy : Nat → ClassId) (p0 : Nat) (q1 : Nat) (x2 : Int32) (x3 : Int32) (g : Mm) (hp : TC[p0]? = some sX10) (hq1 : TC[q1]? = some sX4) (r0 : Int32) (hf : f_X10_canBe p0 q1 x2 x3 g = some r0) : Met l yX10_canBe wsX10_canBe rm_X10_canBe (va_Pc [.ref (ad p0), .ref (ad q1), .int x2, .int x3] (mm_pre mm_Z D TC ad cy g)) (mm_Qi D TC ad cy r0 g) 0 0 (mm_A TC ad) := by
  refine Met.ofW (cc := cX10_canBe) (maxL := 7) (ret := (some .boolean)) (by decide) rfl ?_
  intro p e s m args below meth c s₁ B hml hv
  obtain ⟨hargs, hP, hK, hI, hZ⟩ := hv
  have hx := B.exec
  have hb := B.bytes
  have hr := B.returns
  have hts := atoms_spec (ws := wsX10_canBe) B.pre
  have hown : s.vm.findClass RX10 = some m.cls := findClass_of_methodNamed B.named
  have hlocks := B.notSynchronized
  have hw0 := hts (.fieldLink RX10 125 "LeftShoes$Sheet" "items" "[I") (by decide +kernel)
  have hiX4 : ∀ w ∈ wsX40, w ∈ wsX10_canBe := by decide +kernel
  have hw2 := hts (.initialized RX11) (by decide +kernel)
  have hw3 := hts (.static yX11_isWithin) (by decide +kernel)
  have hw4 := hts (.fieldLink RX10 20 "LeftShoes$World" "shoes" "[LLeftShoes$Shoe;") (by decide +kernel)
  have hiX10 : ∀ w ∈ wsX100, w ∈ wsX10_canBe := by decide +kernel
  have hw6 := hts (.fieldLink RX10 77 "LeftShoes$Shoe" "soles" "I") (by decide +kernel)
  have hiX5 : ∀ w ∈ wsX50, w ∈ wsX10_canBe := by decide +kernel
  rw [show entryFrame m args 7 = F0 m 0 ((lg_sl ([.ref (ad p0), .ref (ad q1), .int x2, .int x3] : List Value) ++ List.replicate (7 - (lg_sl ([.ref (ad p0), .ref (ad q1), .int x2, .int x3] : List Value)).length) Slot.unset).toArray) [] from by rw [hargs]; exact lg_entry_eq m _ _]
  have hl := lv_entry ([.ref (ad p0), .ref (ad q1), .int x2, .int x3] : List Value) (n := 7) (by exact Nat.le_of_ble_eq_true rfl)
  generalize (lg_sl ([.ref (ad p0), .ref (ad q1), .int x2, .int x3] : List Value) ++ List.replicate (7 - (lg_sl ([.ref (ad p0), .ref (ad q1), .int x2, .int x3] : List Value)).length) Slot.unset).toArray = ls at hl ⊢
  have hl : lv_has ls 7 [(0, .ref (ad p0)), (1, .ref (ad q1)), (2, .int x2), (3, .int x3)] := by exact hl
  have hS : va_S (mm_A TC ad) s.heap s.heap [] := va_S.rf
  clear hargs
  have hc50 : ∀ (n : Nat), ∀ (x4 : Int32) (x5 : Int32) (x6 : Int32) (H : Heap) (locs : List Loc) (ls : Array Slot), va_P D vwCl (mm_L TC ad cy g) H → va_S (mm_A TC ad) s.heap H locs → lv_has ls 7 [(0, .ref (ad p0)), (1, .ref (ad q1)), (2, .int x2), (3, .int x3), (4, .int x4), (5, .int x5), (6, .int x6)] → f_X10_canBe_c50 p0 q1 x2 x3 n x4 x5 x6 g = some r0 → W p l e (headSpec wsX10_canBe (rm_X10_canBe)).room s m args below meth c H locs 0 0 (MQ below (mm_Qi D TC ad cy r0 g) args s 0 0 (mm_A TC ad)) (F0 m 50 ls []) := by
    intro n
    induction n with
    | zero =>
      intro x4 x5 x6 H locs ls hP hS hl hf
      rw [f_X10_canBe_c50] at hf
      cases hf
    | succ n ih =>
      intro x4 x5 x6 H locs ls hP hS hl hf
      rw [f_X10_canBe_c50] at hf
      refine lv_iload hx hb dX10_canBe_50 (lv_at hl 6 rfl) ?_
      refine lv_iload_n hx hb dX10_canBe_52 rfl (lv_at hl 3 rfl) ?_
      refine lv_icmp_gt (tgt := 96) hx hb dX10_canBe_53 (by decide) (fun c_10 => ?_) (fun c_10 => ?_)
      · replace hf := ite_t c_10 hf
        refine lv_iload hx hb dX10_canBe_96 (lv_at hl 5 rfl) ?_
        refine lv_aload_n hx hb dX10_canBe_98 rfl (lv_at hl 0 rfl) ?_
        refine mq_getr (Tt := TX10) (N := 9) (C := RX10) hx hb hts hiX10 hown hK hP hp rfl 4 3 (by decide) rfl hw4 (fun _ h9 => h9) dX10_canBe_99 ?_
        refine lv_iload hx hb dX10_canBe_102 (lv_at hl 4 rfl) ?_
        obtain ⟨h_11, hf⟩ := og_some hf
        refine mq_aald hx hb hK hP (N := 16) (shTC_X10_3 hp) rfl h_11 dX10_canBe_104 ?_
        refine mq_geti (Tt := TX5) (N := 5) (C := RX5) hx hb hts hiX5 hown hK hP (shTC_X10_4i_0 hp (mm_in_lt h_11)) rfl 2 (by decide) rfl hw6 (fun _ h9 => h9) dX10_canBe_105 ?_
        refine lv_icmp_gt (tgt := 115) hx hb dX10_canBe_108 (by decide) (fun c_12 => ?_) (fun c_12 => ?_)
        · replace hf := ite_t c_12 hf
          refine lv_iconst (v := 0) hx hb dX10_canBe_115 (by decide) ?_
          exact mq_iret hx hb hr (by decide +kernel) hlocks hP hS (Option.some.inj hf) rfl dX10_canBe_116
        · replace hf := ite_f c_12 hf
          refine lv_iconst (v := 1) hx hb dX10_canBe_111 (by decide) ?_
          refine lv_goto (tgt := 116) hx hb dX10_canBe_112 (by decide) ?_
          exact mq_iret hx hb hr (by decide +kernel) hlocks hP hS (Option.some.inj hf) rfl dX10_canBe_116
      · replace hf := ite_f c_10 hf
        refine lv_aload_n hx hb dX10_canBe_56 rfl (lv_at hl 1 rfl) ?_
        refine mq_getr (Tt := TX4) (N := 3) (C := RX4) hx hb hts hiX4 hown hK hP hq1 rfl 0 4 (by decide) rfl hw0 (fun _ h9 => h9) dX10_canBe_57 ?_
        refine lv_iload_n hx hb dX10_canBe_60 rfl (lv_at hl 2 rfl) ?_
        refine lv_iconst (v := 2) hx hb dX10_canBe_61 (by decide) ?_
        refine lv_iload hx hb dX10_canBe_62 (lv_at hl 6 rfl) ?_
        refine lv_imul hx hb dX10_canBe_64 ?_
        refine lv_iadd hx hb dX10_canBe_65 ?_
        obtain ⟨h_13, hf⟩ := og_some hf
        refine mq_iald hx hb hK hP (N := 24) (shTC_X4_4 hq1) h_13 dX10_canBe_66 ?_
        refine lv_iload hx hb dX10_canBe_67 (lv_at hl 4 rfl) ?_
        refine lv_icmp_ne (tgt := 90) hx hb dX10_canBe_69 (by decide) (fun c_14 => ?_) (fun c_14 => ?_)
        · replace hf := ite_f c_14 hf
          obtain ⟨x6_15, ex6_15, hf⟩ := mv_some hf
          refine lv_iinc (v := x6_15) (lv' := [(6, .int x6_15), (0, .ref (ad p0)), (1, .ref (ad q1)), (2, .int x2), (3, .int x3), (4, .int x4), (5, .int x5)]) hx hb dX10_canBe_90 hl (k := 6) rfl (by rw [ex6_15]; rfl) (by decide) rfl (fun ls hl => ?_)
          refine lv_goto (tgt := 50) hx hb dX10_canBe_93 (by decide) ?_
          exact ih x4 x5 x6_15 H locs ls hP hS (lv_sub hl [1, 2, 3, 4, 5, 6, 0] rfl) hf
        · replace hf := ite_t c_14 hf
          refine lv_iload hx hb dX10_canBe_72 (lv_at hl 5 rfl) ?_
          refine lv_aload_n hx hb dX10_canBe_74 rfl (lv_at hl 1 rfl) ?_
          refine mq_getr (Tt := TX4) (N := 3) (C := RX4) hx hb hts hiX4 hown hK hP hq1 rfl 0 4 (by decide) rfl hw0 (fun _ h9 => h9) dX10_canBe_75 ?_
          refine lv_iload_n hx hb dX10_canBe_78 rfl (lv_at hl 2 rfl) ?_
          refine lv_iconst (v := 2) hx hb dX10_canBe_79 (by decide) ?_
          refine lv_iload hx hb dX10_canBe_80 (lv_at hl 6 rfl) ?_
          refine lv_imul hx hb dX10_canBe_82 ?_
          refine lv_iadd hx hb dX10_canBe_83 ?_
          refine lv_iconst (v := 1) hx hb dX10_canBe_84 (by decide) ?_
          refine lv_iadd hx hb dX10_canBe_85 ?_
          obtain ⟨h_16, hf⟩ := og_some hf
          refine mq_iald hx hb hK hP (N := 24) (shTC_X4_4 hq1) h_16 dX10_canBe_86 ?_
          refine lv_iadd hx hb dX10_canBe_87 ?_
          obtain ⟨x5_17, ex5_17, hf⟩ := mv_some hf
          refine mq_nm ex5_17 ?_
          refine lv_istore (lv' := [(5, .int x5_17), (0, .ref (ad p0)), (1, .ref (ad q1)), (2, .int x2), (3, .int x3), (4, .int x4), (6, .int x6)]) hx hb dX10_canBe_88 hl (by decide) rfl (fun ls hl => ?_)
          obtain ⟨x6_18, ex6_18, hf⟩ := mv_some hf
          refine lv_iinc (v := x6_18) (lv' := [(6, .int x6_18), (5, .int x5_17), (0, .ref (ad p0)), (1, .ref (ad q1)), (2, .int x2), (3, .int x3), (4, .int x4)]) hx hb dX10_canBe_90 hl (k := 6) rfl (by rw [ex6_18]; rfl) (by decide) rfl (fun ls hl => ?_)
          refine lv_goto (tgt := 50) hx hb dX10_canBe_93 (by decide) ?_
          exact ih x4 x5_17 x6_18 H locs ls hP hS (lv_sub hl [2, 3, 4, 5, 6, 1, 0] rfl) hf
  unfold f_X10_canBe at hf
  have hH9 : ∀ (H : Heap) (locs : List Loc), H = s.heap → locs = [] → va_P D vwCl (mm_L TC ad cy g) H → va_S (mm_A TC ad) s.heap H locs → W p l e (headSpec wsX10_canBe (rm_X10_canBe)).room s m args below meth c H locs 0 0 (MQ below (mm_Qi D TC ad cy r0 g) args s 0 0 (mm_A TC ad)) (F0 m 0 ls []) := by
    intro H locs hH9 hL9 hP hS
    clear hH9 hL9
    refine lv_aload_n hx hb dX10_canBe_0 rfl (lv_at hl 1 rfl) ?_
    refine mq_getr (Tt := TX4) (N := 3) (C := RX4) hx hb hts hiX4 hown hK hP hq1 rfl 0 4 (by decide) rfl hw0 (fun _ h9 => h9) dX10_canBe_1 ?_
    refine lv_iload_n hx hb dX10_canBe_4 rfl (lv_at hl 2 rfl) ?_
    refine lv_iconst (v := 2) hx hb dX10_canBe_5 (by decide) ?_
    refine lv_iload_n hx hb dX10_canBe_6 rfl (lv_at hl 3 rfl) ?_
    refine lv_imul hx hb dX10_canBe_7 ?_
    refine lv_iadd hx hb dX10_canBe_8 ?_
    obtain ⟨h_1, hf⟩ := og_some hf
    refine mq_iald hx hb hK hP (N := 24) (shTC_X4_4 hq1) h_1 dX10_canBe_9 ?_
    obtain ⟨x4_2, ex4_2, hf⟩ := mv_some hf
    refine mq_nm ex4_2 ?_
    refine lv_istore (lv' := [(4, .int x4_2), (0, .ref (ad p0)), (1, .ref (ad q1)), (2, .int x2), (3, .int x3)]) hx hb dX10_canBe_10 hl (by decide) rfl (fun ls hl => ?_)
    refine lv_aload_n hx hb dX10_canBe_12 rfl (lv_at hl 1 rfl) ?_
    refine lv_iload hx hb dX10_canBe_13 (lv_at hl 0 rfl) ?_
    obtain ⟨r_3, hr_4, hf⟩ := op_some hf
    refine mq_calli (va_runV (As := [.int x4_2]) (rest := []) ⟨hx, hb, hml, hown, hts⟩ (c_X10_isShoe l D ad cy p0 x4_2 g hp r_3 hr_4) (cwV 1 hts gX10_canBe_X10_isShoe rfl rfl rfl (by decide +kernel) ⟨Nat.le_of_ble_eq_true rfl, Nat.le_of_ble_eq_true rfl⟩) (mq_preV (q := (RX10, TX10, 9)) mm_zOkC hK hP hI hZ hS hp rfl) rfl rfl hl.1 rfl (lv_room (Nat.le_of_ble_eq_true rfl)) dX10_canBe_15 ⟨Nat.le_refl _, Nat.le_refl _⟩) hS (fun H locs hP hS => ?_)
    refine lv_if_eq (tgt := 42) hx hb dX10_canBe_18 (by decide) (fun c_5 => ?_) (fun c_5 => ?_)
    · replace hf := ite_t c_5 hf
      refine lv_iconst (v := 0) hx hb dX10_canBe_42 (by decide) ?_
      exact mq_iret hx hb hr (by decide +kernel) hlocks hP hS (Option.some.inj hf) rfl dX10_canBe_43
    · replace hf := ite_f c_5 hf
      refine lv_aload_n hx hb dX10_canBe_21 rfl (lv_at hl 2 rfl) ?_
      refine mq_getr (Tt := TX4) (N := 3) (C := RX4) hx hb hts hiX4 hown hK hP hq1 rfl 0 4 (by decide) rfl hw0 (fun _ h9 => h9) dX10_canBe_22 ?_
      refine lv_iload_n hx hb dX10_canBe_25 rfl (lv_at hl 3 rfl) ?_
      refine lv_iconst (v := 2) hx hb dX10_canBe_26 (by decide) ?_
      refine lv_iload_n hx hb dX10_canBe_27 rfl (lv_at hl 4 rfl) ?_
      refine lv_imul hx hb dX10_canBe_28 ?_
      refine lv_iadd hx hb dX10_canBe_29 ?_
      refine lv_iconst (v := 1) hx hb dX10_canBe_30 (by decide) ?_
      refine lv_iadd hx hb dX10_canBe_31 ?_
      obtain ⟨h_6, hf⟩ := og_some hf
      refine mq_iald hx hb hK hP (N := 24) (shTC_X4_4 hq1) h_6 dX10_canBe_32 ?_
      refine lv_iconst (v := 1) hx hb dX10_canBe_33 (by decide) ?_
      refine lv_bipush (v := 99) hx hb dX10_canBe_34 (by decide) ?_
      obtain ⟨r_7, hr_8, hf⟩ := op_some hf
      refine mq_calli (va_runSN (As := [.int (g (q1 + 4) ((x2 + (2 * x3)) + 1).toNatClampNeg), .int 1, .int 99]) (rest := []) ⟨hx, hb, hml, hown, hts⟩ (c_X11_isWithin l D ad cy (g (q1 + 4) ((x2 + (2 * x3)) + 1).toNatClampNeg) 1 99 g r_7 hr_8) ⟨va_cnB 3 hts gX10_canBe_X11_isWithin_n57 rfl rfl rfl hZ.2.2.2.2 hw2 (by decide +kernel) ⟨Nat.le_of_ble_eq_true rfl, Nat.le_of_ble_eq_true rfl⟩, hw3, trivial⟩ (mq_preS mm_zOkC hK hP hI hZ hS) rfl rfl hl.1 rfl (lv_room (Nat.le_of_ble_eq_true rfl)) dX10_canBe_36 ⟨Nat.le_refl _, Nat.le_refl _⟩) hS (fun H locs hP hS => ?_)
      refine lv_if_ne (tgt := 44) hx hb dX10_canBe_39 (by decide) (fun c_9 => ?_) (fun c_9 => ?_)
      · replace hf := ite_f c_9 hf
        refine lv_iconst (v := 0) hx hb dX10_canBe_44 (by decide) ?_
        refine lv_istore (lv' := [(5, .int 0), (4, .int x4_2), (0, .ref (ad p0)), (1, .ref (ad q1)), (2, .int x2), (3, .int x3)]) hx hb dX10_canBe_45 hl (by decide) rfl (fun ls hl => ?_)
        refine lv_iconst (v := 0) hx hb dX10_canBe_47 (by decide) ?_
        refine lv_istore (lv' := [(6, .int 0), (5, .int 0), (4, .int x4_2), (0, .ref (ad p0)), (1, .ref (ad q1)), (2, .int x2), (3, .int x3)]) hx hb dX10_canBe_48 hl (by decide) rfl (fun ls hl => ?_)
        exact hc50 FU x4_2 0 0 H locs ls hP hS (lv_sub hl [3, 4, 5, 6, 2, 1, 0] rfl) hf
      · replace hf := ite_t c_9 hf
        refine lv_iconst (v := 0) hx hb dX10_canBe_42 (by decide) ?_
        exact mq_iret hx hb hr (by decide +kernel) hlocks hP hS (Option.some.inj hf) rfl dX10_canBe_43
  exact hH9 s.heap [] rfl rfl hP hS
