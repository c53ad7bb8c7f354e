abbrev rm_X11_fair : Room := ({ frames := 0, cells := 0, slots := 0, locals := 0 } : Room)
set_option maxHeartbeats 4000000 in
set_option maxRecDepth 100000 in
theorem c_X11_fair (l : Launch) (D : va_G) (ad : Nat → Nat) (cy : Nat → ClassId)  (g : Mm) (hp : TC[0]? = some sX11) (r0 : Int32) (g' : Mm) (hf : f_X11_fair g = some (r0, g')) : Met l yX11_fair wsX11_fair rm_X11_fair (va_Pc [.ref (ad 0)] (mm_pre mm_Z D TC ad cy g)) (mm_Qi D TC ad cy r0 g') 0 0 (mm_A TC ad) := by
  refine Met.ofW (cc := cX11_fair) (maxL := 2) (ret := (some .int)) (by decide) rfl ?_
  intro p e s m args below meth c s₁ B hml hv
  obtain ⟨hargs, hP, hK, hI, hZ⟩ := hv
  have hx := B.exec
  have hb := B.bytes
  have hr := B.returns
  have hts := atoms_spec (ws := wsX11_fair) B.pre
  have hown : s.vm.findClass RX11 = some m.cls := findClass_of_methodNamed B.named
  have hlocks := B.notSynchronized
  have hw0 := hts (.fieldLink RX11 10 "LeftShoes" "now" "LLeftShoes$World;") (by decide +kernel)
  have hiX11 : ∀ w ∈ wsX110, w ∈ wsX11_fair := by decide +kernel
  have hw2 := hts (.fieldLink RX11 183 "LeftShoes$World" "buyers" "LLeftShoes$Buyers;") (by decide +kernel)
  have hiX10 : ∀ w ∈ wsX100, w ∈ wsX11_fair := by decide +kernel
  have hw4 := hts (.fieldLink RX11 187 "LeftShoes$Buyers" "size" "I") (by decide +kernel)
  have hiX1 : ∀ w ∈ wsX10, w ∈ wsX11_fair := by decide +kernel
  rw [show entryFrame m args 2 = F0 m 0 ((lg_sl ([.ref (ad 0)] : List Value) ++ List.replicate (2 - (lg_sl ([.ref (ad 0)] : List Value)).length) Slot.unset).toArray) [] from by rw [hargs]; exact lg_entry_eq m _ _]
  have hl := lv_entry ([.ref (ad 0)] : List Value) (n := 2) (by exact Nat.le_of_ble_eq_true rfl)
  generalize (lg_sl ([.ref (ad 0)] : List Value) ++ List.replicate (2 - (lg_sl ([.ref (ad 0)] : List Value)).length) Slot.unset).toArray = ls at hl ⊢
  have hl : lv_has ls 2 [(0, .ref (ad 0))] := by exact hl
  have hS : va_S (mm_A TC ad) s.heap s.heap [] := va_S.rf
  clear hargs
  unfold f_X11_fair at hf
  have hH9 : ∀ (H : Heap) (locs : List Loc), H = s.heap → locs = [] → va_P D vwCl (mm_L TC ad cy g) H → va_S (mm_A TC ad) s.heap H locs → W p l e (headSpec wsX11_fair (rm_X11_fair)).room s m args below meth c H locs 0 0 (MQ below (mm_Qi D TC ad cy r0 g') args s 0 0 (mm_A TC ad)) (F0 m 0 ls []) := by
    intro H locs hH9 hL9 hP hS
    clear hH9 hL9
    refine lv_aload_n hx hb dX11_fair_0 rfl (lv_at hl 0 rfl) ?_
    refine mq_getr (Tt := TX11) (N := 9) (C := RX11) hx hb hts hiX11 hown hK hP hp rfl 0 1 (by decide) rfl hw0 (fun _ h9 => h9) dX11_fair_1 ?_
    refine mq_getr (Tt := TX10) (N := 9) (C := RX10) hx hb hts hiX10 hown hK hP (shTC_X11_1 hp) rfl 8 37 (by decide) rfl hw2 (fun _ h9 => h9) dX11_fair_4 ?_
    refine mq_geti (Tt := TX1) (N := 6) (C := RX1) hx hb hts hiX1 hown hK hP (shTC_X11_38 hp) rfl 2 (by decide) rfl hw4 (fun _ h9 => h9) dX11_fair_7 ?_
    obtain ⟨x1_1, ex1_1, hf⟩ := mv_some hf
    refine mq_nm ex1_1 ?_
    refine lv_istore_n (lv' := [(1, .int x1_1), (0, .ref (ad 0))]) hx hb dX11_fair_10 rfl hl (by decide) rfl (fun ls hl => ?_)
    refine lv_aload_n hx hb dX11_fair_11 rfl (lv_at hl 1 rfl) ?_
    refine mq_getr (Tt := TX11) (N := 9) (C := RX11) hx hb hts hiX11 hown hK hP hp rfl 0 1 (by decide) rfl hw0 (fun _ h9 => h9) dX11_fair_12 ?_
    refine mq_getr (Tt := TX10) (N := 9) (C := RX10) hx hb hts hiX10 hown hK hP (shTC_X11_1 hp) rfl 8 37 (by decide) rfl hw2 (fun _ h9 => h9) dX11_fair_15 ?_
    refine lv_iconst (v := 0) hx hb dX11_fair_18 (by decide) ?_
    obtain ⟨g_2, eg_2, hf⟩ := mw_some hf
    refine mq_puti (Tt := TX1) (N := 6) (C := RX1) (ty := .int) hx hb hts hiX1 tyX1 tyX1_ok nmX1 hown hK hI hP hS (shTC_X11_38 hp) rfl 2 (by decide) rfl hw4 (fun _ h9 => h9) rfl (by decide +kernel) rfl rfl dX11_fair_19 eg_2 (fun H locs hP hS => ?_)
    refine lv_iload_n hx hb dX11_fair_22 rfl (lv_at hl 0 rfl) ?_
    exact mq_iret hx hb hr rfl hlocks hP hS (pr_1 hf) (pr_2 hf) dX11_fair_23
  exact hH9 s.heap [] rfl rfl hP hS
abbrev rm_X11_brothers : Room := ({ frames := 3, cells := 0, slots := 0, locals := 83 } : Room)
set_option maxHeartbeats 4000000 in
set_option maxRecDepth 100000 in
theorem c_X11_brothers (l : Launch) (D : va_G) (ad : Nat → Nat) (cy : Nat → ClassId) (x1 : Int32) (x2 : Int32) (g : Mm) (hp : TC[0]? = some sX11) (r0 : Int32) (hf : f_X11_brothers x1 x2 g = some r0) : Met l yX11_brothers wsX11_brothers rm_X11_brothers (va_Pc [.ref (ad 0), .int x1, .int x2] (mm_pre mm_Z D TC ad cy g)) (mm_Qi D TC ad cy r0 g) 0 0 (mm_A TC ad) := by
  refine Met.ofW (cc := cX11_brothers) (maxL := 4) (ret := (some .int)) (by decide) rfl ?_
  intro p e s m args below meth c s₁ B hml hv
  obtain ⟨hargs, hP, hK, hI, hZ⟩ := hv
  have hx := B.exec
  have hb := B.bytes
  have hr := B.returns
  have hts := atoms_spec (ws := wsX11_brothers) B.pre
  have hown : s.vm.findClass RX11 = some m.cls := findClass_of_methodNamed B.named
  have hlocks := B.notSynchronized
  have hw0 := hts (.fieldLink RX11 10 "LeftShoes" "now" "LLeftShoes$World;") (by decide +kernel)
  have hiX11 : ∀ w ∈ wsX110, w ∈ wsX11_brothers := by decide +kernel
  have hw2 := hts (.fieldLink RX11 170 "LeftShoes$World" "peopleCount" "I") (by decide +kernel)
  have hiX10 : ∀ w ∈ wsX100, w ∈ wsX11_brothers := by decide +kernel
  have hw4 := hts (.methodLink RX11 270 Lib.Math.min.name) (by decide +kernel)
  have hw5 := hts (.static Lib.Math.min.name) (by decide +kernel)
  have hw6 := hts (.initialized "java/lang/Math") (by decide +kernel)
  have hw7 := hts (.code Lib.Math.min.name Lib.Math.min.code 2 (some .int)) (by decide +kernel)
  rw [show entryFrame m args 4 = F0 m 0 ((lg_sl ([.ref (ad 0), .int x1, .int x2] : List Value) ++ List.replicate (4 - (lg_sl ([.ref (ad 0), .int x1, .int x2] : List Value)).length) Slot.unset).toArray) [] from by rw [hargs]; exact lg_entry_eq m _ _]
  have hl := lv_entry ([.ref (ad 0), .int x1, .int x2] : List Value) (n := 4) (by exact Nat.le_of_ble_eq_true rfl)
  generalize (lg_sl ([.ref (ad 0), .int x1, .int x2] : List Value) ++ List.replicate (4 - (lg_sl ([.ref (ad 0), .int x1, .int x2] : List Value)).length) Slot.unset).toArray = ls at hl ⊢
  have hl : lv_has ls 4 [(0, .ref (ad 0)), (1, .int x1), (2, .int x2)] := by exact hl
  have hS : va_S (mm_A TC ad) s.heap s.heap [] := va_S.rf
  clear hargs
  unfold f_X11_brothers at hf
  have hH9 : ∀ (H : Heap) (locs : List Loc), H = s.heap → locs = [] → va_P D vwCl (mm_L TC ad cy g) H → va_S (mm_A TC ad) s.heap H locs → W p l e (headSpec wsX11_brothers (rm_X11_brothers)).room s m args below meth c H locs 0 0 (MQ below (mm_Qi D TC ad cy r0 g) args s 0 0 (mm_A TC ad)) (F0 m 0 ls []) := by
    intro H locs hH9 hL9 hP hS
    clear hH9 hL9
    refine lv_iload_n hx hb dX11_brothers_0 rfl (lv_at hl 1 rfl) ?_
    refine lv_if_lt (tgt := 25) hx hb dX11_brothers_1 (by decide) (fun c_1 => ?_) (fun c_1 => ?_)
    · replace hf := ite_t c_1 hf
      refine lv_iconst (v := (-1)) hx hb dX11_brothers_25 (by decide) ?_
      exact mq_iret hx hb hr rfl hlocks hP hS (Option.some.inj hf) rfl dX11_brothers_26
    · replace hf := ite_f c_1 hf
      refine lv_iload_n hx hb dX11_brothers_4 rfl (lv_at hl 1 rfl) ?_
      refine lv_aload_n hx hb dX11_brothers_5 rfl (lv_at hl 0 rfl) ?_
      refine mq_getr (Tt := TX11) (N := 9) (C := RX11) hx hb hts hiX11 hown hK hP hp rfl 0 1 (by decide) rfl hw0 (fun _ h9 => h9) dX11_brothers_6 ?_
      refine mq_geti (Tt := TX10) (N := 9) (C := RX10) hx hb hts hiX10 hown hK hP (shTC_X11_1 hp) rfl 0 (by decide) rfl hw2 (fun _ h9 => h9) dX11_brothers_9 ?_
      refine lv_ishr hx hb dX11_brothers_12 ?_
      refine lv_if_ne (tgt := 25) hx hb dX11_brothers_13 (by decide) (fun c_2 => ?_) (fun c_2 => ?_)
      · replace hf := ite_f c_2 hf
        refine lv_iconst (v := (-1)) hx hb dX11_brothers_25 (by decide) ?_
        exact mq_iret hx hb hr rfl hlocks hP hS (Option.some.inj hf) rfl dX11_brothers_26
      · replace hf := ite_t c_2 hf
        refine lv_iload_n hx hb dX11_brothers_16 rfl (lv_at hl 2 rfl) ?_
        refine lv_iconst (v := 0) hx hb dX11_brothers_17 (by decide) ?_
        refine lv_iconst (v := 1) hx hb dX11_brothers_18 (by decide) ?_
        obtain ⟨r_3, hr_4, hf⟩ := op_some hf
        refine mq_calli (va_runS (As := [.int x2, .int 0, .int 1]) (rest := []) ⟨hx, hb, hml, hown, hts⟩ (c_X11_isWithin l D ad cy x2 0 1 g r_3 hr_4) (va_cwS 3 hts gX11_brothers_X11_isWithin rfl rfl rfl (by decide +kernel) ⟨Nat.le_of_ble_eq_true rfl, Nat.le_of_ble_eq_true rfl⟩) (mq_preS mm_zOkC hK hP hI hZ hS) rfl rfl hl.1 rfl (lv_room (Nat.le_of_ble_eq_true rfl)) dX11_brothers_19 ⟨Nat.le_refl _, Nat.le_refl _⟩) hS (fun H locs hP hS => ?_)
        refine lv_if_ne (tgt := 27) hx hb dX11_brothers_22 (by decide) (fun c_5 => ?_) (fun c_5 => ?_)
        · replace hf := ite_f c_5 hf
          refine lv_aload_n hx hb dX11_brothers_27 rfl (lv_at hl 0 rfl) ?_
          refine mq_getr (Tt := TX11) (N := 9) (C := RX11) hx hb hts hiX11 hown hK hP hp rfl 0 1 (by decide) rfl hw0 (fun _ h9 => h9) dX11_brothers_28 ?_
          refine lv_iload_n hx hb dX11_brothers_31 rfl (lv_at hl 1 rfl) ?_
          obtain ⟨r_6, hr_7, hf⟩ := op_some hf
          refine mq_calli (va_runV (As := [.int x1]) (rest := []) ⟨hx, hb, hml, hown, hts⟩ (c_X10_pairsOf l D ad cy 1 x1 g (shTC_X11_1 hp) r_6 hr_7) (cwV 1 hts gX11_brothers_X10_pairsOf rfl rfl rfl (by decide +kernel) ⟨Nat.le_of_ble_eq_true rfl, Nat.le_of_ble_eq_true rfl⟩) (mq_preV (q := (RX10, TX10, 9)) mm_zOkC hK hP hI hZ hS (shTC_X11_1 hp) rfl) rfl rfl hl.1 rfl (lv_room (Nat.le_of_ble_eq_true rfl)) dX11_brothers_32 ⟨Nat.le_refl _, Nat.le_refl _⟩) hS (fun H locs hP hS => ?_)
          refine lv_istore_n (lv' := [(3, .int r_6), (0, .ref (ad 0)), (1, .int x1), (2, .int x2)]) hx hb dX11_brothers_35 rfl hl (by decide) rfl (fun ls hl => ?_)
          refine lv_iload_n hx hb dX11_brothers_36 rfl (lv_at hl 3 rfl) ?_
          refine lv_if_ne (tgt := 44) hx hb dX11_brothers_37 (by decide) (fun c_8 => ?_) (fun c_8 => ?_)
          · replace hf := ite_f c_8 hf
            refine lv_iload_n hx hb dX11_brothers_44 rfl (lv_at hl 0 rfl) ?_
            refine lv_aload_n hx hb dX11_brothers_45 rfl (lv_at hl 1 rfl) ?_
            refine mq_getr (Tt := TX11) (N := 9) (C := RX11) hx hb hts hiX11 hown hK hP hp rfl 0 1 (by decide) rfl hw0 (fun _ h9 => h9) dX11_brothers_46 ?_
            refine lv_iload_n hx hb dX11_brothers_49 rfl (lv_at hl 2 rfl) ?_
            obtain ⟨r_9, hr_10, hf⟩ := op_some hf
            refine mq_calli (va_runV (As := [.int x1]) (rest := [.int r_6]) ⟨hx, hb, hml, hown, hts⟩ (c_X10_twoFooted l D ad cy 1 x1 g (shTC_X11_1 hp) r_9 hr_10) (cwV 1 hts gX11_brothers_X10_twoFooted rfl rfl rfl (by decide +kernel) ⟨Nat.le_of_ble_eq_true rfl, Nat.le_of_ble_eq_true rfl⟩) (mq_preV (q := (RX10, TX10, 9)) mm_zOkC hK hP hI hZ hS (shTC_X11_1 hp) rfl) rfl rfl hl.1 rfl (lv_room (Nat.le_of_ble_eq_true rfl)) dX11_brothers_50 ⟨Nat.le_refl _, Nat.le_refl _⟩) hS (fun H locs hP hS => ?_)
            refine va_mmin hx hb (hml.trans hl.1.symm) hown hw4 hw5 hw6 hw7 (Nat.le_of_ble_eq_true rfl) (Nat.le_of_ble_eq_true rfl) (Nat.le_refl _) (Nat.le_refl _) dX11_brothers_53 ?_
            exact mq_iret hx hb hr rfl hlocks hP hS (Option.some.inj hf) rfl dX11_brothers_56
          · replace hf := ite_t c_8 hf
            refine lv_iload_n hx hb dX11_brothers_40 rfl (lv_at hl 0 rfl) ?_
            refine lv_goto (tgt := 56) hx hb dX11_brothers_41 (by decide) ?_
            exact mq_iret hx hb hr rfl hlocks hP hS (Option.some.inj hf) rfl dX11_brothers_56
        · replace hf := ite_t c_5 hf
          refine lv_iconst (v := (-1)) hx hb dX11_brothers_25 (by decide) ?_
          exact mq_iret hx hb hr rfl hlocks hP hS (Option.some.inj hf) rfl dX11_brothers_26
  exact hH9 s.heap [] rfl rfl hP hS
abbrev rm_X11_image : Room := ({ frames := 3, cells := 0, slots := 0, locals := 104 } : Room)
set_option maxHeartbeats 4000000 in
set_option maxRecDepth 100000 in
theorem c_X11_image (l : Launch) (D : va_G) (ad : Nat → Nat) (cy : Nat → ClassId)  (g : Mm) (hp : TC[0]? = some sX11) (r0 : Int32) (g' : Mm) (hf : f_X11_image g = some (r0, g')) : Met l yX11_image wsX11_image rm_X11_image (va_Pc [.ref (ad 0)] (mm_pre mm_Z D TC ad cy g)) (mm_Qi D TC ad cy r0 g') 0 0 (mm_A TC ad) := by
  refine Met.ofW (cc := cX11_image) (maxL := 1) (ret := (some .int)) (by decide) rfl ?_
  intro p e s m args below meth c s₁ B hml hv
  obtain ⟨hargs, hP, hK, hI, hZ⟩ := hv
  have hx := B.exec
  have hb := B.bytes
  have hr := B.returns
  have hts := atoms_spec (ws := wsX11_image) B.pre
  have hown : s.vm.findClass RX11 = some m.cls := findClass_of_methodNamed B.named
  have hlocks := B.notSynchronized
  have hw0 := hts (.fieldLink RX11 16 "LeftShoes" "kept" "LLeftShoes$World;") (by decide +kernel)
  have hiX11 : ∀ w ∈ wsX110, w ∈ wsX11_image := by decide +kernel
  have hw2 := hts (.fieldLink RX11 10 "LeftShoes" "now" "LLeftShoes$World;") (by decide +kernel)
  have hw3 := hts (.fieldLink RX11 278 "LeftShoes" "isKept" "Z") (by decide +kernel)
  rw [show entryFrame m args 1 = F0 m 0 ((lg_sl ([.ref (ad 0)] : List Value) ++ List.replicate (1 - (lg_sl ([.ref (ad 0)] : List Value)).length) Slot.unset).toArray) [] from by rw [hargs]; exact lg_entry_eq m _ _]
  have hl := lv_entry ([.ref (ad 0)] : List Value) (n := 1) (by exact Nat.le_of_ble_eq_true rfl)
  generalize (lg_sl ([.ref (ad 0)] : List Value) ++ List.replicate (1 - (lg_sl ([.ref (ad 0)] : List Value)).length) Slot.unset).toArray = ls at hl ⊢
  have hl : lv_has ls 1 [(0, .ref (ad 0))] := by exact hl
  have hS : va_S (mm_A TC ad) s.heap s.heap [] := va_S.rf
  clear hargs
  unfold f_X11_image at hf
  have hH9 : ∀ (H : Heap) (locs : List Loc), H = s.heap → locs = [] → va_P D vwCl (mm_L TC ad cy g) H → va_S (mm_A TC ad) s.heap H locs → W p l e (headSpec wsX11_image (rm_X11_image)).room s m args below meth c H locs 0 0 (MQ below (mm_Qi D TC ad cy r0 g') args s 0 0 (mm_A TC ad)) (F0 m 0 ls []) := by
    intro H locs hH9 hL9 hP hS
    clear hH9 hL9
    refine lv_aload_n hx hb dX11_image_0 rfl (lv_at hl 0 rfl) ?_
    refine mq_getr (Tt := TX11) (N := 9) (C := RX11) hx hb hts hiX11 hown hK hP hp rfl 1 42 (by decide) rfl hw0 (fun _ h9 => h9) dX11_image_1 ?_
    refine lv_aload_n hx hb dX11_image_4 rfl (lv_at hl 0 rfl) ?_
    refine mq_getr (Tt := TX11) (N := 9) (C := RX11) hx hb hts hiX11 hown hK hP hp rfl 0 1 (by decide) rfl hw2 (fun _ h9 => h9) dX11_image_5 ?_
    obtain ⟨g_1, hr_2, hf⟩ := op_some hf
    refine mq_callv (va_runV (As := [.ref (ad 1)]) (rest := []) ⟨hx, hb, hml, hown, hts⟩ (c_X10_become l D ad cy 42 1 g (shTC_X11_42 hp) (shTC_X11_1 hp) g_1 hr_2) (cwV 1 hts gX11_image_X10_become rfl rfl rfl (by decide +kernel) ⟨Nat.le_of_ble_eq_true rfl, Nat.le_of_ble_eq_true rfl⟩) (mq_preV (q := (RX10, TX10, 9)) mm_zOkC hK hP hI hZ hS (shTC_X11_42 hp) rfl) rfl rfl hl.1 rfl (lv_room (Nat.le_of_ble_eq_true rfl)) dX11_image_8 ⟨Nat.le_refl _, Nat.le_refl _⟩) hS (fun H locs hP hS => ?_)
    refine lv_aload_n hx hb dX11_image_11 rfl (lv_at hl 0 rfl) ?_
    refine lv_iconst (v := 1) hx hb dX11_image_12 (by decide) ?_
    obtain ⟨g_3, eg_3, hf⟩ := mw_some hf
    refine mq_puti (Tt := TX11) (N := 9) (C := RX11) (ty := .boolean) hx hb hts hiX11 tyX11 tyX11_ok nmX11 hown hK hI hP hS hp rfl 2 (by decide) rfl hw3 (fun _ h9 => h9) rfl (by decide +kernel) (by decide +kernel) (by decide +kernel) dX11_image_13 eg_3 (fun H locs hP hS => ?_)
    refine lv_iconst (v := 1) hx hb dX11_image_16 (by decide) ?_
    exact mq_iret hx hb hr rfl hlocks hP hS (pr_1 hf) (pr_2 hf) dX11_image_17
  exact hH9 s.heap [] rfl rfl hP hS
abbrev rm_X11_restore : Room := ({ frames := 3, cells := 0, slots := 0, locals := 104 } : Room)
set_option maxHeartbeats 4000000 in
set_option maxRecDepth 100000 in
theorem c_X11_restore (l : Launch) (D : va_G) (ad : Nat → Nat) (cy : Nat → ClassId)  (g : Mm) (hp : TC[0]? = some sX11) (r0 : Int32) (g' : Mm) (hf : f_X11_restore g = some (r0, g')) : Met l yX11_restore wsX11_restore rm_X11_restore (va_Pc [.ref (ad 0)] (mm_pre mm_Z D TC ad cy g)) (mm_Qi D TC ad cy r0 g') 0 0 (mm_A TC ad) := by
  refine Met.ofW (cc := cX11_restore) (maxL := 1) (ret := (some .int)) (by decide) rfl ?_
  intro p e s m args below meth c s₁ B hml hv
  obtain ⟨hargs, hP, hK, hI, hZ⟩ := hv
  have hx := B.exec
  have hb := B.bytes
  have hr := B.returns
  have hts := atoms_spec (ws := wsX11_restore) B.pre
  have hown : s.vm.findClass RX11 = some m.cls := findClass_of_methodNamed B.named
  have hlocks := B.notSynchronized
  have hw0 := hts (.fieldLink RX11 278 "LeftShoes" "isKept" "Z") (by decide +kernel)
  have hiX11 : ∀ w ∈ wsX110, w ∈ wsX11_restore := by decide +kernel
  have hw2 := hts (.fieldLink RX11 10 "LeftShoes" "now" "LLeftShoes$World;") (by decide +kernel)
  have hw3 := hts (.fieldLink RX11 16 "LeftShoes" "kept" "LLeftShoes$World;") (by decide +kernel)
  rw [show entryFrame m args 1 = F0 m 0 ((lg_sl ([.ref (ad 0)] : List Value) ++ List.replicate (1 - (lg_sl ([.ref (ad 0)] : List Value)).length) Slot.unset).toArray) [] from by rw [hargs]; exact lg_entry_eq m _ _]
  have hl := lv_entry ([.ref (ad 0)] : List Value) (n := 1) (by exact Nat.le_of_ble_eq_true rfl)
  generalize (lg_sl ([.ref (ad 0)] : List Value) ++ List.replicate (1 - (lg_sl ([.ref (ad 0)] : List Value)).length) Slot.unset).toArray = ls at hl ⊢
  have hl : lv_has ls 1 [(0, .ref (ad 0))] := by exact hl
  have hS : va_S (mm_A TC ad) s.heap s.heap [] := va_S.rf
  clear hargs
  unfold f_X11_restore at hf
  have hH9 : ∀ (H : Heap) (locs : List Loc), H = s.heap → locs = [] → va_P D vwCl (mm_L TC ad cy g) H → va_S (mm_A TC ad) s.heap H locs → W p l e (headSpec wsX11_restore (rm_X11_restore)).room s m args below meth c H locs 0 0 (MQ below (mm_Qi D TC ad cy r0 g') args s 0 0 (mm_A TC ad)) (F0 m 0 ls []) := by
    intro H locs hH9 hL9 hP hS
    clear hH9 hL9
    refine lv_aload_n hx hb dX11_restore_0 rfl (lv_at hl 0 rfl) ?_
    refine mq_geti (Tt := TX11) (N := 9) (C := RX11) hx hb hts hiX11 hown hK hP hp rfl 2 (by decide) rfl hw0 (fun _ h9 => h9) dX11_restore_1 ?_
    refine lv_if_ne (tgt := 10) hx hb dX11_restore_4 (by decide) (fun c_1 => ?_) (fun c_1 => ?_)
    · replace hf := ite_f c_1 hf
      refine lv_aload_n hx hb dX11_restore_10 rfl (lv_at hl 0 rfl) ?_
      refine mq_getr (Tt := TX11) (N := 9) (C := RX11) hx hb hts hiX11 hown hK hP hp rfl 0 1 (by decide) rfl hw2 (fun _ h9 => h9) dX11_restore_11 ?_
      refine lv_aload_n hx hb dX11_restore_14 rfl (lv_at hl 0 rfl) ?_
      refine mq_getr (Tt := TX11) (N := 9) (C := RX11) hx hb hts hiX11 hown hK hP hp rfl 1 42 (by decide) rfl hw3 (fun _ h9 => h9) dX11_restore_15 ?_
      obtain ⟨g_2, hr_3, hf⟩ := op_some hf
      refine mq_callv (va_runV (As := [.ref (ad 42)]) (rest := []) ⟨hx, hb, hml, hown, hts⟩ (c_X10_become l D ad cy 1 42 g (shTC_X11_1 hp) (shTC_X11_42 hp) g_2 hr_3) (cwV 1 hts gX11_restore_X10_become rfl rfl rfl (by decide +kernel) ⟨Nat.le_of_ble_eq_true rfl, Nat.le_of_ble_eq_true rfl⟩) (mq_preV (q := (RX10, TX10, 9)) mm_zOkC hK hP hI hZ hS (shTC_X11_1 hp) rfl) rfl rfl hl.1 rfl (lv_room (Nat.le_of_ble_eq_true rfl)) dX11_restore_18 ⟨Nat.le_refl _, Nat.le_refl _⟩) hS (fun H locs hP hS => ?_)
      refine lv_iconst (v := 1) hx hb dX11_restore_21 (by decide) ?_
      exact mq_iret hx hb hr rfl hlocks hP hS (pr_1 hf) (pr_2 hf) dX11_restore_22
    · replace hf := ite_t c_1 hf
      refine lv_bipush (v := (-4)) hx hb dX11_restore_7 (by decide) ?_
      exact mq_iret hx hb hr rfl hlocks hP hS (pr_1 hf) (pr_2 hf) dX11_restore_9
  exact hH9 s.heap [] rfl rfl hP hS
abbrev rm_X11_isSheet : Room := ({ frames := 1, cells := 0, slots := 0, locals := 22 } : Room)
set_option maxHeartbeats 4000000 in
set_option maxRecDepth 100000 in
theorem c_X11_isSheet (l : Launch) (D : va_G) (ad : Nat → Nat) (cy : Nat → ClassId) (x0 : Int32) (g : Mm)  (r0 : Int32) (hf : f_X11_isSheet x0 = some r0) : Met l yX11_isSheet wsX11_isSheet rm_X11_isSheet (va_Pc [.int x0] (mm_pre mm_Z D TC ad cy g)) (mm_Qi D TC ad cy r0 g) 0 0 (mm_A TC ad) := by
  refine Met.ofW (cc := cX11_isSheet) (maxL := 1) (ret := (some .boolean)) (by decide) rfl ?_
  intro p e s m args below meth c s₁ B hml hv
  obtain ⟨hargs, hP, hK, hI, hZ⟩ := hv
  have hx := B.exec
  have hb := B.bytes
  have hr := B.returns
  have hts := atoms_spec (ws := wsX11_isSheet) B.pre
  have hown : s.vm.findClass RX11 = some m.cls := findClass_of_methodNamed B.named
  have hlocks := B.notSynchronized
  rw [show entryFrame m args 1 = F0 m 0 ((lg_sl ([.int x0] : List Value) ++ List.replicate (1 - (lg_sl ([.int x0] : List Value)).length) Slot.unset).toArray) [] from by rw [hargs]; exact lg_entry_eq m _ _]
  have hl := lv_entry ([.int x0] : List Value) (n := 1) (by exact Nat.le_of_ble_eq_true rfl)
  generalize (lg_sl ([.int x0] : List Value) ++ List.replicate (1 - (lg_sl ([.int x0] : List Value)).length) Slot.unset).toArray = ls at hl ⊢
  have hl : lv_has ls 1 [(0, .int x0)] := by exact hl
  have hS : va_S (mm_A TC ad) s.heap s.heap [] := va_S.rf
  clear hargs
  unfold f_X11_isSheet at hf
  have hH9 : ∀ (H : Heap) (locs : List Loc), H = s.heap → locs = [] → va_P D vwCl (mm_L TC ad cy g) H → va_S (mm_A TC ad) s.heap H locs → W p l e (headSpec wsX11_isSheet (rm_X11_isSheet)).room s m args below meth c H locs 0 0 (MQ below (mm_Qi D TC ad cy r0 g) args s 0 0 (mm_A TC ad)) (F0 m 0 ls []) := by
    intro H locs hH9 hL9 hP hS
    clear hH9 hL9
    refine lv_iload_n hx hb dX11_isSheet_0 rfl (lv_at hl 0 rfl) ?_
    refine lv_iconst (v := 0) hx hb dX11_isSheet_1 (by decide) ?_
    refine lv_iconst (v := 3) hx hb dX11_isSheet_2 (by decide) ?_
    obtain ⟨r_1, hr_2, hf⟩ := op_some hf
    refine mq_calli (va_runS (As := [.int x0, .int 0, .int 3]) (rest := []) ⟨hx, hb, hml, hown, hts⟩ (c_X11_isWithin l D ad cy x0 0 3 g r_1 hr_2) (va_cwS 3 hts gX11_isSheet_X11_isWithin rfl rfl rfl (by decide +kernel) ⟨Nat.le_of_ble_eq_true rfl, Nat.le_of_ble_eq_true rfl⟩) (mq_preS mm_zOkC hK hP hI hZ hS) rfl rfl hl.1 rfl (lv_room (Nat.le_of_ble_eq_true rfl)) dX11_isSheet_3 ⟨Nat.le_refl _, Nat.le_refl _⟩) hS (fun H locs hP hS => ?_)
    obtain ⟨h_3, hf⟩ := og_some hf
    exact mq_iret hx hb hr (mm_01_nar h_3) hlocks hP hS (Option.some.inj hf) rfl dX11_isSheet_6
  exact hH9 s.heap [] rfl rfl hP hS
abbrev rm_X11_isLane : Room := ({ frames := 1, cells := 0, slots := 0, locals := 22 } : Room)
set_option maxHeartbeats 4000000 in
set_option maxRecDepth 100000 in
theorem c_X11_isLane (l : Launch) (D : va_G) (ad : Nat → Nat) (cy : Nat → ClassId) (x0 : Int32) (g : Mm)  (r0 : Int32) (hf : f_X11_isLane x0 = some r0) : Met l yX11_isLane wsX11_isLane rm_X11_isLane (va_Pc [.int x0] (mm_pre mm_Z D TC ad cy g)) (mm_Qi D TC ad cy r0 g) 0 0 (mm_A TC ad) := by
  refine Met.ofW (cc := cX11_isLane) (maxL := 1) (ret := (some .boolean)) (by decide) rfl ?_
  intro p e s m args below meth c s₁ B hml hv
  obtain ⟨hargs, hP, hK, hI, hZ⟩ := hv
  have hx := B.exec
  have hb := B.bytes
  have hr := B.returns
  have hts := atoms_spec (ws := wsX11_isLane) B.pre
  have hown : s.vm.findClass RX11 = some m.cls := findClass_of_methodNamed B.named
  have hlocks := B.notSynchronized
  rw [show entryFrame m args 1 = F0 m 0 ((lg_sl ([.int x0] : List Value) ++ List.replicate (1 - (lg_sl ([.int x0] : List Value)).length) Slot.unset).toArray) [] from by rw [hargs]; exact lg_entry_eq m _ _]
  have hl := lv_entry ([.int x0] : List Value) (n := 1) (by exact Nat.le_of_ble_eq_true rfl)
  generalize (lg_sl ([.int x0] : List Value) ++ List.replicate (1 - (lg_sl ([.int x0] : List Value)).length) Slot.unset).toArray = ls at hl ⊢
  have hl : lv_has ls 1 [(0, .int x0)] := by exact hl
  have hS : va_S (mm_A TC ad) s.heap s.heap [] := va_S.rf
  clear hargs
  unfold f_X11_isLane at hf
  have hH9 : ∀ (H : Heap) (locs : List Loc), H = s.heap → locs = [] → va_P D vwCl (mm_L TC ad cy g) H → va_S (mm_A TC ad) s.heap H locs → W p l e (headSpec wsX11_isLane (rm_X11_isLane)).room s m args below meth c H locs 0 0 (MQ below (mm_Qi D TC ad cy r0 g) args s 0 0 (mm_A TC ad)) (F0 m 0 ls []) := by
    intro H locs hH9 hL9 hP hS
    clear hH9 hL9
    refine lv_iload_n hx hb dX11_isLane_0 rfl (lv_at hl 0 rfl) ?_
    refine lv_iconst (v := 0) hx hb dX11_isLane_1 (by decide) ?_
    refine lv_iconst (v := 2) hx hb dX11_isLane_2 (by decide) ?_
    obtain ⟨r_1, hr_2, hf⟩ := op_some hf
    refine mq_calli (va_runS (As := [.int x0, .int 0, .int 2]) (rest := []) ⟨hx, hb, hml, hown, hts⟩ (c_X11_isWithin l D ad cy x0 0 2 g r_1 hr_2) (va_cwS 3 hts gX11_isLane_X11_isWithin rfl rfl rfl (by decide +kernel) ⟨Nat.le_of_ble_eq_true rfl, Nat.le_of_ble_eq_true rfl⟩) (mq_preS mm_zOkC hK hP hI hZ hS) rfl rfl hl.1 rfl (lv_room (Nat.le_of_ble_eq_true rfl)) dX11_isLane_3 ⟨Nat.le_refl _, Nat.le_refl _⟩) hS (fun H locs hP hS => ?_)
    obtain ⟨h_3, hf⟩ := og_some hf
    exact mq_iret hx hb hr (mm_01_nar h_3) hlocks hP hS (Option.some.inj hf) rfl dX11_isLane_6
  exact hH9 s.heap [] rfl rfl hP hS
abbrev rm_X11_readTrail : Room := ({ frames := 2, cells := 0, slots := 0, locals := 46 } : Room)
set_option maxHeartbeats 4000000 in
set_option maxRecDepth 100000 in
theorem c_X11_readTrail (l : Launch) (D : va_G) (ad : Nat → Nat) (cy : Nat → ClassId) (x1 : Int32) (x2 : Int32) (x3 : Int32) (x4 : Int32) (x5 : Int32) (g : Mm) (hp : TC[0]? = some sX11) (r0 : Int32) (g' : Mm) (hf : f_X11_readTrail x1 x2 x3 x4 x5 g = some (r0, g')) : Met l yX11_readTrail wsX11_readTrail rm_X11_readTrail (va_Pc [.ref (ad 0), .int x1, .int x2, .int x3, .int x4, .int x5] (mm_pre mm_Z D TC ad cy g)) (mm_Qi D TC ad cy r0 g') 0 0 (mm_A TC ad) := by
  refine Met.ofW (cc := cX11_readTrail) (maxL := 7) (ret := (some .int)) (by decide) rfl ?_
  intro p e s m args below meth c s₁ B hml hv
  obtain ⟨hargs, hP, hK, hI, hZ⟩ := hv
  have hx := B.exec
  have hb := B.bytes
  have hr := B.returns
  have hts := atoms_spec (ws := wsX11_readTrail) B.pre
  have hown : s.vm.findClass RX11 = some m.cls := findClass_of_methodNamed B.named
  have hlocks := B.notSynchronized
  have hw0 := hts (.fieldLink RX11 10 "LeftShoes" "now" "LLeftShoes$World;") (by decide +kernel)
  have hiX11 : ∀ w ∈ wsX110, w ∈ wsX11_readTrail := by decide +kernel
  have hw2 := hts (.fieldLink RX11 56 "LeftShoes" "sheets" "[LLeftShoes$Sheet;") (by decide +kernel)
  have hw3 := hts (.fieldLink RX11 50 "LeftShoes" "trail" "LLeftShoes$Trail;") (by decide +kernel)
  rw [show entryFrame m args 7 = F0 m 0 ((lg_sl ([.ref (ad 0), .int x1, .int x2, .int x3, .int x4, .int x5] : List Value) ++ List.replicate (7 - (lg_sl ([.ref (ad 0), .int x1, .int x2, .int x3, .int x4, .int x5] : List Value)).length) Slot.unset).toArray) [] from by rw [hargs]; exact lg_entry_eq m _ _]
  have hl := lv_entry ([.ref (ad 0), .int x1, .int x2, .int x3, .int x4, .int x5] : List Value) (n := 7) (by exact Nat.le_of_ble_eq_true rfl)
  generalize (lg_sl ([.ref (ad 0), .int x1, .int x2, .int x3, .int x4, .int x5] : List Value) ++ List.replicate (7 - (lg_sl ([.ref (ad 0), .int x1, .int x2, .int x3, .int x4, .int x5] : List Value)).length) Slot.unset).toArray = ls at hl ⊢
  have hl : lv_has ls 7 [(0, .ref (ad 0)), (1, .int x1), (2, .int x2), (3, .int x3), (4, .int x4), (5, .int x5)] := by exact hl
  have hS : va_S (mm_A TC ad) s.heap s.heap [] := va_S.rf
  clear hargs
  unfold f_X11_readTrail at hf
  have hH9 : ∀ (H : Heap) (locs : List Loc), H = s.heap → locs = [] → va_P D vwCl (mm_L TC ad cy g) H → va_S (mm_A TC ad) s.heap H locs → W p l e (headSpec wsX11_readTrail (rm_X11_readTrail)).room s m args below meth c H locs 0 0 (MQ below (mm_Qi D TC ad cy r0 g') args s 0 0 (mm_A TC ad)) (F0 m 0 ls []) := by
    intro H locs hH9 hL9 hP hS
    clear hH9 hL9
    refine lv_iload_n hx hb dX11_readTrail_0 rfl (lv_at hl 1 rfl) ?_
    obtain ⟨r_1, hr_2, hf⟩ := op_some hf
    refine mq_calli (va_runS (As := [.int x1]) (rest := []) ⟨hx, hb, hml, hown, hts⟩ (c_X11_isSheet l D ad cy x1 g r_1 hr_2) (va_cwS 1 hts gX11_readTrail_X11_isSheet rfl rfl rfl (by decide +kernel) ⟨Nat.le_of_ble_eq_true rfl, Nat.le_of_ble_eq_true rfl⟩) (mq_preS mm_zOkC hK hP hI hZ hS) rfl rfl hl.1 rfl (lv_room (Nat.le_of_ble_eq_true rfl)) dX11_readTrail_1 ⟨Nat.le_refl _, Nat.le_refl _⟩) hS (fun H locs hP hS => ?_)
    refine lv_if_eq (tgt := 37) hx hb dX11_readTrail_4 (by decide) (fun c_3 => ?_) (fun c_3 => ?_)
    · replace hf := ite_t c_3 hf
      refine lv_iconst (v := (-1)) hx hb dX11_readTrail_37 (by decide) ?_
      exact mq_iret hx hb hr rfl hlocks hP hS (pr_1 hf) (pr_2 hf) dX11_readTrail_38
    · replace hf := ite_f c_3 hf
      refine lv_iload_n hx hb dX11_readTrail_7 rfl (lv_at hl 2 rfl) ?_
      obtain ⟨r_4, hr_5, hf⟩ := op_some hf
      refine mq_calli (va_runS (As := [.int x2]) (rest := []) ⟨hx, hb, hml, hown, hts⟩ (c_X11_isLane l D ad cy x2 g r_4 hr_5) (va_cwS 1 hts gX11_readTrail_X11_isLane rfl rfl rfl (by decide +kernel) ⟨Nat.le_of_ble_eq_true rfl, Nat.le_of_ble_eq_true rfl⟩) (mq_preS mm_zOkC hK hP hI hZ hS) rfl rfl hl.1 rfl (lv_room (Nat.le_of_ble_eq_true rfl)) dX11_readTrail_8 ⟨Nat.le_refl _, Nat.le_refl _⟩) hS (fun H locs hP hS => ?_)
      refine lv_if_eq (tgt := 37) hx hb dX11_readTrail_11 (by decide) (fun c_6 => ?_) (fun c_6 => ?_)
      · replace hf := ite_t c_6 hf
        refine lv_iconst (v := (-1)) hx hb dX11_readTrail_37 (by decide) ?_
        exact mq_iret hx hb hr rfl hlocks hP hS (pr_1 hf) (pr_2 hf) dX11_readTrail_38
      · replace hf := ite_f c_6 hf
        refine lv_iload hx hb dX11_readTrail_14 (lv_at hl 4 rfl) ?_
        refine lv_iconst (v := 1) hx hb dX11_readTrail_16 (by decide) ?_
        refine lv_bipush (v := 12) hx hb dX11_readTrail_17 (by decide) ?_
        obtain ⟨r_7, hr_8, hf⟩ := op_some hf
        refine mq_calli (va_runS (As := [.int x4, .int 1, .int 12]) (rest := []) ⟨hx, hb, hml, hown, hts⟩ (c_X11_isWithin l D ad cy x4 1 12 g r_7 hr_8) (va_cwS 3 hts gX11_readTrail_X11_isWithin rfl rfl rfl (by decide +kernel) ⟨Nat.le_of_ble_eq_true rfl, Nat.le_of_ble_eq_true rfl⟩) (mq_preS mm_zOkC hK hP hI hZ hS) rfl rfl hl.1 rfl (lv_room (Nat.le_of_ble_eq_true rfl)) dX11_readTrail_19 ⟨Nat.le_refl _, Nat.le_refl _⟩) hS (fun H locs hP hS => ?_)
        refine lv_if_eq (tgt := 37) hx hb dX11_readTrail_22 (by decide) (fun c_9 => ?_) (fun c_9 => ?_)
        · replace hf := ite_t c_9 hf
          refine lv_iconst (v := (-1)) hx hb dX11_readTrail_37 (by decide) ?_
          exact mq_iret hx hb hr rfl hlocks hP hS (pr_1 hf) (pr_2 hf) dX11_readTrail_38
        · replace hf := ite_f c_9 hf
          refine lv_aload_n hx hb dX11_readTrail_25 rfl (lv_at hl 0 rfl) ?_
          refine mq_getr (Tt := TX11) (N := 9) (C := RX11) hx hb hts hiX11 hown hK hP hp rfl 0 1 (by decide) rfl hw0 (fun _ h9 => h9) dX11_readTrail_26 ?_
          refine lv_iload hx hb dX11_readTrail_29 (lv_at hl 5 rfl) ?_
          obtain ⟨r_10, hr_11, hf⟩ := op_some hf
          refine mq_calli (va_runV (As := [.int x5]) (rest := []) ⟨hx, hb, hml, hown, hts⟩ (c_X10_isPerson l D ad cy 1 x5 g (shTC_X11_1 hp) r_10 hr_11) (cwV 1 hts gX11_readTrail_X10_isPerson rfl rfl rfl (by decide +kernel) ⟨Nat.le_of_ble_eq_true rfl, Nat.le_of_ble_eq_true rfl⟩) (mq_preV (q := (RX10, TX10, 9)) mm_zOkC hK hP hI hZ hS (shTC_X11_1 hp) rfl) rfl rfl hl.1 rfl (lv_room (Nat.le_of_ble_eq_true rfl)) dX11_readTrail_31 ⟨Nat.le_refl _, Nat.le_refl _⟩) hS (fun H locs hP hS => ?_)
          refine lv_if_ne (tgt := 39) hx hb dX11_readTrail_34 (by decide) (fun c_12 => ?_) (fun c_12 => ?_)
          · replace hf := ite_f c_12 hf
            refine lv_aload_n hx hb dX11_readTrail_39 rfl (lv_at hl 0 rfl) ?_
            refine mq_getr (Tt := TX11) (N := 9) (C := RX11) hx hb hts hiX11 hown hK hP hp rfl 8 142 (by decide) rfl hw2 (fun _ h9 => h9) dX11_readTrail_40 ?_
            refine lv_iload_n hx hb dX11_readTrail_43 rfl (lv_at hl 1 rfl) ?_
            obtain ⟨h_13, hf⟩ := og_some hf
            refine mq_aald hx hb hK hP (N := 4) (shTC_X11_142 hp) rfl h_13 dX11_readTrail_44 ?_
            refine lv_iload_n hx hb dX11_readTrail_45 rfl (lv_at hl 2 rfl) ?_
            refine lv_iload_n hx hb dX11_readTrail_46 rfl (lv_at hl 3 rfl) ?_
            refine lv_iload hx hb dX11_readTrail_47 (lv_at hl 4 rfl) ?_
            obtain ⟨r_14, hr_15, hf⟩ := op_some hf
            refine mq_calli (va_runV (As := [.int x2, .int x3, .int x4]) (rest := []) ⟨hx, hb, hml, hown, hts⟩ (c_X4_refusal l D ad cy (143 + x1.toNatClampNeg) x2 x3 x4 g (shTC_X11_143i_0 hp (mm_in_lt h_13)) r_14 hr_15) (cwV 3 hts gX11_readTrail_X4_refusal rfl rfl rfl (by decide +kernel) ⟨Nat.le_of_ble_eq_true rfl, Nat.le_of_ble_eq_true rfl⟩) (mq_preV (q := (RX4, TX4, 3)) mm_zOkC hK hP hI hZ hS (shTC_X11_143i_0 hp (mm_in_lt h_13)) rfl) rfl rfl hl.1 rfl (lv_room (Nat.le_of_ble_eq_true rfl)) dX11_readTrail_49 ⟨Nat.le_refl _, Nat.le_refl _⟩) hS (fun H locs hP hS => ?_)
            refine lv_istore (lv' := [(6, .int r_14), (0, .ref (ad 0)), (1, .int x1), (2, .int x2), (3, .int x3), (4, .int x4), (5, .int x5)]) hx hb dX11_readTrail_52 hl (by decide) rfl (fun ls hl => ?_)
            refine lv_iload hx hb dX11_readTrail_54 (lv_at hl 0 rfl) ?_
            refine lv_if_ge (tgt := 62) hx hb dX11_readTrail_56 (by decide) (fun c_16 => ?_) (fun c_16 => ?_)
            · replace hf := ite_t c_16 hf
              refine lv_aload_n hx hb dX11_readTrail_62 rfl (lv_at hl 1 rfl) ?_
              refine mq_getr (Tt := TX11) (N := 9) (C := RX11) hx hb hts hiX11 hown hK hP hp rfl 7 140 (by decide) rfl hw3 (fun _ h9 => h9) dX11_readTrail_63 ?_
              refine lv_aload_n hx hb dX11_readTrail_66 rfl (lv_at hl 1 rfl) ?_
              refine mq_getr (Tt := TX11) (N := 9) (C := RX11) hx hb hts hiX11 hown hK hP hp rfl 8 142 (by decide) rfl hw2 (fun _ h9 => h9) dX11_readTrail_67 ?_
              refine lv_iload_n hx hb dX11_readTrail_70 rfl (lv_at hl 2 rfl) ?_
              obtain ⟨h_17, hf⟩ := og_some hf
              refine mq_aald hx hb hK hP (N := 4) (shTC_X11_142 hp) rfl h_17 dX11_readTrail_71 ?_
              refine lv_iload_n hx hb dX11_readTrail_72 rfl (lv_at hl 4 rfl) ?_
              refine lv_iload hx hb dX11_readTrail_73 (lv_at hl 5 rfl) ?_
              obtain ⟨r_19, g_18, hr_20, hf⟩ := ob_some hf
              refine mq_calli (va_runV (As := [.ref (ad (143 + x1.toNatClampNeg)), .int x3, .int x4]) (rest := []) ⟨hx, hb, hml, hown, hts⟩ (c_X8_read l D ad cy 140 (143 + x1.toNatClampNeg) x3 x4 g (shTC_X11_140 hp) (shTC_X11_143i_0 hp (mm_in_lt h_17)) r_19 g_18 hr_20) (cwV 3 hts gX11_readTrail_X8_read rfl rfl rfl (by decide +kernel) ⟨Nat.le_of_ble_eq_true rfl, Nat.le_of_ble_eq_true rfl⟩) (mq_preV (q := (RX8, TX8, 2)) mm_zOkC hK hP hI hZ hS (shTC_X11_140 hp) rfl) rfl rfl hl.1 rfl (lv_room (Nat.le_of_ble_eq_true rfl)) dX11_readTrail_75 ⟨Nat.le_refl _, Nat.le_refl _⟩) hS (fun H locs hP hS => ?_)
              refine lv_if_eq (tgt := 85) hx hb dX11_readTrail_78 (by decide) (fun c_21 => ?_) (fun c_21 => ?_)
              · replace hf := ite_t c_21 hf
                refine lv_bipush (v := (-2)) hx hb dX11_readTrail_85 (by decide) ?_
                exact mq_iret hx hb hr rfl hlocks hP hS (pr_1 hf) (pr_2 hf) dX11_readTrail_87
              · replace hf := ite_f c_21 hf
                refine lv_iconst (v := 0) hx hb dX11_readTrail_81 (by decide) ?_
                refine lv_goto (tgt := 87) hx hb dX11_readTrail_82 (by decide) ?_
                exact mq_iret hx hb hr rfl hlocks hP hS (pr_1 hf) (pr_2 hf) dX11_readTrail_87
            · replace hf := ite_f c_16 hf
              refine lv_iload hx hb dX11_readTrail_59 (lv_at hl 0 rfl) ?_
              exact mq_iret hx hb hr rfl hlocks hP hS (pr_1 hf) (pr_2 hf) dX11_readTrail_61
          · replace hf := ite_t c_12 hf
            refine lv_iconst (v := (-1)) hx hb dX11_readTrail_37 (by decide) ?_
            exact mq_iret hx hb hr rfl hlocks hP hS (pr_1 hf) (pr_2 hf) dX11_readTrail_38
  exact hH9 s.heap [] rfl rfl hP hS
abbrev rm_X11_prints : Room := ({ frames := 4, cells := 0, slots := 0, locals := 95 } : Room)
set_option maxHeartbeats 4000000 in
set_option maxRecDepth 100000 in
theorem c_X11_prints (l : Launch) (D : va_G) (ad : Nat → Nat) (cy : Nat → ClassId) (x1 : Int32) (x2 : Int32) (x3 : Int32) (x4 : Int32) (x5 : Int32) (x6 : Int32) (g : Mm) (hp : TC[0]? = some sX11) (r0 : Int32) (g' : Mm) (hf : f_X11_prints x1 x2 x3 x4 x5 x6 g = some (r0, g')) : Met l yX11_prints wsX11_prints rm_X11_prints (va_Pc [.ref (ad 0), .int x1, .int x2, .int x3, .int x4, .int x5, .int x6] (mm_pre mm_Z D TC ad cy g)) (mm_Qi D TC ad cy r0 g') 0 0 (mm_A TC ad) := by
  refine Met.ofW (cc := cX11_prints) (maxL := 8) (ret := (some .int)) (by decide) rfl ?_
  intro p e s m args below meth c s₁ B hml hv
  obtain ⟨hargs, hP, hK, hI, hZ⟩ := hv
  have hx := B.exec
  have hb := B.bytes
  have hr := B.returns
  have hts := atoms_spec (ws := wsX11_prints) B.pre
  have hown : s.vm.findClass RX11 = some m.cls := findClass_of_methodNamed B.named
  have hlocks := B.notSynchronized
  have hw0 := hts (.fieldLink RX11 50 "LeftShoes" "trail" "LLeftShoes$Trail;") (by decide +kernel)
  have hiX11 : ∀ w ∈ wsX110, w ∈ wsX11_prints := by decide +kernel
  have hw2 := hts (.fieldLink RX11 10 "LeftShoes" "now" "LLeftShoes$World;") (by decide +kernel)
  rw [show entryFrame m args 8 = F0 m 0 ((lg_sl ([.ref (ad 0), .int x1, .int x2, .int x3, .int x4, .int x5, .int x6] : List Value) ++ List.replicate (8 - (lg_sl ([.ref (ad 0), .int x1, .int x2, .int x3, .int x4, .int x5, .int x6] : List Value)).length) Slot.unset).toArray) [] from by rw [hargs]; exact lg_entry_eq m _ _]
  have hl := lv_entry ([.ref (ad 0), .int x1, .int x2, .int x3, .int x4, .int x5, .int x6] : List Value) (n := 8) (by exact Nat.le_of_ble_eq_true rfl)
  generalize (lg_sl ([.ref (ad 0), .int x1, .int x2, .int x3, .int x4, .int x5, .int x6] : List Value) ++ List.replicate (8 - (lg_sl ([.ref (ad 0), .int x1, .int x2, .int x3, .int x4, .int x5, .int x6] : List Value)).length) Slot.unset).toArray = ls at hl ⊢
  have hl : lv_has ls 8 [(0, .ref (ad 0)), (1, .int x1), (2, .int x2), (3, .int x3), (4, .int x4), (5, .int x5), (6, .int x6)] := by exact hl
  have hS : va_S (mm_A TC ad) s.heap s.heap [] := va_S.rf
  clear hargs
  unfold f_X11_prints at hf
  have hH9 : ∀ (H : Heap) (locs : List Loc), H = s.heap → locs = [] → va_P D vwCl (mm_L TC ad cy g) H → va_S (mm_A TC ad) s.heap H locs → W p l e (headSpec wsX11_prints (rm_X11_prints)).room s m args below meth c H locs 0 0 (MQ below (mm_Qi D TC ad cy r0 g') args s 0 0 (mm_A TC ad)) (F0 m 0 ls []) := by
    intro H locs hH9 hL9 hP hS
    clear hH9 hL9
    refine lv_iload hx hb dX11_prints_0 (lv_at hl 6 rfl) ?_
    refine lv_iconst (v := 0) hx hb dX11_prints_2 (by decide) ?_
    refine lv_iconst (v := 1) hx hb dX11_prints_3 (by decide) ?_
    obtain ⟨r_1, hr_2, hf⟩ := op_some hf
    refine mq_calli (va_runS (As := [.int x6, .int 0, .int 1]) (rest := []) ⟨hx, hb, hml, hown, hts⟩ (c_X11_isWithin l D ad cy x6 0 1 g r_1 hr_2) (va_cwS 3 hts gX11_prints_X11_isWithin rfl rfl rfl (by decide +kernel) ⟨Nat.le_of_ble_eq_true rfl, Nat.le_of_ble_eq_true rfl⟩) (mq_preS mm_zOkC hK hP hI hZ hS) rfl rfl hl.1 rfl (lv_room (Nat.le_of_ble_eq_true rfl)) dX11_prints_4 ⟨Nat.le_refl _, Nat.le_refl _⟩) hS (fun H locs hP hS => ?_)
    refine lv_if_ne (tgt := 12) hx hb dX11_prints_7 (by decide) (fun c_3 => ?_) (fun c_3 => ?_)
    · replace hf := ite_f c_3 hf
      refine lv_aload_n hx hb dX11_prints_12 rfl (lv_at hl 0 rfl) ?_
      refine lv_iload_n hx hb dX11_prints_13 rfl (lv_at hl 1 rfl) ?_
      refine lv_iload_n hx hb dX11_prints_14 rfl (lv_at hl 2 rfl) ?_
      refine lv_iload_n hx hb dX11_prints_15 rfl (lv_at hl 3 rfl) ?_
      refine lv_iload hx hb dX11_prints_16 (lv_at hl 4 rfl) ?_
      refine lv_iload hx hb dX11_prints_18 (lv_at hl 5 rfl) ?_
      obtain ⟨r_5, g_4, hr_6, hf⟩ := ob_some hf
      refine mq_calli (va_runV (As := [.int x1, .int x2, .int x3, .int x4, .int x5]) (rest := []) ⟨hx, hb, hml, hown, hts⟩ (c_X11_readTrail l D ad cy x1 x2 x3 x4 x5 g hp r_5 g_4 hr_6) (cwV 5 hts gX11_prints_X11_readTrail rfl rfl rfl (by decide +kernel) ⟨Nat.le_of_ble_eq_true rfl, Nat.le_of_ble_eq_true rfl⟩) (mq_preV (q := (RX11, TX11, 9)) mm_zOkC hK hP hI hZ hS hp rfl) rfl rfl hl.1 rfl (lv_room (Nat.le_of_ble_eq_true rfl)) dX11_prints_20 ⟨Nat.le_refl _, Nat.le_refl _⟩) hS (fun H locs hP hS => ?_)
      refine lv_istore (lv' := [(7, .int r_5), (0, .ref (ad 0)), (1, .int x1), (2, .int x2), (3, .int x3), (4, .int x4), (5, .int x5), (6, .int x6)]) hx hb dX11_prints_23 hl (by decide) rfl (fun ls hl => ?_)
      refine lv_iload hx hb dX11_prints_25 (lv_at hl 0 rfl) ?_
      refine lv_if_ge (tgt := 33) hx hb dX11_prints_27 (by decide) (fun c_7 => ?_) (fun c_7 => ?_)
      · replace hf := ite_t c_7 hf
        refine lv_iload hx hb dX11_prints_33 (lv_at hl 7 rfl) ?_
        refine lv_if_ne (tgt := 54) hx hb dX11_prints_35 (by decide) (fun c_8 => ?_) (fun c_8 => ?_)
        · replace hf := ite_f c_8 hf
          refine lv_aload_n hx hb dX11_prints_54 rfl (lv_at hl 1 rfl) ?_
          refine mq_getr (Tt := TX11) (N := 9) (C := RX11) hx hb hts hiX11 hown hK hP hp rfl 7 140 (by decide) rfl hw0 (fun _ h9 => h9) dX11_prints_55 ?_
          refine lv_aload_n hx hb dX11_prints_58 rfl (lv_at hl 1 rfl) ?_
          refine mq_getr (Tt := TX11) (N := 9) (C := RX11) hx hb hts hiX11 hown hK hP hp rfl 0 1 (by decide) rfl hw2 (fun _ h9 => h9) dX11_prints_59 ?_
          obtain ⟨r_9, hr_10, hf⟩ := op_some hf
          refine mq_calli (va_runV (As := [.ref (ad 1)]) (rest := []) ⟨hx, hb, hml, hown, hts⟩ (c_X8_waysOfAll l D ad cy 140 1 g_4 (shTC_X11_140 hp) (shTC_X11_1 hp) r_9 hr_10) (cwV 1 hts gX11_prints_X8_waysOfAll rfl rfl rfl (by decide +kernel) ⟨Nat.le_of_ble_eq_true rfl, Nat.le_of_ble_eq_true rfl⟩) (mq_preV (q := (RX8, TX8, 2)) mm_zOkC hK hP hI hZ hS (shTC_X11_140 hp) rfl) rfl rfl hl.1 rfl (lv_room (Nat.le_of_ble_eq_true rfl)) dX11_prints_62 ⟨Nat.le_refl _, Nat.le_refl _⟩) hS (fun H locs hP hS => ?_)
          exact mq_iret hx hb hr rfl hlocks hP hS (pr_1 hf) (pr_2 hf) dX11_prints_65
        · replace hf := ite_t c_8 hf
          refine lv_aload_n hx hb dX11_prints_38 rfl (lv_at hl 1 rfl) ?_
          refine mq_getr (Tt := TX11) (N := 9) (C := RX11) hx hb hts hiX11 hown hK hP hp rfl 7 140 (by decide) rfl hw0 (fun _ h9 => h9) dX11_prints_39 ?_
          refine lv_aload_n hx hb dX11_prints_42 rfl (lv_at hl 1 rfl) ?_
          refine mq_getr (Tt := TX11) (N := 9) (C := RX11) hx hb hts hiX11 hown hK hP hp rfl 0 1 (by decide) rfl hw2 (fun _ h9 => h9) dX11_prints_43 ?_
          refine lv_iload hx hb dX11_prints_46 (lv_at hl 6 rfl) ?_
          obtain ⟨r_11, hr_12, hf⟩ := op_some hf
          refine mq_calli (va_runV (As := [.ref (ad 1), .int x5]) (rest := []) ⟨hx, hb, hml, hown, hts⟩ (c_X8_waysOf l D ad cy 140 1 x5 g_4 (shTC_X11_140 hp) (shTC_X11_1 hp) r_11 hr_12) (cwV 2 hts gX11_prints_X8_waysOf rfl rfl rfl (by decide +kernel) ⟨Nat.le_of_ble_eq_true rfl, Nat.le_of_ble_eq_true rfl⟩) (mq_preV (q := (RX8, TX8, 2)) mm_zOkC hK hP hI hZ hS (shTC_X11_140 hp) rfl) rfl rfl hl.1 rfl (lv_room (Nat.le_of_ble_eq_true rfl)) dX11_prints_48 ⟨Nat.le_refl _, Nat.le_refl _⟩) hS (fun H locs hP hS => ?_)
          refine lv_goto (tgt := 65) hx hb dX11_prints_51 (by decide) ?_
          exact mq_iret hx hb hr rfl hlocks hP hS (pr_1 hf) (pr_2 hf) dX11_prints_65
      · replace hf := ite_f c_7 hf
        refine lv_iload hx hb dX11_prints_30 (lv_at hl 0 rfl) ?_
        exact mq_iret hx hb hr rfl hlocks hP hS (pr_1 hf) (pr_2 hf) dX11_prints_32
    · replace hf := ite_t c_3 hf
      refine lv_iconst (v := (-1)) hx hb dX11_prints_10 (by decide) ?_
      exact mq_iret hx hb hr rfl hlocks hP hS (pr_1 hf) (pr_2 hf) dX11_prints_11
  exact hH9 s.heap [] rfl rfl hP hS
abbrev rm_X11_odds : Room := ({ frames := 4, cells := 0, slots := 0, locals := 95 } : Room)
set_option maxHeartbeats 4000000 in
set_option maxRecDepth 100000 in
theorem c_X11_odds (l : Launch) (D : va_G) (ad : Nat → Nat) (cy : Nat → ClassId) (x1 : Int32) (x2 : Int32) (x3 : Int32) (x4 : Int32) (x5 : Int32) (x6 : Int32) (g : Mm) (hp : TC[0]? = some sX11) (r0 : Int32) (g' : Mm) (hf : f_X11_odds x1 x2 x3 x4 x5 x6 g = some (r0, g')) : Met l yX11_odds wsX11_odds rm_X11_odds (va_Pc [.ref (ad 0), .int x1, .int x2, .int x3, .int x4, .int x5, .int x6] (mm_pre mm_Z D TC ad cy g)) (mm_Qi D TC ad cy r0 g') 0 0 (mm_A TC ad) := by
  refine Met.ofW (cc := cX11_odds) (maxL := 9) (ret := (some .int)) (by decide) rfl ?_
  intro p e s m args below meth c s₁ B hml hv
  obtain ⟨hargs, hP, hK, hI, hZ⟩ := hv
  have hx := B.exec
  have hb := B.bytes
  have hr := B.returns
  have hts := atoms_spec (ws := wsX11_odds) B.pre
  have hown : s.vm.findClass RX11 = some m.cls := findClass_of_methodNamed B.named
  have hlocks := B.notSynchronized
  have hw0 := hts (.fieldLink RX11 50 "LeftShoes" "trail" "LLeftShoes$Trail;") (by decide +kernel)
  have hiX11 : ∀ w ∈ wsX110, w ∈ wsX11_odds := by decide +kernel
  have hw2 := hts (.fieldLink RX11 10 "LeftShoes" "now" "LLeftShoes$World;") (by decide +kernel)
  rw [show entryFrame m args 9 = F0 m 0 ((lg_sl ([.ref (ad 0), .int x1, .int x2, .int x3, .int x4, .int x5, .int x6] : List Value) ++ List.replicate (9 - (lg_sl ([.ref (ad 0), .int x1, .int x2, .int x3, .int x4, .int x5, .int x6] : List Value)).length) Slot.unset).toArray) [] from by rw [hargs]; exact lg_entry_eq m _ _]
  have hl := lv_entry ([.ref (ad 0), .int x1, .int x2, .int x3, .int x4, .int x5, .int x6] : List Value) (n := 9) (by exact Nat.le_of_ble_eq_true rfl)
  generalize (lg_sl ([.ref (ad 0), .int x1, .int x2, .int x3, .int x4, .int x5, .int x6] : List Value) ++ List.replicate (9 - (lg_sl ([.ref (ad 0), .int x1, .int x2, .int x3, .int x4, .int x5, .int x6] : List Value)).length) Slot.unset).toArray = ls at hl ⊢
  have hl : lv_has ls 9 [(0, .ref (ad 0)), (1, .int x1), (2, .int x2), (3, .int x3), (4, .int x4), (5, .int x5), (6, .int x6)] := by exact hl
  have hS : va_S (mm_A TC ad) s.heap s.heap [] := va_S.rf
  clear hargs
  unfold f_X11_odds at hf
  have hH9 : ∀ (H : Heap) (locs : List Loc), H = s.heap → locs = [] → va_P D vwCl (mm_L TC ad cy g) H → va_S (mm_A TC ad) s.heap H locs → W p l e (headSpec wsX11_odds (rm_X11_odds)).room s m args below meth c H locs 0 0 (MQ below (mm_Qi D TC ad cy r0 g') args s 0 0 (mm_A TC ad)) (F0 m 0 ls []) := by
    intro H locs hH9 hL9 hP hS
    clear hH9 hL9
    refine lv_iload hx hb dX11_odds_0 (lv_at hl 6 rfl) ?_
    refine lv_iconst (v := 0) hx hb dX11_odds_2 (by decide) ?_
    refine lv_iconst (v := 1) hx hb dX11_odds_3 (by decide) ?_
    obtain ⟨r_1, hr_2, hf⟩ := op_some hf
    refine mq_calli (va_runS (As := [.int x6, .int 0, .int 1]) (rest := []) ⟨hx, hb, hml, hown, hts⟩ (c_X11_isWithin l D ad cy x6 0 1 g r_1 hr_2) (va_cwS 3 hts gX11_odds_X11_isWithin rfl rfl rfl (by decide +kernel) ⟨Nat.le_of_ble_eq_true rfl, Nat.le_of_ble_eq_true rfl⟩) (mq_preS mm_zOkC hK hP hI hZ hS) rfl rfl hl.1 rfl (lv_room (Nat.le_of_ble_eq_true rfl)) dX11_odds_4 ⟨Nat.le_refl _, Nat.le_refl _⟩) hS (fun H locs hP hS => ?_)
    refine lv_if_ne (tgt := 12) hx hb dX11_odds_7 (by decide) (fun c_3 => ?_) (fun c_3 => ?_)
    · replace hf := ite_f c_3 hf
      refine lv_aload_n hx hb dX11_odds_12 rfl (lv_at hl 0 rfl) ?_
      refine lv_iload_n hx hb dX11_odds_13 rfl (lv_at hl 1 rfl) ?_
      refine lv_iload_n hx hb dX11_odds_14 rfl (lv_at hl 2 rfl) ?_
      refine lv_iload_n hx hb dX11_odds_15 rfl (lv_at hl 3 rfl) ?_
      refine lv_iload hx hb dX11_odds_16 (lv_at hl 4 rfl) ?_
      refine lv_iload hx hb dX11_odds_18 (lv_at hl 5 rfl) ?_
      obtain ⟨r_5, g_4, hr_6, hf⟩ := ob_some hf
      refine mq_calli (va_runV (As := [.int x1, .int x2, .int x3, .int x4, .int x5]) (rest := []) ⟨hx, hb, hml, hown, hts⟩ (c_X11_readTrail l D ad cy x1 x2 x3 x4 x5 g hp r_5 g_4 hr_6) (cwV 5 hts gX11_odds_X11_readTrail rfl rfl rfl (by decide +kernel) ⟨Nat.le_of_ble_eq_true rfl, Nat.le_of_ble_eq_true rfl⟩) (mq_preV (q := (RX11, TX11, 9)) mm_zOkC hK hP hI hZ hS hp rfl) rfl rfl hl.1 rfl (lv_room (Nat.le_of_ble_eq_true rfl)) dX11_odds_20 ⟨Nat.le_refl _, Nat.le_refl _⟩) hS (fun H locs hP hS => ?_)
      refine lv_istore (lv' := [(7, .int r_5), (0, .ref (ad 0)), (1, .int x1), (2, .int x2), (3, .int x3), (4, .int x4), (5, .int x5), (6, .int x6)]) hx hb dX11_odds_23 hl (by decide) rfl (fun ls hl => ?_)
      refine lv_iload hx hb dX11_odds_25 (lv_at hl 0 rfl) ?_
      refine lv_if_ge (tgt := 33) hx hb dX11_odds_27 (by decide) (fun c_7 => ?_) (fun c_7 => ?_)
      · replace hf := ite_t c_7 hf
        refine lv_aload_n hx hb dX11_odds_33 rfl (lv_at hl 1 rfl) ?_
        refine mq_getr (Tt := TX11) (N := 9) (C := RX11) hx hb hts hiX11 hown hK hP hp rfl 7 140 (by decide) rfl hw0 (fun _ h9 => h9) dX11_odds_34 ?_
        refine lv_aload_n hx hb dX11_odds_37 rfl (lv_at hl 1 rfl) ?_
        refine mq_getr (Tt := TX11) (N := 9) (C := RX11) hx hb hts hiX11 hown hK hP hp rfl 0 1 (by decide) rfl hw2 (fun _ h9 => h9) dX11_odds_38 ?_
        obtain ⟨r_8, hr_9, hf⟩ := op_some hf
        refine mq_calli (va_runV (As := [.ref (ad 1)]) (rest := []) ⟨hx, hb, hml, hown, hts⟩ (c_X8_waysOfAll l D ad cy 140 1 g_4 (shTC_X11_140 hp) (shTC_X11_1 hp) r_8 hr_9) (cwV 1 hts gX11_odds_X8_waysOfAll rfl rfl rfl (by decide +kernel) ⟨Nat.le_of_ble_eq_true rfl, Nat.le_of_ble_eq_true rfl⟩) (mq_preV (q := (RX8, TX8, 2)) mm_zOkC hK hP hI hZ hS (shTC_X11_140 hp) rfl) rfl rfl hl.1 rfl (lv_room (Nat.le_of_ble_eq_true rfl)) dX11_odds_41 ⟨Nat.le_refl _, Nat.le_refl _⟩) hS (fun H locs hP hS => ?_)
        refine lv_istore (lv' := [(8, .int r_8), (7, .int r_5), (0, .ref (ad 0)), (1, .int x1), (2, .int x2), (3, .int x3), (4, .int x4), (5, .int x5), (6, .int x6)]) hx hb dX11_odds_44 hl (by decide) rfl (fun ls hl => ?_)
        refine lv_iload hx hb dX11_odds_46 (lv_at hl 0 rfl) ?_
        refine lv_if_ne (tgt := 56) hx hb dX11_odds_48 (by decide) (fun c_10 => ?_) (fun c_10 => ?_)
        · replace hf := ite_f c_10 hf
          refine lv_aload_n hx hb dX11_odds_56 rfl (lv_at hl 2 rfl) ?_
          refine mq_getr (Tt := TX11) (N := 9) (C := RX11) hx hb hts hiX11 hown hK hP hp rfl 7 140 (by decide) rfl hw0 (fun _ h9 => h9) dX11_odds_57 ?_
          refine lv_aload_n hx hb dX11_odds_60 rfl (lv_at hl 2 rfl) ?_
          refine mq_getr (Tt := TX11) (N := 9) (C := RX11) hx hb hts hiX11 hown hK hP hp rfl 0 1 (by decide) rfl hw2 (fun _ h9 => h9) dX11_odds_61 ?_
          refine lv_iload hx hb dX11_odds_64 (lv_at hl 7 rfl) ?_
          obtain ⟨r_11, hr_12, hf⟩ := op_some hf
          refine mq_calli (va_runV (As := [.ref (ad 1), .int x5]) (rest := []) ⟨hx, hb, hml, hown, hts⟩ (c_X8_waysOf l D ad cy 140 1 x5 g_4 (shTC_X11_140 hp) (shTC_X11_1 hp) r_11 hr_12) (cwV 2 hts gX11_odds_X8_waysOf rfl rfl rfl (by decide +kernel) ⟨Nat.le_of_ble_eq_true rfl, Nat.le_of_ble_eq_true rfl⟩) (mq_preV (q := (RX8, TX8, 2)) mm_zOkC hK hP hI hZ hS (shTC_X11_140 hp) rfl) rfl rfl hl.1 rfl (lv_room (Nat.le_of_ble_eq_true rfl)) dX11_odds_66 ⟨Nat.le_refl _, Nat.le_refl _⟩) hS (fun H locs hP hS => ?_)
          refine lv_iload hx hb dX11_odds_69 (lv_at hl 0 rfl) ?_
          refine lv_iload hx hb dX11_odds_71 (lv_at hl 8 rfl) ?_
          obtain ⟨r_13, hr_14, hf⟩ := op_some hf
          refine mq_calli (va_runS (As := [.int r_11, .int r_8, .int x6]) (rest := []) ⟨hx, hb, hml, hown, hts⟩ (c_X11_partOf l D ad cy r_11 r_8 x6 g_4 r_13 hr_14) (va_cwS 3 hts gX11_odds_X11_partOf rfl rfl rfl (by decide +kernel) ⟨Nat.le_of_ble_eq_true rfl, Nat.le_of_ble_eq_true rfl⟩) (mq_preS mm_zOkC hK hP hI hZ hS) rfl rfl hl.1 rfl (lv_room (Nat.le_of_ble_eq_true rfl)) dX11_odds_73 ⟨Nat.le_refl _, Nat.le_refl _⟩) hS (fun H locs hP hS => ?_)
          exact mq_iret hx hb hr rfl hlocks hP hS (pr_1 hf) (pr_2 hf) dX11_odds_76
        · replace hf := ite_t c_10 hf
          refine lv_bipush (v := (-4)) hx hb dX11_odds_51 (by decide) ?_
          refine lv_goto (tgt := 76) hx hb dX11_odds_53 (by decide) ?_
          exact mq_iret hx hb hr rfl hlocks hP hS (pr_1 hf) (pr_2 hf) dX11_odds_76
      · replace hf := ite_f c_7 hf
        refine lv_iload hx hb dX11_odds_30 (lv_at hl 0 rfl) ?_
        exact mq_iret hx hb hr rfl hlocks hP hS (pr_1 hf) (pr_2 hf) dX11_odds_32
    · replace hf := ite_t c_3 hf
      refine lv_iconst (v := (-1)) hx hb dX11_odds_10 (by decide) ?_
      exact mq_iret hx hb hr rfl hlocks hP hS (pr_1 hf) (pr_2 hf) dX11_odds_11
  exact hH9 s.heap [] rfl rfl hP hS
abbrev rm_X11_book : Room := ({ frames := 3, cells := 0, slots := 0, locals := 69 } : Room)
set_option maxHeartbeats 4000000 in
set_option maxRecDepth 100000 in
theorem c_X11_book (l : Launch) (D : va_G) (ad : Nat → Nat) (cy : Nat → ClassId) (x1 : Int32) (x2 : Int32) (x3 : Int32) (x4 : Int32) (g : Mm) (hp : TC[0]? = some sX11) (r0 : Int32) (hf : f_X11_book x1 x2 x3 x4 g = some r0) : Met l yX11_book wsX11_book rm_X11_book (va_Pc [.ref (ad 0), .int x1, .int x2, .int x3, .int x4] (mm_pre mm_Z D TC ad cy g)) (mm_Qi D TC ad cy r0 g) 0 0 (mm_A TC ad) := by
  refine Met.ofW (cc := cX11_book) (maxL := 7) (ret := (some .int)) (by decide) rfl ?_
  intro p e s m args below meth c s₁ B hml hv
  obtain ⟨hargs, hP, hK, hI, hZ⟩ := hv
  have hx := B.exec
  have hb := B.bytes
  have hr := B.returns
  have hts := atoms_spec (ws := wsX11_book) B.pre
  have hown : s.vm.findClass RX11 = some m.cls := findClass_of_methodNamed B.named
  have hlocks := B.notSynchronized
  have hw0 := hts (.fieldLink RX11 56 "LeftShoes" "sheets" "[LLeftShoes$Sheet;") (by decide +kernel)
  have hiX11 : ∀ w ∈ wsX110, w ∈ wsX11_book := by decide +kernel
  have hw2 := hts (.fieldLink RX11 10 "LeftShoes" "now" "LLeftShoes$World;") (by decide +kernel)
  rw [show entryFrame m args 7 = F0 m 0 ((lg_sl ([.ref (ad 0), .int x1, .int x2, .int x3, .int x4] : List Value) ++ List.replicate (7 - (lg_sl ([.ref (ad 0), .int x1, .int x2, .int x3, .int x4] : List Value)).length) Slot.unset).toArray) [] from by rw [hargs]; exact lg_entry_eq m _ _]
  have hl := lv_entry ([.ref (ad 0), .int x1, .int x2, .int x3, .int x4] : List Value) (n := 7) (by exact Nat.le_of_ble_eq_true rfl)
  generalize (lg_sl ([.ref (ad 0), .int x1, .int x2, .int x3, .int x4] : List Value) ++ List.replicate (7 - (lg_sl ([.ref (ad 0), .int x1, .int x2, .int x3, .int x4] : List Value)).length) Slot.unset).toArray = ls at hl ⊢
  have hl : lv_has ls 7 [(0, .ref (ad 0)), (1, .int x1), (2, .int x2), (3, .int x3), (4, .int x4)] := by exact hl
  have hS : va_S (mm_A TC ad) s.heap s.heap [] := va_S.rf
  clear hargs
  have hc55 : ∀ (n : Nat), ∀ (x6 : Int32) (H : Heap) (locs : List Loc) (ls : Array Slot), va_P D vwCl (mm_L TC ad cy g) H → va_S (mm_A TC ad) s.heap H locs → lv_has ls 7 [(0, .ref (ad 0)), (1, .int x1), (2, .int x2), (3, .int x3), (4, .int x4), (6, .int x6)] → f_X11_book_c55 x1 x3 x4 n x6 g = some r0 → W p l e (headSpec wsX11_book (rm_X11_book)).room s m args below meth c H locs 0 0 (MQ below (mm_Qi D TC ad cy r0 g) args s 0 0 (mm_A TC ad)) (F0 m 55 ls []) := by
    intro n
    induction n with
    | zero =>
      intro x6 H locs ls hP hS hl hf
      rw [f_X11_book_c55] at hf
      cases hf
    | succ n ih =>
      intro x6 H locs ls hP hS hl hf
      rw [f_X11_book_c55] at hf
      refine lv_iload hx hb dX11_book_55 (lv_at hl 5 rfl) ?_
      refine lv_iload hx hb dX11_book_57 (lv_at hl 4 rfl) ?_
      refine lv_icmp_ge (tgt := 90) hx hb dX11_book_59 (by decide) (fun c_14 => ?_) (fun c_14 => ?_)
      · replace hf := ite_t c_14 hf
        refine lv_bipush (v := (-4)) hx hb dX11_book_90 (by decide) ?_
        exact mq_iret hx hb hr rfl hlocks hP hS (Option.some.inj hf) rfl dX11_book_92
      · replace hf := ite_f c_14 hf
        refine lv_aload_n hx hb dX11_book_62 rfl (lv_at hl 0 rfl) ?_
        refine mq_getr (Tt := TX11) (N := 9) (C := RX11) hx hb hts hiX11 hown hK hP hp rfl 0 1 (by decide) rfl hw2 (fun _ h9 => h9) dX11_book_63 ?_
        refine lv_aload_n hx hb dX11_book_66 rfl (lv_at hl 0 rfl) ?_
        refine mq_getr (Tt := TX11) (N := 9) (C := RX11) hx hb hts hiX11 hown hK hP hp rfl 8 142 (by decide) rfl hw0 (fun _ h9 => h9) dX11_book_67 ?_
        refine lv_iload_n hx hb dX11_book_70 rfl (lv_at hl 1 rfl) ?_
        obtain ⟨h_15, hf⟩ := og_some hf
        refine mq_aald hx hb hK hP (N := 4) (shTC_X11_142 hp) rfl h_15 dX11_book_71 ?_
        refine lv_iload_n hx hb dX11_book_72 rfl (lv_at hl 3 rfl) ?_
        refine lv_iload hx hb dX11_book_73 (lv_at hl 5 rfl) ?_
        obtain ⟨r_16, hr_17, hf⟩ := op_some hf
        refine mq_calli (va_runV (As := [.ref (ad (143 + x1.toNatClampNeg)), .int x3, .int x6]) (rest := []) ⟨hx, hb, hml, hown, hts⟩ (c_X10_canBe l D ad cy 1 (143 + x1.toNatClampNeg) x3 x6 g (shTC_X11_1 hp) (shTC_X11_143i_0 hp (mm_in_lt h_15)) r_16 hr_17) (cwV 3 hts gX11_book_X10_canBe rfl rfl rfl (by decide +kernel) ⟨Nat.le_of_ble_eq_true rfl, Nat.le_of_ble_eq_true rfl⟩) (mq_preV (q := (RX10, TX10, 9)) mm_zOkC hK hP hI hZ hS (shTC_X11_1 hp) rfl) rfl rfl hl.1 rfl (lv_room (Nat.le_of_ble_eq_true rfl)) dX11_book_75 ⟨Nat.le_refl _, Nat.le_refl _⟩) hS (fun H locs hP hS => ?_)
        refine lv_if_ne (tgt := 84) hx hb dX11_book_78 (by decide) (fun c_18 => ?_) (fun c_18 => ?_)
        · replace hf := ite_f c_18 hf
          obtain ⟨x6_19, ex6_19, hf⟩ := mv_some hf
          refine lv_iinc (v := x6_19) (lv' := [(6, .int x6_19), (0, .ref (ad 0)), (1, .int x1), (2, .int x2), (3, .int x3), (4, .int x4)]) hx hb dX11_book_84 hl (k := 5) rfl (by rw [ex6_19]; rfl) (by decide) rfl (fun ls hl => ?_)
          refine lv_goto (tgt := 55) hx hb dX11_book_87 (by decide) ?_
          exact ih x6_19 H locs ls hP hS (lv_sub hl [1, 2, 3, 4, 5, 0] rfl) hf
        · replace hf := ite_t c_18 hf
          refine lv_iload hx hb dX11_book_81 (lv_at hl 5 rfl) ?_
          exact mq_iret hx hb hr rfl hlocks hP hS (Option.some.inj hf) rfl dX11_book_83
  unfold f_X11_book at hf
  have hH9 : ∀ (H : Heap) (locs : List Loc), H = s.heap → locs = [] → va_P D vwCl (mm_L TC ad cy g) H → va_S (mm_A TC ad) s.heap H locs → W p l e (headSpec wsX11_book (rm_X11_book)).room s m args below meth c H locs 0 0 (MQ below (mm_Qi D TC ad cy r0 g) args s 0 0 (mm_A TC ad)) (F0 m 0 ls []) := by
    intro H locs hH9 hL9 hP hS
    clear hH9 hL9
    refine lv_iload_n hx hb dX11_book_0 rfl (lv_at hl 1 rfl) ?_
    obtain ⟨r_1, hr_2, hf⟩ := op_some hf
    refine mq_calli (va_runS (As := [.int x1]) (rest := []) ⟨hx, hb, hml, hown, hts⟩ (c_X11_isSheet l D ad cy x1 g r_1 hr_2) (va_cwS 1 hts gX11_book_X11_isSheet rfl rfl rfl (by decide +kernel) ⟨Nat.le_of_ble_eq_true rfl, Nat.le_of_ble_eq_true rfl⟩) (mq_preS mm_zOkC hK hP hI hZ hS) rfl rfl hl.1 rfl (lv_room (Nat.le_of_ble_eq_true rfl)) dX11_book_1 ⟨Nat.le_refl _, Nat.le_refl _⟩) hS (fun H locs hP hS => ?_)
    refine lv_if_eq (tgt := 25) hx hb dX11_book_4 (by decide) (fun c_3 => ?_) (fun c_3 => ?_)
    · replace hf := ite_t c_3 hf
      refine lv_iconst (v := (-1)) hx hb dX11_book_25 (by decide) ?_
      exact mq_iret hx hb hr rfl hlocks hP hS (Option.some.inj hf) rfl dX11_book_26
    · replace hf := ite_f c_3 hf
      refine lv_iload_n hx hb dX11_book_7 rfl (lv_at hl 2 rfl) ?_
      obtain ⟨r_4, hr_5, hf⟩ := op_some hf
      refine mq_calli (va_runS (As := [.int x2]) (rest := []) ⟨hx, hb, hml, hown, hts⟩ (c_X11_isLane l D ad cy x2 g r_4 hr_5) (va_cwS 1 hts gX11_book_X11_isLane rfl rfl rfl (by decide +kernel) ⟨Nat.le_of_ble_eq_true rfl, Nat.le_of_ble_eq_true rfl⟩) (mq_preS mm_zOkC hK hP hI hZ hS) rfl rfl hl.1 rfl (lv_room (Nat.le_of_ble_eq_true rfl)) dX11_book_8 ⟨Nat.le_refl _, Nat.le_refl _⟩) hS (fun H locs hP hS => ?_)
      refine lv_if_eq (tgt := 25) hx hb dX11_book_11 (by decide) (fun c_6 => ?_) (fun c_6 => ?_)
      · replace hf := ite_t c_6 hf
        refine lv_iconst (v := (-1)) hx hb dX11_book_25 (by decide) ?_
        exact mq_iret hx hb hr rfl hlocks hP hS (Option.some.inj hf) rfl dX11_book_26
      · replace hf := ite_f c_6 hf
        refine lv_iload hx hb dX11_book_14 (lv_at hl 4 rfl) ?_
        refine lv_iconst (v := 1) hx hb dX11_book_16 (by decide) ?_
        refine lv_bipush (v := 12) hx hb dX11_book_17 (by decide) ?_
        obtain ⟨r_7, hr_8, hf⟩ := op_some hf
        refine mq_calli (va_runS (As := [.int x4, .int 1, .int 12]) (rest := []) ⟨hx, hb, hml, hown, hts⟩ (c_X11_isWithin l D ad cy x4 1 12 g r_7 hr_8) (va_cwS 3 hts gX11_book_X11_isWithin rfl rfl rfl (by decide +kernel) ⟨Nat.le_of_ble_eq_true rfl, Nat.le_of_ble_eq_true rfl⟩) (mq_preS mm_zOkC hK hP hI hZ hS) rfl rfl hl.1 rfl (lv_room (Nat.le_of_ble_eq_true rfl)) dX11_book_19 ⟨Nat.le_refl _, Nat.le_refl _⟩) hS (fun H locs hP hS => ?_)
        refine lv_if_ne (tgt := 27) hx hb dX11_book_22 (by decide) (fun c_9 => ?_) (fun c_9 => ?_)
        · replace hf := ite_f c_9 hf
          refine lv_aload_n hx hb dX11_book_27 rfl (lv_at hl 0 rfl) ?_
          refine mq_getr (Tt := TX11) (N := 9) (C := RX11) hx hb hts hiX11 hown hK hP hp rfl 8 142 (by decide) rfl hw0 (fun _ h9 => h9) dX11_book_28 ?_
          refine lv_iload_n hx hb dX11_book_31 rfl (lv_at hl 1 rfl) ?_
          obtain ⟨h_10, hf⟩ := og_some hf
          refine mq_aald hx hb hK hP (N := 4) (shTC_X11_142 hp) rfl h_10 dX11_book_32 ?_
          refine lv_iload_n hx hb dX11_book_33 rfl (lv_at hl 2 rfl) ?_
          refine lv_iload_n hx hb dX11_book_34 rfl (lv_at hl 3 rfl) ?_
          refine lv_iconst (v := 2) hx hb dX11_book_35 (by decide) ?_
          refine lv_iload hx hb dX11_book_36 (lv_at hl 4 rfl) ?_
          refine lv_imul hx hb dX11_book_38 ?_
          obtain ⟨r_11, hr_12, hf⟩ := op_some hf
          refine mq_calli (va_runV (As := [.int x2, .int x3, .int (2 * x4)]) (rest := []) ⟨hx, hb, hml, hown, hts⟩ (c_X4_refusal l D ad cy (143 + x1.toNatClampNeg) x2 x3 (2 * x4) g (shTC_X11_143i_0 hp (mm_in_lt h_10)) r_11 hr_12) (cwV 3 hts gX11_book_X4_refusal rfl rfl rfl (by decide +kernel) ⟨Nat.le_of_ble_eq_true rfl, Nat.le_of_ble_eq_true rfl⟩) (mq_preV (q := (RX4, TX4, 3)) mm_zOkC hK hP hI hZ hS (shTC_X11_143i_0 hp (mm_in_lt h_10)) rfl) rfl rfl hl.1 rfl (lv_room (Nat.le_of_ble_eq_true rfl)) dX11_book_39 ⟨Nat.le_refl _, Nat.le_refl _⟩) hS (fun H locs hP hS => ?_)
          refine lv_istore (lv' := [(5, .int r_11), (0, .ref (ad 0)), (1, .int x1), (2, .int x2), (3, .int x3), (4, .int x4)]) hx hb dX11_book_42 hl (by decide) rfl (fun ls hl => ?_)
          refine lv_iload hx hb dX11_book_44 (lv_at hl 0 rfl) ?_
          refine lv_if_ge (tgt := 52) hx hb dX11_book_46 (by decide) (fun c_13 => ?_) (fun c_13 => ?_)
          · replace hf := ite_t c_13 hf
            refine lv_iconst (v := 0) hx hb dX11_book_52 (by decide) ?_
            refine lv_istore (lv' := [(6, .int 0), (5, .int r_11), (0, .ref (ad 0)), (1, .int x1), (2, .int x2), (3, .int x3), (4, .int x4)]) hx hb dX11_book_53 hl (by decide) rfl (fun ls hl => ?_)
            exact hc55 FU 0 H locs ls hP hS (lv_sub hl [2, 3, 4, 5, 6, 0] rfl) hf
          · replace hf := ite_f c_13 hf
            refine lv_iload hx hb dX11_book_49 (lv_at hl 0 rfl) ?_
            exact mq_iret hx hb hr rfl hlocks hP hS (Option.some.inj hf) rfl dX11_book_51
        · replace hf := ite_t c_9 hf
          refine lv_iconst (v := (-1)) hx hb dX11_book_25 (by decide) ?_
          exact mq_iret hx hb hr rfl hlocks hP hS (Option.some.inj hf) rfl dX11_book_26
  exact hH9 s.heap [] rfl rfl hP hS
abbrev rm_X11_sheet : Room := ({ frames := 2, cells := 0, slots := 0, locals := 45 } : Room)
set_option maxHeartbeats 4000000 in
set_option maxRecDepth 100000 in
theorem c_X11_sheet (l : Launch) (D : va_G) (ad : Nat → Nat) (cy : Nat → ClassId) (x1 : Int32) (x2 : Int32) (x3 : Int32) (g : Mm) (hp : TC[0]? = some sX11) (r0 : Int32) (g' : Mm) (hf : f_X11_sheet x1 x2 x3 g = some (r0, g')) : Met l yX11_sheet wsX11_sheet rm_X11_sheet (va_Pc [.ref (ad 0), .int x1, .int x2, .int x3] (mm_pre mm_Z D TC ad cy g)) (mm_Qi D TC ad cy r0 g') 0 0 (mm_A TC ad) := by
  refine Met.ofW (cc := cX11_sheet) (maxL := 4) (ret := (some .int)) (by decide) rfl ?_
  intro p e s m args below meth c s₁ B hml hv
  obtain ⟨hargs, hP, hK, hI, hZ⟩ := hv
  have hx := B.exec
  have hb := B.bytes
  have hr := B.returns
  have hts := atoms_spec (ws := wsX11_sheet) B.pre
  have hown : s.vm.findClass RX11 = some m.cls := findClass_of_methodNamed B.named
  have hlocks := B.notSynchronized
  have hw0 := hts (.fieldLink RX11 56 "LeftShoes" "sheets" "[LLeftShoes$Sheet;") (by decide +kernel)
  have hiX11 : ∀ w ∈ wsX110, w ∈ wsX11_sheet := by decide +kernel
  rw [show entryFrame m args 4 = F0 m 0 ((lg_sl ([.ref (ad 0), .int x1, .int x2, .int x3] : List Value) ++ List.replicate (4 - (lg_sl ([.ref (ad 0), .int x1, .int x2, .int x3] : List Value)).length) Slot.unset).toArray) [] from by rw [hargs]; exact lg_entry_eq m _ _]
  have hl := lv_entry ([.ref (ad 0), .int x1, .int x2, .int x3] : List Value) (n := 4) (by exact Nat.le_of_ble_eq_true rfl)
  generalize (lg_sl ([.ref (ad 0), .int x1, .int x2, .int x3] : List Value) ++ List.replicate (4 - (lg_sl ([.ref (ad 0), .int x1, .int x2, .int x3] : List Value)).length) Slot.unset).toArray = ls at hl ⊢
  have hl : lv_has ls 4 [(0, .ref (ad 0)), (1, .int x1), (2, .int x2), (3, .int x3)] := by exact hl
  have hS : va_S (mm_A TC ad) s.heap s.heap [] := va_S.rf
  clear hargs
  unfold f_X11_sheet at hf
  have hH9 : ∀ (H : Heap) (locs : List Loc), H = s.heap → locs = [] → va_P D vwCl (mm_L TC ad cy g) H → va_S (mm_A TC ad) s.heap H locs → W p l e (headSpec wsX11_sheet (rm_X11_sheet)).room s m args below meth c H locs 0 0 (MQ below (mm_Qi D TC ad cy r0 g') args s 0 0 (mm_A TC ad)) (F0 m 0 ls []) := by
    intro H locs hH9 hL9 hP hS
    clear hH9 hL9
    refine lv_iload_n hx hb dX11_sheet_0 rfl (lv_at hl 1 rfl) ?_
    obtain ⟨r_1, hr_2, hf⟩ := op_some hf
    refine mq_calli (va_runS (As := [.int x1]) (rest := []) ⟨hx, hb, hml, hown, hts⟩ (c_X11_isSheet l D ad cy x1 g r_1 hr_2) (va_cwS 1 hts gX11_sheet_X11_isSheet rfl rfl rfl (by decide +kernel) ⟨Nat.le_of_ble_eq_true rfl, Nat.le_of_ble_eq_true rfl⟩) (mq_preS mm_zOkC hK hP hI hZ hS) rfl rfl hl.1 rfl (lv_room (Nat.le_of_ble_eq_true rfl)) dX11_sheet_1 ⟨Nat.le_refl _, Nat.le_refl _⟩) hS (fun H locs hP hS => ?_)
    refine lv_if_eq (tgt := 20) hx hb dX11_sheet_4 (by decide) (fun c_3 => ?_) (fun c_3 => ?_)
    · replace hf := ite_t c_3 hf
      refine lv_iconst (v := (-1)) hx hb dX11_sheet_20 (by decide) ?_
      exact mq_iret hx hb hr rfl hlocks hP hS (pr_1 hf) (pr_2 hf) dX11_sheet_21
    · replace hf := ite_f c_3 hf
      refine lv_iload_n hx hb dX11_sheet_7 rfl (lv_at hl 2 rfl) ?_
      obtain ⟨r_4, hr_5, hf⟩ := op_some hf
      refine mq_calli (va_runS (As := [.int x2]) (rest := []) ⟨hx, hb, hml, hown, hts⟩ (c_X11_isLane l D ad cy x2 g r_4 hr_5) (va_cwS 1 hts gX11_sheet_X11_isLane rfl rfl rfl (by decide +kernel) ⟨Nat.le_of_ble_eq_true rfl, Nat.le_of_ble_eq_true rfl⟩) (mq_preS mm_zOkC hK hP hI hZ hS) rfl rfl hl.1 rfl (lv_room (Nat.le_of_ble_eq_true rfl)) dX11_sheet_8 ⟨Nat.le_refl _, Nat.le_refl _⟩) hS (fun H locs hP hS => ?_)
      refine lv_if_eq (tgt := 20) hx hb dX11_sheet_11 (by decide) (fun c_6 => ?_) (fun c_6 => ?_)
      · replace hf := ite_t c_6 hf
        refine lv_iconst (v := (-1)) hx hb dX11_sheet_20 (by decide) ?_
        exact mq_iret hx hb hr rfl hlocks hP hS (pr_1 hf) (pr_2 hf) dX11_sheet_21
      · replace hf := ite_f c_6 hf
        refine lv_iload_n hx hb dX11_sheet_14 rfl (lv_at hl 3 rfl) ?_
        refine lv_bipush (v := 24) hx hb dX11_sheet_15 (by decide) ?_
        refine lv_icmp_le (tgt := 22) hx hb dX11_sheet_17 (by decide) (fun c_7 => ?_) (fun c_7 => ?_)
        · replace hf := ite_t c_7 hf
          refine lv_iload_n hx hb dX11_sheet_22 rfl (lv_at hl 3 rfl) ?_
          refine lv_if_ge (tgt := 29) hx hb dX11_sheet_23 (by decide) (fun c_8 => ?_) (fun c_8 => ?_)
          · replace hf := ite_t c_8 hf
            refine lv_aload_n hx hb dX11_sheet_29 rfl (lv_at hl 0 rfl) ?_
            refine mq_getr (Tt := TX11) (N := 9) (C := RX11) hx hb hts hiX11 hown hK hP hp rfl 8 142 (by decide) rfl hw0 (fun _ h9 => h9) dX11_sheet_30 ?_
            refine lv_iload_n hx hb dX11_sheet_33 rfl (lv_at hl 1 rfl) ?_
            obtain ⟨h_9, hf⟩ := og_some hf
            refine mq_aald hx hb hK hP (N := 4) (shTC_X11_142 hp) rfl h_9 dX11_sheet_34 ?_
            refine lv_iload_n hx hb dX11_sheet_35 rfl (lv_at hl 2 rfl) ?_
            refine lv_iload_n hx hb dX11_sheet_36 rfl (lv_at hl 3 rfl) ?_
            obtain ⟨g_10, hr_11, hf⟩ := op_some hf
            refine mq_callv (va_runV (As := [.int x2, .int x3]) (rest := []) ⟨hx, hb, hml, hown, hts⟩ (c_X4_begin l D ad cy (143 + x1.toNatClampNeg) x2 x3 g (shTC_X11_143i_0 hp (mm_in_lt h_9)) g_10 hr_11) (cwV 2 hts gX11_sheet_X4_begin rfl rfl rfl (by decide +kernel) ⟨Nat.le_of_ble_eq_true rfl, Nat.le_of_ble_eq_true rfl⟩) (mq_preV (q := (RX4, TX4, 3)) mm_zOkC hK hP hI hZ hS (shTC_X11_143i_0 hp (mm_in_lt h_9)) rfl) rfl rfl hl.1 rfl (lv_room (Nat.le_of_ble_eq_true rfl)) dX11_sheet_37 ⟨Nat.le_refl _, Nat.le_refl _⟩) hS (fun H locs hP hS => ?_)
            refine lv_iload_n hx hb dX11_sheet_40 rfl (lv_at hl 3 rfl) ?_
            exact mq_iret hx hb hr rfl hlocks hP hS (pr_1 hf) (pr_2 hf) dX11_sheet_41
          · replace hf := ite_f c_8 hf
            refine lv_bipush (v := (-14)) hx hb dX11_sheet_26 (by decide) ?_
            exact mq_iret hx hb hr rfl hlocks hP hS (pr_1 hf) (pr_2 hf) dX11_sheet_28
        · replace hf := ite_f c_7 hf
          refine lv_iconst (v := (-1)) hx hb dX11_sheet_20 (by decide) ?_
          exact mq_iret hx hb hr rfl hlocks hP hS (pr_1 hf) (pr_2 hf) dX11_sheet_21
  exact hH9 s.heap [] rfl rfl hP hS
abbrev rm_X11_drop : Room := ({ frames := 2, cells := 0, slots := 0, locals := 42 } : Room)
set_option maxHeartbeats 4000000 in
set_option maxRecDepth 100000 in
theorem c_X11_drop (l : Launch) (D : va_G) (ad : Nat → Nat) (cy : Nat → ClassId) (x1 : Int32) (g : Mm) (hp : TC[0]? = some sX11) (r0 : Int32) (g' : Mm) (hf : f_X11_drop x1 g = some (r0, g')) : Met l yX11_drop wsX11_drop rm_X11_drop (va_Pc [.ref (ad 0), .int x1] (mm_pre mm_Z D TC ad cy g)) (mm_Qi D TC ad cy r0 g') 0 0 (mm_A TC ad) := by
  refine Met.ofW (cc := cX11_drop) (maxL := 4) (ret := (some .int)) (by decide) rfl ?_
  intro p e s m args below meth c s₁ B hml hv
  obtain ⟨hargs, hP, hK, hI, hZ⟩ := hv
  have hx := B.exec
  have hb := B.bytes
  have hr := B.returns
  have hts := atoms_spec (ws := wsX11_drop) B.pre
  have hown : s.vm.findClass RX11 = some m.cls := findClass_of_methodNamed B.named
  have hlocks := B.notSynchronized
  have hw0 := hts (.fieldLink RX11 56 "LeftShoes" "sheets" "[LLeftShoes$Sheet;") (by decide +kernel)
  have hiX11 : ∀ w ∈ wsX110, w ∈ wsX11_drop := by decide +kernel
  have hw2 := hts (.fieldLink RX11 314 "LeftShoes$Sheet" "length" "I") (by decide +kernel)
  have hiX4 : ∀ w ∈ wsX40, w ∈ wsX11_drop := by decide +kernel
  rw [show entryFrame m args 4 = F0 m 0 ((lg_sl ([.ref (ad 0), .int x1] : List Value) ++ List.replicate (4 - (lg_sl ([.ref (ad 0), .int x1] : List Value)).length) Slot.unset).toArray) [] from by rw [hargs]; exact lg_entry_eq m _ _]
  have hl := lv_entry ([.ref (ad 0), .int x1] : List Value) (n := 4) (by exact Nat.le_of_ble_eq_true rfl)
  generalize (lg_sl ([.ref (ad 0), .int x1] : List Value) ++ List.replicate (4 - (lg_sl ([.ref (ad 0), .int x1] : List Value)).length) Slot.unset).toArray = ls at hl ⊢
  have hl : lv_has ls 4 [(0, .ref (ad 0)), (1, .int x1)] := by exact hl
  have hS : va_S (mm_A TC ad) s.heap s.heap [] := va_S.rf
  clear hargs
  unfold f_X11_drop at hf
  have hH9 : ∀ (H : Heap) (locs : List Loc), H = s.heap → locs = [] → va_P D vwCl (mm_L TC ad cy g) H → va_S (mm_A TC ad) s.heap H locs → W p l e (headSpec wsX11_drop (rm_X11_drop)).room s m args below meth c H locs 0 0 (MQ below (mm_Qi D TC ad cy r0 g') args s 0 0 (mm_A TC ad)) (F0 m 0 ls []) := by
    intro H locs hH9 hL9 hP hS
    clear hH9 hL9
    refine lv_iload_n hx hb dX11_drop_0 rfl (lv_at hl 1 rfl) ?_
    obtain ⟨r_1, hr_2, hf⟩ := op_some hf
    refine mq_calli (va_runS (As := [.int x1]) (rest := []) ⟨hx, hb, hml, hown, hts⟩ (c_X11_isSheet l D ad cy x1 g r_1 hr_2) (va_cwS 1 hts gX11_drop_X11_isSheet rfl rfl rfl (by decide +kernel) ⟨Nat.le_of_ble_eq_true rfl, Nat.le_of_ble_eq_true rfl⟩) (mq_preS mm_zOkC hK hP hI hZ hS) rfl rfl hl.1 rfl (lv_room (Nat.le_of_ble_eq_true rfl)) dX11_drop_1 ⟨Nat.le_refl _, Nat.le_refl _⟩) hS (fun H locs hP hS => ?_)
    refine lv_if_ne (tgt := 9) hx hb dX11_drop_4 (by decide) (fun c_3 => ?_) (fun c_3 => ?_)
    · replace hf := ite_f c_3 hf
      refine lv_aload_n hx hb dX11_drop_9 rfl (lv_at hl 0 rfl) ?_
      refine mq_getr (Tt := TX11) (N := 9) (C := RX11) hx hb hts hiX11 hown hK hP hp rfl 8 142 (by decide) rfl hw0 (fun _ h9 => h9) dX11_drop_10 ?_
      refine lv_iload_n hx hb dX11_drop_13 rfl (lv_at hl 1 rfl) ?_
      obtain ⟨h_4, hf⟩ := og_some hf
      refine mq_aald hx hb hK hP (N := 4) (shTC_X11_142 hp) rfl h_4 dX11_drop_14 ?_
      refine lv_astore_n (lv' := [(2, .ref (ad (143 + x1.toNatClampNeg))), (0, .ref (ad 0)), (1, .int x1)]) hx hb dX11_drop_15 rfl hl (by decide) rfl (fun ls hl => ?_)
      refine lv_aload_n hx hb dX11_drop_16 rfl (lv_at hl 0 rfl) ?_
      obtain ⟨r_5, hr_6, hf⟩ := op_some hf
      refine mq_calli (va_runV (As := []) (rest := []) ⟨hx, hb, hml, hown, hts⟩ (c_X4_isNothing l D ad cy (143 + x1.toNatClampNeg) g (shTC_X11_143i_0 hp (mm_in_lt h_4)) r_5 hr_6) (cwV 0 hts gX11_drop_X4_isNothing rfl rfl rfl (by decide +kernel) ⟨Nat.le_of_ble_eq_true rfl, Nat.le_of_ble_eq_true rfl⟩) (mq_preV (q := (RX4, TX4, 3)) mm_zOkC hK hP hI hZ hS (shTC_X11_143i_0 hp (mm_in_lt h_4)) rfl) rfl rfl hl.1 rfl (lv_room (Nat.le_of_ble_eq_true rfl)) dX11_drop_17 ⟨Nat.le_refl _, Nat.le_refl _⟩) hS (fun H locs hP hS => ?_)
      refine lv_if_eq (tgt := 26) hx hb dX11_drop_20 (by decide) (fun c_7 => ?_) (fun c_7 => ?_)
      · replace hf := ite_t c_7 hf
        refine lv_aload_n hx hb dX11_drop_26 rfl (lv_at hl 0 rfl) ?_
        refine mq_geti (Tt := TX4) (N := 3) (C := RX4) hx hb hts hiX4 hown hK hP (shTC_X11_143i_0 hp (mm_in_lt h_4)) rfl 2 (by decide) rfl hw2 (fun _ h9 => h9) dX11_drop_27 ?_
        obtain ⟨x3_8, ex3_8, hf⟩ := mv_some hf
        refine mq_nm ex3_8 ?_
        refine lv_istore_n (lv' := [(3, .int x3_8), (2, .ref (ad (143 + x1.toNatClampNeg))), (0, .ref (ad 0)), (1, .int x1)]) hx hb dX11_drop_30 rfl hl (by decide) rfl (fun ls hl => ?_)
        refine lv_aload_n hx hb dX11_drop_31 rfl (lv_at hl 1 rfl) ?_
        obtain ⟨g_9, hr_10, hf⟩ := op_some hf
        refine mq_callv (va_runV (As := []) (rest := []) ⟨hx, hb, hml, hown, hts⟩ (c_X4_clear l D ad cy (143 + x1.toNatClampNeg) g (shTC_X11_143i_0 hp (mm_in_lt h_4)) g_9 hr_10) (cwV 0 hts gX11_drop_X4_clear rfl rfl rfl (by decide +kernel) ⟨Nat.le_of_ble_eq_true rfl, Nat.le_of_ble_eq_true rfl⟩) (mq_preV (q := (RX4, TX4, 3)) mm_zOkC hK hP hI hZ hS (shTC_X11_143i_0 hp (mm_in_lt h_4)) rfl) rfl rfl hl.1 rfl (lv_room (Nat.le_of_ble_eq_true rfl)) dX11_drop_32 ⟨Nat.le_refl _, Nat.le_refl _⟩) hS (fun H locs hP hS => ?_)
        refine lv_iload_n hx hb dX11_drop_35 rfl (lv_at hl 0 rfl) ?_
        exact mq_iret hx hb hr rfl hlocks hP hS (pr_1 hf) (pr_2 hf) dX11_drop_36
      · replace hf := ite_f c_7 hf
        refine lv_bipush (v := (-11)) hx hb dX11_drop_23 (by decide) ?_
        exact mq_iret hx hb hr rfl hlocks hP hS (pr_1 hf) (pr_2 hf) dX11_drop_25
    · replace hf := ite_t c_3 hf
      refine lv_iconst (v := (-1)) hx hb dX11_drop_7 (by decide) ?_
      exact mq_iret hx hb hr rfl hlocks hP hS (pr_1 hf) (pr_2 hf) dX11_drop_8
  exact hH9 s.heap [] rfl rfl hP hS
abbrev rm_X11_item : Room := ({ frames := 2, cells := 0, slots := 0, locals := 45 } : Room)
set_option maxHeartbeats 4000000 in
set_option maxRecDepth 100000 in
theorem c_X11_item (l : Launch) (D : va_G) (ad : Nat → Nat) (cy : Nat → ClassId) (x1 : Int32) (x2 : Int32) (x3 : Int32) (x4 : Int32) (g : Mm) (hp : TC[0]? = some sX11) (r0 : Int32) (g' : Mm) (hf : f_X11_item x1 x2 x3 x4 g = some (r0, g')) : Met l yX11_item wsX11_item rm_X11_item (va_Pc [.ref (ad 0), .int x1, .int x2, .int x3, .int x4] (mm_pre mm_Z D TC ad cy g)) (mm_Qi D TC ad cy r0 g') 0 0 (mm_A TC ad) := by
  refine Met.ofW (cc := cX11_item) (maxL := 6) (ret := (some .int)) (by decide) rfl ?_
  intro p e s m args below meth c s₁ B hml hv
  obtain ⟨hargs, hP, hK, hI, hZ⟩ := hv
  have hx := B.exec
  have hb := B.bytes
  have hr := B.returns
  have hts := atoms_spec (ws := wsX11_item) B.pre
  have hown : s.vm.findClass RX11 = some m.cls := findClass_of_methodNamed B.named
  have hlocks := B.notSynchronized
  have hw0 := hts (.fieldLink RX11 56 "LeftShoes" "sheets" "[LLeftShoes$Sheet;") (by decide +kernel)
  have hiX11 : ∀ w ∈ wsX110, w ∈ wsX11_item := by decide +kernel
  rw [show entryFrame m args 6 = F0 m 0 ((lg_sl ([.ref (ad 0), .int x1, .int x2, .int x3, .int x4] : List Value) ++ List.replicate (6 - (lg_sl ([.ref (ad 0), .int x1, .int x2, .int x3, .int x4] : List Value)).length) Slot.unset).toArray) [] from by rw [hargs]; exact lg_entry_eq m _ _]
  have hl := lv_entry ([.ref (ad 0), .int x1, .int x2, .int x3, .int x4] : List Value) (n := 6) (by exact Nat.le_of_ble_eq_true rfl)
  generalize (lg_sl ([.ref (ad 0), .int x1, .int x2, .int x3, .int x4] : List Value) ++ List.replicate (6 - (lg_sl ([.ref (ad 0), .int x1, .int x2, .int x3, .int x4] : List Value)).length) Slot.unset).toArray = ls at hl ⊢
  have hl : lv_has ls 6 [(0, .ref (ad 0)), (1, .int x1), (2, .int x2), (3, .int x3), (4, .int x4)] := by exact hl
  have hS : va_S (mm_A TC ad) s.heap s.heap [] := va_S.rf
  clear hargs
  unfold f_X11_item at hf
  have hH9 : ∀ (H : Heap) (locs : List Loc), H = s.heap → locs = [] → va_P D vwCl (mm_L TC ad cy g) H → va_S (mm_A TC ad) s.heap H locs → W p l e (headSpec wsX11_item (rm_X11_item)).room s m args below meth c H locs 0 0 (MQ below (mm_Qi D TC ad cy r0 g') args s 0 0 (mm_A TC ad)) (F0 m 0 ls []) := by
    intro H locs hH9 hL9 hP hS
    clear hH9 hL9
    refine lv_iload_n hx hb dX11_item_0 rfl (lv_at hl 1 rfl) ?_
    obtain ⟨r_1, hr_2, hf⟩ := op_some hf
    refine mq_calli (va_runS (As := [.int x1]) (rest := []) ⟨hx, hb, hml, hown, hts⟩ (c_X11_isSheet l D ad cy x1 g r_1 hr_2) (va_cwS 1 hts gX11_item_X11_isSheet rfl rfl rfl (by decide +kernel) ⟨Nat.le_of_ble_eq_true rfl, Nat.le_of_ble_eq_true rfl⟩) (mq_preS mm_zOkC hK hP hI hZ hS) rfl rfl hl.1 rfl (lv_room (Nat.le_of_ble_eq_true rfl)) dX11_item_1 ⟨Nat.le_refl _, Nat.le_refl _⟩) hS (fun H locs hP hS => ?_)
    refine lv_if_eq (tgt := 14) hx hb dX11_item_4 (by decide) (fun c_3 => ?_) (fun c_3 => ?_)
    · replace hf := ite_t c_3 hf
      refine lv_iconst (v := (-1)) hx hb dX11_item_14 (by decide) ?_
      exact mq_iret hx hb hr rfl hlocks hP hS (pr_1 hf) (pr_2 hf) dX11_item_15
    · replace hf := ite_f c_3 hf
      refine lv_iload_n hx hb dX11_item_7 rfl (lv_at hl 2 rfl) ?_
      obtain ⟨r_4, hr_5, hf⟩ := op_some hf
      refine mq_calli (va_runS (As := [.int x2]) (rest := []) ⟨hx, hb, hml, hown, hts⟩ (c_X11_isLane l D ad cy x2 g r_4 hr_5) (va_cwS 1 hts gX11_item_X11_isLane rfl rfl rfl (by decide +kernel) ⟨Nat.le_of_ble_eq_true rfl, Nat.le_of_ble_eq_true rfl⟩) (mq_preS mm_zOkC hK hP hI hZ hS) rfl rfl hl.1 rfl (lv_room (Nat.le_of_ble_eq_true rfl)) dX11_item_8 ⟨Nat.le_refl _, Nat.le_refl _⟩) hS (fun H locs hP hS => ?_)
      refine lv_if_ne (tgt := 16) hx hb dX11_item_11 (by decide) (fun c_6 => ?_) (fun c_6 => ?_)
      · replace hf := ite_f c_6 hf
        refine lv_aload_n hx hb dX11_item_16 rfl (lv_at hl 0 rfl) ?_
        refine mq_getr (Tt := TX11) (N := 9) (C := RX11) hx hb hts hiX11 hown hK hP hp rfl 8 142 (by decide) rfl hw0 (fun _ h9 => h9) dX11_item_17 ?_
        refine lv_iload_n hx hb dX11_item_20 rfl (lv_at hl 1 rfl) ?_
        obtain ⟨h_7, hf⟩ := og_some hf
        refine mq_aald hx hb hK hP (N := 4) (shTC_X11_142 hp) rfl h_7 dX11_item_21 ?_
        refine lv_iload_n hx hb dX11_item_22 rfl (lv_at hl 2 rfl) ?_
        refine lv_iload_n hx hb dX11_item_23 rfl (lv_at hl 3 rfl) ?_
        refine lv_iconst (v := 1) hx hb dX11_item_24 (by decide) ?_
        obtain ⟨r_8, hr_9, hf⟩ := op_some hf
        refine mq_calli (va_runV (As := [.int x2, .int x3, .int 1]) (rest := []) ⟨hx, hb, hml, hown, hts⟩ (c_X4_refusal l D ad cy (143 + x1.toNatClampNeg) x2 x3 1 g (shTC_X11_143i_0 hp (mm_in_lt h_7)) r_8 hr_9) (cwV 3 hts gX11_item_X4_refusal rfl rfl rfl (by decide +kernel) ⟨Nat.le_of_ble_eq_true rfl, Nat.le_of_ble_eq_true rfl⟩) (mq_preV (q := (RX4, TX4, 3)) mm_zOkC hK hP hI hZ hS (shTC_X11_143i_0 hp (mm_in_lt h_7)) rfl) rfl rfl hl.1 rfl (lv_room (Nat.le_of_ble_eq_true rfl)) dX11_item_25 ⟨Nat.le_refl _, Nat.le_refl _⟩) hS (fun H locs hP hS => ?_)
        refine lv_istore (lv' := [(5, .int r_8), (0, .ref (ad 0)), (1, .int x1), (2, .int x2), (3, .int x3), (4, .int x4)]) hx hb dX11_item_28 hl (by decide) rfl (fun ls hl => ?_)
        refine lv_iload hx hb dX11_item_30 (lv_at hl 0 rfl) ?_
        refine lv_if_ge (tgt := 38) hx hb dX11_item_32 (by decide) (fun c_10 => ?_) (fun c_10 => ?_)
        · replace hf := ite_t c_10 hf
          refine lv_aload_n hx hb dX11_item_38 rfl (lv_at hl 1 rfl) ?_
          refine mq_getr (Tt := TX11) (N := 9) (C := RX11) hx hb hts hiX11 hown hK hP hp rfl 8 142 (by decide) rfl hw0 (fun _ h9 => h9) dX11_item_39 ?_
          refine lv_iload_n hx hb dX11_item_42 rfl (lv_at hl 2 rfl) ?_
          obtain ⟨h_11, hf⟩ := og_some hf
          refine mq_aald hx hb hK hP (N := 4) (shTC_X11_142 hp) rfl h_11 dX11_item_43 ?_
          refine lv_iload_n hx hb dX11_item_44 rfl (lv_at hl 4 rfl) ?_
          refine lv_iload hx hb dX11_item_45 (lv_at hl 5 rfl) ?_
          obtain ⟨g_12, hr_13, hf⟩ := op_some hf
          refine mq_callv (va_runV (As := [.int x3, .int x4]) (rest := []) ⟨hx, hb, hml, hown, hts⟩ (c_X4_put l D ad cy (143 + x1.toNatClampNeg) x3 x4 g (shTC_X11_143i_0 hp (mm_in_lt h_11)) g_12 hr_13) (cwV 2 hts gX11_item_X4_put rfl rfl rfl (by decide +kernel) ⟨Nat.le_of_ble_eq_true rfl, Nat.le_of_ble_eq_true rfl⟩) (mq_preV (q := (RX4, TX4, 3)) mm_zOkC hK hP hI hZ hS (shTC_X11_143i_0 hp (mm_in_lt h_11)) rfl) rfl rfl hl.1 rfl (lv_room (Nat.le_of_ble_eq_true rfl)) dX11_item_47 ⟨Nat.le_refl _, Nat.le_refl _⟩) hS (fun H locs hP hS => ?_)
          refine lv_iconst (v := 1) hx hb dX11_item_50 (by decide) ?_
          exact mq_iret hx hb hr rfl hlocks hP hS (pr_1 hf) (pr_2 hf) dX11_item_51
        · replace hf := ite_f c_10 hf
          refine lv_iload hx hb dX11_item_35 (lv_at hl 0 rfl) ?_
          exact mq_iret hx hb hr rfl hlocks hP hS (pr_1 hf) (pr_2 hf) dX11_item_37
      · replace hf := ite_t c_6 hf
        refine lv_iconst (v := (-1)) hx hb dX11_item_14 (by decide) ?_
        exact mq_iret hx hb hr rfl hlocks hP hS (pr_1 hf) (pr_2 hf) dX11_item_15
  exact hH9 s.heap [] rfl rfl hP hS
abbrev rm_X11_copy : Room := ({ frames := 2, cells := 0, slots := 0, locals := 60 } : Room)
set_option maxHeartbeats 4000000 in
set_option maxRecDepth 100000 in
theorem c_X11_copy (l : Launch) (D : va_G) (ad : Nat → Nat) (cy : Nat → ClassId) (x1 : Int32) (x2 : Int32) (x3 : Int32) (x4 : Int32) (x5 : Int32) (g : Mm) (hp : TC[0]? = some sX11) (r0 : Int32) (g' : Mm) (hf : f_X11_copy x1 x2 x3 x4 x5 g = some (r0, g')) : Met l yX11_copy wsX11_copy rm_X11_copy (va_Pc [.ref (ad 0), .int x1, .int x2, .int x3, .int x4, .int x5] (mm_pre mm_Z D TC ad cy g)) (mm_Qi D TC ad cy r0 g') 0 0 (mm_A TC ad) := by
  refine Met.ofW (cc := cX11_copy) (maxL := 8) (ret := (some .int)) (by decide) rfl ?_
  intro p e s m args below meth c s₁ B hml hv
  obtain ⟨hargs, hP, hK, hI, hZ⟩ := hv
  have hx := B.exec
  have hb := B.bytes
  have hr := B.returns
  have hts := atoms_spec (ws := wsX11_copy) B.pre
  have hown : s.vm.findClass RX11 = some m.cls := findClass_of_methodNamed B.named
  have hlocks := B.notSynchronized
  have hw0 := hts (.fieldLink RX11 56 "LeftShoes" "sheets" "[LLeftShoes$Sheet;") (by decide +kernel)
  have hiX11 : ∀ w ∈ wsX110, w ∈ wsX11_copy := by decide +kernel
  have hw2 := hts (.fieldLink RX11 321 "LeftShoes$Sheet" "lane" "I") (by decide +kernel)
  have hiX4 : ∀ w ∈ wsX40, w ∈ wsX11_copy := by decide +kernel
  have hw4 := hts (.fieldLink RX11 327 "LeftShoes$Sheet" "items" "[I") (by decide +kernel)
  have hw5 := hts (.methodLink RX11 330 arraycopyName) (by decide +kernel)
  have hw6 := hts (.native arraycopyName) (by decide +kernel)
  have hw7 := hts (.static arraycopyName) (by decide +kernel)
  have hw8 := hts (.initialized "java/lang/System") (by decide +kernel)
  rw [show entryFrame m args 8 = F0 m 0 ((lg_sl ([.ref (ad 0), .int x1, .int x2, .int x3, .int x4, .int x5] : List Value) ++ List.replicate (8 - (lg_sl ([.ref (ad 0), .int x1, .int x2, .int x3, .int x4, .int x5] : List Value)).length) Slot.unset).toArray) [] from by rw [hargs]; exact lg_entry_eq m _ _]
  have hl := lv_entry ([.ref (ad 0), .int x1, .int x2, .int x3, .int x4, .int x5] : List Value) (n := 8) (by exact Nat.le_of_ble_eq_true rfl)
  generalize (lg_sl ([.ref (ad 0), .int x1, .int x2, .int x3, .int x4, .int x5] : List Value) ++ List.replicate (8 - (lg_sl ([.ref (ad 0), .int x1, .int x2, .int x3, .int x4, .int x5] : List Value)).length) Slot.unset).toArray = ls at hl ⊢
  have hl : lv_has ls 8 [(0, .ref (ad 0)), (1, .int x1), (2, .int x2), (3, .int x3), (4, .int x4), (5, .int x5)] := by exact hl
  have hS : va_S (mm_A TC ad) s.heap s.heap [] := va_S.rf
  clear hargs
  unfold f_X11_copy at hf
  have hH9 : ∀ (H : Heap) (locs : List Loc), H = s.heap → locs = [] → va_P D vwCl (mm_L TC ad cy g) H → va_S (mm_A TC ad) s.heap H locs → W p l e (headSpec wsX11_copy (rm_X11_copy)).room s m args below meth c H locs 0 0 (MQ below (mm_Qi D TC ad cy r0 g') args s 0 0 (mm_A TC ad)) (F0 m 0 ls []) := by
    intro H locs hH9 hL9 hP hS
    clear hH9 hL9
    refine lv_iload_n hx hb dX11_copy_0 rfl (lv_at hl 1 rfl) ?_
    obtain ⟨r_1, hr_2, hf⟩ := op_some hf
    refine mq_calli (va_runS (As := [.int x1]) (rest := []) ⟨hx, hb, hml, hown, hts⟩ (c_X11_isSheet l D ad cy x1 g r_1 hr_2) (va_cwS 1 hts gX11_copy_X11_isSheet rfl rfl rfl (by decide +kernel) ⟨Nat.le_of_ble_eq_true rfl, Nat.le_of_ble_eq_true rfl⟩) (mq_preS mm_zOkC hK hP hI hZ hS) rfl rfl hl.1 rfl (lv_room (Nat.le_of_ble_eq_true rfl)) dX11_copy_1 ⟨Nat.le_refl _, Nat.le_refl _⟩) hS (fun H locs hP hS => ?_)
    refine lv_if_eq (tgt := 14) hx hb dX11_copy_4 (by decide) (fun c_3 => ?_) (fun c_3 => ?_)
    · replace hf := ite_t c_3 hf
      refine lv_iconst (v := (-1)) hx hb dX11_copy_14 (by decide) ?_
      exact mq_iret hx hb hr rfl hlocks hP hS (pr_1 hf) (pr_2 hf) dX11_copy_15
    · replace hf := ite_f c_3 hf
      refine lv_iload_n hx hb dX11_copy_7 rfl (lv_at hl 3 rfl) ?_
      obtain ⟨r_4, hr_5, hf⟩ := op_some hf
      refine mq_calli (va_runS (As := [.int x3]) (rest := []) ⟨hx, hb, hml, hown, hts⟩ (c_X11_isSheet l D ad cy x3 g r_4 hr_5) (va_cwS 1 hts gX11_copy_X11_isSheet rfl rfl rfl (by decide +kernel) ⟨Nat.le_of_ble_eq_true rfl, Nat.le_of_ble_eq_true rfl⟩) (mq_preS mm_zOkC hK hP hI hZ hS) rfl rfl hl.1 rfl (lv_room (Nat.le_of_ble_eq_true rfl)) dX11_copy_8 ⟨Nat.le_refl _, Nat.le_refl _⟩) hS (fun H locs hP hS => ?_)
      refine lv_if_ne (tgt := 16) hx hb dX11_copy_11 (by decide) (fun c_6 => ?_) (fun c_6 => ?_)
      · replace hf := ite_f c_6 hf
        refine lv_aload_n hx hb dX11_copy_16 rfl (lv_at hl 0 rfl) ?_
        refine mq_getr (Tt := TX11) (N := 9) (C := RX11) hx hb hts hiX11 hown hK hP hp rfl 8 142 (by decide) rfl hw0 (fun _ h9 => h9) dX11_copy_17 ?_
        refine lv_iload_n hx hb dX11_copy_20 rfl (lv_at hl 1 rfl) ?_
        obtain ⟨h_7, hf⟩ := og_some hf
        refine mq_aald hx hb hK hP (N := 4) (shTC_X11_142 hp) rfl h_7 dX11_copy_21 ?_
        refine lv_astore (lv' := [(6, .ref (ad (143 + x1.toNatClampNeg))), (0, .ref (ad 0)), (1, .int x1), (2, .int x2), (3, .int x3), (4, .int x4), (5, .int x5)]) hx hb dX11_copy_22 hl (by decide) rfl (fun ls hl => ?_)
        refine lv_aload_n hx hb dX11_copy_24 rfl (lv_at hl 1 rfl) ?_
        refine mq_getr (Tt := TX11) (N := 9) (C := RX11) hx hb hts hiX11 hown hK hP hp rfl 8 142 (by decide) rfl hw0 (fun _ h9 => h9) dX11_copy_25 ?_
        refine lv_iload_n hx hb dX11_copy_28 rfl (lv_at hl 4 rfl) ?_
        obtain ⟨h_8, hf⟩ := og_some hf
        refine mq_aald hx hb hK hP (N := 4) (shTC_X11_142 hp) rfl h_8 dX11_copy_29 ?_
        refine lv_astore (lv' := [(7, .ref (ad (143 + x3.toNatClampNeg))), (6, .ref (ad (143 + x1.toNatClampNeg))), (0, .ref (ad 0)), (1, .int x1), (2, .int x2), (3, .int x3), (4, .int x4), (5, .int x5)]) hx hb dX11_copy_30 hl (by decide) rfl (fun ls hl => ?_)
        refine lv_aload hx hb dX11_copy_32 (lv_at hl 1 rfl) ?_
        obtain ⟨r_9, hr_10, hf⟩ := op_some hf
        refine mq_calli (va_runV (As := []) (rest := []) ⟨hx, hb, hml, hown, hts⟩ (c_X4_isNothing l D ad cy (143 + x1.toNatClampNeg) g (shTC_X11_143i_0 hp (mm_in_lt h_7)) r_9 hr_10) (cwV 0 hts gX11_copy_X4_isNothing rfl rfl rfl (by decide +kernel) ⟨Nat.le_of_ble_eq_true rfl, Nat.le_of_ble_eq_true rfl⟩) (mq_preV (q := (RX4, TX4, 3)) mm_zOkC hK hP hI hZ hS (shTC_X11_143i_0 hp (mm_in_lt h_7)) rfl) rfl rfl hl.1 rfl (lv_room (Nat.le_of_ble_eq_true rfl)) dX11_copy_34 ⟨Nat.le_refl _, Nat.le_refl _⟩) hS (fun H locs hP hS => ?_)
        refine lv_if_ne (tgt := 48) hx hb dX11_copy_37 (by decide) (fun c_11 => ?_) (fun c_11 => ?_)
        · replace hf := ite_f c_11 hf
          refine lv_bipush (v := (-11)) hx hb dX11_copy_48 (by decide) ?_
          exact mq_iret hx hb hr rfl hlocks hP hS (pr_1 hf) (pr_2 hf) dX11_copy_50
        · replace hf := ite_t c_11 hf
          refine lv_aload hx hb dX11_copy_40 (lv_at hl 0 rfl) ?_
          obtain ⟨r_12, hr_13, hf⟩ := op_some hf
          refine mq_calli (va_runV (As := []) (rest := []) ⟨hx, hb, hml, hown, hts⟩ (c_X4_isNothing l D ad cy (143 + x3.toNatClampNeg) g (shTC_X11_143i_0 hp (mm_in_lt h_8)) r_12 hr_13) (cwV 0 hts gX11_copy_X4_isNothing rfl rfl rfl (by decide +kernel) ⟨Nat.le_of_ble_eq_true rfl, Nat.le_of_ble_eq_true rfl⟩) (mq_preV (q := (RX4, TX4, 3)) mm_zOkC hK hP hI hZ hS (shTC_X11_143i_0 hp (mm_in_lt h_8)) rfl) rfl rfl hl.1 rfl (lv_room (Nat.le_of_ble_eq_true rfl)) dX11_copy_42 ⟨Nat.le_refl _, Nat.le_refl _⟩) hS (fun H locs hP hS => ?_)
          refine lv_if_eq (tgt := 51) hx hb dX11_copy_45 (by decide) (fun c_14 => ?_) (fun c_14 => ?_)
          · replace hf := ite_t c_14 hf
            refine lv_aload hx hb dX11_copy_51 (lv_at hl 1 rfl) ?_
            refine mq_geti (Tt := TX4) (N := 3) (C := RX4) hx hb hts hiX4 hown hK hP (shTC_X11_143i_0 hp (mm_in_lt h_7)) rfl 1 (by decide) rfl hw2 (fun _ h9 => h9) dX11_copy_53 ?_
            refine lv_aload hx hb dX11_copy_56 (lv_at hl 0 rfl) ?_
            refine mq_geti (Tt := TX4) (N := 3) (C := RX4) hx hb hts hiX4 hown hK hP (shTC_X11_143i_0 hp (mm_in_lt h_8)) rfl 1 (by decide) rfl hw2 (fun _ h9 => h9) dX11_copy_58 ?_
            refine lv_icmp_eq (tgt := 67) hx hb dX11_copy_61 (by decide) (fun c_15 => ?_) (fun c_15 => ?_)
            · replace hf := ite_t c_15 hf
              refine lv_aload hx hb dX11_copy_67 (lv_at hl 1 rfl) ?_
              refine lv_iload_n hx hb dX11_copy_69 rfl (lv_at hl 4 rfl) ?_
              refine lv_iload hx hb dX11_copy_70 (lv_at hl 7 rfl) ?_
              obtain ⟨r_16, hr_17, hf⟩ := op_some hf
              refine mq_calli (va_runV (As := [.int x2, .int x5]) (rest := []) ⟨hx, hb, hml, hown, hts⟩ (c_X4_holds l D ad cy (143 + x1.toNatClampNeg) x2 x5 g (shTC_X11_143i_0 hp (mm_in_lt h_7)) r_16 hr_17) (cwV 2 hts gX11_copy_X4_holds rfl rfl rfl (by decide +kernel) ⟨Nat.le_of_ble_eq_true rfl, Nat.le_of_ble_eq_true rfl⟩) (mq_preV (q := (RX4, TX4, 3)) mm_zOkC hK hP hI hZ hS (shTC_X11_143i_0 hp (mm_in_lt h_7)) rfl) rfl rfl hl.1 rfl (lv_room (Nat.le_of_ble_eq_true rfl)) dX11_copy_72 ⟨Nat.le_refl _, Nat.le_refl _⟩) hS (fun H locs hP hS => ?_)
              refine lv_if_eq (tgt := 90) hx hb dX11_copy_75 (by decide) (fun c_18 => ?_) (fun c_18 => ?_)
              · replace hf := ite_t c_18 hf
                refine lv_bipush (v := (-13)) hx hb dX11_copy_90 (by decide) ?_
                exact mq_iret hx hb hr rfl hlocks hP hS (pr_1 hf) (pr_2 hf) dX11_copy_92
              · replace hf := ite_f c_18 hf
                refine lv_aload hx hb dX11_copy_78 (lv_at hl 0 rfl) ?_
                refine lv_iload hx hb dX11_copy_80 (lv_at hl 6 rfl) ?_
                refine lv_iload hx hb dX11_copy_82 (lv_at hl 7 rfl) ?_
                obtain ⟨r_19, hr_20, hf⟩ := op_some hf
                refine mq_calli (va_runV (As := [.int x4, .int x5]) (rest := []) ⟨hx, hb, hml, hown, hts⟩ (c_X4_holds l D ad cy (143 + x3.toNatClampNeg) x4 x5 g (shTC_X11_143i_0 hp (mm_in_lt h_8)) r_19 hr_20) (cwV 2 hts gX11_copy_X4_holds rfl rfl rfl (by decide +kernel) ⟨Nat.le_of_ble_eq_true rfl, Nat.le_of_ble_eq_true rfl⟩) (mq_preV (q := (RX4, TX4, 3)) mm_zOkC hK hP hI hZ hS (shTC_X11_143i_0 hp (mm_in_lt h_8)) rfl) rfl rfl hl.1 rfl (lv_room (Nat.le_of_ble_eq_true rfl)) dX11_copy_84 ⟨Nat.le_refl _, Nat.le_refl _⟩) hS (fun H locs hP hS => ?_)
                refine lv_if_ne (tgt := 93) hx hb dX11_copy_87 (by decide) (fun c_21 => ?_) (fun c_21 => ?_)
                · replace hf := ite_f c_21 hf
                  refine lv_aload hx hb dX11_copy_93 (lv_at hl 1 rfl) ?_
                  refine mq_getr (Tt := TX4) (N := 3) (C := RX4) hx hb hts hiX4 hown hK hP (shTC_X11_143i_0 hp (mm_in_lt h_7)) rfl 0 4 (by decide) rfl hw4 (fun _ h9 => h9) dX11_copy_95 ?_
                  refine lv_iload_n hx hb dX11_copy_98 rfl (lv_at hl 4 rfl) ?_
                  refine lv_aload hx hb dX11_copy_99 (lv_at hl 0 rfl) ?_
                  refine mq_getr (Tt := TX4) (N := 3) (C := RX4) hx hb hts hiX4 hown hK hP (shTC_X11_143i_0 hp (mm_in_lt h_8)) rfl 0 4 (by decide) rfl hw4 (fun _ h9 => h9) dX11_copy_101 ?_
                  refine lv_iload hx hb dX11_copy_104 (lv_at hl 6 rfl) ?_
                  refine lv_iload hx hb dX11_copy_106 (lv_at hl 7 rfl) ?_
                  obtain ⟨h_22, hf⟩ := og_some hf
                  obtain ⟨g_23, eg_23, hf⟩ := mr_some hf
                  refine mq_copy hx hb (hml.trans hl.1.symm) hown hw5 hw6 hw7 hw8 hK hI hP hS (n0 := 24) (n1 := 24) (shTC_X11_143i_4 hp (mm_in_lt h_7)) (shTC_X11_143i_4 hp (mm_in_lt h_8)) h_22 (Nat.le_of_ble_eq_true rfl) (Nat.le_of_ble_eq_true rfl) dX11_copy_108 eg_23 (fun H locs hP hS => ?_)
                  refine lv_iload hx hb dX11_copy_111 (lv_at hl 7 rfl) ?_
                  exact mq_iret hx hb hr rfl hlocks hP hS (pr_1 hf) (pr_2 hf) dX11_copy_113
                · replace hf := ite_t c_21 hf
                  refine lv_bipush (v := (-13)) hx hb dX11_copy_90 (by decide) ?_
                  exact mq_iret hx hb hr rfl hlocks hP hS (pr_1 hf) (pr_2 hf) dX11_copy_92
            · replace hf := ite_f c_15 hf
              refine lv_bipush (v := (-12)) hx hb dX11_copy_64 (by decide) ?_
              exact mq_iret hx hb hr rfl hlocks hP hS (pr_1 hf) (pr_2 hf) dX11_copy_66
          · replace hf := ite_f c_14 hf
            refine lv_bipush (v := (-11)) hx hb dX11_copy_48 (by decide) ?_
            exact mq_iret hx hb hr rfl hlocks hP hS (pr_1 hf) (pr_2 hf) dX11_copy_50
      · replace hf := ite_t c_6 hf
        refine lv_iconst (v := (-1)) hx hb dX11_copy_14 (by decide) ?_
        exact mq_iret hx hb hr rfl hlocks hP hS (pr_1 hf) (pr_2 hf) dX11_copy_15
  exact hH9 s.heap [] rfl rfl hP hS
abbrev rm_X12_in : Room := ({ frames := 0, cells := 0, slots := 0, locals := 0 } : Room)
set_option maxHeartbeats 4000000 in
set_option maxRecDepth 100000 in
theorem c_X12_in (l : Launch) (D : va_G) (ad : Nat → Nat) (cy : Nat → ClassId) (x0 : Int64) (x2 : Int64) (x4 : Int64) (g : Mm)  (r0 : Int32) (hf : f_X12_in x0 x2 x4 = some r0) : Met l yX12_in wsX12_in rm_X12_in (va_Pc [.long x0, .long x2, .long x4] (mm_pre mm_Z0 D TM ad cy g)) (mm_Qi D TM ad cy r0 g) 0 0 (mm_A TM ad) := by
  refine Met.ofW (cc := cX12_in) (maxL := 6) (ret := (some .boolean)) (by decide) rfl ?_
  intro p e s m args below meth c s₁ B hml hv
  obtain ⟨hargs, hP, hK, hI, hZ⟩ := hv
  have hx := B.exec
  have hb := B.bytes
  have hr := B.returns
  have hts := atoms_spec (ws := wsX12_in) B.pre
  have hown : s.vm.findClass RX12 = some m.cls := findClass_of_methodNamed B.named
  have hlocks := B.notSynchronized
  rw [show entryFrame m args 6 = F0 m 0 ((lg_sl ([.long x0, .long x2, .long x4] : List Value) ++ List.replicate (6 - (lg_sl ([.long x0, .long x2, .long x4] : List Value)).length) Slot.unset).toArray) [] from by rw [hargs]; exact lg_entry_eq m _ _]
  have hl := lv_entry ([.long x0, .long x2, .long x4] : List Value) (n := 6) (by exact Nat.le_of_ble_eq_true rfl)
  generalize (lg_sl ([.long x0, .long x2, .long x4] : List Value) ++ List.replicate (6 - (lg_sl ([.long x0, .long x2, .long x4] : List Value)).length) Slot.unset).toArray = ls at hl ⊢
  have hl : lv_has ls 6 [(0, .long x0), (2, .long x2), (4, .long x4)] := by exact hl
  have hS : va_S (mm_A TM ad) s.heap s.heap [] := va_S.rf
  clear hargs
  unfold f_X12_in at hf
  have hH9 : ∀ (H : Heap) (locs : List Loc), H = s.heap → locs = [] → va_P D vwCl (mm_L TM ad cy g) H → va_S (mm_A TM ad) s.heap H locs → W p l e (headSpec wsX12_in (rm_X12_in)).room s m args below meth c H locs 0 0 (MQ below (mm_Qi D TM ad cy r0 g) args s 0 0 (mm_A TM ad)) (F0 m 0 ls []) := by
    intro H locs hH9 hL9 hP hS
    clear hH9 hL9
    refine lv_lload_n hx hb dX12_in_0 rfl (lv_at hl 0 rfl) ?_
    refine lv_lload_n hx hb dX12_in_1 rfl (lv_at hl 1 rfl) ?_
    refine W.lcmp hx hb dX12_in_2 ?_
    refine lv_if_lt (tgt := 17) hx hb dX12_in_3 (by decide) (fun c_1 => ?_) (fun c_1 => ?_)
    · replace hf := ite_t c_1 hf
      refine lv_iconst (v := 0) hx hb dX12_in_17 (by decide) ?_
      exact mq_iret hx hb hr (by decide +kernel) hlocks hP hS (Option.some.inj hf) rfl dX12_in_18
    · replace hf := ite_f c_1 hf
      refine lv_lload_n hx hb dX12_in_6 rfl (lv_at hl 0 rfl) ?_
      refine lv_lload hx hb dX12_in_7 (lv_at hl 2 rfl) ?_
      refine W.lcmp hx hb dX12_in_9 ?_
      refine lv_if_gt (tgt := 17) hx hb dX12_in_10 (by decide) (fun c_2 => ?_) (fun c_2 => ?_)
      · replace hf := ite_t c_2 hf
        refine lv_iconst (v := 0) hx hb dX12_in_17 (by decide) ?_
        exact mq_iret hx hb hr (by decide +kernel) hlocks hP hS (Option.some.inj hf) rfl dX12_in_18
      · replace hf := ite_f c_2 hf
        refine lv_iconst (v := 1) hx hb dX12_in_13 (by decide) ?_
        refine lv_goto (tgt := 18) hx hb dX12_in_14 (by decide) ?_
        exact mq_iret hx hb hr (by decide +kernel) hlocks hP hS (Option.some.inj hf) rfl dX12_in_18
  exact hH9 s.heap [] rfl rfl hP hS
abbrev rm_X12_isPerson : Room := ({ frames := 1, cells := 0, slots := 0, locals := 25 } : Room)
set_option maxHeartbeats 4000000 in
set_option maxRecDepth 100000 in
theorem c_X12_isPerson (l : Launch) (D : va_G) (ad : Nat → Nat) (cy : Nat → ClassId) (x1 : Int32) (g : Mm) (hp : TM[0]? = some sX12) (r0 : Int32) (hf : f_X12_isPerson x1 g = some r0) : Met l yX12_isPerson wsX12_isPerson rm_X12_isPerson (va_Pc [.ref (ad 0), .int x1] (mm_pre mm_Z0 D TM ad cy g)) (mm_Qi D TM ad cy r0 g) 0 0 (mm_A TM ad) := by
  refine Met.ofW (cc := cX12_isPerson) (maxL := 2) (ret := (some .boolean)) (by decide) rfl ?_
  intro p e s m args below meth c s₁ B hml hv
  obtain ⟨hargs, hP, hK, hI, hZ⟩ := hv
  have hx := B.exec
  have hb := B.bytes
  have hr := B.returns
  have hts := atoms_spec (ws := wsX12_isPerson) B.pre
  have hown : s.vm.findClass RX12 = some m.cls := findClass_of_methodNamed B.named
  have hlocks := B.notSynchronized
  have hw0 := hts (.fieldLink RX12 7 "LeftShoesModel" "now" "[I") (by decide +kernel)
  have hiX12 : ∀ w ∈ wsX120, w ∈ wsX12_isPerson := by decide +kernel
  rw [show entryFrame m args 2 = F0 m 0 ((lg_sl ([.ref (ad 0), .int x1] : List Value) ++ List.replicate (2 - (lg_sl ([.ref (ad 0), .int x1] : List Value)).length) Slot.unset).toArray) [] from by rw [hargs]; exact lg_entry_eq m _ _]
  have hl := lv_entry ([.ref (ad 0), .int x1] : List Value) (n := 2) (by exact Nat.le_of_ble_eq_true rfl)
  generalize (lg_sl ([.ref (ad 0), .int x1] : List Value) ++ List.replicate (2 - (lg_sl ([.ref (ad 0), .int x1] : List Value)).length) Slot.unset).toArray = ls at hl ⊢
  have hl : lv_has ls 2 [(0, .ref (ad 0)), (1, .int x1)] := by exact hl
  have hS : va_S (mm_A TM ad) s.heap s.heap [] := va_S.rf
  clear hargs
  unfold f_X12_isPerson at hf
  have hH9 : ∀ (H : Heap) (locs : List Loc), H = s.heap → locs = [] → va_P D vwCl (mm_L TM ad cy g) H → va_S (mm_A TM ad) s.heap H locs → W p l e (headSpec wsX12_isPerson (rm_X12_isPerson)).room s m args below meth c H locs 0 0 (MQ below (mm_Qi D TM ad cy r0 g) args s 0 0 (mm_A TM ad)) (F0 m 0 ls []) := by
    intro H locs hH9 hL9 hP hS
    clear hH9 hL9
    refine lv_iload_n hx hb dX12_isPerson_0 rfl (lv_at hl 1 rfl) ?_
    refine lv_i2l hx hb dX12_isPerson_1 rfl ?_
    refine lv_lconst (v := 0) hx hb dX12_isPerson_2 (by decide) ?_
    refine lv_aload_n hx hb dX12_isPerson_3 rfl (lv_at hl 0 rfl) ?_
    refine mq_getr (Tt := TX12) (N := 26) (C := RX12) hx hb hts hiX12 hown hK hP hp rfl 0 1 (by decide) rfl hw0 (fun _ h9 => h9) dX12_isPerson_4 ?_
    refine lv_iconst (v := 0) hx hb dX12_isPerson_7 (by decide) ?_
    refine mq_iald hx hb hK hP (N := 193) (shTM_X12_1 hp) (by decide : mm_in 0 193 = true) dX12_isPerson_8 ?_
    refine lv_iconst (v := 1) hx hb dX12_isPerson_9 (by decide) ?_
    refine lv_isub hx hb dX12_isPerson_10 ?_
    refine lv_i2l hx hb dX12_isPerson_11 rfl ?_
    obtain ⟨r_1, hr_2, hf⟩ := op_some hf
    refine mq_calli (va_runS (As := [.long (x1.toInt64), .long 0, .long (((g 1 (0 : Int32).toNatClampNeg) - 1).toInt64)]) (rest := []) ⟨hx, hb, hml, hown, hts⟩ (c_X12_in l D ad cy (x1.toInt64) 0 (((g 1 (0 : Int32).toNatClampNeg) - 1).toInt64) g r_1 hr_2) (va_cwS 3 hts gX12_isPerson_X12_in rfl rfl rfl (by decide +kernel) ⟨Nat.le_of_ble_eq_true rfl, Nat.le_of_ble_eq_true rfl⟩) (mq_preS mm_zOk0 hK hP hI hZ hS) rfl rfl hl.1 rfl (lv_room (Nat.le_of_ble_eq_true rfl)) dX12_isPerson_12 ⟨Nat.le_refl _, Nat.le_refl _⟩) hS (fun H locs hP hS => ?_)
    obtain ⟨h_3, hf⟩ := og_some hf
    exact mq_iret hx hb hr (mm_01_nar h_3) hlocks hP hS (Option.some.inj hf) rfl dX12_isPerson_15
  exact hH9 s.heap [] rfl rfl hP hS
abbrev rm_X12_isShoe : Room := ({ frames := 1, cells := 0, slots := 0, locals := 25 } : Room)
set_option maxHeartbeats 4000000 in
set_option maxRecDepth 100000 in
theorem c_X12_isShoe (l : Launch) (D : va_G) (ad : Nat → Nat) (cy : Nat → ClassId) (x1 : Int32) (g : Mm) (hp : TM[0]? = some sX12) (r0 : Int32) (hf : f_X12_isShoe x1 g = some r0) : Met l yX12_isShoe wsX12_isShoe rm_X12_isShoe (va_Pc [.ref (ad 0), .int x1] (mm_pre mm_Z0 D TM ad cy g)) (mm_Qi D TM ad cy r0 g) 0 0 (mm_A TM ad) := by
  refine Met.ofW (cc := cX12_isShoe) (maxL := 2) (ret := (some .boolean)) (by decide) rfl ?_
  intro p e s m args below meth c s₁ B hml hv
  obtain ⟨hargs, hP, hK, hI, hZ⟩ := hv
  have hx := B.exec
  have hb := B.bytes
  have hr := B.returns
  have hts := atoms_spec (ws := wsX12_isShoe) B.pre
  have hown : s.vm.findClass RX12 = some m.cls := findClass_of_methodNamed B.named
  have hlocks := B.notSynchronized
  have hw0 := hts (.fieldLink RX12 7 "LeftShoesModel" "now" "[I") (by decide +kernel)
  have hiX12 : ∀ w ∈ wsX120, w ∈ wsX12_isShoe := by decide +kernel
  rw [show entryFrame m args 2 = F0 m 0 ((lg_sl ([.ref (ad 0), .int x1] : List Value) ++ List.replicate (2 - (lg_sl ([.ref (ad 0), .int x1] : List Value)).length) Slot.unset).toArray) [] from by rw [hargs]; exact lg_entry_eq m _ _]
  have hl := lv_entry ([.ref (ad 0), .int x1] : List Value) (n := 2) (by exact Nat.le_of_ble_eq_true rfl)
  generalize (lg_sl ([.ref (ad 0), .int x1] : List Value) ++ List.replicate (2 - (lg_sl ([.ref (ad 0), .int x1] : List Value)).length) Slot.unset).toArray = ls at hl ⊢
  have hl : lv_has ls 2 [(0, .ref (ad 0)), (1, .int x1)] := by exact hl
  have hS : va_S (mm_A TM ad) s.heap s.heap [] := va_S.rf
  clear hargs
  unfold f_X12_isShoe at hf
  have hH9 : ∀ (H : Heap) (locs : List Loc), H = s.heap → locs = [] → va_P D vwCl (mm_L TM ad cy g) H → va_S (mm_A TM ad) s.heap H locs → W p l e (headSpec wsX12_isShoe (rm_X12_isShoe)).room s m args below meth c H locs 0 0 (MQ below (mm_Qi D TM ad cy r0 g) args s 0 0 (mm_A TM ad)) (F0 m 0 ls []) := by
    intro H locs hH9 hL9 hP hS
    clear hH9 hL9
    refine lv_iload_n hx hb dX12_isShoe_0 rfl (lv_at hl 1 rfl) ?_
    refine lv_i2l hx hb dX12_isShoe_1 rfl ?_
    refine lv_lconst (v := 0) hx hb dX12_isShoe_2 (by decide) ?_
    refine lv_aload_n hx hb dX12_isShoe_3 rfl (lv_at hl 0 rfl) ?_
    refine mq_getr (Tt := TX12) (N := 26) (C := RX12) hx hb hts hiX12 hown hK hP hp rfl 0 1 (by decide) rfl hw0 (fun _ h9 => h9) dX12_isShoe_4 ?_
    refine lv_iconst (v := 1) hx hb dX12_isShoe_7 (by decide) ?_
    refine mq_iald hx hb hK hP (N := 193) (shTM_X12_1 hp) (by decide : mm_in 1 193 = true) dX12_isShoe_8 ?_
    refine lv_iconst (v := 1) hx hb dX12_isShoe_9 (by decide) ?_
    refine lv_isub hx hb dX12_isShoe_10 ?_
    refine lv_i2l hx hb dX12_isShoe_11 rfl ?_
    obtain ⟨r_1, hr_2, hf⟩ := op_some hf
    refine mq_calli (va_runS (As := [.long (x1.toInt64), .long 0, .long (((g 1 (1 : Int32).toNatClampNeg) - 1).toInt64)]) (rest := []) ⟨hx, hb, hml, hown, hts⟩ (c_X12_in l D ad cy (x1.toInt64) 0 (((g 1 (1 : Int32).toNatClampNeg) - 1).toInt64) g r_1 hr_2) (va_cwS 3 hts gX12_isShoe_X12_in rfl rfl rfl (by decide +kernel) ⟨Nat.le_of_ble_eq_true rfl, Nat.le_of_ble_eq_true rfl⟩) (mq_preS mm_zOk0 hK hP hI hZ hS) rfl rfl hl.1 rfl (lv_room (Nat.le_of_ble_eq_true rfl)) dX12_isShoe_12 ⟨Nat.le_refl _, Nat.le_refl _⟩) hS (fun H locs hP hS => ?_)
    obtain ⟨h_3, hf⟩ := og_some hf
    exact mq_iret hx hb hr (mm_01_nar h_3) hlocks hP hS (Option.some.inj hf) rfl dX12_isShoe_15
  exact hH9 s.heap [] rfl rfl hP hS
abbrev rm_X12_person : Room := ({ frames := 1, cells := 0, slots := 0, locals := 25 } : Room)
set_option maxHeartbeats 4000000 in
set_option maxRecDepth 100000 in
theorem c_X12_person (l : Launch) (D : va_G) (ad : Nat → Nat) (cy : Nat → ClassId) (x1 : Int32) (x2 : Int32) (g : Mm) (hp : TM[0]? = some sX12) (r0 : Int32) (g' : Mm) (hf : f_X12_person x1 x2 g = some (r0, g')) : Met l yX12_person wsX12_person rm_X12_person (va_Pc [.ref (ad 0), .int x1, .int x2] (mm_pre mm_Z0 D TM ad cy g)) (mm_Qi D TM ad cy r0 g') 0 0 (mm_A TM ad) := by
  refine Met.ofW (cc := cX12_person) (maxL := 4) (ret := (some .int)) (by decide) rfl ?_
  intro p e s m args below meth c s₁ B hml hv
  obtain ⟨hargs, hP, hK, hI, hZ⟩ := hv
  have hx := B.exec
  have hb := B.bytes
  have hr := B.returns
  have hts := atoms_spec (ws := wsX12_person) B.pre
  have hown : s.vm.findClass RX12 = some m.cls := findClass_of_methodNamed B.named
  have hlocks := B.notSynchronized
  have hw0 := hts (.constantLong RX12 71 (9999)) (by decide +kernel)
  have hw1 := hts (.constantLong RX12 73 (2)) (by decide +kernel)
  have hw2 := hts (.fieldLink RX12 7 "LeftShoesModel" "now" "[I") (by decide +kernel)
  have hiX12 : ∀ w ∈ wsX120, w ∈ wsX12_person := by decide +kernel
  rw [show entryFrame m args 4 = F0 m 0 ((lg_sl ([.ref (ad 0), .int x1, .int x2] : List Value) ++ List.replicate (4 - (lg_sl ([.ref (ad 0), .int x1, .int x2] : List Value)).length) Slot.unset).toArray) [] from by rw [hargs]; exact lg_entry_eq m _ _]
  have hl := lv_entry ([.ref (ad 0), .int x1, .int x2] : List Value) (n := 4) (by exact Nat.le_of_ble_eq_true rfl)
  generalize (lg_sl ([.ref (ad 0), .int x1, .int x2] : List Value) ++ List.replicate (4 - (lg_sl ([.ref (ad 0), .int x1, .int x2] : List Value)).length) Slot.unset).toArray = ls at hl ⊢
  have hl : lv_has ls 4 [(0, .ref (ad 0)), (1, .int x1), (2, .int x2)] := by exact hl
  have hS : va_S (mm_A TM ad) s.heap s.heap [] := va_S.rf
  clear hargs
  unfold f_X12_person at hf
  have hH9 : ∀ (H : Heap) (locs : List Loc), H = s.heap → locs = [] → va_P D vwCl (mm_L TM ad cy g) H → va_S (mm_A TM ad) s.heap H locs → W p l e (headSpec wsX12_person (rm_X12_person)).room s m args below meth c H locs 0 0 (MQ below (mm_Qi D TM ad cy r0 g') args s 0 0 (mm_A TM ad)) (F0 m 0 ls []) := by
    intro H locs hH9 hL9 hP hS
    clear hH9 hL9
    refine lv_iload_n hx hb dX12_person_0 rfl (lv_at hl 1 rfl) ?_
    refine lv_i2l hx hb dX12_person_1 rfl ?_
    refine lv_lconst (v := 0) hx hb dX12_person_2 (by decide) ?_
    refine lv_ldc2 (v := 9999) hx hb hown hw0 dX12_person_3 ?_
    obtain ⟨r_1, hr_2, hf⟩ := op_some hf
    refine mq_calli (va_runS (As := [.long (x1.toInt64), .long 0, .long 9999]) (rest := []) ⟨hx, hb, hml, hown, hts⟩ (c_X12_in l D ad cy (x1.toInt64) 0 9999 g r_1 hr_2) (va_cwS 3 hts gX12_person_X12_in rfl rfl rfl (by decide +kernel) ⟨Nat.le_of_ble_eq_true rfl, Nat.le_of_ble_eq_true rfl⟩) (mq_preS mm_zOk0 hK hP hI hZ hS) rfl rfl hl.1 rfl (lv_room (Nat.le_of_ble_eq_true rfl)) dX12_person_6 ⟨Nat.le_refl _, Nat.le_refl _⟩) hS (fun H locs hP hS => ?_)
    refine lv_if_eq (tgt := 24) hx hb dX12_person_9 (by decide) (fun c_3 => ?_) (fun c_3 => ?_)
    · replace hf := ite_t c_3 hf
      refine lv_iconst (v := (-1)) hx hb dX12_person_24 (by decide) ?_
      exact mq_iret hx hb hr rfl hlocks hP hS (pr_1 hf) (pr_2 hf) dX12_person_25
    · replace hf := ite_f c_3 hf
      refine lv_iload_n hx hb dX12_person_12 rfl (lv_at hl 2 rfl) ?_
      refine lv_i2l hx hb dX12_person_13 rfl ?_
      refine lv_lconst (v := 0) hx hb dX12_person_14 (by decide) ?_
      refine lv_ldc2 (v := 2) hx hb hown hw1 dX12_person_15 ?_
      obtain ⟨r_4, hr_5, hf⟩ := op_some hf
      refine mq_calli (va_runS (As := [.long (x2.toInt64), .long 0, .long 2]) (rest := []) ⟨hx, hb, hml, hown, hts⟩ (c_X12_in l D ad cy (x2.toInt64) 0 2 g r_4 hr_5) (va_cwS 3 hts gX12_person_X12_in rfl rfl rfl (by decide +kernel) ⟨Nat.le_of_ble_eq_true rfl, Nat.le_of_ble_eq_true rfl⟩) (mq_preS mm_zOk0 hK hP hI hZ hS) rfl rfl hl.1 rfl (lv_room (Nat.le_of_ble_eq_true rfl)) dX12_person_18 ⟨Nat.le_refl _, Nat.le_refl _⟩) hS (fun H locs hP hS => ?_)
      refine lv_if_ne (tgt := 26) hx hb dX12_person_21 (by decide) (fun c_6 => ?_) (fun c_6 => ?_)
      · replace hf := ite_f c_6 hf
        refine lv_aload_n hx hb dX12_person_26 rfl (lv_at hl 0 rfl) ?_
        refine mq_getr (Tt := TX12) (N := 26) (C := RX12) hx hb hts hiX12 hown hK hP hp rfl 0 1 (by decide) rfl hw2 (fun _ h9 => h9) dX12_person_27 ?_
        refine lv_iconst (v := 0) hx hb dX12_person_30 (by decide) ?_
        refine mq_iald hx hb hK hP (N := 193) (shTM_X12_1 hp) (by decide : mm_in 0 193 = true) dX12_person_31 ?_
        obtain ⟨x3_7, ex3_7, hf⟩ := mv_some hf
        refine mq_nm ex3_7 ?_
        refine lv_istore_n (lv' := [(3, .int x3_7), (0, .ref (ad 0)), (1, .int x1), (2, .int x2)]) hx hb dX12_person_32 rfl hl (by decide) rfl (fun ls hl => ?_)
        refine lv_iload_n hx hb dX12_person_33 rfl (lv_at hl 0 rfl) ?_
        refine lv_iconst (v := 5) hx hb dX12_person_34 (by decide) ?_
        refine lv_icmp_ne (tgt := 41) hx hb dX12_person_35 (by decide) (fun c_8 => ?_) (fun c_8 => ?_)
        · replace hf := ite_f c_8 hf
          refine lv_aload_n hx hb dX12_person_41 rfl (lv_at hl 1 rfl) ?_
          refine mq_getr (Tt := TX12) (N := 26) (C := RX12) hx hb hts hiX12 hown hK hP hp rfl 0 1 (by decide) rfl hw2 (fun _ h9 => h9) dX12_person_42 ?_
          refine lv_iconst (v := 5) hx hb dX12_person_45 (by decide) ?_
          refine lv_iload_n hx hb dX12_person_46 rfl (lv_at hl 0 rfl) ?_
          refine lv_iadd hx hb dX12_person_47 ?_
          refine lv_iload_n hx hb dX12_person_48 rfl (lv_at hl 2 rfl) ?_
          obtain ⟨h_9, hf⟩ := og_some hf
          obtain ⟨g_10, eg_10, hf⟩ := mw_some hf
          refine mq_iast hx hb hK hI hP hS (N := 193) (shTM_X12_1 hp) h_9 dX12_person_49 eg_10 (fun H locs hP hS => ?_)
          refine lv_aload_n hx hb dX12_person_50 rfl (lv_at hl 1 rfl) ?_
          refine mq_getr (Tt := TX12) (N := 26) (C := RX12) hx hb hts hiX12 hown hK hP hp rfl 0 1 (by decide) rfl hw2 (fun _ h9 => h9) dX12_person_51 ?_
          refine lv_bipush (v := 10) hx hb dX12_person_54 (by decide) ?_
          refine lv_iload_n hx hb dX12_person_56 rfl (lv_at hl 0 rfl) ?_
          refine lv_iadd hx hb dX12_person_57 ?_
          refine lv_iload_n hx hb dX12_person_58 rfl (lv_at hl 3 rfl) ?_
          obtain ⟨h_11, hf⟩ := og_some hf
          obtain ⟨g_12, eg_12, hf⟩ := mw_some hf
          refine mq_iast hx hb hK hI hP hS (N := 193) (shTM_X12_1 hp) h_11 dX12_person_59 eg_12 (fun H locs hP hS => ?_)
          refine lv_aload_n hx hb dX12_person_60 rfl (lv_at hl 1 rfl) ?_
          refine mq_getr (Tt := TX12) (N := 26) (C := RX12) hx hb hts hiX12 hown hK hP hp rfl 0 1 (by decide) rfl hw2 (fun _ h9 => h9) dX12_person_61 ?_
          refine lv_iconst (v := 0) hx hb dX12_person_64 (by decide) ?_
          refine lv_iload_n hx hb dX12_person_65 rfl (lv_at hl 0 rfl) ?_
          refine lv_iconst (v := 1) hx hb dX12_person_66 (by decide) ?_
          refine lv_iadd hx hb dX12_person_67 ?_
          obtain ⟨g_13, eg_13, hf⟩ := mw_some hf
          refine mq_iast hx hb hK hI hP hS (N := 193) (shTM_X12_1 hp) (by decide : mm_in 0 193 = true) dX12_person_68 eg_13 (fun H locs hP hS => ?_)
          refine lv_iload_n hx hb dX12_person_69 rfl (lv_at hl 0 rfl) ?_
          exact mq_iret hx hb hr rfl hlocks hP hS (pr_1 hf) (pr_2 hf) dX12_person_70
        · replace hf := ite_t c_8 hf
          refine lv_bipush (v := (-3)) hx hb dX12_person_38 (by decide) ?_
          exact mq_iret hx hb hr rfl hlocks hP hS (pr_1 hf) (pr_2 hf) dX12_person_40
      · replace hf := ite_t c_6 hf
        refine lv_iconst (v := (-1)) hx hb dX12_person_24 (by decide) ?_
        exact mq_iret hx hb hr rfl hlocks hP hS (pr_1 hf) (pr_2 hf) dX12_person_25
  exact hH9 s.heap [] rfl rfl hP hS
