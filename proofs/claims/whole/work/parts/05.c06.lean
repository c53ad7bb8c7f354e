abbrev rm_X11_type : Room := ({ frames := 2, cells := 0, slots := 0, locals := 46 } : Room)
set_option maxHeartbeats 4000000 in
set_option maxRecDepth 100000 in
theorem c_X11_type (l : Launch) (D : va_G) (ad : Nat → Nat) (cy : Nat → ClassId) (x1 : Int64) (x3 : Int32) (g : Mm) (hp : TC[0]? = some sX11) (r0 : Int32) (g' : Mm) (hf : f_X11_type x1 x3 g = some (r0, g')) : Met l yX11_type wsX11_type rm_X11_type (va_Pc [.ref (ad 0), .long x1, .int x3] (mm_pre mm_Z D TC ad cy g)) (mm_Qi D TC ad cy r0 g') 0 0 (mm_A TC ad) := by
  refine Met.ofW (cc := cX11_type) (maxL := 4) (ret := (some .int)) (by decide) rfl ?_
  intro p e s m args below meth c s₁ B hml hv
  obtain ⟨hargs, hP, hK, hI, hZ⟩ := hv
  have hx := B.exec
  have hb := B.bytes
  have hr := B.returns
  have hts := atoms_spec (ws := wsX11_type) B.pre
  have hown : s.vm.findClass RX11 = some m.cls := findClass_of_methodNamed B.named
  have hlocks := B.notSynchronized
  have hw0 := hts (.fieldLink RX11 22 "LeftShoes" "tape" "LLeftShoes$Tape;") (by decide +kernel)
  have hiX11 : ∀ w ∈ wsX110, w ∈ wsX11_type := by decide +kernel
  rw [show entryFrame m args 4 = F0 m 0 ((lg_sl ([.ref (ad 0), .long x1, .int x3] : List Value) ++ List.replicate (4 - (lg_sl ([.ref (ad 0), .long x1, .int x3] : List Value)).length) Slot.unset).toArray) [] from by rw [hargs]; exact lg_entry_eq m _ _]
  have hl := lv_entry ([.ref (ad 0), .long x1, .int x3] : List Value) (n := 4) (by exact Nat.le_of_ble_eq_true rfl)
  generalize (lg_sl ([.ref (ad 0), .long x1, .int x3] : List Value) ++ List.replicate (4 - (lg_sl ([.ref (ad 0), .long x1, .int x3] : List Value)).length) Slot.unset).toArray = ls at hl ⊢
  have hl : lv_has ls 4 [(0, .ref (ad 0)), (1, .long x1), (3, .int x3)] := by exact hl
  have hS : va_S (mm_A TC ad) s.heap s.heap [] := va_S.rf
  clear hargs
  unfold f_X11_type at hf
  have hH9 : ∀ (H : Heap) (locs : List Loc), H = s.heap → locs = [] → va_P D vwCl (mm_L TC ad cy g) H → va_S (mm_A TC ad) s.heap H locs → W p l e (headSpec wsX11_type (rm_X11_type)).room s m args below meth c H locs 0 0 (MQ below (mm_Qi D TC ad cy r0 g') args s 0 0 (mm_A TC ad)) (F0 m 0 ls []) := by
    intro H locs hH9 hL9 hP hS
    clear hH9 hL9
    refine lv_iload_n hx hb dX11_type_0 rfl (lv_at hl 2 rfl) ?_
    refine lv_iconst (v := 1) hx hb dX11_type_1 (by decide) ?_
    refine lv_bipush (v := 8) hx hb dX11_type_2 (by decide) ?_
    obtain ⟨r_1, hr_2, hf⟩ := op_some hf
    refine mq_calli (va_runS (As := [.int x3, .int 1, .int 8]) (rest := []) ⟨hx, hb, hml, hown, hts⟩ (c_X11_isWithin l D ad cy x3 1 8 g r_1 hr_2) (va_cwS 3 hts gX11_type_X11_isWithin rfl rfl rfl (by decide +kernel) ⟨Nat.le_of_ble_eq_true rfl, Nat.le_of_ble_eq_true rfl⟩) (mq_preS mm_zOkC hK hP hI hZ hS) rfl rfl hl.1 rfl (lv_room (Nat.le_of_ble_eq_true rfl)) dX11_type_4 ⟨Nat.le_refl _, Nat.le_refl _⟩) hS (fun H locs hP hS => ?_)
    refine lv_if_eq (tgt := 18) hx hb dX11_type_7 (by decide) (fun c_3 => ?_) (fun c_3 => ?_)
    · replace hf := ite_t c_3 hf
      refine lv_iconst (v := (-1)) hx hb dX11_type_18 (by decide) ?_
      exact mq_iret hx hb hr rfl hlocks hP hS (pr_1 hf) (pr_2 hf) dX11_type_19
    · replace hf := ite_f c_3 hf
      refine lv_lload_n hx hb dX11_type_10 rfl (lv_at hl 1 rfl) ?_
      refine lv_iload_n hx hb dX11_type_11 rfl (lv_at hl 2 rfl) ?_
      obtain ⟨r_4, hr_5, hf⟩ := op_some hf
      refine mq_calli (va_runS (As := [.long x1, .int x3]) (rest := []) ⟨hx, hb, hml, hown, hts⟩ (c_X6_isClean l D ad cy x1 x3 g r_4 hr_5) (va_cwS 2 hts gX11_type_X6_isClean rfl rfl rfl (by decide +kernel) ⟨Nat.le_of_ble_eq_true rfl, Nat.le_of_ble_eq_true rfl⟩) (mq_preS mm_zOkC hK hP hI hZ hS) rfl rfl hl.1 rfl (lv_room (Nat.le_of_ble_eq_true rfl)) dX11_type_12 ⟨Nat.le_refl _, Nat.le_refl _⟩) hS (fun H locs hP hS => ?_)
      refine lv_if_ne (tgt := 20) hx hb dX11_type_15 (by decide) (fun c_6 => ?_) (fun c_6 => ?_)
      · replace hf := ite_f c_6 hf
        refine lv_aload_n hx hb dX11_type_20 rfl (lv_at hl 0 rfl) ?_
        refine mq_getr (Tt := TX11) (N := 9) (C := RX11) hx hb hts hiX11 hown hK hP hp rfl 3 83 (by decide) rfl hw0 (fun _ h9 => h9) dX11_type_21 ?_
        refine lv_lload_n hx hb dX11_type_24 rfl (lv_at hl 1 rfl) ?_
        refine lv_iload_n hx hb dX11_type_25 rfl (lv_at hl 2 rfl) ?_
        obtain ⟨r_8, g_7, hr_9, hf⟩ := ob_some hf
        refine mq_calli (va_runV (As := [.long x1, .int x3]) (rest := []) ⟨hx, hb, hml, hown, hts⟩ (c_X6_append l D ad cy 83 x1 x3 g (shTC_X11_83 hp) r_8 g_7 hr_9) (cwV 2 hts gX11_type_X6_append rfl rfl rfl (by decide +kernel) ⟨Nat.le_of_ble_eq_true rfl, Nat.le_of_ble_eq_true rfl⟩) (mq_preV (q := (RX6, TX6, 3)) mm_zOkC hK hP hI hZ hS (shTC_X11_83 hp) rfl) rfl rfl hl.1 rfl (lv_room (Nat.le_of_ble_eq_true rfl)) dX11_type_26 ⟨Nat.le_refl _, Nat.le_refl _⟩) hS (fun H locs hP hS => ?_)
        exact mq_iret hx hb hr rfl hlocks hP hS (pr_1 hf) (pr_2 hf) dX11_type_29
      · replace hf := ite_t c_6 hf
        refine lv_iconst (v := (-1)) hx hb dX11_type_18 (by decide) ?_
        exact mq_iret hx hb hr rfl hlocks hP hS (pr_1 hf) (pr_2 hf) dX11_type_19
  exact hH9 s.heap [] rfl rfl hP hS
abbrev rm_X11_taxes : Room := ({ frames := 5, cells := 0, slots := 0, locals := 111 } : Room)
set_option maxHeartbeats 4000000 in
set_option maxRecDepth 100000 in
theorem c_X11_taxes (l : Launch) (D : va_G) (ad : Nat → Nat) (cy : Nat → ClassId)  (g : Mm) (hp : TC[0]? = some sX11) (r0 : Int32) (g' : Mm) (hf : f_X11_taxes g = some (r0, g')) : Met l yX11_taxes wsX11_taxes rm_X11_taxes (va_Pc [.ref (ad 0)] (mm_pre mm_Z D TC ad cy g)) (mm_Qi D TC ad cy r0 g') 0 0 (mm_A TC ad) := by
  refine Met.ofW (cc := cX11_taxes) (maxL := 2) (ret := (some .int)) (by decide) rfl ?_
  intro p e s m args below meth c s₁ B hml hv
  obtain ⟨hargs, hP, hK, hI, hZ⟩ := hv
  have hx := B.exec
  have hb := B.bytes
  have hr := B.returns
  have hts := atoms_spec (ws := wsX11_taxes) B.pre
  have hown : s.vm.findClass RX11 = some m.cls := findClass_of_methodNamed B.named
  have hlocks := B.notSynchronized
  have hw0 := hts (.fieldLink RX11 29 "LeftShoes" "taxDraft" "LLeftShoes$Tax;") (by decide +kernel)
  have hiX11 : ∀ w ∈ wsX110, w ∈ wsX11_taxes := by decide +kernel
  have hw2 := hts (.fieldLink RX11 10 "LeftShoes" "now" "LLeftShoes$World;") (by decide +kernel)
  have hw3 := hts (.fieldLink RX11 119 "LeftShoes$World" "levy" "LLeftShoes$Tax;") (by decide +kernel)
  have hiX10 : ∀ w ∈ wsX100, w ∈ wsX11_taxes := by decide +kernel
  have hw5 := hts (.fieldLink RX11 22 "LeftShoes" "tape" "LLeftShoes$Tape;") (by decide +kernel)
  rw [show entryFrame m args 2 = F0 m 0 ((lg_sl ([.ref (ad 0)] : List Value) ++ List.replicate (2 - (lg_sl ([.ref (ad 0)] : List Value)).length) Slot.unset).toArray) [] from by rw [hargs]; exact lg_entry_eq m _ _]
  have hl := lv_entry ([.ref (ad 0)] : List Value) (n := 2) (by exact Nat.le_of_ble_eq_true rfl)
  generalize (lg_sl ([.ref (ad 0)] : List Value) ++ List.replicate (2 - (lg_sl ([.ref (ad 0)] : List Value)).length) Slot.unset).toArray = ls at hl ⊢
  have hl : lv_has ls 2 [(0, .ref (ad 0))] := by exact hl
  have hS : va_S (mm_A TC ad) s.heap s.heap [] := va_S.rf
  clear hargs
  unfold f_X11_taxes at hf
  have hH9 : ∀ (H : Heap) (locs : List Loc), H = s.heap → locs = [] → va_P D vwCl (mm_L TC ad cy g) H → va_S (mm_A TC ad) s.heap H locs → W p l e (headSpec wsX11_taxes (rm_X11_taxes)).room s m args below meth c H locs 0 0 (MQ below (mm_Qi D TC ad cy r0 g') args s 0 0 (mm_A TC ad)) (F0 m 0 ls []) := by
    intro H locs hH9 hL9 hP hS
    clear hH9 hL9
    refine lv_aload_n hx hb dX11_taxes_0 rfl (lv_at hl 0 rfl) ?_
    refine mq_getr (Tt := TX11) (N := 9) (C := RX11) hx hb hts hiX11 hown hK hP hp rfl 4 85 (by decide) rfl hw0 (fun _ h9 => h9) dX11_taxes_1 ?_
    refine lv_aload_n hx hb dX11_taxes_4 rfl (lv_at hl 0 rfl) ?_
    refine mq_getr (Tt := TX11) (N := 9) (C := RX11) hx hb hts hiX11 hown hK hP hp rfl 0 1 (by decide) rfl hw2 (fun _ h9 => h9) dX11_taxes_5 ?_
    refine mq_getr (Tt := TX10) (N := 9) (C := RX10) hx hb hts hiX10 hown hK hP (shTC_X11_1 hp) rfl 5 20 (by decide) rfl hw3 (fun _ h9 => h9) dX11_taxes_8 ?_
    obtain ⟨g_1, hr_2, hf⟩ := op_some hf
    refine mq_callv (va_runV (As := [.ref (ad 21)]) (rest := []) ⟨hx, hb, hml, hown, hts⟩ (c_X7_become l D ad cy 85 21 g (shTC_X11_85 hp) (shTC_X11_21 hp) g_1 hr_2) (cwV 1 hts gX11_taxes_X7_become rfl rfl rfl (by decide +kernel) ⟨Nat.le_of_ble_eq_true rfl, Nat.le_of_ble_eq_true rfl⟩) (mq_preV (q := (RX7, TX7, 3)) mm_zOkC hK hP hI hZ hS (shTC_X11_85 hp) rfl) rfl rfl hl.1 rfl (lv_room (Nat.le_of_ble_eq_true rfl)) dX11_taxes_11 ⟨Nat.le_refl _, Nat.le_refl _⟩) hS (fun H locs hP hS => ?_)
    refine lv_aload_n hx hb dX11_taxes_14 rfl (lv_at hl 0 rfl) ?_
    refine mq_getr (Tt := TX11) (N := 9) (C := RX11) hx hb hts hiX11 hown hK hP hp rfl 3 83 (by decide) rfl hw5 (fun _ h9 => h9) dX11_taxes_15 ?_
    refine lv_aload_n hx hb dX11_taxes_18 rfl (lv_at hl 0 rfl) ?_
    refine mq_getr (Tt := TX11) (N := 9) (C := RX11) hx hb hts hiX11 hown hK hP hp rfl 4 85 (by decide) rfl hw0 (fun _ h9 => h9) dX11_taxes_19 ?_
    obtain ⟨r_4, g_3, hr_5, hf⟩ := ob_some hf
    refine mq_calli (va_runV (As := [.ref (ad 85)]) (rest := []) ⟨hx, hb, hml, hown, hts⟩ (c_X6_readTax l D ad cy 83 85 g_1 (shTC_X11_83 hp) (shTC_X11_85 hp) r_4 g_3 hr_5) (cwV 1 hts gX11_taxes_X6_readTax rfl rfl rfl (by decide +kernel) ⟨Nat.le_of_ble_eq_true rfl, Nat.le_of_ble_eq_true rfl⟩) (mq_preV (q := (RX6, TX6, 3)) mm_zOkC hK hP hI hZ hS (shTC_X11_83 hp) rfl) rfl rfl hl.1 rfl (lv_room (Nat.le_of_ble_eq_true rfl)) dX11_taxes_22 ⟨Nat.le_refl _, Nat.le_refl _⟩) hS (fun H locs hP hS => ?_)
    refine lv_istore_n (lv' := [(1, .int r_4), (0, .ref (ad 0))]) hx hb dX11_taxes_25 rfl hl (by decide) rfl (fun ls hl => ?_)
    refine lv_aload_n hx hb dX11_taxes_26 rfl (lv_at hl 1 rfl) ?_
    refine mq_getr (Tt := TX11) (N := 9) (C := RX11) hx hb hts hiX11 hown hK hP hp rfl 3 83 (by decide) rfl hw5 (fun _ h9 => h9) dX11_taxes_27 ?_
    obtain ⟨g_6, hr_7, hf⟩ := op_some hf
    refine mq_callv (va_runV (As := []) (rest := []) ⟨hx, hb, hml, hown, hts⟩ (c_X6_clear l D ad cy 83 g_3 (shTC_X11_83 hp) g_6 hr_7) (cwV 0 hts gX11_taxes_X6_clear rfl rfl rfl (by decide +kernel) ⟨Nat.le_of_ble_eq_true rfl, Nat.le_of_ble_eq_true rfl⟩) (mq_preV (q := (RX6, TX6, 3)) mm_zOkC hK hP hI hZ hS (shTC_X11_83 hp) rfl) rfl rfl hl.1 rfl (lv_room (Nat.le_of_ble_eq_true rfl)) dX11_taxes_30 ⟨Nat.le_refl _, Nat.le_refl _⟩) hS (fun H locs hP hS => ?_)
    refine lv_iload_n hx hb dX11_taxes_33 rfl (lv_at hl 0 rfl) ?_
    refine lv_if_lt (tgt := 51) hx hb dX11_taxes_34 (by decide) (fun c_8 => ?_) (fun c_8 => ?_)
    · replace hf := ite_t c_8 hf
      refine lv_iload_n hx hb dX11_taxes_51 rfl (lv_at hl 0 rfl) ?_
      exact mq_iret hx hb hr rfl hlocks hP hS (pr_1 hf) (pr_2 hf) dX11_taxes_52
    · replace hf := ite_f c_8 hf
      refine lv_aload_n hx hb dX11_taxes_37 rfl (lv_at hl 1 rfl) ?_
      refine mq_getr (Tt := TX11) (N := 9) (C := RX11) hx hb hts hiX11 hown hK hP hp rfl 0 1 (by decide) rfl hw2 (fun _ h9 => h9) dX11_taxes_38 ?_
      refine mq_getr (Tt := TX10) (N := 9) (C := RX10) hx hb hts hiX10 hown hK hP (shTC_X11_1 hp) rfl 5 20 (by decide) rfl hw3 (fun _ h9 => h9) dX11_taxes_41 ?_
      refine lv_aload_n hx hb dX11_taxes_44 rfl (lv_at hl 1 rfl) ?_
      refine mq_getr (Tt := TX11) (N := 9) (C := RX11) hx hb hts hiX11 hown hK hP hp rfl 4 85 (by decide) rfl hw0 (fun _ h9 => h9) dX11_taxes_45 ?_
      obtain ⟨g_9, hr_10, hf⟩ := op_some hf
      refine mq_callv (va_runV (As := [.ref (ad 85)]) (rest := []) ⟨hx, hb, hml, hown, hts⟩ (c_X7_become l D ad cy 21 85 g_6 (shTC_X11_21 hp) (shTC_X11_85 hp) g_9 hr_10) (cwV 1 hts gX11_taxes_X7_become rfl rfl rfl (by decide +kernel) ⟨Nat.le_of_ble_eq_true rfl, Nat.le_of_ble_eq_true rfl⟩) (mq_preV (q := (RX7, TX7, 3)) mm_zOkC hK hP hI hZ hS (shTC_X11_21 hp) rfl) rfl rfl hl.1 rfl (lv_room (Nat.le_of_ble_eq_true rfl)) dX11_taxes_48 ⟨Nat.le_refl _, Nat.le_refl _⟩) hS (fun H locs hP hS => ?_)
      refine lv_iload_n hx hb dX11_taxes_51 rfl (lv_at hl 0 rfl) ?_
      exact mq_iret hx hb hr rfl hlocks hP hS (pr_1 hf) (pr_2 hf) dX11_taxes_52
  exact hH9 s.heap [] rfl rfl hP hS
abbrev rm_X11_roads : Room := ({ frames := 5, cells := 0, slots := 0, locals := 127 } : Room)
set_option maxHeartbeats 4000000 in
set_option maxRecDepth 100000 in
theorem c_X11_roads (l : Launch) (D : va_G) (ad : Nat → Nat) (cy : Nat → ClassId)  (g : Mm) (hp : TC[0]? = some sX11) (r0 : Int32) (g' : Mm) (hf : f_X11_roads g = some (r0, g')) : Met l yX11_roads wsX11_roads rm_X11_roads (va_Pc [.ref (ad 0)] (mm_pre mm_Z D TC ad cy g)) (mm_Qi D TC ad cy r0 g') 0 0 (mm_A TC ad) := by
  refine Met.ofW (cc := cX11_roads) (maxL := 2) (ret := (some .int)) (by decide) rfl ?_
  intro p e s m args below meth c s₁ B hml hv
  obtain ⟨hargs, hP, hK, hI, hZ⟩ := hv
  have hx := B.exec
  have hb := B.bytes
  have hr := B.returns
  have hts := atoms_spec (ws := wsX11_roads) B.pre
  have hown : s.vm.findClass RX11 = some m.cls := findClass_of_methodNamed B.named
  have hlocks := B.notSynchronized
  have hw0 := hts (.fieldLink RX11 22 "LeftShoes" "tape" "LLeftShoes$Tape;") (by decide +kernel)
  have hiX11 : ∀ w ∈ wsX110, w ∈ wsX11_roads := by decide +kernel
  have hw2 := hts (.fieldLink RX11 36 "LeftShoes" "roadDraft" "LLeftShoes$Road;") (by decide +kernel)
  have hw3 := hts (.fieldLink RX11 10 "LeftShoes" "now" "LLeftShoes$World;") (by decide +kernel)
  have hw4 := hts (.fieldLink RX11 135 "LeftShoes$World" "way" "LLeftShoes$Road;") (by decide +kernel)
  have hiX10 : ∀ w ∈ wsX100, w ∈ wsX11_roads := by decide +kernel
  rw [show entryFrame m args 2 = F0 m 0 ((lg_sl ([.ref (ad 0)] : List Value) ++ List.replicate (2 - (lg_sl ([.ref (ad 0)] : List Value)).length) Slot.unset).toArray) [] from by rw [hargs]; exact lg_entry_eq m _ _]
  have hl := lv_entry ([.ref (ad 0)] : List Value) (n := 2) (by exact Nat.le_of_ble_eq_true rfl)
  generalize (lg_sl ([.ref (ad 0)] : List Value) ++ List.replicate (2 - (lg_sl ([.ref (ad 0)] : List Value)).length) Slot.unset).toArray = ls at hl ⊢
  have hl : lv_has ls 2 [(0, .ref (ad 0))] := by exact hl
  have hS : va_S (mm_A TC ad) s.heap s.heap [] := va_S.rf
  clear hargs
  unfold f_X11_roads at hf
  have hH9 : ∀ (H : Heap) (locs : List Loc), H = s.heap → locs = [] → va_P D vwCl (mm_L TC ad cy g) H → va_S (mm_A TC ad) s.heap H locs → W p l e (headSpec wsX11_roads (rm_X11_roads)).room s m args below meth c H locs 0 0 (MQ below (mm_Qi D TC ad cy r0 g') args s 0 0 (mm_A TC ad)) (F0 m 0 ls []) := by
    intro H locs hH9 hL9 hP hS
    clear hH9 hL9
    refine lv_aload_n hx hb dX11_roads_0 rfl (lv_at hl 0 rfl) ?_
    refine mq_getr (Tt := TX11) (N := 9) (C := RX11) hx hb hts hiX11 hown hK hP hp rfl 3 83 (by decide) rfl hw0 (fun _ h9 => h9) dX11_roads_1 ?_
    refine lv_aload_n hx hb dX11_roads_4 rfl (lv_at hl 0 rfl) ?_
    refine mq_getr (Tt := TX11) (N := 9) (C := RX11) hx hb hts hiX11 hown hK hP hp rfl 5 87 (by decide) rfl hw2 (fun _ h9 => h9) dX11_roads_5 ?_
    obtain ⟨r_2, g_1, hr_3, hf⟩ := ob_some hf
    refine mq_calli (va_runV (As := [.ref (ad 87)]) (rest := []) ⟨hx, hb, hml, hown, hts⟩ (c_X6_readRoad l D ad cy 83 87 g (shTC_X11_83 hp) (shTC_X11_87 hp) r_2 g_1 hr_3) (cwV 1 hts gX11_roads_X6_readRoad rfl rfl rfl (by decide +kernel) ⟨Nat.le_of_ble_eq_true rfl, Nat.le_of_ble_eq_true rfl⟩) (mq_preV (q := (RX6, TX6, 3)) mm_zOkC hK hP hI hZ hS (shTC_X11_83 hp) rfl) rfl rfl hl.1 rfl (lv_room (Nat.le_of_ble_eq_true rfl)) dX11_roads_8 ⟨Nat.le_refl _, Nat.le_refl _⟩) hS (fun H locs hP hS => ?_)
    refine lv_istore_n (lv' := [(1, .int r_2), (0, .ref (ad 0))]) hx hb dX11_roads_11 rfl hl (by decide) rfl (fun ls hl => ?_)
    refine lv_aload_n hx hb dX11_roads_12 rfl (lv_at hl 1 rfl) ?_
    refine mq_getr (Tt := TX11) (N := 9) (C := RX11) hx hb hts hiX11 hown hK hP hp rfl 3 83 (by decide) rfl hw0 (fun _ h9 => h9) dX11_roads_13 ?_
    obtain ⟨g_4, hr_5, hf⟩ := op_some hf
    refine mq_callv (va_runV (As := []) (rest := []) ⟨hx, hb, hml, hown, hts⟩ (c_X6_clear l D ad cy 83 g_1 (shTC_X11_83 hp) g_4 hr_5) (cwV 0 hts gX11_roads_X6_clear rfl rfl rfl (by decide +kernel) ⟨Nat.le_of_ble_eq_true rfl, Nat.le_of_ble_eq_true rfl⟩) (mq_preV (q := (RX6, TX6, 3)) mm_zOkC hK hP hI hZ hS (shTC_X11_83 hp) rfl) rfl rfl hl.1 rfl (lv_room (Nat.le_of_ble_eq_true rfl)) dX11_roads_16 ⟨Nat.le_refl _, Nat.le_refl _⟩) hS (fun H locs hP hS => ?_)
    refine lv_iload_n hx hb dX11_roads_19 rfl (lv_at hl 0 rfl) ?_
    refine lv_if_lt (tgt := 37) hx hb dX11_roads_20 (by decide) (fun c_6 => ?_) (fun c_6 => ?_)
    · replace hf := ite_t c_6 hf
      refine lv_iload_n hx hb dX11_roads_37 rfl (lv_at hl 0 rfl) ?_
      exact mq_iret hx hb hr rfl hlocks hP hS (pr_1 hf) (pr_2 hf) dX11_roads_38
    · replace hf := ite_f c_6 hf
      refine lv_aload_n hx hb dX11_roads_23 rfl (lv_at hl 1 rfl) ?_
      refine mq_getr (Tt := TX11) (N := 9) (C := RX11) hx hb hts hiX11 hown hK hP hp rfl 0 1 (by decide) rfl hw3 (fun _ h9 => h9) dX11_roads_24 ?_
      refine mq_getr (Tt := TX10) (N := 9) (C := RX10) hx hb hts hiX10 hown hK hP (shTC_X11_1 hp) rfl 6 22 (by decide) rfl hw4 (fun _ h9 => h9) dX11_roads_27 ?_
      refine lv_aload_n hx hb dX11_roads_30 rfl (lv_at hl 1 rfl) ?_
      refine mq_getr (Tt := TX11) (N := 9) (C := RX11) hx hb hts hiX11 hown hK hP hp rfl 5 87 (by decide) rfl hw2 (fun _ h9 => h9) dX11_roads_31 ?_
      obtain ⟨g_7, hr_8, hf⟩ := op_some hf
      refine mq_callv (va_runV (As := [.ref (ad 87)]) (rest := []) ⟨hx, hb, hml, hown, hts⟩ (c_X3_become l D ad cy 23 87 g_4 (shTC_X11_23 hp) (shTC_X11_87 hp) g_7 hr_8) (cwV 1 hts gX11_roads_X3_become rfl rfl rfl (by decide +kernel) ⟨Nat.le_of_ble_eq_true rfl, Nat.le_of_ble_eq_true rfl⟩) (mq_preV (q := (RX3, TX3, 2)) mm_zOkC hK hP hI hZ hS (shTC_X11_23 hp) rfl) rfl rfl hl.1 rfl (lv_room (Nat.le_of_ble_eq_true rfl)) dX11_roads_34 ⟨Nat.le_refl _, Nat.le_refl _⟩) hS (fun H locs hP hS => ?_)
      refine lv_iload_n hx hb dX11_roads_37 rfl (lv_at hl 0 rfl) ?_
      exact mq_iret hx hb hr rfl hlocks hP hS (pr_1 hf) (pr_2 hf) dX11_roads_38
  exact hH9 s.heap [] rfl rfl hP hS
abbrev rm_X11_count : Room := ({ frames := 3, cells := 0, slots := 0, locals := 105 } : Room)
set_option maxHeartbeats 4000000 in
set_option maxRecDepth 100000 in
theorem c_X11_count (l : Launch) (D : va_G) (ad : Nat → Nat) (cy : Nat → ClassId) (x1 : Int32) (g : Mm) (hp : TC[0]? = some sX11) (r0 : Int32) (hf : f_X11_count x1 g = some r0) : Met l yX11_count wsX11_count rm_X11_count (va_Pc [.ref (ad 0), .int x1] (mm_pre mm_Z D TC ad cy g)) (mm_Qi D TC ad cy r0 g) 0 0 (mm_A TC ad) := by
  refine Met.ofW (cc := cX11_count) (maxL := 2) (ret := (some .int)) (by decide) rfl ?_
  intro p e s m args below meth c s₁ B hml hv
  obtain ⟨hargs, hP, hK, hI, hZ⟩ := hv
  have hx := B.exec
  have hb := B.bytes
  have hr := B.returns
  have hts := atoms_spec (ws := wsX11_count) B.pre
  have hown : s.vm.findClass RX11 = some m.cls := findClass_of_methodNamed B.named
  have hlocks := B.notSynchronized
  have hw0 := hts (.fieldLink RX11 10 "LeftShoes" "now" "LLeftShoes$World;") (by decide +kernel)
  have hiX11 : ∀ w ∈ wsX110, w ∈ wsX11_count := by decide +kernel
  have hw2 := hts (.fieldLink RX11 192 "LeftShoes$World" "fords" "LLeftShoes$Fords;") (by decide +kernel)
  have hiX10 : ∀ w ∈ wsX100, w ∈ wsX11_count := by decide +kernel
  have hw4 := hts (.fieldLink RX11 183 "LeftShoes$World" "buyers" "LLeftShoes$Buyers;") (by decide +kernel)
  have hw5 := hts (.fieldLink RX11 187 "LeftShoes$Buyers" "size" "I") (by decide +kernel)
  have hiX1 : ∀ w ∈ wsX10, w ∈ wsX11_count := by decide +kernel
  have hw7 := hts (.fieldLink RX11 173 "LeftShoes$World" "shoeCount" "I") (by decide +kernel)
  have hw8 := hts (.fieldLink RX11 170 "LeftShoes$World" "peopleCount" "I") (by decide +kernel)
  rw [show entryFrame m args 2 = F0 m 0 ((lg_sl ([.ref (ad 0), .int x1] : List Value) ++ List.replicate (2 - (lg_sl ([.ref (ad 0), .int x1] : List Value)).length) Slot.unset).toArray) [] from by rw [hargs]; exact lg_entry_eq m _ _]
  have hl := lv_entry ([.ref (ad 0), .int x1] : List Value) (n := 2) (by exact Nat.le_of_ble_eq_true rfl)
  generalize (lg_sl ([.ref (ad 0), .int x1] : List Value) ++ List.replicate (2 - (lg_sl ([.ref (ad 0), .int x1] : List Value)).length) Slot.unset).toArray = ls at hl ⊢
  have hl : lv_has ls 2 [(0, .ref (ad 0)), (1, .int x1)] := by exact hl
  have hS : va_S (mm_A TC ad) s.heap s.heap [] := va_S.rf
  clear hargs
  unfold f_X11_count at hf
  have hH9 : ∀ (H : Heap) (locs : List Loc), H = s.heap → locs = [] → va_P D vwCl (mm_L TC ad cy g) H → va_S (mm_A TC ad) s.heap H locs → W p l e (headSpec wsX11_count (rm_X11_count)).room s m args below meth c H locs 0 0 (MQ below (mm_Qi D TC ad cy r0 g) args s 0 0 (mm_A TC ad)) (F0 m 0 ls []) := by
    intro H locs hH9 hL9 hP hS
    clear hH9 hL9
    refine lv_iload_n hx hb dX11_count_0 rfl (lv_at hl 1 rfl) ?_
    by_cases c_1_0 : x1 = 0
    · replace hf := ite_t c_1_0 hf
      refine lv_tableIn (off := 39) (tgt := 40) hx hb dX11_count_1 (by rw [c_1_0]; decide) (by rw [c_1_0]; decide) (by rw [c_1_0]; decide) (by decide) ?_
      refine lv_aload_n hx hb dX11_count_40 rfl (lv_at hl 0 rfl) ?_
      refine mq_getr (Tt := TX11) (N := 9) (C := RX11) hx hb hts hiX11 hown hK hP hp rfl 0 1 (by decide) rfl hw0 (fun _ h9 => h9) dX11_count_41 ?_
      refine mq_geti (Tt := TX10) (N := 9) (C := RX10) hx hb hts hiX10 hown hK hP (shTC_X11_1 hp) rfl 0 (by decide) rfl hw8 (fun _ h9 => h9) dX11_count_44 ?_
      exact mq_iret hx hb hr rfl hlocks hP hS (Option.some.inj hf) rfl dX11_count_47
    · replace hf := ite_f c_1_0 hf
      by_cases c_1_1 : x1 = 1
      · replace hf := ite_t c_1_1 hf
        refine lv_tableIn (off := 47) (tgt := 48) hx hb dX11_count_1 (by rw [c_1_1]; decide) (by rw [c_1_1]; decide) (by rw [c_1_1]; decide) (by decide) ?_
        refine lv_aload_n hx hb dX11_count_48 rfl (lv_at hl 0 rfl) ?_
        refine mq_getr (Tt := TX11) (N := 9) (C := RX11) hx hb hts hiX11 hown hK hP hp rfl 0 1 (by decide) rfl hw0 (fun _ h9 => h9) dX11_count_49 ?_
        refine mq_geti (Tt := TX10) (N := 9) (C := RX10) hx hb hts hiX10 hown hK hP (shTC_X11_1 hp) rfl 3 (by decide) rfl hw7 (fun _ h9 => h9) dX11_count_52 ?_
        exact mq_iret hx hb hr rfl hlocks hP hS (Option.some.inj hf) rfl dX11_count_55
      · replace hf := ite_f c_1_1 hf
        by_cases c_1_2 : x1 = 2
        · replace hf := ite_t c_1_2 hf
          refine lv_tableIn (off := 55) (tgt := 56) hx hb dX11_count_1 (by rw [c_1_2]; decide) (by rw [c_1_2]; decide) (by rw [c_1_2]; decide) (by decide) ?_
          refine lv_aload_n hx hb dX11_count_56 rfl (lv_at hl 0 rfl) ?_
          refine mq_getr (Tt := TX11) (N := 9) (C := RX11) hx hb hts hiX11 hown hK hP hp rfl 0 1 (by decide) rfl hw0 (fun _ h9 => h9) dX11_count_57 ?_
          obtain ⟨r_6, hr_7, hf⟩ := op_some hf
          refine mq_calli (va_runV (As := []) (rest := []) ⟨hx, hb, hml, hown, hts⟩ (c_X10_stampedShoes l D ad cy 1 g (shTC_X11_1 hp) r_6 hr_7) (cwV 0 hts gX11_count_X10_stampedShoes rfl rfl rfl (by decide +kernel) ⟨Nat.le_of_ble_eq_true rfl, Nat.le_of_ble_eq_true rfl⟩) (mq_preV (q := (RX10, TX10, 9)) mm_zOkC hK hP hI hZ hS (shTC_X11_1 hp) rfl) rfl rfl hl.1 rfl (lv_room (Nat.le_of_ble_eq_true rfl)) dX11_count_60 ⟨Nat.le_refl _, Nat.le_refl _⟩) hS (fun H locs hP hS => ?_)
          exact mq_iret hx hb hr rfl hlocks hP hS (Option.some.inj hf) rfl dX11_count_63
        · replace hf := ite_f c_1_2 hf
          by_cases c_1_3 : x1 = 3
          · replace hf := ite_t c_1_3 hf
            refine lv_tableIn (off := 63) (tgt := 64) hx hb dX11_count_1 (by rw [c_1_3]; decide) (by rw [c_1_3]; decide) (by rw [c_1_3]; decide) (by decide) ?_
            refine lv_aload_n hx hb dX11_count_64 rfl (lv_at hl 0 rfl) ?_
            refine mq_getr (Tt := TX11) (N := 9) (C := RX11) hx hb hts hiX11 hown hK hP hp rfl 0 1 (by decide) rfl hw0 (fun _ h9 => h9) dX11_count_65 ?_
            obtain ⟨r_4, hr_5, hf⟩ := op_some hf
            refine mq_calli (va_runV (As := []) (rest := []) ⟨hx, hb, hml, hown, hts⟩ (c_X10_solesOfAll l D ad cy 1 g (shTC_X11_1 hp) r_4 hr_5) (cwV 0 hts gX11_count_X10_solesOfAll rfl rfl rfl (by decide +kernel) ⟨Nat.le_of_ble_eq_true rfl, Nat.le_of_ble_eq_true rfl⟩) (mq_preV (q := (RX10, TX10, 9)) mm_zOkC hK hP hI hZ hS (shTC_X11_1 hp) rfl) rfl rfl hl.1 rfl (lv_room (Nat.le_of_ble_eq_true rfl)) dX11_count_68 ⟨Nat.le_refl _, Nat.le_refl _⟩) hS (fun H locs hP hS => ?_)
            exact mq_iret hx hb hr rfl hlocks hP hS (Option.some.inj hf) rfl dX11_count_71
          · replace hf := ite_f c_1_3 hf
            by_cases c_1_4 : x1 = 4
            · replace hf := ite_t c_1_4 hf
              refine lv_tableIn (off := 71) (tgt := 72) hx hb dX11_count_1 (by rw [c_1_4]; decide) (by rw [c_1_4]; decide) (by rw [c_1_4]; decide) (by decide) ?_
              refine lv_aload_n hx hb dX11_count_72 rfl (lv_at hl 0 rfl) ?_
              refine mq_getr (Tt := TX11) (N := 9) (C := RX11) hx hb hts hiX11 hown hK hP hp rfl 0 1 (by decide) rfl hw0 (fun _ h9 => h9) dX11_count_73 ?_
              refine mq_getr (Tt := TX10) (N := 9) (C := RX10) hx hb hts hiX10 hown hK hP (shTC_X11_1 hp) rfl 8 37 (by decide) rfl hw4 (fun _ h9 => h9) dX11_count_76 ?_
              refine mq_geti (Tt := TX1) (N := 6) (C := RX1) hx hb hts hiX1 hown hK hP (shTC_X11_38 hp) rfl 2 (by decide) rfl hw5 (fun _ h9 => h9) dX11_count_79 ?_
              exact mq_iret hx hb hr rfl hlocks hP hS (Option.some.inj hf) rfl dX11_count_82
            · replace hf := ite_f c_1_4 hf
              by_cases c_1_5 : x1 = 5
              · replace hf := ite_t c_1_5 hf
                refine lv_tableIn (off := 82) (tgt := 83) hx hb dX11_count_1 (by rw [c_1_5]; decide) (by rw [c_1_5]; decide) (by rw [c_1_5]; decide) (by decide) ?_
                refine lv_aload_n hx hb dX11_count_83 rfl (lv_at hl 0 rfl) ?_
                refine mq_getr (Tt := TX11) (N := 9) (C := RX11) hx hb hts hiX11 hown hK hP hp rfl 0 1 (by decide) rfl hw0 (fun _ h9 => h9) dX11_count_84 ?_
                refine mq_getr (Tt := TX10) (N := 9) (C := RX10) hx hb hts hiX10 hown hK hP (shTC_X11_1 hp) rfl 7 25 (by decide) rfl hw2 (fun _ h9 => h9) dX11_count_87 ?_
                obtain ⟨r_2, hr_3, hf⟩ := op_some hf
                refine mq_calli (va_runV (As := []) (rest := []) ⟨hx, hb, hml, hown, hts⟩ (c_X2_joined l D ad cy 26 g (shTC_X11_26 hp) r_2 hr_3) (cwV 0 hts gX11_count_X2_joined rfl rfl rfl (by decide +kernel) ⟨Nat.le_of_ble_eq_true rfl, Nat.le_of_ble_eq_true rfl⟩) (mq_preV (q := (RX2, TX2, 5)) mm_zOkC hK hP hI hZ hS (shTC_X11_26 hp) rfl) rfl rfl hl.1 rfl (lv_room (Nat.le_of_ble_eq_true rfl)) dX11_count_90 ⟨Nat.le_refl _, Nat.le_refl _⟩) hS (fun H locs hP hS => ?_)
                exact mq_iret hx hb hr rfl hlocks hP hS (Option.some.inj hf) rfl dX11_count_93
              · replace hf := ite_f c_1_5 hf
                refine lv_tableOut (tgt := 94) hx hb dX11_count_1 (by
                  have e0 : x1.toInt ≠ 0 := sw_ne (k := 0) c_1_0
                  have e1 : x1.toInt ≠ 1 := sw_ne (k := 1) c_1_1
                  have e2 : x1.toInt ≠ 2 := sw_ne (k := 2) c_1_2
                  have e3 : x1.toInt ≠ 3 := sw_ne (k := 3) c_1_3
                  have e4 : x1.toInt ≠ 4 := sw_ne (k := 4) c_1_4
                  have e5 : x1.toInt ≠ 5 := sw_ne (k := 5) c_1_5
                  omega) (by decide) ?_
                refine lv_iconst (v := (-1)) hx hb dX11_count_94 (by decide) ?_
                exact mq_iret hx hb hr rfl hlocks hP hS (Option.some.inj hf) rfl dX11_count_95
  exact hH9 s.heap [] rfl rfl hP hS
abbrev rm_X11_minutes : Room := ({ frames := 4, cells := 0, slots := 0, locals := 88 } : Room)
set_option maxHeartbeats 4000000 in
set_option maxRecDepth 100000 in
theorem c_X11_minutes (l : Launch) (D : va_G) (ad : Nat → Nat) (cy : Nat → ClassId) (x1 : Int32) (x2 : Int32) (x3 : Int32) (x4 : Int32) (g : Mm) (hp : TC[0]? = some sX11) (r0 : Int32) (hf : f_X11_minutes x1 x2 x3 x4 g = some r0) : Met l yX11_minutes wsX11_minutes rm_X11_minutes (va_Pc [.ref (ad 0), .int x1, .int x2, .int x3, .int x4] (mm_pre mm_Z D TC ad cy g)) (mm_Qi D TC ad cy r0 g) 0 0 (mm_A TC ad) := by
  refine Met.ofW (cc := cX11_minutes) (maxL := 5) (ret := (some .int)) (by decide) rfl ?_
  intro p e s m args below meth c s₁ B hml hv
  obtain ⟨hargs, hP, hK, hI, hZ⟩ := hv
  have hx := B.exec
  have hb := B.bytes
  have hr := B.returns
  have hts := atoms_spec (ws := wsX11_minutes) B.pre
  have hown : s.vm.findClass RX11 = some m.cls := findClass_of_methodNamed B.named
  have hlocks := B.notSynchronized
  have hw0 := hts (.fieldLink RX11 10 "LeftShoes" "now" "LLeftShoes$World;") (by decide +kernel)
  have hiX11 : ∀ w ∈ wsX110, w ∈ wsX11_minutes := by decide +kernel
  rw [show entryFrame m args 5 = F0 m 0 ((lg_sl ([.ref (ad 0), .int x1, .int x2, .int x3, .int x4] : List Value) ++ List.replicate (5 - (lg_sl ([.ref (ad 0), .int x1, .int x2, .int x3, .int x4] : List Value)).length) Slot.unset).toArray) [] from by rw [hargs]; exact lg_entry_eq m _ _]
  have hl := lv_entry ([.ref (ad 0), .int x1, .int x2, .int x3, .int x4] : List Value) (n := 5) (by exact Nat.le_of_ble_eq_true rfl)
  generalize (lg_sl ([.ref (ad 0), .int x1, .int x2, .int x3, .int x4] : List Value) ++ List.replicate (5 - (lg_sl ([.ref (ad 0), .int x1, .int x2, .int x3, .int x4] : List Value)).length) Slot.unset).toArray = ls at hl ⊢
  have hl : lv_has ls 5 [(0, .ref (ad 0)), (1, .int x1), (2, .int x2), (3, .int x3), (4, .int x4)] := by exact hl
  have hS : va_S (mm_A TC ad) s.heap s.heap [] := va_S.rf
  clear hargs
  unfold f_X11_minutes at hf
  have hH9 : ∀ (H : Heap) (locs : List Loc), H = s.heap → locs = [] → va_P D vwCl (mm_L TC ad cy g) H → va_S (mm_A TC ad) s.heap H locs → W p l e (headSpec wsX11_minutes (rm_X11_minutes)).room s m args below meth c H locs 0 0 (MQ below (mm_Qi D TC ad cy r0 g) args s 0 0 (mm_A TC ad)) (F0 m 0 ls []) := by
    intro H locs hH9 hL9 hP hS
    clear hH9 hL9
    refine lv_iload_n hx hb dX11_minutes_0 rfl (lv_at hl 2 rfl) ?_
    obtain ⟨r_1, hr_2, hf⟩ := op_some hf
    refine mq_calli (va_runS (As := [.int x2]) (rest := []) ⟨hx, hb, hml, hown, hts⟩ (c_X11_isMile l D ad cy x2 g r_1 hr_2) (va_cwS 1 hts gX11_minutes_X11_isMile rfl rfl rfl (by decide +kernel) ⟨Nat.le_of_ble_eq_true rfl, Nat.le_of_ble_eq_true rfl⟩) (mq_preS mm_zOkC hK hP hI hZ hS) rfl rfl hl.1 rfl (lv_room (Nat.le_of_ble_eq_true rfl)) dX11_minutes_1 ⟨Nat.le_refl _, Nat.le_refl _⟩) hS (fun H locs hP hS => ?_)
    refine lv_if_eq (tgt := 21) hx hb dX11_minutes_4 (by decide) (fun c_3 => ?_) (fun c_3 => ?_)
    · replace hf := ite_t c_3 hf
      refine lv_iconst (v := (-1)) hx hb dX11_minutes_21 (by decide) ?_
      exact mq_iret hx hb hr rfl hlocks hP hS (Option.some.inj hf) rfl dX11_minutes_22
    · replace hf := ite_f c_3 hf
      refine lv_aload_n hx hb dX11_minutes_7 rfl (lv_at hl 0 rfl) ?_
      refine mq_getr (Tt := TX11) (N := 9) (C := RX11) hx hb hts hiX11 hown hK hP hp rfl 0 1 (by decide) rfl hw0 (fun _ h9 => h9) dX11_minutes_8 ?_
      refine lv_iload_n hx hb dX11_minutes_11 rfl (lv_at hl 1 rfl) ?_
      refine lv_iload_n hx hb dX11_minutes_12 rfl (lv_at hl 3 rfl) ?_
      refine lv_iload hx hb dX11_minutes_13 (lv_at hl 4 rfl) ?_
      obtain ⟨r_4, hr_5, hf⟩ := op_some hf
      refine mq_calli (va_runV (As := [.int x1, .int x3, .int x4]) (rest := []) ⟨hx, hb, hml, hown, hts⟩ (c_X10_isGoingWith l D ad cy 1 x1 x3 x4 g (shTC_X11_1 hp) r_4 hr_5) (cwV 3 hts gX11_minutes_X10_isGoingWith rfl rfl rfl (by decide +kernel) ⟨Nat.le_of_ble_eq_true rfl, Nat.le_of_ble_eq_true rfl⟩) (mq_preV (q := (RX10, TX10, 9)) mm_zOkC hK hP hI hZ hS (shTC_X11_1 hp) rfl) rfl rfl hl.1 rfl (lv_room (Nat.le_of_ble_eq_true rfl)) dX11_minutes_15 ⟨Nat.le_refl _, Nat.le_refl _⟩) hS (fun H locs hP hS => ?_)
      refine lv_if_ne (tgt := 23) hx hb dX11_minutes_18 (by decide) (fun c_6 => ?_) (fun c_6 => ?_)
      · replace hf := ite_f c_6 hf
        refine lv_aload_n hx hb dX11_minutes_23 rfl (lv_at hl 0 rfl) ?_
        refine mq_getr (Tt := TX11) (N := 9) (C := RX11) hx hb hts hiX11 hown hK hP hp rfl 0 1 (by decide) rfl hw0 (fun _ h9 => h9) dX11_minutes_24 ?_
        refine lv_iload_n hx hb dX11_minutes_27 rfl (lv_at hl 1 rfl) ?_
        refine lv_iload_n hx hb dX11_minutes_28 rfl (lv_at hl 2 rfl) ?_
        refine lv_aload_n hx hb dX11_minutes_29 rfl (lv_at hl 0 rfl) ?_
        refine mq_getr (Tt := TX11) (N := 9) (C := RX11) hx hb hts hiX11 hown hK hP hp rfl 0 1 (by decide) rfl hw0 (fun _ h9 => h9) dX11_minutes_30 ?_
        refine lv_iload_n hx hb dX11_minutes_33 rfl (lv_at hl 3 rfl) ?_
        obtain ⟨r_7, hr_8, hf⟩ := op_some hf
        obtain ⟨h_9, hf⟩ := og_some hf
        refine mq_callq (va_runV (As := [.int x3]) (rest := [.int x2, .int x1, .ref (ad 1)]) ⟨hx, hb, hml, hown, hts⟩ (c_X10_shoeOrNull l D ad cy 1 x3 g (shTC_X11_1 hp) r_7 hr_8) (cwV 1 hts gX11_minutes_X10_shoeOrNull rfl rfl rfl (by decide +kernel) ⟨Nat.le_of_ble_eq_true rfl, Nat.le_of_ble_eq_true rfl⟩) (mq_preV (q := (RX10, TX10, 9)) mm_zOkC hK hP hI hZ hS (shTC_X11_1 hp) rfl) rfl rfl hl.1 rfl (lv_room (Nat.le_of_ble_eq_true rfl)) dX11_minutes_34 ⟨Nat.le_refl _, Nat.le_refl _⟩) hS (fun H locs hP hS => ?_)
        refine lv_aload_n hx hb dX11_minutes_37 rfl (lv_at hl 0 rfl) ?_
        refine mq_getr (Tt := TX11) (N := 9) (C := RX11) hx hb hts hiX11 hown hK hP hp rfl 0 1 (by decide) rfl hw0 (fun _ h9 => h9) dX11_minutes_38 ?_
        refine lv_iload hx hb dX11_minutes_41 (lv_at hl 4 rfl) ?_
        obtain ⟨r_10, hr_11, hf⟩ := op_some hf
        obtain ⟨h_12, hf⟩ := og_some hf
        refine mq_callq (va_runV (As := [.int x4]) (rest := [va_rf (Option.map ad r_7), .int x2, .int x1, .ref (ad 1)]) ⟨hx, hb, hml, hown, hts⟩ (c_X10_shoeOrNull l D ad cy 1 x4 g (shTC_X11_1 hp) r_10 hr_11) (cwV 1 hts gX11_minutes_X10_shoeOrNull rfl rfl rfl (by decide +kernel) ⟨Nat.le_of_ble_eq_true rfl, Nat.le_of_ble_eq_true rfl⟩) (mq_preV (q := (RX10, TX10, 9)) mm_zOkC hK hP hI hZ hS (shTC_X11_1 hp) rfl) rfl rfl hl.1 rfl (lv_room (by cases r_7 <;> exact Nat.le_of_ble_eq_true rfl)) dX11_minutes_43 ⟨Nat.le_refl _, Nat.le_refl _⟩) hS (fun H locs hP hS => ?_)
        obtain ⟨r_13, hr_14, hf⟩ := op_some hf
        refine mq_calli (va_runV (As := [.int x1, .int x2, va_rf (Option.map ad r_7), va_rf (Option.map ad r_10)]) (rest := []) ⟨hx, hb, hml, hown, hts⟩ (c_X10_minutesOf l D ad cy 1 x1 x2 r_7 r_10 g (shTC_X11_1 hp) h_9 h_12 r_13 hr_14) (cwV 4 hts gX11_minutes_X10_minutesOf rfl rfl rfl (by decide +kernel) ⟨Nat.le_of_ble_eq_true rfl, Nat.le_of_ble_eq_true rfl⟩) (mq_preV (q := (RX10, TX10, 9)) mm_zOkC hK hP hI hZ hS (shTC_X11_1 hp) rfl) rfl rfl hl.1 rfl (lv_room (Nat.le_of_ble_eq_true rfl)) dX11_minutes_46 ⟨Nat.le_refl _, Nat.le_refl _⟩) hS (fun H locs hP hS => ?_)
        exact mq_iret hx hb hr rfl hlocks hP hS (Option.some.inj hf) rfl dX11_minutes_49
      · replace hf := ite_t c_6 hf
        refine lv_iconst (v := (-1)) hx hb dX11_minutes_21 (by decide) ?_
        exact mq_iret hx hb hr rfl hlocks hP hS (Option.some.inj hf) rfl dX11_minutes_22
  exact hH9 s.heap [] rfl rfl hP hS
abbrev rm_X11_isWalk : Room := ({ frames := 5, cells := 0, slots := 0, locals := 113 } : Room)
set_option maxHeartbeats 4000000 in
set_option maxRecDepth 100000 in
theorem c_X11_isWalk (l : Launch) (D : va_G) (ad : Nat → Nat) (cy : Nat → ClassId) (x1 : Int32) (x2 : Int32) (x3 : Int32) (x4 : Int32) (x5 : Int32) (g : Mm) (hp : TC[0]? = some sX11) (r0 : Int32) (hf : f_X11_isWalk x1 x2 x3 x4 x5 g = some r0) : Met l yX11_isWalk wsX11_isWalk rm_X11_isWalk (va_Pc [.ref (ad 0), .int x1, .int x2, .int x3, .int x4, .int x5] (mm_pre mm_Z D TC ad cy g)) (mm_Qi D TC ad cy r0 g) 0 0 (mm_A TC ad) := by
  refine Met.ofW (cc := cX11_isWalk) (maxL := 6) (ret := (some .boolean)) (by decide) rfl ?_
  intro p e s m args below meth c s₁ B hml hv
  obtain ⟨hargs, hP, hK, hI, hZ⟩ := hv
  have hx := B.exec
  have hb := B.bytes
  have hr := B.returns
  have hts := atoms_spec (ws := wsX11_isWalk) B.pre
  have hown : s.vm.findClass RX11 = some m.cls := findClass_of_methodNamed B.named
  have hlocks := B.notSynchronized
  have hw0 := hts (.fieldLink RX11 10 "LeftShoes" "now" "LLeftShoes$World;") (by decide +kernel)
  have hiX11 : ∀ w ∈ wsX110, w ∈ wsX11_isWalk := by decide +kernel
  rw [show entryFrame m args 6 = F0 m 0 ((lg_sl ([.ref (ad 0), .int x1, .int x2, .int x3, .int x4, .int x5] : List Value) ++ List.replicate (6 - (lg_sl ([.ref (ad 0), .int x1, .int x2, .int x3, .int x4, .int x5] : List Value)).length) Slot.unset).toArray) [] from by rw [hargs]; exact lg_entry_eq m _ _]
  have hl := lv_entry ([.ref (ad 0), .int x1, .int x2, .int x3, .int x4, .int x5] : List Value) (n := 6) (by exact Nat.le_of_ble_eq_true rfl)
  generalize (lg_sl ([.ref (ad 0), .int x1, .int x2, .int x3, .int x4, .int x5] : List Value) ++ List.replicate (6 - (lg_sl ([.ref (ad 0), .int x1, .int x2, .int x3, .int x4, .int x5] : List Value)).length) Slot.unset).toArray = ls at hl ⊢
  have hl : lv_has ls 6 [(0, .ref (ad 0)), (1, .int x1), (2, .int x2), (3, .int x3), (4, .int x4), (5, .int x5)] := by exact hl
  have hS : va_S (mm_A TC ad) s.heap s.heap [] := va_S.rf
  clear hargs
  unfold f_X11_isWalk at hf
  have hH9 : ∀ (H : Heap) (locs : List Loc), H = s.heap → locs = [] → va_P D vwCl (mm_L TC ad cy g) H → va_S (mm_A TC ad) s.heap H locs → W p l e (headSpec wsX11_isWalk (rm_X11_isWalk)).room s m args below meth c H locs 0 0 (MQ below (mm_Qi D TC ad cy r0 g) args s 0 0 (mm_A TC ad)) (F0 m 0 ls []) := by
    intro H locs hH9 hL9 hP hS
    clear hH9 hL9
    refine lv_iload hx hb dX11_isWalk_0 (lv_at hl 5 rfl) ?_
    refine lv_iconst (v := 1) hx hb dX11_isWalk_2 (by decide) ?_
    refine lv_sipush (v := 999) hx hb dX11_isWalk_3 (by decide) ?_
    obtain ⟨r_1, hr_2, hf⟩ := op_some hf
    refine mq_calli (va_runS (As := [.int x5, .int 1, .int 999]) (rest := []) ⟨hx, hb, hml, hown, hts⟩ (c_X11_isWithin l D ad cy x5 1 999 g r_1 hr_2) (va_cwS 3 hts gX11_isWalk_X11_isWithin rfl rfl rfl (by decide +kernel) ⟨Nat.le_of_ble_eq_true rfl, Nat.le_of_ble_eq_true rfl⟩) (mq_preS mm_zOkC hK hP hI hZ hS) rfl rfl hl.1 rfl (lv_room (Nat.le_of_ble_eq_true rfl)) dX11_isWalk_6 ⟨Nat.le_refl _, Nat.le_refl _⟩) hS (fun H locs hP hS => ?_)
    refine lv_if_eq (tgt := 42) hx hb dX11_isWalk_9 (by decide) (fun c_3 => ?_) (fun c_3 => ?_)
    · replace hf := ite_t c_3 hf
      refine lv_iconst (v := 0) hx hb dX11_isWalk_42 (by decide) ?_
      exact mq_iret hx hb hr (by decide +kernel) hlocks hP hS (Option.some.inj hf) rfl dX11_isWalk_43
    · replace hf := ite_f c_3 hf
      refine lv_aload_n hx hb dX11_isWalk_12 rfl (lv_at hl 0 rfl) ?_
      refine mq_getr (Tt := TX11) (N := 9) (C := RX11) hx hb hts hiX11 hown hK hP hp rfl 0 1 (by decide) rfl hw0 (fun _ h9 => h9) dX11_isWalk_13 ?_
      refine lv_iload_n hx hb dX11_isWalk_16 rfl (lv_at hl 1 rfl) ?_
      obtain ⟨r_4, hr_5, hf⟩ := op_some hf
      refine mq_calli (va_runV (As := [.int x1]) (rest := []) ⟨hx, hb, hml, hown, hts⟩ (c_X10_isPerson l D ad cy 1 x1 g (shTC_X11_1 hp) r_4 hr_5) (cwV 1 hts gX11_isWalk_X10_isPerson rfl rfl rfl (by decide +kernel) ⟨Nat.le_of_ble_eq_true rfl, Nat.le_of_ble_eq_true rfl⟩) (mq_preV (q := (RX10, TX10, 9)) mm_zOkC hK hP hI hZ hS (shTC_X11_1 hp) rfl) rfl rfl hl.1 rfl (lv_room (Nat.le_of_ble_eq_true rfl)) dX11_isWalk_17 ⟨Nat.le_refl _, Nat.le_refl _⟩) hS (fun H locs hP hS => ?_)
      refine lv_if_eq (tgt := 42) hx hb dX11_isWalk_20 (by decide) (fun c_6 => ?_) (fun c_6 => ?_)
      · replace hf := ite_t c_6 hf
        refine lv_iconst (v := 0) hx hb dX11_isWalk_42 (by decide) ?_
        exact mq_iret hx hb hr (by decide +kernel) hlocks hP hS (Option.some.inj hf) rfl dX11_isWalk_43
      · replace hf := ite_f c_6 hf
        refine lv_aload_n hx hb dX11_isWalk_23 rfl (lv_at hl 0 rfl) ?_
        refine mq_getr (Tt := TX11) (N := 9) (C := RX11) hx hb hts hiX11 hown hK hP hp rfl 0 1 (by decide) rfl hw0 (fun _ h9 => h9) dX11_isWalk_24 ?_
        refine lv_iload_n hx hb dX11_isWalk_27 rfl (lv_at hl 1 rfl) ?_
        refine lv_iload_n hx hb dX11_isWalk_28 rfl (lv_at hl 2 rfl) ?_
        refine lv_iload_n hx hb dX11_isWalk_29 rfl (lv_at hl 3 rfl) ?_
        refine lv_iload hx hb dX11_isWalk_30 (lv_at hl 4 rfl) ?_
        obtain ⟨r_7, hr_8, hf⟩ := op_some hf
        refine mq_calli (va_runV (As := [.int x1, .int x2, .int x3, .int x4]) (rest := []) ⟨hx, hb, hml, hown, hts⟩ (c_X10_areWorn l D ad cy 1 x1 x2 x3 x4 g (shTC_X11_1 hp) r_7 hr_8) (cwV 4 hts gX11_isWalk_X10_areWorn rfl rfl rfl (by decide +kernel) ⟨Nat.le_of_ble_eq_true rfl, Nat.le_of_ble_eq_true rfl⟩) (mq_preV (q := (RX10, TX10, 9)) mm_zOkC hK hP hI hZ hS (shTC_X11_1 hp) rfl) rfl rfl hl.1 rfl (lv_room (Nat.le_of_ble_eq_true rfl)) dX11_isWalk_32 ⟨Nat.le_refl _, Nat.le_refl _⟩) hS (fun H locs hP hS => ?_)
        refine lv_if_eq (tgt := 42) hx hb dX11_isWalk_35 (by decide) (fun c_9 => ?_) (fun c_9 => ?_)
        · replace hf := ite_t c_9 hf
          refine lv_iconst (v := 0) hx hb dX11_isWalk_42 (by decide) ?_
          exact mq_iret hx hb hr (by decide +kernel) hlocks hP hS (Option.some.inj hf) rfl dX11_isWalk_43
        · replace hf := ite_f c_9 hf
          refine lv_iconst (v := 1) hx hb dX11_isWalk_38 (by decide) ?_
          refine lv_goto (tgt := 43) hx hb dX11_isWalk_39 (by decide) ?_
          exact mq_iret hx hb hr (by decide +kernel) hlocks hP hS (Option.some.inj hf) rfl dX11_isWalk_43
  exact hH9 s.heap [] rfl rfl hP hS
abbrev rm_X11_cheapest : Room := ({ frames := 6, cells := 0, slots := 0, locals := 138 } : Room)
set_option maxHeartbeats 4000000 in
set_option maxRecDepth 100000 in
theorem c_X11_cheapest (l : Launch) (D : va_G) (ad : Nat → Nat) (cy : Nat → ClassId) (x1 : Int32) (x2 : Int32) (x3 : Int32) (x4 : Int32) (x5 : Int32) (x6 : Int32) (g : Mm) (hp : TC[0]? = some sX11) (r0 : Int32) (g' : Mm) (hf : f_X11_cheapest x1 x2 x3 x4 x5 x6 g = some (r0, g')) : Met l yX11_cheapest wsX11_cheapest rm_X11_cheapest (va_Pc [.ref (ad 0), .int x1, .int x2, .int x3, .int x4, .int x5, .int x6] (mm_pre mm_Z D TC ad cy g)) (mm_Qi D TC ad cy r0 g') 0 0 (mm_A TC ad) := by
  refine Met.ofW (cc := cX11_cheapest) (maxL := 7) (ret := (some .int)) (by decide) rfl ?_
  intro p e s m args below meth c s₁ B hml hv
  obtain ⟨hargs, hP, hK, hI, hZ⟩ := hv
  have hx := B.exec
  have hb := B.bytes
  have hr := B.returns
  have hts := atoms_spec (ws := wsX11_cheapest) B.pre
  have hown : s.vm.findClass RX11 = some m.cls := findClass_of_methodNamed B.named
  have hlocks := B.notSynchronized
  have hw0 := hts (.fieldLink RX11 43 "LeftShoes" "walk" "LLeftShoes$Walk;") (by decide +kernel)
  have hiX11 : ∀ w ∈ wsX110, w ∈ wsX11_cheapest := by decide +kernel
  have hw2 := hts (.fieldLink RX11 10 "LeftShoes" "now" "LLeftShoes$World;") (by decide +kernel)
  have hw3 := hts (.fieldLink RX11 113 "LeftShoes$World" "feet" "[I") (by decide +kernel)
  have hiX10 : ∀ w ∈ wsX100, w ∈ wsX11_cheapest := by decide +kernel
  have hw5 := hts (.fieldLink RX11 226 "LeftShoes$Walk" "best" "[I") (by decide +kernel)
  have hiX9 : ∀ w ∈ wsX90, w ∈ wsX11_cheapest := by decide +kernel
  have hw7 := hts (.fieldLink RX11 223 "LeftShoes$Walk" "bestMinutes" "I") (by decide +kernel)
  have hw8 := hts (.fieldLink RX11 220 "LeftShoes$Walk" "bestCost" "I") (by decide +kernel)
  rw [show entryFrame m args 7 = F0 m 0 ((lg_sl ([.ref (ad 0), .int x1, .int x2, .int x3, .int x4, .int x5, .int x6] : List Value) ++ List.replicate (7 - (lg_sl ([.ref (ad 0), .int x1, .int x2, .int x3, .int x4, .int x5, .int x6] : List Value)).length) Slot.unset).toArray) [] from by rw [hargs]; exact lg_entry_eq m _ _]
  have hl := lv_entry ([.ref (ad 0), .int x1, .int x2, .int x3, .int x4, .int x5, .int x6] : List Value) (n := 7) (by exact Nat.le_of_ble_eq_true rfl)
  generalize (lg_sl ([.ref (ad 0), .int x1, .int x2, .int x3, .int x4, .int x5, .int x6] : List Value) ++ List.replicate (7 - (lg_sl ([.ref (ad 0), .int x1, .int x2, .int x3, .int x4, .int x5, .int x6] : List Value)).length) Slot.unset).toArray = ls at hl ⊢
  have hl : lv_has ls 7 [(0, .ref (ad 0)), (1, .int x1), (2, .int x2), (3, .int x3), (4, .int x4), (5, .int x5), (6, .int x6)] := by exact hl
  have hS : va_S (mm_A TC ad) s.heap s.heap [] := va_S.rf
  clear hargs
  have hc53 : ∀ (sq0 : Nat) (sq1 : Nat) (sx2 : Int32) (g : Mm) (H : Heap) (locs : List Loc) (ls : Array Slot), TC[sq0]? = some sX9 → TC[sq1]? = some sX10 → va_P D vwCl (mm_L TC ad cy g) H → va_S (mm_A TC ad) s.heap H locs → lv_has ls 7 [(0, .ref (ad 0)), (1, .int x1), (2, .int x2), (3, .int x3), (4, .int x4), (5, .int x5), (6, .int x6)] → f_X11_cheapest_c53 x2 x3 x4 x5 x6 sq0 sq1 sx2 g = some (r0, g') → W p l e (headSpec wsX11_cheapest (rm_X11_cheapest)).room s m args below meth c H locs 0 0 (MQ below (mm_Qi D TC ad cy r0 g') args s 0 0 (mm_A TC ad)) (F0 m 53 ls [.int sx2, .ref (ad sq1), .ref (ad sq0)]) := by
    intro sq0 sq1 sx2 g H locs ls hsq0 hsq1 hP hS hl hf
    unfold f_X11_cheapest_c53 at hf
    refine lv_iload_n hx hb dX11_cheapest_53 rfl (lv_at hl 2 rfl) ?_
    refine lv_iload_n hx hb dX11_cheapest_54 rfl (lv_at hl 3 rfl) ?_
    refine lv_iload hx hb dX11_cheapest_55 (lv_at hl 4 rfl) ?_
    refine lv_iload hx hb dX11_cheapest_57 (lv_at hl 5 rfl) ?_
    obtain ⟨r_10, g_9, hr_11, hf⟩ := ob_some hf
    refine mq_calli (va_runV (As := [.ref (ad sq1), .int sx2, .int x2, .int x3, .int x4, .int x5]) (rest := []) ⟨hx, hb, hml, hown, hts⟩ (c_X9_search l D ad cy sq0 sq1 sx2 x2 x3 x4 x5 g hsq0 hsq1 r_10 g_9 hr_11) (cwV 6 hts gX11_cheapest_X9_search rfl rfl rfl (by decide +kernel) ⟨Nat.le_of_ble_eq_true rfl, Nat.le_of_ble_eq_true rfl⟩) (mq_preV (q := (RX9, TX9, 19)) mm_zOkC hK hP hI hZ hS hsq0 rfl) rfl rfl hl.1 rfl (lv_room (Nat.le_of_ble_eq_true rfl)) dX11_cheapest_59 ⟨Nat.le_refl _, Nat.le_refl _⟩) hS (fun H locs hP hS => ?_)
    refine lv_if_ne (tgt := 68) hx hb dX11_cheapest_62 (by decide) (fun c_12 => ?_) (fun c_12 => ?_)
    · replace hf := ite_f c_12 hf
      refine lv_iload hx hb dX11_cheapest_68 (lv_at hl 6 rfl) ?_
      refine lv_iconst (v := (-1)) hx hb dX11_cheapest_70 (by decide) ?_
      refine lv_icmp_ne (tgt := 82) hx hb dX11_cheapest_71 (by decide) (fun c_13 => ?_) (fun c_13 => ?_)
      · replace hf := ite_f c_13 hf
        refine lv_iload hx hb dX11_cheapest_82 (lv_at hl 6 rfl) ?_
        refine lv_bipush (v := (-2)) hx hb dX11_cheapest_84 (by decide) ?_
        refine lv_icmp_ne (tgt := 99) hx hb dX11_cheapest_86 (by decide) (fun c_14 => ?_) (fun c_14 => ?_)
        · replace hf := ite_f c_14 hf
          refine lv_aload_n hx hb dX11_cheapest_99 rfl (lv_at hl 0 rfl) ?_
          refine mq_getr (Tt := TX11) (N := 9) (C := RX11) hx hb hts hiX11 hown hK hP hp rfl 6 90 (by decide) rfl hw0 (fun _ h9 => h9) dX11_cheapest_100 ?_
          refine mq_getr (Tt := TX9) (N := 19) (C := RX9) hx hb hts hiX9 hown hK hP (shTC_X11_90 hp) rfl 16 49 (by decide) rfl hw5 (fun _ h9 => h9) dX11_cheapest_103 ?_
          refine lv_iload hx hb dX11_cheapest_106 (lv_at hl 6 rfl) ?_
          obtain ⟨h_15, hf⟩ := og_some hf
          refine mq_iald hx hb hK hP (N := 9) (shTC_X11_139 hp) h_15 dX11_cheapest_108 ?_
          exact mq_iret hx hb hr rfl hlocks hP hS (pr_1 hf) (pr_2 hf) dX11_cheapest_109
        · replace hf := ite_t c_14 hf
          refine lv_aload_n hx hb dX11_cheapest_89 rfl (lv_at hl 0 rfl) ?_
          refine mq_getr (Tt := TX11) (N := 9) (C := RX11) hx hb hts hiX11 hown hK hP hp rfl 6 90 (by decide) rfl hw0 (fun _ h9 => h9) dX11_cheapest_90 ?_
          refine mq_geti (Tt := TX9) (N := 19) (C := RX9) hx hb hts hiX9 hown hK hP (shTC_X11_90 hp) rfl 18 (by decide) rfl hw7 (fun _ h9 => h9) dX11_cheapest_93 ?_
          refine lv_goto (tgt := 109) hx hb dX11_cheapest_96 (by decide) ?_
          exact mq_iret hx hb hr rfl hlocks hP hS (pr_1 hf) (pr_2 hf) dX11_cheapest_109
      · replace hf := ite_t c_13 hf
        refine lv_aload_n hx hb dX11_cheapest_74 rfl (lv_at hl 0 rfl) ?_
        refine mq_getr (Tt := TX11) (N := 9) (C := RX11) hx hb hts hiX11 hown hK hP hp rfl 6 90 (by decide) rfl hw0 (fun _ h9 => h9) dX11_cheapest_75 ?_
        refine mq_geti (Tt := TX9) (N := 19) (C := RX9) hx hb hts hiX9 hown hK hP (shTC_X11_90 hp) rfl 17 (by decide) rfl hw8 (fun _ h9 => h9) dX11_cheapest_78 ?_
        exact mq_iret hx hb hr rfl hlocks hP hS (pr_1 hf) (pr_2 hf) dX11_cheapest_81
    · replace hf := ite_t c_12 hf
      refine lv_bipush (v := (-4)) hx hb dX11_cheapest_65 (by decide) ?_
      exact mq_iret hx hb hr rfl hlocks hP hS (pr_1 hf) (pr_2 hf) dX11_cheapest_67
  unfold f_X11_cheapest at hf
  have hH9 : ∀ (H : Heap) (locs : List Loc), H = s.heap → locs = [] → va_P D vwCl (mm_L TC ad cy g) H → va_S (mm_A TC ad) s.heap H locs → W p l e (headSpec wsX11_cheapest (rm_X11_cheapest)).room s m args below meth c H locs 0 0 (MQ below (mm_Qi D TC ad cy r0 g') args s 0 0 (mm_A TC ad)) (F0 m 0 ls []) := by
    intro H locs hH9 hL9 hP hS
    clear hH9 hL9
    refine lv_iload hx hb dX11_cheapest_0 (lv_at hl 6 rfl) ?_
    refine lv_bipush (v := (-2)) hx hb dX11_cheapest_2 (by decide) ?_
    refine lv_bipush (v := 8) hx hb dX11_cheapest_4 (by decide) ?_
    obtain ⟨r_1, hr_2, hf⟩ := op_some hf
    refine mq_calli (va_runS (As := [.int x6, .int (-2), .int 8]) (rest := []) ⟨hx, hb, hml, hown, hts⟩ (c_X11_isWithin l D ad cy x6 (-2) 8 g r_1 hr_2) (va_cwS 3 hts gX11_cheapest_X11_isWithin rfl rfl rfl (by decide +kernel) ⟨Nat.le_of_ble_eq_true rfl, Nat.le_of_ble_eq_true rfl⟩) (mq_preS mm_zOkC hK hP hI hZ hS) rfl rfl hl.1 rfl (lv_room (Nat.le_of_ble_eq_true rfl)) dX11_cheapest_6 ⟨Nat.le_refl _, Nat.le_refl _⟩) hS (fun H locs hP hS => ?_)
    refine lv_if_eq (tgt := 26) hx hb dX11_cheapest_9 (by decide) (fun c_3 => ?_) (fun c_3 => ?_)
    · replace hf := ite_t c_3 hf
      refine lv_iconst (v := (-1)) hx hb dX11_cheapest_26 (by decide) ?_
      exact mq_iret hx hb hr rfl hlocks hP hS (pr_1 hf) (pr_2 hf) dX11_cheapest_27
    · replace hf := ite_f c_3 hf
      refine lv_aload_n hx hb dX11_cheapest_12 rfl (lv_at hl 0 rfl) ?_
      refine lv_iload_n hx hb dX11_cheapest_13 rfl (lv_at hl 1 rfl) ?_
      refine lv_iload_n hx hb dX11_cheapest_14 rfl (lv_at hl 2 rfl) ?_
      refine lv_iload_n hx hb dX11_cheapest_15 rfl (lv_at hl 3 rfl) ?_
      refine lv_iload hx hb dX11_cheapest_16 (lv_at hl 4 rfl) ?_
      refine lv_iload hx hb dX11_cheapest_18 (lv_at hl 5 rfl) ?_
      obtain ⟨r_4, hr_5, hf⟩ := op_some hf
      refine mq_calli (va_runV (As := [.int x1, .int x2, .int x3, .int x4, .int x5]) (rest := []) ⟨hx, hb, hml, hown, hts⟩ (c_X11_isWalk l D ad cy x1 x2 x3 x4 x5 g hp r_4 hr_5) (cwV 5 hts gX11_cheapest_X11_isWalk rfl rfl rfl (by decide +kernel) ⟨Nat.le_of_ble_eq_true rfl, Nat.le_of_ble_eq_true rfl⟩) (mq_preV (q := (RX11, TX11, 9)) mm_zOkC hK hP hI hZ hS hp rfl) rfl rfl hl.1 rfl (lv_room (Nat.le_of_ble_eq_true rfl)) dX11_cheapest_20 ⟨Nat.le_refl _, Nat.le_refl _⟩) hS (fun H locs hP hS => ?_)
      refine lv_if_ne (tgt := 28) hx hb dX11_cheapest_23 (by decide) (fun c_6 => ?_) (fun c_6 => ?_)
      · replace hf := ite_f c_6 hf
        refine lv_aload_n hx hb dX11_cheapest_28 rfl (lv_at hl 0 rfl) ?_
        refine mq_getr (Tt := TX11) (N := 9) (C := RX11) hx hb hts hiX11 hown hK hP hp rfl 6 90 (by decide) rfl hw0 (fun _ h9 => h9) dX11_cheapest_29 ?_
        refine lv_aload_n hx hb dX11_cheapest_32 rfl (lv_at hl 0 rfl) ?_
        refine mq_getr (Tt := TX11) (N := 9) (C := RX11) hx hb hts hiX11 hown hK hP hp rfl 0 1 (by decide) rfl hw2 (fun _ h9 => h9) dX11_cheapest_33 ?_
        refine lv_aload_n hx hb dX11_cheapest_36 rfl (lv_at hl 0 rfl) ?_
        refine mq_getr (Tt := TX11) (N := 9) (C := RX11) hx hb hts hiX11 hown hK hP hp rfl 0 1 (by decide) rfl hw2 (fun _ h9 => h9) dX11_cheapest_37 ?_
        refine mq_getr (Tt := TX10) (N := 9) (C := RX10) hx hb hts hiX10 hown hK hP (shTC_X11_1 hp) rfl 2 2 (by decide) rfl hw3 (fun _ h9 => h9) dX11_cheapest_40 ?_
        refine lv_iload_n hx hb dX11_cheapest_43 rfl (lv_at hl 1 rfl) ?_
        obtain ⟨h_7, hf⟩ := og_some hf
        refine mq_iald hx hb hK hP (N := 5) (shTC_X11_3 hp) h_7 dX11_cheapest_44 ?_
        refine lv_if_eq (tgt := 52) hx hb dX11_cheapest_45 (by decide) (fun c_8 => ?_) (fun c_8 => ?_)
        · replace hf := ite_t c_8 hf
          refine lv_iconst (v := 0) hx hb dX11_cheapest_52 (by decide) ?_
          exact hc53 90 1 0 g H locs ls (shTC_X11_90 hp) (shTC_X11_1 hp) hP hS (lv_sub hl [0, 1, 2, 3, 4, 5, 6] rfl) hf
        · replace hf := ite_f c_8 hf
          refine lv_iconst (v := 1) hx hb dX11_cheapest_48 (by decide) ?_
          refine lv_goto (tgt := 53) hx hb dX11_cheapest_49 (by decide) ?_
          exact hc53 90 1 1 g H locs ls (shTC_X11_90 hp) (shTC_X11_1 hp) hP hS (lv_sub hl [0, 1, 2, 3, 4, 5, 6] rfl) hf
      · replace hf := ite_t c_6 hf
        refine lv_iconst (v := (-1)) hx hb dX11_cheapest_26 (by decide) ?_
        exact mq_iret hx hb hr rfl hlocks hP hS (pr_1 hf) (pr_2 hf) dX11_cheapest_27
  exact hH9 s.heap [] rfl rfl hP hS
abbrev rm_X11_go : Room := ({ frames := 6, cells := 0, slots := 0, locals := 138 } : Room)
set_option maxHeartbeats 4000000 in
set_option maxRecDepth 100000 in
theorem c_X11_go (l : Launch) (D : va_G) (ad : Nat → Nat) (cy : Nat → ClassId) (x1 : Int32) (x2 : Int32) (x3 : Int32) (x4 : Int32) (x5 : Int32) (g : Mm) (hp : TC[0]? = some sX11) (r0 : Int32) (g' : Mm) (hf : f_X11_go x1 x2 x3 x4 x5 g = some (r0, g')) : Met l yX11_go wsX11_go rm_X11_go (va_Pc [.ref (ad 0), .int x1, .int x2, .int x3, .int x4, .int x5] (mm_pre mm_Z D TC ad cy g)) (mm_Qi D TC ad cy r0 g') 0 0 (mm_A TC ad) := by
  refine Met.ofW (cc := cX11_go) (maxL := 7) (ret := (some .int)) (by decide) rfl ?_
  intro p e s m args below meth c s₁ B hml hv
  obtain ⟨hargs, hP, hK, hI, hZ⟩ := hv
  have hx := B.exec
  have hb := B.bytes
  have hr := B.returns
  have hts := atoms_spec (ws := wsX11_go) B.pre
  have hown : s.vm.findClass RX11 = some m.cls := findClass_of_methodNamed B.named
  have hlocks := B.notSynchronized
  have hw0 := hts (.fieldLink RX11 43 "LeftShoes" "walk" "LLeftShoes$Walk;") (by decide +kernel)
  have hiX11 : ∀ w ∈ wsX110, w ∈ wsX11_go := by decide +kernel
  have hw2 := hts (.fieldLink RX11 10 "LeftShoes" "now" "LLeftShoes$World;") (by decide +kernel)
  have hw3 := hts (.fieldLink RX11 113 "LeftShoes$World" "feet" "[I") (by decide +kernel)
  have hiX10 : ∀ w ∈ wsX100, w ∈ wsX11_go := by decide +kernel
  have hw5 := hts (.fieldLink RX11 220 "LeftShoes$Walk" "bestCost" "I") (by decide +kernel)
  have hiX9 : ∀ w ∈ wsX90, w ∈ wsX11_go := by decide +kernel
  have hw7 := hts (.fieldLink RX11 109 "LeftShoes$World" "purses" "[I") (by decide +kernel)
  rw [show entryFrame m args 7 = F0 m 0 ((lg_sl ([.ref (ad 0), .int x1, .int x2, .int x3, .int x4, .int x5] : List Value) ++ List.replicate (7 - (lg_sl ([.ref (ad 0), .int x1, .int x2, .int x3, .int x4, .int x5] : List Value)).length) Slot.unset).toArray) [] from by rw [hargs]; exact lg_entry_eq m _ _]
  have hl := lv_entry ([.ref (ad 0), .int x1, .int x2, .int x3, .int x4, .int x5] : List Value) (n := 7) (by exact Nat.le_of_ble_eq_true rfl)
  generalize (lg_sl ([.ref (ad 0), .int x1, .int x2, .int x3, .int x4, .int x5] : List Value) ++ List.replicate (7 - (lg_sl ([.ref (ad 0), .int x1, .int x2, .int x3, .int x4, .int x5] : List Value)).length) Slot.unset).toArray = ls at hl ⊢
  have hl : lv_has ls 7 [(0, .ref (ad 0)), (1, .int x1), (2, .int x2), (3, .int x3), (4, .int x4), (5, .int x5)] := by exact hl
  have hS : va_S (mm_A TC ad) s.heap s.heap [] := va_S.rf
  clear hargs
  have hc41 : ∀ (sq0 : Nat) (sq1 : Nat) (sx2 : Int32) (g : Mm) (H : Heap) (locs : List Loc) (ls : Array Slot), TC[sq0]? = some sX9 → TC[sq1]? = some sX10 → va_P D vwCl (mm_L TC ad cy g) H → va_S (mm_A TC ad) s.heap H locs → lv_has ls 7 [(0, .ref (ad 0)), (1, .int x1), (2, .int x2), (3, .int x3), (4, .int x4), (5, .int x5)] → f_X11_go_c41 x1 x2 x3 x4 x5 sq0 sq1 sx2 g = some (r0, g') → W p l e (headSpec wsX11_go (rm_X11_go)).room s m args below meth c H locs 0 0 (MQ below (mm_Qi D TC ad cy r0 g') args s 0 0 (mm_A TC ad)) (F0 m 41 ls [.int sx2, .ref (ad sq1), .ref (ad sq0)]) := by
    intro sq0 sq1 sx2 g H locs ls hsq0 hsq1 hP hS hl hf
    unfold f_X11_go_c41 at hf
    refine lv_iload_n hx hb dX11_go_41 rfl (lv_at hl 2 rfl) ?_
    refine lv_iload_n hx hb dX11_go_42 rfl (lv_at hl 3 rfl) ?_
    refine lv_iload hx hb dX11_go_43 (lv_at hl 4 rfl) ?_
    refine lv_iload hx hb dX11_go_45 (lv_at hl 5 rfl) ?_
    obtain ⟨r_7, g_6, hr_8, hf⟩ := ob_some hf
    refine mq_calli (va_runV (As := [.ref (ad sq1), .int sx2, .int x2, .int x3, .int x4, .int x5]) (rest := []) ⟨hx, hb, hml, hown, hts⟩ (c_X9_search l D ad cy sq0 sq1 sx2 x2 x3 x4 x5 g hsq0 hsq1 r_7 g_6 hr_8) (cwV 6 hts gX11_go_X9_search rfl rfl rfl (by decide +kernel) ⟨Nat.le_of_ble_eq_true rfl, Nat.le_of_ble_eq_true rfl⟩) (mq_preV (q := (RX9, TX9, 19)) mm_zOkC hK hP hI hZ hS hsq0 rfl) rfl rfl hl.1 rfl (lv_room (Nat.le_of_ble_eq_true rfl)) dX11_go_47 ⟨Nat.le_refl _, Nat.le_refl _⟩) hS (fun H locs hP hS => ?_)
    refine lv_if_ne (tgt := 56) hx hb dX11_go_50 (by decide) (fun c_9 => ?_) (fun c_9 => ?_)
    · replace hf := ite_f c_9 hf
      refine lv_aload_n hx hb dX11_go_56 rfl (lv_at hl 0 rfl) ?_
      refine mq_getr (Tt := TX11) (N := 9) (C := RX11) hx hb hts hiX11 hown hK hP hp rfl 6 90 (by decide) rfl hw0 (fun _ h9 => h9) dX11_go_57 ?_
      refine mq_geti (Tt := TX9) (N := 19) (C := RX9) hx hb hts hiX9 hown hK hP (shTC_X11_90 hp) rfl 17 (by decide) rfl hw5 (fun _ h9 => h9) dX11_go_60 ?_
      refine lv_bipush (v := 16) hx hb dX11_go_63 (by decide) ?_
      refine lv_idiv hx hb dX11_go_65 (by decide) ?_
      obtain ⟨x6_10, ex6_10, hf⟩ := mv_some hf
      refine mq_nm ex6_10 ?_
      refine lv_istore (lv' := [(6, .int x6_10), (0, .ref (ad 0)), (1, .int x1), (2, .int x2), (3, .int x3), (4, .int x4), (5, .int x5)]) hx hb dX11_go_66 hl (by decide) rfl (fun ls hl => ?_)
      refine lv_aload_n hx hb dX11_go_68 rfl (lv_at hl 1 rfl) ?_
      refine mq_getr (Tt := TX11) (N := 9) (C := RX11) hx hb hts hiX11 hown hK hP hp rfl 0 1 (by decide) rfl hw2 (fun _ h9 => h9) dX11_go_69 ?_
      refine mq_getr (Tt := TX10) (N := 9) (C := RX10) hx hb hts hiX10 hown hK hP (shTC_X11_1 hp) rfl 1 1 (by decide) rfl hw7 (fun _ h9 => h9) dX11_go_72 ?_
      refine lv_iload_n hx hb dX11_go_75 rfl (lv_at hl 2 rfl) ?_
      obtain ⟨h_11, hf⟩ := og_some hf
      refine mq_iald hx hb hK hP (N := 5) (shTC_X11_2 hp) h_11 dX11_go_76 ?_
      refine lv_iload hx hb dX11_go_77 (lv_at hl 0 rfl) ?_
      refine lv_icmp_ge (tgt := 85) hx hb dX11_go_79 (by decide) (fun c_12 => ?_) (fun c_12 => ?_)
      · replace hf := ite_t c_12 hf
        refine lv_aload_n hx hb dX11_go_85 rfl (lv_at hl 1 rfl) ?_
        refine mq_getr (Tt := TX11) (N := 9) (C := RX11) hx hb hts hiX11 hown hK hP hp rfl 0 1 (by decide) rfl hw2 (fun _ h9 => h9) dX11_go_86 ?_
        refine mq_getr (Tt := TX10) (N := 9) (C := RX10) hx hb hts hiX10 hown hK hP (shTC_X11_1 hp) rfl 1 1 (by decide) rfl hw7 (fun _ h9 => h9) dX11_go_89 ?_
        refine lv_iload_n hx hb dX11_go_92 rfl (lv_at hl 2 rfl) ?_
        refine lv_dup2_11 hx hb dX11_go_93 rfl rfl ?_
        obtain ⟨h_13, hf⟩ := og_some hf
        refine mq_iald hx hb hK hP (N := 5) (shTC_X11_2 hp) h_13 dX11_go_94 ?_
        refine lv_iload hx hb dX11_go_95 (lv_at hl 0 rfl) ?_
        refine lv_isub hx hb dX11_go_97 ?_
        obtain ⟨h_14, hf⟩ := og_some hf
        obtain ⟨g_15, eg_15, hf⟩ := mw_some hf
        refine mq_iast hx hb hK hI hP hS (N := 5) (shTC_X11_2 hp) h_14 dX11_go_98 eg_15 (fun H locs hP hS => ?_)
        refine lv_aload_n hx hb dX11_go_99 rfl (lv_at hl 1 rfl) ?_
        refine mq_getr (Tt := TX11) (N := 9) (C := RX11) hx hb hts hiX11 hown hK hP hp rfl 6 90 (by decide) rfl hw0 (fun _ h9 => h9) dX11_go_100 ?_
        obtain ⟨g_16, hr_17, hf⟩ := op_some hf
        refine mq_callv (va_runV (As := []) (rest := []) ⟨hx, hb, hml, hown, hts⟩ (c_X9_wearOut l D ad cy 90 g_15 (shTC_X11_90 hp) g_16 hr_17) (cwV 0 hts gX11_go_X9_wearOut rfl rfl rfl (by decide +kernel) ⟨Nat.le_of_ble_eq_true rfl, Nat.le_of_ble_eq_true rfl⟩) (mq_preV (q := (RX9, TX9, 19)) mm_zOkC hK hP hI hZ hS (shTC_X11_90 hp) rfl) rfl rfl hl.1 rfl (lv_room (Nat.le_of_ble_eq_true rfl)) dX11_go_103 ⟨Nat.le_refl _, Nat.le_refl _⟩) hS (fun H locs hP hS => ?_)
        refine lv_iload hx hb dX11_go_106 (lv_at hl 0 rfl) ?_
        exact mq_iret hx hb hr rfl hlocks hP hS (pr_1 hf) (pr_2 hf) dX11_go_108
      · replace hf := ite_f c_12 hf
        refine lv_bipush (v := (-2)) hx hb dX11_go_82 (by decide) ?_
        exact mq_iret hx hb hr rfl hlocks hP hS (pr_1 hf) (pr_2 hf) dX11_go_84
    · replace hf := ite_t c_9 hf
      refine lv_bipush (v := (-4)) hx hb dX11_go_53 (by decide) ?_
      exact mq_iret hx hb hr rfl hlocks hP hS (pr_1 hf) (pr_2 hf) dX11_go_55
  unfold f_X11_go at hf
  have hH9 : ∀ (H : Heap) (locs : List Loc), H = s.heap → locs = [] → va_P D vwCl (mm_L TC ad cy g) H → va_S (mm_A TC ad) s.heap H locs → W p l e (headSpec wsX11_go (rm_X11_go)).room s m args below meth c H locs 0 0 (MQ below (mm_Qi D TC ad cy r0 g') args s 0 0 (mm_A TC ad)) (F0 m 0 ls []) := by
    intro H locs hH9 hL9 hP hS
    clear hH9 hL9
    refine lv_aload_n hx hb dX11_go_0 rfl (lv_at hl 0 rfl) ?_
    refine lv_iload_n hx hb dX11_go_1 rfl (lv_at hl 1 rfl) ?_
    refine lv_iload_n hx hb dX11_go_2 rfl (lv_at hl 2 rfl) ?_
    refine lv_iload_n hx hb dX11_go_3 rfl (lv_at hl 3 rfl) ?_
    refine lv_iload hx hb dX11_go_4 (lv_at hl 4 rfl) ?_
    refine lv_iload hx hb dX11_go_6 (lv_at hl 5 rfl) ?_
    obtain ⟨r_1, hr_2, hf⟩ := op_some hf
    refine mq_calli (va_runV (As := [.int x1, .int x2, .int x3, .int x4, .int x5]) (rest := []) ⟨hx, hb, hml, hown, hts⟩ (c_X11_isWalk l D ad cy x1 x2 x3 x4 x5 g hp r_1 hr_2) (cwV 5 hts gX11_go_X11_isWalk rfl rfl rfl (by decide +kernel) ⟨Nat.le_of_ble_eq_true rfl, Nat.le_of_ble_eq_true rfl⟩) (mq_preV (q := (RX11, TX11, 9)) mm_zOkC hK hP hI hZ hS hp rfl) rfl rfl hl.1 rfl (lv_room (Nat.le_of_ble_eq_true rfl)) dX11_go_8 ⟨Nat.le_refl _, Nat.le_refl _⟩) hS (fun H locs hP hS => ?_)
    refine lv_if_ne (tgt := 16) hx hb dX11_go_11 (by decide) (fun c_3 => ?_) (fun c_3 => ?_)
    · replace hf := ite_f c_3 hf
      refine lv_aload_n hx hb dX11_go_16 rfl (lv_at hl 0 rfl) ?_
      refine mq_getr (Tt := TX11) (N := 9) (C := RX11) hx hb hts hiX11 hown hK hP hp rfl 6 90 (by decide) rfl hw0 (fun _ h9 => h9) dX11_go_17 ?_
      refine lv_aload_n hx hb dX11_go_20 rfl (lv_at hl 0 rfl) ?_
      refine mq_getr (Tt := TX11) (N := 9) (C := RX11) hx hb hts hiX11 hown hK hP hp rfl 0 1 (by decide) rfl hw2 (fun _ h9 => h9) dX11_go_21 ?_
      refine lv_aload_n hx hb dX11_go_24 rfl (lv_at hl 0 rfl) ?_
      refine mq_getr (Tt := TX11) (N := 9) (C := RX11) hx hb hts hiX11 hown hK hP hp rfl 0 1 (by decide) rfl hw2 (fun _ h9 => h9) dX11_go_25 ?_
      refine mq_getr (Tt := TX10) (N := 9) (C := RX10) hx hb hts hiX10 hown hK hP (shTC_X11_1 hp) rfl 2 2 (by decide) rfl hw3 (fun _ h9 => h9) dX11_go_28 ?_
      refine lv_iload_n hx hb dX11_go_31 rfl (lv_at hl 1 rfl) ?_
      obtain ⟨h_4, hf⟩ := og_some hf
      refine mq_iald hx hb hK hP (N := 5) (shTC_X11_3 hp) h_4 dX11_go_32 ?_
      refine lv_if_eq (tgt := 40) hx hb dX11_go_33 (by decide) (fun c_5 => ?_) (fun c_5 => ?_)
      · replace hf := ite_t c_5 hf
        refine lv_iconst (v := 0) hx hb dX11_go_40 (by decide) ?_
        exact hc41 90 1 0 g H locs ls (shTC_X11_90 hp) (shTC_X11_1 hp) hP hS (lv_sub hl [0, 1, 2, 3, 4, 5] rfl) hf
      · replace hf := ite_f c_5 hf
        refine lv_iconst (v := 1) hx hb dX11_go_36 (by decide) ?_
        refine lv_goto (tgt := 41) hx hb dX11_go_37 (by decide) ?_
        exact hc41 90 1 1 g H locs ls (shTC_X11_90 hp) (shTC_X11_1 hp) hP hS (lv_sub hl [0, 1, 2, 3, 4, 5] rfl) hf
    · replace hf := ite_t c_3 hf
      refine lv_iconst (v := (-1)) hx hb dX11_go_14 (by decide) ?_
      exact mq_iret hx hb hr rfl hlocks hP hS (pr_1 hf) (pr_2 hf) dX11_go_15
  exact hH9 s.heap [] rfl rfl hP hS
abbrev rm_X11_arePoints : Room := ({ frames := 1, cells := 0, slots := 0, locals := 22 } : Room)
set_option maxHeartbeats 4000000 in
set_option maxRecDepth 100000 in
theorem c_X11_arePoints (l : Launch) (D : va_G) (ad : Nat → Nat) (cy : Nat → ClassId) (x0 : Int32) (x1 : Int32) (g : Mm)  (r0 : Int32) (hf : f_X11_arePoints x0 x1 = some r0) : Met l yX11_arePoints wsX11_arePoints rm_X11_arePoints (va_Pc [.int x0, .int x1] (mm_pre mm_Z D TC ad cy g)) (mm_Qi D TC ad cy r0 g) 0 0 (mm_A TC ad) := by
  refine Met.ofW (cc := cX11_arePoints) (maxL := 2) (ret := (some .boolean)) (by decide) rfl ?_
  intro p e s m args below meth c s₁ B hml hv
  obtain ⟨hargs, hP, hK, hI, hZ⟩ := hv
  have hx := B.exec
  have hb := B.bytes
  have hr := B.returns
  have hts := atoms_spec (ws := wsX11_arePoints) B.pre
  have hown : s.vm.findClass RX11 = some m.cls := findClass_of_methodNamed B.named
  have hlocks := B.notSynchronized
  rw [show entryFrame m args 2 = F0 m 0 ((lg_sl ([.int x0, .int x1] : List Value) ++ List.replicate (2 - (lg_sl ([.int x0, .int x1] : List Value)).length) Slot.unset).toArray) [] from by rw [hargs]; exact lg_entry_eq m _ _]
  have hl := lv_entry ([.int x0, .int x1] : List Value) (n := 2) (by exact Nat.le_of_ble_eq_true rfl)
  generalize (lg_sl ([.int x0, .int x1] : List Value) ++ List.replicate (2 - (lg_sl ([.int x0, .int x1] : List Value)).length) Slot.unset).toArray = ls at hl ⊢
  have hl : lv_has ls 2 [(0, .int x0), (1, .int x1)] := by exact hl
  have hS : va_S (mm_A TC ad) s.heap s.heap [] := va_S.rf
  clear hargs
  unfold f_X11_arePoints at hf
  have hH9 : ∀ (H : Heap) (locs : List Loc), H = s.heap → locs = [] → va_P D vwCl (mm_L TC ad cy g) H → va_S (mm_A TC ad) s.heap H locs → W p l e (headSpec wsX11_arePoints (rm_X11_arePoints)).room s m args below meth c H locs 0 0 (MQ below (mm_Qi D TC ad cy r0 g) args s 0 0 (mm_A TC ad)) (F0 m 0 ls []) := by
    intro H locs hH9 hL9 hP hS
    clear hH9 hL9
    refine lv_iload_n hx hb dX11_arePoints_0 rfl (lv_at hl 0 rfl) ?_
    refine lv_iconst (v := 0) hx hb dX11_arePoints_1 (by decide) ?_
    refine lv_bipush (v := 7) hx hb dX11_arePoints_2 (by decide) ?_
    obtain ⟨r_1, hr_2, hf⟩ := op_some hf
    refine mq_calli (va_runS (As := [.int x0, .int 0, .int 7]) (rest := []) ⟨hx, hb, hml, hown, hts⟩ (c_X11_isWithin l D ad cy x0 0 7 g r_1 hr_2) (va_cwS 3 hts gX11_arePoints_X11_isWithin rfl rfl rfl (by decide +kernel) ⟨Nat.le_of_ble_eq_true rfl, Nat.le_of_ble_eq_true rfl⟩) (mq_preS mm_zOkC hK hP hI hZ hS) rfl rfl hl.1 rfl (lv_room (Nat.le_of_ble_eq_true rfl)) dX11_arePoints_4 ⟨Nat.le_refl _, Nat.le_refl _⟩) hS (fun H locs hP hS => ?_)
    refine lv_if_eq (tgt := 29) hx hb dX11_arePoints_7 (by decide) (fun c_3 => ?_) (fun c_3 => ?_)
    · replace hf := ite_t c_3 hf
      refine lv_iconst (v := 0) hx hb dX11_arePoints_29 (by decide) ?_
      exact mq_iret hx hb hr (by decide +kernel) hlocks hP hS (Option.some.inj hf) rfl dX11_arePoints_30
    · replace hf := ite_f c_3 hf
      refine lv_iload_n hx hb dX11_arePoints_10 rfl (lv_at hl 1 rfl) ?_
      refine lv_iconst (v := 0) hx hb dX11_arePoints_11 (by decide) ?_
      refine lv_bipush (v := 7) hx hb dX11_arePoints_12 (by decide) ?_
      obtain ⟨r_4, hr_5, hf⟩ := op_some hf
      refine mq_calli (va_runS (As := [.int x1, .int 0, .int 7]) (rest := []) ⟨hx, hb, hml, hown, hts⟩ (c_X11_isWithin l D ad cy x1 0 7 g r_4 hr_5) (va_cwS 3 hts gX11_arePoints_X11_isWithin rfl rfl rfl (by decide +kernel) ⟨Nat.le_of_ble_eq_true rfl, Nat.le_of_ble_eq_true rfl⟩) (mq_preS mm_zOkC hK hP hI hZ hS) rfl rfl hl.1 rfl (lv_room (Nat.le_of_ble_eq_true rfl)) dX11_arePoints_14 ⟨Nat.le_refl _, Nat.le_refl _⟩) hS (fun H locs hP hS => ?_)
      refine lv_if_eq (tgt := 29) hx hb dX11_arePoints_17 (by decide) (fun c_6 => ?_) (fun c_6 => ?_)
      · replace hf := ite_t c_6 hf
        refine lv_iconst (v := 0) hx hb dX11_arePoints_29 (by decide) ?_
        exact mq_iret hx hb hr (by decide +kernel) hlocks hP hS (Option.some.inj hf) rfl dX11_arePoints_30
      · replace hf := ite_f c_6 hf
        refine lv_iload_n hx hb dX11_arePoints_20 rfl (lv_at hl 0 rfl) ?_
        refine lv_iload_n hx hb dX11_arePoints_21 rfl (lv_at hl 1 rfl) ?_
        refine lv_icmp_eq (tgt := 29) hx hb dX11_arePoints_22 (by decide) (fun c_7 => ?_) (fun c_7 => ?_)
        · replace hf := ite_t c_7 hf
          refine lv_iconst (v := 0) hx hb dX11_arePoints_29 (by decide) ?_
          exact mq_iret hx hb hr (by decide +kernel) hlocks hP hS (Option.some.inj hf) rfl dX11_arePoints_30
        · replace hf := ite_f c_7 hf
          refine lv_iconst (v := 1) hx hb dX11_arePoints_25 (by decide) ?_
          refine lv_goto (tgt := 30) hx hb dX11_arePoints_26 (by decide) ?_
          exact mq_iret hx hb hr (by decide +kernel) hlocks hP hS (Option.some.inj hf) rfl dX11_arePoints_30
  exact hH9 s.heap [] rfl rfl hP hS
abbrev rm_X11_path : Room := ({ frames := 3, cells := 0, slots := 0, locals := 106 } : Room)
set_option maxHeartbeats 4000000 in
set_option maxRecDepth 100000 in
theorem c_X11_path (l : Launch) (D : va_G) (ad : Nat → Nat) (cy : Nat → ClassId) (x1 : Int32) (x2 : Int32) (x3 : Int32) (g : Mm) (hp : TC[0]? = some sX11) (r0 : Int32) (g' : Mm) (hf : f_X11_path x1 x2 x3 g = some (r0, g')) : Met l yX11_path wsX11_path rm_X11_path (va_Pc [.ref (ad 0), .int x1, .int x2, .int x3] (mm_pre mm_Z D TC ad cy g)) (mm_Qi D TC ad cy r0 g') 0 0 (mm_A TC ad) := by
  refine Met.ofW (cc := cX11_path) (maxL := 4) (ret := (some .int)) (by decide) rfl ?_
  intro p e s m args below meth c s₁ B hml hv
  obtain ⟨hargs, hP, hK, hI, hZ⟩ := hv
  have hx := B.exec
  have hb := B.bytes
  have hr := B.returns
  have hts := atoms_spec (ws := wsX11_path) B.pre
  have hown : s.vm.findClass RX11 = some m.cls := findClass_of_methodNamed B.named
  have hlocks := B.notSynchronized
  have hw0 := hts (.fieldLink RX11 10 "LeftShoes" "now" "LLeftShoes$World;") (by decide +kernel)
  have hiX11 : ∀ w ∈ wsX110, w ∈ wsX11_path := by decide +kernel
  have hw2 := hts (.fieldLink RX11 192 "LeftShoes$World" "fords" "LLeftShoes$Fords;") (by decide +kernel)
  have hiX10 : ∀ w ∈ wsX100, w ∈ wsX11_path := by decide +kernel
  rw [show entryFrame m args 4 = F0 m 0 ((lg_sl ([.ref (ad 0), .int x1, .int x2, .int x3] : List Value) ++ List.replicate (4 - (lg_sl ([.ref (ad 0), .int x1, .int x2, .int x3] : List Value)).length) Slot.unset).toArray) [] from by rw [hargs]; exact lg_entry_eq m _ _]
  have hl := lv_entry ([.ref (ad 0), .int x1, .int x2, .int x3] : List Value) (n := 4) (by exact Nat.le_of_ble_eq_true rfl)
  generalize (lg_sl ([.ref (ad 0), .int x1, .int x2, .int x3] : List Value) ++ List.replicate (4 - (lg_sl ([.ref (ad 0), .int x1, .int x2, .int x3] : List Value)).length) Slot.unset).toArray = ls at hl ⊢
  have hl : lv_has ls 4 [(0, .ref (ad 0)), (1, .int x1), (2, .int x2), (3, .int x3)] := by exact hl
  have hS : va_S (mm_A TC ad) s.heap s.heap [] := va_S.rf
  clear hargs
  unfold f_X11_path at hf
  have hH9 : ∀ (H : Heap) (locs : List Loc), H = s.heap → locs = [] → va_P D vwCl (mm_L TC ad cy g) H → va_S (mm_A TC ad) s.heap H locs → W p l e (headSpec wsX11_path (rm_X11_path)).room s m args below meth c H locs 0 0 (MQ below (mm_Qi D TC ad cy r0 g') args s 0 0 (mm_A TC ad)) (F0 m 0 ls []) := by
    intro H locs hH9 hL9 hP hS
    clear hH9 hL9
    refine lv_iload_n hx hb dX11_path_0 rfl (lv_at hl 1 rfl) ?_
    refine lv_iload_n hx hb dX11_path_1 rfl (lv_at hl 2 rfl) ?_
    obtain ⟨r_1, hr_2, hf⟩ := op_some hf
    refine mq_calli (va_runS (As := [.int x1, .int x2]) (rest := []) ⟨hx, hb, hml, hown, hts⟩ (c_X11_arePoints l D ad cy x1 x2 g r_1 hr_2) (va_cwS 2 hts gX11_path_X11_arePoints rfl rfl rfl (by decide +kernel) ⟨Nat.le_of_ble_eq_true rfl, Nat.le_of_ble_eq_true rfl⟩) (mq_preS mm_zOkC hK hP hI hZ hS) rfl rfl hl.1 rfl (lv_room (Nat.le_of_ble_eq_true rfl)) dX11_path_2 ⟨Nat.le_refl _, Nat.le_refl _⟩) hS (fun H locs hP hS => ?_)
    refine lv_if_eq (tgt := 18) hx hb dX11_path_5 (by decide) (fun c_3 => ?_) (fun c_3 => ?_)
    · replace hf := ite_t c_3 hf
      refine lv_iconst (v := (-1)) hx hb dX11_path_18 (by decide) ?_
      exact mq_iret hx hb hr rfl hlocks hP hS (pr_1 hf) (pr_2 hf) dX11_path_19
    · replace hf := ite_f c_3 hf
      refine lv_iload_n hx hb dX11_path_8 rfl (lv_at hl 3 rfl) ?_
      refine lv_iconst (v := (-1)) hx hb dX11_path_9 (by decide) ?_
      refine lv_bipush (v := 15) hx hb dX11_path_10 (by decide) ?_
      obtain ⟨r_4, hr_5, hf⟩ := op_some hf
      refine mq_calli (va_runS (As := [.int x3, .int (-1), .int 15]) (rest := []) ⟨hx, hb, hml, hown, hts⟩ (c_X11_isWithin l D ad cy x3 (-1) 15 g r_4 hr_5) (va_cwS 3 hts gX11_path_X11_isWithin rfl rfl rfl (by decide +kernel) ⟨Nat.le_of_ble_eq_true rfl, Nat.le_of_ble_eq_true rfl⟩) (mq_preS mm_zOkC hK hP hI hZ hS) rfl rfl hl.1 rfl (lv_room (Nat.le_of_ble_eq_true rfl)) dX11_path_12 ⟨Nat.le_refl _, Nat.le_refl _⟩) hS (fun H locs hP hS => ?_)
      refine lv_if_ne (tgt := 20) hx hb dX11_path_15 (by decide) (fun c_6 => ?_) (fun c_6 => ?_)
      · replace hf := ite_f c_6 hf
        refine lv_aload_n hx hb dX11_path_20 rfl (lv_at hl 0 rfl) ?_
        refine mq_getr (Tt := TX11) (N := 9) (C := RX11) hx hb hts hiX11 hown hK hP hp rfl 0 1 (by decide) rfl hw0 (fun _ h9 => h9) dX11_path_21 ?_
        refine mq_getr (Tt := TX10) (N := 9) (C := RX10) hx hb hts hiX10 hown hK hP (shTC_X11_1 hp) rfl 7 25 (by decide) rfl hw2 (fun _ h9 => h9) dX11_path_24 ?_
        refine lv_iload_n hx hb dX11_path_27 rfl (lv_at hl 1 rfl) ?_
        refine lv_iload_n hx hb dX11_path_28 rfl (lv_at hl 2 rfl) ?_
        refine lv_iload_n hx hb dX11_path_29 rfl (lv_at hl 3 rfl) ?_
        obtain ⟨r_8, g_7, hr_9, hf⟩ := ob_some hf
        refine mq_calli (va_runV (As := [.int x1, .int x2, .int x3]) (rest := []) ⟨hx, hb, hml, hown, hts⟩ (c_X2_join l D ad cy 26 x1 x2 x3 g (shTC_X11_26 hp) r_8 g_7 hr_9) (cwV 3 hts gX11_path_X2_join rfl rfl rfl (by decide +kernel) ⟨Nat.le_of_ble_eq_true rfl, Nat.le_of_ble_eq_true rfl⟩) (mq_preV (q := (RX2, TX2, 5)) mm_zOkC hK hP hI hZ hS (shTC_X11_26 hp) rfl) rfl rfl hl.1 rfl (lv_room (Nat.le_of_ble_eq_true rfl)) dX11_path_30 ⟨Nat.le_refl _, Nat.le_refl _⟩) hS (fun H locs hP hS => ?_)
        refine lv_bipush (v := 100) hx hb dX11_path_33 (by decide) ?_
        refine lv_iadd hx hb dX11_path_35 ?_
        exact mq_iret hx hb hr rfl hlocks hP hS (pr_1 hf) (pr_2 hf) dX11_path_36
      · replace hf := ite_t c_6 hf
        refine lv_iconst (v := (-1)) hx hb dX11_path_18 (by decide) ?_
        exact mq_iret hx hb hr rfl hlocks hP hS (pr_1 hf) (pr_2 hf) dX11_path_19
  exact hH9 s.heap [] rfl rfl hP hS
abbrev rm_X11_greatestDivisor : Room := ({ frames := 0, cells := 0, slots := 0, locals := 0 } : Room)
set_option maxHeartbeats 4000000 in
set_option maxRecDepth 100000 in
theorem c_X11_greatestDivisor (l : Launch) (D : va_G) (ad : Nat → Nat) (cy : Nat → ClassId) (x0 : Int32) (x1 : Int32) (g : Mm)  (r0 : Int32) (hf : f_X11_greatestDivisor x0 x1 = some r0) : Met l yX11_greatestDivisor wsX11_greatestDivisor rm_X11_greatestDivisor (va_Pc [.int x0, .int x1] (mm_pre mm_Z D TC ad cy g)) (mm_Qi D TC ad cy r0 g) 0 0 (mm_A TC ad) := by
  refine Met.ofW (cc := cX11_greatestDivisor) (maxL := 6) (ret := (some .int)) (by decide) rfl ?_
  intro p e s m args below meth c s₁ B hml hv
  obtain ⟨hargs, hP, hK, hI, hZ⟩ := hv
  have hx := B.exec
  have hb := B.bytes
  have hr := B.returns
  have hts := atoms_spec (ws := wsX11_greatestDivisor) B.pre
  have hown : s.vm.findClass RX11 = some m.cls := findClass_of_methodNamed B.named
  have hlocks := B.notSynchronized
  rw [show entryFrame m args 6 = F0 m 0 ((lg_sl ([.int x0, .int x1] : List Value) ++ List.replicate (6 - (lg_sl ([.int x0, .int x1] : List Value)).length) Slot.unset).toArray) [] from by rw [hargs]; exact lg_entry_eq m _ _]
  have hl := lv_entry ([.int x0, .int x1] : List Value) (n := 6) (by exact Nat.le_of_ble_eq_true rfl)
  generalize (lg_sl ([.int x0, .int x1] : List Value) ++ List.replicate (6 - (lg_sl ([.int x0, .int x1] : List Value)).length) Slot.unset).toArray = ls at hl ⊢
  have hl : lv_has ls 6 [(0, .int x0), (1, .int x1)] := by exact hl
  have hS : va_S (mm_A TC ad) s.heap s.heap [] := va_S.rf
  clear hargs
  have hc7 : ∀ (n : Nat), ∀ (x2 : Int32) (x3 : Int32) (x4 : Int32) (H : Heap) (locs : List Loc) (ls : Array Slot), va_P D vwCl (mm_L TC ad cy g) H → va_S (mm_A TC ad) s.heap H locs → lv_has ls 6 [(0, .int x0), (1, .int x1), (2, .int x2), (3, .int x3), (4, .int x4)] → f_X11_greatestDivisor_c7 n x2 x3 x4 = some r0 → W p l e (headSpec wsX11_greatestDivisor (rm_X11_greatestDivisor)).room s m args below meth c H locs 0 0 (MQ below (mm_Qi D TC ad cy r0 g) args s 0 0 (mm_A TC ad)) (F0 m 7 ls []) := by
    intro n
    induction n with
    | zero =>
      intro x2 x3 x4 H locs ls hP hS hl hf
      rw [f_X11_greatestDivisor_c7] at hf
      cases hf
    | succ n ih =>
      intro x2 x3 x4 H locs ls hP hS hl hf
      rw [f_X11_greatestDivisor_c7] at hf
      refine lv_iload hx hb dX11_greatestDivisor_7 (lv_at hl 4 rfl) ?_
      refine lv_bipush (v := 64) hx hb dX11_greatestDivisor_9 (by decide) ?_
      refine lv_icmp_ge (tgt := 34) hx hb dX11_greatestDivisor_11 (by decide) (fun c_1 => ?_) (fun c_1 => ?_)
      · replace hf := ite_t c_1 hf
        refine lv_iload_n hx hb dX11_greatestDivisor_34 rfl (lv_at hl 2 rfl) ?_
        exact mq_iret hx hb hr rfl hlocks hP hS (Option.some.inj hf) rfl dX11_greatestDivisor_35
      · replace hf := ite_f c_1 hf
        refine lv_iload_n hx hb dX11_greatestDivisor_14 rfl (lv_at hl 3 rfl) ?_
        refine lv_if_eq (tgt := 34) hx hb dX11_greatestDivisor_15 (by decide) (fun c_2 => ?_) (fun c_2 => ?_)
        · replace hf := ite_t c_2 hf
          refine lv_iload_n hx hb dX11_greatestDivisor_34 rfl (lv_at hl 2 rfl) ?_
          exact mq_iret hx hb hr rfl hlocks hP hS (Option.some.inj hf) rfl dX11_greatestDivisor_35
        · replace hf := ite_f c_2 hf
          refine lv_iload_n hx hb dX11_greatestDivisor_18 rfl (lv_at hl 2 rfl) ?_
          refine lv_iload_n hx hb dX11_greatestDivisor_19 rfl (lv_at hl 3 rfl) ?_
          obtain ⟨h_3, hf⟩ := og_some hf
          refine lv_irem hx hb dX11_greatestDivisor_20 (of_decide_eq_true h_3) ?_
          obtain ⟨x5_4, ex5_4, hf⟩ := mv_some hf
          refine mq_nm ex5_4 ?_
          refine lv_istore (lv' := [(5, .int x5_4), (0, .int x0), (1, .int x1), (2, .int x2), (3, .int x3), (4, .int x4)]) hx hb dX11_greatestDivisor_21 hl (by decide) rfl (fun ls hl => ?_)
          refine lv_iload_n hx hb dX11_greatestDivisor_23 rfl (lv_at hl 4 rfl) ?_
          refine lv_istore_n (lv' := [(2, .int x3), (5, .int x5_4), (0, .int x0), (1, .int x1), (3, .int x3), (4, .int x4)]) hx hb dX11_greatestDivisor_24 rfl hl (by decide) rfl (fun ls hl => ?_)
          refine lv_iload hx hb dX11_greatestDivisor_25 (lv_at hl 1 rfl) ?_
          refine lv_istore_n (lv' := [(3, .int x5_4), (2, .int x3), (5, .int x5_4), (0, .int x0), (1, .int x1), (4, .int x4)]) hx hb dX11_greatestDivisor_27 rfl hl (by decide) rfl (fun ls hl => ?_)
          obtain ⟨x4_5, ex4_5, hf⟩ := mv_some hf
          refine lv_iinc (v := x4_5) (lv' := [(4, .int x4_5), (3, .int x5_4), (2, .int x3), (5, .int x5_4), (0, .int x0), (1, .int x1)]) hx hb dX11_greatestDivisor_28 hl (k := 5) rfl (by rw [ex4_5]; rfl) (by decide) rfl (fun ls hl => ?_)
          refine lv_goto (tgt := 7) hx hb dX11_greatestDivisor_31 (by decide) ?_
          exact ih x3 x5_4 x4_5 H locs ls hP hS (lv_sub hl [4, 5, 2, 1, 0] rfl) hf
  unfold f_X11_greatestDivisor at hf
  have hH9 : ∀ (H : Heap) (locs : List Loc), H = s.heap → locs = [] → va_P D vwCl (mm_L TC ad cy g) H → va_S (mm_A TC ad) s.heap H locs → W p l e (headSpec wsX11_greatestDivisor (rm_X11_greatestDivisor)).room s m args below meth c H locs 0 0 (MQ below (mm_Qi D TC ad cy r0 g) args s 0 0 (mm_A TC ad)) (F0 m 0 ls []) := by
    intro H locs hH9 hL9 hP hS
    clear hH9 hL9
    refine lv_iload_n hx hb dX11_greatestDivisor_0 rfl (lv_at hl 0 rfl) ?_
    refine lv_istore_n (lv' := [(2, .int x0), (0, .int x0), (1, .int x1)]) hx hb dX11_greatestDivisor_1 rfl hl (by decide) rfl (fun ls hl => ?_)
    refine lv_iload_n hx hb dX11_greatestDivisor_2 rfl (lv_at hl 2 rfl) ?_
    refine lv_istore_n (lv' := [(3, .int x1), (2, .int x0), (0, .int x0), (1, .int x1)]) hx hb dX11_greatestDivisor_3 rfl hl (by decide) rfl (fun ls hl => ?_)
    refine lv_iconst (v := 0) hx hb dX11_greatestDivisor_4 (by decide) ?_
    refine lv_istore (lv' := [(4, .int 0), (3, .int x1), (2, .int x0), (0, .int x0), (1, .int x1)]) hx hb dX11_greatestDivisor_5 hl (by decide) rfl (fun ls hl => ?_)
    exact hc7 FU x0 x1 0 H locs ls hP hS (lv_sub hl [3, 4, 2, 1, 0] rfl) hf
  exact hH9 s.heap [] rfl rfl hP hS
abbrev rm_X11_partOf : Room := ({ frames := 1, cells := 0, slots := 0, locals := 25 } : Room)
set_option maxHeartbeats 4000000 in
set_option maxRecDepth 100000 in
theorem c_X11_partOf (l : Launch) (D : va_G) (ad : Nat → Nat) (cy : Nat → ClassId) (x0 : Int32) (x1 : Int32) (x2 : Int32) (g : Mm)  (r0 : Int32) (hf : f_X11_partOf x0 x1 x2 = some r0) : Met l yX11_partOf wsX11_partOf rm_X11_partOf (va_Pc [.int x0, .int x1, .int x2] (mm_pre mm_Z D TC ad cy g)) (mm_Qi D TC ad cy r0 g) 0 0 (mm_A TC ad) := by
  refine Met.ofW (cc := cX11_partOf) (maxL := 4) (ret := (some .int)) (by decide) rfl ?_
  intro p e s m args below meth c s₁ B hml hv
  obtain ⟨hargs, hP, hK, hI, hZ⟩ := hv
  have hx := B.exec
  have hb := B.bytes
  have hr := B.returns
  have hts := atoms_spec (ws := wsX11_partOf) B.pre
  have hown : s.vm.findClass RX11 = some m.cls := findClass_of_methodNamed B.named
  have hlocks := B.notSynchronized
  rw [show entryFrame m args 4 = F0 m 0 ((lg_sl ([.int x0, .int x1, .int x2] : List Value) ++ List.replicate (4 - (lg_sl ([.int x0, .int x1, .int x2] : List Value)).length) Slot.unset).toArray) [] from by rw [hargs]; exact lg_entry_eq m _ _]
  have hl := lv_entry ([.int x0, .int x1, .int x2] : List Value) (n := 4) (by exact Nat.le_of_ble_eq_true rfl)
  generalize (lg_sl ([.int x0, .int x1, .int x2] : List Value) ++ List.replicate (4 - (lg_sl ([.int x0, .int x1, .int x2] : List Value)).length) Slot.unset).toArray = ls at hl ⊢
  have hl : lv_has ls 4 [(0, .int x0), (1, .int x1), (2, .int x2)] := by exact hl
  have hS : va_S (mm_A TC ad) s.heap s.heap [] := va_S.rf
  clear hargs
  unfold f_X11_partOf at hf
  have hH9 : ∀ (H : Heap) (locs : List Loc), H = s.heap → locs = [] → va_P D vwCl (mm_L TC ad cy g) H → va_S (mm_A TC ad) s.heap H locs → W p l e (headSpec wsX11_partOf (rm_X11_partOf)).room s m args below meth c H locs 0 0 (MQ below (mm_Qi D TC ad cy r0 g) args s 0 0 (mm_A TC ad)) (F0 m 0 ls []) := by
    intro H locs hH9 hL9 hP hS
    clear hH9 hL9
    refine lv_iload_n hx hb dX11_partOf_0 rfl (lv_at hl 0 rfl) ?_
    refine lv_iload_n hx hb dX11_partOf_1 rfl (lv_at hl 1 rfl) ?_
    obtain ⟨r_1, hr_2, hf⟩ := op_some hf
    refine mq_calli (va_runS (As := [.int x0, .int x1]) (rest := []) ⟨hx, hb, hml, hown, hts⟩ (c_X11_greatestDivisor l D ad cy x0 x1 g r_1 hr_2) (va_cwS 2 hts gX11_partOf_X11_greatestDivisor rfl rfl rfl (by decide +kernel) ⟨Nat.le_of_ble_eq_true rfl, Nat.le_of_ble_eq_true rfl⟩) (mq_preS mm_zOkC hK hP hI hZ hS) rfl rfl hl.1 rfl (lv_room (Nat.le_of_ble_eq_true rfl)) dX11_partOf_2 ⟨Nat.le_refl _, Nat.le_refl _⟩) hS (fun H locs hP hS => ?_)
    refine lv_istore_n (lv' := [(3, .int r_1), (0, .int x0), (1, .int x1), (2, .int x2)]) hx hb dX11_partOf_5 rfl hl (by decide) rfl (fun ls hl => ?_)
    refine lv_iload_n hx hb dX11_partOf_6 rfl (lv_at hl 0 rfl) ?_
    refine lv_if_ne (tgt := 12) hx hb dX11_partOf_7 (by decide) (fun c_3 => ?_) (fun c_3 => ?_)
    · replace hf := ite_f c_3 hf
      refine lv_iload_n hx hb dX11_partOf_12 rfl (lv_at hl 3 rfl) ?_
      refine lv_if_ne (tgt := 20) hx hb dX11_partOf_13 (by decide) (fun c_4 => ?_) (fun c_4 => ?_)
      · replace hf := ite_f c_4 hf
        refine lv_iload_n hx hb dX11_partOf_20 rfl (lv_at hl 2 rfl) ?_
        refine lv_iload_n hx hb dX11_partOf_21 rfl (lv_at hl 0 rfl) ?_
        obtain ⟨h_5, hf⟩ := og_some hf
        refine lv_idiv hx hb dX11_partOf_22 (of_decide_eq_true h_5) ?_
        exact mq_iret hx hb hr rfl hlocks hP hS (Option.some.inj hf) rfl dX11_partOf_23
      · replace hf := ite_t c_4 hf
        refine lv_iload_n hx hb dX11_partOf_16 rfl (lv_at hl 1 rfl) ?_
        refine lv_goto (tgt := 21) hx hb dX11_partOf_17 (by decide) ?_
        refine lv_iload_n hx hb dX11_partOf_21 rfl (lv_at hl 0 rfl) ?_
        obtain ⟨h_6, hf⟩ := og_some hf
        refine lv_idiv hx hb dX11_partOf_22 (of_decide_eq_true h_6) ?_
        exact mq_iret hx hb hr rfl hlocks hP hS (Option.some.inj hf) rfl dX11_partOf_23
    · replace hf := ite_t c_3 hf
      refine lv_iconst (v := 0) hx hb dX11_partOf_10 (by decide) ?_
      exact mq_iret hx hb hr rfl hlocks hP hS (Option.some.inj hf) rfl dX11_partOf_11
  exact hH9 s.heap [] rfl rfl hP hS
abbrev rm_X11_unseen : Room := ({ frames := 4, cells := 0, slots := 0, locals := 130 } : Room)
set_option maxHeartbeats 4000000 in
set_option maxRecDepth 100000 in
theorem c_X11_unseen (l : Launch) (D : va_G) (ad : Nat → Nat) (cy : Nat → ClassId) (x1 : Int32) (x2 : Int32) (x3 : Int32) (g : Mm) (hp : TC[0]? = some sX11) (r0 : Int32) (g' : Mm) (hf : f_X11_unseen x1 x2 x3 g = some (r0, g')) : Met l yX11_unseen wsX11_unseen rm_X11_unseen (va_Pc [.ref (ad 0), .int x1, .int x2, .int x3] (mm_pre mm_Z D TC ad cy g)) (mm_Qi D TC ad cy r0 g') 0 0 (mm_A TC ad) := by
  refine Met.ofW (cc := cX11_unseen) (maxL := 4) (ret := (some .int)) (by decide) rfl ?_
  intro p e s m args below meth c s₁ B hml hv
  obtain ⟨hargs, hP, hK, hI, hZ⟩ := hv
  have hx := B.exec
  have hb := B.bytes
  have hr := B.returns
  have hts := atoms_spec (ws := wsX11_unseen) B.pre
  have hown : s.vm.findClass RX11 = some m.cls := findClass_of_methodNamed B.named
  have hlocks := B.notSynchronized
  have hw0 := hts (.fieldLink RX11 10 "LeftShoes" "now" "LLeftShoes$World;") (by decide +kernel)
  have hiX11 : ∀ w ∈ wsX110, w ∈ wsX11_unseen := by decide +kernel
  have hw2 := hts (.fieldLink RX11 192 "LeftShoes$World" "fords" "LLeftShoes$Fords;") (by decide +kernel)
  have hiX10 : ∀ w ∈ wsX100, w ∈ wsX11_unseen := by decide +kernel
  have hw4 := hts (.fieldLink RX11 242 "LeftShoes$Fords" "product" "I") (by decide +kernel)
  have hiX2 : ∀ w ∈ wsX20, w ∈ wsX11_unseen := by decide +kernel
  have hw6 := hts (.constant RX11 245 (268435456)) (by decide +kernel)
  rw [show entryFrame m args 4 = F0 m 0 ((lg_sl ([.ref (ad 0), .int x1, .int x2, .int x3] : List Value) ++ List.replicate (4 - (lg_sl ([.ref (ad 0), .int x1, .int x2, .int x3] : List Value)).length) Slot.unset).toArray) [] from by rw [hargs]; exact lg_entry_eq m _ _]
  have hl := lv_entry ([.ref (ad 0), .int x1, .int x2, .int x3] : List Value) (n := 4) (by exact Nat.le_of_ble_eq_true rfl)
  generalize (lg_sl ([.ref (ad 0), .int x1, .int x2, .int x3] : List Value) ++ List.replicate (4 - (lg_sl ([.ref (ad 0), .int x1, .int x2, .int x3] : List Value)).length) Slot.unset).toArray = ls at hl ⊢
  have hl : lv_has ls 4 [(0, .ref (ad 0)), (1, .int x1), (2, .int x2), (3, .int x3)] := by exact hl
  have hS : va_S (mm_A TC ad) s.heap s.heap [] := va_S.rf
  clear hargs
  unfold f_X11_unseen at hf
  have hH9 : ∀ (H : Heap) (locs : List Loc), H = s.heap → locs = [] → va_P D vwCl (mm_L TC ad cy g) H → va_S (mm_A TC ad) s.heap H locs → W p l e (headSpec wsX11_unseen (rm_X11_unseen)).room s m args below meth c H locs 0 0 (MQ below (mm_Qi D TC ad cy r0 g') args s 0 0 (mm_A TC ad)) (F0 m 0 ls []) := by
    intro H locs hH9 hL9 hP hS
    clear hH9 hL9
    refine lv_iload_n hx hb dX11_unseen_0 rfl (lv_at hl 1 rfl) ?_
    refine lv_iload_n hx hb dX11_unseen_1 rfl (lv_at hl 2 rfl) ?_
    obtain ⟨r_1, hr_2, hf⟩ := op_some hf
    refine mq_calli (va_runS (As := [.int x1, .int x2]) (rest := []) ⟨hx, hb, hml, hown, hts⟩ (c_X11_arePoints l D ad cy x1 x2 g r_1 hr_2) (va_cwS 2 hts gX11_unseen_X11_arePoints rfl rfl rfl (by decide +kernel) ⟨Nat.le_of_ble_eq_true rfl, Nat.le_of_ble_eq_true rfl⟩) (mq_preS mm_zOkC hK hP hI hZ hS) rfl rfl hl.1 rfl (lv_room (Nat.le_of_ble_eq_true rfl)) dX11_unseen_2 ⟨Nat.le_refl _, Nat.le_refl _⟩) hS (fun H locs hP hS => ?_)
    refine lv_if_eq (tgt := 17) hx hb dX11_unseen_5 (by decide) (fun c_3 => ?_) (fun c_3 => ?_)
    · replace hf := ite_t c_3 hf
      refine lv_iconst (v := (-1)) hx hb dX11_unseen_17 (by decide) ?_
      exact mq_iret hx hb hr rfl hlocks hP hS (pr_1 hf) (pr_2 hf) dX11_unseen_18
    · replace hf := ite_f c_3 hf
      refine lv_iload_n hx hb dX11_unseen_8 rfl (lv_at hl 3 rfl) ?_
      refine lv_iconst (v := 0) hx hb dX11_unseen_9 (by decide) ?_
      refine lv_iconst (v := 1) hx hb dX11_unseen_10 (by decide) ?_
      obtain ⟨r_4, hr_5, hf⟩ := op_some hf
      refine mq_calli (va_runS (As := [.int x3, .int 0, .int 1]) (rest := []) ⟨hx, hb, hml, hown, hts⟩ (c_X11_isWithin l D ad cy x3 0 1 g r_4 hr_5) (va_cwS 3 hts gX11_unseen_X11_isWithin rfl rfl rfl (by decide +kernel) ⟨Nat.le_of_ble_eq_true rfl, Nat.le_of_ble_eq_true rfl⟩) (mq_preS mm_zOkC hK hP hI hZ hS) rfl rfl hl.1 rfl (lv_room (Nat.le_of_ble_eq_true rfl)) dX11_unseen_11 ⟨Nat.le_refl _, Nat.le_refl _⟩) hS (fun H locs hP hS => ?_)
      refine lv_if_ne (tgt := 19) hx hb dX11_unseen_14 (by decide) (fun c_6 => ?_) (fun c_6 => ?_)
      · replace hf := ite_f c_6 hf
        refine lv_aload_n hx hb dX11_unseen_19 rfl (lv_at hl 0 rfl) ?_
        refine mq_getr (Tt := TX11) (N := 9) (C := RX11) hx hb hts hiX11 hown hK hP hp rfl 0 1 (by decide) rfl hw0 (fun _ h9 => h9) dX11_unseen_20 ?_
        refine mq_getr (Tt := TX10) (N := 9) (C := RX10) hx hb hts hiX10 hown hK hP (shTC_X11_1 hp) rfl 7 25 (by decide) rfl hw2 (fun _ h9 => h9) dX11_unseen_23 ?_
        refine lv_iload_n hx hb dX11_unseen_26 rfl (lv_at hl 1 rfl) ?_
        refine lv_iload_n hx hb dX11_unseen_27 rfl (lv_at hl 2 rfl) ?_
        obtain ⟨r_8, g_7, hr_9, hf⟩ := ob_some hf
        refine mq_calli (va_runV (As := [.int x1, .int x2]) (rest := []) ⟨hx, hb, hml, hown, hts⟩ (c_X2_search l D ad cy 26 x1 x2 g (shTC_X11_26 hp) r_8 g_7 hr_9) (cwV 2 hts gX11_unseen_X2_search rfl rfl rfl (by decide +kernel) ⟨Nat.le_of_ble_eq_true rfl, Nat.le_of_ble_eq_true rfl⟩) (mq_preV (q := (RX2, TX2, 5)) mm_zOkC hK hP hI hZ hS (shTC_X11_26 hp) rfl) rfl rfl hl.1 rfl (lv_room (Nat.le_of_ble_eq_true rfl)) dX11_unseen_28 ⟨Nat.le_refl _, Nat.le_refl _⟩) hS (fun H locs hP hS => ?_)
        refine lv_if_ne (tgt := 37) hx hb dX11_unseen_31 (by decide) (fun c_10 => ?_) (fun c_10 => ?_)
        · replace hf := ite_f c_10 hf
          refine lv_aload_n hx hb dX11_unseen_37 rfl (lv_at hl 0 rfl) ?_
          refine mq_getr (Tt := TX11) (N := 9) (C := RX11) hx hb hts hiX11 hown hK hP hp rfl 0 1 (by decide) rfl hw0 (fun _ h9 => h9) dX11_unseen_38 ?_
          refine mq_getr (Tt := TX10) (N := 9) (C := RX10) hx hb hts hiX10 hown hK hP (shTC_X11_1 hp) rfl 7 25 (by decide) rfl hw2 (fun _ h9 => h9) dX11_unseen_41 ?_
          refine mq_geti (Tt := TX2) (N := 5) (C := RX2) hx hb hts hiX2 hown hK hP (shTC_X11_26 hp) rfl 3 (by decide) rfl hw4 (fun _ h9 => h9) dX11_unseen_44 ?_
          refine lv_ldc (v := 268435456) hx hb hown hw6 dX11_unseen_47 ?_
          refine lv_iload_n hx hb dX11_unseen_49 rfl (lv_at hl 3 rfl) ?_
          obtain ⟨r_11, hr_12, hf⟩ := op_some hf
          refine mq_calli (va_runS (As := [.int (g_7 26 3), .int 268435456, .int x3]) (rest := []) ⟨hx, hb, hml, hown, hts⟩ (c_X11_partOf l D ad cy (g_7 26 3) 268435456 x3 g_7 r_11 hr_12) (va_cwS 3 hts gX11_unseen_X11_partOf rfl rfl rfl (by decide +kernel) ⟨Nat.le_of_ble_eq_true rfl, Nat.le_of_ble_eq_true rfl⟩) (mq_preS mm_zOkC hK hP hI hZ hS) rfl rfl hl.1 rfl (lv_room (Nat.le_of_ble_eq_true rfl)) dX11_unseen_50 ⟨Nat.le_refl _, Nat.le_refl _⟩) hS (fun H locs hP hS => ?_)
          exact mq_iret hx hb hr rfl hlocks hP hS (pr_1 hf) (pr_2 hf) dX11_unseen_53
        · replace hf := ite_t c_10 hf
          refine lv_bipush (v := (-4)) hx hb dX11_unseen_34 (by decide) ?_
          exact mq_iret hx hb hr rfl hlocks hP hS (pr_1 hf) (pr_2 hf) dX11_unseen_36
      · replace hf := ite_t c_6 hf
        refine lv_iconst (v := (-1)) hx hb dX11_unseen_17 (by decide) ?_
        exact mq_iret hx hb hr rfl hlocks hP hS (pr_1 hf) (pr_2 hf) dX11_unseen_18
  exact hH9 s.heap [] rfl rfl hP hS
abbrev rm_X11_paths : Room := ({ frames := 4, cells := 0, slots := 0, locals := 130 } : Room)
set_option maxHeartbeats 4000000 in
set_option maxRecDepth 100000 in
theorem c_X11_paths (l : Launch) (D : va_G) (ad : Nat → Nat) (cy : Nat → ClassId) (x1 : Int32) (x2 : Int32) (g : Mm) (hp : TC[0]? = some sX11) (r0 : Int32) (g' : Mm) (hf : f_X11_paths x1 x2 g = some (r0, g')) : Met l yX11_paths wsX11_paths rm_X11_paths (va_Pc [.ref (ad 0), .int x1, .int x2] (mm_pre mm_Z D TC ad cy g)) (mm_Qi D TC ad cy r0 g') 0 0 (mm_A TC ad) := by
  refine Met.ofW (cc := cX11_paths) (maxL := 3) (ret := (some .int)) (by decide) rfl ?_
  intro p e s m args below meth c s₁ B hml hv
  obtain ⟨hargs, hP, hK, hI, hZ⟩ := hv
  have hx := B.exec
  have hb := B.bytes
  have hr := B.returns
  have hts := atoms_spec (ws := wsX11_paths) B.pre
  have hown : s.vm.findClass RX11 = some m.cls := findClass_of_methodNamed B.named
  have hlocks := B.notSynchronized
  have hw0 := hts (.fieldLink RX11 10 "LeftShoes" "now" "LLeftShoes$World;") (by decide +kernel)
  have hiX11 : ∀ w ∈ wsX110, w ∈ wsX11_paths := by decide +kernel
  have hw2 := hts (.fieldLink RX11 192 "LeftShoes$World" "fords" "LLeftShoes$Fords;") (by decide +kernel)
  have hiX10 : ∀ w ∈ wsX100, w ∈ wsX11_paths := by decide +kernel
  have hw4 := hts (.fieldLink RX11 249 "LeftShoes$Fords" "fewest" "I") (by decide +kernel)
  have hiX2 : ∀ w ∈ wsX20, w ∈ wsX11_paths := by decide +kernel
  rw [show entryFrame m args 3 = F0 m 0 ((lg_sl ([.ref (ad 0), .int x1, .int x2] : List Value) ++ List.replicate (3 - (lg_sl ([.ref (ad 0), .int x1, .int x2] : List Value)).length) Slot.unset).toArray) [] from by rw [hargs]; exact lg_entry_eq m _ _]
  have hl := lv_entry ([.ref (ad 0), .int x1, .int x2] : List Value) (n := 3) (by exact Nat.le_of_ble_eq_true rfl)
  generalize (lg_sl ([.ref (ad 0), .int x1, .int x2] : List Value) ++ List.replicate (3 - (lg_sl ([.ref (ad 0), .int x1, .int x2] : List Value)).length) Slot.unset).toArray = ls at hl ⊢
  have hl : lv_has ls 3 [(0, .ref (ad 0)), (1, .int x1), (2, .int x2)] := by exact hl
  have hS : va_S (mm_A TC ad) s.heap s.heap [] := va_S.rf
  clear hargs
  unfold f_X11_paths at hf
  have hH9 : ∀ (H : Heap) (locs : List Loc), H = s.heap → locs = [] → va_P D vwCl (mm_L TC ad cy g) H → va_S (mm_A TC ad) s.heap H locs → W p l e (headSpec wsX11_paths (rm_X11_paths)).room s m args below meth c H locs 0 0 (MQ below (mm_Qi D TC ad cy r0 g') args s 0 0 (mm_A TC ad)) (F0 m 0 ls []) := by
    intro H locs hH9 hL9 hP hS
    clear hH9 hL9
    refine lv_iload_n hx hb dX11_paths_0 rfl (lv_at hl 1 rfl) ?_
    refine lv_iload_n hx hb dX11_paths_1 rfl (lv_at hl 2 rfl) ?_
    obtain ⟨r_1, hr_2, hf⟩ := op_some hf
    refine mq_calli (va_runS (As := [.int x1, .int x2]) (rest := []) ⟨hx, hb, hml, hown, hts⟩ (c_X11_arePoints l D ad cy x1 x2 g r_1 hr_2) (va_cwS 2 hts gX11_paths_X11_arePoints rfl rfl rfl (by decide +kernel) ⟨Nat.le_of_ble_eq_true rfl, Nat.le_of_ble_eq_true rfl⟩) (mq_preS mm_zOkC hK hP hI hZ hS) rfl rfl hl.1 rfl (lv_room (Nat.le_of_ble_eq_true rfl)) dX11_paths_2 ⟨Nat.le_refl _, Nat.le_refl _⟩) hS (fun H locs hP hS => ?_)
    refine lv_if_ne (tgt := 10) hx hb dX11_paths_5 (by decide) (fun c_3 => ?_) (fun c_3 => ?_)
    · replace hf := ite_f c_3 hf
      refine lv_aload_n hx hb dX11_paths_10 rfl (lv_at hl 0 rfl) ?_
      refine mq_getr (Tt := TX11) (N := 9) (C := RX11) hx hb hts hiX11 hown hK hP hp rfl 0 1 (by decide) rfl hw0 (fun _ h9 => h9) dX11_paths_11 ?_
      refine mq_getr (Tt := TX10) (N := 9) (C := RX10) hx hb hts hiX10 hown hK hP (shTC_X11_1 hp) rfl 7 25 (by decide) rfl hw2 (fun _ h9 => h9) dX11_paths_14 ?_
      refine lv_iload_n hx hb dX11_paths_17 rfl (lv_at hl 1 rfl) ?_
      refine lv_iload_n hx hb dX11_paths_18 rfl (lv_at hl 2 rfl) ?_
      obtain ⟨r_5, g_4, hr_6, hf⟩ := ob_some hf
      refine mq_calli (va_runV (As := [.int x1, .int x2]) (rest := []) ⟨hx, hb, hml, hown, hts⟩ (c_X2_search l D ad cy 26 x1 x2 g (shTC_X11_26 hp) r_5 g_4 hr_6) (cwV 2 hts gX11_paths_X2_search rfl rfl rfl (by decide +kernel) ⟨Nat.le_of_ble_eq_true rfl, Nat.le_of_ble_eq_true rfl⟩) (mq_preV (q := (RX2, TX2, 5)) mm_zOkC hK hP hI hZ hS (shTC_X11_26 hp) rfl) rfl rfl hl.1 rfl (lv_room (Nat.le_of_ble_eq_true rfl)) dX11_paths_19 ⟨Nat.le_refl _, Nat.le_refl _⟩) hS (fun H locs hP hS => ?_)
      refine lv_if_eq (tgt := 38) hx hb dX11_paths_22 (by decide) (fun c_7 => ?_) (fun c_7 => ?_)
      · replace hf := ite_t c_7 hf
        refine lv_bipush (v := (-4)) hx hb dX11_paths_38 (by decide) ?_
        exact mq_iret hx hb hr rfl hlocks hP hS (pr_1 hf) (pr_2 hf) dX11_paths_40
      · replace hf := ite_f c_7 hf
        refine lv_aload_n hx hb dX11_paths_25 rfl (lv_at hl 0 rfl) ?_
        refine mq_getr (Tt := TX11) (N := 9) (C := RX11) hx hb hts hiX11 hown hK hP hp rfl 0 1 (by decide) rfl hw0 (fun _ h9 => h9) dX11_paths_26 ?_
        refine mq_getr (Tt := TX10) (N := 9) (C := RX10) hx hb hts hiX10 hown hK hP (shTC_X11_1 hp) rfl 7 25 (by decide) rfl hw2 (fun _ h9 => h9) dX11_paths_29 ?_
        refine mq_geti (Tt := TX2) (N := 5) (C := RX2) hx hb hts hiX2 hown hK hP (shTC_X11_26 hp) rfl 4 (by decide) rfl hw4 (fun _ h9 => h9) dX11_paths_32 ?_
        refine lv_goto (tgt := 40) hx hb dX11_paths_35 (by decide) ?_
        exact mq_iret hx hb hr rfl hlocks hP hS (pr_1 hf) (pr_2 hf) dX11_paths_40
    · replace hf := ite_t c_3 hf
      refine lv_iconst (v := (-1)) hx hb dX11_paths_8 (by decide) ?_
      exact mq_iret hx hb hr rfl hlocks hP hS (pr_1 hf) (pr_2 hf) dX11_paths_9
  exact hH9 s.heap [] rfl rfl hP hS
abbrev rm_X11_buyer : Room := ({ frames := 1, cells := 0, slots := 0, locals := 22 } : Room)
set_option maxHeartbeats 4000000 in
set_option maxRecDepth 100000 in
theorem c_X11_buyer (l : Launch) (D : va_G) (ad : Nat → Nat) (cy : Nat → ClassId) (x1 : Int32) (x2 : Int32) (g : Mm) (hp : TC[0]? = some sX11) (r0 : Int32) (g' : Mm) (hf : f_X11_buyer x1 x2 g = some (r0, g')) : Met l yX11_buyer wsX11_buyer rm_X11_buyer (va_Pc [.ref (ad 0), .int x1, .int x2] (mm_pre mm_Z D TC ad cy g)) (mm_Qi D TC ad cy r0 g') 0 0 (mm_A TC ad) := by
  refine Met.ofW (cc := cX11_buyer) (maxL := 3) (ret := (some .int)) (by decide) rfl ?_
  intro p e s m args below meth c s₁ B hml hv
  obtain ⟨hargs, hP, hK, hI, hZ⟩ := hv
  have hx := B.exec
  have hb := B.bytes
  have hr := B.returns
  have hts := atoms_spec (ws := wsX11_buyer) B.pre
  have hown : s.vm.findClass RX11 = some m.cls := findClass_of_methodNamed B.named
  have hlocks := B.notSynchronized
  have hw0 := hts (.fieldLink RX11 10 "LeftShoes" "now" "LLeftShoes$World;") (by decide +kernel)
  have hiX11 : ∀ w ∈ wsX110, w ∈ wsX11_buyer := by decide +kernel
  have hw2 := hts (.fieldLink RX11 183 "LeftShoes$World" "buyers" "LLeftShoes$Buyers;") (by decide +kernel)
  have hiX10 : ∀ w ∈ wsX100, w ∈ wsX11_buyer := by decide +kernel
  rw [show entryFrame m args 3 = F0 m 0 ((lg_sl ([.ref (ad 0), .int x1, .int x2] : List Value) ++ List.replicate (3 - (lg_sl ([.ref (ad 0), .int x1, .int x2] : List Value)).length) Slot.unset).toArray) [] from by rw [hargs]; exact lg_entry_eq m _ _]
  have hl := lv_entry ([.ref (ad 0), .int x1, .int x2] : List Value) (n := 3) (by exact Nat.le_of_ble_eq_true rfl)
  generalize (lg_sl ([.ref (ad 0), .int x1, .int x2] : List Value) ++ List.replicate (3 - (lg_sl ([.ref (ad 0), .int x1, .int x2] : List Value)).length) Slot.unset).toArray = ls at hl ⊢
  have hl : lv_has ls 3 [(0, .ref (ad 0)), (1, .int x1), (2, .int x2)] := by exact hl
  have hS : va_S (mm_A TC ad) s.heap s.heap [] := va_S.rf
  clear hargs
  unfold f_X11_buyer at hf
  have hH9 : ∀ (H : Heap) (locs : List Loc), H = s.heap → locs = [] → va_P D vwCl (mm_L TC ad cy g) H → va_S (mm_A TC ad) s.heap H locs → W p l e (headSpec wsX11_buyer (rm_X11_buyer)).room s m args below meth c H locs 0 0 (MQ below (mm_Qi D TC ad cy r0 g') args s 0 0 (mm_A TC ad)) (F0 m 0 ls []) := by
    intro H locs hH9 hL9 hP hS
    clear hH9 hL9
    refine lv_iload_n hx hb dX11_buyer_0 rfl (lv_at hl 1 rfl) ?_
    refine lv_iconst (v := 1) hx hb dX11_buyer_1 (by decide) ?_
    refine lv_bipush (v := 9) hx hb dX11_buyer_2 (by decide) ?_
    obtain ⟨r_1, hr_2, hf⟩ := op_some hf
    refine mq_calli (va_runS (As := [.int x1, .int 1, .int 9]) (rest := []) ⟨hx, hb, hml, hown, hts⟩ (c_X11_isWithin l D ad cy x1 1 9 g r_1 hr_2) (va_cwS 3 hts gX11_buyer_X11_isWithin rfl rfl rfl (by decide +kernel) ⟨Nat.le_of_ble_eq_true rfl, Nat.le_of_ble_eq_true rfl⟩) (mq_preS mm_zOkC hK hP hI hZ hS) rfl rfl hl.1 rfl (lv_room (Nat.le_of_ble_eq_true rfl)) dX11_buyer_4 ⟨Nat.le_refl _, Nat.le_refl _⟩) hS (fun H locs hP hS => ?_)
    refine lv_if_eq (tgt := 20) hx hb dX11_buyer_7 (by decide) (fun c_3 => ?_) (fun c_3 => ?_)
    · replace hf := ite_t c_3 hf
      refine lv_iconst (v := (-1)) hx hb dX11_buyer_20 (by decide) ?_
      exact mq_iret hx hb hr rfl hlocks hP hS (pr_1 hf) (pr_2 hf) dX11_buyer_21
    · replace hf := ite_f c_3 hf
      refine lv_iload_n hx hb dX11_buyer_10 rfl (lv_at hl 2 rfl) ?_
      refine lv_iconst (v := 1) hx hb dX11_buyer_11 (by decide) ?_
      refine lv_bipush (v := 99) hx hb dX11_buyer_12 (by decide) ?_
      obtain ⟨r_4, hr_5, hf⟩ := op_some hf
      refine mq_calli (va_runS (As := [.int x2, .int 1, .int 99]) (rest := []) ⟨hx, hb, hml, hown, hts⟩ (c_X11_isWithin l D ad cy x2 1 99 g r_4 hr_5) (va_cwS 3 hts gX11_buyer_X11_isWithin rfl rfl rfl (by decide +kernel) ⟨Nat.le_of_ble_eq_true rfl, Nat.le_of_ble_eq_true rfl⟩) (mq_preS mm_zOkC hK hP hI hZ hS) rfl rfl hl.1 rfl (lv_room (Nat.le_of_ble_eq_true rfl)) dX11_buyer_14 ⟨Nat.le_refl _, Nat.le_refl _⟩) hS (fun H locs hP hS => ?_)
      refine lv_if_ne (tgt := 22) hx hb dX11_buyer_17 (by decide) (fun c_6 => ?_) (fun c_6 => ?_)
      · replace hf := ite_f c_6 hf
        refine lv_aload_n hx hb dX11_buyer_22 rfl (lv_at hl 0 rfl) ?_
        refine mq_getr (Tt := TX11) (N := 9) (C := RX11) hx hb hts hiX11 hown hK hP hp rfl 0 1 (by decide) rfl hw0 (fun _ h9 => h9) dX11_buyer_23 ?_
        refine mq_getr (Tt := TX10) (N := 9) (C := RX10) hx hb hts hiX10 hown hK hP (shTC_X11_1 hp) rfl 8 37 (by decide) rfl hw2 (fun _ h9 => h9) dX11_buyer_26 ?_
        refine lv_iload_n hx hb dX11_buyer_29 rfl (lv_at hl 1 rfl) ?_
        refine lv_iload_n hx hb dX11_buyer_30 rfl (lv_at hl 2 rfl) ?_
        obtain ⟨r_8, g_7, hr_9, hf⟩ := ob_some hf
        refine mq_calli (va_runV (As := [.int x1, .int x2]) (rest := []) ⟨hx, hb, hml, hown, hts⟩ (c_X1_add l D ad cy 38 x1 x2 g (shTC_X11_38 hp) r_8 g_7 hr_9) (cwV 2 hts gX11_buyer_X1_add rfl rfl rfl (by decide +kernel) ⟨Nat.le_of_ble_eq_true rfl, Nat.le_of_ble_eq_true rfl⟩) (mq_preV (q := (RX1, TX1, 6)) mm_zOkC hK hP hI hZ hS (shTC_X11_38 hp) rfl) rfl rfl hl.1 rfl (lv_room (Nat.le_of_ble_eq_true rfl)) dX11_buyer_31 ⟨Nat.le_refl _, Nat.le_refl _⟩) hS (fun H locs hP hS => ?_)
        exact mq_iret hx hb hr rfl hlocks hP hS (pr_1 hf) (pr_2 hf) dX11_buyer_34
      · replace hf := ite_t c_6 hf
        refine lv_iconst (v := (-1)) hx hb dX11_buyer_20 (by decide) ?_
        exact mq_iret hx hb hr rfl hlocks hP hS (pr_1 hf) (pr_2 hf) dX11_buyer_21
  exact hH9 s.heap [] rfl rfl hP hS
abbrev rm_X11_market : Room := ({ frames := 2, cells := 0, slots := 0, locals := 83 } : Room)
set_option maxHeartbeats 4000000 in
set_option maxRecDepth 100000 in
theorem c_X11_market (l : Launch) (D : va_G) (ad : Nat → Nat) (cy : Nat → ClassId) (x1 : Int32) (x2 : Int32) (x3 : Int32) (g : Mm) (hp : TC[0]? = some sX11) (r0 : Int32) (g' : Mm) (hf : f_X11_market x1 x2 x3 g = some (r0, g')) : Met l yX11_market wsX11_market rm_X11_market (va_Pc [.ref (ad 0), .int x1, .int x2, .int x3] (mm_pre mm_Z D TC ad cy g)) (mm_Qi D TC ad cy r0 g') 0 0 (mm_A TC ad) := by
  refine Met.ofW (cc := cX11_market) (maxL := 5) (ret := (some .int)) (by decide) rfl ?_
  intro p e s m args below meth c s₁ B hml hv
  obtain ⟨hargs, hP, hK, hI, hZ⟩ := hv
  have hx := B.exec
  have hb := B.bytes
  have hr := B.returns
  have hts := atoms_spec (ws := wsX11_market) B.pre
  have hown : s.vm.findClass RX11 = some m.cls := findClass_of_methodNamed B.named
  have hlocks := B.notSynchronized
  have hw0 := hts (.fieldLink RX11 10 "LeftShoes" "now" "LLeftShoes$World;") (by decide +kernel)
  have hiX11 : ∀ w ∈ wsX110, w ∈ wsX11_market := by decide +kernel
  have hw2 := hts (.fieldLink RX11 183 "LeftShoes$World" "buyers" "LLeftShoes$Buyers;") (by decide +kernel)
  have hiX10 : ∀ w ∈ wsX100, w ∈ wsX11_market := by decide +kernel
  have hw4 := hts (.fieldLink RX11 261 "LeftShoes$Buyers" "lastPrice" "I") (by decide +kernel)
  have hiX1 : ∀ w ∈ wsX10, w ∈ wsX11_market := by decide +kernel
  have hw6 := hts (.fieldLink RX11 258 "LeftShoes$Buyers" "rounds" "I") (by decide +kernel)
  rw [show entryFrame m args 5 = F0 m 0 ((lg_sl ([.ref (ad 0), .int x1, .int x2, .int x3] : List Value) ++ List.replicate (5 - (lg_sl ([.ref (ad 0), .int x1, .int x2, .int x3] : List Value)).length) Slot.unset).toArray) [] from by rw [hargs]; exact lg_entry_eq m _ _]
  have hl := lv_entry ([.ref (ad 0), .int x1, .int x2, .int x3] : List Value) (n := 5) (by exact Nat.le_of_ble_eq_true rfl)
  generalize (lg_sl ([.ref (ad 0), .int x1, .int x2, .int x3] : List Value) ++ List.replicate (5 - (lg_sl ([.ref (ad 0), .int x1, .int x2, .int x3] : List Value)).length) Slot.unset).toArray = ls at hl ⊢
  have hl : lv_has ls 5 [(0, .ref (ad 0)), (1, .int x1), (2, .int x2), (3, .int x3)] := by exact hl
  have hS : va_S (mm_A TC ad) s.heap s.heap [] := va_S.rf
  clear hargs
  unfold f_X11_market at hf
  have hH9 : ∀ (H : Heap) (locs : List Loc), H = s.heap → locs = [] → va_P D vwCl (mm_L TC ad cy g) H → va_S (mm_A TC ad) s.heap H locs → W p l e (headSpec wsX11_market (rm_X11_market)).room s m args below meth c H locs 0 0 (MQ below (mm_Qi D TC ad cy r0 g') args s 0 0 (mm_A TC ad)) (F0 m 0 ls []) := by
    intro H locs hH9 hL9 hP hS
    clear hH9 hL9
    refine lv_iload_n hx hb dX11_market_0 rfl (lv_at hl 1 rfl) ?_
    refine lv_iconst (v := 1) hx hb dX11_market_1 (by decide) ?_
    refine lv_bipush (v := 99) hx hb dX11_market_2 (by decide) ?_
    obtain ⟨r_1, hr_2, hf⟩ := op_some hf
    refine mq_calli (va_runS (As := [.int x1, .int 1, .int 99]) (rest := []) ⟨hx, hb, hml, hown, hts⟩ (c_X11_isWithin l D ad cy x1 1 99 g r_1 hr_2) (va_cwS 3 hts gX11_market_X11_isWithin rfl rfl rfl (by decide +kernel) ⟨Nat.le_of_ble_eq_true rfl, Nat.le_of_ble_eq_true rfl⟩) (mq_preS mm_zOkC hK hP hI hZ hS) rfl rfl hl.1 rfl (lv_room (Nat.le_of_ble_eq_true rfl)) dX11_market_4 ⟨Nat.le_refl _, Nat.le_refl _⟩) hS (fun H locs hP hS => ?_)
    refine lv_if_eq (tgt := 29) hx hb dX11_market_7 (by decide) (fun c_3 => ?_) (fun c_3 => ?_)
    · replace hf := ite_t c_3 hf
      refine lv_iconst (v := (-1)) hx hb dX11_market_29 (by decide) ?_
      exact mq_iret hx hb hr rfl hlocks hP hS (pr_1 hf) (pr_2 hf) dX11_market_30
    · replace hf := ite_f c_3 hf
      refine lv_iload_n hx hb dX11_market_10 rfl (lv_at hl 2 rfl) ?_
      refine lv_iconst (v := 0) hx hb dX11_market_11 (by decide) ?_
      refine lv_bipush (v := 60) hx hb dX11_market_12 (by decide) ?_
      obtain ⟨r_4, hr_5, hf⟩ := op_some hf
      refine mq_calli (va_runS (As := [.int x2, .int 0, .int 60]) (rest := []) ⟨hx, hb, hml, hown, hts⟩ (c_X11_isWithin l D ad cy x2 0 60 g r_4 hr_5) (va_cwS 3 hts gX11_market_X11_isWithin rfl rfl rfl (by decide +kernel) ⟨Nat.le_of_ble_eq_true rfl, Nat.le_of_ble_eq_true rfl⟩) (mq_preS mm_zOkC hK hP hI hZ hS) rfl rfl hl.1 rfl (lv_room (Nat.le_of_ble_eq_true rfl)) dX11_market_14 ⟨Nat.le_refl _, Nat.le_refl _⟩) hS (fun H locs hP hS => ?_)
      refine lv_if_eq (tgt := 29) hx hb dX11_market_17 (by decide) (fun c_6 => ?_) (fun c_6 => ?_)
      · replace hf := ite_t c_6 hf
        refine lv_iconst (v := (-1)) hx hb dX11_market_29 (by decide) ?_
        exact mq_iret hx hb hr rfl hlocks hP hS (pr_1 hf) (pr_2 hf) dX11_market_30
      · replace hf := ite_f c_6 hf
        refine lv_iload_n hx hb dX11_market_20 rfl (lv_at hl 3 rfl) ?_
        refine lv_iconst (v := 0) hx hb dX11_market_21 (by decide) ?_
        refine lv_iconst (v := 1) hx hb dX11_market_22 (by decide) ?_
        obtain ⟨r_7, hr_8, hf⟩ := op_some hf
        refine mq_calli (va_runS (As := [.int x3, .int 0, .int 1]) (rest := []) ⟨hx, hb, hml, hown, hts⟩ (c_X11_isWithin l D ad cy x3 0 1 g r_7 hr_8) (va_cwS 3 hts gX11_market_X11_isWithin rfl rfl rfl (by decide +kernel) ⟨Nat.le_of_ble_eq_true rfl, Nat.le_of_ble_eq_true rfl⟩) (mq_preS mm_zOkC hK hP hI hZ hS) rfl rfl hl.1 rfl (lv_room (Nat.le_of_ble_eq_true rfl)) dX11_market_23 ⟨Nat.le_refl _, Nat.le_refl _⟩) hS (fun H locs hP hS => ?_)
        refine lv_if_ne (tgt := 31) hx hb dX11_market_26 (by decide) (fun c_9 => ?_) (fun c_9 => ?_)
        · replace hf := ite_f c_9 hf
          refine lv_aload_n hx hb dX11_market_31 rfl (lv_at hl 0 rfl) ?_
          refine mq_getr (Tt := TX11) (N := 9) (C := RX11) hx hb hts hiX11 hown hK hP hp rfl 0 1 (by decide) rfl hw0 (fun _ h9 => h9) dX11_market_32 ?_
          refine mq_getr (Tt := TX10) (N := 9) (C := RX10) hx hb hts hiX10 hown hK hP (shTC_X11_1 hp) rfl 8 37 (by decide) rfl hw2 (fun _ h9 => h9) dX11_market_35 ?_
          refine lv_iload_n hx hb dX11_market_38 rfl (lv_at hl 1 rfl) ?_
          refine lv_iload_n hx hb dX11_market_39 rfl (lv_at hl 2 rfl) ?_
          obtain ⟨r_11, g_10, hr_12, hf⟩ := ob_some hf
          refine mq_calli (va_runV (As := [.int x1, .int x2]) (rest := []) ⟨hx, hb, hml, hown, hts⟩ (c_X1_settle l D ad cy 38 x1 x2 g (shTC_X11_38 hp) r_11 g_10 hr_12) (cwV 2 hts gX11_market_X1_settle rfl rfl rfl (by decide +kernel) ⟨Nat.le_of_ble_eq_true rfl, Nat.le_of_ble_eq_true rfl⟩) (mq_preV (q := (RX1, TX1, 6)) mm_zOkC hK hP hI hZ hS (shTC_X11_38 hp) rfl) rfl rfl hl.1 rfl (lv_room (Nat.le_of_ble_eq_true rfl)) dX11_market_40 ⟨Nat.le_refl _, Nat.le_refl _⟩) hS (fun H locs hP hS => ?_)
          refine lv_istore (lv' := [(4, .int r_11), (0, .ref (ad 0)), (1, .int x1), (2, .int x2), (3, .int x3)]) hx hb dX11_market_43 hl (by decide) rfl (fun ls hl => ?_)
          refine lv_iload_n hx hb dX11_market_45 rfl (lv_at hl 4 rfl) ?_
          refine lv_iconst (v := 1) hx hb dX11_market_46 (by decide) ?_
          refine lv_icmp_ne (tgt := 61) hx hb dX11_market_47 (by decide) (fun c_13 => ?_) (fun c_13 => ?_)
          · replace hf := ite_f c_13 hf
            refine lv_iload hx hb dX11_market_61 (lv_at hl 0 rfl) ?_
            refine lv_if_eq (tgt := 79) hx hb dX11_market_63 (by decide) (fun c_14 => ?_) (fun c_14 => ?_)
            · replace hf := ite_t c_14 hf
              refine lv_bipush (v := (-4)) hx hb dX11_market_79 (by decide) ?_
              exact mq_iret hx hb hr rfl hlocks hP hS (pr_1 hf) (pr_2 hf) dX11_market_81
            · replace hf := ite_f c_14 hf
              refine lv_aload_n hx hb dX11_market_66 rfl (lv_at hl 1 rfl) ?_
              refine mq_getr (Tt := TX11) (N := 9) (C := RX11) hx hb hts hiX11 hown hK hP hp rfl 0 1 (by decide) rfl hw0 (fun _ h9 => h9) dX11_market_67 ?_
              refine mq_getr (Tt := TX10) (N := 9) (C := RX10) hx hb hts hiX10 hown hK hP (shTC_X11_1 hp) rfl 8 37 (by decide) rfl hw2 (fun _ h9 => h9) dX11_market_70 ?_
              refine mq_geti (Tt := TX1) (N := 6) (C := RX1) hx hb hts hiX1 hown hK hP (shTC_X11_38 hp) rfl 4 (by decide) rfl hw4 (fun _ h9 => h9) dX11_market_73 ?_
              refine lv_goto (tgt := 81) hx hb dX11_market_76 (by decide) ?_
              exact mq_iret hx hb hr rfl hlocks hP hS (pr_1 hf) (pr_2 hf) dX11_market_81
          · replace hf := ite_t c_13 hf
            refine lv_aload_n hx hb dX11_market_50 rfl (lv_at hl 1 rfl) ?_
            refine mq_getr (Tt := TX11) (N := 9) (C := RX11) hx hb hts hiX11 hown hK hP hp rfl 0 1 (by decide) rfl hw0 (fun _ h9 => h9) dX11_market_51 ?_
            refine mq_getr (Tt := TX10) (N := 9) (C := RX10) hx hb hts hiX10 hown hK hP (shTC_X11_1 hp) rfl 8 37 (by decide) rfl hw2 (fun _ h9 => h9) dX11_market_54 ?_
            refine mq_geti (Tt := TX1) (N := 6) (C := RX1) hx hb hts hiX1 hown hK hP (shTC_X11_38 hp) rfl 5 (by decide) rfl hw6 (fun _ h9 => h9) dX11_market_57 ?_
            exact mq_iret hx hb hr rfl hlocks hP hS (pr_1 hf) (pr_2 hf) dX11_market_60
        · replace hf := ite_t c_9 hf
          refine lv_iconst (v := (-1)) hx hb dX11_market_29 (by decide) ?_
          exact mq_iret hx hb hr rfl hlocks hP hS (pr_1 hf) (pr_2 hf) dX11_market_30
  exact hH9 s.heap [] rfl rfl hP hS
