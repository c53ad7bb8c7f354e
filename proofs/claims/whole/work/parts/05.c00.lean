abbrev rm_X11_isWithin : Room := ({ frames := 0, cells := 0, slots := 0, locals := 0 } : Room)
set_option maxHeartbeats 4000000 in
set_option maxRecDepth 100000 in
theorem c_X11_isWithin (l : Launch) (D : va_G) (ad : Nat → Nat) (cy : Nat → ClassId) (x0 : Int32) (x1 : Int32) (x2 : Int32) (g : Mm)  (r0 : Int32) (hf : f_X11_isWithin x0 x1 x2 = some r0) : Met l yX11_isWithin wsX11_isWithin rm_X11_isWithin (va_Pc [.int x0, .int x1, .int x2] (mm_pre mm_Z D TC ad cy g)) (mm_Qi D TC ad cy r0 g) 0 0 (mm_A TC ad) := by
  refine Met.ofW (cc := cX11_isWithin) (maxL := 3) (ret := (some .boolean)) (by decide) rfl ?_
  intro p e s m args below meth c s₁ B hml hv
  obtain ⟨hargs, hP, hK, hI, hZ⟩ := hv
  have hx := B.exec
  have hb := B.bytes
  have hr := B.returns
  have hts := atoms_spec (ws := wsX11_isWithin) B.pre
  have hown : s.vm.findClass RX11 = some m.cls := findClass_of_methodNamed B.named
  have hlocks := B.notSynchronized
  rw [show entryFrame m args 3 = F0 m 0 ((lg_sl ([.int x0, .int x1, .int x2] : List Value) ++ List.replicate (3 - (lg_sl ([.int x0, .int x1, .int x2] : List Value)).length) Slot.unset).toArray) [] from by rw [hargs]; exact lg_entry_eq m _ _]
  have hl := lv_entry ([.int x0, .int x1, .int x2] : List Value) (n := 3) (by exact Nat.le_of_ble_eq_true rfl)
  generalize (lg_sl ([.int x0, .int x1, .int x2] : List Value) ++ List.replicate (3 - (lg_sl ([.int x0, .int x1, .int x2] : List Value)).length) Slot.unset).toArray = ls at hl ⊢
  have hl : lv_has ls 3 [(0, .int x0), (1, .int x1), (2, .int x2)] := by exact hl
  have hS : va_S (mm_A TC ad) s.heap s.heap [] := va_S.rf
  clear hargs
  unfold f_X11_isWithin at hf
  have hH9 : ∀ (H : Heap) (locs : List Loc), H = s.heap → locs = [] → va_P D vwCl (mm_L TC ad cy g) H → va_S (mm_A TC ad) s.heap H locs → W p l e (headSpec wsX11_isWithin (rm_X11_isWithin)).room s m args below meth c H locs 0 0 (MQ below (mm_Qi D TC ad cy r0 g) args s 0 0 (mm_A TC ad)) (F0 m 0 ls []) := by
    intro H locs hH9 hL9 hP hS
    clear hH9 hL9
    refine lv_iload_n hx hb dX11_isWithin_0 rfl (lv_at hl 0 rfl) ?_
    refine lv_iload_n hx hb dX11_isWithin_1 rfl (lv_at hl 1 rfl) ?_
    refine lv_icmp_lt (tgt := 14) hx hb dX11_isWithin_2 (by decide) (fun c_1 => ?_) (fun c_1 => ?_)
    · replace hf := ite_t c_1 hf
      refine lv_iconst (v := 0) hx hb dX11_isWithin_14 (by decide) ?_
      exact mq_iret hx hb hr (by decide +kernel) hlocks hP hS (Option.some.inj hf) rfl dX11_isWithin_15
    · replace hf := ite_f c_1 hf
      refine lv_iload_n hx hb dX11_isWithin_5 rfl (lv_at hl 0 rfl) ?_
      refine lv_iload_n hx hb dX11_isWithin_6 rfl (lv_at hl 2 rfl) ?_
      refine lv_icmp_gt (tgt := 14) hx hb dX11_isWithin_7 (by decide) (fun c_2 => ?_) (fun c_2 => ?_)
      · replace hf := ite_t c_2 hf
        refine lv_iconst (v := 0) hx hb dX11_isWithin_14 (by decide) ?_
        exact mq_iret hx hb hr (by decide +kernel) hlocks hP hS (Option.some.inj hf) rfl dX11_isWithin_15
      · replace hf := ite_f c_2 hf
        refine lv_iconst (v := 1) hx hb dX11_isWithin_10 (by decide) ?_
        refine lv_goto (tgt := 15) hx hb dX11_isWithin_11 (by decide) ?_
        exact mq_iret hx hb hr (by decide +kernel) hlocks hP hS (Option.some.inj hf) rfl dX11_isWithin_15
  exact hH9 s.heap [] rfl rfl hP hS
abbrev rm_X5_become : Room := ({ frames := 0, cells := 0, slots := 0, locals := 0 } : Room)
set_option maxHeartbeats 4000000 in
set_option maxRecDepth 100000 in
theorem c_X5_become (l : Launch) (D : va_G) (ad : Nat → Nat) (cy : Nat → ClassId) (p0 : Nat) (q1 : Nat) (g : Mm) (hp : TC[p0]? = some sX5) (hq1 : TC[q1]? = some sX5) (g' : Mm) (hf : f_X5_become p0 q1 g = some g') : Met l yX5_become wsX5_become rm_X5_become (va_Pc [.ref (ad p0), .ref (ad q1)] (mm_pre mm_Z D TC ad cy g)) (mm_Qv D TC ad cy g') 0 0 (mm_A TC ad) := by
  refine Met.ofW (cc := cX5_become) (maxL := 2) (ret := none) (by decide) rfl ?_
  intro p e s m args below meth c s₁ B hml hv
  obtain ⟨hargs, hP, hK, hI, hZ⟩ := hv
  have hx := B.exec
  have hb := B.bytes
  have hr := B.returns
  have hts := atoms_spec (ws := wsX5_become) B.pre
  have hown : s.vm.findClass RX5 = some m.cls := findClass_of_methodNamed B.named
  have hlocks := B.notSynchronized
  have hw0 := hts (.fieldLink RX5 9 "LeftShoes$Shoe" "foot" "I") (by decide +kernel)
  have hiX5 : ∀ w ∈ wsX50, w ∈ wsX5_become := by decide +kernel
  have hw2 := hts (.fieldLink RX5 15 "LeftShoes$Shoe" "sort" "I") (by decide +kernel)
  have hw3 := hts (.fieldLink RX5 18 "LeftShoes$Shoe" "soles" "I") (by decide +kernel)
  have hw4 := hts (.fieldLink RX5 21 "LeftShoes$Shoe" "owner" "I") (by decide +kernel)
  have hw5 := hts (.fieldLink RX5 24 "LeftShoes$Shoe" "isStamped" "Z") (by decide +kernel)
  rw [show entryFrame m args 2 = F0 m 0 ((lg_sl ([.ref (ad p0), .ref (ad q1)] : List Value) ++ List.replicate (2 - (lg_sl ([.ref (ad p0), .ref (ad q1)] : List Value)).length) Slot.unset).toArray) [] from by rw [hargs]; exact lg_entry_eq m _ _]
  have hl := lv_entry ([.ref (ad p0), .ref (ad q1)] : List Value) (n := 2) (by exact Nat.le_of_ble_eq_true rfl)
  generalize (lg_sl ([.ref (ad p0), .ref (ad q1)] : List Value) ++ List.replicate (2 - (lg_sl ([.ref (ad p0), .ref (ad q1)] : List Value)).length) Slot.unset).toArray = ls at hl ⊢
  have hl : lv_has ls 2 [(0, .ref (ad p0)), (1, .ref (ad q1))] := by exact hl
  have hS : va_S (mm_A TC ad) s.heap s.heap [] := va_S.rf
  clear hargs
  unfold f_X5_become at hf
  have hH9 : ∀ (H : Heap) (locs : List Loc), H = s.heap → locs = [] → va_P D vwCl (mm_L TC ad cy g) H → va_S (mm_A TC ad) s.heap H locs → W p l e (headSpec wsX5_become (rm_X5_become)).room s m args below meth c H locs 0 0 (MQ below (mm_Qv D TC ad cy g') args s 0 0 (mm_A TC ad)) (F0 m 0 ls []) := by
    intro H locs hH9 hL9 hP hS
    clear hH9 hL9
    refine lv_aload_n hx hb dX5_become_0 rfl (lv_at hl 0 rfl) ?_
    refine lv_aload_n hx hb dX5_become_1 rfl (lv_at hl 1 rfl) ?_
    refine mq_geti (Tt := TX5) (N := 5) (C := RX5) hx hb hts hiX5 hown hK hP hq1 rfl 0 (by decide) rfl hw0 (fun _ h9 => h9) dX5_become_2 ?_
    obtain ⟨g_1, eg_1, hf⟩ := mw_some hf
    refine mq_puti (Tt := TX5) (N := 5) (C := RX5) (ty := .int) hx hb hts hiX5 tyX5 tyX5_ok nmX5 hown hK hI hP hS hp rfl 0 (by decide) rfl hw0 (fun _ h9 => h9) rfl (by decide +kernel) rfl rfl dX5_become_5 eg_1 (fun H locs hP hS => ?_)
    refine lv_aload_n hx hb dX5_become_8 rfl (lv_at hl 0 rfl) ?_
    refine lv_aload_n hx hb dX5_become_9 rfl (lv_at hl 1 rfl) ?_
    refine mq_geti (Tt := TX5) (N := 5) (C := RX5) hx hb hts hiX5 hown hK hP hq1 rfl 1 (by decide) rfl hw2 (fun _ h9 => h9) dX5_become_10 ?_
    obtain ⟨g_2, eg_2, hf⟩ := mw_some hf
    refine mq_puti (Tt := TX5) (N := 5) (C := RX5) (ty := .int) hx hb hts hiX5 tyX5 tyX5_ok nmX5 hown hK hI hP hS hp rfl 1 (by decide) rfl hw2 (fun _ h9 => h9) rfl (by decide +kernel) rfl rfl dX5_become_13 eg_2 (fun H locs hP hS => ?_)
    refine lv_aload_n hx hb dX5_become_16 rfl (lv_at hl 0 rfl) ?_
    refine lv_aload_n hx hb dX5_become_17 rfl (lv_at hl 1 rfl) ?_
    refine mq_geti (Tt := TX5) (N := 5) (C := RX5) hx hb hts hiX5 hown hK hP hq1 rfl 2 (by decide) rfl hw3 (fun _ h9 => h9) dX5_become_18 ?_
    obtain ⟨g_3, eg_3, hf⟩ := mw_some hf
    refine mq_puti (Tt := TX5) (N := 5) (C := RX5) (ty := .int) hx hb hts hiX5 tyX5 tyX5_ok nmX5 hown hK hI hP hS hp rfl 2 (by decide) rfl hw3 (fun _ h9 => h9) rfl (by decide +kernel) rfl rfl dX5_become_21 eg_3 (fun H locs hP hS => ?_)
    refine lv_aload_n hx hb dX5_become_24 rfl (lv_at hl 0 rfl) ?_
    refine lv_aload_n hx hb dX5_become_25 rfl (lv_at hl 1 rfl) ?_
    refine mq_geti (Tt := TX5) (N := 5) (C := RX5) hx hb hts hiX5 hown hK hP hq1 rfl 3 (by decide) rfl hw4 (fun _ h9 => h9) dX5_become_26 ?_
    obtain ⟨g_4, eg_4, hf⟩ := mw_some hf
    refine mq_puti (Tt := TX5) (N := 5) (C := RX5) (ty := .int) hx hb hts hiX5 tyX5 tyX5_ok nmX5 hown hK hI hP hS hp rfl 3 (by decide) rfl hw4 (fun _ h9 => h9) rfl (by decide +kernel) rfl rfl dX5_become_29 eg_4 (fun H locs hP hS => ?_)
    refine lv_aload_n hx hb dX5_become_32 rfl (lv_at hl 0 rfl) ?_
    refine lv_aload_n hx hb dX5_become_33 rfl (lv_at hl 1 rfl) ?_
    refine mq_geti (Tt := TX5) (N := 5) (C := RX5) hx hb hts hiX5 hown hK hP hq1 rfl 4 (by decide) rfl hw5 (fun _ h9 => h9) dX5_become_34 ?_
    obtain ⟨h_5, hf⟩ := og_some hf
    obtain ⟨g_6, eg_6, hf⟩ := mw_some hf
    refine mq_puti (Tt := TX5) (N := 5) (C := RX5) (ty := .boolean) hx hb hts hiX5 tyX5 tyX5_ok nmX5 hown hK hI hP hS hp rfl 4 (by decide) rfl hw5 (fun _ h9 => h9) rfl (by decide +kernel) (mm_01_nar h_5) (mm_01_fit h_5) dX5_become_37 eg_6 (fun H locs hP hS => ?_)
    exact mq_vret hx hb hr hlocks hP hS (Option.some.inj hf) dX5_become_40
  exact hH9 s.heap [] rfl rfl hP hS
abbrev rm_X5_wear : Room := ({ frames := 0, cells := 0, slots := 0, locals := 0 } : Room)
set_option maxHeartbeats 4000000 in
set_option maxRecDepth 100000 in
theorem c_X5_wear (l : Launch) (D : va_G) (ad : Nat → Nat) (cy : Nat → ClassId) (p0 : Nat) (g : Mm) (hp : TC[p0]? = some sX5) (r0 : Int32) (hf : f_X5_wear p0 g = some r0) : Met l yX5_wear wsX5_wear rm_X5_wear (va_Pc [.ref (ad p0)] (mm_pre mm_Z D TC ad cy g)) (mm_Qi D TC ad cy r0 g) 0 0 (mm_A TC ad) := by
  refine Met.ofW (cc := cX5_wear) (maxL := 1) (ret := (some .int)) (by decide) rfl ?_
  intro p e s m args below meth c s₁ B hml hv
  obtain ⟨hargs, hP, hK, hI, hZ⟩ := hv
  have hx := B.exec
  have hb := B.bytes
  have hr := B.returns
  have hts := atoms_spec (ws := wsX5_wear) B.pre
  have hown : s.vm.findClass RX5 = some m.cls := findClass_of_methodNamed B.named
  have hlocks := B.notSynchronized
  have hw0 := hts (.fieldLink RX5 15 "LeftShoes$Shoe" "sort" "I") (by decide +kernel)
  have hiX5 : ∀ w ∈ wsX50, w ∈ wsX5_wear := by decide +kernel
  rw [show entryFrame m args 1 = F0 m 0 ((lg_sl ([.ref (ad p0)] : List Value) ++ List.replicate (1 - (lg_sl ([.ref (ad p0)] : List Value)).length) Slot.unset).toArray) [] from by rw [hargs]; exact lg_entry_eq m _ _]
  have hl := lv_entry ([.ref (ad p0)] : List Value) (n := 1) (by exact Nat.le_of_ble_eq_true rfl)
  generalize (lg_sl ([.ref (ad p0)] : List Value) ++ List.replicate (1 - (lg_sl ([.ref (ad p0)] : List Value)).length) Slot.unset).toArray = ls at hl ⊢
  have hl : lv_has ls 1 [(0, .ref (ad p0))] := by exact hl
  have hS : va_S (mm_A TC ad) s.heap s.heap [] := va_S.rf
  clear hargs
  unfold f_X5_wear at hf
  have hH9 : ∀ (H : Heap) (locs : List Loc), H = s.heap → locs = [] → va_P D vwCl (mm_L TC ad cy g) H → va_S (mm_A TC ad) s.heap H locs → W p l e (headSpec wsX5_wear (rm_X5_wear)).room s m args below meth c H locs 0 0 (MQ below (mm_Qi D TC ad cy r0 g) args s 0 0 (mm_A TC ad)) (F0 m 0 ls []) := by
    intro H locs hH9 hL9 hP hS
    clear hH9 hL9
    refine lv_aload_n hx hb dX5_wear_0 rfl (lv_at hl 0 rfl) ?_
    refine mq_geti (Tt := TX5) (N := 5) (C := RX5) hx hb hts hiX5 hown hK hP hp rfl 1 (by decide) rfl hw0 (fun _ h9 => h9) dX5_wear_1 ?_
    refine lv_iconst (v := 3) hx hb dX5_wear_4 (by decide) ?_
    refine lv_icmp_ne (tgt := 12) hx hb dX5_wear_5 (by decide) (fun c_1 => ?_) (fun c_1 => ?_)
    · replace hf := ite_f c_1 hf
      refine lv_iconst (v := 1) hx hb dX5_wear_12 (by decide) ?_
      exact mq_iret hx hb hr rfl hlocks hP hS (Option.some.inj hf) rfl dX5_wear_13
    · replace hf := ite_t c_1 hf
      refine lv_iconst (v := 2) hx hb dX5_wear_8 (by decide) ?_
      refine lv_goto (tgt := 13) hx hb dX5_wear_9 (by decide) ?_
      exact mq_iret hx hb hr rfl hlocks hP hS (Option.some.inj hf) rfl dX5_wear_13
  exact hH9 s.heap [] rfl rfl hP hS
abbrev rm_X5_delay : Room := ({ frames := 0, cells := 0, slots := 0, locals := 0 } : Room)
set_option maxHeartbeats 4000000 in
set_option maxRecDepth 100000 in
theorem c_X5_delay (l : Launch) (D : va_G) (ad : Nat → Nat) (cy : Nat → ClassId) (p0 : Nat) (x1 : Int32) (g : Mm) (hp : TC[p0]? = some sX5) (r0 : Int32) (hf : f_X5_delay p0 x1 g = some r0) : Met l yX5_delay wsX5_delay rm_X5_delay (va_Pc [.ref (ad p0), .int x1] (mm_pre mm_Z D TC ad cy g)) (mm_Qi D TC ad cy r0 g) 0 0 (mm_A TC ad) := by
  refine Met.ofW (cc := cX5_delay) (maxL := 2) (ret := (some .int)) (by decide) rfl ?_
  intro p e s m args below meth c s₁ B hml hv
  obtain ⟨hargs, hP, hK, hI, hZ⟩ := hv
  have hx := B.exec
  have hb := B.bytes
  have hr := B.returns
  have hts := atoms_spec (ws := wsX5_delay) B.pre
  have hown : s.vm.findClass RX5 = some m.cls := findClass_of_methodNamed B.named
  have hlocks := B.notSynchronized
  have hw0 := hts (.fieldLink RX5 15 "LeftShoes$Shoe" "sort" "I") (by decide +kernel)
  have hiX5 : ∀ w ∈ wsX50, w ∈ wsX5_delay := by decide +kernel
  rw [show entryFrame m args 2 = F0 m 0 ((lg_sl ([.ref (ad p0), .int x1] : List Value) ++ List.replicate (2 - (lg_sl ([.ref (ad p0), .int x1] : List Value)).length) Slot.unset).toArray) [] from by rw [hargs]; exact lg_entry_eq m _ _]
  have hl := lv_entry ([.ref (ad p0), .int x1] : List Value) (n := 2) (by exact Nat.le_of_ble_eq_true rfl)
  generalize (lg_sl ([.ref (ad p0), .int x1] : List Value) ++ List.replicate (2 - (lg_sl ([.ref (ad p0), .int x1] : List Value)).length) Slot.unset).toArray = ls at hl ⊢
  have hl : lv_has ls 2 [(0, .ref (ad p0)), (1, .int x1)] := by exact hl
  have hS : va_S (mm_A TC ad) s.heap s.heap [] := va_S.rf
  clear hargs
  unfold f_X5_delay at hf
  have hH9 : ∀ (H : Heap) (locs : List Loc), H = s.heap → locs = [] → va_P D vwCl (mm_L TC ad cy g) H → va_S (mm_A TC ad) s.heap H locs → W p l e (headSpec wsX5_delay (rm_X5_delay)).room s m args below meth c H locs 0 0 (MQ below (mm_Qi D TC ad cy r0 g) args s 0 0 (mm_A TC ad)) (F0 m 0 ls []) := by
    intro H locs hH9 hL9 hP hS
    clear hH9 hL9
    refine lv_aload_n hx hb dX5_delay_0 rfl (lv_at hl 0 rfl) ?_
    refine mq_geti (Tt := TX5) (N := 5) (C := RX5) hx hb hts hiX5 hown hK hP hp rfl 1 (by decide) rfl hw0 (fun _ h9 => h9) dX5_delay_1 ?_
    refine lv_iconst (v := 1) hx hb dX5_delay_4 (by decide) ?_
    refine lv_icmp_ne (tgt := 10) hx hb dX5_delay_5 (by decide) (fun c_1 => ?_) (fun c_1 => ?_)
    · replace hf := ite_f c_1 hf
      refine lv_aload_n hx hb dX5_delay_10 rfl (lv_at hl 0 rfl) ?_
      refine mq_geti (Tt := TX5) (N := 5) (C := RX5) hx hb hts hiX5 hown hK hP hp rfl 1 (by decide) rfl hw0 (fun _ h9 => h9) dX5_delay_11 ?_
      refine lv_iconst (v := 2) hx hb dX5_delay_14 (by decide) ?_
      refine lv_icmp_ne (tgt := 30) hx hb dX5_delay_15 (by decide) (fun c_2 => ?_) (fun c_2 => ?_)
      · replace hf := ite_f c_2 hf
        refine lv_iconst (v := 0) hx hb dX5_delay_30 (by decide) ?_
        exact mq_iret hx hb hr rfl hlocks hP hS (Option.some.inj hf) rfl dX5_delay_31
      · replace hf := ite_t c_2 hf
        refine lv_iload_n hx hb dX5_delay_18 rfl (lv_at hl 1 rfl) ?_
        refine lv_iconst (v := 5) hx hb dX5_delay_19 (by decide) ?_
        refine lv_icmp_lt (tgt := 28) hx hb dX5_delay_20 (by decide) (fun c_3 => ?_) (fun c_3 => ?_)
        · replace hf := ite_t c_3 hf
          refine lv_iconst (v := 1) hx hb dX5_delay_28 (by decide) ?_
          exact mq_iret hx hb hr rfl hlocks hP hS (Option.some.inj hf) rfl dX5_delay_29
        · replace hf := ite_f c_3 hf
          refine lv_bipush (v := (-2)) hx hb dX5_delay_23 (by decide) ?_
          refine lv_goto (tgt := 29) hx hb dX5_delay_25 (by decide) ?_
          exact mq_iret hx hb hr rfl hlocks hP hS (Option.some.inj hf) rfl dX5_delay_29
    · replace hf := ite_t c_1 hf
      refine lv_iconst (v := (-1)) hx hb dX5_delay_8 (by decide) ?_
      exact mq_iret hx hb hr rfl hlocks hP hS (Option.some.inj hf) rfl dX5_delay_9
  exact hH9 s.heap [] rfl rfl hP hS
abbrev rm_X5_mark : Room := ({ frames := 0, cells := 0, slots := 0, locals := 0 } : Room)
set_option maxHeartbeats 4000000 in
set_option maxRecDepth 100000 in
theorem c_X5_mark (l : Launch) (D : va_G) (ad : Nat → Nat) (cy : Nat → ClassId) (p0 : Nat) (g : Mm) (hp : TC[p0]? = some sX5) (r0 : Int32) (hf : f_X5_mark p0 g = some r0) : Met l yX5_mark wsX5_mark rm_X5_mark (va_Pc [.ref (ad p0)] (mm_pre mm_Z D TC ad cy g)) (mm_Qi D TC ad cy r0 g) 0 0 (mm_A TC ad) := by
  refine Met.ofW (cc := cX5_mark) (maxL := 1) (ret := (some .int)) (by decide) rfl ?_
  intro p e s m args below meth c s₁ B hml hv
  obtain ⟨hargs, hP, hK, hI, hZ⟩ := hv
  have hx := B.exec
  have hb := B.bytes
  have hr := B.returns
  have hts := atoms_spec (ws := wsX5_mark) B.pre
  have hown : s.vm.findClass RX5 = some m.cls := findClass_of_methodNamed B.named
  have hlocks := B.notSynchronized
  have hw0 := hts (.fieldLink RX5 15 "LeftShoes$Shoe" "sort" "I") (by decide +kernel)
  have hiX5 : ∀ w ∈ wsX50, w ∈ wsX5_mark := by decide +kernel
  have hw2 := hts (.fieldLink RX5 9 "LeftShoes$Shoe" "foot" "I") (by decide +kernel)
  rw [show entryFrame m args 1 = F0 m 0 ((lg_sl ([.ref (ad p0)] : List Value) ++ List.replicate (1 - (lg_sl ([.ref (ad p0)] : List Value)).length) Slot.unset).toArray) [] from by rw [hargs]; exact lg_entry_eq m _ _]
  have hl := lv_entry ([.ref (ad p0)] : List Value) (n := 1) (by exact Nat.le_of_ble_eq_true rfl)
  generalize (lg_sl ([.ref (ad p0)] : List Value) ++ List.replicate (1 - (lg_sl ([.ref (ad p0)] : List Value)).length) Slot.unset).toArray = ls at hl ⊢
  have hl : lv_has ls 1 [(0, .ref (ad p0))] := by exact hl
  have hS : va_S (mm_A TC ad) s.heap s.heap [] := va_S.rf
  clear hargs
  unfold f_X5_mark at hf
  have hH9 : ∀ (H : Heap) (locs : List Loc), H = s.heap → locs = [] → va_P D vwCl (mm_L TC ad cy g) H → va_S (mm_A TC ad) s.heap H locs → W p l e (headSpec wsX5_mark (rm_X5_mark)).room s m args below meth c H locs 0 0 (MQ below (mm_Qi D TC ad cy r0 g) args s 0 0 (mm_A TC ad)) (F0 m 0 ls []) := by
    intro H locs hH9 hL9 hP hS
    clear hH9 hL9
    refine lv_iconst (v := 2) hx hb dX5_mark_0 (by decide) ?_
    refine lv_iconst (v := 1) hx hb dX5_mark_1 (by decide) ?_
    refine lv_aload_n hx hb dX5_mark_2 rfl (lv_at hl 0 rfl) ?_
    refine mq_geti (Tt := TX5) (N := 5) (C := RX5) hx hb hts hiX5 hown hK hP hp rfl 1 (by decide) rfl hw0 (fun _ h9 => h9) dX5_mark_3 ?_
    refine lv_iadd hx hb dX5_mark_6 ?_
    refine lv_imul hx hb dX5_mark_7 ?_
    refine lv_aload_n hx hb dX5_mark_8 rfl (lv_at hl 0 rfl) ?_
    refine mq_geti (Tt := TX5) (N := 5) (C := RX5) hx hb hts hiX5 hown hK hP hp rfl 0 (by decide) rfl hw2 (fun _ h9 => h9) dX5_mark_9 ?_
    refine lv_iadd hx hb dX5_mark_12 ?_
    exact mq_iret hx hb hr rfl hlocks hP hS (Option.some.inj hf) rfl dX5_mark_13
  exact hH9 s.heap [] rfl rfl hP hS
abbrev rm_X7_setRate : Room := ({ frames := 0, cells := 0, slots := 0, locals := 0 } : Room)
set_option maxHeartbeats 4000000 in
set_option maxRecDepth 100000 in
theorem c_X7_setRate (l : Launch) (D : va_G) (ad : Nat → Nat) (cy : Nat → ClassId) (p0 : Nat) (x1 : Int32) (x2 : Int32) (g : Mm) (hp : TC[p0]? = some sX7) (r0 : Int32) (g' : Mm) (hf : f_X7_setRate p0 x1 x2 g = some (r0, g')) : Met l yX7_setRate wsX7_setRate rm_X7_setRate (va_Pc [.ref (ad p0), .int x1, .int x2] (mm_pre mm_Z D TC ad cy g)) (mm_Qi D TC ad cy r0 g') 0 0 (mm_A TC ad) := by
  refine Met.ofW (cc := cX7_setRate) (maxL := 4) (ret := (some .int)) (by decide) rfl ?_
  intro p e s m args below meth c s₁ B hml hv
  obtain ⟨hargs, hP, hK, hI, hZ⟩ := hv
  have hx := B.exec
  have hb := B.bytes
  have hr := B.returns
  have hts := atoms_spec (ws := wsX7_setRate) B.pre
  have hown : s.vm.findClass RX7 = some m.cls := findClass_of_methodNamed B.named
  have hlocks := B.notSynchronized
  have hw0 := hts (.fieldLink RX7 9 "LeftShoes$Tax" "rates" "[I") (by decide +kernel)
  have hiX7 : ∀ w ∈ wsX70, w ∈ wsX7_setRate := by decide +kernel
  rw [show entryFrame m args 4 = F0 m 0 ((lg_sl ([.ref (ad p0), .int x1, .int x2] : List Value) ++ List.replicate (4 - (lg_sl ([.ref (ad p0), .int x1, .int x2] : List Value)).length) Slot.unset).toArray) [] from by rw [hargs]; exact lg_entry_eq m _ _]
  have hl := lv_entry ([.ref (ad p0), .int x1, .int x2] : List Value) (n := 4) (by exact Nat.le_of_ble_eq_true rfl)
  generalize (lg_sl ([.ref (ad p0), .int x1, .int x2] : List Value) ++ List.replicate (4 - (lg_sl ([.ref (ad p0), .int x1, .int x2] : List Value)).length) Slot.unset).toArray = ls at hl ⊢
  have hl : lv_has ls 4 [(0, .ref (ad p0)), (1, .int x1), (2, .int x2)] := by exact hl
  have hS : va_S (mm_A TC ad) s.heap s.heap [] := va_S.rf
  clear hargs
  unfold f_X7_setRate at hf
  have hH9 : ∀ (H : Heap) (locs : List Loc), H = s.heap → locs = [] → va_P D vwCl (mm_L TC ad cy g) H → va_S (mm_A TC ad) s.heap H locs → W p l e (headSpec wsX7_setRate (rm_X7_setRate)).room s m args below meth c H locs 0 0 (MQ below (mm_Qi D TC ad cy r0 g') args s 0 0 (mm_A TC ad)) (F0 m 0 ls []) := by
    intro H locs hH9 hL9 hP hS
    clear hH9 hL9
    refine lv_aload_n hx hb dX7_setRate_0 rfl (lv_at hl 0 rfl) ?_
    refine mq_getr (Tt := TX7) (N := 3) (C := RX7) hx hb hts hiX7 hown hK hP hp rfl 0 1 (by decide) rfl hw0 (fun _ h9 => h9) dX7_setRate_1 ?_
    refine lv_iload_n hx hb dX7_setRate_4 rfl (lv_at hl 1 rfl) ?_
    obtain ⟨h_1, hf⟩ := og_some hf
    refine mq_iald hx hb hK hP (N := 4) (shTC_X7_1 hp) h_1 dX7_setRate_5 ?_
    obtain ⟨x3_2, ex3_2, hf⟩ := mv_some hf
    refine mq_nm ex3_2 ?_
    refine lv_istore_n (lv' := [(3, .int x3_2), (0, .ref (ad p0)), (1, .int x1), (2, .int x2)]) hx hb dX7_setRate_6 rfl hl (by decide) rfl (fun ls hl => ?_)
    refine lv_aload_n hx hb dX7_setRate_7 rfl (lv_at hl 1 rfl) ?_
    refine mq_getr (Tt := TX7) (N := 3) (C := RX7) hx hb hts hiX7 hown hK hP hp rfl 0 1 (by decide) rfl hw0 (fun _ h9 => h9) dX7_setRate_8 ?_
    refine lv_iload_n hx hb dX7_setRate_11 rfl (lv_at hl 2 rfl) ?_
    refine lv_iload_n hx hb dX7_setRate_12 rfl (lv_at hl 3 rfl) ?_
    obtain ⟨h_3, hf⟩ := og_some hf
    obtain ⟨g_4, eg_4, hf⟩ := mw_some hf
    refine mq_iast hx hb hK hI hP hS (N := 4) (shTC_X7_1 hp) h_3 dX7_setRate_13 eg_4 (fun H locs hP hS => ?_)
    refine lv_iload_n hx hb dX7_setRate_14 rfl (lv_at hl 0 rfl) ?_
    exact mq_iret hx hb hr rfl hlocks hP hS (pr_1 hf) (pr_2 hf) dX7_setRate_15
  exact hH9 s.heap [] rfl rfl hP hS
abbrev rm_X7_setFine : Room := ({ frames := 0, cells := 0, slots := 0, locals := 0 } : Room)
set_option maxHeartbeats 4000000 in
set_option maxRecDepth 100000 in
theorem c_X7_setFine (l : Launch) (D : va_G) (ad : Nat → Nat) (cy : Nat → ClassId) (p0 : Nat) (x1 : Int32) (g : Mm) (hp : TC[p0]? = some sX7) (r0 : Int32) (g' : Mm) (hf : f_X7_setFine p0 x1 g = some (r0, g')) : Met l yX7_setFine wsX7_setFine rm_X7_setFine (va_Pc [.ref (ad p0), .int x1] (mm_pre mm_Z D TC ad cy g)) (mm_Qi D TC ad cy r0 g') 0 0 (mm_A TC ad) := by
  refine Met.ofW (cc := cX7_setFine) (maxL := 3) (ret := (some .int)) (by decide) rfl ?_
  intro p e s m args below meth c s₁ B hml hv
  obtain ⟨hargs, hP, hK, hI, hZ⟩ := hv
  have hx := B.exec
  have hb := B.bytes
  have hr := B.returns
  have hts := atoms_spec (ws := wsX7_setFine) B.pre
  have hown : s.vm.findClass RX7 = some m.cls := findClass_of_methodNamed B.named
  have hlocks := B.notSynchronized
  have hw0 := hts (.fieldLink RX7 19 "LeftShoes$Tax" "fine" "I") (by decide +kernel)
  have hiX7 : ∀ w ∈ wsX70, w ∈ wsX7_setFine := by decide +kernel
  rw [show entryFrame m args 3 = F0 m 0 ((lg_sl ([.ref (ad p0), .int x1] : List Value) ++ List.replicate (3 - (lg_sl ([.ref (ad p0), .int x1] : List Value)).length) Slot.unset).toArray) [] from by rw [hargs]; exact lg_entry_eq m _ _]
  have hl := lv_entry ([.ref (ad p0), .int x1] : List Value) (n := 3) (by exact Nat.le_of_ble_eq_true rfl)
  generalize (lg_sl ([.ref (ad p0), .int x1] : List Value) ++ List.replicate (3 - (lg_sl ([.ref (ad p0), .int x1] : List Value)).length) Slot.unset).toArray = ls at hl ⊢
  have hl : lv_has ls 3 [(0, .ref (ad p0)), (1, .int x1)] := by exact hl
  have hS : va_S (mm_A TC ad) s.heap s.heap [] := va_S.rf
  clear hargs
  unfold f_X7_setFine at hf
  have hH9 : ∀ (H : Heap) (locs : List Loc), H = s.heap → locs = [] → va_P D vwCl (mm_L TC ad cy g) H → va_S (mm_A TC ad) s.heap H locs → W p l e (headSpec wsX7_setFine (rm_X7_setFine)).room s m args below meth c H locs 0 0 (MQ below (mm_Qi D TC ad cy r0 g') args s 0 0 (mm_A TC ad)) (F0 m 0 ls []) := by
    intro H locs hH9 hL9 hP hS
    clear hH9 hL9
    refine lv_aload_n hx hb dX7_setFine_0 rfl (lv_at hl 0 rfl) ?_
    refine mq_geti (Tt := TX7) (N := 3) (C := RX7) hx hb hts hiX7 hown hK hP hp rfl 1 (by decide) rfl hw0 (fun _ h9 => h9) dX7_setFine_1 ?_
    obtain ⟨x2_1, ex2_1, hf⟩ := mv_some hf
    refine mq_nm ex2_1 ?_
    refine lv_istore_n (lv' := [(2, .int x2_1), (0, .ref (ad p0)), (1, .int x1)]) hx hb dX7_setFine_4 rfl hl (by decide) rfl (fun ls hl => ?_)
    refine lv_aload_n hx hb dX7_setFine_5 rfl (lv_at hl 1 rfl) ?_
    refine lv_iload_n hx hb dX7_setFine_6 rfl (lv_at hl 2 rfl) ?_
    obtain ⟨g_2, eg_2, hf⟩ := mw_some hf
    refine mq_puti (Tt := TX7) (N := 3) (C := RX7) (ty := .int) hx hb hts hiX7 tyX7 tyX7_ok nmX7 hown hK hI hP hS hp rfl 1 (by decide) rfl hw0 (fun _ h9 => h9) rfl (by decide +kernel) rfl rfl dX7_setFine_7 eg_2 (fun H locs hP hS => ?_)
    refine lv_iload_n hx hb dX7_setFine_10 rfl (lv_at hl 0 rfl) ?_
    exact mq_iret hx hb hr rfl hlocks hP hS (pr_1 hf) (pr_2 hf) dX7_setFine_11
  exact hH9 s.heap [] rfl rfl hP hS
abbrev rm_X7_setFoot : Room := ({ frames := 0, cells := 0, slots := 0, locals := 0 } : Room)
set_option maxHeartbeats 4000000 in
set_option maxRecDepth 100000 in
theorem c_X7_setFoot (l : Launch) (D : va_G) (ad : Nat → Nat) (cy : Nat → ClassId) (p0 : Nat) (x1 : Int32) (g : Mm) (hp : TC[p0]? = some sX7) (r0 : Int32) (g' : Mm) (hf : f_X7_setFoot p0 x1 g = some (r0, g')) : Met l yX7_setFoot wsX7_setFoot rm_X7_setFoot (va_Pc [.ref (ad p0), .int x1] (mm_pre mm_Z D TC ad cy g)) (mm_Qi D TC ad cy r0 g') 0 0 (mm_A TC ad) := by
  refine Met.ofW (cc := cX7_setFoot) (maxL := 3) (ret := (some .int)) (by decide) rfl ?_
  intro p e s m args below meth c s₁ B hml hv
  obtain ⟨hargs, hP, hK, hI, hZ⟩ := hv
  have hx := B.exec
  have hb := B.bytes
  have hr := B.returns
  have hts := atoms_spec (ws := wsX7_setFoot) B.pre
  have hown : s.vm.findClass RX7 = some m.cls := findClass_of_methodNamed B.named
  have hlocks := B.notSynchronized
  have hw0 := hts (.fieldLink RX7 15 "LeftShoes$Tax" "foot" "I") (by decide +kernel)
  have hiX7 : ∀ w ∈ wsX70, w ∈ wsX7_setFoot := by decide +kernel
  rw [show entryFrame m args 3 = F0 m 0 ((lg_sl ([.ref (ad p0), .int x1] : List Value) ++ List.replicate (3 - (lg_sl ([.ref (ad p0), .int x1] : List Value)).length) Slot.unset).toArray) [] from by rw [hargs]; exact lg_entry_eq m _ _]
  have hl := lv_entry ([.ref (ad p0), .int x1] : List Value) (n := 3) (by exact Nat.le_of_ble_eq_true rfl)
  generalize (lg_sl ([.ref (ad p0), .int x1] : List Value) ++ List.replicate (3 - (lg_sl ([.ref (ad p0), .int x1] : List Value)).length) Slot.unset).toArray = ls at hl ⊢
  have hl : lv_has ls 3 [(0, .ref (ad p0)), (1, .int x1)] := by exact hl
  have hS : va_S (mm_A TC ad) s.heap s.heap [] := va_S.rf
  clear hargs
  unfold f_X7_setFoot at hf
  have hH9 : ∀ (H : Heap) (locs : List Loc), H = s.heap → locs = [] → va_P D vwCl (mm_L TC ad cy g) H → va_S (mm_A TC ad) s.heap H locs → W p l e (headSpec wsX7_setFoot (rm_X7_setFoot)).room s m args below meth c H locs 0 0 (MQ below (mm_Qi D TC ad cy r0 g') args s 0 0 (mm_A TC ad)) (F0 m 0 ls []) := by
    intro H locs hH9 hL9 hP hS
    clear hH9 hL9
    refine lv_aload_n hx hb dX7_setFoot_0 rfl (lv_at hl 0 rfl) ?_
    refine mq_geti (Tt := TX7) (N := 3) (C := RX7) hx hb hts hiX7 hown hK hP hp rfl 2 (by decide) rfl hw0 (fun _ h9 => h9) dX7_setFoot_1 ?_
    obtain ⟨x2_1, ex2_1, hf⟩ := mv_some hf
    refine mq_nm ex2_1 ?_
    refine lv_istore_n (lv' := [(2, .int x2_1), (0, .ref (ad p0)), (1, .int x1)]) hx hb dX7_setFoot_4 rfl hl (by decide) rfl (fun ls hl => ?_)
    refine lv_aload_n hx hb dX7_setFoot_5 rfl (lv_at hl 1 rfl) ?_
    refine lv_iload_n hx hb dX7_setFoot_6 rfl (lv_at hl 2 rfl) ?_
    obtain ⟨g_2, eg_2, hf⟩ := mw_some hf
    refine mq_puti (Tt := TX7) (N := 3) (C := RX7) (ty := .int) hx hb hts hiX7 tyX7 tyX7_ok nmX7 hown hK hI hP hS hp rfl 2 (by decide) rfl hw0 (fun _ h9 => h9) rfl (by decide +kernel) rfl rfl dX7_setFoot_7 eg_2 (fun H locs hP hS => ?_)
    refine lv_iload_n hx hb dX7_setFoot_10 rfl (lv_at hl 0 rfl) ?_
    exact mq_iret hx hb hr rfl hlocks hP hS (pr_1 hf) (pr_2 hf) dX7_setFoot_11
  exact hH9 s.heap [] rfl rfl hP hS
abbrev rm_X7_costOf : Room := ({ frames := 0, cells := 0, slots := 0, locals := 0 } : Room)
set_option maxHeartbeats 4000000 in
set_option maxRecDepth 100000 in
theorem c_X7_costOf (l : Launch) (D : va_G) (ad : Nat → Nat) (cy : Nat → ClassId) (p0 : Nat) (o1 : Option Nat) (x2 : Int32) (g : Mm) (hp : TC[p0]? = some sX7) (ho1 : mm_os TC sX5 o1 = true) (r0 : Int32) (hf : f_X7_costOf p0 o1 x2 g = some r0) : Met l yX7_costOf wsX7_costOf rm_X7_costOf (va_Pc [.ref (ad p0), va_rf (Option.map ad o1), .int x2] (mm_pre mm_Z D TC ad cy g)) (mm_Qi D TC ad cy r0 g) 0 0 (mm_A TC ad) := by
  refine Met.ofW (cc := cX7_costOf) (maxL := 3) (ret := (some .int)) (by decide) rfl ?_
  intro p e s m args below meth c s₁ B hml hv
  obtain ⟨hargs, hP, hK, hI, hZ⟩ := hv
  have hx := B.exec
  have hb := B.bytes
  have hr := B.returns
  have hts := atoms_spec (ws := wsX7_costOf) B.pre
  have hown : s.vm.findClass RX7 = some m.cls := findClass_of_methodNamed B.named
  have hlocks := B.notSynchronized
  have hw0 := hts (.fieldLink RX7 22 "LeftShoes$Shoe" "foot" "I") (by decide +kernel)
  have hiX5 : ∀ w ∈ wsX50, w ∈ wsX7_costOf := by decide +kernel
  have hw2 := hts (.fieldLink RX7 15 "LeftShoes$Tax" "foot" "I") (by decide +kernel)
  have hiX7 : ∀ w ∈ wsX70, w ∈ wsX7_costOf := by decide +kernel
  have hw4 := hts (.fieldLink RX7 25 "LeftShoes$Shoe" "isStamped" "Z") (by decide +kernel)
  have hw5 := hts (.fieldLink RX7 19 "LeftShoes$Tax" "fine" "I") (by decide +kernel)
  have hw6 := hts (.fieldLink RX7 9 "LeftShoes$Tax" "rates" "[I") (by decide +kernel)
  have hw7 := hts (.fieldLink RX7 29 "LeftShoes$Shoe" "sort" "I") (by decide +kernel)
  rw [show entryFrame m args 3 = F0 m 0 ((lg_sl ([.ref (ad p0), va_rf (Option.map ad o1), .int x2] : List Value) ++ List.replicate (3 - (lg_sl ([.ref (ad p0), va_rf (Option.map ad o1), .int x2] : List Value)).length) Slot.unset).toArray) [] from by rw [hargs]; exact lg_entry_eq m _ _]
  have hl := lv_entry ([.ref (ad p0), va_rf (Option.map ad o1), .int x2] : List Value) (n := 3) (by cases o1 <;> exact Nat.le_of_ble_eq_true rfl)
  generalize (lg_sl ([.ref (ad p0), va_rf (Option.map ad o1), .int x2] : List Value) ++ List.replicate (3 - (lg_sl ([.ref (ad p0), va_rf (Option.map ad o1), .int x2] : List Value)).length) Slot.unset).toArray = ls at hl ⊢
  have hl : lv_has ls 3 [(0, .ref (ad p0)), (1, va_rf (Option.map ad o1)), (2, .int x2)] := by cases o1 <;> exact hl
  have hS : va_S (mm_A TC ad) s.heap s.heap [] := va_S.rf
  clear hargs
  unfold f_X7_costOf at hf
  have hH9 : ∀ (H : Heap) (locs : List Loc), H = s.heap → locs = [] → va_P D vwCl (mm_L TC ad cy g) H → va_S (mm_A TC ad) s.heap H locs → W p l e (headSpec wsX7_costOf (rm_X7_costOf)).room s m args below meth c H locs 0 0 (MQ below (mm_Qi D TC ad cy r0 g) args s 0 0 (mm_A TC ad)) (F0 m 0 ls []) := by
    intro H locs hH9 hL9 hP hS
    clear hH9 hL9
    refine mq_aload_nq hx hb dX7_costOf_0 rfl (lv_at hl 1 rfl) ?_
    cases o1 with
    | none =>
      replace hf := on_n hf
      refine lv_ifnullN (tgt := 15) hx hb dX7_costOf_1 (by decide) ?_
      refine lv_iconst (v := 0) hx hb dX7_costOf_15 (by decide) ?_
      exact mq_iret hx hb hr rfl hlocks hP hS (Option.some.inj hf) rfl dX7_costOf_16
    | some q_1 =>
      replace hf := on_s hf
      refine lv_ifnull hx hb dX7_costOf_1 ?_
      refine lv_aload_n hx hb dX7_costOf_4 rfl (lv_at hl 1 rfl) ?_
      refine mq_geti (Tt := TX5) (N := 5) (C := RX5) hx hb hts hiX5 hown hK hP (mm_os_q ho1) rfl 0 (by decide) rfl hw0 (fun _ h9 => h9) dX7_costOf_5 ?_
      refine lv_aload_n hx hb dX7_costOf_8 rfl (lv_at hl 0 rfl) ?_
      refine mq_geti (Tt := TX7) (N := 3) (C := RX7) hx hb hts hiX7 hown hK hP hp rfl 2 (by decide) rfl hw2 (fun _ h9 => h9) dX7_costOf_9 ?_
      refine lv_icmp_eq (tgt := 17) hx hb dX7_costOf_12 (by decide) (fun c_2 => ?_) (fun c_2 => ?_)
      · replace hf := ite_t c_2 hf
        refine lv_aload_n hx hb dX7_costOf_17 rfl (lv_at hl 1 rfl) ?_
        refine mq_geti (Tt := TX5) (N := 5) (C := RX5) hx hb hts hiX5 hown hK hP (mm_os_q ho1) rfl 4 (by decide) rfl hw4 (fun _ h9 => h9) dX7_costOf_18 ?_
        refine lv_if_eq (tgt := 39) hx hb dX7_costOf_21 (by decide) (fun c_3 => ?_) (fun c_3 => ?_)
        · replace hf := ite_t c_3 hf
          refine lv_aload_n hx hb dX7_costOf_39 rfl (lv_at hl 0 rfl) ?_
          refine mq_geti (Tt := TX7) (N := 3) (C := RX7) hx hb hts hiX7 hown hK hP hp rfl 1 (by decide) rfl hw5 (fun _ h9 => h9) dX7_costOf_40 ?_
          refine lv_iload_n hx hb dX7_costOf_43 rfl (lv_at hl 2 rfl) ?_
          refine lv_imul hx hb dX7_costOf_44 ?_
          exact mq_iret hx hb hr rfl hlocks hP hS (Option.some.inj hf) rfl dX7_costOf_45
        · replace hf := ite_f c_3 hf
          refine lv_bipush (v := 16) hx hb dX7_costOf_24 (by decide) ?_
          refine lv_aload_n hx hb dX7_costOf_26 rfl (lv_at hl 0 rfl) ?_
          refine mq_getr (Tt := TX7) (N := 3) (C := RX7) hx hb hts hiX7 hown hK hP hp rfl 0 1 (by decide) rfl hw6 (fun _ h9 => h9) dX7_costOf_27 ?_
          refine lv_aload_n hx hb dX7_costOf_30 rfl (lv_at hl 1 rfl) ?_
          refine mq_geti (Tt := TX5) (N := 5) (C := RX5) hx hb hts hiX5 hown hK hP (mm_os_q ho1) rfl 1 (by decide) rfl hw7 (fun _ h9 => h9) dX7_costOf_31 ?_
          obtain ⟨h_4, hf⟩ := og_some hf
          refine mq_iald hx hb hK hP (N := 4) (shTC_X7_1 hp) h_4 dX7_costOf_34 ?_
          refine lv_imul hx hb dX7_costOf_35 ?_
          refine lv_goto (tgt := 45) hx hb dX7_costOf_36 (by decide) ?_
          exact mq_iret hx hb hr rfl hlocks hP hS (Option.some.inj hf) rfl dX7_costOf_45
      · replace hf := ite_f c_2 hf
        refine lv_iconst (v := 0) hx hb dX7_costOf_15 (by decide) ?_
        exact mq_iret hx hb hr rfl hlocks hP hS (Option.some.inj hf) rfl dX7_costOf_16
  exact hH9 s.heap [] rfl rfl hP hS
abbrev rm_X7_become : Room := ({ frames := 1, cells := 0, slots := 0, locals := 60 } : Room)
set_option maxHeartbeats 4000000 in
set_option maxRecDepth 100000 in
theorem c_X7_become (l : Launch) (D : va_G) (ad : Nat → Nat) (cy : Nat → ClassId) (p0 : Nat) (q1 : Nat) (g : Mm) (hp : TC[p0]? = some sX7) (hq1 : TC[q1]? = some sX7) (g' : Mm) (hf : f_X7_become p0 q1 g = some g') : Met l yX7_become wsX7_become rm_X7_become (va_Pc [.ref (ad p0), .ref (ad q1)] (mm_pre mm_Z D TC ad cy g)) (mm_Qv D TC ad cy g') 0 0 (mm_A TC ad) := by
  refine Met.ofW (cc := cX7_become) (maxL := 2) (ret := none) (by decide) rfl ?_
  intro p e s m args below meth c s₁ B hml hv
  obtain ⟨hargs, hP, hK, hI, hZ⟩ := hv
  have hx := B.exec
  have hb := B.bytes
  have hr := B.returns
  have hts := atoms_spec (ws := wsX7_become) B.pre
  have hown : s.vm.findClass RX7 = some m.cls := findClass_of_methodNamed B.named
  have hlocks := B.notSynchronized
  have hw0 := hts (.fieldLink RX7 9 "LeftShoes$Tax" "rates" "[I") (by decide +kernel)
  have hiX7 : ∀ w ∈ wsX70, w ∈ wsX7_become := by decide +kernel
  have hw2 := hts (.methodLink RX7 32 arraycopyName) (by decide +kernel)
  have hw3 := hts (.native arraycopyName) (by decide +kernel)
  have hw4 := hts (.static arraycopyName) (by decide +kernel)
  have hw5 := hts (.initialized "java/lang/System") (by decide +kernel)
  have hw6 := hts (.fieldLink RX7 19 "LeftShoes$Tax" "fine" "I") (by decide +kernel)
  have hw7 := hts (.fieldLink RX7 15 "LeftShoes$Tax" "foot" "I") (by decide +kernel)
  rw [show entryFrame m args 2 = F0 m 0 ((lg_sl ([.ref (ad p0), .ref (ad q1)] : List Value) ++ List.replicate (2 - (lg_sl ([.ref (ad p0), .ref (ad q1)] : List Value)).length) Slot.unset).toArray) [] from by rw [hargs]; exact lg_entry_eq m _ _]
  have hl := lv_entry ([.ref (ad p0), .ref (ad q1)] : List Value) (n := 2) (by exact Nat.le_of_ble_eq_true rfl)
  generalize (lg_sl ([.ref (ad p0), .ref (ad q1)] : List Value) ++ List.replicate (2 - (lg_sl ([.ref (ad p0), .ref (ad q1)] : List Value)).length) Slot.unset).toArray = ls at hl ⊢
  have hl : lv_has ls 2 [(0, .ref (ad p0)), (1, .ref (ad q1))] := by exact hl
  have hS : va_S (mm_A TC ad) s.heap s.heap [] := va_S.rf
  clear hargs
  unfold f_X7_become at hf
  have hH9 : ∀ (H : Heap) (locs : List Loc), H = s.heap → locs = [] → va_P D vwCl (mm_L TC ad cy g) H → va_S (mm_A TC ad) s.heap H locs → W p l e (headSpec wsX7_become (rm_X7_become)).room s m args below meth c H locs 0 0 (MQ below (mm_Qv D TC ad cy g') args s 0 0 (mm_A TC ad)) (F0 m 0 ls []) := by
    intro H locs hH9 hL9 hP hS
    clear hH9 hL9
    refine lv_aload_n hx hb dX7_become_0 rfl (lv_at hl 1 rfl) ?_
    refine mq_getr (Tt := TX7) (N := 3) (C := RX7) hx hb hts hiX7 hown hK hP hq1 rfl 0 1 (by decide) rfl hw0 (fun _ h9 => h9) dX7_become_1 ?_
    refine lv_iconst (v := 0) hx hb dX7_become_4 (by decide) ?_
    refine lv_aload_n hx hb dX7_become_5 rfl (lv_at hl 0 rfl) ?_
    refine mq_getr (Tt := TX7) (N := 3) (C := RX7) hx hb hts hiX7 hown hK hP hp rfl 0 1 (by decide) rfl hw0 (fun _ h9 => h9) dX7_become_6 ?_
    refine lv_iconst (v := 0) hx hb dX7_become_9 (by decide) ?_
    refine lv_iconst (v := 4) hx hb dX7_become_10 (by decide) ?_
    obtain ⟨g_1, eg_1, hf⟩ := mr_some hf
    refine mq_copy hx hb (hml.trans hl.1.symm) hown hw2 hw3 hw4 hw5 hK hI hP hS (n0 := 4) (n1 := 4) (shTC_X7_1 hq1) (shTC_X7_1 hp) (by decide +kernel : mm_cp 0 0 4 4 4 = true) (Nat.le_of_ble_eq_true rfl) (Nat.le_of_ble_eq_true rfl) dX7_become_11 eg_1 (fun H locs hP hS => ?_)
    refine lv_aload_n hx hb dX7_become_14 rfl (lv_at hl 0 rfl) ?_
    refine lv_aload_n hx hb dX7_become_15 rfl (lv_at hl 1 rfl) ?_
    refine mq_geti (Tt := TX7) (N := 3) (C := RX7) hx hb hts hiX7 hown hK hP hq1 rfl 1 (by decide) rfl hw6 (fun _ h9 => h9) dX7_become_16 ?_
    obtain ⟨g_2, eg_2, hf⟩ := mw_some hf
    refine mq_puti (Tt := TX7) (N := 3) (C := RX7) (ty := .int) hx hb hts hiX7 tyX7 tyX7_ok nmX7 hown hK hI hP hS hp rfl 1 (by decide) rfl hw6 (fun _ h9 => h9) rfl (by decide +kernel) rfl rfl dX7_become_19 eg_2 (fun H locs hP hS => ?_)
    refine lv_aload_n hx hb dX7_become_22 rfl (lv_at hl 0 rfl) ?_
    refine lv_aload_n hx hb dX7_become_23 rfl (lv_at hl 1 rfl) ?_
    refine mq_geti (Tt := TX7) (N := 3) (C := RX7) hx hb hts hiX7 hown hK hP hq1 rfl 2 (by decide) rfl hw7 (fun _ h9 => h9) dX7_become_24 ?_
    obtain ⟨g_3, eg_3, hf⟩ := mw_some hf
    refine mq_puti (Tt := TX7) (N := 3) (C := RX7) (ty := .int) hx hb hts hiX7 tyX7 tyX7_ok nmX7 hown hK hI hP hS hp rfl 2 (by decide) rfl hw7 (fun _ h9 => h9) rfl (by decide +kernel) rfl rfl dX7_become_27 eg_3 (fun H locs hP hS => ?_)
    exact mq_vret hx hb hr hlocks hP hS (Option.some.inj hf) dX7_become_30
  exact hH9 s.heap [] rfl rfl hP hS
