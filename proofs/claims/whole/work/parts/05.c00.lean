abbrev rm_X11_isWithin : Room := ({ frames := 0, cells := 0, slots := 0, locals := 0 } : Room)
set_option maxHeartbeats 4000000 in
set_option maxRecDepth 100000 in
theorem c_X11_isWithin (l : Launch) (D : va_G) (ad : Nat → Nat) (cy : Nat → ClassId) (x0 : Int32) (x1 : Int32) (x2 : Int32) (g : Mm)  (r0 : Int32) (hf : f_X11_isWithin x0 x1 x2 = some r0) : Met l yX11_isWithin wsX11_isWithin rm_X11_isWithin (va_Pc [.int x0, .int x1, .int x2] (mm_pre mm_Z D TC ad cy g)) (mm_Qi D TC ad cy r0 g) 0 0 (mm_A TC ad) := by
  refine Met.ofW (cc := cX11_isWithin) (maxL := 3) (ret := (some .boolean)) (by decide) rfl ?_
  intro p e s m args below meth c s₁ B hml hv
  obtain ⟨hargs, hP, hK, hI, hZ⟩ := hv
  have hx := B.exec
  have hb := B.bytes
  have hr := B.returns
  have hts := atoms_spec (ws := wsX11_isWithin) B.pre
  have hown : s.vm.findClass RX11 = some m.cls := findClass_of_methodNamed B.named
  have hlocks := B.notSynchronized
  rw [show entryFrame m args 3 = F0 m 0 ((lg_sl ([.int x0, .int x1, .int x2] : List Value) ++ List.replicate (3 - (lg_sl ([.int x0, .int x1, .int x2] : List Value)).length) Slot.unset).toArray) [] from by rw [hargs]; exact lg_entry_eq m _ _]
  have hl := lv_entry ([.int x0, .int x1, .int x2] : List Value) (n := 3) (by exact Nat.le_of_ble_eq_true rfl)
  generalize (lg_sl ([.int x0, .int x1, .int x2] : List Value) ++ List.replicate (3 - (lg_sl ([.int x0, .int x1, .int x2] : List Value)).length) Slot.unset).toArray = ls at hl ⊢
  have hl : lv_has ls 3 [(0, .int x0), (1, .int x1), (2, .int x2)] := by exact hl
  have hS : va_S (mm_A TC ad) s.heap s.heap [] := va_S.rf
  clear hargs
  unfold f_X11_isWithin at hf
  have hH9 : ∀ (H : Heap) (locs : List Loc), H = s.heap → locs = [] → va_P D vwCl (mm_L TC ad cy g) H → va_S (mm_A TC ad) s.heap H locs → W p l e (headSpec wsX11_isWithin (rm_X11_isWithin)).room s m args below meth c H locs 0 0 (MQ below (mm_Qi D TC ad cy r0 g) args s 0 0 (mm_A TC ad)) (F0 m 0 ls []) := by
    intro H locs hH9 hL9 hP hS
    clear hH9 hL9
    refine lv_iload_n hx hb dX11_isWithin_0 rfl (lv_at hl 0 rfl) ?_
    refine lv_iload_n hx hb dX11_isWithin_1 rfl (lv_at hl 1 rfl) ?_
    refine lv_icmp_lt (tgt := 14) hx hb dX11_isWithin_2 (by decide) (fun c_1 => ?_) (fun c_1 => ?_)
    · replace hf := ite_t c_1 hf
      refine lv_iconst (v := 0) hx hb dX11_isWithin_14 (by decide) ?_
      exact mq_iret hx hb hr (by decide +kernel) hlocks hP hS (Option.some.inj hf) rfl dX11_isWithin_15
    · replace hf := ite_f c_1 hf
      refine lv_iload_n hx hb dX11_isWithin_5 rfl (lv_at hl 0 rfl) ?_
      refine lv_iload_n hx hb dX11_isWithin_6 rfl (lv_at hl 2 rfl) ?_
      refine lv_icmp_gt (tgt := 14) hx hb dX11_isWithin_7 (by decide) (fun c_2 => ?_) (fun c_2 => ?_)
      · replace hf := ite_t c_2 hf
        refine lv_iconst (v := 0) hx hb dX11_isWithin_14 (by decide) ?_
        exact mq_iret hx hb hr (by decide +kernel) hlocks hP hS (Option.some.inj hf) rfl dX11_isWithin_15
      · replace hf := ite_f c_2 hf
        refine lv_iconst (v := 1) hx hb dX11_isWithin_10 (by decide) ?_
        refine lv_goto (tgt := 15) hx hb dX11_isWithin_11 (by decide) ?_
        exact mq_iret hx hb hr (by decide +kernel) hlocks hP hS (Option.some.inj hf) rfl dX11_isWithin_15
  exact hH9 s.heap [] rfl rfl hP hS
abbrev rm_X5_become : Room := ({ frames := 0, cells := 0, slots := 0, locals := 0 } : Room)
set_option maxHeartbeats 4000000 in
set_option maxRecDepth 100000 in
theorem c_X5_become (l : Launch) (D : va_G) (ad : Nat → Nat) (cy : Nat → ClassId) (p0 : Nat) (q1 : Nat) (g : Mm) (hp : TC[p0]? = some sX5) (hq1 : TC[q1]? = some sX5) (g' : Mm) (hf : f_X5_become p0 q1 g = some g') : Met l yX5_become wsX5_become rm_X5_become (va_Pc [.ref (ad p0), .ref (ad q1)] (mm_pre mm_Z D TC ad cy g)) (mm_Qv D TC ad cy g') 0 0 (mm_A TC ad) := by
  refine Met.ofW (cc := cX5_become) (maxL := 2) (ret := none) (by decide) rfl ?_
  intro p e s m args below meth c s₁ B hml hv
  obtain ⟨hargs, hP, hK, hI, hZ⟩ := hv
  have hx := B.exec
  have hb := B.bytes
  have hr := B.returns
  have hts := atoms_spec (ws := wsX5_become) B.pre
  have hown : s.vm.findClass RX5 = some m.cls := findClass_of_methodNamed B.named
  have hlocks := B.notSynchronized
  have hw0 := hts (.fieldLink RX5 9 "LeftShoes$Shoe" "foot" "I") (by decide +kernel)
  have hiX5 : ∀ w ∈ wsX50, w ∈ wsX5_become := by decide +kernel
  have hw2 := hts (.fieldLink RX5 15 "LeftShoes$Shoe" "sort" "I") (by decide +kernel)
  have hw3 := hts (.fieldLink RX5 18 "LeftShoes$Shoe" "soles" "I") (by decide +kernel)
  have hw4 := hts (.fieldLink RX5 21 "LeftShoes$Shoe" "owner" "I") (by decide +kernel)
  have hw5 := hts (.fieldLink RX5 24 "LeftShoes$Shoe" "isStamped" "Z") (by decide +kernel)
  rw [show entryFrame m args 2 = F0 m 0 ((lg_sl ([.ref (ad p0), .ref (ad q1)] : List Value) ++ List.replicate (2 - (lg_sl ([.ref (ad p0), .ref (ad q1)] : List Value)).length) Slot.unset).toArray) [] from by rw [hargs]; exact lg_entry_eq m _ _]
  have hl := lv_entry ([.ref (ad p0), .ref (ad q1)] : List Value) (n := 2) (by exact Nat.le_of_ble_eq_true rfl)
  generalize (lg_sl ([.ref (ad p0), .ref (ad q1)] : List Value) ++ List.replicate (2 - (lg_sl ([.ref (ad p0), .ref (ad q1)] : List Value)).length) Slot.unset).toArray = ls at hl ⊢
  have hl : lv_has ls 2 [(0, .ref (ad p0)), (1, .ref (ad q1))] := by exact hl
  have hS : va_S (mm_A TC ad) s.heap s.heap [] := va_S.rf
  clear hargs
  unfold f_X5_become at hf
  have hH9 : ∀ (H : Heap) (locs : List Loc), H = s.heap → locs = [] → va_P D vwCl (mm_L TC ad cy g) H → va_S (mm_A TC ad) s.heap H locs → W p l e (headSpec wsX5_become (rm_X5_become)).room s m args below meth c H locs 0 0 (MQ below (mm_Qv D TC ad cy g') args s 0 0 (mm_A TC ad)) (F0 m 0 ls []) := by
    intro H locs hH9 hL9 hP hS
    clear hH9 hL9
    refine lv_aload_n hx hb dX5_become_0 rfl (lv_at hl 0 rfl) ?_
    refine lv_aload_n hx hb dX5_become_1 rfl (lv_at hl 1 rfl) ?_
    refine mq_geti (Tt := TX5) (N := 5) (C := RX5) hx hb hts hiX5 hown hK hP hq1 rfl 0 (by decide) rfl hw0 (fun _ h9 => h9) dX5_become_2 ?_
    obtain ⟨g_1, eg_1, hf⟩ := mw_some hf
    refine mq_puti (Tt := TX5) (N := 5) (C := RX5) (ty := .int) hx hb hts hiX5 tyX5 tyX5_ok nmX5 hown hK hI hP hS hp rfl 0 (by decide) rfl hw0 (fun _ h9 => h9) rfl (by decide +kernel) rfl rfl dX5_become_5 eg_1 (fun H locs hP hS => ?_)
    refine lv_aload_n hx hb dX5_become_8 rfl (lv_at hl 0 rfl) ?_
    refine lv_aload_n hx hb dX5_become_9 rfl (lv_at hl 1 rfl) ?_
    refine mq_geti (Tt := TX5) (N := 5) (C := RX5) hx hb hts hiX5 hown hK hP hq1 rfl 1 (by decide) rfl hw2 (fun _ h9 => h9) dX5_become_10 ?_
    obtain ⟨g_2, eg_2, hf⟩ := mw_some hf
    refine mq_puti (Tt := TX5) (N := 5) (C := RX5) (ty := .int) hx hb hts hiX5 tyX5 tyX5_ok nmX5 hown hK hI hP hS hp rfl 1 (by decide) rfl hw2 (fun _ h9 => h9) rfl (by decide +kernel) rfl rfl dX5_become_13 eg_2 (fun H locs hP hS => ?_)
    refine lv_aload_n hx hb dX5_become_16 rfl (lv_at hl 0 rfl) ?_
    refine lv_aload_n hx hb dX5_become_17 rfl (lv_at hl 1 rfl) ?_
    refine mq_geti (Tt := TX5) (N := 5) (C := RX5) hx hb hts hiX5 hown hK hP hq1 rfl 2 (by decide) rfl hw3 (fun _ h9 => h9) dX5_become_18 ?_
    obtain ⟨g_3, eg_3, hf⟩ := mw_some hf
    refine mq_puti (Tt := TX5) (N := 5) (C := RX5) (ty := .int) hx hb hts hiX5 tyX5 tyX5_ok nmX5 hown hK hI hP hS hp rfl 2 (by decide) rfl hw3 (fun _ h9 => h9) rfl (by decide +kernel) rfl rfl dX5_become_21 eg_3 (fun H locs hP hS => ?_)
    refine lv_aload_n hx hb dX5_become_24 rfl (lv_at hl 0 rfl) ?_
    refine lv_aload_n hx hb dX5_become_25 rfl (lv_at hl 1 rfl) ?_
    refine mq_geti (Tt := TX5) (N := 5) (C := RX5) hx hb hts hiX5 hown hK hP hq1 rfl 3 (by decide) rfl hw4 (fun _ h9 => h9) dX5_become_26 ?_
    obtain ⟨g_4, eg_4, hf⟩ := mw_some hf
    refine mq_puti (Tt := TX5) (N := 5) (C := RX5) (ty := .int) hx hb hts hiX5 tyX5 tyX5_ok nmX5 hown hK hI hP hS hp rfl 3 (by decide) rfl hw4 (fun _ h9 => h9) rfl (by decide +kernel) rfl rfl dX5_become_29 eg_4 (fun H locs hP hS => ?_)
    refine lv_aload_n hx hb dX5_become_32 rfl (lv_at hl 0 rfl) ?_
    refine lv_aload_n hx hb dX5_become_33 rfl (lv_at hl 1 rfl) ?_
    refine mq_geti (Tt := TX5) (N := 5) (C := RX5) hx hb hts hiX5 hown hK hP hq1 rfl 4 (by decide) rfl hw5 (fun _ h9 => h9) dX5_become_34 ?_
    obtain ⟨h_5, hf⟩ := og_some hf
    obtain ⟨g_6, eg_6, hf⟩ := mw_some hf
    refine mq_puti (Tt := TX5) (N := 5) (C := RX5) (ty := .boolean) hx hb hts hiX5 tyX5 tyX5_ok nmX5 hown hK hI hP hS hp rfl 4 (by decide) rfl hw5 (fun _ h9 => h9) rfl (by decide +kernel) (mm_01_nar h_5) (mm_01_fit h_5) dX5_become_37 eg_6 (fun H locs hP hS => ?_)
    exact mq_vret hx hb hr hlocks hP hS (Option.some.inj hf) dX5_become_40
  exact hH9 s.heap [] rfl rfl hP hS
abbrev rm_X5_wear : Room := ({ frames := 0, cells := 0, slots := 0, locals := 0 } : Room)
set_option maxHeartbeats 4000000 in
set_option maxRecDepth 100000 in
theorem c_X5_wear (l : Launch) (D : va_G) (ad : Nat → Nat) (cy : Nat → ClassId) (p0 : Nat) (g : Mm) (hp : TC[p0]? = some sX5) (r0 : Int32) (hf : f_X5_wear p0 g = some r0) : Met l yX5_wear wsX5_wear rm_X5_wear (va_Pc [.ref (ad p0)] (mm_pre mm_Z D TC ad cy g)) (mm_Qi D TC ad cy r0 g) 0 0 (mm_A TC ad) := by
  refine Met.ofW (cc := cX5_wear) (maxL := 1) (ret := (some .int)) (by decide) rfl ?_
  intro p e s m args below meth c s₁ B hml hv
  obtain ⟨hargs, hP, hK, hI, hZ⟩ := hv
  have hx := B.exec
  have hb := B.bytes
  have hr := B.returns
  have hts := atoms_spec (ws := wsX5_wear) B.pre
  have hown : s.vm.findClass RX5 = some m.cls := findClass_of_methodNamed B.named
  have hlocks := B.notSynchronized
  have hw0 := hts (.fieldLink RX5 15 "LeftShoes$Shoe" "sort" "I") (by decide +kernel)
  have hiX5 : ∀ w ∈ wsX50, w ∈ wsX5_wear := by decide +kernel
  rw [show entryFrame m args 1 = F0 m 0 ((lg_sl ([.ref (ad p0)] : List Value) ++ List.replicate (1 - (lg_sl ([.ref (ad p0)] : List Value)).length) Slot.unset).toArray) [] from by rw [hargs]; exact lg_entry_eq m _ _]
  have hl := lv_entry ([.ref (ad p0)] : List Value) (n := 1) (by exact Nat.le_of_ble_eq_true rfl)
  generalize (lg_sl ([.ref (ad p0)] : List Value) ++ List.replicate (1 - (lg_sl ([.ref (ad p0)] : List Value)).length) Slot.unset).toArray = ls at hl ⊢
  have hl : lv_has ls 1 [(0, .ref (ad p0))] := by exact hl
  have hS : va_S (mm_A TC ad) s.heap s.heap [] := va_S.rf
  clear hargs
  unfold f_X5_wear at hf
  have hH9 : ∀ (H : Heap) (locs : List Loc), H = s.heap → locs = [] → va_P D vwCl (mm_L TC ad cy g) H → va_S (mm_A TC ad) s.heap H locs → W p l e (headSpec wsX5_wear (rm_X5_wear)).room s m args below meth c H locs 0 0 (MQ below (mm_Qi D TC ad cy r0 g) args s 0 0 (mm_A TC ad)) (F0 m 0 ls []) := by
    intro H locs hH9 hL9 hP hS
    clear hH9 hL9
    refine lv_aload_n hx hb dX5_wear_0 rfl (lv_at hl 0 rfl) ?_
    refine mq_geti (Tt := TX5) (N := 5) (C := RX5) hx hb hts hiX5 hown hK hP hp rfl 1 (by decide) rfl hw0 (fun _ h9 => h9) dX5_wear_1 ?_
    refine lv_iconst (v := 3) hx hb dX5_wear_4 (by decide) ?_
    refine lv_icmp_ne (tgt := 12) hx hb dX5_wear_5 (by decide) (fun c_1 => ?_) (fun c_1 => ?_)
    · replace hf := ite_f c_1 hf
      refine lv_iconst (v := 1) hx hb dX5_wear_12 (by decide) ?_
      exact mq_iret hx hb hr rfl hlocks hP hS (Option.some.inj hf) rfl dX5_wear_13
    · replace hf := ite_t c_1 hf
      refine lv_iconst (v := 2) hx hb dX5_wear_8 (by decide) ?_
      refine lv_goto (tgt := 13) hx hb dX5_wear_9 (by decide) ?_
      exact mq_iret hx hb hr rfl hlocks hP hS (Option.some.inj hf) rfl dX5_wear_13
  exact hH9 s.heap [] rfl rfl hP hS
abbrev rm_X5_delay : Room := ({ frames := 0, cells := 0, slots := 0, locals := 0 } : Room)
set_option maxHeartbeats 4000000 in
set_option maxRecDepth 100000 in
theorem c_X5_delay (l : Launch) (D : va_G) (ad : Nat → Nat) (cy : Nat → ClassId) (p0 : Nat) (x1 : Int32) (g : Mm) (hp : TC[p0]? = some sX5) (r0 : Int32) (hf : f_X5_delay p0 x1 g = some r0) : Met l yX5_delay wsX5_delay rm_X5_delay (va_Pc [.ref (ad p0), .int x1] (mm_pre mm_Z D TC ad cy g)) (mm_Qi D TC ad cy r0 g) 0 0 (mm_A TC ad) := by
  refine Met.ofW (cc := cX5_delay) (maxL := 2) (ret := (some .int)) (by decide) rfl ?_
  intro p e s m args below meth c s₁ B hml hv
  obtain ⟨hargs, hP, hK, hI, hZ⟩ := hv
  have hx := B.exec
  have hb := B.bytes
  have hr := B.returns
  have hts := atoms_spec (ws := wsX5_delay) B.pre
  have hown : s.vm.findClass RX5 = some m.cls := findClass_of_methodNamed B.named
  have hlocks := B.notSynchronized
  have hw0 := hts (.fieldLink RX5 15 "LeftShoes$Shoe" "sort" "I") (by decide +kernel)
  have hiX5 : ∀ w ∈ wsX50, w ∈ wsX5_delay := by decide +kernel
  rw [show entryFrame m args 2 = F0 m 0 ((lg_sl ([.ref (ad p0), .int x1] : List Value) ++ List.replicate (2 - (lg_sl ([.ref (ad p0), .int x1] : List Value)).length) Slot.unset).toArray) [] from by rw [hargs]; exact lg_entry_eq m _ _]
  have hl := lv_entry ([.ref (ad p0), .int x1] : List Value) (n := 2) (by exact Nat.le_of_ble_eq_true rfl)
  generalize (lg_sl ([.ref (ad p0), .int x1] : List Value) ++ List.replicate (2 - (lg_sl ([.ref (ad p0), .int x1] : List Value)).length) Slot.unset).toArray = ls at hl ⊢
  have hl : lv_has ls 2 [(0, .ref (ad p0)), (1, .int x1)] := by exact hl
  have hS : va_S (mm_A TC ad) s.heap s.heap [] := va_S.rf
  clear hargs
  unfold f_X5_delay at hf
  have hH9 : ∀ (H : Heap) (locs : List Loc), H = s.heap → locs = [] → va_P D vwCl (mm_L TC ad cy g) H → va_S (mm_A TC ad) s.heap H locs → W p l e (headSpec wsX5_delay (rm_X5_delay)).room s m args below meth c H locs 0 0 (MQ below (mm_Qi D TC ad cy r0 g) args s 0 0 (mm_A TC ad)) (F0 m 0 ls []) := by
    intro H locs hH9 hL9 hP hS
    clear hH9 hL9
    refine lv_aload_n hx hb dX5_delay_0 rfl (lv_at hl 0 rfl) ?_
    refine mq_geti (Tt := TX5) (N := 5) (C := RX5) hx hb hts hiX5 hown hK hP hp rfl 1 (by decide) rfl hw0 (fun _ h9 => h9) dX5_delay_1 ?_
    refine lv_iconst (v := 1) hx hb dX5_delay_4 (by decide) ?_
    refine lv_icmp_ne (tgt := 10) hx hb dX5_delay_5 (by decide) (fun c_1 => ?_) (fun c_1 => ?_)
    · replace hf := ite_f c_1 hf
      refine lv_aload_n hx hb dX5_delay_10 rfl (lv_at hl 0 rfl) ?_
      refine mq_geti (Tt := TX5) (N := 5) (C := RX5) hx hb hts hiX5 hown hK hP hp rfl 1 (by decide) rfl hw0 (fun _ h9 => h9) dX5_delay_11 ?_
      refine lv_iconst (v := 2) hx hb dX5_delay_14 (by decide) ?_
      refine lv_icmp_ne (tgt := 30) hx hb dX5_delay_15 (by decide) (fun c_2 => ?_) (fun c_2 => ?_)
      · replace hf := ite_f c_2 hf
        refine lv_iconst (v := 0) hx hb dX5_delay_30 (by decide) ?_
        exact mq_iret hx hb hr rfl hlocks hP hS (Option.some.inj hf) rfl dX5_delay_31
      · replace hf := ite_t c_2 hf
        refine lv_iload_n hx hb dX5_delay_18 rfl (lv_at hl 1 rfl) ?_
        refine lv_iconst (v := 5) hx hb dX5_delay_19 (by decide) ?_
        refine lv_icmp_lt (tgt := 28) hx hb dX5_delay_20 (by decide) (fun c_3 => ?_) (fun c_3 => ?_)
        · replace hf := ite_t c_3 hf
          refine lv_iconst (v := 1) hx hb dX5_delay_28 (by decide) ?_
          exact mq_iret hx hb hr rfl hlocks hP hS (Option.some.inj hf) rfl dX5_delay_29
        · replace hf := ite_f c_3 hf
          refine lv_bipush (v := (-2)) hx hb dX5_delay_23 (by decide) ?_
          refine lv_goto (tgt := 29) hx hb dX5_delay_25 (by decide) ?_
          exact mq_iret hx hb hr rfl hlocks hP hS (Option.some.inj hf) rfl dX5_delay_29
    · replace hf := ite_t c_1 hf
      refine lv_iconst (v := (-1)) hx hb dX5_delay_8 (by decide) ?_
      exact mq_iret hx hb hr rfl hlocks hP hS (Option.some.inj hf) rfl dX5_delay_9
  exact hH9 s.heap [] rfl rfl hP hS
abbrev rm_X5_mark : Room := ({ frames := 0, cells := 0, slots := 0, locals := 0 } : Room)
set_option maxHeartbeats 4000000 in
set_option maxRecDepth 100000 in
theorem c_X5_mark (l : Launch) (D : va_G) (ad : Nat → Nat) (cy : Nat → ClassId) (p0 : Nat) (g : Mm) (hp : TC[p0]? = some sX5) (r0 : Int32) (hf : f_X5_mark p0 g = some r0) : Met l yX5_mark wsX5_mark rm_X5_mark (va_Pc [.ref (ad p0)] (mm_pre mm_Z D TC ad cy g)) (mm_Qi D TC ad cy r0 g) 0 0 (mm_A TC ad) := by
  refine Met.ofW (cc := cX5_mark) (maxL := 1) (ret := (some .int)) (by decide) rfl ?_
  intro p e s m args below meth c s₁ B hml hv
  obtain ⟨hargs, hP, hK, hI, hZ⟩ := hv
  have hx := B.exec
  have hb := B.bytes
  have hr := B.returns
  have hts := atoms_spec (ws := wsX5_mark) B.pre
  have hown : s.vm.findClass RX5 = some m.cls := findClass_of_methodNamed B.named
  have hlocks := B.notSynchronized
  have hw0 := hts (.fieldLink RX5 15 "LeftShoes$Shoe" "sort" "I") (by decide +kernel)
  have hiX5 : ∀ w ∈ wsX50, w ∈ wsX5_mark := by decide +kernel
  have hw2 := hts (.fieldLink RX5 9 "LeftShoes$Shoe" "foot" "I") (by decide +kernel)
  rw [show entryFrame m args 1 = F0 m 0 ((lg_sl ([.ref (ad p0)] : List Value) ++ List.replicate (1 - (lg_sl ([.ref (ad p0)] : List Value)).length) Slot.unset).toArray) [] from by rw [hargs]; exact lg_entry_eq m _ _]
  have hl := lv_entry ([.ref (ad p0)] : List Value) (n := 1) (by exact Nat.le_of_ble_eq_true rfl)
  generalize (lg_sl ([.ref (ad p0)] : List Value) ++ List.replicate (1 - (lg_sl ([.ref (ad p0)] : List Value)).length) Slot.unset).toArray = ls at hl ⊢
  have hl : lv_has ls 1 [(0, .ref (ad p0))] := by exact hl
  have hS : va_S (mm_A TC ad) s.heap s.heap [] := va_S.rf
  clear hargs
  unfold f_X5_mark at hf
  have hH9 : ∀ (H : Heap) (locs : List Loc), H = s.heap → locs = [] → va_P D vwCl (mm_L TC ad cy g) H → va_S (mm_A TC ad) s.heap H locs → W p l e (headSpec wsX5_mark (rm_X5_mark)).room s m args below meth c H locs 0 0 (MQ below (mm_Qi D TC ad cy r0 g) args s 0 0 (mm_A TC ad)) (F0 m 0 ls []) := by
    intro H locs hH9 hL9 hP hS
    clear hH9 hL9
    refine lv_iconst (v := 2) hx hb dX5_mark_0 (by decide) ?_
    refine lv_iconst (v := 1) hx hb dX5_mark_1 (by decide) ?_
    refine lv_aload_n hx hb dX5_mark_2 rfl (lv_at hl 0 rfl) ?_
    refine mq_geti (Tt := TX5) (N := 5) (C := RX5) hx hb hts hiX5 hown hK hP hp rfl 1 (by decide) rfl hw0 (fun _ h9 => h9) dX5_mark_3 ?_
    refine lv_iadd hx hb dX5_mark_6 ?_
    refine lv_imul hx hb dX5_mark_7 ?_
    refine lv_aload_n hx hb dX5_mark_8 rfl (lv_at hl 0 rfl) ?_
    refine mq_geti (Tt := TX5) (N := 5) (C := RX5) hx hb hts hiX5 hown hK hP hp rfl 0 (by decide) rfl hw2 (fun _ h9 => h9) dX5_mark_9 ?_
    refine lv_iadd hx hb dX5_mark_12 ?_
    exact mq_iret hx hb hr rfl hlocks hP hS (Option.some.inj hf) rfl dX5_mark_13
  exact hH9 s.heap [] rfl rfl hP hS
abbrev rm_X7_setRate : Room := ({ frames := 0, cells := 0, slots := 0, locals := 0 } : Room)
set_option maxHeartbeats 4000000 in
set_option maxRecDepth 100000 in
theorem c_X7_setRate (l : Launch) (D : va_G) (ad : Nat → Nat) (cy : Nat → ClassId) (p0 : Nat) (x1 : Int32) (x2 : Int32) (g : Mm) (hp : TC[p0]? = some sX7) (r0 : Int32) (g' : Mm) (hf : f_X7_setRate p0 x1 x2 g = some (r0, g')) : Met l yX7_setRate wsX7_setRate rm_X7_setRate (va_Pc [.ref (ad p0), .int x1, .int x2] (mm_pre mm_Z D TC ad cy g)) (mm_Qi D TC ad cy r0 g') 0 0 (mm_A TC ad) := by
  refine Met.ofW (cc := cX7_setRate) (maxL := 4) (ret := (some .int)) (by decide) rfl ?_
  intro p e s m args below meth c s₁ B hml hv
  obtain ⟨hargs, hP, hK, hI, hZ⟩ := hv
  have hx := B.exec
  have hb := B.bytes
  have hr := B.returns
  have hts := atoms_spec (ws := wsX7_setRate) B.pre
  have hown : s.vm.findClass RX7 = some m.cls := findClass_of_methodNamed B.named
  have hlocks := B.notSynchronized
  have hw0 := hts (.fieldLink RX7 9 "LeftShoes$Tax" "rates" "[I") (by decide +kernel)
  have hiX7 : ∀ w ∈ wsX70, w ∈ wsX7_setRate := by decide +kernel
  rw [show entryFrame m args 4 = F0 m 0 ((lg_sl ([.ref (ad p0), .int x1, .int x2] : List Value) ++ List.replicate (4 - (lg_sl ([.ref (ad p0), .int x1, .int x2] : List Value)).length) Slot.unset).toArray) [] from by rw [hargs]; exact lg_entry_eq m _ _]
  have hl := lv_entry ([.ref (ad p0), .int x1, .int x2] : List Value) (n := 4) (by exact Nat.le_of_ble_eq_true rfl)
  generalize (lg_sl ([.ref (ad p0), .int x1, .int x2] : List Value) ++ List.replicate (4 - (lg_sl ([.ref (ad p0), .int x1, .int x2] : List Value)).length) Slot.unset).toArray = ls at hl ⊢
  have hl : lv_has ls 4 [(0, .ref (ad p0)), (1, .int x1), (2, .int x2)] := by exact hl
  have hS : va_S (mm_A TC ad) s.heap s.heap [] := va_S.rf
  clear hargs
  unfold f_X7_setRate at hf
  have hH9 : ∀ (H : Heap) (locs : List Loc), H = s.heap → locs = [] → va_P D vwCl (mm_L TC ad cy g) H → va_S (mm_A TC ad) s.heap H locs → W p l e (headSpec wsX7_setRate (rm_X7_setRate)).room s m args below meth c H locs 0 0 (MQ below (mm_Qi D TC ad cy r0 g') args s 0 0 (mm_A TC ad)) (F0 m 0 ls []) := by
    intro H locs hH9 hL9 hP hS
    clear hH9 hL9
    refine lv_aload_n hx hb dX7_setRate_0 rfl (lv_at hl 0 rfl) ?_
    refine mq_getr (Tt := TX7) (N := 3) (C := RX7) hx hb hts hiX7 hown hK hP hp rfl 0 1 (by decide) rfl hw0 (fun _ h9 => h9) dX7_setRate_1 ?_
    refine lv_iload_n hx hb dX7_setRate_4 rfl (lv_at hl 1 rfl) ?_
    obtain ⟨h_1, hf⟩ := og_some hf
    refine mq_iald hx hb hK hP (N := 4) (shTC_X7_1 hp) h_1 dX7_setRate_5 ?_
    obtain ⟨x3_2, ex3_2, hf⟩ := mv_some hf
    refine mq_nm ex3_2 ?_
    refine lv_istore_n (lv' := [(3, .int x3_2), (0, .ref (ad p0)), (1, .int x1), (2, .int x2)]) hx hb dX7_setRate_6 rfl hl (by decide) rfl (fun ls hl => ?_)
    refine lv_aload_n hx hb dX7_setRate_7 rfl (lv_at hl 1 rfl) ?_
    refine mq_getr (Tt := TX7) (N := 3) (C := RX7) hx hb hts hiX7 hown hK hP hp rfl 0 1 (by decide) rfl hw0 (fun _ h9 => h9) dX7_setRate_8 ?_
    refine lv_iload_n hx hb dX7_setRate_11 rfl (lv_at hl 2 rfl) ?_
    refine lv_iload_n hx hb dX7_setRate_12 rfl (lv_at hl 3 rfl) ?_
    obtain ⟨h_3, hf⟩ := og_some hf
    obtain ⟨g_4, eg_4, hf⟩ := mw_some hf
    refine mq_iast hx hb hK hI hP hS (N := 4) (shTC_X7_1 hp) h_3 dX7_setRate_13 eg_4 (fun H locs hP hS => ?_)
    refine lv_iload_n hx hb dX7_setRate_14 rfl (lv_at hl 0 rfl) ?_
    exact mq_iret hx hb hr rfl hlocks hP hS (pr_1 hf) (pr_2 hf) dX7_setRate_15
  exact hH9 s.heap [] rfl rfl hP hS
abbrev rm_X7_setFine : Room := ({ frames := 0, cells := 0, slots := 0, locals := 0 } : Room)
set_option maxHeartbeats 4000000 in
set_option maxRecDepth 100000 in
theorem c_X7_setFine (l : Launch) (D : va_G) (ad : Nat → Nat) (cy : Nat → ClassId) (p0 : Nat) (x1 : Int32) (g : Mm) (hp : TC[p0]? = some sX7) (r0 : Int32) (g' : Mm) (hf : f_X7_setFine p0 x1 g = some (r0, g')) : Met l yX7_setFine wsX7_setFine rm_X7_setFine (va_Pc [.ref (ad p0), .int x1] (mm_pre mm_Z D TC ad cy g)) (mm_Qi D TC ad cy r0 g') 0 0 (mm_A TC ad) := by
  refine Met.ofW (cc := cX7_setFine) (maxL := 3) (ret := (some .int)) (by decide) rfl ?_
  intro p e s m args below meth c s₁ B hml hv
  obtain ⟨hargs, hP, hK, hI, hZ⟩ := hv
  have hx := B.exec
  have hb := B.bytes
  have hr := B.returns
  have hts := atoms_spec (ws := wsX7_setFine) B.pre
  have hown : s.vm.findClass RX7 = some m.cls := findClass_of_methodNamed B.named
  have hlocks := B.notSynchronized
  have hw0 := hts (.fieldLink RX7 19 "LeftShoes$Tax" "fine" "I") (by decide +kernel)
  have hiX7 : ∀ w ∈ wsX70, w ∈ wsX7_setFine := by decide +kernel
  rw [show entryFrame m args 3 = F0 m 0 ((lg_sl ([.ref (ad p0), .int x1] : List Value) ++ List.replicate (3 - (lg_sl ([.ref (ad p0), .int x1] : List Value)).length) Slot.unset).toArray) [] from by rw [hargs]; exact lg_entry_eq m _ _]
  have hl := lv_entry ([.ref (ad p0), .int x1] : List Value) (n := 3) (by exact Nat.le_of_ble_eq_true rfl)
  generalize (lg_sl ([.ref (ad p0), .int x1] : List Value) ++ List.replicate (3 - (lg_sl ([.ref (ad p0), .int x1] : List Value)).length) Slot.unset).toArray = ls at hl ⊢
  have hl : lv_has ls 3 [(0, .ref (ad p0)), (1, .int x1)] := by exact hl
  have hS : va_S (mm_A TC ad) s.heap s.heap [] := va_S.rf
  clear hargs
  unfold f_X7_setFine at hf
  have hH9 : ∀ (H : Heap) (locs : List Loc), H = s.heap → locs = [] → va_P D vwCl (mm_L TC ad cy g) H → va_S (mm_A TC ad) s.heap H locs → W p l e (headSpec wsX7_setFine (rm_X7_setFine)).room s m args below meth c H locs 0 0 (MQ below (mm_Qi D TC ad cy r0 g') args s 0 0 (mm_A TC ad)) (F0 m 0 ls []) := by
    intro H locs hH9 hL9 hP hS
    clear hH9 hL9
    refine lv_aload_n hx hb dX7_setFine_0 rfl (lv_at hl 0 rfl) ?_
    refine mq_geti (Tt := TX7) (N := 3) (C := RX7) hx hb hts hiX7 hown hK hP hp rfl 1 (by decide) rfl hw0 (fun _ h9 => h9) dX7_setFine_1 ?_
    obtain ⟨x2_1, ex2_1, hf⟩ := mv_some hf
    refine mq_nm ex2_1 ?_
    refine lv_istore_n (lv' := [(2, .int x2_1), (0, .ref (ad p0)), (1, .int x1)]) hx hb dX7_setFine_4 rfl hl (by decide) rfl (fun ls hl => ?_)
    refine lv_aload_n hx hb dX7_setFine_5 rfl (lv_at hl 1 rfl) ?_
    refine lv_iload_n hx hb dX7_setFine_6 rfl (lv_at hl 2 rfl) ?_
    obtain ⟨g_2, eg_2, hf⟩ := mw_some hf
    refine mq_puti (Tt := TX7) (N := 3) (C := RX7) (ty := .int) hx hb hts hiX7 tyX7 tyX7_ok nmX7 hown hK hI hP hS hp rfl 1 (by decide) rfl hw0 (fun _ h9 => h9) rfl (by decide +kernel) rfl rfl dX7_setFine_7 eg_2 (fun H locs hP hS => ?_)
    refine lv_iload_n hx hb dX7_setFine_10 rfl (lv_at hl 0 rfl) ?_
    exact mq_iret hx hb hr rfl hlocks hP hS (pr_1 hf) (pr_2 hf) dX7_setFine_11
  exact hH9 s.heap [] rfl rfl hP hS
abbrev rm_X7_setFoot : Room := ({ frames := 0, cells := 0, slots := 0, locals := 0 } : Room)
set_option maxHeartbeats 4000000 in
set_option maxRecDepth 100000 in
theorem c_X7_setFoot (l : Launch) (D : va_G) (ad : Nat → Nat) (cy : Nat → ClassId) (p0 : Nat) (x1 : Int32) (g : Mm) (hp : TC[p0]? = some sX7) (r0 : Int32) (g' : Mm) (hf : f_X7_setFoot p0 x1 g = some (r0, g')) : Met l yX7_setFoot wsX7_setFoot rm_X7_setFoot (va_Pc [.ref (ad p0), .int x1] (mm_pre mm_Z D TC ad cy g)) (mm_Qi D TC ad cy r0 g') 0 0 (mm_A TC ad) := by
  refine Met.ofW (cc := cX7_setFoot) (maxL := 3) (ret := (some .int)) (by decide) rfl ?_
  intro p e s m args below meth c s₁ B hml hv
  obtain ⟨hargs, hP, hK, hI, hZ⟩ := hv
  have hx := B.exec
  have hb := B.bytes
  have hr := B.returns
  have hts := atoms_spec (ws := wsX7_setFoot) B.pre
  have hown : s.vm.findClass RX7 = some m.cls := findClass_of_methodNamed B.named
  have hlocks := B.notSynchronized
  have hw0 := hts (.fieldLink RX7 15 "LeftShoes$Tax" "foot" "I") (by decide +kernel)
  have hiX7 : ∀ w ∈ wsX70, w ∈ wsX7_setFoot := by decide +kernel
  rw [show entryFrame m args 3 = F0 m 0 ((lg_sl ([.ref (ad p0), .int x1] : List Value) ++ List.replicate (3 - (lg_sl ([.ref (ad p0), .int x1] : List Value)).length) Slot.unset).toArray) [] from by rw [hargs]; exact lg_entry_eq m _ _]
  have hl := lv_entry ([.ref (ad p0), .int x1] : List Value) (n := 3) (by exact Nat.le_of_ble_eq_true rfl)
  generalize (lg_sl ([.ref (ad p0), .int x1] : List Value) ++ List.replicate (3 - (lg_sl ([.ref (ad p0), .int x1] : List Value)).length) Slot.unset).toArray = ls at hl ⊢
  have hl : lv_has ls 3 [(0, .ref (ad p0)), (1, .int x1)] := by exact hl
  have hS : va_S (mm_A TC ad) s.heap s.heap [] := va_S.rf
  clear hargs
  unfold f_X7_setFoot at hf
  have hH9 : ∀ (H : Heap) (locs : List Loc), H = s.heap → locs = [] → va_P D vwCl (mm_L TC ad cy g) H → va_S (mm_A TC ad) s.heap H locs → W p l e (headSpec wsX7_setFoot (rm_X7_setFoot)).room s m args below meth c H locs 0 0 (MQ below (mm_Qi D TC ad cy r0 g') args s 0 0 (mm_A TC ad)) (F0 m 0 ls []) := by
    intro H locs hH9 hL9 hP hS
    clear hH9 hL9
    refine lv_aload_n hx hb dX7_setFoot_0 rfl (lv_at hl 0 rfl) ?_
    refine mq_geti (Tt := TX7) (N := 3) (C := RX7) hx hb hts hiX7 hown hK hP hp rfl 2 (by decide) rfl hw0 (fun _ h9 => h9) dX7_setFoot_1 ?_
    obtain ⟨x2_1, ex2_1, hf⟩ := mv_some hf
    refine mq_nm ex2_1 ?_
    refine lv_istore_n (lv' := [(2, .int x2_1), (0, .ref (ad p0)), (1, .int x1)]) hx hb dX7_setFoot_4 rfl hl (by decide) rfl (fun ls hl => ?_)
    refine lv_aload_n hx hb dX7_setFoot_5 rfl (lv_at hl 1 rfl) ?_
    refine lv_iload_n hx hb dX7_setFoot_6 rfl (lv_at hl 2 rfl) ?_
    obtain ⟨g_2, eg_2, hf⟩ := mw_some hf
    refine mq_puti (Tt := TX7) (N := 3) (C := RX7) (ty := .int) hx hb hts hiX7 tyX7 tyX7_ok nmX7 hown hK hI hP hS hp rfl 2 (by decide) rfl hw0 (fun _ h9 => h9) rfl (by decide +kernel) rfl rfl dX7_setFoot_7 eg_2 (fun H locs hP hS => ?_)
    refine lv_iload_n hx hb dX7_setFoot_10 rfl (lv_at hl 0 rfl) ?_
    exact mq_iret hx hb hr rfl hlocks hP hS (pr_1 hf) (pr_2 hf) dX7_setFoot_11
  exact hH9 s.heap [] rfl rfl hP hS
abbrev rm_X7_costOf : Room := ({ frames := 0, cells := 0, slots := 0, locals := 0 } : Room)
set_option maxHeartbeats 4000000 in
set_option maxRecDepth 100000 in
theorem c_X7_costOf (l : Launch) (D : va_G) (ad : Nat → Nat) (cy : Nat → ClassId) (p0 : Nat) (o1 : Option Nat) (x2 : Int32) (g : Mm) (hp : TC[p0]? = some sX7) (ho1 : mm_os TC sX5 o1 = true) (r0 : Int32) (hf : f_X7_costOf p0 o1 x2 g = some r0) : Met l yX7_costOf wsX7_costOf rm_X7_costOf (va_Pc [.ref (ad p0), va_rf (Option.map ad o1), .int x2] (mm_pre mm_Z D TC ad cy g)) (mm_Qi D TC ad cy r0 g) 0 0 (mm_A TC ad) := by
  refine Met.ofW (cc := cX7_costOf) (maxL := 3) (ret := (some .int)) (by decide) rfl ?_
  intro p e s m args below meth c s₁ B hml hv
  obtain ⟨hargs, hP, hK, hI, hZ⟩ := hv
  have hx := B.exec
  have hb := B.bytes
  have hr := B.returns
  have hts := atoms_spec (ws := wsX7_costOf) B.pre
  have hown : s.vm.findClass RX7 = some m.cls := findClass_of_methodNamed B.named
  have hlocks := B.notSynchronized
  have hw0 := hts (.fieldLink RX7 22 "LeftShoes$Shoe" "foot" "I") (by decide +kernel)
  have hiX5 : ∀ w ∈ wsX50, w ∈ wsX7_costOf := by decide +kernel
  have hw2 := hts (.fieldLink RX7 15 "LeftShoes$Tax" "foot" "I") (by decide +kernel)
  have hiX7 : ∀ w ∈ wsX70, w ∈ wsX7_costOf := by decide +kernel
  have hw4 := hts (.fieldLink RX7 25 "LeftShoes$Shoe" "isStamped" "Z") (by decide +kernel)
  have hw5 := hts (.fieldLink RX7 19 "LeftShoes$Tax" "fine" "I") (by decide +kernel)
  have hw6 := hts (.fieldLink RX7 9 "LeftShoes$Tax" "rates" "[I") (by decide +kernel)
  have hw7 := hts (.fieldLink RX7 29 "LeftShoes$Shoe" "sort" "I") (by decide +kernel)
  rw [show entryFrame m args 3 = F0 m 0 ((lg_sl ([.ref (ad p0), va_rf (Option.map ad o1), .int x2] : List Value) ++ List.replicate (3 - (lg_sl ([.ref (ad p0), va_rf (Option.map ad o1), .int x2] : List Value)).length) Slot.unset).toArray) [] from by rw [hargs]; exact lg_entry_eq m _ _]
  have hl := lv_entry ([.ref (ad p0), va_rf (Option.map ad o1), .int x2] : List Value) (n := 3) (by cases o1 <;> exact Nat.le_of_ble_eq_true rfl)
  generalize (lg_sl ([.ref (ad p0), va_rf (Option.map ad o1), .int x2] : List Value) ++ List.replicate (3 - (lg_sl ([.ref (ad p0), va_rf (Option.map ad o1), .int x2] : List Value)).length) Slot.unset).toArray = ls at hl ⊢
  have hl : lv_has ls 3 [(0, .ref (ad p0)), (1, va_rf (Option.map ad o1)), (2, .int x2)] := by cases o1 <;> exact hl
  have hS : va_S (mm_A TC ad) s.heap s.heap [] := va_S.rf
  clear hargs
  unfold f_X7_costOf at hf
  have hH9 : ∀ (H : Heap) (locs : List Loc), H = s.heap → locs = [] → va_P D vwCl (mm_L TC ad cy g) H → va_S (mm_A TC ad) s.heap H locs → W p l e (headSpec wsX7_costOf (rm_X7_costOf)).room s m args below meth c H locs 0 0 (MQ below (mm_Qi D TC ad cy r0 g) args s 0 0 (mm_A TC ad)) (F0 m 0 ls []) := by
    intro H locs hH9 hL9 hP hS
    clear hH9 hL9
    refine mq_aload_nq hx hb dX7_costOf_0 rfl (lv_at hl 1 rfl) ?_
    cases o1 with
    | none =>
      replace hf := on_n hf
      refine lv_ifnullN (tgt := 15) hx hb dX7_costOf_1 (by decide) ?_
      refine lv_iconst (v := 0) hx hb dX7_costOf_15 (by decide) ?_
      exact mq_iret hx hb hr rfl hlocks hP hS (Option.some.inj hf) rfl dX7_costOf_16
    | some q_1 =>
      replace hf := on_s hf
      refine lv_ifnull hx hb dX7_costOf_1 ?_
      refine lv_aload_n hx hb dX7_costOf_4 rfl (lv_at hl 1 rfl) ?_
      refine mq_geti (Tt := TX5) (N := 5) (C := RX5) hx hb hts hiX5 hown hK hP (mm_os_q ho1) rfl 0 (by decide) rfl hw0 (fun _ h9 => h9) dX7_costOf_5 ?_
      refine lv_aload_n hx hb dX7_costOf_8 rfl (lv_at hl 0 rfl) ?_
      refine mq_geti (Tt := TX7) (N := 3) (C := RX7) hx hb hts hiX7 hown hK hP hp rfl 2 (by decide) rfl hw2 (fun _ h9 => h9) dX7_costOf_9 ?_
      refine lv_icmp_eq (tgt := 17) hx hb dX7_costOf_12 (by decide) (fun c_2 => ?_) (fun c_2 => ?_)
      · replace hf := ite_t c_2 hf
        refine lv_aload_n hx hb dX7_costOf_17 rfl (lv_at hl 1 rfl) ?_
        refine mq_geti (Tt := TX5) (N := 5) (C := RX5) hx hb hts hiX5 hown hK hP (mm_os_q ho1) rfl 4 (by decide) rfl hw4 (fun _ h9 => h9) dX7_costOf_18 ?_
        refine lv_if_eq (tgt := 39) hx hb dX7_costOf_21 (by decide) (fun c_3 => ?_) (fun c_3 => ?_)
        · replace hf := ite_t c_3 hf
          refine lv_aload_n hx hb dX7_costOf_39 rfl (lv_at hl 0 rfl) ?_
          refine mq_geti (Tt := TX7) (N := 3) (C := RX7) hx hb hts hiX7 hown hK hP hp rfl 1 (by decide) rfl hw5 (fun _ h9 => h9) dX7_costOf_40 ?_
          refine lv_iload_n hx hb dX7_costOf_43 rfl (lv_at hl 2 rfl) ?_
          refine lv_imul hx hb dX7_costOf_44 ?_
          exact mq_iret hx hb hr rfl hlocks hP hS (Option.some.inj hf) rfl dX7_costOf_45
        · replace hf := ite_f c_3 hf
          refine lv_bipush (v := 16) hx hb dX7_costOf_24 (by decide) ?_
          refine lv_aload_n hx hb dX7_costOf_26 rfl (lv_at hl 0 rfl) ?_
          refine mq_getr (Tt := TX7) (N := 3) (C := RX7) hx hb hts hiX7 hown hK hP hp rfl 0 1 (by decide) rfl hw6 (fun _ h9 => h9) dX7_costOf_27 ?_
          refine lv_aload_n hx hb dX7_costOf_30 rfl (lv_at hl 1 rfl) ?_
          refine mq_geti (Tt := TX5) (N := 5) (C := RX5) hx hb hts hiX5 hown hK hP (mm_os_q ho1) rfl 1 (by decide) rfl hw7 (fun _ h9 => h9) dX7_costOf_31 ?_
          obtain ⟨h_4, hf⟩ := og_some hf
          refine mq_iald hx hb hK hP (N := 4) (shTC_X7_1 hp) h_4 dX7_costOf_34 ?_
          refine lv_imul hx hb dX7_costOf_35 ?_
          refine lv_goto (tgt := 45) hx hb dX7_costOf_36 (by decide) ?_
          exact mq_iret hx hb hr rfl hlocks hP hS (Option.some.inj hf) rfl dX7_costOf_45
      · replace hf := ite_f c_2 hf
        refine lv_iconst (v := 0) hx hb dX7_costOf_15 (by decide) ?_
        exact mq_iret hx hb hr rfl hlocks hP hS (Option.some.inj hf) rfl dX7_costOf_16
  exact hH9 s.heap [] rfl rfl hP hS
abbrev rm_X7_become : Room := ({ frames := 1, cells := 0, slots := 0, locals := 60 } : Room)
set_option maxHeartbeats 4000000 in
set_option maxRecDepth 100000 in
theorem c_X7_become (l : Launch) (D : va_G) (ad : Nat → Nat) (cy : Nat → ClassId) (p0 : Nat) (q1 : Nat) (g : Mm) (hp : TC[p0]? = some sX7) (hq1 : TC[q1]? = some sX7) (g' : Mm) (hf : f_X7_become p0 q1 g = some g') : Met l yX7_become wsX7_become rm_X7_become (va_Pc [.ref (ad p0), .ref (ad q1)] (mm_pre mm_Z D TC ad cy g)) (mm_Qv D TC ad cy g') 0 0 (mm_A TC ad) := by
  refine Met.ofW (cc := cX7_become) (maxL := 2) (ret := none) (by decide) rfl ?_
  intro p e s m args below meth c s₁ B hml hv
  obtain ⟨hargs, hP, hK, hI, hZ⟩ := hv
  have hx := B.exec
  have hb := B.bytes
  have hr := B.returns
  have hts := atoms_spec (ws := wsX7_become) B.pre
  have hown : s.vm.findClass RX7 = some m.cls := findClass_of_methodNamed B.named
  have hlocks := B.notSynchronized
  have hw0 := hts (.fieldLink RX7 9 "LeftShoes$Tax" "rates" "[I") (by decide +kernel)
  have hiX7 : ∀ w ∈ wsX70, w ∈ wsX7_become := by decide +kernel
  have hw2 := hts (.methodLink RX7 32 arraycopyName) (by decide +kernel)
  have hw3 := hts (.native arraycopyName) (by decide +kernel)
  have hw4 := hts (.static arraycopyName) (by decide +kernel)
  have hw5 := hts (.initialized "java/lang/System") (by decide +kernel)
  have hw6 := hts (.fieldLink RX7 19 "LeftShoes$Tax" "fine" "I") (by decide +kernel)
  have hw7 := hts (.fieldLink RX7 15 "LeftShoes$Tax" "foot" "I") (by decide +kernel)
  rw [show entryFrame m args 2 = F0 m 0 ((lg_sl ([.ref (ad p0), .ref (ad q1)] : List Value) ++ List.replicate (2 - (lg_sl ([.ref (ad p0), .ref (ad q1)] : List Value)).length) Slot.unset).toArray) [] from by rw [hargs]; exact lg_entry_eq m _ _]
  have hl := lv_entry ([.ref (ad p0), .ref (ad q1)] : List Value) (n := 2) (by exact Nat.le_of_ble_eq_true rfl)
  generalize (lg_sl ([.ref (ad p0), .ref (ad q1)] : List Value) ++ List.replicate (2 - (lg_sl ([.ref (ad p0), .ref (ad q1)] : List Value)).length) Slot.unset).toArray = ls at hl ⊢
  have hl : lv_has ls 2 [(0, .ref (ad p0)), (1, .ref (ad q1))] := by exact hl
  have hS : va_S (mm_A TC ad) s.heap s.heap [] := va_S.rf
  clear hargs
  unfold f_X7_become at hf
  have hH9 : ∀ (H : Heap) (locs : List Loc), H = s.heap → locs = [] → va_P D vwCl (mm_L TC ad cy g) H → va_S (mm_A TC ad) s.heap H locs → W p l e (headSpec wsX7_become (rm_X7_become)).room s m args below meth c H locs 0 0 (MQ below (mm_Qv D TC ad cy g') args s 0 0 (mm_A TC ad)) (F0 m 0 ls []) := by
    intro H locs hH9 hL9 hP hS
    clear hH9 hL9
    refine lv_aload_n hx hb dX7_become_0 rfl (lv_at hl 1 rfl) ?_
    refine mq_getr (Tt := TX7) (N := 3) (C := RX7) hx hb hts hiX7 hown hK hP hq1 rfl 0 1 (by decide) rfl hw0 (fun _ h9 => h9) dX7_become_1 ?_
    refine lv_iconst (v := 0) hx hb dX7_become_4 (by decide) ?_
    refine lv_aload_n hx hb dX7_become_5 rfl (lv_at hl 0 rfl) ?_
    refine mq_getr (Tt := TX7) (N := 3) (C := RX7) hx hb hts hiX7 hown hK hP hp rfl 0 1 (by decide) rfl hw0 (fun _ h9 => h9) dX7_become_6 ?_
    refine lv_iconst (v := 0) hx hb dX7_become_9 (by decide) ?_
    refine lv_iconst (v := 4) hx hb dX7_become_10 (by decide) ?_
    obtain ⟨g_1, eg_1, hf⟩ := mr_some hf
    refine mq_copy hx hb (hml.trans hl.1.symm) hown hw2 hw3 hw4 hw5 hK hI hP hS (n0 := 4) (n1 := 4) (shTC_X7_1 hq1) (shTC_X7_1 hp) (by decide +kernel : mm_cp 0 0 4 4 4 = true) (Nat.le_of_ble_eq_true rfl) (Nat.le_of_ble_eq_true rfl) dX7_become_11 eg_1 (fun H locs hP hS => ?_)
    refine lv_aload_n hx hb dX7_become_14 rfl (lv_at hl 0 rfl) ?_
    refine lv_aload_n hx hb dX7_become_15 rfl (lv_at hl 1 rfl) ?_
    refine mq_geti (Tt := TX7) (N := 3) (C := RX7) hx hb hts hiX7 hown hK hP hq1 rfl 1 (by decide) rfl hw6 (fun _ h9 => h9) dX7_become_16 ?_
    obtain ⟨g_2, eg_2, hf⟩ := mw_some hf
    refine mq_puti (Tt := TX7) (N := 3) (C := RX7) (ty := .int) hx hb hts hiX7 tyX7 tyX7_ok nmX7 hown hK hI hP hS hp rfl 1 (by decide) rfl hw6 (fun _ h9 => h9) rfl (by decide +kernel) rfl rfl dX7_become_19 eg_2 (fun H locs hP hS => ?_)
    refine lv_aload_n hx hb dX7_become_22 rfl (lv_at hl 0 rfl) ?_
    refine lv_aload_n hx hb dX7_become_23 rfl (lv_at hl 1 rfl) ?_
    refine mq_geti (Tt := TX7) (N := 3) (C := RX7) hx hb hts hiX7 hown hK hP hq1 rfl 2 (by decide) rfl hw7 (fun _ h9 => h9) dX7_become_24 ?_
    obtain ⟨g_3, eg_3, hf⟩ := mw_some hf
    refine mq_puti (Tt := TX7) (N := 3) (C := RX7) (ty := .int) hx hb hts hiX7 tyX7 tyX7_ok nmX7 hown hK hI hP hS hp rfl 2 (by decide) rfl hw7 (fun _ h9 => h9) rfl (by decide +kernel) rfl rfl dX7_become_27 eg_3 (fun H locs hP hS => ?_)
    exact mq_vret hx hb hr hlocks hP hS (Option.some.inj hf) dX7_become_30
  exact hH9 s.heap [] rfl rfl hP hS
abbrev rm_X3_setMud : Room := ({ frames := 0, cells := 0, slots := 0, locals := 0 } : Room)
set_option maxHeartbeats 4000000 in
set_option maxRecDepth 100000 in
theorem c_X3_setMud (l : Launch) (D : va_G) (ad : Nat → Nat) (cy : Nat → ClassId) (p0 : Nat) (x1 : Int32) (x2 : Int32) (g : Mm) (hp : TC[p0]? = some sX3) (r0 : Int32) (g' : Mm) (hf : f_X3_setMud p0 x1 x2 g = some (r0, g')) : Met l yX3_setMud wsX3_setMud rm_X3_setMud (va_Pc [.ref (ad p0), .int x1, .int x2] (mm_pre mm_Z D TC ad cy g)) (mm_Qi D TC ad cy r0 g') 0 0 (mm_A TC ad) := by
  refine Met.ofW (cc := cX3_setMud) (maxL := 4) (ret := (some .int)) (by decide) rfl ?_
  intro p e s m args below meth c s₁ B hml hv
  obtain ⟨hargs, hP, hK, hI, hZ⟩ := hv
  have hx := B.exec
  have hb := B.bytes
  have hr := B.returns
  have hts := atoms_spec (ws := wsX3_setMud) B.pre
  have hown : s.vm.findClass RX3 = some m.cls := findClass_of_methodNamed B.named
  have hlocks := B.notSynchronized
  have hw0 := hts (.fieldLink RX3 9 "LeftShoes$Road" "mud" "[I") (by decide +kernel)
  have hiX3 : ∀ w ∈ wsX30, w ∈ wsX3_setMud := by decide +kernel
  rw [show entryFrame m args 4 = F0 m 0 ((lg_sl ([.ref (ad p0), .int x1, .int x2] : List Value) ++ List.replicate (4 - (lg_sl ([.ref (ad p0), .int x1, .int x2] : List Value)).length) Slot.unset).toArray) [] from by rw [hargs]; exact lg_entry_eq m _ _]
  have hl := lv_entry ([.ref (ad p0), .int x1, .int x2] : List Value) (n := 4) (by exact Nat.le_of_ble_eq_true rfl)
  generalize (lg_sl ([.ref (ad p0), .int x1, .int x2] : List Value) ++ List.replicate (4 - (lg_sl ([.ref (ad p0), .int x1, .int x2] : List Value)).length) Slot.unset).toArray = ls at hl ⊢
  have hl : lv_has ls 4 [(0, .ref (ad p0)), (1, .int x1), (2, .int x2)] := by exact hl
  have hS : va_S (mm_A TC ad) s.heap s.heap [] := va_S.rf
  clear hargs
  unfold f_X3_setMud at hf
  have hH9 : ∀ (H : Heap) (locs : List Loc), H = s.heap → locs = [] → va_P D vwCl (mm_L TC ad cy g) H → va_S (mm_A TC ad) s.heap H locs → W p l e (headSpec wsX3_setMud (rm_X3_setMud)).room s m args below meth c H locs 0 0 (MQ below (mm_Qi D TC ad cy r0 g') args s 0 0 (mm_A TC ad)) (F0 m 0 ls []) := by
    intro H locs hH9 hL9 hP hS
    clear hH9 hL9
    refine lv_aload_n hx hb dX3_setMud_0 rfl (lv_at hl 0 rfl) ?_
    refine mq_getr (Tt := TX3) (N := 2) (C := RX3) hx hb hts hiX3 hown hK hP hp rfl 0 1 (by decide) rfl hw0 (fun _ h9 => h9) dX3_setMud_1 ?_
    refine lv_iload_n hx hb dX3_setMud_4 rfl (lv_at hl 1 rfl) ?_
    obtain ⟨h_1, hf⟩ := og_some hf
    refine mq_iald hx hb hK hP (N := 9) (shTC_X3_1 hp) h_1 dX3_setMud_5 ?_
    obtain ⟨x3_2, ex3_2, hf⟩ := mv_some hf
    refine mq_nm ex3_2 ?_
    refine lv_istore_n (lv' := [(3, .int x3_2), (0, .ref (ad p0)), (1, .int x1), (2, .int x2)]) hx hb dX3_setMud_6 rfl hl (by decide) rfl (fun ls hl => ?_)
    refine lv_aload_n hx hb dX3_setMud_7 rfl (lv_at hl 1 rfl) ?_
    refine mq_getr (Tt := TX3) (N := 2) (C := RX3) hx hb hts hiX3 hown hK hP hp rfl 0 1 (by decide) rfl hw0 (fun _ h9 => h9) dX3_setMud_8 ?_
    refine lv_iload_n hx hb dX3_setMud_11 rfl (lv_at hl 2 rfl) ?_
    refine lv_iload_n hx hb dX3_setMud_12 rfl (lv_at hl 3 rfl) ?_
    obtain ⟨h_3, hf⟩ := og_some hf
    obtain ⟨g_4, eg_4, hf⟩ := mw_some hf
    refine mq_iast hx hb hK hI hP hS (N := 9) (shTC_X3_1 hp) h_3 dX3_setMud_13 eg_4 (fun H locs hP hS => ?_)
    refine lv_iload_n hx hb dX3_setMud_14 rfl (lv_at hl 0 rfl) ?_
    exact mq_iret hx hb hr rfl hlocks hP hS (pr_1 hf) (pr_2 hf) dX3_setMud_15
  exact hH9 s.heap [] rfl rfl hP hS
abbrev rm_X3_setWatched : Room := ({ frames := 0, cells := 0, slots := 0, locals := 0 } : Room)
set_option maxHeartbeats 4000000 in
set_option maxRecDepth 100000 in
theorem c_X3_setWatched (l : Launch) (D : va_G) (ad : Nat → Nat) (cy : Nat → ClassId) (p0 : Nat) (x1 : Int32) (x2 : Int32) (g : Mm) (hp : TC[p0]? = some sX3) (r0 : Int32) (g' : Mm) (hf : f_X3_setWatched p0 x1 x2 g = some (r0, g')) : Met l yX3_setWatched wsX3_setWatched rm_X3_setWatched (va_Pc [.ref (ad p0), .int x1, .int x2] (mm_pre mm_Z D TC ad cy g)) (mm_Qi D TC ad cy r0 g') 0 0 (mm_A TC ad) := by
  refine Met.ofW (cc := cX3_setWatched) (maxL := 4) (ret := (some .int)) (by decide) rfl ?_
  intro p e s m args below meth c s₁ B hml hv
  obtain ⟨hargs, hP, hK, hI, hZ⟩ := hv
  have hx := B.exec
  have hb := B.bytes
  have hr := B.returns
  have hts := atoms_spec (ws := wsX3_setWatched) B.pre
  have hown : s.vm.findClass RX3 = some m.cls := findClass_of_methodNamed B.named
  have hlocks := B.notSynchronized
  have hw0 := hts (.fieldLink RX3 15 "LeftShoes$Road" "watched" "[I") (by decide +kernel)
  have hiX3 : ∀ w ∈ wsX30, w ∈ wsX3_setWatched := by decide +kernel
  rw [show entryFrame m args 4 = F0 m 0 ((lg_sl ([.ref (ad p0), .int x1, .int x2] : List Value) ++ List.replicate (4 - (lg_sl ([.ref (ad p0), .int x1, .int x2] : List Value)).length) Slot.unset).toArray) [] from by rw [hargs]; exact lg_entry_eq m _ _]
  have hl := lv_entry ([.ref (ad p0), .int x1, .int x2] : List Value) (n := 4) (by exact Nat.le_of_ble_eq_true rfl)
  generalize (lg_sl ([.ref (ad p0), .int x1, .int x2] : List Value) ++ List.replicate (4 - (lg_sl ([.ref (ad p0), .int x1, .int x2] : List Value)).length) Slot.unset).toArray = ls at hl ⊢
  have hl : lv_has ls 4 [(0, .ref (ad p0)), (1, .int x1), (2, .int x2)] := by exact hl
  have hS : va_S (mm_A TC ad) s.heap s.heap [] := va_S.rf
  clear hargs
  unfold f_X3_setWatched at hf
  have hH9 : ∀ (H : Heap) (locs : List Loc), H = s.heap → locs = [] → va_P D vwCl (mm_L TC ad cy g) H → va_S (mm_A TC ad) s.heap H locs → W p l e (headSpec wsX3_setWatched (rm_X3_setWatched)).room s m args below meth c H locs 0 0 (MQ below (mm_Qi D TC ad cy r0 g') args s 0 0 (mm_A TC ad)) (F0 m 0 ls []) := by
    intro H locs hH9 hL9 hP hS
    clear hH9 hL9
    refine lv_aload_n hx hb dX3_setWatched_0 rfl (lv_at hl 0 rfl) ?_
    refine mq_getr (Tt := TX3) (N := 2) (C := RX3) hx hb hts hiX3 hown hK hP hp rfl 1 2 (by decide) rfl hw0 (fun _ h9 => h9) dX3_setWatched_1 ?_
    refine lv_iload_n hx hb dX3_setWatched_4 rfl (lv_at hl 1 rfl) ?_
    obtain ⟨h_1, hf⟩ := og_some hf
    refine mq_iald hx hb hK hP (N := 9) (shTC_X3_2 hp) h_1 dX3_setWatched_5 ?_
    obtain ⟨x3_2, ex3_2, hf⟩ := mv_some hf
    refine mq_nm ex3_2 ?_
    refine lv_istore_n (lv' := [(3, .int x3_2), (0, .ref (ad p0)), (1, .int x1), (2, .int x2)]) hx hb dX3_setWatched_6 rfl hl (by decide) rfl (fun ls hl => ?_)
    refine lv_aload_n hx hb dX3_setWatched_7 rfl (lv_at hl 1 rfl) ?_
    refine mq_getr (Tt := TX3) (N := 2) (C := RX3) hx hb hts hiX3 hown hK hP hp rfl 1 2 (by decide) rfl hw0 (fun _ h9 => h9) dX3_setWatched_8 ?_
    refine lv_iload_n hx hb dX3_setWatched_11 rfl (lv_at hl 2 rfl) ?_
    refine lv_iload_n hx hb dX3_setWatched_12 rfl (lv_at hl 3 rfl) ?_
    obtain ⟨h_3, hf⟩ := og_some hf
    obtain ⟨g_4, eg_4, hf⟩ := mw_some hf
    refine mq_iast hx hb hK hI hP hS (N := 9) (shTC_X3_2 hp) h_3 dX3_setWatched_13 eg_4 (fun H locs hP hS => ?_)
    refine lv_iload_n hx hb dX3_setWatched_14 rfl (lv_at hl 0 rfl) ?_
    exact mq_iret hx hb hr rfl hlocks hP hS (pr_1 hf) (pr_2 hf) dX3_setWatched_15
  exact hH9 s.heap [] rfl rfl hP hS
abbrev rm_X3_allMud : Room := ({ frames := 0, cells := 0, slots := 0, locals := 0 } : Room)
set_option maxHeartbeats 4000000 in
set_option maxRecDepth 100000 in
theorem c_X3_allMud (l : Launch) (D : va_G) (ad : Nat → Nat) (cy : Nat → ClassId) (p0 : Nat) (g : Mm) (hp : TC[p0]? = some sX3) (r0 : Int32) (hf : f_X3_allMud p0 g = some r0) : Met l yX3_allMud wsX3_allMud rm_X3_allMud (va_Pc [.ref (ad p0)] (mm_pre mm_Z D TC ad cy g)) (mm_Qi D TC ad cy r0 g) 0 0 (mm_A TC ad) := by
  refine Met.ofW (cc := cX3_allMud) (maxL := 3) (ret := (some .int)) (by decide) rfl ?_
  intro p e s m args below meth c s₁ B hml hv
  obtain ⟨hargs, hP, hK, hI, hZ⟩ := hv
  have hx := B.exec
  have hb := B.bytes
  have hr := B.returns
  have hts := atoms_spec (ws := wsX3_allMud) B.pre
  have hown : s.vm.findClass RX3 = some m.cls := findClass_of_methodNamed B.named
  have hlocks := B.notSynchronized
  have hw0 := hts (.fieldLink RX3 9 "LeftShoes$Road" "mud" "[I") (by decide +kernel)
  have hiX3 : ∀ w ∈ wsX30, w ∈ wsX3_allMud := by decide +kernel
  rw [show entryFrame m args 3 = F0 m 0 ((lg_sl ([.ref (ad p0)] : List Value) ++ List.replicate (3 - (lg_sl ([.ref (ad p0)] : List Value)).length) Slot.unset).toArray) [] from by rw [hargs]; exact lg_entry_eq m _ _]
  have hl := lv_entry ([.ref (ad p0)] : List Value) (n := 3) (by exact Nat.le_of_ble_eq_true rfl)
  generalize (lg_sl ([.ref (ad p0)] : List Value) ++ List.replicate (3 - (lg_sl ([.ref (ad p0)] : List Value)).length) Slot.unset).toArray = ls at hl ⊢
  have hl : lv_has ls 3 [(0, .ref (ad p0))] := by exact hl
  have hS : va_S (mm_A TC ad) s.heap s.heap [] := va_S.rf
  clear hargs
  have hc4 : ∀ (n : Nat), ∀ (x1 : Int32) (x2 : Int32) (H : Heap) (locs : List Loc) (ls : Array Slot), va_P D vwCl (mm_L TC ad cy g) H → va_S (mm_A TC ad) s.heap H locs → lv_has ls 3 [(0, .ref (ad p0)), (1, .int x1), (2, .int x2)] → f_X3_allMud_c4 p0 n x1 x2 g = some r0 → W p l e (headSpec wsX3_allMud (rm_X3_allMud)).room s m args below meth c H locs 0 0 (MQ below (mm_Qi D TC ad cy r0 g) args s 0 0 (mm_A TC ad)) (F0 m 4 ls []) := by
    intro n
    induction n with
    | zero =>
      intro x1 x2 H locs ls hP hS hl hf
      rw [f_X3_allMud_c4] at hf
      cases hf
    | succ n ih =>
      intro x1 x2 H locs ls hP hS hl hf
      rw [f_X3_allMud_c4] at hf
      refine lv_iload_n hx hb dX3_allMud_4 rfl (lv_at hl 2 rfl) ?_
      refine lv_bipush (v := 9) hx hb dX3_allMud_5 (by decide) ?_
      refine lv_icmp_ge (tgt := 25) hx hb dX3_allMud_7 (by decide) (fun c_1 => ?_) (fun c_1 => ?_)
      · replace hf := ite_t c_1 hf
        refine lv_iload_n hx hb dX3_allMud_25 rfl (lv_at hl 1 rfl) ?_
        exact mq_iret hx hb hr rfl hlocks hP hS (Option.some.inj hf) rfl dX3_allMud_26
      · replace hf := ite_f c_1 hf
        refine lv_iload_n hx hb dX3_allMud_10 rfl (lv_at hl 1 rfl) ?_
        refine lv_aload_n hx hb dX3_allMud_11 rfl (lv_at hl 0 rfl) ?_
        refine mq_getr (Tt := TX3) (N := 2) (C := RX3) hx hb hts hiX3 hown hK hP hp rfl 0 1 (by decide) rfl hw0 (fun _ h9 => h9) dX3_allMud_12 ?_
        refine lv_iload_n hx hb dX3_allMud_15 rfl (lv_at hl 2 rfl) ?_
        obtain ⟨h_2, hf⟩ := og_some hf
        refine mq_iald hx hb hK hP (N := 9) (shTC_X3_1 hp) h_2 dX3_allMud_16 ?_
        refine lv_iadd hx hb dX3_allMud_17 ?_
        obtain ⟨x1_3, ex1_3, hf⟩ := mv_some hf
        refine mq_nm ex1_3 ?_
        refine lv_istore_n (lv' := [(1, .int x1_3), (0, .ref (ad p0)), (2, .int x2)]) hx hb dX3_allMud_18 rfl hl (by decide) rfl (fun ls hl => ?_)
        obtain ⟨x2_4, ex2_4, hf⟩ := mv_some hf
        refine lv_iinc (v := x2_4) (lv' := [(2, .int x2_4), (1, .int x1_3), (0, .ref (ad p0))]) hx hb dX3_allMud_19 hl (k := 2) rfl (by rw [ex2_4]; rfl) (by decide) rfl (fun ls hl => ?_)
        refine lv_goto (tgt := 4) hx hb dX3_allMud_22 (by decide) ?_
        exact ih x1_3 x2_4 H locs ls hP hS (lv_sub hl [2, 1, 0] rfl) hf
  unfold f_X3_allMud at hf
  have hH9 : ∀ (H : Heap) (locs : List Loc), H = s.heap → locs = [] → va_P D vwCl (mm_L TC ad cy g) H → va_S (mm_A TC ad) s.heap H locs → W p l e (headSpec wsX3_allMud (rm_X3_allMud)).room s m args below meth c H locs 0 0 (MQ below (mm_Qi D TC ad cy r0 g) args s 0 0 (mm_A TC ad)) (F0 m 0 ls []) := by
    intro H locs hH9 hL9 hP hS
    clear hH9 hL9
    refine lv_iconst (v := 0) hx hb dX3_allMud_0 (by decide) ?_
    refine lv_istore_n (lv' := [(1, .int 0), (0, .ref (ad p0))]) hx hb dX3_allMud_1 rfl hl (by decide) rfl (fun ls hl => ?_)
    refine lv_iconst (v := 0) hx hb dX3_allMud_2 (by decide) ?_
    refine lv_istore_n (lv' := [(2, .int 0), (1, .int 0), (0, .ref (ad p0))]) hx hb dX3_allMud_3 rfl hl (by decide) rfl (fun ls hl => ?_)
    exact hc4 FU 0 0 H locs ls hP hS (lv_sub hl [2, 1, 0] rfl) hf
  exact hH9 s.heap [] rfl rfl hP hS
abbrev rm_X3_become : Room := ({ frames := 1, cells := 0, slots := 0, locals := 60 } : Room)
set_option maxHeartbeats 4000000 in
set_option maxRecDepth 100000 in
theorem c_X3_become (l : Launch) (D : va_G) (ad : Nat → Nat) (cy : Nat → ClassId) (p0 : Nat) (q1 : Nat) (g : Mm) (hp : TC[p0]? = some sX3) (hq1 : TC[q1]? = some sX3) (g' : Mm) (hf : f_X3_become p0 q1 g = some g') : Met l yX3_become wsX3_become rm_X3_become (va_Pc [.ref (ad p0), .ref (ad q1)] (mm_pre mm_Z D TC ad cy g)) (mm_Qv D TC ad cy g') 0 0 (mm_A TC ad) := by
  refine Met.ofW (cc := cX3_become) (maxL := 2) (ret := none) (by decide) rfl ?_
  intro p e s m args below meth c s₁ B hml hv
  obtain ⟨hargs, hP, hK, hI, hZ⟩ := hv
  have hx := B.exec
  have hb := B.bytes
  have hr := B.returns
  have hts := atoms_spec (ws := wsX3_become) B.pre
  have hown : s.vm.findClass RX3 = some m.cls := findClass_of_methodNamed B.named
  have hlocks := B.notSynchronized
  have hw0 := hts (.fieldLink RX3 9 "LeftShoes$Road" "mud" "[I") (by decide +kernel)
  have hiX3 : ∀ w ∈ wsX30, w ∈ wsX3_become := by decide +kernel
  have hw2 := hts (.methodLink RX3 18 arraycopyName) (by decide +kernel)
  have hw3 := hts (.native arraycopyName) (by decide +kernel)
  have hw4 := hts (.static arraycopyName) (by decide +kernel)
  have hw5 := hts (.initialized "java/lang/System") (by decide +kernel)
  have hw6 := hts (.fieldLink RX3 15 "LeftShoes$Road" "watched" "[I") (by decide +kernel)
  rw [show entryFrame m args 2 = F0 m 0 ((lg_sl ([.ref (ad p0), .ref (ad q1)] : List Value) ++ List.replicate (2 - (lg_sl ([.ref (ad p0), .ref (ad q1)] : List Value)).length) Slot.unset).toArray) [] from by rw [hargs]; exact lg_entry_eq m _ _]
  have hl := lv_entry ([.ref (ad p0), .ref (ad q1)] : List Value) (n := 2) (by exact Nat.le_of_ble_eq_true rfl)
  generalize (lg_sl ([.ref (ad p0), .ref (ad q1)] : List Value) ++ List.replicate (2 - (lg_sl ([.ref (ad p0), .ref (ad q1)] : List Value)).length) Slot.unset).toArray = ls at hl ⊢
  have hl : lv_has ls 2 [(0, .ref (ad p0)), (1, .ref (ad q1))] := by exact hl
  have hS : va_S (mm_A TC ad) s.heap s.heap [] := va_S.rf
  clear hargs
  unfold f_X3_become at hf
  have hH9 : ∀ (H : Heap) (locs : List Loc), H = s.heap → locs = [] → va_P D vwCl (mm_L TC ad cy g) H → va_S (mm_A TC ad) s.heap H locs → W p l e (headSpec wsX3_become (rm_X3_become)).room s m args below meth c H locs 0 0 (MQ below (mm_Qv D TC ad cy g') args s 0 0 (mm_A TC ad)) (F0 m 0 ls []) := by
    intro H locs hH9 hL9 hP hS
    clear hH9 hL9
    refine lv_aload_n hx hb dX3_become_0 rfl (lv_at hl 1 rfl) ?_
    refine mq_getr (Tt := TX3) (N := 2) (C := RX3) hx hb hts hiX3 hown hK hP hq1 rfl 0 1 (by decide) rfl hw0 (fun _ h9 => h9) dX3_become_1 ?_
    refine lv_iconst (v := 0) hx hb dX3_become_4 (by decide) ?_
    refine lv_aload_n hx hb dX3_become_5 rfl (lv_at hl 0 rfl) ?_
    refine mq_getr (Tt := TX3) (N := 2) (C := RX3) hx hb hts hiX3 hown hK hP hp rfl 0 1 (by decide) rfl hw0 (fun _ h9 => h9) dX3_become_6 ?_
    refine lv_iconst (v := 0) hx hb dX3_become_9 (by decide) ?_
    refine lv_bipush (v := 9) hx hb dX3_become_10 (by decide) ?_
    obtain ⟨g_1, eg_1, hf⟩ := mr_some hf
    refine mq_copy hx hb (hml.trans hl.1.symm) hown hw2 hw3 hw4 hw5 hK hI hP hS (n0 := 9) (n1 := 9) (shTC_X3_1 hq1) (shTC_X3_1 hp) (by decide +kernel : mm_cp 0 0 9 9 9 = true) (Nat.le_of_ble_eq_true rfl) (Nat.le_of_ble_eq_true rfl) dX3_become_12 eg_1 (fun H locs hP hS => ?_)
    refine lv_aload_n hx hb dX3_become_15 rfl (lv_at hl 1 rfl) ?_
    refine mq_getr (Tt := TX3) (N := 2) (C := RX3) hx hb hts hiX3 hown hK hP hq1 rfl 1 2 (by decide) rfl hw6 (fun _ h9 => h9) dX3_become_16 ?_
    refine lv_iconst (v := 0) hx hb dX3_become_19 (by decide) ?_
    refine lv_aload_n hx hb dX3_become_20 rfl (lv_at hl 0 rfl) ?_
    refine mq_getr (Tt := TX3) (N := 2) (C := RX3) hx hb hts hiX3 hown hK hP hp rfl 1 2 (by decide) rfl hw6 (fun _ h9 => h9) dX3_become_21 ?_
    refine lv_iconst (v := 0) hx hb dX3_become_24 (by decide) ?_
    refine lv_bipush (v := 9) hx hb dX3_become_25 (by decide) ?_
    obtain ⟨g_2, eg_2, hf⟩ := mr_some hf
    refine mq_copy hx hb (hml.trans hl.1.symm) hown hw2 hw3 hw4 hw5 hK hI hP hS (n0 := 9) (n1 := 9) (shTC_X3_2 hq1) (shTC_X3_2 hp) (by decide +kernel : mm_cp 0 0 9 9 9 = true) (Nat.le_of_ble_eq_true rfl) (Nat.le_of_ble_eq_true rfl) dX3_become_27 eg_2 (fun H locs hP hS => ?_)
    exact mq_vret hx hb hr hlocks hP hS (Option.some.inj hf) dX3_become_30
  exact hH9 s.heap [] rfl rfl hP hS
abbrev rm_X2_between : Room := ({ frames := 1, cells := 0, slots := 0, locals := 60 } : Room)
set_option maxHeartbeats 4000000 in
set_option maxRecDepth 100000 in
theorem c_X2_between (l : Launch) (D : va_G) (ad : Nat → Nat) (cy : Nat → ClassId) (p0 : Nat) (x1 : Int32) (x2 : Int32) (g : Mm) (hp : TC[p0]? = some sX2) (r0 : Int32) (hf : f_X2_between p0 x1 x2 g = some r0) : Met l yX2_between wsX2_between rm_X2_between (va_Pc [.ref (ad p0), .int x1, .int x2] (mm_pre mm_Z D TC ad cy g)) (mm_Qi D TC ad cy r0 g) 0 0 (mm_A TC ad) := by
  refine Met.ofW (cc := cX2_between) (maxL := 3) (ret := (some .int)) (by decide) rfl ?_
  intro p e s m args below meth c s₁ B hml hv
  obtain ⟨hargs, hP, hK, hI, hZ⟩ := hv
  have hx := B.exec
  have hb := B.bytes
  have hr := B.returns
  have hts := atoms_spec (ws := wsX2_between) B.pre
  have hown : s.vm.findClass RX2 = some m.cls := findClass_of_methodNamed B.named
  have hlocks := B.notSynchronized
  have hw0 := hts (.fieldLink RX2 11 "LeftShoes$Fords" "watched" "[[I") (by decide +kernel)
  have hiX2 : ∀ w ∈ wsX20, w ∈ wsX2_between := by decide +kernel
  have hw2 := hts (.methodLink RX2 29 Lib.Math.min.name) (by decide +kernel)
  have hw3 := hts (.static Lib.Math.min.name) (by decide +kernel)
  have hw4 := hts (.initialized "java/lang/Math") (by decide +kernel)
  have hw5 := hts (.code Lib.Math.min.name Lib.Math.min.code 2 (some .int)) (by decide +kernel)
  have hw6 := hts (.methodLink RX2 35 Lib.Math.max.name) (by decide +kernel)
  have hw7 := hts (.static Lib.Math.max.name) (by decide +kernel)
  have hw8 := hts (.code Lib.Math.max.name Lib.Math.max.code 2 (some .int)) (by decide +kernel)
  rw [show entryFrame m args 3 = F0 m 0 ((lg_sl ([.ref (ad p0), .int x1, .int x2] : List Value) ++ List.replicate (3 - (lg_sl ([.ref (ad p0), .int x1, .int x2] : List Value)).length) Slot.unset).toArray) [] from by rw [hargs]; exact lg_entry_eq m _ _]
  have hl := lv_entry ([.ref (ad p0), .int x1, .int x2] : List Value) (n := 3) (by exact Nat.le_of_ble_eq_true rfl)
  generalize (lg_sl ([.ref (ad p0), .int x1, .int x2] : List Value) ++ List.replicate (3 - (lg_sl ([.ref (ad p0), .int x1, .int x2] : List Value)).length) Slot.unset).toArray = ls at hl ⊢
  have hl : lv_has ls 3 [(0, .ref (ad p0)), (1, .int x1), (2, .int x2)] := by exact hl
  have hS : va_S (mm_A TC ad) s.heap s.heap [] := va_S.rf
  clear hargs
  unfold f_X2_between at hf
  have hH9 : ∀ (H : Heap) (locs : List Loc), H = s.heap → locs = [] → va_P D vwCl (mm_L TC ad cy g) H → va_S (mm_A TC ad) s.heap H locs → W p l e (headSpec wsX2_between (rm_X2_between)).room s m args below meth c H locs 0 0 (MQ below (mm_Qi D TC ad cy r0 g) args s 0 0 (mm_A TC ad)) (F0 m 0 ls []) := by
    intro H locs hH9 hL9 hP hS
    clear hH9 hL9
    refine lv_aload_n hx hb dX2_between_0 rfl (lv_at hl 0 rfl) ?_
    refine mq_getr (Tt := TX2) (N := 5) (C := RX2) hx hb hts hiX2 hown hK hP hp rfl 0 1 (by decide) rfl hw0 (fun _ h9 => h9) dX2_between_1 ?_
    refine lv_iload_n hx hb dX2_between_4 rfl (lv_at hl 1 rfl) ?_
    refine lv_iload_n hx hb dX2_between_5 rfl (lv_at hl 2 rfl) ?_
    refine va_mmin hx hb (hml.trans hl.1.symm) hown hw2 hw3 hw4 hw5 (Nat.le_of_ble_eq_true rfl) (Nat.le_of_ble_eq_true rfl) (Nat.le_refl _) (Nat.le_refl _) dX2_between_6 ?_
    obtain ⟨h_1, hf⟩ := og_some hf
    refine mq_aaldA hx hb hK hP (N := 8) (shTC_X2_1 hp) h_1 dX2_between_9 ?_
    refine lv_iload_n hx hb dX2_between_10 rfl (lv_at hl 1 rfl) ?_
    refine lv_iload_n hx hb dX2_between_11 rfl (lv_at hl 2 rfl) ?_
    refine va_mmax hx hb (hml.trans hl.1.symm) hown hw6 hw7 hw4 hw8 (Nat.le_of_ble_eq_true rfl) (Nat.le_of_ble_eq_true rfl) (Nat.le_refl _) (Nat.le_refl _) dX2_between_12 ?_
    obtain ⟨h_2, hf⟩ := og_some hf
    refine mq_iald hx hb hK hP (N := 8) (shTC_X2_2i_0 hp (mm_in_lt h_1)) h_2 dX2_between_15 ?_
    exact mq_iret hx hb hr rfl hlocks hP hS (Option.some.inj hf) rfl dX2_between_16
  exact hH9 s.heap [] rfl rfl hP hS
abbrev rm_X2_join : Room := ({ frames := 2, cells := 0, slots := 0, locals := 82 } : Room)
set_option maxHeartbeats 4000000 in
set_option maxRecDepth 100000 in
theorem c_X2_join (l : Launch) (D : va_G) (ad : Nat → Nat) (cy : Nat → ClassId) (p0 : Nat) (x1 : Int32) (x2 : Int32) (x3 : Int32) (g : Mm) (hp : TC[p0]? = some sX2) (r0 : Int32) (g' : Mm) (hf : f_X2_join p0 x1 x2 x3 g = some (r0, g')) : Met l yX2_join wsX2_join rm_X2_join (va_Pc [.ref (ad p0), .int x1, .int x2, .int x3] (mm_pre mm_Z D TC ad cy g)) (mm_Qi D TC ad cy r0 g') 0 0 (mm_A TC ad) := by
  refine Met.ofW (cc := cX2_join) (maxL := 5) (ret := (some .int)) (by decide) rfl ?_
  intro p e s m args below meth c s₁ B hml hv
  obtain ⟨hargs, hP, hK, hI, hZ⟩ := hv
  have hx := B.exec
  have hb := B.bytes
  have hr := B.returns
  have hts := atoms_spec (ws := wsX2_join) B.pre
  have hown : s.vm.findClass RX2 = some m.cls := findClass_of_methodNamed B.named
  have hlocks := B.notSynchronized
  have hw0 := hts (.fieldLink RX2 11 "LeftShoes$Fords" "watched" "[[I") (by decide +kernel)
  have hiX2 : ∀ w ∈ wsX20, w ∈ wsX2_join := by decide +kernel
  have hw2 := hts (.methodLink RX2 29 Lib.Math.min.name) (by decide +kernel)
  have hw3 := hts (.static Lib.Math.min.name) (by decide +kernel)
  have hw4 := hts (.initialized "java/lang/Math") (by decide +kernel)
  have hw5 := hts (.code Lib.Math.min.name Lib.Math.min.code 2 (some .int)) (by decide +kernel)
  have hw6 := hts (.methodLink RX2 35 Lib.Math.max.name) (by decide +kernel)
  have hw7 := hts (.static Lib.Math.max.name) (by decide +kernel)
  have hw8 := hts (.code Lib.Math.max.name Lib.Math.max.code 2 (some .int)) (by decide +kernel)
  rw [show entryFrame m args 5 = F0 m 0 ((lg_sl ([.ref (ad p0), .int x1, .int x2, .int x3] : List Value) ++ List.replicate (5 - (lg_sl ([.ref (ad p0), .int x1, .int x2, .int x3] : List Value)).length) Slot.unset).toArray) [] from by rw [hargs]; exact lg_entry_eq m _ _]
  have hl := lv_entry ([.ref (ad p0), .int x1, .int x2, .int x3] : List Value) (n := 5) (by exact Nat.le_of_ble_eq_true rfl)
  generalize (lg_sl ([.ref (ad p0), .int x1, .int x2, .int x3] : List Value) ++ List.replicate (5 - (lg_sl ([.ref (ad p0), .int x1, .int x2, .int x3] : List Value)).length) Slot.unset).toArray = ls at hl ⊢
  have hl : lv_has ls 5 [(0, .ref (ad p0)), (1, .int x1), (2, .int x2), (3, .int x3)] := by exact hl
  have hS : va_S (mm_A TC ad) s.heap s.heap [] := va_S.rf
  clear hargs
  unfold f_X2_join at hf
  have hH9 : ∀ (H : Heap) (locs : List Loc), H = s.heap → locs = [] → va_P D vwCl (mm_L TC ad cy g) H → va_S (mm_A TC ad) s.heap H locs → W p l e (headSpec wsX2_join (rm_X2_join)).room s m args below meth c H locs 0 0 (MQ below (mm_Qi D TC ad cy r0 g') args s 0 0 (mm_A TC ad)) (F0 m 0 ls []) := by
    intro H locs hH9 hL9 hP hS
    clear hH9 hL9
    refine lv_aload_n hx hb dX2_join_0 rfl (lv_at hl 0 rfl) ?_
    refine lv_iload_n hx hb dX2_join_1 rfl (lv_at hl 1 rfl) ?_
    refine lv_iload_n hx hb dX2_join_2 rfl (lv_at hl 2 rfl) ?_
    obtain ⟨r_1, hr_2, hf⟩ := op_some hf
    refine mq_calli (va_runV (As := [.int x1, .int x2]) (rest := []) ⟨hx, hb, hml, hown, hts⟩ (c_X2_between l D ad cy p0 x1 x2 g hp r_1 hr_2) (cwV 2 hts gX2_join_X2_between rfl rfl rfl (by decide +kernel) ⟨Nat.le_of_ble_eq_true rfl, Nat.le_of_ble_eq_true rfl⟩) (mq_preV (q := (RX2, TX2, 5)) mm_zOkC hK hP hI hZ hS hp rfl) rfl rfl hl.1 rfl (lv_room (Nat.le_of_ble_eq_true rfl)) dX2_join_3 ⟨Nat.le_refl _, Nat.le_refl _⟩) hS (fun H locs hP hS => ?_)
    refine lv_istore (lv' := [(4, .int r_1), (0, .ref (ad p0)), (1, .int x1), (2, .int x2), (3, .int x3)]) hx hb dX2_join_6 hl (by decide) rfl (fun ls hl => ?_)
    refine lv_aload_n hx hb dX2_join_8 rfl (lv_at hl 1 rfl) ?_
    refine mq_getr (Tt := TX2) (N := 5) (C := RX2) hx hb hts hiX2 hown hK hP hp rfl 0 1 (by decide) rfl hw0 (fun _ h9 => h9) dX2_join_9 ?_
    refine lv_iload_n hx hb dX2_join_12 rfl (lv_at hl 2 rfl) ?_
    refine lv_iload_n hx hb dX2_join_13 rfl (lv_at hl 3 rfl) ?_
    refine va_mmin hx hb (hml.trans hl.1.symm) hown hw2 hw3 hw4 hw5 (Nat.le_of_ble_eq_true rfl) (Nat.le_of_ble_eq_true rfl) (Nat.le_refl _) (Nat.le_refl _) dX2_join_14 ?_
    obtain ⟨h_3, hf⟩ := og_some hf
    refine mq_aaldA hx hb hK hP (N := 8) (shTC_X2_1 hp) h_3 dX2_join_17 ?_
    refine lv_iload_n hx hb dX2_join_18 rfl (lv_at hl 2 rfl) ?_
    refine lv_iload_n hx hb dX2_join_19 rfl (lv_at hl 3 rfl) ?_
    refine va_mmax hx hb (hml.trans hl.1.symm) hown hw6 hw7 hw4 hw8 (Nat.le_of_ble_eq_true rfl) (Nat.le_of_ble_eq_true rfl) (Nat.le_refl _) (Nat.le_refl _) dX2_join_20 ?_
    refine lv_iload_n hx hb dX2_join_23 rfl (lv_at hl 4 rfl) ?_
    obtain ⟨h_4, hf⟩ := og_some hf
    obtain ⟨g_5, eg_5, hf⟩ := mw_some hf
    refine mq_iast hx hb hK hI hP hS (N := 8) (shTC_X2_2i_0 hp (mm_in_lt h_3)) h_4 dX2_join_24 eg_5 (fun H locs hP hS => ?_)
    refine lv_iload hx hb dX2_join_25 (lv_at hl 0 rfl) ?_
    exact mq_iret hx hb hr rfl hlocks hP hS (pr_1 hf) (pr_2 hf) dX2_join_27
  exact hH9 s.heap [] rfl rfl hP hS
abbrev rm_X2_joined : Room := ({ frames := 2, cells := 0, slots := 0, locals := 82 } : Room)
set_option maxHeartbeats 4000000 in
set_option maxRecDepth 100000 in
theorem c_X2_joined (l : Launch) (D : va_G) (ad : Nat → Nat) (cy : Nat → ClassId) (p0 : Nat) (g : Mm) (hp : TC[p0]? = some sX2) (r0 : Int32) (hf : f_X2_joined p0 g = some r0) : Met l yX2_joined wsX2_joined rm_X2_joined (va_Pc [.ref (ad p0)] (mm_pre mm_Z D TC ad cy g)) (mm_Qi D TC ad cy r0 g) 0 0 (mm_A TC ad) := by
  refine Met.ofW (cc := cX2_joined) (maxL := 4) (ret := (some .int)) (by decide) rfl ?_
  intro p e s m args below meth c s₁ B hml hv
  obtain ⟨hargs, hP, hK, hI, hZ⟩ := hv
  have hx := B.exec
  have hb := B.bytes
  have hr := B.returns
  have hts := atoms_spec (ws := wsX2_joined) B.pre
  have hown : s.vm.findClass RX2 = some m.cls := findClass_of_methodNamed B.named
  have hlocks := B.notSynchronized
  rw [show entryFrame m args 4 = F0 m 0 ((lg_sl ([.ref (ad p0)] : List Value) ++ List.replicate (4 - (lg_sl ([.ref (ad p0)] : List Value)).length) Slot.unset).toArray) [] from by rw [hargs]; exact lg_entry_eq m _ _]
  have hl := lv_entry ([.ref (ad p0)] : List Value) (n := 4) (by exact Nat.le_of_ble_eq_true rfl)
  generalize (lg_sl ([.ref (ad p0)] : List Value) ++ List.replicate (4 - (lg_sl ([.ref (ad p0)] : List Value)).length) Slot.unset).toArray = ls at hl ⊢
  have hl : lv_has ls 4 [(0, .ref (ad p0))] := by exact hl
  have hS : va_S (mm_A TC ad) s.heap s.heap [] := va_S.rf
  clear hargs
  have hc14 : ∀ (K_4 : Int32 → Int32 → Mm → Option (Int32)), (∀ (x1 : Int32) (x2 : Int32) (H : Heap) (locs : List Loc) (ls : Array Slot), va_P D vwCl (mm_L TC ad cy g) H → va_S (mm_A TC ad) s.heap H locs → lv_has ls 4 [(0, .ref (ad p0)), (1, .int x1), (2, .int x2)] → K_4 x1 x2 g = some r0 → W p l e (headSpec wsX2_joined (rm_X2_joined)).room s m args below meth c H locs 0 0 (MQ below (mm_Qi D TC ad cy r0 g) args s 0 0 (mm_A TC ad)) (F0 m 4 ls [])) → ∀ (n : Nat), ∀ (x1 : Int32) (x2 : Int32) (x3 : Int32) (H : Heap) (locs : List Loc) (ls : Array Slot), va_P D vwCl (mm_L TC ad cy g) H → va_S (mm_A TC ad) s.heap H locs → lv_has ls 4 [(0, .ref (ad p0)), (1, .int x1), (2, .int x2), (3, .int x3)] → f_X2_joined_c14 K_4 p0 n x1 x2 x3 g = some r0 → W p l e (headSpec wsX2_joined (rm_X2_joined)).room s m args below meth c H locs 0 0 (MQ below (mm_Qi D TC ad cy r0 g) args s 0 0 (mm_A TC ad)) (F0 m 14 ls []) := by
    intro K_4 hK_4 n
    induction n with
    | zero =>
      intro x1 x2 x3 H locs ls hP hS hl hf
      rw [f_X2_joined_c14] at hf
      cases hf
    | succ n ih =>
      intro x1 x2 x3 H locs ls hP hS hl hf
      rw [f_X2_joined_c14] at hf
      refine lv_iload_n hx hb dX2_joined_14 rfl (lv_at hl 3 rfl) ?_
      refine lv_bipush (v := 8) hx hb dX2_joined_15 (by decide) ?_
      refine lv_icmp_ge (tgt := 39) hx hb dX2_joined_17 (by decide) (fun c_3 => ?_) (fun c_3 => ?_)
      · replace hf := ite_t c_3 hf
        obtain ⟨x2_4, ex2_4, hf⟩ := mv_some hf
        refine lv_iinc (v := x2_4) (lv' := [(2, .int x2_4), (0, .ref (ad p0)), (1, .int x1), (3, .int x3)]) hx hb dX2_joined_39 hl (k := 2) rfl (by rw [ex2_4]; rfl) (by decide) rfl (fun ls hl => ?_)
        refine lv_goto (tgt := 4) hx hb dX2_joined_42 (by decide) ?_
        exact hK_4 x1 x2_4 H locs ls hP hS (lv_sub hl [1, 2, 0] rfl) hf
      · replace hf := ite_f c_3 hf
        refine lv_aload_n hx hb dX2_joined_20 rfl (lv_at hl 0 rfl) ?_
        refine lv_iload_n hx hb dX2_joined_21 rfl (lv_at hl 2 rfl) ?_
        refine lv_iload_n hx hb dX2_joined_22 rfl (lv_at hl 3 rfl) ?_
        obtain ⟨r_5, hr_6, hf⟩ := op_some hf
        refine mq_calli (va_runV (As := [.int x2, .int x3]) (rest := []) ⟨hx, hb, hml, hown, hts⟩ (c_X2_between l D ad cy p0 x2 x3 g hp r_5 hr_6) (cwV 2 hts gX2_joined_X2_between rfl rfl rfl (by decide +kernel) ⟨Nat.le_of_ble_eq_true rfl, Nat.le_of_ble_eq_true rfl⟩) (mq_preV (q := (RX2, TX2, 5)) mm_zOkC hK hP hI hZ hS hp rfl) rfl rfl hl.1 rfl (lv_room (Nat.le_of_ble_eq_true rfl)) dX2_joined_23 ⟨Nat.le_refl _, Nat.le_refl _⟩) hS (fun H locs hP hS => ?_)
        refine lv_iconst (v := (-1)) hx hb dX2_joined_26 (by decide) ?_
        refine lv_icmp_eq (tgt := 33) hx hb dX2_joined_27 (by decide) (fun c_7 => ?_) (fun c_7 => ?_)
        · replace hf := ite_t c_7 hf
          obtain ⟨x3_8, ex3_8, hf⟩ := mv_some hf
          refine lv_iinc (v := x3_8) (lv' := [(3, .int x3_8), (0, .ref (ad p0)), (1, .int x1), (2, .int x2)]) hx hb dX2_joined_33 hl (k := 3) rfl (by rw [ex3_8]; rfl) (by decide) rfl (fun ls hl => ?_)
          refine lv_goto (tgt := 14) hx hb dX2_joined_36 (by decide) ?_
          exact ih x1 x2 x3_8 H locs ls hP hS (lv_sub hl [1, 2, 3, 0] rfl) hf
        · replace hf := ite_f c_7 hf
          obtain ⟨x1_9, ex1_9, hf⟩ := mv_some hf
          refine lv_iinc (v := x1_9) (lv' := [(1, .int x1_9), (0, .ref (ad p0)), (2, .int x2), (3, .int x3)]) hx hb dX2_joined_30 hl (k := 1) rfl (by rw [ex1_9]; rfl) (by decide) rfl (fun ls hl => ?_)
          obtain ⟨x3_10, ex3_10, hf⟩ := mv_some hf
          refine lv_iinc (v := x3_10) (lv' := [(3, .int x3_10), (1, .int x1_9), (0, .ref (ad p0)), (2, .int x2)]) hx hb dX2_joined_33 hl (k := 3) rfl (by rw [ex3_10]; rfl) (by decide) rfl (fun ls hl => ?_)
          refine lv_goto (tgt := 14) hx hb dX2_joined_36 (by decide) ?_
          exact ih x1_9 x2 x3_10 H locs ls hP hS (lv_sub hl [2, 1, 3, 0] rfl) hf
  have hc4 : ∀ (n : Nat), ∀ (x1 : Int32) (x2 : Int32) (H : Heap) (locs : List Loc) (ls : Array Slot), va_P D vwCl (mm_L TC ad cy g) H → va_S (mm_A TC ad) s.heap H locs → lv_has ls 4 [(0, .ref (ad p0)), (1, .int x1), (2, .int x2)] → f_X2_joined_c4 p0 n x1 x2 g = some r0 → W p l e (headSpec wsX2_joined (rm_X2_joined)).room s m args below meth c H locs 0 0 (MQ below (mm_Qi D TC ad cy r0 g) args s 0 0 (mm_A TC ad)) (F0 m 4 ls []) := by
    intro n
    induction n with
    | zero =>
      intro x1 x2 H locs ls hP hS hl hf
      rw [f_X2_joined_c4] at hf
      cases hf
    | succ n ih =>
      intro x1 x2 H locs ls hP hS hl hf
      rw [f_X2_joined_c4] at hf
      refine lv_iload_n hx hb dX2_joined_4 rfl (lv_at hl 2 rfl) ?_
      refine lv_bipush (v := 8) hx hb dX2_joined_5 (by decide) ?_
      refine lv_icmp_ge (tgt := 45) hx hb dX2_joined_7 (by decide) (fun c_1 => ?_) (fun c_1 => ?_)
      · replace hf := ite_t c_1 hf
        refine lv_iload_n hx hb dX2_joined_45 rfl (lv_at hl 1 rfl) ?_
        exact mq_iret hx hb hr rfl hlocks hP hS (Option.some.inj hf) rfl dX2_joined_46
      · replace hf := ite_f c_1 hf
        refine lv_iload_n hx hb dX2_joined_10 rfl (lv_at hl 2 rfl) ?_
        refine lv_iconst (v := 1) hx hb dX2_joined_11 (by decide) ?_
        refine lv_iadd hx hb dX2_joined_12 ?_
        obtain ⟨x3_2, ex3_2, hf⟩ := mv_some hf
        refine mq_nm ex3_2 ?_
        refine lv_istore_n (lv' := [(3, .int x3_2), (0, .ref (ad p0)), (1, .int x1), (2, .int x2)]) hx hb dX2_joined_13 rfl hl (by decide) rfl (fun ls hl => ?_)
        exact hc14 (f_X2_joined_c4 p0 n) ih FU x1 x2 x3_2 H locs ls hP hS (lv_sub hl [1, 2, 3, 0] rfl) hf
  unfold f_X2_joined at hf
  have hH9 : ∀ (H : Heap) (locs : List Loc), H = s.heap → locs = [] → va_P D vwCl (mm_L TC ad cy g) H → va_S (mm_A TC ad) s.heap H locs → W p l e (headSpec wsX2_joined (rm_X2_joined)).room s m args below meth c H locs 0 0 (MQ below (mm_Qi D TC ad cy r0 g) args s 0 0 (mm_A TC ad)) (F0 m 0 ls []) := by
    intro H locs hH9 hL9 hP hS
    clear hH9 hL9
    refine lv_iconst (v := 0) hx hb dX2_joined_0 (by decide) ?_
    refine lv_istore_n (lv' := [(1, .int 0), (0, .ref (ad p0))]) hx hb dX2_joined_1 rfl hl (by decide) rfl (fun ls hl => ?_)
    refine lv_iconst (v := 0) hx hb dX2_joined_2 (by decide) ?_
    refine lv_istore_n (lv' := [(2, .int 0), (1, .int 0), (0, .ref (ad p0))]) hx hb dX2_joined_3 rfl hl (by decide) rfl (fun ls hl => ?_)
    exact hc4 FU 0 0 H locs ls hP hS (lv_sub hl [2, 1, 0] rfl) hf
  exact hH9 s.heap [] rfl rfl hP hS
abbrev rm_X2_bestInto : Room := ({ frames := 2, cells := 0, slots := 0, locals := 82 } : Room)
set_option maxHeartbeats 4000000 in
set_option maxRecDepth 100000 in
theorem c_X2_bestInto (l : Launch) (D : va_G) (ad : Nat → Nat) (cy : Nat → ClassId) (p0 : Nat) (x1 : Int32) (g : Mm) (hp : TC[p0]? = some sX2) (r0 : Int32) (hf : f_X2_bestInto p0 x1 g = some r0) : Met l yX2_bestInto wsX2_bestInto rm_X2_bestInto (va_Pc [.ref (ad p0), .int x1] (mm_pre mm_Z D TC ad cy g)) (mm_Qi D TC ad cy r0 g) 0 0 (mm_A TC ad) := by
  refine Met.ofW (cc := cX2_bestInto) (maxL := 5) (ret := (some .int)) (by decide) rfl ?_
  intro p e s m args below meth c s₁ B hml hv
  obtain ⟨hargs, hP, hK, hI, hZ⟩ := hv
  have hx := B.exec
  have hb := B.bytes
  have hr := B.returns
  have hts := atoms_spec (ws := wsX2_bestInto) B.pre
  have hown : s.vm.findClass RX2 = some m.cls := findClass_of_methodNamed B.named
  have hlocks := B.notSynchronized
  have hw0 := hts (.fieldLink RX2 16 "LeftShoes$Fords" "reached" "[I") (by decide +kernel)
  have hiX2 : ∀ w ∈ wsX20, w ∈ wsX2_bestInto := by decide +kernel
  have hw2 := hts (.methodLink RX2 35 Lib.Math.max.name) (by decide +kernel)
  have hw3 := hts (.static Lib.Math.max.name) (by decide +kernel)
  have hw4 := hts (.initialized "java/lang/Math") (by decide +kernel)
  have hw5 := hts (.code Lib.Math.max.name Lib.Math.max.code 2 (some .int)) (by decide +kernel)
  rw [show entryFrame m args 5 = F0 m 0 ((lg_sl ([.ref (ad p0), .int x1] : List Value) ++ List.replicate (5 - (lg_sl ([.ref (ad p0), .int x1] : List Value)).length) Slot.unset).toArray) [] from by rw [hargs]; exact lg_entry_eq m _ _]
  have hl := lv_entry ([.ref (ad p0), .int x1] : List Value) (n := 5) (by exact Nat.le_of_ble_eq_true rfl)
  generalize (lg_sl ([.ref (ad p0), .int x1] : List Value) ++ List.replicate (5 - (lg_sl ([.ref (ad p0), .int x1] : List Value)).length) Slot.unset).toArray = ls at hl ⊢
  have hl : lv_has ls 5 [(0, .ref (ad p0)), (1, .int x1)] := by exact hl
  have hS : va_S (mm_A TC ad) s.heap s.heap [] := va_S.rf
  clear hargs
  have hc4 : ∀ (n : Nat), ∀ (x2 : Int32) (x3 : Int32) (H : Heap) (locs : List Loc) (ls : Array Slot), va_P D vwCl (mm_L TC ad cy g) H → va_S (mm_A TC ad) s.heap H locs → lv_has ls 5 [(0, .ref (ad p0)), (1, .int x1), (2, .int x2), (3, .int x3)] → f_X2_bestInto_c4 p0 x1 n x2 x3 g = some r0 → W p l e (headSpec wsX2_bestInto (rm_X2_bestInto)).room s m args below meth c H locs 0 0 (MQ below (mm_Qi D TC ad cy r0 g) args s 0 0 (mm_A TC ad)) (F0 m 4 ls []) := by
    intro n
    induction n with
    | zero =>
      intro x2 x3 H locs ls hP hS hl hf
      rw [f_X2_bestInto_c4] at hf
      cases hf
    | succ n ih =>
      intro x2 x3 H locs ls hP hS hl hf
      rw [f_X2_bestInto_c4] at hf
      refine lv_iload_n hx hb dX2_bestInto_4 rfl (lv_at hl 3 rfl) ?_
      refine lv_bipush (v := 8) hx hb dX2_bestInto_5 (by decide) ?_
      refine lv_icmp_ge (tgt := 50) hx hb dX2_bestInto_7 (by decide) (fun c_1 => ?_) (fun c_1 => ?_)
      · replace hf := ite_t c_1 hf
        refine lv_iload_n hx hb dX2_bestInto_50 rfl (lv_at hl 2 rfl) ?_
        exact mq_iret hx hb hr rfl hlocks hP hS (Option.some.inj hf) rfl dX2_bestInto_51
      · replace hf := ite_f c_1 hf
        refine lv_aload_n hx hb dX2_bestInto_10 rfl (lv_at hl 0 rfl) ?_
        refine lv_iload_n hx hb dX2_bestInto_11 rfl (lv_at hl 3 rfl) ?_
        refine lv_iload_n hx hb dX2_bestInto_12 rfl (lv_at hl 1 rfl) ?_
        obtain ⟨r_2, hr_3, hf⟩ := op_some hf
        refine mq_calli (va_runV (As := [.int x3, .int x1]) (rest := []) ⟨hx, hb, hml, hown, hts⟩ (c_X2_between l D ad cy p0 x3 x1 g hp r_2 hr_3) (cwV 2 hts gX2_bestInto_X2_between rfl rfl rfl (by decide +kernel) ⟨Nat.le_of_ble_eq_true rfl, Nat.le_of_ble_eq_true rfl⟩) (mq_preV (q := (RX2, TX2, 5)) mm_zOkC hK hP hI hZ hS hp rfl) rfl rfl hl.1 rfl (lv_room (Nat.le_of_ble_eq_true rfl)) dX2_bestInto_13 ⟨Nat.le_refl _, Nat.le_refl _⟩) hS (fun H locs hP hS => ?_)
        refine lv_istore (lv' := [(4, .int r_2), (0, .ref (ad p0)), (1, .int x1), (2, .int x2), (3, .int x3)]) hx hb dX2_bestInto_16 hl (by decide) rfl (fun ls hl => ?_)
        refine lv_iload hx hb dX2_bestInto_18 (lv_at hl 0 rfl) ?_
        refine lv_iconst (v := (-1)) hx hb dX2_bestInto_20 (by decide) ?_
        refine lv_icmp_eq (tgt := 44) hx hb dX2_bestInto_21 (by decide) (fun c_4 => ?_) (fun c_4 => ?_)
        · replace hf := ite_t c_4 hf
          obtain ⟨x3_5, ex3_5, hf⟩ := mv_some hf
          refine lv_iinc (v := x3_5) (lv' := [(3, .int x3_5), (4, .int r_2), (0, .ref (ad p0)), (1, .int x1), (2, .int x2)]) hx hb dX2_bestInto_44 hl (k := 4) rfl (by rw [ex3_5]; rfl) (by decide) rfl (fun ls hl => ?_)
          refine lv_goto (tgt := 4) hx hb dX2_bestInto_47 (by decide) ?_
          exact ih x2 x3_5 H locs ls hP hS (lv_sub hl [2, 3, 4, 0] rfl) hf
        · replace hf := ite_f c_4 hf
          refine lv_iload_n hx hb dX2_bestInto_24 rfl (lv_at hl 3 rfl) ?_
          refine lv_aload_n hx hb dX2_bestInto_25 rfl (lv_at hl 1 rfl) ?_
          refine mq_getr (Tt := TX2) (N := 5) (C := RX2) hx hb hts hiX2 hown hK hP hp rfl 1 10 (by decide) rfl hw0 (fun _ h9 => h9) dX2_bestInto_26 ?_
          refine lv_iload_n hx hb dX2_bestInto_29 rfl (lv_at hl 4 rfl) ?_
          obtain ⟨h_6, hf⟩ := og_some hf
          refine mq_iald hx hb hK hP (N := 8) (shTC_X2_10 hp) h_6 dX2_bestInto_30 ?_
          refine lv_bipush (v := 16) hx hb dX2_bestInto_31 (by decide) ?_
          refine lv_idiv hx hb dX2_bestInto_33 (by decide) ?_
          refine lv_bipush (v := 16) hx hb dX2_bestInto_34 (by decide) ?_
          refine lv_iload hx hb dX2_bestInto_36 (lv_at hl 0 rfl) ?_
          refine lv_isub hx hb dX2_bestInto_38 ?_
          refine lv_imul hx hb dX2_bestInto_39 ?_
          refine va_mmax hx hb (hml.trans hl.1.symm) hown hw2 hw3 hw4 hw5 (Nat.le_of_ble_eq_true rfl) (Nat.le_of_ble_eq_true rfl) (Nat.le_refl _) (Nat.le_refl _) dX2_bestInto_40 ?_
          obtain ⟨x2_7, ex2_7, hf⟩ := mv_some hf
          refine mq_nm ex2_7 ?_
          refine lv_istore_n (lv' := [(2, .int x2_7), (4, .int r_2), (0, .ref (ad p0)), (1, .int x1), (3, .int x3)]) hx hb dX2_bestInto_43 rfl hl (by decide) rfl (fun ls hl => ?_)
          obtain ⟨x3_8, ex3_8, hf⟩ := mv_some hf
          refine lv_iinc (v := x3_8) (lv' := [(3, .int x3_8), (2, .int x2_7), (4, .int r_2), (0, .ref (ad p0)), (1, .int x1)]) hx hb dX2_bestInto_44 hl (k := 4) rfl (by rw [ex3_8]; rfl) (by decide) rfl (fun ls hl => ?_)
          refine lv_goto (tgt := 4) hx hb dX2_bestInto_47 (by decide) ?_
          exact ih x2_7 x3_8 H locs ls hP hS (lv_sub hl [3, 4, 1, 0] rfl) hf
  unfold f_X2_bestInto at hf
  have hH9 : ∀ (H : Heap) (locs : List Loc), H = s.heap → locs = [] → va_P D vwCl (mm_L TC ad cy g) H → va_S (mm_A TC ad) s.heap H locs → W p l e (headSpec wsX2_bestInto (rm_X2_bestInto)).room s m args below meth c H locs 0 0 (MQ below (mm_Qi D TC ad cy r0 g) args s 0 0 (mm_A TC ad)) (F0 m 0 ls []) := by
    intro H locs hH9 hL9 hP hS
    clear hH9 hL9
    refine lv_iconst (v := 0) hx hb dX2_bestInto_0 (by decide) ?_
    refine lv_istore_n (lv' := [(2, .int 0), (0, .ref (ad p0)), (1, .int x1)]) hx hb dX2_bestInto_1 rfl hl (by decide) rfl (fun ls hl => ?_)
    refine lv_iconst (v := 0) hx hb dX2_bestInto_2 (by decide) ?_
    refine lv_istore_n (lv' := [(3, .int 0), (2, .int 0), (0, .ref (ad p0)), (1, .int x1)]) hx hb dX2_bestInto_3 rfl hl (by decide) rfl (fun ls hl => ?_)
    exact hc4 FU 0 0 H locs ls hP hS (lv_sub hl [2, 3, 1, 0] rfl) hf
  exact hH9 s.heap [] rfl rfl hP hS
abbrev rm_X2_search : Room := ({ frames := 3, cells := 0, slots := 0, locals := 106 } : Room)
set_option maxHeartbeats 4000000 in
set_option maxRecDepth 100000 in
theorem c_X2_search (l : Launch) (D : va_G) (ad : Nat → Nat) (cy : Nat → ClassId) (p0 : Nat) (x1 : Int32) (x2 : Int32) (g : Mm) (hp : TC[p0]? = some sX2) (r0 : Int32) (g' : Mm) (hf : f_X2_search p0 x1 x2 g = some (r0, g')) : Met l yX2_search wsX2_search rm_X2_search (va_Pc [.ref (ad p0), .int x1, .int x2] (mm_pre mm_Z D TC ad cy g)) (mm_Qi D TC ad cy r0 g') 0 0 (mm_A TC ad) := by
  refine Met.ofW (cc := cX2_search) (maxL := 5) (ret := (some .boolean)) (by decide) rfl ?_
  intro p e s m args below meth c s₁ B hml hv
  obtain ⟨hargs, hP, hK, hI, hZ⟩ := hv
  have hx := B.exec
  have hb := B.bytes
  have hr := B.returns
  have hts := atoms_spec (ws := wsX2_search) B.pre
  have hown : s.vm.findClass RX2 = some m.cls := findClass_of_methodNamed B.named
  have hlocks := B.notSynchronized
  have hw0 := hts (.fieldLink RX2 41 "LeftShoes$Fords" "product" "I") (by decide +kernel)
  have hiX2 : ∀ w ∈ wsX20, w ∈ wsX2_search := by decide +kernel
  have hw2 := hts (.fieldLink RX2 45 "LeftShoes$Fords" "fewest" "I") (by decide +kernel)
  have hw3 := hts (.fieldLink RX2 16 "LeftShoes$Fords" "reached" "[I") (by decide +kernel)
  have hw4 := hts (.constant RX2 48 (268435456)) (by decide +kernel)
  have hw5 := hts (.fieldLink RX2 20 "LeftShoes$Fords" "next" "[I") (by decide +kernel)
  have hw6 := hts (.methodLink RX2 53 arraycopyName) (by decide +kernel)
  have hw7 := hts (.native arraycopyName) (by decide +kernel)
  have hw8 := hts (.static arraycopyName) (by decide +kernel)
  have hw9 := hts (.initialized "java/lang/System") (by decide +kernel)
  rw [show entryFrame m args 5 = F0 m 0 ((lg_sl ([.ref (ad p0), .int x1, .int x2] : List Value) ++ List.replicate (5 - (lg_sl ([.ref (ad p0), .int x1, .int x2] : List Value)).length) Slot.unset).toArray) [] from by rw [hargs]; exact lg_entry_eq m _ _]
  have hl := lv_entry ([.ref (ad p0), .int x1, .int x2] : List Value) (n := 5) (by exact Nat.le_of_ble_eq_true rfl)
  generalize (lg_sl ([.ref (ad p0), .int x1, .int x2] : List Value) ++ List.replicate (5 - (lg_sl ([.ref (ad p0), .int x1, .int x2] : List Value)).length) Slot.unset).toArray = ls at hl ⊢
  have hl : lv_has ls 5 [(0, .ref (ad p0)), (1, .int x1), (2, .int x2)] := by exact hl
  have hS : va_S (mm_A TC ad) s.heap s.heap [] := va_S.rf
  clear hargs
  have hc37 : ∀ (K_28 : Int32 → Mm → Option (Int32 × Mm)), (∀ (x3 : Int32) (g : Mm) (H : Heap) (locs : List Loc) (ls : Array Slot), va_P D vwCl (mm_L TC ad cy g) H → va_S (mm_A TC ad) s.heap H locs → lv_has ls 5 [(0, .ref (ad p0)), (1, .int x1), (2, .int x2), (3, .int x3)] → K_28 x3 g = some (r0, g') → W p l e (headSpec wsX2_search (rm_X2_search)).room s m args below meth c H locs 0 0 (MQ below (mm_Qi D TC ad cy r0 g') args s 0 0 (mm_A TC ad)) (F0 m 28 ls [])) → ∀ (n : Nat), ∀ (x3 : Int32) (x4 : Int32) (g : Mm) (H : Heap) (locs : List Loc) (ls : Array Slot), va_P D vwCl (mm_L TC ad cy g) H → va_S (mm_A TC ad) s.heap H locs → lv_has ls 5 [(0, .ref (ad p0)), (1, .int x1), (2, .int x2), (3, .int x3), (4, .int x4)] → f_X2_search_c37 K_28 p0 x2 n x3 x4 g = some (r0, g') → W p l e (headSpec wsX2_search (rm_X2_search)).room s m args below meth c H locs 0 0 (MQ below (mm_Qi D TC ad cy r0 g') args s 0 0 (mm_A TC ad)) (F0 m 37 ls []) := by
    intro K_28 hK_28 n
    induction n with
    | zero =>
      intro x3 x4 g H locs ls hP hS hl hf
      rw [f_X2_search_c37] at hf
      cases hf
    | succ n ih =>
      intro x3 x4 g H locs ls hP hS hl hf
      rw [f_X2_search_c37] at hf
      refine lv_iload hx hb dX2_search_37 (lv_at hl 4 rfl) ?_
      refine lv_bipush (v := 8) hx hb dX2_search_39 (by decide) ?_
      refine lv_icmp_ge (tgt := 63) hx hb dX2_search_41 (by decide) (fun c_8 => ?_) (fun c_8 => ?_)
      · replace hf := ite_t c_8 hf
        refine lv_aload_n hx hb dX2_search_63 rfl (lv_at hl 0 rfl) ?_
        refine mq_getr (Tt := TX2) (N := 5) (C := RX2) hx hb hts hiX2 hown hK hP hp rfl 2 11 (by decide) rfl hw5 (fun _ h9 => h9) dX2_search_64 ?_
        refine lv_iconst (v := 0) hx hb dX2_search_67 (by decide) ?_
        refine lv_aload_n hx hb dX2_search_68 rfl (lv_at hl 0 rfl) ?_
        refine mq_getr (Tt := TX2) (N := 5) (C := RX2) hx hb hts hiX2 hown hK hP hp rfl 1 10 (by decide) rfl hw3 (fun _ h9 => h9) dX2_search_69 ?_
        refine lv_iconst (v := 0) hx hb dX2_search_72 (by decide) ?_
        refine lv_bipush (v := 8) hx hb dX2_search_73 (by decide) ?_
        obtain ⟨g_9, eg_9, hf⟩ := mr_some hf
        refine mq_copy hx hb (hml.trans hl.1.symm) hown hw6 hw7 hw8 hw9 hK hI hP hS (n0 := 8) (n1 := 8) (shTC_X2_11 hp) (shTC_X2_10 hp) (by decide +kernel : mm_cp 0 0 8 8 8 = true) (Nat.le_of_ble_eq_true rfl) (Nat.le_of_ble_eq_true rfl) dX2_search_75 eg_9 (fun H locs hP hS => ?_)
        refine lv_aload_n hx hb dX2_search_78 rfl (lv_at hl 0 rfl) ?_
        refine mq_getr (Tt := TX2) (N := 5) (C := RX2) hx hb hts hiX2 hown hK hP hp rfl 1 10 (by decide) rfl hw3 (fun _ h9 => h9) dX2_search_79 ?_
        refine lv_iload_n hx hb dX2_search_82 rfl (lv_at hl 2 rfl) ?_
        obtain ⟨h_10, hf⟩ := og_some hf
        refine mq_iald hx hb hK hP (N := 8) (shTC_X2_10 hp) h_10 dX2_search_83 ?_
        refine lv_aload_n hx hb dX2_search_84 rfl (lv_at hl 0 rfl) ?_
        refine mq_geti (Tt := TX2) (N := 5) (C := RX2) hx hb hts hiX2 hown hK hP hp rfl 3 (by decide) rfl hw0 (fun _ h9 => h9) dX2_search_85 ?_
        refine lv_icmp_le (tgt := 106) hx hb dX2_search_88 (by decide) (fun c_11 => ?_) (fun c_11 => ?_)
        · replace hf := ite_t c_11 hf
          obtain ⟨x3_12, ex3_12, hf⟩ := mv_some hf
          refine lv_iinc (v := x3_12) (lv' := [(3, .int x3_12), (0, .ref (ad p0)), (1, .int x1), (2, .int x2), (4, .int x4)]) hx hb dX2_search_106 hl (k := 3) rfl (by rw [ex3_12]; rfl) (by decide) rfl (fun ls hl => ?_)
          refine lv_goto (tgt := 28) hx hb dX2_search_109 (by decide) ?_
          exact hK_28 x3_12 g_9 H locs ls hP hS (lv_sub hl [1, 2, 3, 0] rfl) hf
        · replace hf := ite_f c_11 hf
          refine lv_aload_n hx hb dX2_search_91 rfl (lv_at hl 0 rfl) ?_
          refine lv_aload_n hx hb dX2_search_92 rfl (lv_at hl 0 rfl) ?_
          refine mq_getr (Tt := TX2) (N := 5) (C := RX2) hx hb hts hiX2 hown hK hP hp rfl 1 10 (by decide) rfl hw3 (fun _ h9 => h9) dX2_search_93 ?_
          refine lv_iload_n hx hb dX2_search_96 rfl (lv_at hl 2 rfl) ?_
          obtain ⟨h_13, hf⟩ := og_some hf
          refine mq_iald hx hb hK hP (N := 8) (shTC_X2_10 hp) h_13 dX2_search_97 ?_
          obtain ⟨g_14, eg_14, hf⟩ := mw_some hf
          refine mq_puti (Tt := TX2) (N := 5) (C := RX2) (ty := .int) hx hb hts hiX2 tyX2 tyX2_ok nmX2 hown hK hI hP hS hp rfl 3 (by decide) rfl hw0 (fun _ h9 => h9) rfl (by decide +kernel) rfl rfl dX2_search_98 eg_14 (fun H locs hP hS => ?_)
          refine lv_aload_n hx hb dX2_search_101 rfl (lv_at hl 0 rfl) ?_
          refine lv_iload_n hx hb dX2_search_102 rfl (lv_at hl 3 rfl) ?_
          obtain ⟨g_15, eg_15, hf⟩ := mw_some hf
          refine mq_puti (Tt := TX2) (N := 5) (C := RX2) (ty := .int) hx hb hts hiX2 tyX2 tyX2_ok nmX2 hown hK hI hP hS hp rfl 4 (by decide) rfl hw2 (fun _ h9 => h9) rfl (by decide +kernel) rfl rfl dX2_search_103 eg_15 (fun H locs hP hS => ?_)
          obtain ⟨x3_16, ex3_16, hf⟩ := mv_some hf
          refine lv_iinc (v := x3_16) (lv' := [(3, .int x3_16), (0, .ref (ad p0)), (1, .int x1), (2, .int x2), (4, .int x4)]) hx hb dX2_search_106 hl (k := 3) rfl (by rw [ex3_16]; rfl) (by decide) rfl (fun ls hl => ?_)
          refine lv_goto (tgt := 28) hx hb dX2_search_109 (by decide) ?_
          exact hK_28 x3_16 g_15 H locs ls hP hS (lv_sub hl [1, 2, 3, 0] rfl) hf
      · replace hf := ite_f c_8 hf
        refine lv_aload_n hx hb dX2_search_44 rfl (lv_at hl 0 rfl) ?_
        refine mq_getr (Tt := TX2) (N := 5) (C := RX2) hx hb hts hiX2 hown hK hP hp rfl 2 11 (by decide) rfl hw5 (fun _ h9 => h9) dX2_search_45 ?_
        refine lv_iload hx hb dX2_search_48 (lv_at hl 4 rfl) ?_
        refine lv_aload_n hx hb dX2_search_50 rfl (lv_at hl 0 rfl) ?_
        refine lv_iload hx hb dX2_search_51 (lv_at hl 4 rfl) ?_
        obtain ⟨r_17, hr_18, hf⟩ := op_some hf
        refine mq_calli (va_runV (As := [.int x4]) (rest := [.int x4, .ref (ad (p0 + 11))]) ⟨hx, hb, hml, hown, hts⟩ (c_X2_bestInto l D ad cy p0 x4 g hp r_17 hr_18) (cwV 1 hts gX2_search_X2_bestInto rfl rfl rfl (by decide +kernel) ⟨Nat.le_of_ble_eq_true rfl, Nat.le_of_ble_eq_true rfl⟩) (mq_preV (q := (RX2, TX2, 5)) mm_zOkC hK hP hI hZ hS hp rfl) rfl rfl hl.1 rfl (lv_room (Nat.le_of_ble_eq_true rfl)) dX2_search_53 ⟨Nat.le_refl _, Nat.le_refl _⟩) hS (fun H locs hP hS => ?_)
        obtain ⟨h_19, hf⟩ := og_some hf
        obtain ⟨g_20, eg_20, hf⟩ := mw_some hf
        refine mq_iast hx hb hK hI hP hS (N := 8) (shTC_X2_11 hp) h_19 dX2_search_56 eg_20 (fun H locs hP hS => ?_)
        obtain ⟨x4_21, ex4_21, hf⟩ := mv_some hf
        refine lv_iinc (v := x4_21) (lv' := [(4, .int x4_21), (0, .ref (ad p0)), (1, .int x1), (2, .int x2), (3, .int x3)]) hx hb dX2_search_57 hl (k := 4) rfl (by rw [ex4_21]; rfl) (by decide) rfl (fun ls hl => ?_)
        refine lv_goto (tgt := 37) hx hb dX2_search_60 (by decide) ?_
        exact ih x3 x4_21 g_20 H locs ls hP hS (lv_sub hl [1, 2, 3, 4, 0] rfl) hf
  have hc28 : ∀ (n : Nat), ∀ (x3 : Int32) (g : Mm) (H : Heap) (locs : List Loc) (ls : Array Slot), va_P D vwCl (mm_L TC ad cy g) H → va_S (mm_A TC ad) s.heap H locs → lv_has ls 5 [(0, .ref (ad p0)), (1, .int x1), (2, .int x2), (3, .int x3)] → f_X2_search_c28 p0 x2 n x3 g = some (r0, g') → W p l e (headSpec wsX2_search (rm_X2_search)).room s m args below meth c H locs 0 0 (MQ below (mm_Qi D TC ad cy r0 g') args s 0 0 (mm_A TC ad)) (F0 m 28 ls []) := by
    intro n
    induction n with
    | zero =>
      intro x3 g H locs ls hP hS hl hf
      rw [f_X2_search_c28] at hf
      cases hf
    | succ n ih =>
      intro x3 g H locs ls hP hS hl hf
      rw [f_X2_search_c28] at hf
      refine lv_iload_n hx hb dX2_search_28 rfl (lv_at hl 3 rfl) ?_
      refine lv_bipush (v := 7) hx hb dX2_search_29 (by decide) ?_
      refine lv_icmp_gt (tgt := 112) hx hb dX2_search_31 (by decide) (fun c_6 => ?_) (fun c_6 => ?_)
      · replace hf := ite_t c_6 hf
        refine lv_aload_n hx hb dX2_search_112 rfl (lv_at hl 0 rfl) ?_
        refine mq_geti (Tt := TX2) (N := 5) (C := RX2) hx hb hts hiX2 hown hK hP hp rfl 3 (by decide) rfl hw0 (fun _ h9 => h9) dX2_search_113 ?_
        refine lv_if_le (tgt := 123) hx hb dX2_search_116 (by decide) (fun c_7 => ?_) (fun c_7 => ?_)
        · replace hf := ite_t c_7 hf
          refine lv_iconst (v := 0) hx hb dX2_search_123 (by decide) ?_
          exact mq_iret hx hb hr (by decide +kernel) hlocks hP hS (pr_1 hf) (pr_2 hf) dX2_search_124
        · replace hf := ite_f c_7 hf
          refine lv_iconst (v := 1) hx hb dX2_search_119 (by decide) ?_
          refine lv_goto (tgt := 124) hx hb dX2_search_120 (by decide) ?_
          exact mq_iret hx hb hr (by decide +kernel) hlocks hP hS (pr_1 hf) (pr_2 hf) dX2_search_124
      · replace hf := ite_f c_6 hf
        refine lv_iconst (v := 0) hx hb dX2_search_34 (by decide) ?_
        refine lv_istore (lv' := [(4, .int 0), (0, .ref (ad p0)), (1, .int x1), (2, .int x2), (3, .int x3)]) hx hb dX2_search_35 hl (by decide) rfl (fun ls hl => ?_)
        exact hc37 (f_X2_search_c28 p0 x2 n) ih FU x3 0 g H locs ls hP hS (lv_sub hl [1, 2, 3, 4, 0] rfl) hf
  unfold f_X2_search at hf
  have hH9 : ∀ (H : Heap) (locs : List Loc), H = s.heap → locs = [] → va_P D vwCl (mm_L TC ad cy g) H → va_S (mm_A TC ad) s.heap H locs → W p l e (headSpec wsX2_search (rm_X2_search)).room s m args below meth c H locs 0 0 (MQ below (mm_Qi D TC ad cy r0 g') args s 0 0 (mm_A TC ad)) (F0 m 0 ls []) := by
    intro H locs hH9 hL9 hP hS
    clear hH9 hL9
    refine lv_aload_n hx hb dX2_search_0 rfl (lv_at hl 0 rfl) ?_
    refine lv_iconst (v := 0) hx hb dX2_search_1 (by decide) ?_
    obtain ⟨g_1, eg_1, hf⟩ := mw_some hf
    refine mq_puti (Tt := TX2) (N := 5) (C := RX2) (ty := .int) hx hb hts hiX2 tyX2 tyX2_ok nmX2 hown hK hI hP hS hp rfl 3 (by decide) rfl hw0 (fun _ h9 => h9) rfl (by decide +kernel) rfl rfl dX2_search_2 eg_1 (fun H locs hP hS => ?_)
    refine lv_aload_n hx hb dX2_search_5 rfl (lv_at hl 0 rfl) ?_
    refine lv_iconst (v := 0) hx hb dX2_search_6 (by decide) ?_
    obtain ⟨g_2, eg_2, hf⟩ := mw_some hf
    refine mq_puti (Tt := TX2) (N := 5) (C := RX2) (ty := .int) hx hb hts hiX2 tyX2 tyX2_ok nmX2 hown hK hI hP hS hp rfl 4 (by decide) rfl hw2 (fun _ h9 => h9) rfl (by decide +kernel) rfl rfl dX2_search_7 eg_2 (fun H locs hP hS => ?_)
    refine lv_aload_n hx hb dX2_search_10 rfl (lv_at hl 0 rfl) ?_
    refine mq_getr (Tt := TX2) (N := 5) (C := RX2) hx hb hts hiX2 hown hK hP hp rfl 1 10 (by decide) rfl hw3 (fun _ h9 => h9) dX2_search_11 ?_
    refine lv_iconst (v := 0) hx hb dX2_search_14 (by decide) ?_
    obtain ⟨g_3, eg_3, hf⟩ := mr_some hf
    refine mq_callv (g2 := g_3) (va_runS (As := [.ref (ad (p0 + 10)), .int 0]) (rest := []) ⟨hx, hb, hml, hown, hts⟩ (c_fill (Z := mm_Z) l D TC ad cy (p0 + 10) 8 0 g_2 (shTC_X2_10 hp) (by decide) eg_3) (va_cwS 2 hts gX2_search_J7_fill_53178 rfl rfl rfl (by decide +kernel) ⟨Nat.le_of_ble_eq_true rfl, Nat.le_of_ble_eq_true rfl⟩) (mq_preS mm_zOkC hK hP hI hZ hS) rfl rfl hl.1 rfl (lv_room (Nat.le_of_ble_eq_true rfl)) dX2_search_15 ⟨Nat.le_refl _, Nat.le_refl _⟩) hS (fun H locs hP hS => ?_)
    refine lv_aload_n hx hb dX2_search_18 rfl (lv_at hl 0 rfl) ?_
    refine mq_getr (Tt := TX2) (N := 5) (C := RX2) hx hb hts hiX2 hown hK hP hp rfl 1 10 (by decide) rfl hw3 (fun _ h9 => h9) dX2_search_19 ?_
    refine lv_iload_n hx hb dX2_search_22 rfl (lv_at hl 1 rfl) ?_
    refine lv_ldc (v := 268435456) hx hb hown hw4 dX2_search_23 ?_
    obtain ⟨h_4, hf⟩ := og_some hf
    obtain ⟨g_5, eg_5, hf⟩ := mw_some hf
    refine mq_iast hx hb hK hI hP hS (N := 8) (shTC_X2_10 hp) h_4 dX2_search_25 eg_5 (fun H locs hP hS => ?_)
    refine lv_iconst (v := 1) hx hb dX2_search_26 (by decide) ?_
    refine lv_istore_n (lv' := [(3, .int 1), (0, .ref (ad p0)), (1, .int x1), (2, .int x2)]) hx hb dX2_search_27 rfl hl (by decide) rfl (fun ls hl => ?_)
    exact hc28 FU 1 g_5 H locs ls hP hS (lv_sub hl [1, 2, 3, 0] rfl) hf
  exact hH9 s.heap [] rfl rfl hP hS
abbrev rm_X2_become : Room := ({ frames := 1, cells := 0, slots := 0, locals := 60 } : Room)
set_option maxHeartbeats 4000000 in
set_option maxRecDepth 100000 in
theorem c_X2_become (l : Launch) (D : va_G) (ad : Nat → Nat) (cy : Nat → ClassId) (p0 : Nat) (q1 : Nat) (g : Mm) (hp : TC[p0]? = some sX2) (hq1 : TC[q1]? = some sX2) (g' : Mm) (hf : f_X2_become p0 q1 g = some g') : Met l yX2_become wsX2_become rm_X2_become (va_Pc [.ref (ad p0), .ref (ad q1)] (mm_pre mm_Z D TC ad cy g)) (mm_Qv D TC ad cy g') 0 0 (mm_A TC ad) := by
  refine Met.ofW (cc := cX2_become) (maxL := 3) (ret := none) (by decide) rfl ?_
  intro p e s m args below meth c s₁ B hml hv
  obtain ⟨hargs, hP, hK, hI, hZ⟩ := hv
  have hx := B.exec
  have hb := B.bytes
  have hr := B.returns
  have hts := atoms_spec (ws := wsX2_become) B.pre
  have hown : s.vm.findClass RX2 = some m.cls := findClass_of_methodNamed B.named
  have hlocks := B.notSynchronized
  have hw0 := hts (.fieldLink RX2 11 "LeftShoes$Fords" "watched" "[[I") (by decide +kernel)
  have hiX2 : ∀ w ∈ wsX20, w ∈ wsX2_become := by decide +kernel
  have hw2 := hts (.methodLink RX2 53 arraycopyName) (by decide +kernel)
  have hw3 := hts (.native arraycopyName) (by decide +kernel)
  have hw4 := hts (.static arraycopyName) (by decide +kernel)
  have hw5 := hts (.initialized "java/lang/System") (by decide +kernel)
  rw [show entryFrame m args 3 = F0 m 0 ((lg_sl ([.ref (ad p0), .ref (ad q1)] : List Value) ++ List.replicate (3 - (lg_sl ([.ref (ad p0), .ref (ad q1)] : List Value)).length) Slot.unset).toArray) [] from by rw [hargs]; exact lg_entry_eq m _ _]
  have hl := lv_entry ([.ref (ad p0), .ref (ad q1)] : List Value) (n := 3) (by exact Nat.le_of_ble_eq_true rfl)
  generalize (lg_sl ([.ref (ad p0), .ref (ad q1)] : List Value) ++ List.replicate (3 - (lg_sl ([.ref (ad p0), .ref (ad q1)] : List Value)).length) Slot.unset).toArray = ls at hl ⊢
  have hl : lv_has ls 3 [(0, .ref (ad p0)), (1, .ref (ad q1))] := by exact hl
  have hS : va_S (mm_A TC ad) s.heap s.heap [] := va_S.rf
  clear hargs
  have hc2 : ∀ (n : Nat), ∀ (x2 : Int32) (g : Mm) (H : Heap) (locs : List Loc) (ls : Array Slot), va_P D vwCl (mm_L TC ad cy g) H → va_S (mm_A TC ad) s.heap H locs → lv_has ls 3 [(0, .ref (ad p0)), (1, .ref (ad q1)), (2, .int x2)] → f_X2_become_c2 p0 q1 n x2 g = some g' → W p l e (headSpec wsX2_become (rm_X2_become)).room s m args below meth c H locs 0 0 (MQ below (mm_Qv D TC ad cy g') args s 0 0 (mm_A TC ad)) (F0 m 2 ls []) := by
    intro n
    induction n with
    | zero =>
      intro x2 g H locs ls hP hS hl hf
      rw [f_X2_become_c2] at hf
      cases hf
    | succ n ih =>
      intro x2 g H locs ls hP hS hl hf
      rw [f_X2_become_c2] at hf
      refine lv_iload_n hx hb dX2_become_2 rfl (lv_at hl 2 rfl) ?_
      refine lv_bipush (v := 8) hx hb dX2_become_3 (by decide) ?_
      refine lv_icmp_ge (tgt := 33) hx hb dX2_become_5 (by decide) (fun c_1 => ?_) (fun c_1 => ?_)
      · replace hf := ite_t c_1 hf
        exact mq_vret hx hb hr hlocks hP hS (Option.some.inj hf) dX2_become_33
      · replace hf := ite_f c_1 hf
        refine lv_aload_n hx hb dX2_become_8 rfl (lv_at hl 1 rfl) ?_
        refine mq_getr (Tt := TX2) (N := 5) (C := RX2) hx hb hts hiX2 hown hK hP hq1 rfl 0 1 (by decide) rfl hw0 (fun _ h9 => h9) dX2_become_9 ?_
        refine lv_iload_n hx hb dX2_become_12 rfl (lv_at hl 2 rfl) ?_
        obtain ⟨h_2, hf⟩ := og_some hf
        refine mq_aaldA hx hb hK hP (N := 8) (shTC_X2_1 hq1) h_2 dX2_become_13 ?_
        refine lv_iconst (v := 0) hx hb dX2_become_14 (by decide) ?_
        refine lv_aload_n hx hb dX2_become_15 rfl (lv_at hl 0 rfl) ?_
        refine mq_getr (Tt := TX2) (N := 5) (C := RX2) hx hb hts hiX2 hown hK hP hp rfl 0 1 (by decide) rfl hw0 (fun _ h9 => h9) dX2_become_16 ?_
        refine lv_iload_n hx hb dX2_become_19 rfl (lv_at hl 2 rfl) ?_
        obtain ⟨h_3, hf⟩ := og_some hf
        refine mq_aaldA hx hb hK hP (N := 8) (shTC_X2_1 hp) h_3 dX2_become_20 ?_
        refine lv_iconst (v := 0) hx hb dX2_become_21 (by decide) ?_
        refine lv_bipush (v := 8) hx hb dX2_become_22 (by decide) ?_
        obtain ⟨g_4, eg_4, hf⟩ := mr_some hf
        refine mq_copy hx hb (hml.trans hl.1.symm) hown hw2 hw3 hw4 hw5 hK hI hP hS (n0 := 8) (n1 := 8) (shTC_X2_2i_0 hq1 (mm_in_lt h_2)) (shTC_X2_2i_0 hp (mm_in_lt h_3)) (by decide +kernel : mm_cp 0 0 8 8 8 = true) (Nat.le_of_ble_eq_true rfl) (Nat.le_of_ble_eq_true rfl) dX2_become_24 eg_4 (fun H locs hP hS => ?_)
        obtain ⟨x2_5, ex2_5, hf⟩ := mv_some hf
        refine lv_iinc (v := x2_5) (lv' := [(2, .int x2_5), (0, .ref (ad p0)), (1, .ref (ad q1))]) hx hb dX2_become_27 hl (k := 2) rfl (by rw [ex2_5]; rfl) (by decide) rfl (fun ls hl => ?_)
        refine lv_goto (tgt := 2) hx hb dX2_become_30 (by decide) ?_
        exact ih x2_5 g_4 H locs ls hP hS (lv_sub hl [1, 2, 0] rfl) hf
  unfold f_X2_become at hf
  have hH9 : ∀ (H : Heap) (locs : List Loc), H = s.heap → locs = [] → va_P D vwCl (mm_L TC ad cy g) H → va_S (mm_A TC ad) s.heap H locs → W p l e (headSpec wsX2_become (rm_X2_become)).room s m args below meth c H locs 0 0 (MQ below (mm_Qv D TC ad cy g') args s 0 0 (mm_A TC ad)) (F0 m 0 ls []) := by
    intro H locs hH9 hL9 hP hS
    clear hH9 hL9
    refine lv_iconst (v := 0) hx hb dX2_become_0 (by decide) ?_
    refine lv_istore_n (lv' := [(2, .int 0), (0, .ref (ad p0)), (1, .ref (ad q1))]) hx hb dX2_become_1 rfl hl (by decide) rfl (fun ls hl => ?_)
    exact hc2 FU 0 g H locs ls hP hS (lv_sub hl [1, 2, 0] rfl) hf
  exact hH9 s.heap [] rfl rfl hP hS
abbrev rm_X1_add : Room := ({ frames := 0, cells := 0, slots := 0, locals := 0 } : Room)
set_option maxHeartbeats 4000000 in
set_option maxRecDepth 100000 in
theorem c_X1_add (l : Launch) (D : va_G) (ad : Nat → Nat) (cy : Nat → ClassId) (p0 : Nat) (x1 : Int32) (x2 : Int32) (g : Mm) (hp : TC[p0]? = some sX1) (r0 : Int32) (g' : Mm) (hf : f_X1_add p0 x1 x2 g = some (r0, g')) : Met l yX1_add wsX1_add rm_X1_add (va_Pc [.ref (ad p0), .int x1, .int x2] (mm_pre mm_Z D TC ad cy g)) (mm_Qi D TC ad cy r0 g') 0 0 (mm_A TC ad) := by
  refine Met.ofW (cc := cX1_add) (maxL := 3) (ret := (some .int)) (by decide) rfl ?_
  intro p e s m args below meth c s₁ B hml hv
  obtain ⟨hargs, hP, hK, hI, hZ⟩ := hv
  have hx := B.exec
  have hb := B.bytes
  have hr := B.returns
  have hts := atoms_spec (ws := wsX1_add) B.pre
  have hown : s.vm.findClass RX1 = some m.cls := findClass_of_methodNamed B.named
  have hlocks := B.notSynchronized
  have hw0 := hts (.fieldLink RX1 21 "LeftShoes$Buyers" "size" "I") (by decide +kernel)
  have hiX1 : ∀ w ∈ wsX10, w ∈ wsX1_add := by decide +kernel
  have hw2 := hts (.fieldLink RX1 9 "LeftShoes$Buyers" "wants" "[I") (by decide +kernel)
  have hw3 := hts (.fieldLink RX1 15 "LeftShoes$Buyers" "worth" "[I") (by decide +kernel)
  rw [show entryFrame m args 3 = F0 m 0 ((lg_sl ([.ref (ad p0), .int x1, .int x2] : List Value) ++ List.replicate (3 - (lg_sl ([.ref (ad p0), .int x1, .int x2] : List Value)).length) Slot.unset).toArray) [] from by rw [hargs]; exact lg_entry_eq m _ _]
  have hl := lv_entry ([.ref (ad p0), .int x1, .int x2] : List Value) (n := 3) (by exact Nat.le_of_ble_eq_true rfl)
  generalize (lg_sl ([.ref (ad p0), .int x1, .int x2] : List Value) ++ List.replicate (3 - (lg_sl ([.ref (ad p0), .int x1, .int x2] : List Value)).length) Slot.unset).toArray = ls at hl ⊢
  have hl : lv_has ls 3 [(0, .ref (ad p0)), (1, .int x1), (2, .int x2)] := by exact hl
  have hS : va_S (mm_A TC ad) s.heap s.heap [] := va_S.rf
  clear hargs
  unfold f_X1_add at hf
  have hH9 : ∀ (H : Heap) (locs : List Loc), H = s.heap → locs = [] → va_P D vwCl (mm_L TC ad cy g) H → va_S (mm_A TC ad) s.heap H locs → W p l e (headSpec wsX1_add (rm_X1_add)).room s m args below meth c H locs 0 0 (MQ below (mm_Qi D TC ad cy r0 g') args s 0 0 (mm_A TC ad)) (F0 m 0 ls []) := by
    intro H locs hH9 hL9 hP hS
    clear hH9 hL9
    refine lv_aload_n hx hb dX1_add_0 rfl (lv_at hl 0 rfl) ?_
    refine mq_geti (Tt := TX1) (N := 6) (C := RX1) hx hb hts hiX1 hown hK hP hp rfl 2 (by decide) rfl hw0 (fun _ h9 => h9) dX1_add_1 ?_
    refine lv_bipush (v := 6) hx hb dX1_add_4 (by decide) ?_
    refine lv_icmp_lt (tgt := 12) hx hb dX1_add_6 (by decide) (fun c_1 => ?_) (fun c_1 => ?_)
    · replace hf := ite_t c_1 hf
      refine lv_aload_n hx hb dX1_add_12 rfl (lv_at hl 0 rfl) ?_
      refine mq_getr (Tt := TX1) (N := 6) (C := RX1) hx hb hts hiX1 hown hK hP hp rfl 0 1 (by decide) rfl hw2 (fun _ h9 => h9) dX1_add_13 ?_
      refine lv_aload_n hx hb dX1_add_16 rfl (lv_at hl 0 rfl) ?_
      refine mq_geti (Tt := TX1) (N := 6) (C := RX1) hx hb hts hiX1 hown hK hP hp rfl 2 (by decide) rfl hw0 (fun _ h9 => h9) dX1_add_17 ?_
      refine lv_iload_n hx hb dX1_add_20 rfl (lv_at hl 1 rfl) ?_
      obtain ⟨h_2, hf⟩ := og_some hf
      obtain ⟨g_3, eg_3, hf⟩ := mw_some hf
      refine mq_iast hx hb hK hI hP hS (N := 6) (shTC_X1_1 hp) h_2 dX1_add_21 eg_3 (fun H locs hP hS => ?_)
      refine lv_aload_n hx hb dX1_add_22 rfl (lv_at hl 0 rfl) ?_
      refine mq_getr (Tt := TX1) (N := 6) (C := RX1) hx hb hts hiX1 hown hK hP hp rfl 1 2 (by decide) rfl hw3 (fun _ h9 => h9) dX1_add_23 ?_
      refine lv_aload_n hx hb dX1_add_26 rfl (lv_at hl 0 rfl) ?_
      refine mq_geti (Tt := TX1) (N := 6) (C := RX1) hx hb hts hiX1 hown hK hP hp rfl 2 (by decide) rfl hw0 (fun _ h9 => h9) dX1_add_27 ?_
      refine lv_iload_n hx hb dX1_add_30 rfl (lv_at hl 2 rfl) ?_
      obtain ⟨h_4, hf⟩ := og_some hf
      obtain ⟨g_5, eg_5, hf⟩ := mw_some hf
      refine mq_iast hx hb hK hI hP hS (N := 6) (shTC_X1_2 hp) h_4 dX1_add_31 eg_5 (fun H locs hP hS => ?_)
      refine lv_aload_n hx hb dX1_add_32 rfl (lv_at hl 0 rfl) ?_
      refine lv_dup hx hb dX1_add_33 rfl ?_
      refine mq_geti (Tt := TX1) (N := 6) (C := RX1) hx hb hts hiX1 hown hK hP hp rfl 2 (by decide) rfl hw0 (fun _ h9 => h9) dX1_add_34 ?_
      refine lv_iconst (v := 1) hx hb dX1_add_37 (by decide) ?_
      refine lv_iadd hx hb dX1_add_38 ?_
      obtain ⟨g_6, eg_6, hf⟩ := mw_some hf
      refine mq_puti (Tt := TX1) (N := 6) (C := RX1) (ty := .int) hx hb hts hiX1 tyX1 tyX1_ok nmX1 hown hK hI hP hS hp rfl 2 (by decide) rfl hw0 (fun _ h9 => h9) rfl (by decide +kernel) rfl rfl dX1_add_39 eg_6 (fun H locs hP hS => ?_)
      refine lv_aload_n hx hb dX1_add_42 rfl (lv_at hl 0 rfl) ?_
      refine mq_geti (Tt := TX1) (N := 6) (C := RX1) hx hb hts hiX1 hown hK hP hp rfl 2 (by decide) rfl hw0 (fun _ h9 => h9) dX1_add_43 ?_
      refine lv_iconst (v := 1) hx hb dX1_add_46 (by decide) ?_
      refine lv_isub hx hb dX1_add_47 ?_
      exact mq_iret hx hb hr rfl hlocks hP hS (pr_1 hf) (pr_2 hf) dX1_add_48
    · replace hf := ite_f c_1 hf
      refine lv_bipush (v := (-3)) hx hb dX1_add_9 (by decide) ?_
      exact mq_iret hx hb hr rfl hlocks hP hS (pr_1 hf) (pr_2 hf) dX1_add_11
  exact hH9 s.heap [] rfl rfl hP hS
abbrev rm_X1_wantedAt : Room := ({ frames := 0, cells := 0, slots := 0, locals := 0 } : Room)
set_option maxHeartbeats 4000000 in
set_option maxRecDepth 100000 in
theorem c_X1_wantedAt (l : Launch) (D : va_G) (ad : Nat → Nat) (cy : Nat → ClassId) (p0 : Nat) (x1 : Int32) (g : Mm) (hp : TC[p0]? = some sX1) (r0 : Int32) (hf : f_X1_wantedAt p0 x1 g = some r0) : Met l yX1_wantedAt wsX1_wantedAt rm_X1_wantedAt (va_Pc [.ref (ad p0), .int x1] (mm_pre mm_Z D TC ad cy g)) (mm_Qi D TC ad cy r0 g) 0 0 (mm_A TC ad) := by
  refine Met.ofW (cc := cX1_wantedAt) (maxL := 4) (ret := (some .int)) (by decide) rfl ?_
  intro p e s m args below meth c s₁ B hml hv
  obtain ⟨hargs, hP, hK, hI, hZ⟩ := hv
  have hx := B.exec
  have hb := B.bytes
  have hr := B.returns
  have hts := atoms_spec (ws := wsX1_wantedAt) B.pre
  have hown : s.vm.findClass RX1 = some m.cls := findClass_of_methodNamed B.named
  have hlocks := B.notSynchronized
  have hw0 := hts (.fieldLink RX1 21 "LeftShoes$Buyers" "size" "I") (by decide +kernel)
  have hiX1 : ∀ w ∈ wsX10, w ∈ wsX1_wantedAt := by decide +kernel
  have hw2 := hts (.fieldLink RX1 15 "LeftShoes$Buyers" "worth" "[I") (by decide +kernel)
  have hw3 := hts (.fieldLink RX1 9 "LeftShoes$Buyers" "wants" "[I") (by decide +kernel)
  rw [show entryFrame m args 4 = F0 m 0 ((lg_sl ([.ref (ad p0), .int x1] : List Value) ++ List.replicate (4 - (lg_sl ([.ref (ad p0), .int x1] : List Value)).length) Slot.unset).toArray) [] from by rw [hargs]; exact lg_entry_eq m _ _]
  have hl := lv_entry ([.ref (ad p0), .int x1] : List Value) (n := 4) (by exact Nat.le_of_ble_eq_true rfl)
  generalize (lg_sl ([.ref (ad p0), .int x1] : List Value) ++ List.replicate (4 - (lg_sl ([.ref (ad p0), .int x1] : List Value)).length) Slot.unset).toArray = ls at hl ⊢
  have hl : lv_has ls 4 [(0, .ref (ad p0)), (1, .int x1)] := by exact hl
  have hS : va_S (mm_A TC ad) s.heap s.heap [] := va_S.rf
  clear hargs
  have hc4 : ∀ (n : Nat), ∀ (x2 : Int32) (x3 : Int32) (H : Heap) (locs : List Loc) (ls : Array Slot), va_P D vwCl (mm_L TC ad cy g) H → va_S (mm_A TC ad) s.heap H locs → lv_has ls 4 [(0, .ref (ad p0)), (1, .int x1), (2, .int x2), (3, .int x3)] → f_X1_wantedAt_c4 p0 x1 n x2 x3 g = some r0 → W p l e (headSpec wsX1_wantedAt (rm_X1_wantedAt)).room s m args below meth c H locs 0 0 (MQ below (mm_Qi D TC ad cy r0 g) args s 0 0 (mm_A TC ad)) (F0 m 4 ls []) := by
    intro n
    induction n with
    | zero =>
      intro x2 x3 H locs ls hP hS hl hf
      rw [f_X1_wantedAt_c4] at hf
      cases hf
    | succ n ih =>
      intro x2 x3 H locs ls hP hS hl hf
      rw [f_X1_wantedAt_c4] at hf
      refine lv_iload_n hx hb dX1_wantedAt_4 rfl (lv_at hl 3 rfl) ?_
      refine lv_aload_n hx hb dX1_wantedAt_5 rfl (lv_at hl 0 rfl) ?_
      refine mq_geti (Tt := TX1) (N := 6) (C := RX1) hx hb hts hiX1 hown hK hP hp rfl 2 (by decide) rfl hw0 (fun _ h9 => h9) dX1_wantedAt_6 ?_
      refine lv_icmp_ge (tgt := 37) hx hb dX1_wantedAt_9 (by decide) (fun c_1 => ?_) (fun c_1 => ?_)
      · replace hf := ite_t c_1 hf
        refine lv_iload_n hx hb dX1_wantedAt_37 rfl (lv_at hl 2 rfl) ?_
        exact mq_iret hx hb hr rfl hlocks hP hS (Option.some.inj hf) rfl dX1_wantedAt_38
      · replace hf := ite_f c_1 hf
        refine lv_iload_n hx hb dX1_wantedAt_12 rfl (lv_at hl 1 rfl) ?_
        refine lv_aload_n hx hb dX1_wantedAt_13 rfl (lv_at hl 0 rfl) ?_
        refine mq_getr (Tt := TX1) (N := 6) (C := RX1) hx hb hts hiX1 hown hK hP hp rfl 1 2 (by decide) rfl hw2 (fun _ h9 => h9) dX1_wantedAt_14 ?_
        refine lv_iload_n hx hb dX1_wantedAt_17 rfl (lv_at hl 3 rfl) ?_
        obtain ⟨h_2, hf⟩ := og_some hf
        refine mq_iald hx hb hK hP (N := 6) (shTC_X1_2 hp) h_2 dX1_wantedAt_18 ?_
        refine lv_icmp_gt (tgt := 31) hx hb dX1_wantedAt_19 (by decide) (fun c_3 => ?_) (fun c_3 => ?_)
        · replace hf := ite_t c_3 hf
          obtain ⟨x3_4, ex3_4, hf⟩ := mv_some hf
          refine lv_iinc (v := x3_4) (lv' := [(3, .int x3_4), (0, .ref (ad p0)), (1, .int x1), (2, .int x2)]) hx hb dX1_wantedAt_31 hl (k := 3) rfl (by rw [ex3_4]; rfl) (by decide) rfl (fun ls hl => ?_)
          refine lv_goto (tgt := 4) hx hb dX1_wantedAt_34 (by decide) ?_
          exact ih x2 x3_4 H locs ls hP hS (lv_sub hl [1, 2, 3, 0] rfl) hf
        · replace hf := ite_f c_3 hf
          refine lv_iload_n hx hb dX1_wantedAt_22 rfl (lv_at hl 2 rfl) ?_
          refine lv_aload_n hx hb dX1_wantedAt_23 rfl (lv_at hl 0 rfl) ?_
          refine mq_getr (Tt := TX1) (N := 6) (C := RX1) hx hb hts hiX1 hown hK hP hp rfl 0 1 (by decide) rfl hw3 (fun _ h9 => h9) dX1_wantedAt_24 ?_
          refine lv_iload_n hx hb dX1_wantedAt_27 rfl (lv_at hl 3 rfl) ?_
          obtain ⟨h_5, hf⟩ := og_some hf
          refine mq_iald hx hb hK hP (N := 6) (shTC_X1_1 hp) h_5 dX1_wantedAt_28 ?_
          refine lv_iadd hx hb dX1_wantedAt_29 ?_
          obtain ⟨x2_6, ex2_6, hf⟩ := mv_some hf
          refine mq_nm ex2_6 ?_
          refine lv_istore_n (lv' := [(2, .int x2_6), (0, .ref (ad p0)), (1, .int x1), (3, .int x3)]) hx hb dX1_wantedAt_30 rfl hl (by decide) rfl (fun ls hl => ?_)
          obtain ⟨x3_7, ex3_7, hf⟩ := mv_some hf
          refine lv_iinc (v := x3_7) (lv' := [(3, .int x3_7), (2, .int x2_6), (0, .ref (ad p0)), (1, .int x1)]) hx hb dX1_wantedAt_31 hl (k := 3) rfl (by rw [ex3_7]; rfl) (by decide) rfl (fun ls hl => ?_)
          refine lv_goto (tgt := 4) hx hb dX1_wantedAt_34 (by decide) ?_
          exact ih x2_6 x3_7 H locs ls hP hS (lv_sub hl [2, 3, 1, 0] rfl) hf
  unfold f_X1_wantedAt at hf
  have hH9 : ∀ (H : Heap) (locs : List Loc), H = s.heap → locs = [] → va_P D vwCl (mm_L TC ad cy g) H → va_S (mm_A TC ad) s.heap H locs → W p l e (headSpec wsX1_wantedAt (rm_X1_wantedAt)).room s m args below meth c H locs 0 0 (MQ below (mm_Qi D TC ad cy r0 g) args s 0 0 (mm_A TC ad)) (F0 m 0 ls []) := by
    intro H locs hH9 hL9 hP hS
    clear hH9 hL9
    refine lv_iconst (v := 0) hx hb dX1_wantedAt_0 (by decide) ?_
    refine lv_istore_n (lv' := [(2, .int 0), (0, .ref (ad p0)), (1, .int x1)]) hx hb dX1_wantedAt_1 rfl hl (by decide) rfl (fun ls hl => ?_)
    refine lv_iconst (v := 0) hx hb dX1_wantedAt_2 (by decide) ?_
    refine lv_istore_n (lv' := [(3, .int 0), (2, .int 0), (0, .ref (ad p0)), (1, .int x1)]) hx hb dX1_wantedAt_3 rfl hl (by decide) rfl (fun ls hl => ?_)
    exact hc4 FU 0 0 H locs ls hP hS (lv_sub hl [2, 3, 1, 0] rfl) hf
  exact hH9 s.heap [] rfl rfl hP hS
