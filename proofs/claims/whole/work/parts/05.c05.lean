abbrev rm_X9_isOutdone : Room := ({ frames := 2, cells := 0, slots := 0, locals := 45 } : Room)
set_option maxHeartbeats 4000000 in
set_option maxRecDepth 100000 in
theorem c_X9_isOutdone (l : Launch) (D : va_G) (ad : Nat → Nat) (cy : Nat → ClassId) (p0 : Nat) (x1 : Int32) (g : Mm) (hp : TC[p0]? = some sX9) (r0 : Int32) (g' : Mm) (hf : f_X9_isOutdone p0 x1 g = some (r0, g')) : Met l yX9_isOutdone wsX9_isOutdone rm_X9_isOutdone (va_Pc [.ref (ad p0), .int x1] (mm_pre mm_Z D TC ad cy g)) (mm_Qi D TC ad cy r0 g') 0 0 (mm_A TC ad) := by
  refine Met.ofW (cc := cX9_isOutdone) (maxL := 4) (ret := (some .boolean)) (by decide) rfl ?_
  intro p e s m args below meth c s₁ B hml hv
  obtain ⟨hargs, hP, hK, hI, hZ⟩ := hv
  have hx := B.exec
  have hb := B.bytes
  have hr := B.returns
  have hts := atoms_spec (ws := wsX9_isOutdone) B.pre
  have hown : s.vm.findClass RX9 = some m.cls := findClass_of_methodNamed B.named
  have hlocks := B.notSynchronized
  have hw0 := hts (.fieldLink RX9 45 "LeftShoes$Walk" "goneTo" "[[I") (by decide +kernel)
  have hiX9 : ∀ w ∈ wsX90, w ∈ wsX9_isOutdone := by decide +kernel
  have hw2 := hts (.fieldLink RX9 48 "LeftShoes$Walk" "hopsTo" "[I") (by decide +kernel)
  have hw3 := hts (.fieldLink RX9 57 "LeftShoes$Walk" "arrivals" "LLeftShoes$Arrivals;") (by decide +kernel)
  have hw4 := hts (.fieldLink RX9 42 "LeftShoes$Walk" "costTo" "[I") (by decide +kernel)
  have hw5 := hts (.fieldLink RX9 39 "LeftShoes$Walk" "minutesTo" "[I") (by decide +kernel)
  rw [show entryFrame m args 4 = F0 m 0 ((lg_sl ([.ref (ad p0), .int x1] : List Value) ++ List.replicate (4 - (lg_sl ([.ref (ad p0), .int x1] : List Value)).length) Slot.unset).toArray) [] from by rw [hargs]; exact lg_entry_eq m _ _]
  have hl := lv_entry ([.ref (ad p0), .int x1] : List Value) (n := 4) (by exact Nat.le_of_ble_eq_true rfl)
  generalize (lg_sl ([.ref (ad p0), .int x1] : List Value) ++ List.replicate (4 - (lg_sl ([.ref (ad p0), .int x1] : List Value)).length) Slot.unset).toArray = ls at hl ⊢
  have hl : lv_has ls 4 [(0, .ref (ad p0)), (1, .int x1)] := by exact hl
  have hS : va_S (mm_A TC ad) s.heap s.heap [] := va_S.rf
  clear hargs
  unfold f_X9_isOutdone at hf
  have hH9 : ∀ (H : Heap) (locs : List Loc), H = s.heap → locs = [] → va_P D vwCl (mm_L TC ad cy g) H → va_S (mm_A TC ad) s.heap H locs → W p l e (headSpec wsX9_isOutdone (rm_X9_isOutdone)).room s m args below meth c H locs 0 0 (MQ below (mm_Qi D TC ad cy r0 g') args s 0 0 (mm_A TC ad)) (F0 m 0 ls []) := by
    intro H locs hH9 hL9 hP hS
    clear hH9 hL9
    refine lv_aload_n hx hb dX9_isOutdone_0 rfl (lv_at hl 0 rfl) ?_
    refine mq_getr (Tt := TX9) (N := 19) (C := RX9) hx hb hts hiX9 hown hK hP hp rfl 11 22 (by decide) rfl hw0 (fun _ h9 => h9) dX9_isOutdone_1 ?_
    refine lv_iload_n hx hb dX9_isOutdone_4 rfl (lv_at hl 1 rfl) ?_
    obtain ⟨h_1, hf⟩ := og_some hf
    refine mq_aaldA hx hb hK hP (N := 10) (shTC_X9_22 hp) h_1 dX9_isOutdone_5 ?_
    refine lv_astore_n (lv' := [(2, .ref (ad (p0 + 23 + x1.toNatClampNeg))), (0, .ref (ad p0)), (1, .int x1)]) hx hb dX9_isOutdone_6 rfl hl (by decide) rfl (fun ls hl => ?_)
    refine lv_iload_n hx hb dX9_isOutdone_7 rfl (lv_at hl 2 rfl) ?_
    refine lv_bipush (v := 9) hx hb dX9_isOutdone_8 (by decide) ?_
    refine lv_imul hx hb dX9_isOutdone_10 ?_
    refine lv_aload_n hx hb dX9_isOutdone_11 rfl (lv_at hl 0 rfl) ?_
    refine lv_iconst (v := 0) hx hb dX9_isOutdone_12 (by decide) ?_
    refine mq_iald hx hb hK hP (N := 4) (shTC_X9_23i_0 hp (mm_in_lt h_1)) (by decide : mm_in 0 4 = true) dX9_isOutdone_13 ?_
    refine lv_iadd hx hb dX9_isOutdone_14 ?_
    refine lv_bipush (v := 9) hx hb dX9_isOutdone_15 (by decide) ?_
    refine lv_imul hx hb dX9_isOutdone_17 ?_
    refine lv_aload_n hx hb dX9_isOutdone_18 rfl (lv_at hl 0 rfl) ?_
    refine lv_iconst (v := 1) hx hb dX9_isOutdone_19 (by decide) ?_
    refine mq_iald hx hb hK hP (N := 4) (shTC_X9_23i_0 hp (mm_in_lt h_1)) (by decide : mm_in 1 4 = true) dX9_isOutdone_20 ?_
    refine lv_iadd hx hb dX9_isOutdone_21 ?_
    obtain ⟨x3_2, ex3_2, hf⟩ := mv_some hf
    refine mq_nm ex3_2 ?_
    refine lv_istore_n (lv' := [(3, .int x3_2), (2, .ref (ad (p0 + 23 + x1.toNatClampNeg))), (0, .ref (ad p0)), (1, .int x1)]) hx hb dX9_isOutdone_22 rfl hl (by decide) rfl (fun ls hl => ?_)
    refine lv_iload_n hx hb dX9_isOutdone_23 rfl (lv_at hl 0 rfl) ?_
    refine lv_iconst (v := 5) hx hb dX9_isOutdone_24 (by decide) ?_
    refine lv_imul hx hb dX9_isOutdone_25 ?_
    refine lv_aload_n hx hb dX9_isOutdone_26 rfl (lv_at hl 1 rfl) ?_
    refine lv_iconst (v := 3) hx hb dX9_isOutdone_27 (by decide) ?_
    refine mq_iald hx hb hK hP (N := 4) (shTC_X9_23i_0 hp (mm_in_lt h_1)) (by decide : mm_in 3 4 = true) dX9_isOutdone_28 ?_
    refine lv_iadd hx hb dX9_isOutdone_29 ?_
    refine lv_iconst (v := 3) hx hb dX9_isOutdone_30 (by decide) ?_
    refine lv_imul hx hb dX9_isOutdone_31 ?_
    refine lv_aload_n hx hb dX9_isOutdone_32 rfl (lv_at hl 2 rfl) ?_
    refine mq_getr (Tt := TX9) (N := 19) (C := RX9) hx hb hts hiX9 hown hK hP hp rfl 12 33 (by decide) rfl hw2 (fun _ h9 => h9) dX9_isOutdone_33 ?_
    refine lv_iload_n hx hb dX9_isOutdone_36 rfl (lv_at hl 3 rfl) ?_
    obtain ⟨h_3, hf⟩ := og_some hf
    refine mq_iald hx hb hK hP (N := 10) (shTC_X9_33 hp) h_3 dX9_isOutdone_37 ?_
    refine lv_iadd hx hb dX9_isOutdone_38 ?_
    obtain ⟨x3_4, ex3_4, hf⟩ := mv_some hf
    refine mq_nm ex3_4 ?_
    refine lv_istore_n (lv' := [(3, .int x3_4), (2, .ref (ad (p0 + 23 + x1.toNatClampNeg))), (0, .ref (ad p0)), (1, .int x1)]) hx hb dX9_isOutdone_39 rfl hl (by decide) rfl (fun ls hl => ?_)
    refine lv_aload_n hx hb dX9_isOutdone_40 rfl (lv_at hl 2 rfl) ?_
    refine mq_getr (Tt := TX9) (N := 19) (C := RX9) hx hb hts hiX9 hown hK hP hp rfl 14 45 (by decide) rfl hw3 (fun _ h9 => h9) dX9_isOutdone_41 ?_
    refine lv_iload_n hx hb dX9_isOutdone_44 rfl (lv_at hl 0 rfl) ?_
    refine lv_aload_n hx hb dX9_isOutdone_45 rfl (lv_at hl 2 rfl) ?_
    refine mq_getr (Tt := TX9) (N := 19) (C := RX9) hx hb hts hiX9 hown hK hP hp rfl 10 21 (by decide) rfl hw4 (fun _ h9 => h9) dX9_isOutdone_46 ?_
    refine lv_iload_n hx hb dX9_isOutdone_49 rfl (lv_at hl 3 rfl) ?_
    obtain ⟨h_5, hf⟩ := og_some hf
    refine mq_iald hx hb hK hP (N := 10) (shTC_X9_21 hp) h_5 dX9_isOutdone_50 ?_
    refine lv_aload_n hx hb dX9_isOutdone_51 rfl (lv_at hl 2 rfl) ?_
    refine mq_getr (Tt := TX9) (N := 19) (C := RX9) hx hb hts hiX9 hown hK hP hp rfl 9 20 (by decide) rfl hw5 (fun _ h9 => h9) dX9_isOutdone_52 ?_
    refine lv_iload_n hx hb dX9_isOutdone_55 rfl (lv_at hl 3 rfl) ?_
    obtain ⟨h_6, hf⟩ := og_some hf
    refine mq_iald hx hb hK hP (N := 10) (shTC_X9_20 hp) h_6 dX9_isOutdone_56 ?_
    obtain ⟨r_8, g_7, hr_9, hf⟩ := ob_some hf
    refine mq_calli (va_runV (As := [.int x3_4, .int (g (p0 + 21) x1.toNatClampNeg), .int (g (p0 + 20) x1.toNatClampNeg)]) (rest := []) ⟨hx, hb, hml, hown, hts⟩ (c_X0_betters l D ad cy (p0 + 45) x3_4 (g (p0 + 21) x1.toNatClampNeg) (g (p0 + 20) x1.toNatClampNeg) g (shTC_X9_45 hp) r_8 g_7 hr_9) (cwV 3 hts gX9_isOutdone_X0_betters rfl rfl rfl (by decide +kernel) ⟨Nat.le_of_ble_eq_true rfl, Nat.le_of_ble_eq_true rfl⟩) (mq_preV (q := (RX0, TX0, 4)) mm_zOkC hK hP hI hZ hS (shTC_X9_45 hp) rfl) rfl rfl hl.1 rfl (lv_room (Nat.le_of_ble_eq_true rfl)) dX9_isOutdone_57 ⟨Nat.le_refl _, Nat.le_refl _⟩) hS (fun H locs hP hS => ?_)
    refine lv_if_ne (tgt := 67) hx hb dX9_isOutdone_60 (by decide) (fun c_10 => ?_) (fun c_10 => ?_)
    · replace hf := ite_f c_10 hf
      refine lv_iconst (v := 0) hx hb dX9_isOutdone_67 (by decide) ?_
      exact mq_iret hx hb hr (by decide +kernel) hlocks hP hS (pr_1 hf) (pr_2 hf) dX9_isOutdone_68
    · replace hf := ite_t c_10 hf
      refine lv_iconst (v := 1) hx hb dX9_isOutdone_63 (by decide) ?_
      refine lv_goto (tgt := 68) hx hb dX9_isOutdone_64 (by decide) ?_
      exact mq_iret hx hb hr (by decide +kernel) hlocks hP hS (pr_1 hf) (pr_2 hf) dX9_isOutdone_68
  exact hH9 s.heap [] rfl rfl hP hS
abbrev rm_X9_tryRows : Room := ({ frames := 3, cells := 0, slots := 0, locals := 83 } : Room)
set_option maxHeartbeats 4000000 in
set_option maxRecDepth 100000 in
theorem c_X9_tryRows (l : Launch) (D : va_G) (ad : Nat → Nat) (cy : Nat → ClassId) (p0 : Nat) (g : Mm) (hp : TC[p0]? = some sX9) (g' : Mm) (hf : f_X9_tryRows p0 g = some g') : Met l yX9_tryRows wsX9_tryRows rm_X9_tryRows (va_Pc [.ref (ad p0)] (mm_pre mm_Z D TC ad cy g)) (mm_Qv D TC ad cy g') 0 0 (mm_A TC ad) := by
  refine Met.ofW (cc := cX9_tryRows) (maxL := 3) (ret := none) (by decide) rfl ?_
  intro p e s m args below meth c s₁ B hml hv
  obtain ⟨hargs, hP, hK, hI, hZ⟩ := hv
  have hx := B.exec
  have hb := B.bytes
  have hr := B.returns
  have hts := atoms_spec (ws := wsX9_tryRows) B.pre
  have hown : s.vm.findClass RX9 = some m.cls := findClass_of_methodNamed B.named
  have hlocks := B.notSynchronized
  have hw0 := hts (.fieldLink RX9 36 "LeftShoes$Walk" "row" "[I") (by decide +kernel)
  have hiX9 : ∀ w ∈ wsX90, w ∈ wsX9_tryRows := by decide +kernel
  have hw2 := hts (.constant RX9 135 (1000000)) (by decide +kernel)
  rw [show entryFrame m args 3 = F0 m 0 ((lg_sl ([.ref (ad p0)] : List Value) ++ List.replicate (3 - (lg_sl ([.ref (ad p0)] : List Value)).length) Slot.unset).toArray) [] from by rw [hargs]; exact lg_entry_eq m _ _]
  have hl := lv_entry ([.ref (ad p0)] : List Value) (n := 3) (by exact Nat.le_of_ble_eq_true rfl)
  generalize (lg_sl ([.ref (ad p0)] : List Value) ++ List.replicate (3 - (lg_sl ([.ref (ad p0)] : List Value)).length) Slot.unset).toArray = ls at hl ⊢
  have hl : lv_has ls 3 [(0, .ref (ad p0))] := by exact hl
  have hS : va_S (mm_A TC ad) s.heap s.heap [] := va_S.rf
  clear hargs
  have hc11 : ∀ (n : Nat), ∀ (x1 : Int32) (x2 : Int32) (g : Mm) (H : Heap) (locs : List Loc) (ls : Array Slot), va_P D vwCl (mm_L TC ad cy g) H → va_S (mm_A TC ad) s.heap H locs → lv_has ls 3 [(0, .ref (ad p0)), (1, .int x1), (2, .int x2)] → f_X9_tryRows_c11 p0 n x1 x2 g = some g' → W p l e (headSpec wsX9_tryRows (rm_X9_tryRows)).room s m args below meth c H locs 0 0 (MQ below (mm_Qv D TC ad cy g') args s 0 0 (mm_A TC ad)) (F0 m 11 ls []) := by
    intro n
    induction n with
    | zero =>
      intro x1 x2 g H locs ls hP hS hl hf
      rw [f_X9_tryRows_c11] at hf
      cases hf
    | succ n ih =>
      intro x1 x2 g H locs ls hP hS hl hf
      rw [f_X9_tryRows_c11] at hf
      refine lv_iload_n hx hb dX9_tryRows_11 rfl (lv_at hl 2 rfl) ?_
      refine lv_ldc (v := 1000000) hx hb hown hw2 dX9_tryRows_12 ?_
      refine lv_icmp_ge (tgt := 139) hx hb dX9_tryRows_14 (by decide) (fun c_2 => ?_) (fun c_2 => ?_)
      · replace hf := ite_t c_2 hf
        exact mq_vret hx hb hr hlocks hP hS (Option.some.inj hf) dX9_tryRows_139
      · replace hf := ite_f c_2 hf
        refine lv_iload_n hx hb dX9_tryRows_17 rfl (lv_at hl 1 rfl) ?_
        refine lv_if_lt (tgt := 139) hx hb dX9_tryRows_18 (by decide) (fun c_3 => ?_) (fun c_3 => ?_)
        · replace hf := ite_t c_3 hf
          exact mq_vret hx hb hr hlocks hP hS (Option.some.inj hf) dX9_tryRows_139
        · replace hf := ite_f c_3 hf
          refine lv_aload_n hx hb dX9_tryRows_21 rfl (lv_at hl 0 rfl) ?_
          refine mq_getr (Tt := TX9) (N := 19) (C := RX9) hx hb hts hiX9 hown hK hP hp rfl 8 19 (by decide) rfl hw0 (fun _ h9 => h9) dX9_tryRows_22 ?_
          refine lv_iload_n hx hb dX9_tryRows_25 rfl (lv_at hl 1 rfl) ?_
          refine lv_dup2_11 hx hb dX9_tryRows_26 rfl rfl ?_
          obtain ⟨h_4, hf⟩ := og_some hf
          refine mq_iald hx hb hK hP (N := 9) (shTC_X9_19 hp) h_4 dX9_tryRows_27 ?_
          refine lv_iconst (v := 1) hx hb dX9_tryRows_28 (by decide) ?_
          refine lv_iadd hx hb dX9_tryRows_29 ?_
          obtain ⟨h_5, hf⟩ := og_some hf
          obtain ⟨g_6, eg_6, hf⟩ := mw_some hf
          refine mq_iast hx hb hK hI hP hS (N := 9) (shTC_X9_19 hp) h_5 dX9_tryRows_30 eg_6 (fun H locs hP hS => ?_)
          refine lv_aload_n hx hb dX9_tryRows_31 rfl (lv_at hl 0 rfl) ?_
          refine mq_getr (Tt := TX9) (N := 19) (C := RX9) hx hb hts hiX9 hown hK hP hp rfl 8 19 (by decide) rfl hw0 (fun _ h9 => h9) dX9_tryRows_32 ?_
          refine lv_iload_n hx hb dX9_tryRows_35 rfl (lv_at hl 1 rfl) ?_
          obtain ⟨h_7, hf⟩ := og_some hf
          refine mq_iald hx hb hK hP (N := 9) (shTC_X9_19 hp) h_7 dX9_tryRows_36 ?_
          refine lv_iconst (v := 4) hx hb dX9_tryRows_37 (by decide) ?_
          refine lv_icmp_lt (tgt := 47) hx hb dX9_tryRows_38 (by decide) (fun c_8 => ?_) (fun c_8 => ?_)
          · replace hf := ite_t c_8 hf
            refine lv_aload_n hx hb dX9_tryRows_47 rfl (lv_at hl 0 rfl) ?_
            refine lv_iload_n hx hb dX9_tryRows_48 rfl (lv_at hl 1 rfl) ?_
            refine lv_aload_n hx hb dX9_tryRows_49 rfl (lv_at hl 0 rfl) ?_
            refine mq_getr (Tt := TX9) (N := 19) (C := RX9) hx hb hts hiX9 hown hK hP hp rfl 8 19 (by decide) rfl hw0 (fun _ h9 => h9) dX9_tryRows_50 ?_
            refine lv_iload_n hx hb dX9_tryRows_53 rfl (lv_at hl 1 rfl) ?_
            obtain ⟨h_9, hf⟩ := og_some hf
            refine mq_iald hx hb hK hP (N := 9) (shTC_X9_19 hp) h_9 dX9_tryRows_54 ?_
            obtain ⟨r_10, hr_11, hf⟩ := op_some hf
            refine mq_calli (va_runV (As := [.int x1, .int (g_6 (p0 + 19) x1.toNatClampNeg)]) (rest := []) ⟨hx, hb, hml, hown, hts⟩ (c_X9_isAllowed l D ad cy p0 x1 (g_6 (p0 + 19) x1.toNatClampNeg) g_6 hp r_10 hr_11) (cwV 2 hts gX9_tryRows_X9_isAllowed rfl rfl rfl (by decide +kernel) ⟨Nat.le_of_ble_eq_true rfl, Nat.le_of_ble_eq_true rfl⟩) (mq_preV (q := (RX9, TX9, 19)) mm_zOkC hK hP hI hZ hS hp rfl) rfl rfl hl.1 rfl (lv_room (Nat.le_of_ble_eq_true rfl)) dX9_tryRows_55 ⟨Nat.le_refl _, Nat.le_refl _⟩) hS (fun H locs hP hS => ?_)
            refine lv_if_eq (tgt := 133) hx hb dX9_tryRows_58 (by decide) (fun c_12 => ?_) (fun c_12 => ?_)
            · replace hf := ite_t c_12 hf
              obtain ⟨x2_13, ex2_13, hf⟩ := mv_some hf
              refine lv_iinc (v := x2_13) (lv' := [(2, .int x2_13), (0, .ref (ad p0)), (1, .int x1)]) hx hb dX9_tryRows_133 hl (k := 2) rfl (by rw [ex2_13]; rfl) (by decide) rfl (fun ls hl => ?_)
              refine lv_goto (tgt := 11) hx hb dX9_tryRows_136 (by decide) ?_
              exact ih x1 x2_13 g_6 H locs ls hP hS (lv_sub hl [1, 2, 0] rfl) hf
            · replace hf := ite_f c_12 hf
              refine lv_aload_n hx hb dX9_tryRows_61 rfl (lv_at hl 0 rfl) ?_
              refine lv_iload_n hx hb dX9_tryRows_62 rfl (lv_at hl 1 rfl) ?_
              refine lv_aload_n hx hb dX9_tryRows_63 rfl (lv_at hl 0 rfl) ?_
              refine mq_getr (Tt := TX9) (N := 19) (C := RX9) hx hb hts hiX9 hown hK hP hp rfl 8 19 (by decide) rfl hw0 (fun _ h9 => h9) dX9_tryRows_64 ?_
              refine lv_iload_n hx hb dX9_tryRows_67 rfl (lv_at hl 1 rfl) ?_
              obtain ⟨h_14, hf⟩ := og_some hf
              refine mq_iald hx hb hK hP (N := 9) (shTC_X9_19 hp) h_14 dX9_tryRows_68 ?_
              obtain ⟨r_15, hr_16, hf⟩ := op_some hf
              refine mq_calli (va_runV (As := [.int x1, .int (g_6 (p0 + 19) x1.toNatClampNeg)]) (rest := []) ⟨hx, hb, hml, hown, hts⟩ (c_X9_hasSoles l D ad cy p0 x1 (g_6 (p0 + 19) x1.toNatClampNeg) g_6 hp r_15 hr_16) (cwV 2 hts gX9_tryRows_X9_hasSoles rfl rfl rfl (by decide +kernel) ⟨Nat.le_of_ble_eq_true rfl, Nat.le_of_ble_eq_true rfl⟩) (mq_preV (q := (RX9, TX9, 19)) mm_zOkC hK hP hI hZ hS hp rfl) rfl rfl hl.1 rfl (lv_room (Nat.le_of_ble_eq_true rfl)) dX9_tryRows_69 ⟨Nat.le_refl _, Nat.le_refl _⟩) hS (fun H locs hP hS => ?_)
              refine lv_if_eq (tgt := 133) hx hb dX9_tryRows_72 (by decide) (fun c_17 => ?_) (fun c_17 => ?_)
              · replace hf := ite_t c_17 hf
                obtain ⟨x2_18, ex2_18, hf⟩ := mv_some hf
                refine lv_iinc (v := x2_18) (lv' := [(2, .int x2_18), (0, .ref (ad p0)), (1, .int x1)]) hx hb dX9_tryRows_133 hl (k := 2) rfl (by rw [ex2_18]; rfl) (by decide) rfl (fun ls hl => ?_)
                refine lv_goto (tgt := 11) hx hb dX9_tryRows_136 (by decide) ?_
                exact ih x1 x2_18 g_6 H locs ls hP hS (lv_sub hl [1, 2, 0] rfl) hf
              · replace hf := ite_f c_17 hf
                refine lv_aload_n hx hb dX9_tryRows_75 rfl (lv_at hl 0 rfl) ?_
                refine lv_iload_n hx hb dX9_tryRows_76 rfl (lv_at hl 1 rfl) ?_
                refine lv_aload_n hx hb dX9_tryRows_77 rfl (lv_at hl 0 rfl) ?_
                refine mq_getr (Tt := TX9) (N := 19) (C := RX9) hx hb hts hiX9 hown hK hP hp rfl 8 19 (by decide) rfl hw0 (fun _ h9 => h9) dX9_tryRows_78 ?_
                refine lv_iload_n hx hb dX9_tryRows_81 rfl (lv_at hl 1 rfl) ?_
                obtain ⟨h_19, hf⟩ := og_some hf
                refine mq_iald hx hb hK hP (N := 9) (shTC_X9_19 hp) h_19 dX9_tryRows_82 ?_
                obtain ⟨r_20, hr_21, hf⟩ := op_some hf
                refine mq_calli (va_runV (As := [.int x1, .int (g_6 (p0 + 19) x1.toNatClampNeg)]) (rest := []) ⟨hx, hb, hml, hown, hts⟩ (c_X9_isBetter l D ad cy p0 x1 (g_6 (p0 + 19) x1.toNatClampNeg) g_6 hp r_20 hr_21) (cwV 2 hts gX9_tryRows_X9_isBetter rfl rfl rfl (by decide +kernel) ⟨Nat.le_of_ble_eq_true rfl, Nat.le_of_ble_eq_true rfl⟩) (mq_preV (q := (RX9, TX9, 19)) mm_zOkC hK hP hI hZ hS hp rfl) rfl rfl hl.1 rfl (lv_room (Nat.le_of_ble_eq_true rfl)) dX9_tryRows_83 ⟨Nat.le_refl _, Nat.le_refl _⟩) hS (fun H locs hP hS => ?_)
                refine lv_if_eq (tgt := 133) hx hb dX9_tryRows_86 (by decide) (fun c_22 => ?_) (fun c_22 => ?_)
                · replace hf := ite_t c_22 hf
                  obtain ⟨x2_23, ex2_23, hf⟩ := mv_some hf
                  refine lv_iinc (v := x2_23) (lv' := [(2, .int x2_23), (0, .ref (ad p0)), (1, .int x1)]) hx hb dX9_tryRows_133 hl (k := 2) rfl (by rw [ex2_23]; rfl) (by decide) rfl (fun ls hl => ?_)
                  refine lv_goto (tgt := 11) hx hb dX9_tryRows_136 (by decide) ?_
                  exact ih x1 x2_23 g_6 H locs ls hP hS (lv_sub hl [1, 2, 0] rfl) hf
                · replace hf := ite_f c_22 hf
                  refine lv_aload_n hx hb dX9_tryRows_89 rfl (lv_at hl 0 rfl) ?_
                  refine lv_iload_n hx hb dX9_tryRows_90 rfl (lv_at hl 1 rfl) ?_
                  refine lv_aload_n hx hb dX9_tryRows_91 rfl (lv_at hl 0 rfl) ?_
                  refine mq_getr (Tt := TX9) (N := 19) (C := RX9) hx hb hts hiX9 hown hK hP hp rfl 8 19 (by decide) rfl hw0 (fun _ h9 => h9) dX9_tryRows_92 ?_
                  refine lv_iload_n hx hb dX9_tryRows_95 rfl (lv_at hl 1 rfl) ?_
                  obtain ⟨h_24, hf⟩ := og_some hf
                  refine mq_iald hx hb hK hP (N := 9) (shTC_X9_19 hp) h_24 dX9_tryRows_96 ?_
                  obtain ⟨g_25, hr_26, hf⟩ := op_some hf
                  refine mq_callv (va_runV (As := [.int x1, .int (g_6 (p0 + 19) x1.toNatClampNeg)]) (rest := []) ⟨hx, hb, hml, hown, hts⟩ (c_X9_step l D ad cy p0 x1 (g_6 (p0 + 19) x1.toNatClampNeg) g_6 hp g_25 hr_26) (cwV 2 hts gX9_tryRows_X9_step rfl rfl rfl (by decide +kernel) ⟨Nat.le_of_ble_eq_true rfl, Nat.le_of_ble_eq_true rfl⟩) (mq_preV (q := (RX9, TX9, 19)) mm_zOkC hK hP hI hZ hS hp rfl) rfl rfl hl.1 rfl (lv_room (Nat.le_of_ble_eq_true rfl)) dX9_tryRows_97 ⟨Nat.le_refl _, Nat.le_refl _⟩) hS (fun H locs hP hS => ?_)
                  refine lv_iload_n hx hb dX9_tryRows_100 rfl (lv_at hl 1 rfl) ?_
                  refine lv_bipush (v := 8) hx hb dX9_tryRows_101 (by decide) ?_
                  refine lv_icmp_ne (tgt := 113) hx hb dX9_tryRows_103 (by decide) (fun c_27 => ?_) (fun c_27 => ?_)
                  · replace hf := ite_f c_27 hf
                    refine lv_aload_n hx hb dX9_tryRows_113 rfl (lv_at hl 0 rfl) ?_
                    refine lv_iload_n hx hb dX9_tryRows_114 rfl (lv_at hl 1 rfl) ?_
                    refine lv_iconst (v := 1) hx hb dX9_tryRows_115 (by decide) ?_
                    refine lv_iadd hx hb dX9_tryRows_116 ?_
                    obtain ⟨r_29, g_28, hr_30, hf⟩ := ob_some hf
                    refine mq_calli (va_runV (As := [.int (x1 + 1)]) (rest := []) ⟨hx, hb, hml, hown, hts⟩ (c_X9_isOutdone l D ad cy p0 (x1 + 1) g_25 hp r_29 g_28 hr_30) (cwV 1 hts gX9_tryRows_X9_isOutdone rfl rfl rfl (by decide +kernel) ⟨Nat.le_of_ble_eq_true rfl, Nat.le_of_ble_eq_true rfl⟩) (mq_preV (q := (RX9, TX9, 19)) mm_zOkC hK hP hI hZ hS hp rfl) rfl rfl hl.1 rfl (lv_room (Nat.le_of_ble_eq_true rfl)) dX9_tryRows_117 ⟨Nat.le_refl _, Nat.le_refl _⟩) hS (fun H locs hP hS => ?_)
                    refine lv_if_ne (tgt := 133) hx hb dX9_tryRows_120 (by decide) (fun c_31 => ?_) (fun c_31 => ?_)
                    · replace hf := ite_f c_31 hf
                      obtain ⟨x2_32, ex2_32, hf⟩ := mv_some hf
                      refine lv_iinc (v := x2_32) (lv' := [(2, .int x2_32), (0, .ref (ad p0)), (1, .int x1)]) hx hb dX9_tryRows_133 hl (k := 2) rfl (by rw [ex2_32]; rfl) (by decide) rfl (fun ls hl => ?_)
                      refine lv_goto (tgt := 11) hx hb dX9_tryRows_136 (by decide) ?_
                      exact ih x1 x2_32 g_28 H locs ls hP hS (lv_sub hl [1, 2, 0] rfl) hf
                    · replace hf := ite_t c_31 hf
                      obtain ⟨x1_33, ex1_33, hf⟩ := mv_some hf
                      refine lv_iinc (v := x1_33) (lv' := [(1, .int x1_33), (0, .ref (ad p0)), (2, .int x2)]) hx hb dX9_tryRows_123 hl (k := 1) rfl (by rw [ex1_33]; rfl) (by decide) rfl (fun ls hl => ?_)
                      refine lv_aload_n hx hb dX9_tryRows_126 rfl (lv_at hl 1 rfl) ?_
                      refine mq_getr (Tt := TX9) (N := 19) (C := RX9) hx hb hts hiX9 hown hK hP hp rfl 8 19 (by decide) rfl hw0 (fun _ h9 => h9) dX9_tryRows_127 ?_
                      refine lv_iload_n hx hb dX9_tryRows_130 rfl (lv_at hl 0 rfl) ?_
                      refine lv_iconst (v := (-1)) hx hb dX9_tryRows_131 (by decide) ?_
                      obtain ⟨h_34, hf⟩ := og_some hf
                      obtain ⟨g_35, eg_35, hf⟩ := mw_some hf
                      refine mq_iast hx hb hK hI hP hS (N := 9) (shTC_X9_19 hp) h_34 dX9_tryRows_132 eg_35 (fun H locs hP hS => ?_)
                      obtain ⟨x2_36, ex2_36, hf⟩ := mv_some hf
                      refine lv_iinc (v := x2_36) (lv' := [(2, .int x2_36), (1, .int x1_33), (0, .ref (ad p0))]) hx hb dX9_tryRows_133 hl (k := 2) rfl (by rw [ex2_36]; rfl) (by decide) rfl (fun ls hl => ?_)
                      refine lv_goto (tgt := 11) hx hb dX9_tryRows_136 (by decide) ?_
                      exact ih x1_33 x2_36 g_35 H locs ls hP hS (lv_sub hl [2, 1, 0] rfl) hf
                  · replace hf := ite_t c_27 hf
                    refine lv_aload_n hx hb dX9_tryRows_106 rfl (lv_at hl 0 rfl) ?_
                    obtain ⟨g_37, hr_38, hf⟩ := op_some hf
                    refine mq_callv (va_runV (As := []) (rest := []) ⟨hx, hb, hml, hown, hts⟩ (c_X9_keep l D ad cy p0 g_25 hp g_37 hr_38) (cwV 0 hts gX9_tryRows_X9_keep rfl rfl rfl (by decide +kernel) ⟨Nat.le_of_ble_eq_true rfl, Nat.le_of_ble_eq_true rfl⟩) (mq_preV (q := (RX9, TX9, 19)) mm_zOkC hK hP hI hZ hS hp rfl) rfl rfl hl.1 rfl (lv_room (Nat.le_of_ble_eq_true rfl)) dX9_tryRows_107 ⟨Nat.le_refl _, Nat.le_refl _⟩) hS (fun H locs hP hS => ?_)
                    refine lv_goto (tgt := 133) hx hb dX9_tryRows_110 (by decide) ?_
                    obtain ⟨x2_39, ex2_39, hf⟩ := mv_some hf
                    refine lv_iinc (v := x2_39) (lv' := [(2, .int x2_39), (0, .ref (ad p0)), (1, .int x1)]) hx hb dX9_tryRows_133 hl (k := 2) rfl (by rw [ex2_39]; rfl) (by decide) rfl (fun ls hl => ?_)
                    refine lv_goto (tgt := 11) hx hb dX9_tryRows_136 (by decide) ?_
                    exact ih x1 x2_39 g_37 H locs ls hP hS (lv_sub hl [1, 2, 0] rfl) hf
          · replace hf := ite_f c_8 hf
            obtain ⟨x1_40, ex1_40, hf⟩ := mv_some hf
            refine lv_iinc (v := x1_40) (lv' := [(1, .int x1_40), (0, .ref (ad p0)), (2, .int x2)]) hx hb dX9_tryRows_41 hl (k := 1) rfl (by rw [ex1_40]; rfl) (by decide) rfl (fun ls hl => ?_)
            refine lv_goto (tgt := 133) hx hb dX9_tryRows_44 (by decide) ?_
            obtain ⟨x2_41, ex2_41, hf⟩ := mv_some hf
            refine lv_iinc (v := x2_41) (lv' := [(2, .int x2_41), (1, .int x1_40), (0, .ref (ad p0))]) hx hb dX9_tryRows_133 hl (k := 2) rfl (by rw [ex2_41]; rfl) (by decide) rfl (fun ls hl => ?_)
            refine lv_goto (tgt := 11) hx hb dX9_tryRows_136 (by decide) ?_
            exact ih x1_40 x2_41 g_6 H locs ls hP hS (lv_sub hl [2, 1, 0] rfl) hf
  unfold f_X9_tryRows at hf
  have hH9 : ∀ (H : Heap) (locs : List Loc), H = s.heap → locs = [] → va_P D vwCl (mm_L TC ad cy g) H → va_S (mm_A TC ad) s.heap H locs → W p l e (headSpec wsX9_tryRows (rm_X9_tryRows)).room s m args below meth c H locs 0 0 (MQ below (mm_Qv D TC ad cy g') args s 0 0 (mm_A TC ad)) (F0 m 0 ls []) := by
    intro H locs hH9 hL9 hP hS
    clear hH9 hL9
    refine lv_iconst (v := 0) hx hb dX9_tryRows_0 (by decide) ?_
    refine lv_istore_n (lv' := [(1, .int 0), (0, .ref (ad p0))]) hx hb dX9_tryRows_1 rfl hl (by decide) rfl (fun ls hl => ?_)
    refine lv_aload_n hx hb dX9_tryRows_2 rfl (lv_at hl 1 rfl) ?_
    refine mq_getr (Tt := TX9) (N := 19) (C := RX9) hx hb hts hiX9 hown hK hP hp rfl 8 19 (by decide) rfl hw0 (fun _ h9 => h9) dX9_tryRows_3 ?_
    refine lv_iconst (v := 0) hx hb dX9_tryRows_6 (by decide) ?_
    refine lv_iconst (v := (-1)) hx hb dX9_tryRows_7 (by decide) ?_
    obtain ⟨g_1, eg_1, hf⟩ := mw_some hf
    refine mq_iast hx hb hK hI hP hS (N := 9) (shTC_X9_19 hp) (by decide : mm_in 0 9 = true) dX9_tryRows_8 eg_1 (fun H locs hP hS => ?_)
    refine lv_iconst (v := 0) hx hb dX9_tryRows_9 (by decide) ?_
    refine lv_istore_n (lv' := [(2, .int 0), (1, .int 0), (0, .ref (ad p0))]) hx hb dX9_tryRows_10 rfl hl (by decide) rfl (fun ls hl => ?_)
    exact hc11 FU 0 0 g_1 H locs ls hP hS (lv_sub hl [2, 1, 0] rfl) hf
  exact hH9 s.heap [] rfl rfl hP hS
abbrev rm_X9_search : Room := ({ frames := 4, cells := 0, slots := 0, locals := 105 } : Room)
set_option maxHeartbeats 4000000 in
set_option maxRecDepth 100000 in
theorem c_X9_search (l : Launch) (D : va_G) (ad : Nat → Nat) (cy : Nat → ClassId) (p0 : Nat) (q1 : Nat) (x2 : Int32) (x3 : Int32) (x4 : Int32) (x5 : Int32) (x6 : Int32) (g : Mm) (hp : TC[p0]? = some sX9) (hq1 : TC[q1]? = some sX10) (r0 : Int32) (g' : Mm) (hf : f_X9_search p0 q1 x2 x3 x4 x5 x6 g = some (r0, g')) : Met l yX9_search wsX9_search rm_X9_search (va_Pc [.ref (ad p0), .ref (ad q1), .int x2, .int x3, .int x4, .int x5, .int x6] (mm_pre mm_Z D TC ad cy g)) (mm_Qi D TC ad cy r0 g') 0 0 (mm_A TC ad) := by
  refine Met.ofW (cc := cX9_search) (maxL := 7) (ret := (some .boolean)) (by decide) rfl ?_
  intro p e s m args below meth c s₁ B hml hv
  obtain ⟨hargs, hP, hK, hI, hZ⟩ := hv
  have hx := B.exec
  have hb := B.bytes
  have hr := B.returns
  have hts := atoms_spec (ws := wsX9_search) B.pre
  have hown : s.vm.findClass RX9 = some m.cls := findClass_of_methodNamed B.named
  have hlocks := B.notSynchronized
  have hw0 := hts (.fieldLink RX9 11 "LeftShoes$Walk" "worn" "[LLeftShoes$Shoe;") (by decide +kernel)
  have hiX9 : ∀ w ∈ wsX90, w ∈ wsX9_search := by decide +kernel
  have hw2 := hts (.fieldLink RX9 70 "LeftShoes$Walk" "isOneFooted" "Z") (by decide +kernel)
  have hw3 := hts (.fieldLink RX9 74 "LeftShoes$Walk" "limit" "I") (by decide +kernel)
  have hw4 := hts (.fieldLink RX9 57 "LeftShoes$Walk" "arrivals" "LLeftShoes$Arrivals;") (by decide +kernel)
  have hw5 := hts (.fieldLink RX9 88 "LeftShoes$Walk" "isFound" "Z") (by decide +kernel)
  have hw6 := hts (.fieldLink RX9 91 "LeftShoes$Walk" "bestCost" "I") (by decide +kernel)
  have hw7 := hts (.fieldLink RX9 94 "LeftShoes$Walk" "bestMinutes" "I") (by decide +kernel)
  rw [show entryFrame m args 7 = F0 m 0 ((lg_sl ([.ref (ad p0), .ref (ad q1), .int x2, .int x3, .int x4, .int x5, .int x6] : List Value) ++ List.replicate (7 - (lg_sl ([.ref (ad p0), .ref (ad q1), .int x2, .int x3, .int x4, .int x5, .int x6] : List Value)).length) Slot.unset).toArray) [] from by rw [hargs]; exact lg_entry_eq m _ _]
  have hl := lv_entry ([.ref (ad p0), .ref (ad q1), .int x2, .int x3, .int x4, .int x5, .int x6] : List Value) (n := 7) (by exact Nat.le_of_ble_eq_true rfl)
  generalize (lg_sl ([.ref (ad p0), .ref (ad q1), .int x2, .int x3, .int x4, .int x5, .int x6] : List Value) ++ List.replicate (7 - (lg_sl ([.ref (ad p0), .ref (ad q1), .int x2, .int x3, .int x4, .int x5, .int x6] : List Value)).length) Slot.unset).toArray = ls at hl ⊢
  have hl : lv_has ls 7 [(0, .ref (ad p0)), (1, .ref (ad q1)), (2, .int x2), (3, .int x3), (4, .int x4), (5, .int x5), (6, .int x6)] := by exact hl
  have hS : va_S (mm_A TC ad) s.heap s.heap [] := va_S.rf
  clear hargs
  unfold f_X9_search at hf
  have hH9 : ∀ (H : Heap) (locs : List Loc), H = s.heap → locs = [] → va_P D vwCl (mm_L TC ad cy g) H → va_S (mm_A TC ad) s.heap H locs → W p l e (headSpec wsX9_search (rm_X9_search)).room s m args below meth c H locs 0 0 (MQ below (mm_Qi D TC ad cy r0 g') args s 0 0 (mm_A TC ad)) (F0 m 0 ls []) := by
    intro H locs hH9 hL9 hP hS
    clear hH9 hL9
    refine lv_aload_n hx hb dX9_search_0 rfl (lv_at hl 0 rfl) ?_
    refine mq_getr (Tt := TX9) (N := 19) (C := RX9) hx hb hts hiX9 hown hK hP hp rfl 0 1 (by decide) rfl hw0 (fun _ h9 => h9) dX9_search_1 ?_
    refine lv_iconst (v := 0) hx hb dX9_search_4 (by decide) ?_
    refine lv_aload_n hx hb dX9_search_5 rfl (lv_at hl 1 rfl) ?_
    refine lv_iload_n hx hb dX9_search_6 rfl (lv_at hl 3 rfl) ?_
    obtain ⟨r_1, hr_2, hf⟩ := op_some hf
    obtain ⟨h_3, hf⟩ := og_some hf
    refine mq_callq (va_runV (As := [.int x3]) (rest := [.int 0, .ref (ad (p0 + 1))]) ⟨hx, hb, hml, hown, hts⟩ (c_X10_shoeOrNull l D ad cy q1 x3 g hq1 r_1 hr_2) (cwV 1 hts gX9_search_X10_shoeOrNull rfl rfl rfl (by decide +kernel) ⟨Nat.le_of_ble_eq_true rfl, Nat.le_of_ble_eq_true rfl⟩) (mq_preV (q := (RX10, TX10, 9)) mm_zOkC hK hP hI hZ hS hq1 rfl) rfl rfl hl.1 rfl (lv_room (Nat.le_of_ble_eq_true rfl)) dX9_search_7 ⟨Nat.le_refl _, Nat.le_refl _⟩) hS (fun H locs hP hS => ?_)
    obtain ⟨g_4, eg_4, hf⟩ := mw_some hf
    refine mq_aasto (r := (RX5, TX5, 5)) hx hb hK hI hP hS (N := 3) (shTC_X9_1 hp) rfl (mm_os_at h_3) rfl (codeTC h_3) (by decide : mm_in 0 3 = true) dX9_search_10 eg_4 (fun H locs hP hS => ?_)
    refine lv_aload_n hx hb dX9_search_11 rfl (lv_at hl 0 rfl) ?_
    refine mq_getr (Tt := TX9) (N := 19) (C := RX9) hx hb hts hiX9 hown hK hP hp rfl 0 1 (by decide) rfl hw0 (fun _ h9 => h9) dX9_search_12 ?_
    refine lv_iconst (v := 1) hx hb dX9_search_15 (by decide) ?_
    refine lv_aload_n hx hb dX9_search_16 rfl (lv_at hl 1 rfl) ?_
    refine lv_iload hx hb dX9_search_17 (lv_at hl 4 rfl) ?_
    obtain ⟨r_5, hr_6, hf⟩ := op_some hf
    obtain ⟨h_7, hf⟩ := og_some hf
    refine mq_callq (va_runV (As := [.int x4]) (rest := [.int 1, .ref (ad (p0 + 1))]) ⟨hx, hb, hml, hown, hts⟩ (c_X10_shoeOrNull l D ad cy q1 x4 g_4 hq1 r_5 hr_6) (cwV 1 hts gX9_search_X10_shoeOrNull rfl rfl rfl (by decide +kernel) ⟨Nat.le_of_ble_eq_true rfl, Nat.le_of_ble_eq_true rfl⟩) (mq_preV (q := (RX10, TX10, 9)) mm_zOkC hK hP hI hZ hS hq1 rfl) rfl rfl hl.1 rfl (lv_room (Nat.le_of_ble_eq_true rfl)) dX9_search_19 ⟨Nat.le_refl _, Nat.le_refl _⟩) hS (fun H locs hP hS => ?_)
    obtain ⟨g_8, eg_8, hf⟩ := mw_some hf
    refine mq_aasto (r := (RX5, TX5, 5)) hx hb hK hI hP hS (N := 3) (shTC_X9_1 hp) rfl (mm_os_at h_7) rfl (codeTC h_7) (by decide : mm_in 1 3 = true) dX9_search_22 eg_8 (fun H locs hP hS => ?_)
    refine lv_aload_n hx hb dX9_search_23 rfl (lv_at hl 0 rfl) ?_
    refine mq_getr (Tt := TX9) (N := 19) (C := RX9) hx hb hts hiX9 hown hK hP hp rfl 0 1 (by decide) rfl hw0 (fun _ h9 => h9) dX9_search_24 ?_
    refine lv_iconst (v := 2) hx hb dX9_search_27 (by decide) ?_
    refine lv_aload_n hx hb dX9_search_28 rfl (lv_at hl 1 rfl) ?_
    refine lv_iload hx hb dX9_search_29 (lv_at hl 5 rfl) ?_
    obtain ⟨r_9, hr_10, hf⟩ := op_some hf
    obtain ⟨h_11, hf⟩ := og_some hf
    refine mq_callq (va_runV (As := [.int x5]) (rest := [.int 2, .ref (ad (p0 + 1))]) ⟨hx, hb, hml, hown, hts⟩ (c_X10_shoeOrNull l D ad cy q1 x5 g_8 hq1 r_9 hr_10) (cwV 1 hts gX9_search_X10_shoeOrNull rfl rfl rfl (by decide +kernel) ⟨Nat.le_of_ble_eq_true rfl, Nat.le_of_ble_eq_true rfl⟩) (mq_preV (q := (RX10, TX10, 9)) mm_zOkC hK hP hI hZ hS hq1 rfl) rfl rfl hl.1 rfl (lv_room (Nat.le_of_ble_eq_true rfl)) dX9_search_31 ⟨Nat.le_refl _, Nat.le_refl _⟩) hS (fun H locs hP hS => ?_)
    obtain ⟨g_12, eg_12, hf⟩ := mw_some hf
    refine mq_aasto (r := (RX5, TX5, 5)) hx hb hK hI hP hS (N := 3) (shTC_X9_1 hp) rfl (mm_os_at h_11) rfl (codeTC h_11) (by decide : mm_in 2 3 = true) dX9_search_34 eg_12 (fun H locs hP hS => ?_)
    refine lv_aload_n hx hb dX9_search_35 rfl (lv_at hl 0 rfl) ?_
    refine lv_iload_n hx hb dX9_search_36 rfl (lv_at hl 2 rfl) ?_
    obtain ⟨h_13, hf⟩ := og_some hf
    obtain ⟨g_14, eg_14, hf⟩ := mw_some hf
    refine mq_puti (Tt := TX9) (N := 19) (C := RX9) (ty := .boolean) hx hb hts hiX9 tyX9 tyX9_ok nmX9 hown hK hI hP hS hp rfl 1 (by decide) rfl hw2 (fun _ h9 => h9) rfl (by decide +kernel) (mm_01_nar h_13) (mm_01_fit h_13) dX9_search_37 eg_14 (fun H locs hP hS => ?_)
    refine lv_aload_n hx hb dX9_search_40 rfl (lv_at hl 0 rfl) ?_
    refine lv_iload hx hb dX9_search_41 (lv_at hl 6 rfl) ?_
    obtain ⟨g_15, eg_15, hf⟩ := mw_some hf
    refine mq_puti (Tt := TX9) (N := 19) (C := RX9) (ty := .int) hx hb hts hiX9 tyX9 tyX9_ok nmX9 hown hK hI hP hS hp rfl 2 (by decide) rfl hw3 (fun _ h9 => h9) rfl (by decide +kernel) rfl rfl dX9_search_43 eg_15 (fun H locs hP hS => ?_)
    refine lv_aload_n hx hb dX9_search_46 rfl (lv_at hl 0 rfl) ?_
    refine mq_getr (Tt := TX9) (N := 19) (C := RX9) hx hb hts hiX9 hown hK hP hp rfl 14 45 (by decide) rfl hw4 (fun _ h9 => h9) dX9_search_47 ?_
    obtain ⟨g_16, hr_17, hf⟩ := op_some hf
    refine mq_callv (va_runV (As := []) (rest := []) ⟨hx, hb, hml, hown, hts⟩ (c_X0_forget l D ad cy (p0 + 45) g_15 (shTC_X9_45 hp) g_16 hr_17) (cwV 0 hts gX9_search_X0_forget rfl rfl rfl (by decide +kernel) ⟨Nat.le_of_ble_eq_true rfl, Nat.le_of_ble_eq_true rfl⟩) (mq_preV (q := (RX0, TX0, 4)) mm_zOkC hK hP hI hZ hS (shTC_X9_45 hp) rfl) rfl rfl hl.1 rfl (lv_room (Nat.le_of_ble_eq_true rfl)) dX9_search_50 ⟨Nat.le_refl _, Nat.le_refl _⟩) hS (fun H locs hP hS => ?_)
    refine lv_aload_n hx hb dX9_search_53 rfl (lv_at hl 0 rfl) ?_
    refine lv_aload_n hx hb dX9_search_54 rfl (lv_at hl 1 rfl) ?_
    obtain ⟨g_18, hr_19, hf⟩ := op_some hf
    refine mq_callv (va_runV (As := [.ref (ad q1)]) (rest := []) ⟨hx, hb, hml, hown, hts⟩ (c_X9_prepareGoings l D ad cy p0 q1 g_16 hp hq1 g_18 hr_19) (cwV 1 hts gX9_search_X9_prepareGoings rfl rfl rfl (by decide +kernel) ⟨Nat.le_of_ble_eq_true rfl, Nat.le_of_ble_eq_true rfl⟩) (mq_preV (q := (RX9, TX9, 19)) mm_zOkC hK hP hI hZ hS hp rfl) rfl rfl hl.1 rfl (lv_room (Nat.le_of_ble_eq_true rfl)) dX9_search_55 ⟨Nat.le_refl _, Nat.le_refl _⟩) hS (fun H locs hP hS => ?_)
    refine lv_aload_n hx hb dX9_search_58 rfl (lv_at hl 0 rfl) ?_
    obtain ⟨g_20, hr_21, hf⟩ := op_some hf
    refine mq_callv (va_runV (As := []) (rest := []) ⟨hx, hb, hml, hown, hts⟩ (c_X9_prepareLeast l D ad cy p0 g_18 hp g_20 hr_21) (cwV 0 hts gX9_search_X9_prepareLeast rfl rfl rfl (by decide +kernel) ⟨Nat.le_of_ble_eq_true rfl, Nat.le_of_ble_eq_true rfl⟩) (mq_preV (q := (RX9, TX9, 19)) mm_zOkC hK hP hI hZ hS hp rfl) rfl rfl hl.1 rfl (lv_room (Nat.le_of_ble_eq_true rfl)) dX9_search_59 ⟨Nat.le_refl _, Nat.le_refl _⟩) hS (fun H locs hP hS => ?_)
    refine lv_aload_n hx hb dX9_search_62 rfl (lv_at hl 0 rfl) ?_
    refine lv_iconst (v := 0) hx hb dX9_search_63 (by decide) ?_
    obtain ⟨g_22, eg_22, hf⟩ := mw_some hf
    refine mq_puti (Tt := TX9) (N := 19) (C := RX9) (ty := .boolean) hx hb hts hiX9 tyX9 tyX9_ok nmX9 hown hK hI hP hS hp rfl 15 (by decide) rfl hw5 (fun _ h9 => h9) rfl (by decide +kernel) (by decide +kernel) (by decide +kernel) dX9_search_64 eg_22 (fun H locs hP hS => ?_)
    refine lv_aload_n hx hb dX9_search_67 rfl (lv_at hl 0 rfl) ?_
    refine lv_iconst (v := 0) hx hb dX9_search_68 (by decide) ?_
    obtain ⟨g_23, eg_23, hf⟩ := mw_some hf
    refine mq_puti (Tt := TX9) (N := 19) (C := RX9) (ty := .int) hx hb hts hiX9 tyX9 tyX9_ok nmX9 hown hK hI hP hS hp rfl 17 (by decide) rfl hw6 (fun _ h9 => h9) rfl (by decide +kernel) rfl rfl dX9_search_69 eg_23 (fun H locs hP hS => ?_)
    refine lv_aload_n hx hb dX9_search_72 rfl (lv_at hl 0 rfl) ?_
    refine lv_iconst (v := 0) hx hb dX9_search_73 (by decide) ?_
    obtain ⟨g_24, eg_24, hf⟩ := mw_some hf
    refine mq_puti (Tt := TX9) (N := 19) (C := RX9) (ty := .int) hx hb hts hiX9 tyX9 tyX9_ok nmX9 hown hK hI hP hS hp rfl 18 (by decide) rfl hw7 (fun _ h9 => h9) rfl (by decide +kernel) rfl rfl dX9_search_74 eg_24 (fun H locs hP hS => ?_)
    refine lv_aload_n hx hb dX9_search_77 rfl (lv_at hl 0 rfl) ?_
    obtain ⟨g_25, hr_26, hf⟩ := op_some hf
    refine mq_callv (va_runV (As := []) (rest := []) ⟨hx, hb, hml, hown, hts⟩ (c_X9_tryRows l D ad cy p0 g_24 hp g_25 hr_26) (cwV 0 hts gX9_search_X9_tryRows rfl rfl rfl (by decide +kernel) ⟨Nat.le_of_ble_eq_true rfl, Nat.le_of_ble_eq_true rfl⟩) (mq_preV (q := (RX9, TX9, 19)) mm_zOkC hK hP hI hZ hS hp rfl) rfl rfl hl.1 rfl (lv_room (Nat.le_of_ble_eq_true rfl)) dX9_search_78 ⟨Nat.le_refl _, Nat.le_refl _⟩) hS (fun H locs hP hS => ?_)
    refine lv_aload_n hx hb dX9_search_81 rfl (lv_at hl 0 rfl) ?_
    refine mq_geti (Tt := TX9) (N := 19) (C := RX9) hx hb hts hiX9 hown hK hP hp rfl 15 (by decide) rfl hw5 (fun _ h9 => h9) dX9_search_82 ?_
    obtain ⟨h_27, hf⟩ := og_some hf
    exact mq_iret hx hb hr (mm_01_nar h_27) hlocks hP hS (pr_1 hf) (pr_2 hf) dX9_search_85
  exact hH9 s.heap [] rfl rfl hP hS
abbrev rm_X9_wearOut : Room := ({ frames := 0, cells := 0, slots := 0, locals := 0 } : Room)
set_option maxHeartbeats 4000000 in
set_option maxRecDepth 100000 in
theorem c_X9_wearOut (l : Launch) (D : va_G) (ad : Nat → Nat) (cy : Nat → ClassId) (p0 : Nat) (g : Mm) (hp : TC[p0]? = some sX9) (g' : Mm) (hf : f_X9_wearOut p0 g = some g') : Met l yX9_wearOut wsX9_wearOut rm_X9_wearOut (va_Pc [.ref (ad p0)] (mm_pre mm_Z D TC ad cy g)) (mm_Qv D TC ad cy g') 0 0 (mm_A TC ad) := by
  refine Met.ofW (cc := cX9_wearOut) (maxL := 3) (ret := none) (by decide) rfl ?_
  intro p e s m args below meth c s₁ B hml hv
  obtain ⟨hargs, hP, hK, hI, hZ⟩ := hv
  have hx := B.exec
  have hb := B.bytes
  have hr := B.returns
  have hts := atoms_spec (ws := wsX9_wearOut) B.pre
  have hown : s.vm.findClass RX9 = some m.cls := findClass_of_methodNamed B.named
  have hlocks := B.notSynchronized
  have hw0 := hts (.fieldLink RX9 11 "LeftShoes$Walk" "worn" "[LLeftShoes$Shoe;") (by decide +kernel)
  have hiX9 : ∀ w ∈ wsX90, w ∈ wsX9_wearOut := by decide +kernel
  have hw2 := hts (.fieldLink RX9 123 "LeftShoes$Shoe" "soles" "I") (by decide +kernel)
  have hiX5 : ∀ w ∈ wsX50, w ∈ wsX9_wearOut := by decide +kernel
  have hw4 := hts (.fieldLink RX9 29 "LeftShoes$Walk" "wearOf" "[[I") (by decide +kernel)
  have hw5 := hts (.fieldLink RX9 61 "LeftShoes$Walk" "best" "[I") (by decide +kernel)
  rw [show entryFrame m args 3 = F0 m 0 ((lg_sl ([.ref (ad p0)] : List Value) ++ List.replicate (3 - (lg_sl ([.ref (ad p0)] : List Value)).length) Slot.unset).toArray) [] from by rw [hargs]; exact lg_entry_eq m _ _]
  have hl := lv_entry ([.ref (ad p0)] : List Value) (n := 3) (by exact Nat.le_of_ble_eq_true rfl)
  generalize (lg_sl ([.ref (ad p0)] : List Value) ++ List.replicate (3 - (lg_sl ([.ref (ad p0)] : List Value)).length) Slot.unset).toArray = ls at hl ⊢
  have hl : lv_has ls 3 [(0, .ref (ad p0))] := by exact hl
  have hS : va_S (mm_A TC ad) s.heap s.heap [] := va_S.rf
  clear hargs
  have hc10 : ∀ (K_2 : Int32 → Mm → Option (Mm)), (∀ (x1 : Int32) (g : Mm) (H : Heap) (locs : List Loc) (ls : Array Slot), va_P D vwCl (mm_L TC ad cy g) H → va_S (mm_A TC ad) s.heap H locs → lv_has ls 3 [(0, .ref (ad p0)), (1, .int x1)] → K_2 x1 g = some g' → W p l e (headSpec wsX9_wearOut (rm_X9_wearOut)).room s m args below meth c H locs 0 0 (MQ below (mm_Qv D TC ad cy g') args s 0 0 (mm_A TC ad)) (F0 m 2 ls [])) → ∀ (n : Nat), ∀ (x1 : Int32) (x2 : Int32) (g : Mm) (H : Heap) (locs : List Loc) (ls : Array Slot), va_P D vwCl (mm_L TC ad cy g) H → va_S (mm_A TC ad) s.heap H locs → lv_has ls 3 [(0, .ref (ad p0)), (1, .int x1), (2, .int x2)] → f_X9_wearOut_c10 K_2 p0 n x1 x2 g = some g' → W p l e (headSpec wsX9_wearOut (rm_X9_wearOut)).room s m args below meth c H locs 0 0 (MQ below (mm_Qv D TC ad cy g') args s 0 0 (mm_A TC ad)) (F0 m 10 ls []) := by
    intro K_2 hK_2 n
    induction n with
    | zero =>
      intro x1 x2 g H locs ls hP hS hl hf
      rw [f_X9_wearOut_c10] at hf
      cases hf
    | succ n ih =>
      intro x1 x2 g H locs ls hP hS hl hf
      rw [f_X9_wearOut_c10] at hf
      refine lv_iload_n hx hb dX9_wearOut_10 rfl (lv_at hl 2 rfl) ?_
      refine lv_iconst (v := 3) hx hb dX9_wearOut_11 (by decide) ?_
      refine lv_icmp_ge (tgt := 57) hx hb dX9_wearOut_12 (by decide) (fun c_2 => ?_) (fun c_2 => ?_)
      · replace hf := ite_t c_2 hf
        obtain ⟨x1_3, ex1_3, hf⟩ := mv_some hf
        refine lv_iinc (v := x1_3) (lv' := [(1, .int x1_3), (0, .ref (ad p0)), (2, .int x2)]) hx hb dX9_wearOut_57 hl (k := 1) rfl (by rw [ex1_3]; rfl) (by decide) rfl (fun ls hl => ?_)
        refine lv_goto (tgt := 2) hx hb dX9_wearOut_60 (by decide) ?_
        exact hK_2 x1_3 g H locs ls hP hS (lv_sub hl [1, 0] rfl) hf
      · replace hf := ite_f c_2 hf
        refine lv_aload_n hx hb dX9_wearOut_15 rfl (lv_at hl 0 rfl) ?_
        refine mq_getr (Tt := TX9) (N := 19) (C := RX9) hx hb hts hiX9 hown hK hP hp rfl 0 1 (by decide) rfl hw0 (fun _ h9 => h9) dX9_wearOut_16 ?_
        refine lv_iload_n hx hb dX9_wearOut_19 rfl (lv_at hl 2 rfl) ?_
        obtain ⟨h_4, hf⟩ := og_some hf
        obtain ⟨o_5, eo_5, hf⟩ := mv_some hf
        obtain ⟨h_6, hf⟩ := og_some hf
        refine mq_aaldm hx hb hK hP (N := 3) (shTC_X9_1 hp) rfl h_4 dX9_wearOut_20 ?_
        refine mq_nmo eo_5 ?_
        cases o_5 with
        | none =>
          replace hf := on_n hf
          refine lv_ifnullN (tgt := 51) hx hb dX9_wearOut_21 (by decide) ?_
          obtain ⟨x2_8, ex2_8, hf⟩ := mv_some hf
          refine lv_iinc (v := x2_8) (lv' := [(2, .int x2_8), (0, .ref (ad p0)), (1, .int x1)]) hx hb dX9_wearOut_51 hl (k := 2) rfl (by rw [ex2_8]; rfl) (by decide) rfl (fun ls hl => ?_)
          refine lv_goto (tgt := 10) hx hb dX9_wearOut_54 (by decide) ?_
          exact ih x1 x2_8 g H locs ls hP hS (lv_sub hl [1, 2, 0] rfl) hf
        | some q_7 =>
          replace hf := on_s hf
          refine lv_ifnull hx hb dX9_wearOut_21 ?_
          refine lv_aload_n hx hb dX9_wearOut_24 rfl (lv_at hl 0 rfl) ?_
          refine mq_getr (Tt := TX9) (N := 19) (C := RX9) hx hb hts hiX9 hown hK hP hp rfl 0 1 (by decide) rfl hw0 (fun _ h9 => h9) dX9_wearOut_25 ?_
          refine lv_iload_n hx hb dX9_wearOut_28 rfl (lv_at hl 2 rfl) ?_
          obtain ⟨h_9, hf⟩ := og_some hf
          obtain ⟨o_10, eo_10, hf⟩ := mv_some hf
          obtain ⟨h_11, hf⟩ := og_some hf
          refine mq_aaldm hx hb hK hP (N := 3) (shTC_X9_1 hp) rfl h_9 dX9_wearOut_29 ?_
          refine mq_nmo eo_10 ?_
          refine lv_dup hx hb dX9_wearOut_30 (by cases o_10 <;> rfl) ?_
          obtain ⟨q_12, eq_12, hf⟩ := on_ex hf
          subst eq_12
          refine mq_geti (Tt := TX5) (N := 5) (C := RX5) hx hb hts hiX5 hown hK hP (mm_os_q h_11) rfl 2 (by decide) rfl hw2 (fun _ h9 => h9) dX9_wearOut_31 ?_
          refine lv_aload_n hx hb dX9_wearOut_34 rfl (lv_at hl 0 rfl) ?_
          refine mq_getr (Tt := TX9) (N := 19) (C := RX9) hx hb hts hiX9 hown hK hP hp rfl 6 13 (by decide) rfl hw4 (fun _ h9 => h9) dX9_wearOut_35 ?_
          refine lv_aload_n hx hb dX9_wearOut_38 rfl (lv_at hl 0 rfl) ?_
          refine mq_getr (Tt := TX9) (N := 19) (C := RX9) hx hb hts hiX9 hown hK hP hp rfl 16 49 (by decide) rfl hw5 (fun _ h9 => h9) dX9_wearOut_39 ?_
          refine lv_iload_n hx hb dX9_wearOut_42 rfl (lv_at hl 1 rfl) ?_
          obtain ⟨h_13, hf⟩ := og_some hf
          refine mq_iald hx hb hK hP (N := 9) (shTC_X9_49 hp) h_13 dX9_wearOut_43 ?_
          obtain ⟨h_14, hf⟩ := og_some hf
          refine mq_aaldA hx hb hK hP (N := 4) (shTC_X9_13 hp) h_14 dX9_wearOut_44 ?_
          refine lv_iload_n hx hb dX9_wearOut_45 rfl (lv_at hl 2 rfl) ?_
          obtain ⟨h_15, hf⟩ := og_some hf
          refine mq_iald hx hb hK hP (N := 3) (shTC_X9_14i_0 hp (mm_in_lt h_14)) h_15 dX9_wearOut_46 ?_
          refine lv_isub hx hb dX9_wearOut_47 ?_
          obtain ⟨g_16, eg_16, hf⟩ := mw_some hf
          refine mq_puti (Tt := TX5) (N := 5) (C := RX5) (ty := .int) hx hb hts hiX5 tyX5 tyX5_ok nmX5 hown hK hI hP hS (mm_os_q h_11) rfl 2 (by decide) rfl hw2 (fun _ h9 => h9) rfl (by decide +kernel) rfl rfl dX9_wearOut_48 eg_16 (fun H locs hP hS => ?_)
          obtain ⟨x2_17, ex2_17, hf⟩ := mv_some hf
          refine lv_iinc (v := x2_17) (lv' := [(2, .int x2_17), (0, .ref (ad p0)), (1, .int x1)]) hx hb dX9_wearOut_51 hl (k := 2) rfl (by rw [ex2_17]; rfl) (by decide) rfl (fun ls hl => ?_)
          refine lv_goto (tgt := 10) hx hb dX9_wearOut_54 (by decide) ?_
          exact ih x1 x2_17 g_16 H locs ls hP hS (lv_sub hl [1, 2, 0] rfl) hf
  have hc2 : ∀ (n : Nat), ∀ (x1 : Int32) (g : Mm) (H : Heap) (locs : List Loc) (ls : Array Slot), va_P D vwCl (mm_L TC ad cy g) H → va_S (mm_A TC ad) s.heap H locs → lv_has ls 3 [(0, .ref (ad p0)), (1, .int x1)] → f_X9_wearOut_c2 p0 n x1 g = some g' → W p l e (headSpec wsX9_wearOut (rm_X9_wearOut)).room s m args below meth c H locs 0 0 (MQ below (mm_Qv D TC ad cy g') args s 0 0 (mm_A TC ad)) (F0 m 2 ls []) := by
    intro n
    induction n with
    | zero =>
      intro x1 g H locs ls hP hS hl hf
      rw [f_X9_wearOut_c2] at hf
      cases hf
    | succ n ih =>
      intro x1 g H locs ls hP hS hl hf
      rw [f_X9_wearOut_c2] at hf
      refine lv_iload_n hx hb dX9_wearOut_2 rfl (lv_at hl 1 rfl) ?_
      refine lv_bipush (v := 9) hx hb dX9_wearOut_3 (by decide) ?_
      refine lv_icmp_ge (tgt := 63) hx hb dX9_wearOut_5 (by decide) (fun c_1 => ?_) (fun c_1 => ?_)
      · replace hf := ite_t c_1 hf
        exact mq_vret hx hb hr hlocks hP hS (Option.some.inj hf) dX9_wearOut_63
      · replace hf := ite_f c_1 hf
        refine lv_iconst (v := 0) hx hb dX9_wearOut_8 (by decide) ?_
        refine lv_istore_n (lv' := [(2, .int 0), (0, .ref (ad p0)), (1, .int x1)]) hx hb dX9_wearOut_9 rfl hl (by decide) rfl (fun ls hl => ?_)
        exact hc10 (f_X9_wearOut_c2 p0 n) ih FU x1 0 g H locs ls hP hS (lv_sub hl [1, 2, 0] rfl) hf
  unfold f_X9_wearOut at hf
  have hH9 : ∀ (H : Heap) (locs : List Loc), H = s.heap → locs = [] → va_P D vwCl (mm_L TC ad cy g) H → va_S (mm_A TC ad) s.heap H locs → W p l e (headSpec wsX9_wearOut (rm_X9_wearOut)).room s m args below meth c H locs 0 0 (MQ below (mm_Qv D TC ad cy g') args s 0 0 (mm_A TC ad)) (F0 m 0 ls []) := by
    intro H locs hH9 hL9 hP hS
    clear hH9 hL9
    refine lv_iconst (v := 0) hx hb dX9_wearOut_0 (by decide) ?_
    refine lv_istore_n (lv' := [(1, .int 0), (0, .ref (ad p0))]) hx hb dX9_wearOut_1 rfl hl (by decide) rfl (fun ls hl => ?_)
    exact hc2 FU 0 g H locs ls hP hS (lv_sub hl [1, 0] rfl) hf
  exact hH9 s.heap [] rfl rfl hP hS
abbrev rm_X11_person : Room := ({ frames := 1, cells := 0, slots := 0, locals := 22 } : Room)
set_option maxHeartbeats 4000000 in
set_option maxRecDepth 100000 in
theorem c_X11_person (l : Launch) (D : va_G) (ad : Nat → Nat) (cy : Nat → ClassId) (x1 : Int32) (x2 : Int32) (g : Mm) (hp : TC[0]? = some sX11) (r0 : Int32) (g' : Mm) (hf : f_X11_person x1 x2 g = some (r0, g')) : Met l yX11_person wsX11_person rm_X11_person (va_Pc [.ref (ad 0), .int x1, .int x2] (mm_pre mm_Z D TC ad cy g)) (mm_Qi D TC ad cy r0 g') 0 0 (mm_A TC ad) := by
  refine Met.ofW (cc := cX11_person) (maxL := 3) (ret := (some .int)) (by decide) rfl ?_
  intro p e s m args below meth c s₁ B hml hv
  obtain ⟨hargs, hP, hK, hI, hZ⟩ := hv
  have hx := B.exec
  have hb := B.bytes
  have hr := B.returns
  have hts := atoms_spec (ws := wsX11_person) B.pre
  have hown : s.vm.findClass RX11 = some m.cls := findClass_of_methodNamed B.named
  have hlocks := B.notSynchronized
  have hw0 := hts (.fieldLink RX11 10 "LeftShoes" "now" "LLeftShoes$World;") (by decide +kernel)
  have hiX11 : ∀ w ∈ wsX110, w ∈ wsX11_person := by decide +kernel
  rw [show entryFrame m args 3 = F0 m 0 ((lg_sl ([.ref (ad 0), .int x1, .int x2] : List Value) ++ List.replicate (3 - (lg_sl ([.ref (ad 0), .int x1, .int x2] : List Value)).length) Slot.unset).toArray) [] from by rw [hargs]; exact lg_entry_eq m _ _]
  have hl := lv_entry ([.ref (ad 0), .int x1, .int x2] : List Value) (n := 3) (by exact Nat.le_of_ble_eq_true rfl)
  generalize (lg_sl ([.ref (ad 0), .int x1, .int x2] : List Value) ++ List.replicate (3 - (lg_sl ([.ref (ad 0), .int x1, .int x2] : List Value)).length) Slot.unset).toArray = ls at hl ⊢
  have hl : lv_has ls 3 [(0, .ref (ad 0)), (1, .int x1), (2, .int x2)] := by exact hl
  have hS : va_S (mm_A TC ad) s.heap s.heap [] := va_S.rf
  clear hargs
  unfold f_X11_person at hf
  have hH9 : ∀ (H : Heap) (locs : List Loc), H = s.heap → locs = [] → va_P D vwCl (mm_L TC ad cy g) H → va_S (mm_A TC ad) s.heap H locs → W p l e (headSpec wsX11_person (rm_X11_person)).room s m args below meth c H locs 0 0 (MQ below (mm_Qi D TC ad cy r0 g') args s 0 0 (mm_A TC ad)) (F0 m 0 ls []) := by
    intro H locs hH9 hL9 hP hS
    clear hH9 hL9
    refine lv_iload_n hx hb dX11_person_0 rfl (lv_at hl 1 rfl) ?_
    refine lv_iconst (v := 0) hx hb dX11_person_1 (by decide) ?_
    refine lv_sipush (v := 9999) hx hb dX11_person_2 (by decide) ?_
    obtain ⟨r_1, hr_2, hf⟩ := op_some hf
    refine mq_calli (va_runS (As := [.int x1, .int 0, .int 9999]) (rest := []) ⟨hx, hb, hml, hown, hts⟩ (c_X11_isWithin l D ad cy x1 0 9999 g r_1 hr_2) (va_cwS 3 hts gX11_person_X11_isWithin rfl rfl rfl (by decide +kernel) ⟨Nat.le_of_ble_eq_true rfl, Nat.le_of_ble_eq_true rfl⟩) (mq_preS mm_zOkC hK hP hI hZ hS) rfl rfl hl.1 rfl (lv_room (Nat.le_of_ble_eq_true rfl)) dX11_person_5 ⟨Nat.le_refl _, Nat.le_refl _⟩) hS (fun H locs hP hS => ?_)
    refine lv_if_eq (tgt := 20) hx hb dX11_person_8 (by decide) (fun c_3 => ?_) (fun c_3 => ?_)
    · replace hf := ite_t c_3 hf
      refine lv_iconst (v := (-1)) hx hb dX11_person_20 (by decide) ?_
      exact mq_iret hx hb hr rfl hlocks hP hS (pr_1 hf) (pr_2 hf) dX11_person_21
    · replace hf := ite_f c_3 hf
      refine lv_iload_n hx hb dX11_person_11 rfl (lv_at hl 2 rfl) ?_
      refine lv_iconst (v := 0) hx hb dX11_person_12 (by decide) ?_
      refine lv_iconst (v := 2) hx hb dX11_person_13 (by decide) ?_
      obtain ⟨r_4, hr_5, hf⟩ := op_some hf
      refine mq_calli (va_runS (As := [.int x2, .int 0, .int 2]) (rest := []) ⟨hx, hb, hml, hown, hts⟩ (c_X11_isWithin l D ad cy x2 0 2 g r_4 hr_5) (va_cwS 3 hts gX11_person_X11_isWithin rfl rfl rfl (by decide +kernel) ⟨Nat.le_of_ble_eq_true rfl, Nat.le_of_ble_eq_true rfl⟩) (mq_preS mm_zOkC hK hP hI hZ hS) rfl rfl hl.1 rfl (lv_room (Nat.le_of_ble_eq_true rfl)) dX11_person_14 ⟨Nat.le_refl _, Nat.le_refl _⟩) hS (fun H locs hP hS => ?_)
      refine lv_if_ne (tgt := 22) hx hb dX11_person_17 (by decide) (fun c_6 => ?_) (fun c_6 => ?_)
      · replace hf := ite_f c_6 hf
        refine lv_aload_n hx hb dX11_person_22 rfl (lv_at hl 0 rfl) ?_
        refine mq_getr (Tt := TX11) (N := 9) (C := RX11) hx hb hts hiX11 hown hK hP hp rfl 0 1 (by decide) rfl hw0 (fun _ h9 => h9) dX11_person_23 ?_
        refine lv_iload_n hx hb dX11_person_26 rfl (lv_at hl 1 rfl) ?_
        refine lv_iload_n hx hb dX11_person_27 rfl (lv_at hl 2 rfl) ?_
        obtain ⟨r_8, g_7, hr_9, hf⟩ := ob_some hf
        refine mq_calli (va_runV (As := [.int x1, .int x2]) (rest := []) ⟨hx, hb, hml, hown, hts⟩ (c_X10_addPerson l D ad cy 1 x1 x2 g (shTC_X11_1 hp) r_8 g_7 hr_9) (cwV 2 hts gX11_person_X10_addPerson rfl rfl rfl (by decide +kernel) ⟨Nat.le_of_ble_eq_true rfl, Nat.le_of_ble_eq_true rfl⟩) (mq_preV (q := (RX10, TX10, 9)) mm_zOkC hK hP hI hZ hS (shTC_X11_1 hp) rfl) rfl rfl hl.1 rfl (lv_room (Nat.le_of_ble_eq_true rfl)) dX11_person_28 ⟨Nat.le_refl _, Nat.le_refl _⟩) hS (fun H locs hP hS => ?_)
        exact mq_iret hx hb hr rfl hlocks hP hS (pr_1 hf) (pr_2 hf) dX11_person_31
      · replace hf := ite_t c_6 hf
        refine lv_iconst (v := (-1)) hx hb dX11_person_20 (by decide) ?_
        exact mq_iret hx hb hr rfl hlocks hP hS (pr_1 hf) (pr_2 hf) dX11_person_21
  exact hH9 s.heap [] rfl rfl hP hS
abbrev rm_X11_isFoot : Room := ({ frames := 1, cells := 0, slots := 0, locals := 22 } : Room)
set_option maxHeartbeats 4000000 in
set_option maxRecDepth 100000 in
theorem c_X11_isFoot (l : Launch) (D : va_G) (ad : Nat → Nat) (cy : Nat → ClassId) (x0 : Int32) (g : Mm)  (r0 : Int32) (hf : f_X11_isFoot x0 = some r0) : Met l yX11_isFoot wsX11_isFoot rm_X11_isFoot (va_Pc [.int x0] (mm_pre mm_Z D TC ad cy g)) (mm_Qi D TC ad cy r0 g) 0 0 (mm_A TC ad) := by
  refine Met.ofW (cc := cX11_isFoot) (maxL := 1) (ret := (some .boolean)) (by decide) rfl ?_
  intro p e s m args below meth c s₁ B hml hv
  obtain ⟨hargs, hP, hK, hI, hZ⟩ := hv
  have hx := B.exec
  have hb := B.bytes
  have hr := B.returns
  have hts := atoms_spec (ws := wsX11_isFoot) B.pre
  have hown : s.vm.findClass RX11 = some m.cls := findClass_of_methodNamed B.named
  have hlocks := B.notSynchronized
  rw [show entryFrame m args 1 = F0 m 0 ((lg_sl ([.int x0] : List Value) ++ List.replicate (1 - (lg_sl ([.int x0] : List Value)).length) Slot.unset).toArray) [] from by rw [hargs]; exact lg_entry_eq m _ _]
  have hl := lv_entry ([.int x0] : List Value) (n := 1) (by exact Nat.le_of_ble_eq_true rfl)
  generalize (lg_sl ([.int x0] : List Value) ++ List.replicate (1 - (lg_sl ([.int x0] : List Value)).length) Slot.unset).toArray = ls at hl ⊢
  have hl : lv_has ls 1 [(0, .int x0)] := by exact hl
  have hS : va_S (mm_A TC ad) s.heap s.heap [] := va_S.rf
  clear hargs
  unfold f_X11_isFoot at hf
  have hH9 : ∀ (H : Heap) (locs : List Loc), H = s.heap → locs = [] → va_P D vwCl (mm_L TC ad cy g) H → va_S (mm_A TC ad) s.heap H locs → W p l e (headSpec wsX11_isFoot (rm_X11_isFoot)).room s m args below meth c H locs 0 0 (MQ below (mm_Qi D TC ad cy r0 g) args s 0 0 (mm_A TC ad)) (F0 m 0 ls []) := by
    intro H locs hH9 hL9 hP hS
    clear hH9 hL9
    refine lv_iload_n hx hb dX11_isFoot_0 rfl (lv_at hl 0 rfl) ?_
    refine lv_iconst (v := 0) hx hb dX11_isFoot_1 (by decide) ?_
    refine lv_iconst (v := 1) hx hb dX11_isFoot_2 (by decide) ?_
    obtain ⟨r_1, hr_2, hf⟩ := op_some hf
    refine mq_calli (va_runS (As := [.int x0, .int 0, .int 1]) (rest := []) ⟨hx, hb, hml, hown, hts⟩ (c_X11_isWithin l D ad cy x0 0 1 g r_1 hr_2) (va_cwS 3 hts gX11_isFoot_X11_isWithin rfl rfl rfl (by decide +kernel) ⟨Nat.le_of_ble_eq_true rfl, Nat.le_of_ble_eq_true rfl⟩) (mq_preS mm_zOkC hK hP hI hZ hS) rfl rfl hl.1 rfl (lv_room (Nat.le_of_ble_eq_true rfl)) dX11_isFoot_3 ⟨Nat.le_refl _, Nat.le_refl _⟩) hS (fun H locs hP hS => ?_)
    obtain ⟨h_3, hf⟩ := og_some hf
    exact mq_iret hx hb hr (mm_01_nar h_3) hlocks hP hS (Option.some.inj hf) rfl dX11_isFoot_6
  exact hH9 s.heap [] rfl rfl hP hS
abbrev rm_X11_isSort : Room := ({ frames := 1, cells := 0, slots := 0, locals := 22 } : Room)
set_option maxHeartbeats 4000000 in
set_option maxRecDepth 100000 in
theorem c_X11_isSort (l : Launch) (D : va_G) (ad : Nat → Nat) (cy : Nat → ClassId) (x0 : Int32) (g : Mm)  (r0 : Int32) (hf : f_X11_isSort x0 = some r0) : Met l yX11_isSort wsX11_isSort rm_X11_isSort (va_Pc [.int x0] (mm_pre mm_Z D TC ad cy g)) (mm_Qi D TC ad cy r0 g) 0 0 (mm_A TC ad) := by
  refine Met.ofW (cc := cX11_isSort) (maxL := 1) (ret := (some .boolean)) (by decide) rfl ?_
  intro p e s m args below meth c s₁ B hml hv
  obtain ⟨hargs, hP, hK, hI, hZ⟩ := hv
  have hx := B.exec
  have hb := B.bytes
  have hr := B.returns
  have hts := atoms_spec (ws := wsX11_isSort) B.pre
  have hown : s.vm.findClass RX11 = some m.cls := findClass_of_methodNamed B.named
  have hlocks := B.notSynchronized
  rw [show entryFrame m args 1 = F0 m 0 ((lg_sl ([.int x0] : List Value) ++ List.replicate (1 - (lg_sl ([.int x0] : List Value)).length) Slot.unset).toArray) [] from by rw [hargs]; exact lg_entry_eq m _ _]
  have hl := lv_entry ([.int x0] : List Value) (n := 1) (by exact Nat.le_of_ble_eq_true rfl)
  generalize (lg_sl ([.int x0] : List Value) ++ List.replicate (1 - (lg_sl ([.int x0] : List Value)).length) Slot.unset).toArray = ls at hl ⊢
  have hl : lv_has ls 1 [(0, .int x0)] := by exact hl
  have hS : va_S (mm_A TC ad) s.heap s.heap [] := va_S.rf
  clear hargs
  unfold f_X11_isSort at hf
  have hH9 : ∀ (H : Heap) (locs : List Loc), H = s.heap → locs = [] → va_P D vwCl (mm_L TC ad cy g) H → va_S (mm_A TC ad) s.heap H locs → W p l e (headSpec wsX11_isSort (rm_X11_isSort)).room s m args below meth c H locs 0 0 (MQ below (mm_Qi D TC ad cy r0 g) args s 0 0 (mm_A TC ad)) (F0 m 0 ls []) := by
    intro H locs hH9 hL9 hP hS
    clear hH9 hL9
    refine lv_iload_n hx hb dX11_isSort_0 rfl (lv_at hl 0 rfl) ?_
    refine lv_iconst (v := 0) hx hb dX11_isSort_1 (by decide) ?_
    refine lv_iconst (v := 3) hx hb dX11_isSort_2 (by decide) ?_
    obtain ⟨r_1, hr_2, hf⟩ := op_some hf
    refine mq_calli (va_runS (As := [.int x0, .int 0, .int 3]) (rest := []) ⟨hx, hb, hml, hown, hts⟩ (c_X11_isWithin l D ad cy x0 0 3 g r_1 hr_2) (va_cwS 3 hts gX11_isSort_X11_isWithin rfl rfl rfl (by decide +kernel) ⟨Nat.le_of_ble_eq_true rfl, Nat.le_of_ble_eq_true rfl⟩) (mq_preS mm_zOkC hK hP hI hZ hS) rfl rfl hl.1 rfl (lv_room (Nat.le_of_ble_eq_true rfl)) dX11_isSort_3 ⟨Nat.le_refl _, Nat.le_refl _⟩) hS (fun H locs hP hS => ?_)
    obtain ⟨h_3, hf⟩ := og_some hf
    exact mq_iret hx hb hr (mm_01_nar h_3) hlocks hP hS (Option.some.inj hf) rfl dX11_isSort_6
  exact hH9 s.heap [] rfl rfl hP hS
abbrev rm_X11_shoe : Room := ({ frames := 2, cells := 0, slots := 0, locals := 43 } : Room)
set_option maxHeartbeats 4000000 in
set_option maxRecDepth 100000 in
theorem c_X11_shoe (l : Launch) (D : va_G) (ad : Nat → Nat) (cy : Nat → ClassId) (x1 : Int32) (x2 : Int32) (x3 : Int32) (x4 : Int32) (g : Mm) (hp : TC[0]? = some sX11) (r0 : Int32) (g' : Mm) (hf : f_X11_shoe x1 x2 x3 x4 g = some (r0, g')) : Met l yX11_shoe wsX11_shoe rm_X11_shoe (va_Pc [.ref (ad 0), .int x1, .int x2, .int x3, .int x4] (mm_pre mm_Z D TC ad cy g)) (mm_Qi D TC ad cy r0 g') 0 0 (mm_A TC ad) := by
  refine Met.ofW (cc := cX11_shoe) (maxL := 5) (ret := (some .int)) (by decide) rfl ?_
  intro p e s m args below meth c s₁ B hml hv
  obtain ⟨hargs, hP, hK, hI, hZ⟩ := hv
  have hx := B.exec
  have hb := B.bytes
  have hr := B.returns
  have hts := atoms_spec (ws := wsX11_shoe) B.pre
  have hown : s.vm.findClass RX11 = some m.cls := findClass_of_methodNamed B.named
  have hlocks := B.notSynchronized
  have hw0 := hts (.fieldLink RX11 10 "LeftShoes" "now" "LLeftShoes$World;") (by decide +kernel)
  have hiX11 : ∀ w ∈ wsX110, w ∈ wsX11_shoe := by decide +kernel
  rw [show entryFrame m args 5 = F0 m 0 ((lg_sl ([.ref (ad 0), .int x1, .int x2, .int x3, .int x4] : List Value) ++ List.replicate (5 - (lg_sl ([.ref (ad 0), .int x1, .int x2, .int x3, .int x4] : List Value)).length) Slot.unset).toArray) [] from by rw [hargs]; exact lg_entry_eq m _ _]
  have hl := lv_entry ([.ref (ad 0), .int x1, .int x2, .int x3, .int x4] : List Value) (n := 5) (by exact Nat.le_of_ble_eq_true rfl)
  generalize (lg_sl ([.ref (ad 0), .int x1, .int x2, .int x3, .int x4] : List Value) ++ List.replicate (5 - (lg_sl ([.ref (ad 0), .int x1, .int x2, .int x3, .int x4] : List Value)).length) Slot.unset).toArray = ls at hl ⊢
  have hl : lv_has ls 5 [(0, .ref (ad 0)), (1, .int x1), (2, .int x2), (3, .int x3), (4, .int x4)] := by exact hl
  have hS : va_S (mm_A TC ad) s.heap s.heap [] := va_S.rf
  clear hargs
  unfold f_X11_shoe at hf
  have hH9 : ∀ (H : Heap) (locs : List Loc), H = s.heap → locs = [] → va_P D vwCl (mm_L TC ad cy g) H → va_S (mm_A TC ad) s.heap H locs → W p l e (headSpec wsX11_shoe (rm_X11_shoe)).room s m args below meth c H locs 0 0 (MQ below (mm_Qi D TC ad cy r0 g') args s 0 0 (mm_A TC ad)) (F0 m 0 ls []) := by
    intro H locs hH9 hL9 hP hS
    clear hH9 hL9
    refine lv_aload_n hx hb dX11_shoe_0 rfl (lv_at hl 0 rfl) ?_
    refine mq_getr (Tt := TX11) (N := 9) (C := RX11) hx hb hts hiX11 hown hK hP hp rfl 0 1 (by decide) rfl hw0 (fun _ h9 => h9) dX11_shoe_1 ?_
    refine lv_iload_n hx hb dX11_shoe_4 rfl (lv_at hl 1 rfl) ?_
    obtain ⟨r_1, hr_2, hf⟩ := op_some hf
    refine mq_calli (va_runV (As := [.int x1]) (rest := []) ⟨hx, hb, hml, hown, hts⟩ (c_X10_isPerson l D ad cy 1 x1 g (shTC_X11_1 hp) r_1 hr_2) (cwV 1 hts gX11_shoe_X10_isPerson rfl rfl rfl (by decide +kernel) ⟨Nat.le_of_ble_eq_true rfl, Nat.le_of_ble_eq_true rfl⟩) (mq_preV (q := (RX10, TX10, 9)) mm_zOkC hK hP hI hZ hS (shTC_X11_1 hp) rfl) rfl rfl hl.1 rfl (lv_room (Nat.le_of_ble_eq_true rfl)) dX11_shoe_5 ⟨Nat.le_refl _, Nat.le_refl _⟩) hS (fun H locs hP hS => ?_)
    refine lv_if_eq (tgt := 36) hx hb dX11_shoe_8 (by decide) (fun c_3 => ?_) (fun c_3 => ?_)
    · replace hf := ite_t c_3 hf
      refine lv_iconst (v := (-1)) hx hb dX11_shoe_36 (by decide) ?_
      exact mq_iret hx hb hr rfl hlocks hP hS (pr_1 hf) (pr_2 hf) dX11_shoe_37
    · replace hf := ite_f c_3 hf
      refine lv_iload_n hx hb dX11_shoe_11 rfl (lv_at hl 2 rfl) ?_
      obtain ⟨r_4, hr_5, hf⟩ := op_some hf
      refine mq_calli (va_runS (As := [.int x2]) (rest := []) ⟨hx, hb, hml, hown, hts⟩ (c_X11_isFoot l D ad cy x2 g r_4 hr_5) (va_cwS 1 hts gX11_shoe_X11_isFoot rfl rfl rfl (by decide +kernel) ⟨Nat.le_of_ble_eq_true rfl, Nat.le_of_ble_eq_true rfl⟩) (mq_preS mm_zOkC hK hP hI hZ hS) rfl rfl hl.1 rfl (lv_room (Nat.le_of_ble_eq_true rfl)) dX11_shoe_12 ⟨Nat.le_refl _, Nat.le_refl _⟩) hS (fun H locs hP hS => ?_)
      refine lv_if_eq (tgt := 36) hx hb dX11_shoe_15 (by decide) (fun c_6 => ?_) (fun c_6 => ?_)
      · replace hf := ite_t c_6 hf
        refine lv_iconst (v := (-1)) hx hb dX11_shoe_36 (by decide) ?_
        exact mq_iret hx hb hr rfl hlocks hP hS (pr_1 hf) (pr_2 hf) dX11_shoe_37
      · replace hf := ite_f c_6 hf
        refine lv_iload_n hx hb dX11_shoe_18 rfl (lv_at hl 3 rfl) ?_
        obtain ⟨r_7, hr_8, hf⟩ := op_some hf
        refine mq_calli (va_runS (As := [.int x3]) (rest := []) ⟨hx, hb, hml, hown, hts⟩ (c_X11_isSort l D ad cy x3 g r_7 hr_8) (va_cwS 1 hts gX11_shoe_X11_isSort rfl rfl rfl (by decide +kernel) ⟨Nat.le_of_ble_eq_true rfl, Nat.le_of_ble_eq_true rfl⟩) (mq_preS mm_zOkC hK hP hI hZ hS) rfl rfl hl.1 rfl (lv_room (Nat.le_of_ble_eq_true rfl)) dX11_shoe_19 ⟨Nat.le_refl _, Nat.le_refl _⟩) hS (fun H locs hP hS => ?_)
        refine lv_if_eq (tgt := 36) hx hb dX11_shoe_22 (by decide) (fun c_9 => ?_) (fun c_9 => ?_)
        · replace hf := ite_t c_9 hf
          refine lv_iconst (v := (-1)) hx hb dX11_shoe_36 (by decide) ?_
          exact mq_iret hx hb hr rfl hlocks hP hS (pr_1 hf) (pr_2 hf) dX11_shoe_37
        · replace hf := ite_f c_9 hf
          refine lv_iload hx hb dX11_shoe_25 (lv_at hl 4 rfl) ?_
          refine lv_iconst (v := 0) hx hb dX11_shoe_27 (by decide) ?_
          refine lv_bipush (v := 99) hx hb dX11_shoe_28 (by decide) ?_
          obtain ⟨r_10, hr_11, hf⟩ := op_some hf
          refine mq_calli (va_runS (As := [.int x4, .int 0, .int 99]) (rest := []) ⟨hx, hb, hml, hown, hts⟩ (c_X11_isWithin l D ad cy x4 0 99 g r_10 hr_11) (va_cwS 3 hts gX11_shoe_X11_isWithin rfl rfl rfl (by decide +kernel) ⟨Nat.le_of_ble_eq_true rfl, Nat.le_of_ble_eq_true rfl⟩) (mq_preS mm_zOkC hK hP hI hZ hS) rfl rfl hl.1 rfl (lv_room (Nat.le_of_ble_eq_true rfl)) dX11_shoe_30 ⟨Nat.le_refl _, Nat.le_refl _⟩) hS (fun H locs hP hS => ?_)
          refine lv_if_ne (tgt := 38) hx hb dX11_shoe_33 (by decide) (fun c_12 => ?_) (fun c_12 => ?_)
          · replace hf := ite_f c_12 hf
            refine lv_aload_n hx hb dX11_shoe_38 rfl (lv_at hl 0 rfl) ?_
            refine mq_getr (Tt := TX11) (N := 9) (C := RX11) hx hb hts hiX11 hown hK hP hp rfl 0 1 (by decide) rfl hw0 (fun _ h9 => h9) dX11_shoe_39 ?_
            refine lv_iload_n hx hb dX11_shoe_42 rfl (lv_at hl 1 rfl) ?_
            refine lv_iload_n hx hb dX11_shoe_43 rfl (lv_at hl 2 rfl) ?_
            refine lv_iload_n hx hb dX11_shoe_44 rfl (lv_at hl 3 rfl) ?_
            refine lv_iload hx hb dX11_shoe_45 (lv_at hl 4 rfl) ?_
            obtain ⟨r_14, g_13, hr_15, hf⟩ := ob_some hf
            refine mq_calli (va_runV (As := [.int x1, .int x2, .int x3, .int x4]) (rest := []) ⟨hx, hb, hml, hown, hts⟩ (c_X10_addShoe l D ad cy 1 x1 x2 x3 x4 g (shTC_X11_1 hp) r_14 g_13 hr_15) (cwV 4 hts gX11_shoe_X10_addShoe rfl rfl rfl (by decide +kernel) ⟨Nat.le_of_ble_eq_true rfl, Nat.le_of_ble_eq_true rfl⟩) (mq_preV (q := (RX10, TX10, 9)) mm_zOkC hK hP hI hZ hS (shTC_X11_1 hp) rfl) rfl rfl hl.1 rfl (lv_room (Nat.le_of_ble_eq_true rfl)) dX11_shoe_47 ⟨Nat.le_refl _, Nat.le_refl _⟩) hS (fun H locs hP hS => ?_)
            exact mq_iret hx hb hr rfl hlocks hP hS (pr_1 hf) (pr_2 hf) dX11_shoe_50
          · replace hf := ite_t c_12 hf
            refine lv_iconst (v := (-1)) hx hb dX11_shoe_36 (by decide) ?_
            exact mq_iret hx hb hr rfl hlocks hP hS (pr_1 hf) (pr_2 hf) dX11_shoe_37
  exact hH9 s.heap [] rfl rfl hP hS
abbrev rm_X11_told : Room := ({ frames := 2, cells := 0, slots := 0, locals := 43 } : Room)
set_option maxHeartbeats 4000000 in
set_option maxRecDepth 100000 in
theorem c_X11_told (l : Launch) (D : va_G) (ad : Nat → Nat) (cy : Nat → ClassId) (x1 : Int32) (x2 : Int32) (g : Mm) (hp : TC[0]? = some sX11) (r0 : Int32) (hf : f_X11_told x1 x2 g = some r0) : Met l yX11_told wsX11_told rm_X11_told (va_Pc [.ref (ad 0), .int x1, .int x2] (mm_pre mm_Z D TC ad cy g)) (mm_Qi D TC ad cy r0 g) 0 0 (mm_A TC ad) := by
  refine Met.ofW (cc := cX11_told) (maxL := 4) (ret := (some .int)) (by decide) rfl ?_
  intro p e s m args below meth c s₁ B hml hv
  obtain ⟨hargs, hP, hK, hI, hZ⟩ := hv
  have hx := B.exec
  have hb := B.bytes
  have hr := B.returns
  have hts := atoms_spec (ws := wsX11_told) B.pre
  have hown : s.vm.findClass RX11 = some m.cls := findClass_of_methodNamed B.named
  have hlocks := B.notSynchronized
  have hw0 := hts (.fieldLink RX11 10 "LeftShoes" "now" "LLeftShoes$World;") (by decide +kernel)
  have hiX11 : ∀ w ∈ wsX110, w ∈ wsX11_told := by decide +kernel
  have hw2 := hts (.fieldLink RX11 86 "LeftShoes$World" "shoes" "[LLeftShoes$Shoe;") (by decide +kernel)
  have hiX10 : ∀ w ∈ wsX100, w ∈ wsX11_told := by decide +kernel
  have hw4 := hts (.fieldLink RX11 106 "LeftShoes$Shoe" "owner" "I") (by decide +kernel)
  have hiX5 : ∀ w ∈ wsX50, w ∈ wsX11_told := by decide +kernel
  have hw6 := hts (.fieldLink RX11 102 "LeftShoes$Shoe" "isStamped" "Z") (by decide +kernel)
  have hw7 := hts (.fieldLink RX11 99 "LeftShoes$Shoe" "soles" "I") (by decide +kernel)
  have hw8 := hts (.fieldLink RX11 96 "LeftShoes$Shoe" "sort" "I") (by decide +kernel)
  have hw9 := hts (.fieldLink RX11 90 "LeftShoes$Shoe" "foot" "I") (by decide +kernel)
  rw [show entryFrame m args 4 = F0 m 0 ((lg_sl ([.ref (ad 0), .int x1, .int x2] : List Value) ++ List.replicate (4 - (lg_sl ([.ref (ad 0), .int x1, .int x2] : List Value)).length) Slot.unset).toArray) [] from by rw [hargs]; exact lg_entry_eq m _ _]
  have hl := lv_entry ([.ref (ad 0), .int x1, .int x2] : List Value) (n := 4) (by exact Nat.le_of_ble_eq_true rfl)
  generalize (lg_sl ([.ref (ad 0), .int x1, .int x2] : List Value) ++ List.replicate (4 - (lg_sl ([.ref (ad 0), .int x1, .int x2] : List Value)).length) Slot.unset).toArray = ls at hl ⊢
  have hl : lv_has ls 4 [(0, .ref (ad 0)), (1, .int x1), (2, .int x2)] := by exact hl
  have hS : va_S (mm_A TC ad) s.heap s.heap [] := va_S.rf
  clear hargs
  unfold f_X11_told at hf
  have hH9 : ∀ (H : Heap) (locs : List Loc), H = s.heap → locs = [] → va_P D vwCl (mm_L TC ad cy g) H → va_S (mm_A TC ad) s.heap H locs → W p l e (headSpec wsX11_told (rm_X11_told)).room s m args below meth c H locs 0 0 (MQ below (mm_Qi D TC ad cy r0 g) args s 0 0 (mm_A TC ad)) (F0 m 0 ls []) := by
    intro H locs hH9 hL9 hP hS
    clear hH9 hL9
    refine lv_aload_n hx hb dX11_told_0 rfl (lv_at hl 0 rfl) ?_
    refine mq_getr (Tt := TX11) (N := 9) (C := RX11) hx hb hts hiX11 hown hK hP hp rfl 0 1 (by decide) rfl hw0 (fun _ h9 => h9) dX11_told_1 ?_
    refine lv_iload_n hx hb dX11_told_4 rfl (lv_at hl 1 rfl) ?_
    obtain ⟨r_1, hr_2, hf⟩ := op_some hf
    refine mq_calli (va_runV (As := [.int x1]) (rest := []) ⟨hx, hb, hml, hown, hts⟩ (c_X10_isShoe l D ad cy 1 x1 g (shTC_X11_1 hp) r_1 hr_2) (cwV 1 hts gX11_told_X10_isShoe rfl rfl rfl (by decide +kernel) ⟨Nat.le_of_ble_eq_true rfl, Nat.le_of_ble_eq_true rfl⟩) (mq_preV (q := (RX10, TX10, 9)) mm_zOkC hK hP hI hZ hS (shTC_X11_1 hp) rfl) rfl rfl hl.1 rfl (lv_room (Nat.le_of_ble_eq_true rfl)) dX11_told_5 ⟨Nat.le_refl _, Nat.le_refl _⟩) hS (fun H locs hP hS => ?_)
    refine lv_if_ne (tgt := 13) hx hb dX11_told_8 (by decide) (fun c_3 => ?_) (fun c_3 => ?_)
    · replace hf := ite_f c_3 hf
      refine lv_aload_n hx hb dX11_told_13 rfl (lv_at hl 0 rfl) ?_
      refine mq_getr (Tt := TX11) (N := 9) (C := RX11) hx hb hts hiX11 hown hK hP hp rfl 0 1 (by decide) rfl hw0 (fun _ h9 => h9) dX11_told_14 ?_
      refine mq_getr (Tt := TX10) (N := 9) (C := RX10) hx hb hts hiX10 hown hK hP (shTC_X11_1 hp) rfl 4 3 (by decide) rfl hw2 (fun _ h9 => h9) dX11_told_17 ?_
      refine lv_iload_n hx hb dX11_told_20 rfl (lv_at hl 1 rfl) ?_
      obtain ⟨h_4, hf⟩ := og_some hf
      refine mq_aald hx hb hK hP (N := 16) (shTC_X11_4 hp) rfl h_4 dX11_told_21 ?_
      refine lv_astore_n (lv' := [(3, .ref (ad (5 + x1.toNatClampNeg))), (0, .ref (ad 0)), (1, .int x1), (2, .int x2)]) hx hb dX11_told_22 rfl hl (by decide) rfl (fun ls hl => ?_)
      refine lv_iload_n hx hb dX11_told_23 rfl (lv_at hl 3 rfl) ?_
      by_cases c_5_0 : x2 = 0
      · replace hf := ite_t c_5_0 hf
        refine lv_tableIn (off := 36) (tgt := 60) hx hb dX11_told_24 (by rw [c_5_0]; decide) (by rw [c_5_0]; decide) (by rw [c_5_0]; decide) (by decide) ?_
        refine lv_aload_n hx hb dX11_told_60 rfl (lv_at hl 0 rfl) ?_
        refine mq_geti (Tt := TX5) (N := 5) (C := RX5) hx hb hts hiX5 hown hK hP (shTC_X11_5i_0 hp (mm_in_lt h_4)) rfl 0 (by decide) rfl hw9 (fun _ h9 => h9) dX11_told_61 ?_
        exact mq_iret hx hb hr rfl hlocks hP hS (Option.some.inj hf) rfl dX11_told_64
      · replace hf := ite_f c_5_0 hf
        by_cases c_5_1 : x2 = 1
        · replace hf := ite_t c_5_1 hf
          refine lv_tableIn (off := 41) (tgt := 65) hx hb dX11_told_24 (by rw [c_5_1]; decide) (by rw [c_5_1]; decide) (by rw [c_5_1]; decide) (by decide) ?_
          refine lv_aload_n hx hb dX11_told_65 rfl (lv_at hl 0 rfl) ?_
          refine mq_geti (Tt := TX5) (N := 5) (C := RX5) hx hb hts hiX5 hown hK hP (shTC_X11_5i_0 hp (mm_in_lt h_4)) rfl 1 (by decide) rfl hw8 (fun _ h9 => h9) dX11_told_66 ?_
          exact mq_iret hx hb hr rfl hlocks hP hS (Option.some.inj hf) rfl dX11_told_69
        · replace hf := ite_f c_5_1 hf
          by_cases c_5_2 : x2 = 2
          · replace hf := ite_t c_5_2 hf
            refine lv_tableIn (off := 46) (tgt := 70) hx hb dX11_told_24 (by rw [c_5_2]; decide) (by rw [c_5_2]; decide) (by rw [c_5_2]; decide) (by decide) ?_
            refine lv_aload_n hx hb dX11_told_70 rfl (lv_at hl 0 rfl) ?_
            refine mq_geti (Tt := TX5) (N := 5) (C := RX5) hx hb hts hiX5 hown hK hP (shTC_X11_5i_0 hp (mm_in_lt h_4)) rfl 2 (by decide) rfl hw7 (fun _ h9 => h9) dX11_told_71 ?_
            exact mq_iret hx hb hr rfl hlocks hP hS (Option.some.inj hf) rfl dX11_told_74
          · replace hf := ite_f c_5_2 hf
            by_cases c_5_3 : x2 = 3
            · replace hf := ite_t c_5_3 hf
              refine lv_tableIn (off := 51) (tgt := 75) hx hb dX11_told_24 (by rw [c_5_3]; decide) (by rw [c_5_3]; decide) (by rw [c_5_3]; decide) (by decide) ?_
              refine lv_aload_n hx hb dX11_told_75 rfl (lv_at hl 0 rfl) ?_
              refine mq_geti (Tt := TX5) (N := 5) (C := RX5) hx hb hts hiX5 hown hK hP (shTC_X11_5i_0 hp (mm_in_lt h_4)) rfl 4 (by decide) rfl hw6 (fun _ h9 => h9) dX11_told_76 ?_
              refine lv_if_eq (tgt := 86) hx hb dX11_told_79 (by decide) (fun c_6 => ?_) (fun c_6 => ?_)
              · replace hf := ite_t c_6 hf
                refine lv_iconst (v := 0) hx hb dX11_told_86 (by decide) ?_
                exact mq_iret hx hb hr rfl hlocks hP hS (Option.some.inj hf) rfl dX11_told_87
              · replace hf := ite_f c_6 hf
                refine lv_iconst (v := 1) hx hb dX11_told_82 (by decide) ?_
                refine lv_goto (tgt := 87) hx hb dX11_told_83 (by decide) ?_
                exact mq_iret hx hb hr rfl hlocks hP hS (Option.some.inj hf) rfl dX11_told_87
            · replace hf := ite_f c_5_3 hf
              by_cases c_5_4 : x2 = 4
              · replace hf := ite_t c_5_4 hf
                refine lv_tableIn (off := 64) (tgt := 88) hx hb dX11_told_24 (by rw [c_5_4]; decide) (by rw [c_5_4]; decide) (by rw [c_5_4]; decide) (by decide) ?_
                refine lv_aload_n hx hb dX11_told_88 rfl (lv_at hl 0 rfl) ?_
                refine mq_geti (Tt := TX5) (N := 5) (C := RX5) hx hb hts hiX5 hown hK hP (shTC_X11_5i_0 hp (mm_in_lt h_4)) rfl 3 (by decide) rfl hw4 (fun _ h9 => h9) dX11_told_89 ?_
                exact mq_iret hx hb hr rfl hlocks hP hS (Option.some.inj hf) rfl dX11_told_92
              · replace hf := ite_f c_5_4 hf
                refine lv_tableOut (tgt := 93) hx hb dX11_told_24 (by
                  have e0 : x2.toInt ≠ 0 := sw_ne (k := 0) c_5_0
                  have e1 : x2.toInt ≠ 1 := sw_ne (k := 1) c_5_1
                  have e2 : x2.toInt ≠ 2 := sw_ne (k := 2) c_5_2
                  have e3 : x2.toInt ≠ 3 := sw_ne (k := 3) c_5_3
                  have e4 : x2.toInt ≠ 4 := sw_ne (k := 4) c_5_4
                  omega) (by decide) ?_
                refine lv_iconst (v := (-1)) hx hb dX11_told_93 (by decide) ?_
                exact mq_iret hx hb hr rfl hlocks hP hS (Option.some.inj hf) rfl dX11_told_94
    · replace hf := ite_t c_3 hf
      refine lv_iconst (v := (-1)) hx hb dX11_told_11 (by decide) ?_
      exact mq_iret hx hb hr rfl hlocks hP hS (Option.some.inj hf) rfl dX11_told_12
  exact hH9 s.heap [] rfl rfl hP hS
abbrev rm_X11_stamp : Room := ({ frames := 2, cells := 0, slots := 0, locals := 43 } : Room)
set_option maxHeartbeats 4000000 in
set_option maxRecDepth 100000 in
theorem c_X11_stamp (l : Launch) (D : va_G) (ad : Nat → Nat) (cy : Nat → ClassId) (x1 : Int32) (x2 : Int32) (g : Mm) (hp : TC[0]? = some sX11) (r0 : Int32) (g' : Mm) (hf : f_X11_stamp x1 x2 g = some (r0, g')) : Met l yX11_stamp wsX11_stamp rm_X11_stamp (va_Pc [.ref (ad 0), .int x1, .int x2] (mm_pre mm_Z D TC ad cy g)) (mm_Qi D TC ad cy r0 g') 0 0 (mm_A TC ad) := by
  refine Met.ofW (cc := cX11_stamp) (maxL := 5) (ret := (some .int)) (by decide) rfl ?_
  intro p e s m args below meth c s₁ B hml hv
  obtain ⟨hargs, hP, hK, hI, hZ⟩ := hv
  have hx := B.exec
  have hb := B.bytes
  have hr := B.returns
  have hts := atoms_spec (ws := wsX11_stamp) B.pre
  have hown : s.vm.findClass RX11 = some m.cls := findClass_of_methodNamed B.named
  have hlocks := B.notSynchronized
  have hw0 := hts (.fieldLink RX11 10 "LeftShoes" "now" "LLeftShoes$World;") (by decide +kernel)
  have hiX11 : ∀ w ∈ wsX110, w ∈ wsX11_stamp := by decide +kernel
  have hw2 := hts (.fieldLink RX11 86 "LeftShoes$World" "shoes" "[LLeftShoes$Shoe;") (by decide +kernel)
  have hiX10 : ∀ w ∈ wsX100, w ∈ wsX11_stamp := by decide +kernel
  have hw4 := hts (.fieldLink RX11 102 "LeftShoes$Shoe" "isStamped" "Z") (by decide +kernel)
  have hiX5 : ∀ w ∈ wsX50, w ∈ wsX11_stamp := by decide +kernel
  rw [show entryFrame m args 5 = F0 m 0 ((lg_sl ([.ref (ad 0), .int x1, .int x2] : List Value) ++ List.replicate (5 - (lg_sl ([.ref (ad 0), .int x1, .int x2] : List Value)).length) Slot.unset).toArray) [] from by rw [hargs]; exact lg_entry_eq m _ _]
  have hl := lv_entry ([.ref (ad 0), .int x1, .int x2] : List Value) (n := 5) (by exact Nat.le_of_ble_eq_true rfl)
  generalize (lg_sl ([.ref (ad 0), .int x1, .int x2] : List Value) ++ List.replicate (5 - (lg_sl ([.ref (ad 0), .int x1, .int x2] : List Value)).length) Slot.unset).toArray = ls at hl ⊢
  have hl : lv_has ls 5 [(0, .ref (ad 0)), (1, .int x1), (2, .int x2)] := by exact hl
  have hS : va_S (mm_A TC ad) s.heap s.heap [] := va_S.rf
  clear hargs
  have hc35 : ∀ (q3 : Nat) (sx0 : Int32) (g : Mm) (H : Heap) (locs : List Loc) (ls : Array Slot), TC[q3]? = some sX5 → va_P D vwCl (mm_L TC ad cy g) H → va_S (mm_A TC ad) s.heap H locs → lv_has ls 5 [(0, .ref (ad 0)), (1, .int x1), (2, .int x2), (3, .ref (ad q3))] → f_X11_stamp_c35 x2 q3 sx0 g = some (r0, g') → W p l e (headSpec wsX11_stamp (rm_X11_stamp)).room s m args below meth c H locs 0 0 (MQ below (mm_Qi D TC ad cy r0 g') args s 0 0 (mm_A TC ad)) (F0 m 35 ls [.int sx0]) := by
    intro q3 sx0 g H locs ls hq3 hP hS hl hf
    unfold f_X11_stamp_c35 at hf
    refine lv_istore (lv' := [(4, .int sx0), (0, .ref (ad 0)), (1, .int x1), (2, .int x2), (3, .ref (ad q3))]) hx hb dX11_stamp_35 hl (by decide) rfl (fun ls hl => ?_)
    refine lv_aload_n hx hb dX11_stamp_37 rfl (lv_at hl 4 rfl) ?_
    refine lv_iload_n hx hb dX11_stamp_38 rfl (lv_at hl 3 rfl) ?_
    obtain ⟨h_6, hf⟩ := og_some hf
    obtain ⟨g_7, eg_7, hf⟩ := mw_some hf
    refine mq_puti (Tt := TX5) (N := 5) (C := RX5) (ty := .boolean) hx hb hts hiX5 tyX5 tyX5_ok nmX5 hown hK hI hP hS hq3 rfl 4 (by decide) rfl hw4 (fun _ h9 => h9) rfl (by decide +kernel) (mm_01_nar h_6) (mm_01_fit h_6) dX11_stamp_39 eg_7 (fun H locs hP hS => ?_)
    refine lv_iload hx hb dX11_stamp_42 (lv_at hl 0 rfl) ?_
    exact mq_iret hx hb hr rfl hlocks hP hS (pr_1 hf) (pr_2 hf) dX11_stamp_44
  unfold f_X11_stamp at hf
  have hH9 : ∀ (H : Heap) (locs : List Loc), H = s.heap → locs = [] → va_P D vwCl (mm_L TC ad cy g) H → va_S (mm_A TC ad) s.heap H locs → W p l e (headSpec wsX11_stamp (rm_X11_stamp)).room s m args below meth c H locs 0 0 (MQ below (mm_Qi D TC ad cy r0 g') args s 0 0 (mm_A TC ad)) (F0 m 0 ls []) := by
    intro H locs hH9 hL9 hP hS
    clear hH9 hL9
    refine lv_aload_n hx hb dX11_stamp_0 rfl (lv_at hl 0 rfl) ?_
    refine mq_getr (Tt := TX11) (N := 9) (C := RX11) hx hb hts hiX11 hown hK hP hp rfl 0 1 (by decide) rfl hw0 (fun _ h9 => h9) dX11_stamp_1 ?_
    refine lv_iload_n hx hb dX11_stamp_4 rfl (lv_at hl 1 rfl) ?_
    obtain ⟨r_1, hr_2, hf⟩ := op_some hf
    refine mq_calli (va_runV (As := [.int x1]) (rest := []) ⟨hx, hb, hml, hown, hts⟩ (c_X10_isShoe l D ad cy 1 x1 g (shTC_X11_1 hp) r_1 hr_2) (cwV 1 hts gX11_stamp_X10_isShoe rfl rfl rfl (by decide +kernel) ⟨Nat.le_of_ble_eq_true rfl, Nat.le_of_ble_eq_true rfl⟩) (mq_preV (q := (RX10, TX10, 9)) mm_zOkC hK hP hI hZ hS (shTC_X11_1 hp) rfl) rfl rfl hl.1 rfl (lv_room (Nat.le_of_ble_eq_true rfl)) dX11_stamp_5 ⟨Nat.le_refl _, Nat.le_refl _⟩) hS (fun H locs hP hS => ?_)
    refine lv_if_ne (tgt := 13) hx hb dX11_stamp_8 (by decide) (fun c_3 => ?_) (fun c_3 => ?_)
    · replace hf := ite_f c_3 hf
      refine lv_aload_n hx hb dX11_stamp_13 rfl (lv_at hl 0 rfl) ?_
      refine mq_getr (Tt := TX11) (N := 9) (C := RX11) hx hb hts hiX11 hown hK hP hp rfl 0 1 (by decide) rfl hw0 (fun _ h9 => h9) dX11_stamp_14 ?_
      refine mq_getr (Tt := TX10) (N := 9) (C := RX10) hx hb hts hiX10 hown hK hP (shTC_X11_1 hp) rfl 4 3 (by decide) rfl hw2 (fun _ h9 => h9) dX11_stamp_17 ?_
      refine lv_iload_n hx hb dX11_stamp_20 rfl (lv_at hl 1 rfl) ?_
      obtain ⟨h_4, hf⟩ := og_some hf
      refine mq_aald hx hb hK hP (N := 16) (shTC_X11_4 hp) rfl h_4 dX11_stamp_21 ?_
      refine lv_astore_n (lv' := [(3, .ref (ad (5 + x1.toNatClampNeg))), (0, .ref (ad 0)), (1, .int x1), (2, .int x2)]) hx hb dX11_stamp_22 rfl hl (by decide) rfl (fun ls hl => ?_)
      refine lv_aload_n hx hb dX11_stamp_23 rfl (lv_at hl 0 rfl) ?_
      refine mq_geti (Tt := TX5) (N := 5) (C := RX5) hx hb hts hiX5 hown hK hP (shTC_X11_5i_0 hp (mm_in_lt h_4)) rfl 4 (by decide) rfl hw4 (fun _ h9 => h9) dX11_stamp_24 ?_
      refine lv_if_eq (tgt := 34) hx hb dX11_stamp_27 (by decide) (fun c_5 => ?_) (fun c_5 => ?_)
      · replace hf := ite_t c_5 hf
        refine lv_iconst (v := 0) hx hb dX11_stamp_34 (by decide) ?_
        exact hc35 (5 + x1.toNatClampNeg) 0 g H locs ls (shTC_X11_5i_0 hp (mm_in_lt h_4)) hP hS (lv_sub hl [1, 2, 3, 0] rfl) hf
      · replace hf := ite_f c_5 hf
        refine lv_iconst (v := 1) hx hb dX11_stamp_30 (by decide) ?_
        refine lv_goto (tgt := 35) hx hb dX11_stamp_31 (by decide) ?_
        exact hc35 (5 + x1.toNatClampNeg) 1 g H locs ls (shTC_X11_5i_0 hp (mm_in_lt h_4)) hP hS (lv_sub hl [1, 2, 3, 0] rfl) hf
    · replace hf := ite_t c_3 hf
      refine lv_iconst (v := (-1)) hx hb dX11_stamp_11 (by decide) ?_
      exact mq_iret hx hb hr rfl hlocks hP hS (pr_1 hf) (pr_2 hf) dX11_stamp_12
  exact hH9 s.heap [] rfl rfl hP hS
abbrev rm_X11_give : Room := ({ frames := 2, cells := 0, slots := 0, locals := 43 } : Room)
set_option maxHeartbeats 4000000 in
set_option maxRecDepth 100000 in
theorem c_X11_give (l : Launch) (D : va_G) (ad : Nat → Nat) (cy : Nat → ClassId) (x1 : Int32) (x2 : Int32) (g : Mm) (hp : TC[0]? = some sX11) (r0 : Int32) (g' : Mm) (hf : f_X11_give x1 x2 g = some (r0, g')) : Met l yX11_give wsX11_give rm_X11_give (va_Pc [.ref (ad 0), .int x1, .int x2] (mm_pre mm_Z D TC ad cy g)) (mm_Qi D TC ad cy r0 g') 0 0 (mm_A TC ad) := by
  refine Met.ofW (cc := cX11_give) (maxL := 5) (ret := (some .int)) (by decide) rfl ?_
  intro p e s m args below meth c s₁ B hml hv
  obtain ⟨hargs, hP, hK, hI, hZ⟩ := hv
  have hx := B.exec
  have hb := B.bytes
  have hr := B.returns
  have hts := atoms_spec (ws := wsX11_give) B.pre
  have hown : s.vm.findClass RX11 = some m.cls := findClass_of_methodNamed B.named
  have hlocks := B.notSynchronized
  have hw0 := hts (.fieldLink RX11 10 "LeftShoes" "now" "LLeftShoes$World;") (by decide +kernel)
  have hiX11 : ∀ w ∈ wsX110, w ∈ wsX11_give := by decide +kernel
  have hw2 := hts (.fieldLink RX11 86 "LeftShoes$World" "shoes" "[LLeftShoes$Shoe;") (by decide +kernel)
  have hiX10 : ∀ w ∈ wsX100, w ∈ wsX11_give := by decide +kernel
  have hw4 := hts (.fieldLink RX11 106 "LeftShoes$Shoe" "owner" "I") (by decide +kernel)
  have hiX5 : ∀ w ∈ wsX50, w ∈ wsX11_give := by decide +kernel
  rw [show entryFrame m args 5 = F0 m 0 ((lg_sl ([.ref (ad 0), .int x1, .int x2] : List Value) ++ List.replicate (5 - (lg_sl ([.ref (ad 0), .int x1, .int x2] : List Value)).length) Slot.unset).toArray) [] from by rw [hargs]; exact lg_entry_eq m _ _]
  have hl := lv_entry ([.ref (ad 0), .int x1, .int x2] : List Value) (n := 5) (by exact Nat.le_of_ble_eq_true rfl)
  generalize (lg_sl ([.ref (ad 0), .int x1, .int x2] : List Value) ++ List.replicate (5 - (lg_sl ([.ref (ad 0), .int x1, .int x2] : List Value)).length) Slot.unset).toArray = ls at hl ⊢
  have hl : lv_has ls 5 [(0, .ref (ad 0)), (1, .int x1), (2, .int x2)] := by exact hl
  have hS : va_S (mm_A TC ad) s.heap s.heap [] := va_S.rf
  clear hargs
  unfold f_X11_give at hf
  have hH9 : ∀ (H : Heap) (locs : List Loc), H = s.heap → locs = [] → va_P D vwCl (mm_L TC ad cy g) H → va_S (mm_A TC ad) s.heap H locs → W p l e (headSpec wsX11_give (rm_X11_give)).room s m args below meth c H locs 0 0 (MQ below (mm_Qi D TC ad cy r0 g') args s 0 0 (mm_A TC ad)) (F0 m 0 ls []) := by
    intro H locs hH9 hL9 hP hS
    clear hH9 hL9
    refine lv_aload_n hx hb dX11_give_0 rfl (lv_at hl 0 rfl) ?_
    refine mq_getr (Tt := TX11) (N := 9) (C := RX11) hx hb hts hiX11 hown hK hP hp rfl 0 1 (by decide) rfl hw0 (fun _ h9 => h9) dX11_give_1 ?_
    refine lv_iload_n hx hb dX11_give_4 rfl (lv_at hl 1 rfl) ?_
    obtain ⟨r_1, hr_2, hf⟩ := op_some hf
    refine mq_calli (va_runV (As := [.int x1]) (rest := []) ⟨hx, hb, hml, hown, hts⟩ (c_X10_isShoe l D ad cy 1 x1 g (shTC_X11_1 hp) r_1 hr_2) (cwV 1 hts gX11_give_X10_isShoe rfl rfl rfl (by decide +kernel) ⟨Nat.le_of_ble_eq_true rfl, Nat.le_of_ble_eq_true rfl⟩) (mq_preV (q := (RX10, TX10, 9)) mm_zOkC hK hP hI hZ hS (shTC_X11_1 hp) rfl) rfl rfl hl.1 rfl (lv_room (Nat.le_of_ble_eq_true rfl)) dX11_give_5 ⟨Nat.le_refl _, Nat.le_refl _⟩) hS (fun H locs hP hS => ?_)
    refine lv_if_eq (tgt := 22) hx hb dX11_give_8 (by decide) (fun c_3 => ?_) (fun c_3 => ?_)
    · replace hf := ite_t c_3 hf
      refine lv_iconst (v := (-1)) hx hb dX11_give_22 (by decide) ?_
      exact mq_iret hx hb hr rfl hlocks hP hS (pr_1 hf) (pr_2 hf) dX11_give_23
    · replace hf := ite_f c_3 hf
      refine lv_aload_n hx hb dX11_give_11 rfl (lv_at hl 0 rfl) ?_
      refine mq_getr (Tt := TX11) (N := 9) (C := RX11) hx hb hts hiX11 hown hK hP hp rfl 0 1 (by decide) rfl hw0 (fun _ h9 => h9) dX11_give_12 ?_
      refine lv_iload_n hx hb dX11_give_15 rfl (lv_at hl 2 rfl) ?_
      obtain ⟨r_4, hr_5, hf⟩ := op_some hf
      refine mq_calli (va_runV (As := [.int x2]) (rest := []) ⟨hx, hb, hml, hown, hts⟩ (c_X10_isPerson l D ad cy 1 x2 g (shTC_X11_1 hp) r_4 hr_5) (cwV 1 hts gX11_give_X10_isPerson rfl rfl rfl (by decide +kernel) ⟨Nat.le_of_ble_eq_true rfl, Nat.le_of_ble_eq_true rfl⟩) (mq_preV (q := (RX10, TX10, 9)) mm_zOkC hK hP hI hZ hS (shTC_X11_1 hp) rfl) rfl rfl hl.1 rfl (lv_room (Nat.le_of_ble_eq_true rfl)) dX11_give_16 ⟨Nat.le_refl _, Nat.le_refl _⟩) hS (fun H locs hP hS => ?_)
      refine lv_if_ne (tgt := 24) hx hb dX11_give_19 (by decide) (fun c_6 => ?_) (fun c_6 => ?_)
      · replace hf := ite_f c_6 hf
        refine lv_aload_n hx hb dX11_give_24 rfl (lv_at hl 0 rfl) ?_
        refine mq_getr (Tt := TX11) (N := 9) (C := RX11) hx hb hts hiX11 hown hK hP hp rfl 0 1 (by decide) rfl hw0 (fun _ h9 => h9) dX11_give_25 ?_
        refine mq_getr (Tt := TX10) (N := 9) (C := RX10) hx hb hts hiX10 hown hK hP (shTC_X11_1 hp) rfl 4 3 (by decide) rfl hw2 (fun _ h9 => h9) dX11_give_28 ?_
        refine lv_iload_n hx hb dX11_give_31 rfl (lv_at hl 1 rfl) ?_
        obtain ⟨h_7, hf⟩ := og_some hf
        refine mq_aald hx hb hK hP (N := 16) (shTC_X11_4 hp) rfl h_7 dX11_give_32 ?_
        refine lv_astore_n (lv' := [(3, .ref (ad (5 + x1.toNatClampNeg))), (0, .ref (ad 0)), (1, .int x1), (2, .int x2)]) hx hb dX11_give_33 rfl hl (by decide) rfl (fun ls hl => ?_)
        refine lv_aload_n hx hb dX11_give_34 rfl (lv_at hl 0 rfl) ?_
        refine mq_geti (Tt := TX5) (N := 5) (C := RX5) hx hb hts hiX5 hown hK hP (shTC_X11_5i_0 hp (mm_in_lt h_7)) rfl 3 (by decide) rfl hw4 (fun _ h9 => h9) dX11_give_35 ?_
        obtain ⟨x4_8, ex4_8, hf⟩ := mv_some hf
        refine mq_nm ex4_8 ?_
        refine lv_istore (lv' := [(4, .int x4_8), (3, .ref (ad (5 + x1.toNatClampNeg))), (0, .ref (ad 0)), (1, .int x1), (2, .int x2)]) hx hb dX11_give_38 hl (by decide) rfl (fun ls hl => ?_)
        refine lv_aload_n hx hb dX11_give_40 rfl (lv_at hl 1 rfl) ?_
        refine lv_iload_n hx hb dX11_give_41 rfl (lv_at hl 4 rfl) ?_
        obtain ⟨g_9, eg_9, hf⟩ := mw_some hf
        refine mq_puti (Tt := TX5) (N := 5) (C := RX5) (ty := .int) hx hb hts hiX5 tyX5 tyX5_ok nmX5 hown hK hI hP hS (shTC_X11_5i_0 hp (mm_in_lt h_7)) rfl 3 (by decide) rfl hw4 (fun _ h9 => h9) rfl (by decide +kernel) rfl rfl dX11_give_42 eg_9 (fun H locs hP hS => ?_)
        refine lv_iload hx hb dX11_give_45 (lv_at hl 0 rfl) ?_
        exact mq_iret hx hb hr rfl hlocks hP hS (pr_1 hf) (pr_2 hf) dX11_give_47
      · replace hf := ite_t c_6 hf
        refine lv_iconst (v := (-1)) hx hb dX11_give_22 (by decide) ?_
        exact mq_iret hx hb hr rfl hlocks hP hS (pr_1 hf) (pr_2 hf) dX11_give_23
  exact hH9 s.heap [] rfl rfl hP hS
abbrev rm_X11_of : Room := ({ frames := 2, cells := 0, slots := 0, locals := 43 } : Room)
set_option maxHeartbeats 4000000 in
set_option maxRecDepth 100000 in
theorem c_X11_of (l : Launch) (D : va_G) (ad : Nat → Nat) (cy : Nat → ClassId) (x1 : Int32) (x2 : Int32) (g : Mm) (hp : TC[0]? = some sX11) (r0 : Int32) (hf : f_X11_of x1 x2 g = some r0) : Met l yX11_of wsX11_of rm_X11_of (va_Pc [.ref (ad 0), .int x1, .int x2] (mm_pre mm_Z D TC ad cy g)) (mm_Qi D TC ad cy r0 g) 0 0 (mm_A TC ad) := by
  refine Met.ofW (cc := cX11_of) (maxL := 3) (ret := (some .int)) (by decide) rfl ?_
  intro p e s m args below meth c s₁ B hml hv
  obtain ⟨hargs, hP, hK, hI, hZ⟩ := hv
  have hx := B.exec
  have hb := B.bytes
  have hr := B.returns
  have hts := atoms_spec (ws := wsX11_of) B.pre
  have hown : s.vm.findClass RX11 = some m.cls := findClass_of_methodNamed B.named
  have hlocks := B.notSynchronized
  have hw0 := hts (.fieldLink RX11 10 "LeftShoes" "now" "LLeftShoes$World;") (by decide +kernel)
  have hiX11 : ∀ w ∈ wsX110, w ∈ wsX11_of := by decide +kernel
  have hw2 := hts (.fieldLink RX11 113 "LeftShoes$World" "feet" "[I") (by decide +kernel)
  have hiX10 : ∀ w ∈ wsX100, w ∈ wsX11_of := by decide +kernel
  have hw4 := hts (.fieldLink RX11 109 "LeftShoes$World" "purses" "[I") (by decide +kernel)
  rw [show entryFrame m args 3 = F0 m 0 ((lg_sl ([.ref (ad 0), .int x1, .int x2] : List Value) ++ List.replicate (3 - (lg_sl ([.ref (ad 0), .int x1, .int x2] : List Value)).length) Slot.unset).toArray) [] from by rw [hargs]; exact lg_entry_eq m _ _]
  have hl := lv_entry ([.ref (ad 0), .int x1, .int x2] : List Value) (n := 3) (by exact Nat.le_of_ble_eq_true rfl)
  generalize (lg_sl ([.ref (ad 0), .int x1, .int x2] : List Value) ++ List.replicate (3 - (lg_sl ([.ref (ad 0), .int x1, .int x2] : List Value)).length) Slot.unset).toArray = ls at hl ⊢
  have hl : lv_has ls 3 [(0, .ref (ad 0)), (1, .int x1), (2, .int x2)] := by exact hl
  have hS : va_S (mm_A TC ad) s.heap s.heap [] := va_S.rf
  clear hargs
  unfold f_X11_of at hf
  have hH9 : ∀ (H : Heap) (locs : List Loc), H = s.heap → locs = [] → va_P D vwCl (mm_L TC ad cy g) H → va_S (mm_A TC ad) s.heap H locs → W p l e (headSpec wsX11_of (rm_X11_of)).room s m args below meth c H locs 0 0 (MQ below (mm_Qi D TC ad cy r0 g) args s 0 0 (mm_A TC ad)) (F0 m 0 ls []) := by
    intro H locs hH9 hL9 hP hS
    clear hH9 hL9
    refine lv_aload_n hx hb dX11_of_0 rfl (lv_at hl 0 rfl) ?_
    refine mq_getr (Tt := TX11) (N := 9) (C := RX11) hx hb hts hiX11 hown hK hP hp rfl 0 1 (by decide) rfl hw0 (fun _ h9 => h9) dX11_of_1 ?_
    refine lv_iload_n hx hb dX11_of_4 rfl (lv_at hl 1 rfl) ?_
    obtain ⟨r_1, hr_2, hf⟩ := op_some hf
    refine mq_calli (va_runV (As := [.int x1]) (rest := []) ⟨hx, hb, hml, hown, hts⟩ (c_X10_isPerson l D ad cy 1 x1 g (shTC_X11_1 hp) r_1 hr_2) (cwV 1 hts gX11_of_X10_isPerson rfl rfl rfl (by decide +kernel) ⟨Nat.le_of_ble_eq_true rfl, Nat.le_of_ble_eq_true rfl⟩) (mq_preV (q := (RX10, TX10, 9)) mm_zOkC hK hP hI hZ hS (shTC_X11_1 hp) rfl) rfl rfl hl.1 rfl (lv_room (Nat.le_of_ble_eq_true rfl)) dX11_of_5 ⟨Nat.le_refl _, Nat.le_refl _⟩) hS (fun H locs hP hS => ?_)
    refine lv_if_ne (tgt := 13) hx hb dX11_of_8 (by decide) (fun c_3 => ?_) (fun c_3 => ?_)
    · replace hf := ite_f c_3 hf
      refine lv_iload_n hx hb dX11_of_13 rfl (lv_at hl 2 rfl) ?_
      by_cases c_4_0 : x2 = 0
      · replace hf := ite_t c_4_0 hf
        refine lv_tableIn (off := 30) (tgt := 44) hx hb dX11_of_14 (by rw [c_4_0]; decide) (by rw [c_4_0]; decide) (by rw [c_4_0]; decide) (by decide) ?_
        refine lv_aload_n hx hb dX11_of_44 rfl (lv_at hl 0 rfl) ?_
        refine mq_getr (Tt := TX11) (N := 9) (C := RX11) hx hb hts hiX11 hown hK hP hp rfl 0 1 (by decide) rfl hw0 (fun _ h9 => h9) dX11_of_45 ?_
        refine mq_getr (Tt := TX10) (N := 9) (C := RX10) hx hb hts hiX10 hown hK hP (shTC_X11_1 hp) rfl 1 1 (by decide) rfl hw4 (fun _ h9 => h9) dX11_of_48 ?_
        refine lv_iload_n hx hb dX11_of_51 rfl (lv_at hl 1 rfl) ?_
        obtain ⟨h_10, hf⟩ := og_some hf
        refine mq_iald hx hb hK hP (N := 5) (shTC_X11_2 hp) h_10 dX11_of_52 ?_
        exact mq_iret hx hb hr rfl hlocks hP hS (Option.some.inj hf) rfl dX11_of_53
      · replace hf := ite_f c_4_0 hf
        by_cases c_4_1 : x2 = 1
        · replace hf := ite_t c_4_1 hf
          refine lv_tableIn (off := 40) (tgt := 54) hx hb dX11_of_14 (by rw [c_4_1]; decide) (by rw [c_4_1]; decide) (by rw [c_4_1]; decide) (by decide) ?_
          refine lv_aload_n hx hb dX11_of_54 rfl (lv_at hl 0 rfl) ?_
          refine mq_getr (Tt := TX11) (N := 9) (C := RX11) hx hb hts hiX11 hown hK hP hp rfl 0 1 (by decide) rfl hw0 (fun _ h9 => h9) dX11_of_55 ?_
          refine mq_getr (Tt := TX10) (N := 9) (C := RX10) hx hb hts hiX10 hown hK hP (shTC_X11_1 hp) rfl 2 2 (by decide) rfl hw2 (fun _ h9 => h9) dX11_of_58 ?_
          refine lv_iload_n hx hb dX11_of_61 rfl (lv_at hl 1 rfl) ?_
          obtain ⟨h_9, hf⟩ := og_some hf
          refine mq_iald hx hb hK hP (N := 5) (shTC_X11_3 hp) h_9 dX11_of_62 ?_
          exact mq_iret hx hb hr rfl hlocks hP hS (Option.some.inj hf) rfl dX11_of_63
        · replace hf := ite_f c_4_1 hf
          by_cases c_4_2 : x2 = 2
          · replace hf := ite_t c_4_2 hf
            refine lv_tableIn (off := 50) (tgt := 64) hx hb dX11_of_14 (by rw [c_4_2]; decide) (by rw [c_4_2]; decide) (by rw [c_4_2]; decide) (by decide) ?_
            refine lv_aload_n hx hb dX11_of_64 rfl (lv_at hl 0 rfl) ?_
            refine mq_getr (Tt := TX11) (N := 9) (C := RX11) hx hb hts hiX11 hown hK hP hp rfl 0 1 (by decide) rfl hw0 (fun _ h9 => h9) dX11_of_65 ?_
            refine lv_iload_n hx hb dX11_of_68 rfl (lv_at hl 1 rfl) ?_
            refine lv_iconst (v := 0) hx hb dX11_of_69 (by decide) ?_
            obtain ⟨r_7, hr_8, hf⟩ := op_some hf
            refine mq_calli (va_runV (As := [.int x1, .int 0]) (rest := []) ⟨hx, hb, hml, hown, hts⟩ (c_X10_shoesOf l D ad cy 1 x1 0 g (shTC_X11_1 hp) r_7 hr_8) (cwV 2 hts gX11_of_X10_shoesOf rfl rfl rfl (by decide +kernel) ⟨Nat.le_of_ble_eq_true rfl, Nat.le_of_ble_eq_true rfl⟩) (mq_preV (q := (RX10, TX10, 9)) mm_zOkC hK hP hI hZ hS (shTC_X11_1 hp) rfl) rfl rfl hl.1 rfl (lv_room (Nat.le_of_ble_eq_true rfl)) dX11_of_70 ⟨Nat.le_refl _, Nat.le_refl _⟩) hS (fun H locs hP hS => ?_)
            exact mq_iret hx hb hr rfl hlocks hP hS (Option.some.inj hf) rfl dX11_of_73
          · replace hf := ite_f c_4_2 hf
            by_cases c_4_3 : x2 = 3
            · replace hf := ite_t c_4_3 hf
              refine lv_tableIn (off := 60) (tgt := 74) hx hb dX11_of_14 (by rw [c_4_3]; decide) (by rw [c_4_3]; decide) (by rw [c_4_3]; decide) (by decide) ?_
              refine lv_aload_n hx hb dX11_of_74 rfl (lv_at hl 0 rfl) ?_
              refine mq_getr (Tt := TX11) (N := 9) (C := RX11) hx hb hts hiX11 hown hK hP hp rfl 0 1 (by decide) rfl hw0 (fun _ h9 => h9) dX11_of_75 ?_
              refine lv_iload_n hx hb dX11_of_78 rfl (lv_at hl 1 rfl) ?_
              refine lv_iconst (v := 1) hx hb dX11_of_79 (by decide) ?_
              obtain ⟨r_5, hr_6, hf⟩ := op_some hf
              refine mq_calli (va_runV (As := [.int x1, .int 1]) (rest := []) ⟨hx, hb, hml, hown, hts⟩ (c_X10_shoesOf l D ad cy 1 x1 1 g (shTC_X11_1 hp) r_5 hr_6) (cwV 2 hts gX11_of_X10_shoesOf rfl rfl rfl (by decide +kernel) ⟨Nat.le_of_ble_eq_true rfl, Nat.le_of_ble_eq_true rfl⟩) (mq_preV (q := (RX10, TX10, 9)) mm_zOkC hK hP hI hZ hS (shTC_X11_1 hp) rfl) rfl rfl hl.1 rfl (lv_room (Nat.le_of_ble_eq_true rfl)) dX11_of_80 ⟨Nat.le_refl _, Nat.le_refl _⟩) hS (fun H locs hP hS => ?_)
              exact mq_iret hx hb hr rfl hlocks hP hS (Option.some.inj hf) rfl dX11_of_83
            · replace hf := ite_f c_4_3 hf
              refine lv_tableOut (tgt := 84) hx hb dX11_of_14 (by
                have e0 : x2.toInt ≠ 0 := sw_ne (k := 0) c_4_0
                have e1 : x2.toInt ≠ 1 := sw_ne (k := 1) c_4_1
                have e2 : x2.toInt ≠ 2 := sw_ne (k := 2) c_4_2
                have e3 : x2.toInt ≠ 3 := sw_ne (k := 3) c_4_3
                omega) (by decide) ?_
              refine lv_iconst (v := (-1)) hx hb dX11_of_84 (by decide) ?_
              exact mq_iret hx hb hr rfl hlocks hP hS (Option.some.inj hf) rfl dX11_of_85
    · replace hf := ite_t c_3 hf
      refine lv_iconst (v := (-1)) hx hb dX11_of_11 (by decide) ?_
      exact mq_iret hx hb hr rfl hlocks hP hS (Option.some.inj hf) rfl dX11_of_12
  exact hH9 s.heap [] rfl rfl hP hS
abbrev rm_X11_tax : Room := ({ frames := 2, cells := 0, slots := 0, locals := 42 } : Room)
set_option maxHeartbeats 4000000 in
set_option maxRecDepth 100000 in
theorem c_X11_tax (l : Launch) (D : va_G) (ad : Nat → Nat) (cy : Nat → ClassId) (x1 : Int32) (x2 : Int32) (g : Mm) (hp : TC[0]? = some sX11) (r0 : Int32) (g' : Mm) (hf : f_X11_tax x1 x2 g = some (r0, g')) : Met l yX11_tax wsX11_tax rm_X11_tax (va_Pc [.ref (ad 0), .int x1, .int x2] (mm_pre mm_Z D TC ad cy g)) (mm_Qi D TC ad cy r0 g') 0 0 (mm_A TC ad) := by
  refine Met.ofW (cc := cX11_tax) (maxL := 3) (ret := (some .int)) (by decide) rfl ?_
  intro p e s m args below meth c s₁ B hml hv
  obtain ⟨hargs, hP, hK, hI, hZ⟩ := hv
  have hx := B.exec
  have hb := B.bytes
  have hr := B.returns
  have hts := atoms_spec (ws := wsX11_tax) B.pre
  have hown : s.vm.findClass RX11 = some m.cls := findClass_of_methodNamed B.named
  have hlocks := B.notSynchronized
  have hw0 := hts (.fieldLink RX11 10 "LeftShoes" "now" "LLeftShoes$World;") (by decide +kernel)
  have hiX11 : ∀ w ∈ wsX110, w ∈ wsX11_tax := by decide +kernel
  have hw2 := hts (.fieldLink RX11 119 "LeftShoes$World" "levy" "LLeftShoes$Tax;") (by decide +kernel)
  have hiX10 : ∀ w ∈ wsX100, w ∈ wsX11_tax := by decide +kernel
  rw [show entryFrame m args 3 = F0 m 0 ((lg_sl ([.ref (ad 0), .int x1, .int x2] : List Value) ++ List.replicate (3 - (lg_sl ([.ref (ad 0), .int x1, .int x2] : List Value)).length) Slot.unset).toArray) [] from by rw [hargs]; exact lg_entry_eq m _ _]
  have hl := lv_entry ([.ref (ad 0), .int x1, .int x2] : List Value) (n := 3) (by exact Nat.le_of_ble_eq_true rfl)
  generalize (lg_sl ([.ref (ad 0), .int x1, .int x2] : List Value) ++ List.replicate (3 - (lg_sl ([.ref (ad 0), .int x1, .int x2] : List Value)).length) Slot.unset).toArray = ls at hl ⊢
  have hl : lv_has ls 3 [(0, .ref (ad 0)), (1, .int x1), (2, .int x2)] := by exact hl
  have hS : va_S (mm_A TC ad) s.heap s.heap [] := va_S.rf
  clear hargs
  unfold f_X11_tax at hf
  have hH9 : ∀ (H : Heap) (locs : List Loc), H = s.heap → locs = [] → va_P D vwCl (mm_L TC ad cy g) H → va_S (mm_A TC ad) s.heap H locs → W p l e (headSpec wsX11_tax (rm_X11_tax)).room s m args below meth c H locs 0 0 (MQ below (mm_Qi D TC ad cy r0 g') args s 0 0 (mm_A TC ad)) (F0 m 0 ls []) := by
    intro H locs hH9 hL9 hP hS
    clear hH9 hL9
    refine lv_iload_n hx hb dX11_tax_0 rfl (lv_at hl 1 rfl) ?_
    obtain ⟨r_1, hr_2, hf⟩ := op_some hf
    refine mq_calli (va_runS (As := [.int x1]) (rest := []) ⟨hx, hb, hml, hown, hts⟩ (c_X11_isSort l D ad cy x1 g r_1 hr_2) (va_cwS 1 hts gX11_tax_X11_isSort rfl rfl rfl (by decide +kernel) ⟨Nat.le_of_ble_eq_true rfl, Nat.le_of_ble_eq_true rfl⟩) (mq_preS mm_zOkC hK hP hI hZ hS) rfl rfl hl.1 rfl (lv_room (Nat.le_of_ble_eq_true rfl)) dX11_tax_1 ⟨Nat.le_refl _, Nat.le_refl _⟩) hS (fun H locs hP hS => ?_)
    refine lv_if_eq (tgt := 34) hx hb dX11_tax_4 (by decide) (fun c_3 => ?_) (fun c_3 => ?_)
    · replace hf := ite_t c_3 hf
      refine lv_iload_n hx hb dX11_tax_34 rfl (lv_at hl 1 rfl) ?_
      refine lv_iconst (v := 4) hx hb dX11_tax_35 (by decide) ?_
      refine lv_icmp_ne (tgt := 65) hx hb dX11_tax_36 (by decide) (fun c_4 => ?_) (fun c_4 => ?_)
      · replace hf := ite_f c_4 hf
        refine lv_iload_n hx hb dX11_tax_65 rfl (lv_at hl 1 rfl) ?_
        refine lv_iconst (v := 5) hx hb dX11_tax_66 (by decide) ?_
        refine lv_icmp_ne (tgt := 93) hx hb dX11_tax_67 (by decide) (fun c_5 => ?_) (fun c_5 => ?_)
        · replace hf := ite_f c_5 hf
          refine lv_iconst (v := (-1)) hx hb dX11_tax_93 (by decide) ?_
          exact mq_iret hx hb hr rfl hlocks hP hS (pr_1 hf) (pr_2 hf) dX11_tax_94
        · replace hf := ite_t c_5 hf
          refine lv_iload_n hx hb dX11_tax_70 rfl (lv_at hl 2 rfl) ?_
          obtain ⟨r_6, hr_7, hf⟩ := op_some hf
          refine mq_calli (va_runS (As := [.int x2]) (rest := []) ⟨hx, hb, hml, hown, hts⟩ (c_X11_isFoot l D ad cy x2 g r_6 hr_7) (va_cwS 1 hts gX11_tax_X11_isFoot rfl rfl rfl (by decide +kernel) ⟨Nat.le_of_ble_eq_true rfl, Nat.le_of_ble_eq_true rfl⟩) (mq_preS mm_zOkC hK hP hI hZ hS) rfl rfl hl.1 rfl (lv_room (Nat.le_of_ble_eq_true rfl)) dX11_tax_71 ⟨Nat.le_refl _, Nat.le_refl _⟩) hS (fun H locs hP hS => ?_)
          refine lv_if_eq (tgt := 91) hx hb dX11_tax_74 (by decide) (fun c_8 => ?_) (fun c_8 => ?_)
          · replace hf := ite_t c_8 hf
            refine lv_iconst (v := (-1)) hx hb dX11_tax_91 (by decide) ?_
            exact mq_iret hx hb hr rfl hlocks hP hS (pr_1 hf) (pr_2 hf) dX11_tax_92
          · replace hf := ite_f c_8 hf
            refine lv_aload_n hx hb dX11_tax_77 rfl (lv_at hl 0 rfl) ?_
            refine mq_getr (Tt := TX11) (N := 9) (C := RX11) hx hb hts hiX11 hown hK hP hp rfl 0 1 (by decide) rfl hw0 (fun _ h9 => h9) dX11_tax_78 ?_
            refine mq_getr (Tt := TX10) (N := 9) (C := RX10) hx hb hts hiX10 hown hK hP (shTC_X11_1 hp) rfl 5 20 (by decide) rfl hw2 (fun _ h9 => h9) dX11_tax_81 ?_
            refine lv_iload_n hx hb dX11_tax_84 rfl (lv_at hl 2 rfl) ?_
            obtain ⟨r_10, g_9, hr_11, hf⟩ := ob_some hf
            refine mq_calli (va_runV (As := [.int x2]) (rest := []) ⟨hx, hb, hml, hown, hts⟩ (c_X7_setFoot l D ad cy 21 x2 g (shTC_X11_21 hp) r_10 g_9 hr_11) (cwV 1 hts gX11_tax_X7_setFoot rfl rfl rfl (by decide +kernel) ⟨Nat.le_of_ble_eq_true rfl, Nat.le_of_ble_eq_true rfl⟩) (mq_preV (q := (RX7, TX7, 3)) mm_zOkC hK hP hI hZ hS (shTC_X11_21 hp) rfl) rfl rfl hl.1 rfl (lv_room (Nat.le_of_ble_eq_true rfl)) dX11_tax_85 ⟨Nat.le_refl _, Nat.le_refl _⟩) hS (fun H locs hP hS => ?_)
            refine lv_goto (tgt := 92) hx hb dX11_tax_88 (by decide) ?_
            exact mq_iret hx hb hr rfl hlocks hP hS (pr_1 hf) (pr_2 hf) dX11_tax_92
      · replace hf := ite_t c_4 hf
        refine lv_iload_n hx hb dX11_tax_39 rfl (lv_at hl 2 rfl) ?_
        refine lv_iconst (v := 0) hx hb dX11_tax_40 (by decide) ?_
        refine lv_bipush (v := 99) hx hb dX11_tax_41 (by decide) ?_
        obtain ⟨r_12, hr_13, hf⟩ := op_some hf
        refine mq_calli (va_runS (As := [.int x2, .int 0, .int 99]) (rest := []) ⟨hx, hb, hml, hown, hts⟩ (c_X11_isWithin l D ad cy x2 0 99 g r_12 hr_13) (va_cwS 3 hts gX11_tax_X11_isWithin rfl rfl rfl (by decide +kernel) ⟨Nat.le_of_ble_eq_true rfl, Nat.le_of_ble_eq_true rfl⟩) (mq_preS mm_zOkC hK hP hI hZ hS) rfl rfl hl.1 rfl (lv_room (Nat.le_of_ble_eq_true rfl)) dX11_tax_43 ⟨Nat.le_refl _, Nat.le_refl _⟩) hS (fun H locs hP hS => ?_)
        refine lv_if_eq (tgt := 63) hx hb dX11_tax_46 (by decide) (fun c_14 => ?_) (fun c_14 => ?_)
        · replace hf := ite_t c_14 hf
          refine lv_iconst (v := (-1)) hx hb dX11_tax_63 (by decide) ?_
          exact mq_iret hx hb hr rfl hlocks hP hS (pr_1 hf) (pr_2 hf) dX11_tax_64
        · replace hf := ite_f c_14 hf
          refine lv_aload_n hx hb dX11_tax_49 rfl (lv_at hl 0 rfl) ?_
          refine mq_getr (Tt := TX11) (N := 9) (C := RX11) hx hb hts hiX11 hown hK hP hp rfl 0 1 (by decide) rfl hw0 (fun _ h9 => h9) dX11_tax_50 ?_
          refine mq_getr (Tt := TX10) (N := 9) (C := RX10) hx hb hts hiX10 hown hK hP (shTC_X11_1 hp) rfl 5 20 (by decide) rfl hw2 (fun _ h9 => h9) dX11_tax_53 ?_
          refine lv_iload_n hx hb dX11_tax_56 rfl (lv_at hl 2 rfl) ?_
          obtain ⟨r_16, g_15, hr_17, hf⟩ := ob_some hf
          refine mq_calli (va_runV (As := [.int x2]) (rest := []) ⟨hx, hb, hml, hown, hts⟩ (c_X7_setFine l D ad cy 21 x2 g (shTC_X11_21 hp) r_16 g_15 hr_17) (cwV 1 hts gX11_tax_X7_setFine rfl rfl rfl (by decide +kernel) ⟨Nat.le_of_ble_eq_true rfl, Nat.le_of_ble_eq_true rfl⟩) (mq_preV (q := (RX7, TX7, 3)) mm_zOkC hK hP hI hZ hS (shTC_X11_21 hp) rfl) rfl rfl hl.1 rfl (lv_room (Nat.le_of_ble_eq_true rfl)) dX11_tax_57 ⟨Nat.le_refl _, Nat.le_refl _⟩) hS (fun H locs hP hS => ?_)
          refine lv_goto (tgt := 64) hx hb dX11_tax_60 (by decide) ?_
          exact mq_iret hx hb hr rfl hlocks hP hS (pr_1 hf) (pr_2 hf) dX11_tax_64
    · replace hf := ite_f c_3 hf
      refine lv_iload_n hx hb dX11_tax_7 rfl (lv_at hl 2 rfl) ?_
      refine lv_iconst (v := 0) hx hb dX11_tax_8 (by decide) ?_
      refine lv_bipush (v := 9) hx hb dX11_tax_9 (by decide) ?_
      obtain ⟨r_18, hr_19, hf⟩ := op_some hf
      refine mq_calli (va_runS (As := [.int x2, .int 0, .int 9]) (rest := []) ⟨hx, hb, hml, hown, hts⟩ (c_X11_isWithin l D ad cy x2 0 9 g r_18 hr_19) (va_cwS 3 hts gX11_tax_X11_isWithin rfl rfl rfl (by decide +kernel) ⟨Nat.le_of_ble_eq_true rfl, Nat.le_of_ble_eq_true rfl⟩) (mq_preS mm_zOkC hK hP hI hZ hS) rfl rfl hl.1 rfl (lv_room (Nat.le_of_ble_eq_true rfl)) dX11_tax_11 ⟨Nat.le_refl _, Nat.le_refl _⟩) hS (fun H locs hP hS => ?_)
      refine lv_if_eq (tgt := 32) hx hb dX11_tax_14 (by decide) (fun c_20 => ?_) (fun c_20 => ?_)
      · replace hf := ite_t c_20 hf
        refine lv_iconst (v := (-1)) hx hb dX11_tax_32 (by decide) ?_
        exact mq_iret hx hb hr rfl hlocks hP hS (pr_1 hf) (pr_2 hf) dX11_tax_33
      · replace hf := ite_f c_20 hf
        refine lv_aload_n hx hb dX11_tax_17 rfl (lv_at hl 0 rfl) ?_
        refine mq_getr (Tt := TX11) (N := 9) (C := RX11) hx hb hts hiX11 hown hK hP hp rfl 0 1 (by decide) rfl hw0 (fun _ h9 => h9) dX11_tax_18 ?_
        refine mq_getr (Tt := TX10) (N := 9) (C := RX10) hx hb hts hiX10 hown hK hP (shTC_X11_1 hp) rfl 5 20 (by decide) rfl hw2 (fun _ h9 => h9) dX11_tax_21 ?_
        refine lv_iload_n hx hb dX11_tax_24 rfl (lv_at hl 1 rfl) ?_
        refine lv_iload_n hx hb dX11_tax_25 rfl (lv_at hl 2 rfl) ?_
        obtain ⟨r_22, g_21, hr_23, hf⟩ := ob_some hf
        refine mq_calli (va_runV (As := [.int x1, .int x2]) (rest := []) ⟨hx, hb, hml, hown, hts⟩ (c_X7_setRate l D ad cy 21 x1 x2 g (shTC_X11_21 hp) r_22 g_21 hr_23) (cwV 2 hts gX11_tax_X7_setRate rfl rfl rfl (by decide +kernel) ⟨Nat.le_of_ble_eq_true rfl, Nat.le_of_ble_eq_true rfl⟩) (mq_preV (q := (RX7, TX7, 3)) mm_zOkC hK hP hI hZ hS (shTC_X11_21 hp) rfl) rfl rfl hl.1 rfl (lv_room (Nat.le_of_ble_eq_true rfl)) dX11_tax_26 ⟨Nat.le_refl _, Nat.le_refl _⟩) hS (fun H locs hP hS => ?_)
        refine lv_goto (tgt := 33) hx hb dX11_tax_29 (by decide) ?_
        exact mq_iret hx hb hr rfl hlocks hP hS (pr_1 hf) (pr_2 hf) dX11_tax_33
  exact hH9 s.heap [] rfl rfl hP hS
abbrev rm_X11_isMile : Room := ({ frames := 1, cells := 0, slots := 0, locals := 22 } : Room)
set_option maxHeartbeats 4000000 in
set_option maxRecDepth 100000 in
theorem c_X11_isMile (l : Launch) (D : va_G) (ad : Nat → Nat) (cy : Nat → ClassId) (x0 : Int32) (g : Mm)  (r0 : Int32) (hf : f_X11_isMile x0 = some r0) : Met l yX11_isMile wsX11_isMile rm_X11_isMile (va_Pc [.int x0] (mm_pre mm_Z D TC ad cy g)) (mm_Qi D TC ad cy r0 g) 0 0 (mm_A TC ad) := by
  refine Met.ofW (cc := cX11_isMile) (maxL := 1) (ret := (some .boolean)) (by decide) rfl ?_
  intro p e s m args below meth c s₁ B hml hv
  obtain ⟨hargs, hP, hK, hI, hZ⟩ := hv
  have hx := B.exec
  have hb := B.bytes
  have hr := B.returns
  have hts := atoms_spec (ws := wsX11_isMile) B.pre
  have hown : s.vm.findClass RX11 = some m.cls := findClass_of_methodNamed B.named
  have hlocks := B.notSynchronized
  rw [show entryFrame m args 1 = F0 m 0 ((lg_sl ([.int x0] : List Value) ++ List.replicate (1 - (lg_sl ([.int x0] : List Value)).length) Slot.unset).toArray) [] from by rw [hargs]; exact lg_entry_eq m _ _]
  have hl := lv_entry ([.int x0] : List Value) (n := 1) (by exact Nat.le_of_ble_eq_true rfl)
  generalize (lg_sl ([.int x0] : List Value) ++ List.replicate (1 - (lg_sl ([.int x0] : List Value)).length) Slot.unset).toArray = ls at hl ⊢
  have hl : lv_has ls 1 [(0, .int x0)] := by exact hl
  have hS : va_S (mm_A TC ad) s.heap s.heap [] := va_S.rf
  clear hargs
  unfold f_X11_isMile at hf
  have hH9 : ∀ (H : Heap) (locs : List Loc), H = s.heap → locs = [] → va_P D vwCl (mm_L TC ad cy g) H → va_S (mm_A TC ad) s.heap H locs → W p l e (headSpec wsX11_isMile (rm_X11_isMile)).room s m args below meth c H locs 0 0 (MQ below (mm_Qi D TC ad cy r0 g) args s 0 0 (mm_A TC ad)) (F0 m 0 ls []) := by
    intro H locs hH9 hL9 hP hS
    clear hH9 hL9
    refine lv_iload_n hx hb dX11_isMile_0 rfl (lv_at hl 0 rfl) ?_
    refine lv_iconst (v := 0) hx hb dX11_isMile_1 (by decide) ?_
    refine lv_bipush (v := 8) hx hb dX11_isMile_2 (by decide) ?_
    obtain ⟨r_1, hr_2, hf⟩ := op_some hf
    refine mq_calli (va_runS (As := [.int x0, .int 0, .int 8]) (rest := []) ⟨hx, hb, hml, hown, hts⟩ (c_X11_isWithin l D ad cy x0 0 8 g r_1 hr_2) (va_cwS 3 hts gX11_isMile_X11_isWithin rfl rfl rfl (by decide +kernel) ⟨Nat.le_of_ble_eq_true rfl, Nat.le_of_ble_eq_true rfl⟩) (mq_preS mm_zOkC hK hP hI hZ hS) rfl rfl hl.1 rfl (lv_room (Nat.le_of_ble_eq_true rfl)) dX11_isMile_4 ⟨Nat.le_refl _, Nat.le_refl _⟩) hS (fun H locs hP hS => ?_)
    obtain ⟨h_3, hf⟩ := og_some hf
    exact mq_iret hx hb hr (mm_01_nar h_3) hlocks hP hS (Option.some.inj hf) rfl dX11_isMile_7
  exact hH9 s.heap [] rfl rfl hP hS
abbrev rm_X11_road : Room := ({ frames := 2, cells := 0, slots := 0, locals := 42 } : Room)
set_option maxHeartbeats 4000000 in
set_option maxRecDepth 100000 in
theorem c_X11_road (l : Launch) (D : va_G) (ad : Nat → Nat) (cy : Nat → ClassId) (x1 : Int32) (x2 : Int32) (x3 : Int32) (g : Mm) (hp : TC[0]? = some sX11) (r0 : Int32) (g' : Mm) (hf : f_X11_road x1 x2 x3 g = some (r0, g')) : Met l yX11_road wsX11_road rm_X11_road (va_Pc [.ref (ad 0), .int x1, .int x2, .int x3] (mm_pre mm_Z D TC ad cy g)) (mm_Qi D TC ad cy r0 g') 0 0 (mm_A TC ad) := by
  refine Met.ofW (cc := cX11_road) (maxL := 4) (ret := (some .int)) (by decide) rfl ?_
  intro p e s m args below meth c s₁ B hml hv
  obtain ⟨hargs, hP, hK, hI, hZ⟩ := hv
  have hx := B.exec
  have hb := B.bytes
  have hr := B.returns
  have hts := atoms_spec (ws := wsX11_road) B.pre
  have hown : s.vm.findClass RX11 = some m.cls := findClass_of_methodNamed B.named
  have hlocks := B.notSynchronized
  have hw0 := hts (.fieldLink RX11 10 "LeftShoes" "now" "LLeftShoes$World;") (by decide +kernel)
  have hiX11 : ∀ w ∈ wsX110, w ∈ wsX11_road := by decide +kernel
  have hw2 := hts (.fieldLink RX11 135 "LeftShoes$World" "way" "LLeftShoes$Road;") (by decide +kernel)
  have hiX10 : ∀ w ∈ wsX100, w ∈ wsX11_road := by decide +kernel
  rw [show entryFrame m args 4 = F0 m 0 ((lg_sl ([.ref (ad 0), .int x1, .int x2, .int x3] : List Value) ++ List.replicate (4 - (lg_sl ([.ref (ad 0), .int x1, .int x2, .int x3] : List Value)).length) Slot.unset).toArray) [] from by rw [hargs]; exact lg_entry_eq m _ _]
  have hl := lv_entry ([.ref (ad 0), .int x1, .int x2, .int x3] : List Value) (n := 4) (by exact Nat.le_of_ble_eq_true rfl)
  generalize (lg_sl ([.ref (ad 0), .int x1, .int x2, .int x3] : List Value) ++ List.replicate (4 - (lg_sl ([.ref (ad 0), .int x1, .int x2, .int x3] : List Value)).length) Slot.unset).toArray = ls at hl ⊢
  have hl : lv_has ls 4 [(0, .ref (ad 0)), (1, .int x1), (2, .int x2), (3, .int x3)] := by exact hl
  have hS : va_S (mm_A TC ad) s.heap s.heap [] := va_S.rf
  clear hargs
  unfold f_X11_road at hf
  have hH9 : ∀ (H : Heap) (locs : List Loc), H = s.heap → locs = [] → va_P D vwCl (mm_L TC ad cy g) H → va_S (mm_A TC ad) s.heap H locs → W p l e (headSpec wsX11_road (rm_X11_road)).room s m args below meth c H locs 0 0 (MQ below (mm_Qi D TC ad cy r0 g') args s 0 0 (mm_A TC ad)) (F0 m 0 ls []) := by
    intro H locs hH9 hL9 hP hS
    clear hH9 hL9
    refine lv_iload_n hx hb dX11_road_0 rfl (lv_at hl 1 rfl) ?_
    obtain ⟨r_1, hr_2, hf⟩ := op_some hf
    refine mq_calli (va_runS (As := [.int x1]) (rest := []) ⟨hx, hb, hml, hown, hts⟩ (c_X11_isMile l D ad cy x1 g r_1 hr_2) (va_cwS 1 hts gX11_road_X11_isMile rfl rfl rfl (by decide +kernel) ⟨Nat.le_of_ble_eq_true rfl, Nat.le_of_ble_eq_true rfl⟩) (mq_preS mm_zOkC hK hP hI hZ hS) rfl rfl hl.1 rfl (lv_room (Nat.le_of_ble_eq_true rfl)) dX11_road_1 ⟨Nat.le_refl _, Nat.le_refl _⟩) hS (fun H locs hP hS => ?_)
    refine lv_if_ne (tgt := 9) hx hb dX11_road_4 (by decide) (fun c_3 => ?_) (fun c_3 => ?_)
    · replace hf := ite_f c_3 hf
      refine lv_iload_n hx hb dX11_road_9 rfl (lv_at hl 2 rfl) ?_
      refine lv_if_ne (tgt := 40) hx hb dX11_road_10 (by decide) (fun c_4 => ?_) (fun c_4 => ?_)
      · replace hf := ite_f c_4 hf
        refine lv_iload_n hx hb dX11_road_40 rfl (lv_at hl 2 rfl) ?_
        refine lv_iconst (v := 1) hx hb dX11_road_41 (by decide) ?_
        refine lv_icmp_ne (tgt := 72) hx hb dX11_road_42 (by decide) (fun c_5 => ?_) (fun c_5 => ?_)
        · replace hf := ite_f c_5 hf
          refine lv_iconst (v := (-1)) hx hb dX11_road_72 (by decide) ?_
          exact mq_iret hx hb hr rfl hlocks hP hS (pr_1 hf) (pr_2 hf) dX11_road_73
        · replace hf := ite_t c_5 hf
          refine lv_iload_n hx hb dX11_road_45 rfl (lv_at hl 3 rfl) ?_
          refine lv_iconst (v := 0) hx hb dX11_road_46 (by decide) ?_
          refine lv_bipush (v := 16) hx hb dX11_road_47 (by decide) ?_
          obtain ⟨r_6, hr_7, hf⟩ := op_some hf
          refine mq_calli (va_runS (As := [.int x3, .int 0, .int 16]) (rest := []) ⟨hx, hb, hml, hown, hts⟩ (c_X11_isWithin l D ad cy x3 0 16 g r_6 hr_7) (va_cwS 3 hts gX11_road_X11_isWithin rfl rfl rfl (by decide +kernel) ⟨Nat.le_of_ble_eq_true rfl, Nat.le_of_ble_eq_true rfl⟩) (mq_preS mm_zOkC hK hP hI hZ hS) rfl rfl hl.1 rfl (lv_room (Nat.le_of_ble_eq_true rfl)) dX11_road_49 ⟨Nat.le_refl _, Nat.le_refl _⟩) hS (fun H locs hP hS => ?_)
          refine lv_if_eq (tgt := 70) hx hb dX11_road_52 (by decide) (fun c_8 => ?_) (fun c_8 => ?_)
          · replace hf := ite_t c_8 hf
            refine lv_iconst (v := (-1)) hx hb dX11_road_70 (by decide) ?_
            exact mq_iret hx hb hr rfl hlocks hP hS (pr_1 hf) (pr_2 hf) dX11_road_71
          · replace hf := ite_f c_8 hf
            refine lv_aload_n hx hb dX11_road_55 rfl (lv_at hl 0 rfl) ?_
            refine mq_getr (Tt := TX11) (N := 9) (C := RX11) hx hb hts hiX11 hown hK hP hp rfl 0 1 (by decide) rfl hw0 (fun _ h9 => h9) dX11_road_56 ?_
            refine mq_getr (Tt := TX10) (N := 9) (C := RX10) hx hb hts hiX10 hown hK hP (shTC_X11_1 hp) rfl 6 22 (by decide) rfl hw2 (fun _ h9 => h9) dX11_road_59 ?_
            refine lv_iload_n hx hb dX11_road_62 rfl (lv_at hl 1 rfl) ?_
            refine lv_iload_n hx hb dX11_road_63 rfl (lv_at hl 3 rfl) ?_
            obtain ⟨r_10, g_9, hr_11, hf⟩ := ob_some hf
            refine mq_calli (va_runV (As := [.int x1, .int x3]) (rest := []) ⟨hx, hb, hml, hown, hts⟩ (c_X3_setWatched l D ad cy 23 x1 x3 g (shTC_X11_23 hp) r_10 g_9 hr_11) (cwV 2 hts gX11_road_X3_setWatched rfl rfl rfl (by decide +kernel) ⟨Nat.le_of_ble_eq_true rfl, Nat.le_of_ble_eq_true rfl⟩) (mq_preV (q := (RX3, TX3, 2)) mm_zOkC hK hP hI hZ hS (shTC_X11_23 hp) rfl) rfl rfl hl.1 rfl (lv_room (Nat.le_of_ble_eq_true rfl)) dX11_road_64 ⟨Nat.le_refl _, Nat.le_refl _⟩) hS (fun H locs hP hS => ?_)
            refine lv_goto (tgt := 71) hx hb dX11_road_67 (by decide) ?_
            exact mq_iret hx hb hr rfl hlocks hP hS (pr_1 hf) (pr_2 hf) dX11_road_71
      · replace hf := ite_t c_4 hf
        refine lv_iload_n hx hb dX11_road_13 rfl (lv_at hl 3 rfl) ?_
        refine lv_iconst (v := 0) hx hb dX11_road_14 (by decide) ?_
        refine lv_bipush (v := 9) hx hb dX11_road_15 (by decide) ?_
        obtain ⟨r_12, hr_13, hf⟩ := op_some hf
        refine mq_calli (va_runS (As := [.int x3, .int 0, .int 9]) (rest := []) ⟨hx, hb, hml, hown, hts⟩ (c_X11_isWithin l D ad cy x3 0 9 g r_12 hr_13) (va_cwS 3 hts gX11_road_X11_isWithin rfl rfl rfl (by decide +kernel) ⟨Nat.le_of_ble_eq_true rfl, Nat.le_of_ble_eq_true rfl⟩) (mq_preS mm_zOkC hK hP hI hZ hS) rfl rfl hl.1 rfl (lv_room (Nat.le_of_ble_eq_true rfl)) dX11_road_17 ⟨Nat.le_refl _, Nat.le_refl _⟩) hS (fun H locs hP hS => ?_)
        refine lv_if_eq (tgt := 38) hx hb dX11_road_20 (by decide) (fun c_14 => ?_) (fun c_14 => ?_)
        · replace hf := ite_t c_14 hf
          refine lv_iconst (v := (-1)) hx hb dX11_road_38 (by decide) ?_
          exact mq_iret hx hb hr rfl hlocks hP hS (pr_1 hf) (pr_2 hf) dX11_road_39
        · replace hf := ite_f c_14 hf
          refine lv_aload_n hx hb dX11_road_23 rfl (lv_at hl 0 rfl) ?_
          refine mq_getr (Tt := TX11) (N := 9) (C := RX11) hx hb hts hiX11 hown hK hP hp rfl 0 1 (by decide) rfl hw0 (fun _ h9 => h9) dX11_road_24 ?_
          refine mq_getr (Tt := TX10) (N := 9) (C := RX10) hx hb hts hiX10 hown hK hP (shTC_X11_1 hp) rfl 6 22 (by decide) rfl hw2 (fun _ h9 => h9) dX11_road_27 ?_
          refine lv_iload_n hx hb dX11_road_30 rfl (lv_at hl 1 rfl) ?_
          refine lv_iload_n hx hb dX11_road_31 rfl (lv_at hl 3 rfl) ?_
          obtain ⟨r_16, g_15, hr_17, hf⟩ := ob_some hf
          refine mq_calli (va_runV (As := [.int x1, .int x3]) (rest := []) ⟨hx, hb, hml, hown, hts⟩ (c_X3_setMud l D ad cy 23 x1 x3 g (shTC_X11_23 hp) r_16 g_15 hr_17) (cwV 2 hts gX11_road_X3_setMud rfl rfl rfl (by decide +kernel) ⟨Nat.le_of_ble_eq_true rfl, Nat.le_of_ble_eq_true rfl⟩) (mq_preV (q := (RX3, TX3, 2)) mm_zOkC hK hP hI hZ hS (shTC_X11_23 hp) rfl) rfl rfl hl.1 rfl (lv_room (Nat.le_of_ble_eq_true rfl)) dX11_road_32 ⟨Nat.le_refl _, Nat.le_refl _⟩) hS (fun H locs hP hS => ?_)
          refine lv_goto (tgt := 39) hx hb dX11_road_35 (by decide) ?_
          exact mq_iret hx hb hr rfl hlocks hP hS (pr_1 hf) (pr_2 hf) dX11_road_39
    · replace hf := ite_t c_3 hf
      refine lv_iconst (v := (-1)) hx hb dX11_road_7 (by decide) ?_
      exact mq_iret hx hb hr rfl hlocks hP hS (pr_1 hf) (pr_2 hf) dX11_road_8
  exact hH9 s.heap [] rfl rfl hP hS
