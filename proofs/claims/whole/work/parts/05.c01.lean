abbrev rm_X1_settle : Room := ({ frames := 1, cells := 0, slots := 0, locals := 60 } : Room)
set_option maxHeartbeats 4000000 in
set_option maxRecDepth 100000 in
theorem c_X1_settle (l : Launch) (D : va_G) (ad : Nat → Nat) (cy : Nat → ClassId) (p0 : Nat) (x1 : Int32) (x2 : Int32) (g : Mm) (hp : TC[p0]? = some sX1) (r0 : Int32) (g' : Mm) (hf : f_X1_settle p0 x1 x2 g = some (r0, g')) : Met l yX1_settle wsX1_settle rm_X1_settle (va_Pc [.ref (ad p0), .int x1, .int x2] (mm_pre mm_Z D TC ad cy g)) (mm_Qi D TC ad cy r0 g') 0 0 (mm_A TC ad) := by
  refine Met.ofW (cc := cX1_settle) (maxL := 4) (ret := (some .boolean)) (by decide) rfl ?_
  intro p e s m args below meth c s₁ B hml hv
  obtain ⟨hargs, hP, hK, hI, hZ⟩ := hv
  have hx := B.exec
  have hb := B.bytes
  have hr := B.returns
  have hts := atoms_spec (ws := wsX1_settle) B.pre
  have hown : s.vm.findClass RX1 = some m.cls := findClass_of_methodNamed B.named
  have hlocks := B.notSynchronized
  have hw0 := hts (.fieldLink RX1 18 "LeftShoes$Buyers" "wasPrice" "[I") (by decide +kernel)
  have hiX1 : ∀ w ∈ wsX10, w ∈ wsX1_settle := by decide +kernel
  have hw2 := hts (.fieldLink RX1 31 "LeftShoes$Buyers" "lastPrice" "I") (by decide +kernel)
  have hw3 := hts (.fieldLink RX1 34 "LeftShoes$Buyers" "rounds" "I") (by decide +kernel)
  have hw4 := hts (.methodLink RX1 47 Lib.Math.max.name) (by decide +kernel)
  have hw5 := hts (.static Lib.Math.max.name) (by decide +kernel)
  have hw6 := hts (.initialized "java/lang/Math") (by decide +kernel)
  have hw7 := hts (.code Lib.Math.max.name Lib.Math.max.code 2 (some .int)) (by decide +kernel)
  have hw8 := hts (.methodLink RX1 41 Lib.Math.min.name) (by decide +kernel)
  have hw9 := hts (.static Lib.Math.min.name) (by decide +kernel)
  have hw10 := hts (.code Lib.Math.min.name Lib.Math.min.code 2 (some .int)) (by decide +kernel)
  rw [show entryFrame m args 4 = F0 m 0 ((lg_sl ([.ref (ad p0), .int x1, .int x2] : List Value) ++ List.replicate (4 - (lg_sl ([.ref (ad p0), .int x1, .int x2] : List Value)).length) Slot.unset).toArray) [] from by rw [hargs]; exact lg_entry_eq m _ _]
  have hl := lv_entry ([.ref (ad p0), .int x1, .int x2] : List Value) (n := 4) (by exact Nat.le_of_ble_eq_true rfl)
  generalize (lg_sl ([.ref (ad p0), .int x1, .int x2] : List Value) ++ List.replicate (4 - (lg_sl ([.ref (ad p0), .int x1, .int x2] : List Value)).length) Slot.unset).toArray = ls at hl ⊢
  have hl : lv_has ls 4 [(0, .ref (ad p0)), (1, .int x1), (2, .int x2)] := by exact hl
  have hS : va_S (mm_A TC ad) s.heap s.heap [] := va_S.rf
  clear hargs
  have hc98 : ∀ (K_18 : Mm → Option (Int32 × Mm)), (∀ (g : Mm) (H : Heap) (locs : List Loc) (ls : Array Slot), va_P D vwCl (mm_L TC ad cy g) H → va_S (mm_A TC ad) s.heap H locs → lv_has ls 4 [(0, .ref (ad p0)), (1, .int x1), (2, .int x2)] → K_18 g = some (r0, g') → W p l e (headSpec wsX1_settle (rm_X1_settle)).room s m args below meth c H locs 0 0 (MQ below (mm_Qi D TC ad cy r0 g') args s 0 0 (mm_A TC ad)) (F0 m 18 ls [])) → ∀ (sq0 : Nat) (sx1 : Int32) (g : Mm) (H : Heap) (locs : List Loc) (ls : Array Slot), TC[sq0]? = some sX1 → va_P D vwCl (mm_L TC ad cy g) H → va_S (mm_A TC ad) s.heap H locs → lv_has ls 4 [(0, .ref (ad p0)), (1, .int x1), (2, .int x2)] → f_X1_settle_c98 K_18 p0 x2 sq0 sx1 g = some (r0, g') → W p l e (headSpec wsX1_settle (rm_X1_settle)).room s m args below meth c H locs 0 0 (MQ below (mm_Qi D TC ad cy r0 g') args s 0 0 (mm_A TC ad)) (F0 m 98 ls [.int sx1, .ref (ad sq0)]) := by
    intro K_18 hK_18 sq0 sx1 g H locs ls hsq0 hP hS hl hf
    unfold f_X1_settle_c98 at hf
    obtain ⟨g_13, eg_13, hf⟩ := mw_some hf
    refine mq_puti (Tt := TX1) (N := 6) (C := RX1) (ty := .int) hx hb hts hiX1 tyX1 tyX1_ok nmX1 hown hK hI hP hS hsq0 rfl 4 (by decide) rfl hw2 (fun _ h9 => h9) rfl (by decide +kernel) rfl rfl dX1_settle_98 eg_13 (fun H locs hP hS => ?_)
    refine lv_aload_n hx hb dX1_settle_101 rfl (lv_at hl 0 rfl) ?_
    refine lv_dup hx hb dX1_settle_102 rfl ?_
    refine mq_geti (Tt := TX1) (N := 6) (C := RX1) hx hb hts hiX1 hown hK hP hp rfl 5 (by decide) rfl hw3 (fun _ h9 => h9) dX1_settle_103 ?_
    refine lv_iconst (v := 1) hx hb dX1_settle_106 (by decide) ?_
    refine lv_iadd hx hb dX1_settle_107 ?_
    obtain ⟨g_14, eg_14, hf⟩ := mw_some hf
    refine mq_puti (Tt := TX1) (N := 6) (C := RX1) (ty := .int) hx hb hts hiX1 tyX1 tyX1_ok nmX1 hown hK hI hP hS hp rfl 5 (by decide) rfl hw3 (fun _ h9 => h9) rfl (by decide +kernel) rfl rfl dX1_settle_108 eg_14 (fun H locs hP hS => ?_)
    refine lv_goto (tgt := 18) hx hb dX1_settle_111 (by decide) ?_
    exact hK_18 g_14 H locs ls hP hS (lv_sub hl [0, 1, 2] rfl) hf
  have hc18 : ∀ (n : Nat), ∀ (g : Mm) (H : Heap) (locs : List Loc) (ls : Array Slot), va_P D vwCl (mm_L TC ad cy g) H → va_S (mm_A TC ad) s.heap H locs → lv_has ls 4 [(0, .ref (ad p0)), (1, .int x1), (2, .int x2)] → f_X1_settle_c18 p0 x2 n g = some (r0, g') → W p l e (headSpec wsX1_settle (rm_X1_settle)).room s m args below meth c H locs 0 0 (MQ below (mm_Qi D TC ad cy r0 g') args s 0 0 (mm_A TC ad)) (F0 m 18 ls []) := by
    intro n
    induction n with
    | zero =>
      intro g H locs ls hP hS hl hf
      rw [f_X1_settle_c18] at hf
      cases hf
    | succ n ih =>
      intro g H locs ls hP hS hl hf
      rw [f_X1_settle_c18] at hf
      refine lv_aload_n hx hb dX1_settle_18 rfl (lv_at hl 0 rfl) ?_
      refine mq_geti (Tt := TX1) (N := 6) (C := RX1) hx hb hts hiX1 hown hK hP hp rfl 5 (by decide) rfl hw3 (fun _ h9 => h9) dX1_settle_19 ?_
      refine lv_bipush (v := 99) hx hb dX1_settle_22 (by decide) ?_
      refine lv_icmp_gt (tgt := 114) hx hb dX1_settle_24 (by decide) (fun c_4 => ?_) (fun c_4 => ?_)
      · replace hf := ite_t c_4 hf
        refine lv_iconst (v := 0) hx hb dX1_settle_114 (by decide) ?_
        exact mq_iret hx hb hr (by decide +kernel) hlocks hP hS (pr_1 hf) (pr_2 hf) dX1_settle_115
      · replace hf := ite_f c_4 hf
        refine lv_aload_n hx hb dX1_settle_27 rfl (lv_at hl 0 rfl) ?_
        refine lv_aload_n hx hb dX1_settle_28 rfl (lv_at hl 0 rfl) ?_
        refine mq_geti (Tt := TX1) (N := 6) (C := RX1) hx hb hts hiX1 hown hK hP hp rfl 4 (by decide) rfl hw2 (fun _ h9 => h9) dX1_settle_29 ?_
        obtain ⟨r_5, hr_6, hf⟩ := op_some hf
        refine mq_calli (va_runV (As := [.int (g p0 4)]) (rest := []) ⟨hx, hb, hml, hown, hts⟩ (c_X1_wantedAt l D ad cy p0 (g p0 4) g hp r_5 hr_6) (cwV 1 hts gX1_settle_X1_wantedAt rfl rfl rfl (by decide +kernel) ⟨Nat.le_of_ble_eq_true rfl, Nat.le_of_ble_eq_true rfl⟩) (mq_preV (q := (RX1, TX1, 6)) mm_zOkC hK hP hI hZ hS hp rfl) rfl rfl hl.1 rfl (lv_room (Nat.le_of_ble_eq_true rfl)) dX1_settle_32 ⟨Nat.le_refl _, Nat.le_refl _⟩) hS (fun H locs hP hS => ?_)
        refine lv_istore_n (lv' := [(3, .int r_5), (0, .ref (ad p0)), (1, .int x1), (2, .int x2)]) hx hb dX1_settle_35 rfl hl (by decide) rfl (fun ls hl => ?_)
        refine lv_aload_n hx hb dX1_settle_36 rfl (lv_at hl 1 rfl) ?_
        refine mq_getr (Tt := TX1) (N := 6) (C := RX1) hx hb hts hiX1 hown hK hP hp rfl 3 3 (by decide) rfl hw0 (fun _ h9 => h9) dX1_settle_37 ?_
        refine lv_aload_n hx hb dX1_settle_40 rfl (lv_at hl 1 rfl) ?_
        refine mq_geti (Tt := TX1) (N := 6) (C := RX1) hx hb hts hiX1 hown hK hP hp rfl 4 (by decide) rfl hw2 (fun _ h9 => h9) dX1_settle_41 ?_
        obtain ⟨h_7, hf⟩ := og_some hf
        refine mq_iald hx hb hK hP (N := 100) (shTC_X1_3 hp) h_7 dX1_settle_44 ?_
        refine lv_iconst (v := 1) hx hb dX1_settle_45 (by decide) ?_
        refine lv_icmp_ne (tgt := 51) hx hb dX1_settle_46 (by decide) (fun c_8 => ?_) (fun c_8 => ?_)
        · replace hf := ite_f c_8 hf
          refine lv_iload_n hx hb dX1_settle_51 rfl (lv_at hl 0 rfl) ?_
          refine lv_iload_n hx hb dX1_settle_52 rfl (lv_at hl 3 rfl) ?_
          refine lv_icmp_ne (tgt := 58) hx hb dX1_settle_53 (by decide) (fun c_9 => ?_) (fun c_9 => ?_)
          · replace hf := ite_f c_9 hf
            refine lv_aload_n hx hb dX1_settle_58 rfl (lv_at hl 1 rfl) ?_
            refine mq_getr (Tt := TX1) (N := 6) (C := RX1) hx hb hts hiX1 hown hK hP hp rfl 3 3 (by decide) rfl hw0 (fun _ h9 => h9) dX1_settle_59 ?_
            refine lv_aload_n hx hb dX1_settle_62 rfl (lv_at hl 1 rfl) ?_
            refine mq_geti (Tt := TX1) (N := 6) (C := RX1) hx hb hts hiX1 hown hK hP hp rfl 4 (by decide) rfl hw2 (fun _ h9 => h9) dX1_settle_63 ?_
            refine lv_iconst (v := 1) hx hb dX1_settle_66 (by decide) ?_
            obtain ⟨h_10, hf⟩ := og_some hf
            obtain ⟨g_11, eg_11, hf⟩ := mw_some hf
            refine mq_iast hx hb hK hI hP hS (N := 100) (shTC_X1_3 hp) h_10 dX1_settle_67 eg_11 (fun H locs hP hS => ?_)
            refine lv_aload_n hx hb dX1_settle_68 rfl (lv_at hl 1 rfl) ?_
            refine lv_iload_n hx hb dX1_settle_69 rfl (lv_at hl 0 rfl) ?_
            refine lv_iload_n hx hb dX1_settle_70 rfl (lv_at hl 3 rfl) ?_
            refine lv_icmp_le (tgt := 88) hx hb dX1_settle_71 (by decide) (fun c_12 => ?_) (fun c_12 => ?_)
            · replace hf := ite_t c_12 hf
              refine lv_aload_n hx hb dX1_settle_88 rfl (lv_at hl 1 rfl) ?_
              refine mq_geti (Tt := TX1) (N := 6) (C := RX1) hx hb hts hiX1 hown hK hP hp rfl 4 (by decide) rfl hw2 (fun _ h9 => h9) dX1_settle_89 ?_
              refine lv_iconst (v := 1) hx hb dX1_settle_92 (by decide) ?_
              refine lv_isub hx hb dX1_settle_93 ?_
              refine lv_iconst (v := 1) hx hb dX1_settle_94 (by decide) ?_
              refine va_mmax hx hb (hml.trans hl.1.symm) hown hw4 hw5 hw6 hw7 (Nat.le_of_ble_eq_true rfl) (Nat.le_of_ble_eq_true rfl) (Nat.le_refl _) (Nat.le_refl _) dX1_settle_95 ?_
              exact hc98 (f_X1_settle_c18 p0 x2 n) ih p0 (if ((g_11 p0 4) - 1) < 1 then 1 else ((g_11 p0 4) - 1)) g_11 H locs ls hp hP hS (lv_sub hl [1, 2, 3] rfl) hf
            · replace hf := ite_f c_12 hf
              refine lv_aload_n hx hb dX1_settle_74 rfl (lv_at hl 1 rfl) ?_
              refine mq_geti (Tt := TX1) (N := 6) (C := RX1) hx hb hts hiX1 hown hK hP hp rfl 4 (by decide) rfl hw2 (fun _ h9 => h9) dX1_settle_75 ?_
              refine lv_iconst (v := 1) hx hb dX1_settle_78 (by decide) ?_
              refine lv_iadd hx hb dX1_settle_79 ?_
              refine lv_bipush (v := 99) hx hb dX1_settle_80 (by decide) ?_
              refine va_mmin hx hb (hml.trans hl.1.symm) hown hw8 hw9 hw6 hw10 (Nat.le_of_ble_eq_true rfl) (Nat.le_of_ble_eq_true rfl) (Nat.le_refl _) (Nat.le_refl _) dX1_settle_82 ?_
              refine lv_goto (tgt := 98) hx hb dX1_settle_85 (by decide) ?_
              exact hc98 (f_X1_settle_c18 p0 x2 n) ih p0 (if 99 < ((g_11 p0 4) + 1) then 99 else ((g_11 p0 4) + 1)) g_11 H locs ls hp hP hS (lv_sub hl [1, 2, 3] rfl) hf
          · replace hf := ite_t c_9 hf
            refine lv_iconst (v := 1) hx hb dX1_settle_56 (by decide) ?_
            exact mq_iret hx hb hr (by decide +kernel) hlocks hP hS (pr_1 hf) (pr_2 hf) dX1_settle_57
        · replace hf := ite_t c_8 hf
          refine lv_iconst (v := 0) hx hb dX1_settle_49 (by decide) ?_
          exact mq_iret hx hb hr (by decide +kernel) hlocks hP hS (pr_1 hf) (pr_2 hf) dX1_settle_50
  unfold f_X1_settle at hf
  have hH9 : ∀ (H : Heap) (locs : List Loc), H = s.heap → locs = [] → va_P D vwCl (mm_L TC ad cy g) H → va_S (mm_A TC ad) s.heap H locs → W p l e (headSpec wsX1_settle (rm_X1_settle)).room s m args below meth c H locs 0 0 (MQ below (mm_Qi D TC ad cy r0 g') args s 0 0 (mm_A TC ad)) (F0 m 0 ls []) := by
    intro H locs hH9 hL9 hP hS
    clear hH9 hL9
    refine lv_aload_n hx hb dX1_settle_0 rfl (lv_at hl 0 rfl) ?_
    refine mq_getr (Tt := TX1) (N := 6) (C := RX1) hx hb hts hiX1 hown hK hP hp rfl 3 3 (by decide) rfl hw0 (fun _ h9 => h9) dX1_settle_1 ?_
    refine lv_iconst (v := 0) hx hb dX1_settle_4 (by decide) ?_
    obtain ⟨g_1, eg_1, hf⟩ := mr_some hf
    refine mq_callv (g2 := g_1) (va_runS (As := [.ref (ad (p0 + 3)), .int 0]) (rest := []) ⟨hx, hb, hml, hown, hts⟩ (c_fill (Z := mm_Z) l D TC ad cy (p0 + 3) 100 0 g (shTC_X1_3 hp) (by decide) eg_1) (va_cwS 2 hts gX1_settle_J7_fill_53178 rfl rfl rfl (by decide +kernel) ⟨Nat.le_of_ble_eq_true rfl, Nat.le_of_ble_eq_true rfl⟩) (mq_preS mm_zOkC hK hP hI hZ hS) rfl rfl hl.1 rfl (lv_room (Nat.le_of_ble_eq_true rfl)) dX1_settle_5 ⟨Nat.le_refl _, Nat.le_refl _⟩) hS (fun H locs hP hS => ?_)
    refine lv_aload_n hx hb dX1_settle_8 rfl (lv_at hl 0 rfl) ?_
    refine lv_iload_n hx hb dX1_settle_9 rfl (lv_at hl 1 rfl) ?_
    obtain ⟨g_2, eg_2, hf⟩ := mw_some hf
    refine mq_puti (Tt := TX1) (N := 6) (C := RX1) (ty := .int) hx hb hts hiX1 tyX1 tyX1_ok nmX1 hown hK hI hP hS hp rfl 4 (by decide) rfl hw2 (fun _ h9 => h9) rfl (by decide +kernel) rfl rfl dX1_settle_10 eg_2 (fun H locs hP hS => ?_)
    refine lv_aload_n hx hb dX1_settle_13 rfl (lv_at hl 0 rfl) ?_
    refine lv_iconst (v := 0) hx hb dX1_settle_14 (by decide) ?_
    obtain ⟨g_3, eg_3, hf⟩ := mw_some hf
    refine mq_puti (Tt := TX1) (N := 6) (C := RX1) (ty := .int) hx hb hts hiX1 tyX1 tyX1_ok nmX1 hown hK hI hP hS hp rfl 5 (by decide) rfl hw3 (fun _ h9 => h9) rfl (by decide +kernel) rfl rfl dX1_settle_15 eg_3 (fun H locs hP hS => ?_)
    exact hc18 FU g_3 H locs ls hP hS (lv_sub hl [0, 1, 2] rfl) hf
  exact hH9 s.heap [] rfl rfl hP hS
abbrev rm_X1_become : Room := ({ frames := 1, cells := 0, slots := 0, locals := 60 } : Room)
set_option maxHeartbeats 4000000 in
set_option maxRecDepth 100000 in
theorem c_X1_become (l : Launch) (D : va_G) (ad : Nat → Nat) (cy : Nat → ClassId) (p0 : Nat) (q1 : Nat) (g : Mm) (hp : TC[p0]? = some sX1) (hq1 : TC[q1]? = some sX1) (g' : Mm) (hf : f_X1_become p0 q1 g = some g') : Met l yX1_become wsX1_become rm_X1_become (va_Pc [.ref (ad p0), .ref (ad q1)] (mm_pre mm_Z D TC ad cy g)) (mm_Qv D TC ad cy g') 0 0 (mm_A TC ad) := by
  refine Met.ofW (cc := cX1_become) (maxL := 2) (ret := none) (by decide) rfl ?_
  intro p e s m args below meth c s₁ B hml hv
  obtain ⟨hargs, hP, hK, hI, hZ⟩ := hv
  have hx := B.exec
  have hb := B.bytes
  have hr := B.returns
  have hts := atoms_spec (ws := wsX1_become) B.pre
  have hown : s.vm.findClass RX1 = some m.cls := findClass_of_methodNamed B.named
  have hlocks := B.notSynchronized
  have hw0 := hts (.fieldLink RX1 9 "LeftShoes$Buyers" "wants" "[I") (by decide +kernel)
  have hiX1 : ∀ w ∈ wsX10, w ∈ wsX1_become := by decide +kernel
  have hw2 := hts (.methodLink RX1 50 arraycopyName) (by decide +kernel)
  have hw3 := hts (.native arraycopyName) (by decide +kernel)
  have hw4 := hts (.static arraycopyName) (by decide +kernel)
  have hw5 := hts (.initialized "java/lang/System") (by decide +kernel)
  have hw6 := hts (.fieldLink RX1 15 "LeftShoes$Buyers" "worth" "[I") (by decide +kernel)
  have hw7 := hts (.fieldLink RX1 21 "LeftShoes$Buyers" "size" "I") (by decide +kernel)
  rw [show entryFrame m args 2 = F0 m 0 ((lg_sl ([.ref (ad p0), .ref (ad q1)] : List Value) ++ List.replicate (2 - (lg_sl ([.ref (ad p0), .ref (ad q1)] : List Value)).length) Slot.unset).toArray) [] from by rw [hargs]; exact lg_entry_eq m _ _]
  have hl := lv_entry ([.ref (ad p0), .ref (ad q1)] : List Value) (n := 2) (by exact Nat.le_of_ble_eq_true rfl)
  generalize (lg_sl ([.ref (ad p0), .ref (ad q1)] : List Value) ++ List.replicate (2 - (lg_sl ([.ref (ad p0), .ref (ad q1)] : List Value)).length) Slot.unset).toArray = ls at hl ⊢
  have hl : lv_has ls 2 [(0, .ref (ad p0)), (1, .ref (ad q1))] := by exact hl
  have hS : va_S (mm_A TC ad) s.heap s.heap [] := va_S.rf
  clear hargs
  unfold f_X1_become at hf
  have hH9 : ∀ (H : Heap) (locs : List Loc), H = s.heap → locs = [] → va_P D vwCl (mm_L TC ad cy g) H → va_S (mm_A TC ad) s.heap H locs → W p l e (headSpec wsX1_become (rm_X1_become)).room s m args below meth c H locs 0 0 (MQ below (mm_Qv D TC ad cy g') args s 0 0 (mm_A TC ad)) (F0 m 0 ls []) := by
    intro H locs hH9 hL9 hP hS
    clear hH9 hL9
    refine lv_aload_n hx hb dX1_become_0 rfl (lv_at hl 1 rfl) ?_
    refine mq_getr (Tt := TX1) (N := 6) (C := RX1) hx hb hts hiX1 hown hK hP hq1 rfl 0 1 (by decide) rfl hw0 (fun _ h9 => h9) dX1_become_1 ?_
    refine lv_iconst (v := 0) hx hb dX1_become_4 (by decide) ?_
    refine lv_aload_n hx hb dX1_become_5 rfl (lv_at hl 0 rfl) ?_
    refine mq_getr (Tt := TX1) (N := 6) (C := RX1) hx hb hts hiX1 hown hK hP hp rfl 0 1 (by decide) rfl hw0 (fun _ h9 => h9) dX1_become_6 ?_
    refine lv_iconst (v := 0) hx hb dX1_become_9 (by decide) ?_
    refine lv_bipush (v := 6) hx hb dX1_become_10 (by decide) ?_
    obtain ⟨g_1, eg_1, hf⟩ := mr_some hf
    refine mq_copy hx hb (hml.trans hl.1.symm) hown hw2 hw3 hw4 hw5 hK hI hP hS (n0 := 6) (n1 := 6) (shTC_X1_1 hq1) (shTC_X1_1 hp) (by decide +kernel : mm_cp 0 0 6 6 6 = true) (Nat.le_of_ble_eq_true rfl) (Nat.le_of_ble_eq_true rfl) dX1_become_12 eg_1 (fun H locs hP hS => ?_)
    refine lv_aload_n hx hb dX1_become_15 rfl (lv_at hl 1 rfl) ?_
    refine mq_getr (Tt := TX1) (N := 6) (C := RX1) hx hb hts hiX1 hown hK hP hq1 rfl 1 2 (by decide) rfl hw6 (fun _ h9 => h9) dX1_become_16 ?_
    refine lv_iconst (v := 0) hx hb dX1_become_19 (by decide) ?_
    refine lv_aload_n hx hb dX1_become_20 rfl (lv_at hl 0 rfl) ?_
    refine mq_getr (Tt := TX1) (N := 6) (C := RX1) hx hb hts hiX1 hown hK hP hp rfl 1 2 (by decide) rfl hw6 (fun _ h9 => h9) dX1_become_21 ?_
    refine lv_iconst (v := 0) hx hb dX1_become_24 (by decide) ?_
    refine lv_bipush (v := 6) hx hb dX1_become_25 (by decide) ?_
    obtain ⟨g_2, eg_2, hf⟩ := mr_some hf
    refine mq_copy hx hb (hml.trans hl.1.symm) hown hw2 hw3 hw4 hw5 hK hI hP hS (n0 := 6) (n1 := 6) (shTC_X1_2 hq1) (shTC_X1_2 hp) (by decide +kernel : mm_cp 0 0 6 6 6 = true) (Nat.le_of_ble_eq_true rfl) (Nat.le_of_ble_eq_true rfl) dX1_become_27 eg_2 (fun H locs hP hS => ?_)
    refine lv_aload_n hx hb dX1_become_30 rfl (lv_at hl 0 rfl) ?_
    refine lv_aload_n hx hb dX1_become_31 rfl (lv_at hl 1 rfl) ?_
    refine mq_geti (Tt := TX1) (N := 6) (C := RX1) hx hb hts hiX1 hown hK hP hq1 rfl 2 (by decide) rfl hw7 (fun _ h9 => h9) dX1_become_32 ?_
    obtain ⟨g_3, eg_3, hf⟩ := mw_some hf
    refine mq_puti (Tt := TX1) (N := 6) (C := RX1) (ty := .int) hx hb hts hiX1 tyX1 tyX1_ok nmX1 hown hK hI hP hS hp rfl 2 (by decide) rfl hw7 (fun _ h9 => h9) rfl (by decide +kernel) rfl rfl dX1_become_35 eg_3 (fun H locs hP hS => ?_)
    exact mq_vret hx hb hr hlocks hP hS (Option.some.inj hf) dX1_become_38
  exact hH9 s.heap [] rfl rfl hP hS
abbrev rm_X4_isNothing : Room := ({ frames := 0, cells := 0, slots := 0, locals := 0 } : Room)
set_option maxHeartbeats 4000000 in
set_option maxRecDepth 100000 in
theorem c_X4_isNothing (l : Launch) (D : va_G) (ad : Nat → Nat) (cy : Nat → ClassId) (p0 : Nat) (g : Mm) (hp : TC[p0]? = some sX4) (r0 : Int32) (hf : f_X4_isNothing p0 g = some r0) : Met l yX4_isNothing wsX4_isNothing rm_X4_isNothing (va_Pc [.ref (ad p0)] (mm_pre mm_Z D TC ad cy g)) (mm_Qi D TC ad cy r0 g) 0 0 (mm_A TC ad) := by
  refine Met.ofW (cc := cX4_isNothing) (maxL := 1) (ret := (some .boolean)) (by decide) rfl ?_
  intro p e s m args below meth c s₁ B hml hv
  obtain ⟨hargs, hP, hK, hI, hZ⟩ := hv
  have hx := B.exec
  have hb := B.bytes
  have hr := B.returns
  have hts := atoms_spec (ws := wsX4_isNothing) B.pre
  have hown : s.vm.findClass RX4 = some m.cls := findClass_of_methodNamed B.named
  have hlocks := B.notSynchronized
  have hw0 := hts (.fieldLink RX4 15 "LeftShoes$Sheet" "lane" "I") (by decide +kernel)
  have hiX4 : ∀ w ∈ wsX40, w ∈ wsX4_isNothing := by decide +kernel
  rw [show entryFrame m args 1 = F0 m 0 ((lg_sl ([.ref (ad p0)] : List Value) ++ List.replicate (1 - (lg_sl ([.ref (ad p0)] : List Value)).length) Slot.unset).toArray) [] from by rw [hargs]; exact lg_entry_eq m _ _]
  have hl := lv_entry ([.ref (ad p0)] : List Value) (n := 1) (by exact Nat.le_of_ble_eq_true rfl)
  generalize (lg_sl ([.ref (ad p0)] : List Value) ++ List.replicate (1 - (lg_sl ([.ref (ad p0)] : List Value)).length) Slot.unset).toArray = ls at hl ⊢
  have hl : lv_has ls 1 [(0, .ref (ad p0))] := by exact hl
  have hS : va_S (mm_A TC ad) s.heap s.heap [] := va_S.rf
  clear hargs
  unfold f_X4_isNothing at hf
  have hH9 : ∀ (H : Heap) (locs : List Loc), H = s.heap → locs = [] → va_P D vwCl (mm_L TC ad cy g) H → va_S (mm_A TC ad) s.heap H locs → W p l e (headSpec wsX4_isNothing (rm_X4_isNothing)).room s m args below meth c H locs 0 0 (MQ below (mm_Qi D TC ad cy r0 g) args s 0 0 (mm_A TC ad)) (F0 m 0 ls []) := by
    intro H locs hH9 hL9 hP hS
    clear hH9 hL9
    refine lv_aload_n hx hb dX4_isNothing_0 rfl (lv_at hl 0 rfl) ?_
    refine mq_geti (Tt := TX4) (N := 3) (C := RX4) hx hb hts hiX4 hown hK hP hp rfl 1 (by decide) rfl hw0 (fun _ h9 => h9) dX4_isNothing_1 ?_
    refine lv_iconst (v := (-1)) hx hb dX4_isNothing_4 (by decide) ?_
    refine lv_icmp_ne (tgt := 12) hx hb dX4_isNothing_5 (by decide) (fun c_1 => ?_) (fun c_1 => ?_)
    · replace hf := ite_f c_1 hf
      refine lv_iconst (v := 0) hx hb dX4_isNothing_12 (by decide) ?_
      exact mq_iret hx hb hr (by decide +kernel) hlocks hP hS (Option.some.inj hf) rfl dX4_isNothing_13
    · replace hf := ite_t c_1 hf
      refine lv_iconst (v := 1) hx hb dX4_isNothing_8 (by decide) ?_
      refine lv_goto (tgt := 13) hx hb dX4_isNothing_9 (by decide) ?_
      exact mq_iret hx hb hr (by decide +kernel) hlocks hP hS (Option.some.inj hf) rfl dX4_isNothing_13
  exact hH9 s.heap [] rfl rfl hP hS
abbrev rm_X4_begin : Room := ({ frames := 1, cells := 0, slots := 0, locals := 23 } : Room)
set_option maxHeartbeats 4000000 in
set_option maxRecDepth 100000 in
theorem c_X4_begin (l : Launch) (D : va_G) (ad : Nat → Nat) (cy : Nat → ClassId) (p0 : Nat) (x1 : Int32) (x2 : Int32) (g : Mm) (hp : TC[p0]? = some sX4) (g' : Mm) (hf : f_X4_begin p0 x1 x2 g = some g') : Met l yX4_begin wsX4_begin rm_X4_begin (va_Pc [.ref (ad p0), .int x1, .int x2] (mm_pre mm_Z D TC ad cy g)) (mm_Qv D TC ad cy g') 0 0 (mm_A TC ad) := by
  refine Met.ofW (cc := cX4_begin) (maxL := 3) (ret := none) (by decide) rfl ?_
  intro p e s m args below meth c s₁ B hml hv
  obtain ⟨hargs, hP, hK, hI, hZ⟩ := hv
  have hx := B.exec
  have hb := B.bytes
  have hr := B.returns
  have hts := atoms_spec (ws := wsX4_begin) B.pre
  have hown : s.vm.findClass RX4 = some m.cls := findClass_of_methodNamed B.named
  have hlocks := B.notSynchronized
  have hw0 := hts (.fieldLink RX4 15 "LeftShoes$Sheet" "lane" "I") (by decide +kernel)
  have hiX4 : ∀ w ∈ wsX40, w ∈ wsX4_begin := by decide +kernel
  have hw2 := hts (.fieldLink RX4 19 "LeftShoes$Sheet" "length" "I") (by decide +kernel)
  have hw3 := hts (.fieldLink RX4 9 "LeftShoes$Sheet" "items" "[I") (by decide +kernel)
  rw [show entryFrame m args 3 = F0 m 0 ((lg_sl ([.ref (ad p0), .int x1, .int x2] : List Value) ++ List.replicate (3 - (lg_sl ([.ref (ad p0), .int x1, .int x2] : List Value)).length) Slot.unset).toArray) [] from by rw [hargs]; exact lg_entry_eq m _ _]
  have hl := lv_entry ([.ref (ad p0), .int x1, .int x2] : List Value) (n := 3) (by exact Nat.le_of_ble_eq_true rfl)
  generalize (lg_sl ([.ref (ad p0), .int x1, .int x2] : List Value) ++ List.replicate (3 - (lg_sl ([.ref (ad p0), .int x1, .int x2] : List Value)).length) Slot.unset).toArray = ls at hl ⊢
  have hl : lv_has ls 3 [(0, .ref (ad p0)), (1, .int x1), (2, .int x2)] := by exact hl
  have hS : va_S (mm_A TC ad) s.heap s.heap [] := va_S.rf
  clear hargs
  unfold f_X4_begin at hf
  have hH9 : ∀ (H : Heap) (locs : List Loc), H = s.heap → locs = [] → va_P D vwCl (mm_L TC ad cy g) H → va_S (mm_A TC ad) s.heap H locs → W p l e (headSpec wsX4_begin (rm_X4_begin)).room s m args below meth c H locs 0 0 (MQ below (mm_Qv D TC ad cy g') args s 0 0 (mm_A TC ad)) (F0 m 0 ls []) := by
    intro H locs hH9 hL9 hP hS
    clear hH9 hL9
    refine lv_aload_n hx hb dX4_begin_0 rfl (lv_at hl 0 rfl) ?_
    refine lv_iload_n hx hb dX4_begin_1 rfl (lv_at hl 1 rfl) ?_
    obtain ⟨g_1, eg_1, hf⟩ := mw_some hf
    refine mq_puti (Tt := TX4) (N := 3) (C := RX4) (ty := .int) hx hb hts hiX4 tyX4 tyX4_ok nmX4 hown hK hI hP hS hp rfl 1 (by decide) rfl hw0 (fun _ h9 => h9) rfl (by decide +kernel) rfl rfl dX4_begin_2 eg_1 (fun H locs hP hS => ?_)
    refine lv_aload_n hx hb dX4_begin_5 rfl (lv_at hl 0 rfl) ?_
    refine lv_iload_n hx hb dX4_begin_6 rfl (lv_at hl 2 rfl) ?_
    obtain ⟨g_2, eg_2, hf⟩ := mw_some hf
    refine mq_puti (Tt := TX4) (N := 3) (C := RX4) (ty := .int) hx hb hts hiX4 tyX4 tyX4_ok nmX4 hown hK hI hP hS hp rfl 2 (by decide) rfl hw2 (fun _ h9 => h9) rfl (by decide +kernel) rfl rfl dX4_begin_7 eg_2 (fun H locs hP hS => ?_)
    refine lv_aload_n hx hb dX4_begin_10 rfl (lv_at hl 0 rfl) ?_
    refine mq_getr (Tt := TX4) (N := 3) (C := RX4) hx hb hts hiX4 hown hK hP hp rfl 0 4 (by decide) rfl hw3 (fun _ h9 => h9) dX4_begin_11 ?_
    refine lv_iconst (v := 0) hx hb dX4_begin_14 (by decide) ?_
    obtain ⟨g_3, eg_3, hf⟩ := mr_some hf
    refine mq_callv (g2 := g_3) (va_runS (As := [.ref (ad (p0 + 4)), .int 0]) (rest := []) ⟨hx, hb, hml, hown, hts⟩ (c_fill (Z := mm_Z) l D TC ad cy (p0 + 4) 24 0 g_2 (shTC_X4_4 hp) (by decide) eg_3) (va_cwS 2 hts gX4_begin_J7_fill_53178 rfl rfl rfl (by decide +kernel) ⟨Nat.le_of_ble_eq_true rfl, Nat.le_of_ble_eq_true rfl⟩) (mq_preS mm_zOkC hK hP hI hZ hS) rfl rfl hl.1 rfl (lv_room (Nat.le_of_ble_eq_true rfl)) dX4_begin_15 ⟨Nat.le_refl _, Nat.le_refl _⟩) hS (fun H locs hP hS => ?_)
    exact mq_vret hx hb hr hlocks hP hS (Option.some.inj hf) dX4_begin_18
  exact hH9 s.heap [] rfl rfl hP hS
abbrev rm_X4_clear : Room := ({ frames := 0, cells := 0, slots := 0, locals := 0 } : Room)
set_option maxHeartbeats 4000000 in
set_option maxRecDepth 100000 in
theorem c_X4_clear (l : Launch) (D : va_G) (ad : Nat → Nat) (cy : Nat → ClassId) (p0 : Nat) (g : Mm) (hp : TC[p0]? = some sX4) (g' : Mm) (hf : f_X4_clear p0 g = some g') : Met l yX4_clear wsX4_clear rm_X4_clear (va_Pc [.ref (ad p0)] (mm_pre mm_Z D TC ad cy g)) (mm_Qv D TC ad cy g') 0 0 (mm_A TC ad) := by
  refine Met.ofW (cc := cX4_clear) (maxL := 1) (ret := none) (by decide) rfl ?_
  intro p e s m args below meth c s₁ B hml hv
  obtain ⟨hargs, hP, hK, hI, hZ⟩ := hv
  have hx := B.exec
  have hb := B.bytes
  have hr := B.returns
  have hts := atoms_spec (ws := wsX4_clear) B.pre
  have hown : s.vm.findClass RX4 = some m.cls := findClass_of_methodNamed B.named
  have hlocks := B.notSynchronized
  have hw0 := hts (.fieldLink RX4 15 "LeftShoes$Sheet" "lane" "I") (by decide +kernel)
  have hiX4 : ∀ w ∈ wsX40, w ∈ wsX4_clear := by decide +kernel
  have hw2 := hts (.fieldLink RX4 19 "LeftShoes$Sheet" "length" "I") (by decide +kernel)
  rw [show entryFrame m args 1 = F0 m 0 ((lg_sl ([.ref (ad p0)] : List Value) ++ List.replicate (1 - (lg_sl ([.ref (ad p0)] : List Value)).length) Slot.unset).toArray) [] from by rw [hargs]; exact lg_entry_eq m _ _]
  have hl := lv_entry ([.ref (ad p0)] : List Value) (n := 1) (by exact Nat.le_of_ble_eq_true rfl)
  generalize (lg_sl ([.ref (ad p0)] : List Value) ++ List.replicate (1 - (lg_sl ([.ref (ad p0)] : List Value)).length) Slot.unset).toArray = ls at hl ⊢
  have hl : lv_has ls 1 [(0, .ref (ad p0))] := by exact hl
  have hS : va_S (mm_A TC ad) s.heap s.heap [] := va_S.rf
  clear hargs
  unfold f_X4_clear at hf
  have hH9 : ∀ (H : Heap) (locs : List Loc), H = s.heap → locs = [] → va_P D vwCl (mm_L TC ad cy g) H → va_S (mm_A TC ad) s.heap H locs → W p l e (headSpec wsX4_clear (rm_X4_clear)).room s m args below meth c H locs 0 0 (MQ below (mm_Qv D TC ad cy g') args s 0 0 (mm_A TC ad)) (F0 m 0 ls []) := by
    intro H locs hH9 hL9 hP hS
    clear hH9 hL9
    refine lv_aload_n hx hb dX4_clear_0 rfl (lv_at hl 0 rfl) ?_
    refine lv_iconst (v := (-1)) hx hb dX4_clear_1 (by decide) ?_
    obtain ⟨g_1, eg_1, hf⟩ := mw_some hf
    refine mq_puti (Tt := TX4) (N := 3) (C := RX4) (ty := .int) hx hb hts hiX4 tyX4 tyX4_ok nmX4 hown hK hI hP hS hp rfl 1 (by decide) rfl hw0 (fun _ h9 => h9) rfl (by decide +kernel) rfl rfl dX4_clear_2 eg_1 (fun H locs hP hS => ?_)
    refine lv_aload_n hx hb dX4_clear_5 rfl (lv_at hl 0 rfl) ?_
    refine lv_iconst (v := 0) hx hb dX4_clear_6 (by decide) ?_
    obtain ⟨g_2, eg_2, hf⟩ := mw_some hf
    refine mq_puti (Tt := TX4) (N := 3) (C := RX4) (ty := .int) hx hb hts hiX4 tyX4 tyX4_ok nmX4 hown hK hI hP hS hp rfl 2 (by decide) rfl hw2 (fun _ h9 => h9) rfl (by decide +kernel) rfl rfl dX4_clear_7 eg_2 (fun H locs hP hS => ?_)
    exact mq_vret hx hb hr hlocks hP hS (Option.some.inj hf) dX4_clear_10
  exact hH9 s.heap [] rfl rfl hP hS
abbrev rm_X4_holds : Room := ({ frames := 0, cells := 0, slots := 0, locals := 0 } : Room)
set_option maxHeartbeats 4000000 in
set_option maxRecDepth 100000 in
theorem c_X4_holds (l : Launch) (D : va_G) (ad : Nat → Nat) (cy : Nat → ClassId) (p0 : Nat) (x1 : Int32) (x2 : Int32) (g : Mm) (hp : TC[p0]? = some sX4) (r0 : Int32) (hf : f_X4_holds p0 x1 x2 g = some r0) : Met l yX4_holds wsX4_holds rm_X4_holds (va_Pc [.ref (ad p0), .int x1, .int x2] (mm_pre mm_Z D TC ad cy g)) (mm_Qi D TC ad cy r0 g) 0 0 (mm_A TC ad) := by
  refine Met.ofW (cc := cX4_holds) (maxL := 3) (ret := (some .boolean)) (by decide) rfl ?_
  intro p e s m args below meth c s₁ B hml hv
  obtain ⟨hargs, hP, hK, hI, hZ⟩ := hv
  have hx := B.exec
  have hb := B.bytes
  have hr := B.returns
  have hts := atoms_spec (ws := wsX4_holds) B.pre
  have hown : s.vm.findClass RX4 = some m.cls := findClass_of_methodNamed B.named
  have hlocks := B.notSynchronized
  have hw0 := hts (.fieldLink RX4 19 "LeftShoes$Sheet" "length" "I") (by decide +kernel)
  have hiX4 : ∀ w ∈ wsX40, w ∈ wsX4_holds := by decide +kernel
  rw [show entryFrame m args 3 = F0 m 0 ((lg_sl ([.ref (ad p0), .int x1, .int x2] : List Value) ++ List.replicate (3 - (lg_sl ([.ref (ad p0), .int x1, .int x2] : List Value)).length) Slot.unset).toArray) [] from by rw [hargs]; exact lg_entry_eq m _ _]
  have hl := lv_entry ([.ref (ad p0), .int x1, .int x2] : List Value) (n := 3) (by exact Nat.le_of_ble_eq_true rfl)
  generalize (lg_sl ([.ref (ad p0), .int x1, .int x2] : List Value) ++ List.replicate (3 - (lg_sl ([.ref (ad p0), .int x1, .int x2] : List Value)).length) Slot.unset).toArray = ls at hl ⊢
  have hl : lv_has ls 3 [(0, .ref (ad p0)), (1, .int x1), (2, .int x2)] := by exact hl
  have hS : va_S (mm_A TC ad) s.heap s.heap [] := va_S.rf
  clear hargs
  unfold f_X4_holds at hf
  have hH9 : ∀ (H : Heap) (locs : List Loc), H = s.heap → locs = [] → va_P D vwCl (mm_L TC ad cy g) H → va_S (mm_A TC ad) s.heap H locs → W p l e (headSpec wsX4_holds (rm_X4_holds)).room s m args below meth c H locs 0 0 (MQ below (mm_Qi D TC ad cy r0 g) args s 0 0 (mm_A TC ad)) (F0 m 0 ls []) := by
    intro H locs hH9 hL9 hP hS
    clear hH9 hL9
    refine lv_iload_n hx hb dX4_holds_0 rfl (lv_at hl 1 rfl) ?_
    refine lv_if_lt (tgt := 30) hx hb dX4_holds_1 (by decide) (fun c_1 => ?_) (fun c_1 => ?_)
    · replace hf := ite_t c_1 hf
      refine lv_iconst (v := 0) hx hb dX4_holds_30 (by decide) ?_
      exact mq_iret hx hb hr (by decide +kernel) hlocks hP hS (Option.some.inj hf) rfl dX4_holds_31
    · replace hf := ite_f c_1 hf
      refine lv_iload_n hx hb dX4_holds_4 rfl (lv_at hl 2 rfl) ?_
      refine lv_if_lt (tgt := 30) hx hb dX4_holds_5 (by decide) (fun c_2 => ?_) (fun c_2 => ?_)
      · replace hf := ite_t c_2 hf
        refine lv_iconst (v := 0) hx hb dX4_holds_30 (by decide) ?_
        exact mq_iret hx hb hr (by decide +kernel) hlocks hP hS (Option.some.inj hf) rfl dX4_holds_31
      · replace hf := ite_f c_2 hf
        refine lv_iload_n hx hb dX4_holds_8 rfl (lv_at hl 1 rfl) ?_
        refine lv_aload_n hx hb dX4_holds_9 rfl (lv_at hl 0 rfl) ?_
        refine mq_geti (Tt := TX4) (N := 3) (C := RX4) hx hb hts hiX4 hown hK hP hp rfl 2 (by decide) rfl hw0 (fun _ h9 => h9) dX4_holds_10 ?_
        refine lv_icmp_gt (tgt := 30) hx hb dX4_holds_13 (by decide) (fun c_3 => ?_) (fun c_3 => ?_)
        · replace hf := ite_t c_3 hf
          refine lv_iconst (v := 0) hx hb dX4_holds_30 (by decide) ?_
          exact mq_iret hx hb hr (by decide +kernel) hlocks hP hS (Option.some.inj hf) rfl dX4_holds_31
        · replace hf := ite_f c_3 hf
          refine lv_iload_n hx hb dX4_holds_16 rfl (lv_at hl 2 rfl) ?_
          refine lv_aload_n hx hb dX4_holds_17 rfl (lv_at hl 0 rfl) ?_
          refine mq_geti (Tt := TX4) (N := 3) (C := RX4) hx hb hts hiX4 hown hK hP hp rfl 2 (by decide) rfl hw0 (fun _ h9 => h9) dX4_holds_18 ?_
          refine lv_iload_n hx hb dX4_holds_21 rfl (lv_at hl 1 rfl) ?_
          refine lv_isub hx hb dX4_holds_22 ?_
          refine lv_icmp_gt (tgt := 30) hx hb dX4_holds_23 (by decide) (fun c_4 => ?_) (fun c_4 => ?_)
          · replace hf := ite_t c_4 hf
            refine lv_iconst (v := 0) hx hb dX4_holds_30 (by decide) ?_
            exact mq_iret hx hb hr (by decide +kernel) hlocks hP hS (Option.some.inj hf) rfl dX4_holds_31
          · replace hf := ite_f c_4 hf
            refine lv_iconst (v := 1) hx hb dX4_holds_26 (by decide) ?_
            refine lv_goto (tgt := 31) hx hb dX4_holds_27 (by decide) ?_
            exact mq_iret hx hb hr (by decide +kernel) hlocks hP hS (Option.some.inj hf) rfl dX4_holds_31
  exact hH9 s.heap [] rfl rfl hP hS
abbrev rm_X4_refusal : Room := ({ frames := 1, cells := 0, slots := 0, locals := 22 } : Room)
set_option maxHeartbeats 4000000 in
set_option maxRecDepth 100000 in
theorem c_X4_refusal (l : Launch) (D : va_G) (ad : Nat → Nat) (cy : Nat → ClassId) (p0 : Nat) (x1 : Int32) (x2 : Int32) (x3 : Int32) (g : Mm) (hp : TC[p0]? = some sX4) (r0 : Int32) (hf : f_X4_refusal p0 x1 x2 x3 g = some r0) : Met l yX4_refusal wsX4_refusal rm_X4_refusal (va_Pc [.ref (ad p0), .int x1, .int x2, .int x3] (mm_pre mm_Z D TC ad cy g)) (mm_Qi D TC ad cy r0 g) 0 0 (mm_A TC ad) := by
  refine Met.ofW (cc := cX4_refusal) (maxL := 4) (ret := (some .int)) (by decide) rfl ?_
  intro p e s m args below meth c s₁ B hml hv
  obtain ⟨hargs, hP, hK, hI, hZ⟩ := hv
  have hx := B.exec
  have hb := B.bytes
  have hr := B.returns
  have hts := atoms_spec (ws := wsX4_refusal) B.pre
  have hown : s.vm.findClass RX4 = some m.cls := findClass_of_methodNamed B.named
  have hlocks := B.notSynchronized
  have hw0 := hts (.fieldLink RX4 15 "LeftShoes$Sheet" "lane" "I") (by decide +kernel)
  have hiX4 : ∀ w ∈ wsX40, w ∈ wsX4_refusal := by decide +kernel
  rw [show entryFrame m args 4 = F0 m 0 ((lg_sl ([.ref (ad p0), .int x1, .int x2, .int x3] : List Value) ++ List.replicate (4 - (lg_sl ([.ref (ad p0), .int x1, .int x2, .int x3] : List Value)).length) Slot.unset).toArray) [] from by rw [hargs]; exact lg_entry_eq m _ _]
  have hl := lv_entry ([.ref (ad p0), .int x1, .int x2, .int x3] : List Value) (n := 4) (by exact Nat.le_of_ble_eq_true rfl)
  generalize (lg_sl ([.ref (ad p0), .int x1, .int x2, .int x3] : List Value) ++ List.replicate (4 - (lg_sl ([.ref (ad p0), .int x1, .int x2, .int x3] : List Value)).length) Slot.unset).toArray = ls at hl ⊢
  have hl : lv_has ls 4 [(0, .ref (ad p0)), (1, .int x1), (2, .int x2), (3, .int x3)] := by exact hl
  have hS : va_S (mm_A TC ad) s.heap s.heap [] := va_S.rf
  clear hargs
  unfold f_X4_refusal at hf
  have hH9 : ∀ (H : Heap) (locs : List Loc), H = s.heap → locs = [] → va_P D vwCl (mm_L TC ad cy g) H → va_S (mm_A TC ad) s.heap H locs → W p l e (headSpec wsX4_refusal (rm_X4_refusal)).room s m args below meth c H locs 0 0 (MQ below (mm_Qi D TC ad cy r0 g) args s 0 0 (mm_A TC ad)) (F0 m 0 ls []) := by
    intro H locs hH9 hL9 hP hS
    clear hH9 hL9
    refine lv_aload_n hx hb dX4_refusal_0 rfl (lv_at hl 0 rfl) ?_
    obtain ⟨r_1, hr_2, hf⟩ := op_some hf
    refine mq_calli (va_runV (As := []) (rest := []) ⟨hx, hb, hml, hown, hts⟩ (c_X4_isNothing l D ad cy p0 g hp r_1 hr_2) (cwV 0 hts gX4_refusal_X4_isNothing rfl rfl rfl (by decide +kernel) ⟨Nat.le_of_ble_eq_true rfl, Nat.le_of_ble_eq_true rfl⟩) (mq_preV (q := (RX4, TX4, 3)) mm_zOkC hK hP hI hZ hS hp rfl) rfl rfl hl.1 rfl (lv_room (Nat.le_of_ble_eq_true rfl)) dX4_refusal_1 ⟨Nat.le_refl _, Nat.le_refl _⟩) hS (fun H locs hP hS => ?_)
    refine lv_if_eq (tgt := 10) hx hb dX4_refusal_4 (by decide) (fun c_3 => ?_) (fun c_3 => ?_)
    · replace hf := ite_t c_3 hf
      refine lv_aload_n hx hb dX4_refusal_10 rfl (lv_at hl 0 rfl) ?_
      refine mq_geti (Tt := TX4) (N := 3) (C := RX4) hx hb hts hiX4 hown hK hP hp rfl 1 (by decide) rfl hw0 (fun _ h9 => h9) dX4_refusal_11 ?_
      refine lv_iload_n hx hb dX4_refusal_14 rfl (lv_at hl 1 rfl) ?_
      refine lv_icmp_eq (tgt := 21) hx hb dX4_refusal_15 (by decide) (fun c_4 => ?_) (fun c_4 => ?_)
      · replace hf := ite_t c_4 hf
        refine lv_aload_n hx hb dX4_refusal_21 rfl (lv_at hl 0 rfl) ?_
        refine lv_iload_n hx hb dX4_refusal_22 rfl (lv_at hl 2 rfl) ?_
        refine lv_iload_n hx hb dX4_refusal_23 rfl (lv_at hl 3 rfl) ?_
        obtain ⟨r_5, hr_6, hf⟩ := op_some hf
        refine mq_calli (va_runV (As := [.int x2, .int x3]) (rest := []) ⟨hx, hb, hml, hown, hts⟩ (c_X4_holds l D ad cy p0 x2 x3 g hp r_5 hr_6) (cwV 2 hts gX4_refusal_X4_holds rfl rfl rfl (by decide +kernel) ⟨Nat.le_of_ble_eq_true rfl, Nat.le_of_ble_eq_true rfl⟩) (mq_preV (q := (RX4, TX4, 3)) mm_zOkC hK hP hI hZ hS hp rfl) rfl rfl hl.1 rfl (lv_room (Nat.le_of_ble_eq_true rfl)) dX4_refusal_24 ⟨Nat.le_refl _, Nat.le_refl _⟩) hS (fun H locs hP hS => ?_)
        refine lv_if_eq (tgt := 34) hx hb dX4_refusal_27 (by decide) (fun c_7 => ?_) (fun c_7 => ?_)
        · replace hf := ite_t c_7 hf
          refine lv_bipush (v := (-13)) hx hb dX4_refusal_34 (by decide) ?_
          exact mq_iret hx hb hr rfl hlocks hP hS (Option.some.inj hf) rfl dX4_refusal_36
        · replace hf := ite_f c_7 hf
          refine lv_iconst (v := 0) hx hb dX4_refusal_30 (by decide) ?_
          refine lv_goto (tgt := 36) hx hb dX4_refusal_31 (by decide) ?_
          exact mq_iret hx hb hr rfl hlocks hP hS (Option.some.inj hf) rfl dX4_refusal_36
      · replace hf := ite_f c_4 hf
        refine lv_bipush (v := (-12)) hx hb dX4_refusal_18 (by decide) ?_
        exact mq_iret hx hb hr rfl hlocks hP hS (Option.some.inj hf) rfl dX4_refusal_20
    · replace hf := ite_f c_3 hf
      refine lv_bipush (v := (-11)) hx hb dX4_refusal_7 (by decide) ?_
      exact mq_iret hx hb hr rfl hlocks hP hS (Option.some.inj hf) rfl dX4_refusal_9
  exact hH9 s.heap [] rfl rfl hP hS
abbrev rm_X4_put : Room := ({ frames := 0, cells := 0, slots := 0, locals := 0 } : Room)
set_option maxHeartbeats 4000000 in
set_option maxRecDepth 100000 in
theorem c_X4_put (l : Launch) (D : va_G) (ad : Nat → Nat) (cy : Nat → ClassId) (p0 : Nat) (x1 : Int32) (x2 : Int32) (g : Mm) (hp : TC[p0]? = some sX4) (g' : Mm) (hf : f_X4_put p0 x1 x2 g = some g') : Met l yX4_put wsX4_put rm_X4_put (va_Pc [.ref (ad p0), .int x1, .int x2] (mm_pre mm_Z D TC ad cy g)) (mm_Qv D TC ad cy g') 0 0 (mm_A TC ad) := by
  refine Met.ofW (cc := cX4_put) (maxL := 3) (ret := none) (by decide) rfl ?_
  intro p e s m args below meth c s₁ B hml hv
  obtain ⟨hargs, hP, hK, hI, hZ⟩ := hv
  have hx := B.exec
  have hb := B.bytes
  have hr := B.returns
  have hts := atoms_spec (ws := wsX4_put) B.pre
  have hown : s.vm.findClass RX4 = some m.cls := findClass_of_methodNamed B.named
  have hlocks := B.notSynchronized
  have hw0 := hts (.fieldLink RX4 9 "LeftShoes$Sheet" "items" "[I") (by decide +kernel)
  have hiX4 : ∀ w ∈ wsX40, w ∈ wsX4_put := by decide +kernel
  have hw2 := hts (.fieldLink RX4 15 "LeftShoes$Sheet" "lane" "I") (by decide +kernel)
  rw [show entryFrame m args 3 = F0 m 0 ((lg_sl ([.ref (ad p0), .int x1, .int x2] : List Value) ++ List.replicate (3 - (lg_sl ([.ref (ad p0), .int x1, .int x2] : List Value)).length) Slot.unset).toArray) [] from by rw [hargs]; exact lg_entry_eq m _ _]
  have hl := lv_entry ([.ref (ad p0), .int x1, .int x2] : List Value) (n := 3) (by exact Nat.le_of_ble_eq_true rfl)
  generalize (lg_sl ([.ref (ad p0), .int x1, .int x2] : List Value) ++ List.replicate (3 - (lg_sl ([.ref (ad p0), .int x1, .int x2] : List Value)).length) Slot.unset).toArray = ls at hl ⊢
  have hl : lv_has ls 3 [(0, .ref (ad p0)), (1, .int x1), (2, .int x2)] := by exact hl
  have hS : va_S (mm_A TC ad) s.heap s.heap [] := va_S.rf
  clear hargs
  have hc31 : ∀ (sq0 : Nat) (sx1 : Int32) (sx2 : Int32) (g : Mm) (H : Heap) (locs : List Loc) (ls : Array Slot), TC[sq0]? = some (.inr (24, 0, none) : Shp) → va_P D vwCl (mm_L TC ad cy g) H → va_S (mm_A TC ad) s.heap H locs → lv_has ls 3 [(0, .ref (ad p0)), (1, .int x1), (2, .int x2)] → f_X4_put_c31 p0 sq0 sx1 sx2 g = some g' → W p l e (headSpec wsX4_put (rm_X4_put)).room s m args below meth c H locs 0 0 (MQ below (mm_Qv D TC ad cy g') args s 0 0 (mm_A TC ad)) (F0 m 31 ls [.int sx2, .int sx1, .ref (ad sq0)]) := by
    intro sq0 sx1 sx2 g H locs ls hsq0 hP hS hl hf
    unfold f_X4_put_c31 at hf
    obtain ⟨h_3, hf⟩ := og_some hf
    obtain ⟨g_4, eg_4, hf⟩ := mw_some hf
    refine mq_iast hx hb hK hI hP hS (N := 24) hsq0 h_3 dX4_put_31 eg_4 (fun H locs hP hS => ?_)
    exact mq_vret hx hb hr hlocks hP hS (Option.some.inj hf) dX4_put_32
  unfold f_X4_put at hf
  have hH9 : ∀ (H : Heap) (locs : List Loc), H = s.heap → locs = [] → va_P D vwCl (mm_L TC ad cy g) H → va_S (mm_A TC ad) s.heap H locs → W p l e (headSpec wsX4_put (rm_X4_put)).room s m args below meth c H locs 0 0 (MQ below (mm_Qv D TC ad cy g') args s 0 0 (mm_A TC ad)) (F0 m 0 ls []) := by
    intro H locs hH9 hL9 hP hS
    clear hH9 hL9
    refine lv_aload_n hx hb dX4_put_0 rfl (lv_at hl 0 rfl) ?_
    refine mq_getr (Tt := TX4) (N := 3) (C := RX4) hx hb hts hiX4 hown hK hP hp rfl 0 4 (by decide) rfl hw0 (fun _ h9 => h9) dX4_put_1 ?_
    refine lv_iload_n hx hb dX4_put_4 rfl (lv_at hl 1 rfl) ?_
    refine lv_aload_n hx hb dX4_put_5 rfl (lv_at hl 0 rfl) ?_
    refine mq_geti (Tt := TX4) (N := 3) (C := RX4) hx hb hts hiX4 hown hK hP hp rfl 1 (by decide) rfl hw2 (fun _ h9 => h9) dX4_put_6 ?_
    refine lv_if_ne (tgt := 17) hx hb dX4_put_9 (by decide) (fun c_1 => ?_) (fun c_1 => ?_)
    · replace hf := ite_f c_1 hf
      refine lv_aload_n hx hb dX4_put_17 rfl (lv_at hl 0 rfl) ?_
      refine mq_geti (Tt := TX4) (N := 3) (C := RX4) hx hb hts hiX4 hown hK hP hp rfl 1 (by decide) rfl hw2 (fun _ h9 => h9) dX4_put_18 ?_
      refine lv_iconst (v := 1) hx hb dX4_put_21 (by decide) ?_
      refine lv_icmp_ne (tgt := 30) hx hb dX4_put_22 (by decide) (fun c_2 => ?_) (fun c_2 => ?_)
      · replace hf := ite_f c_2 hf
        refine lv_iload_n hx hb dX4_put_30 rfl (lv_at hl 2 rfl) ?_
        exact hc31 (p0 + 4) x1 x2 g H locs ls (shTC_X4_4 hp) hP hS (lv_sub hl [0, 1, 2] rfl) hf
      · replace hf := ite_t c_2 hf
        refine lv_iload_n hx hb dX4_put_25 rfl (lv_at hl 2 rfl) ?_
        refine lv_i2s hx hb dX4_put_26 rfl ?_
        refine lv_goto (tgt := 31) hx hb dX4_put_27 (by decide) ?_
        exact hc31 (p0 + 4) x1 (x2.toInt16.toInt32) g H locs ls (shTC_X4_4 hp) hP hS (lv_sub hl [0, 1, 2] rfl) hf
    · replace hf := ite_t c_1 hf
      refine lv_iload_n hx hb dX4_put_12 rfl (lv_at hl 2 rfl) ?_
      refine lv_i2b hx hb dX4_put_13 rfl ?_
      refine lv_goto (tgt := 31) hx hb dX4_put_14 (by decide) ?_
      exact hc31 (p0 + 4) x1 (x2.toInt8.toInt32) g H locs ls (shTC_X4_4 hp) hP hS (lv_sub hl [0, 1, 2] rfl) hf
  exact hH9 s.heap [] rfl rfl hP hS
abbrev rm_X6_byteOf : Room := ({ frames := 0, cells := 0, slots := 0, locals := 0 } : Room)
set_option maxHeartbeats 4000000 in
set_option maxRecDepth 100000 in
theorem c_X6_byteOf (l : Launch) (D : va_G) (ad : Nat → Nat) (cy : Nat → ClassId) (x0 : Int64) (x2 : Int32) (g : Mm)  (r0 : Int32) (hf : f_X6_byteOf x0 x2 = some r0) : Met l yX6_byteOf wsX6_byteOf rm_X6_byteOf (va_Pc [.long x0, .int x2] (mm_pre mm_Z D TC ad cy g)) (mm_Qi D TC ad cy r0 g) 0 0 (mm_A TC ad) := by
  refine Met.ofW (cc := cX6_byteOf) (maxL := 3) (ret := (some .int)) (by decide) rfl ?_
  intro p e s m args below meth c s₁ B hml hv
  obtain ⟨hargs, hP, hK, hI, hZ⟩ := hv
  have hx := B.exec
  have hb := B.bytes
  have hr := B.returns
  have hts := atoms_spec (ws := wsX6_byteOf) B.pre
  have hown : s.vm.findClass RX6 = some m.cls := findClass_of_methodNamed B.named
  have hlocks := B.notSynchronized
  have hw0 := hts (.constantLong RX6 23 (255)) (by decide +kernel)
  rw [show entryFrame m args 3 = F0 m 0 ((lg_sl ([.long x0, .int x2] : List Value) ++ List.replicate (3 - (lg_sl ([.long x0, .int x2] : List Value)).length) Slot.unset).toArray) [] from by rw [hargs]; exact lg_entry_eq m _ _]
  have hl := lv_entry ([.long x0, .int x2] : List Value) (n := 3) (by exact Nat.le_of_ble_eq_true rfl)
  generalize (lg_sl ([.long x0, .int x2] : List Value) ++ List.replicate (3 - (lg_sl ([.long x0, .int x2] : List Value)).length) Slot.unset).toArray = ls at hl ⊢
  have hl : lv_has ls 3 [(0, .long x0), (2, .int x2)] := by exact hl
  have hS : va_S (mm_A TC ad) s.heap s.heap [] := va_S.rf
  clear hargs
  unfold f_X6_byteOf at hf
  have hH9 : ∀ (H : Heap) (locs : List Loc), H = s.heap → locs = [] → va_P D vwCl (mm_L TC ad cy g) H → va_S (mm_A TC ad) s.heap H locs → W p l e (headSpec wsX6_byteOf (rm_X6_byteOf)).room s m args below meth c H locs 0 0 (MQ below (mm_Qi D TC ad cy r0 g) args s 0 0 (mm_A TC ad)) (F0 m 0 ls []) := by
    intro H locs hH9 hL9 hP hS
    clear hH9 hL9
    refine lv_lload_n hx hb dX6_byteOf_0 rfl (lv_at hl 0 rfl) ?_
    refine lv_bipush (v := 8) hx hb dX6_byteOf_1 (by decide) ?_
    refine lv_iload_n hx hb dX6_byteOf_3 rfl (lv_at hl 1 rfl) ?_
    refine lv_imul hx hb dX6_byteOf_4 ?_
    refine lv_lushr hx hb dX6_byteOf_5 rfl ?_
    refine lv_ldc2 (v := 255) hx hb hown hw0 dX6_byteOf_6 ?_
    refine lv_land hx hb dX6_byteOf_9 ?_
    refine lv_l2i hx hb dX6_byteOf_10 rfl ?_
    exact mq_iret hx hb hr rfl hlocks hP hS (Option.some.inj hf) rfl dX6_byteOf_11
  exact hH9 s.heap [] rfl rfl hP hS
abbrev rm_X6_isClean : Room := ({ frames := 1, cells := 0, slots := 0, locals := 22 } : Room)
set_option maxHeartbeats 4000000 in
set_option maxRecDepth 100000 in
theorem c_X6_isClean (l : Launch) (D : va_G) (ad : Nat → Nat) (cy : Nat → ClassId) (x0 : Int64) (x2 : Int32) (g : Mm)  (r0 : Int32) (hf : f_X6_isClean x0 x2 = some r0) : Met l yX6_isClean wsX6_isClean rm_X6_isClean (va_Pc [.long x0, .int x2] (mm_pre mm_Z D TC ad cy g)) (mm_Qi D TC ad cy r0 g) 0 0 (mm_A TC ad) := by
  refine Met.ofW (cc := cX6_isClean) (maxL := 4) (ret := (some .boolean)) (by decide) rfl ?_
  intro p e s m args below meth c s₁ B hml hv
  obtain ⟨hargs, hP, hK, hI, hZ⟩ := hv
  have hx := B.exec
  have hb := B.bytes
  have hr := B.returns
  have hts := atoms_spec (ws := wsX6_isClean) B.pre
  have hown : s.vm.findClass RX6 = some m.cls := findClass_of_methodNamed B.named
  have hlocks := B.notSynchronized
  have hw0 := hts (.initialized RX11) (by decide +kernel)
  have hw1 := hts (.static yX11_isWithin) (by decide +kernel)
  rw [show entryFrame m args 4 = F0 m 0 ((lg_sl ([.long x0, .int x2] : List Value) ++ List.replicate (4 - (lg_sl ([.long x0, .int x2] : List Value)).length) Slot.unset).toArray) [] from by rw [hargs]; exact lg_entry_eq m _ _]
  have hl := lv_entry ([.long x0, .int x2] : List Value) (n := 4) (by exact Nat.le_of_ble_eq_true rfl)
  generalize (lg_sl ([.long x0, .int x2] : List Value) ++ List.replicate (4 - (lg_sl ([.long x0, .int x2] : List Value)).length) Slot.unset).toArray = ls at hl ⊢
  have hl : lv_has ls 4 [(0, .long x0), (2, .int x2)] := by exact hl
  have hS : va_S (mm_A TC ad) s.heap s.heap [] := va_S.rf
  clear hargs
  have hc2 : ∀ (n : Nat), ∀ (x3 : Int32) (H : Heap) (locs : List Loc) (ls : Array Slot), va_P D vwCl (mm_L TC ad cy g) H → va_S (mm_A TC ad) s.heap H locs → lv_has ls 4 [(0, .long x0), (2, .int x2), (3, .int x3)] → f_X6_isClean_c2 x0 x2 n x3 = some r0 → W p l e (headSpec wsX6_isClean (rm_X6_isClean)).room s m args below meth c H locs 0 0 (MQ below (mm_Qi D TC ad cy r0 g) args s 0 0 (mm_A TC ad)) (F0 m 2 ls []) := by
    intro n
    induction n with
    | zero =>
      intro x3 H locs ls hP hS hl hf
      rw [f_X6_isClean_c2] at hf
      cases hf
    | succ n ih =>
      intro x3 H locs ls hP hS hl hf
      rw [f_X6_isClean_c2] at hf
      refine lv_iload_n hx hb dX6_isClean_2 rfl (lv_at hl 2 rfl) ?_
      refine lv_iload_n hx hb dX6_isClean_3 rfl (lv_at hl 1 rfl) ?_
      refine lv_icmp_ge (tgt := 30) hx hb dX6_isClean_4 (by decide) (fun c_1 => ?_) (fun c_1 => ?_)
      · replace hf := ite_t c_1 hf
        refine lv_iconst (v := 1) hx hb dX6_isClean_30 (by decide) ?_
        exact mq_iret hx hb hr (by decide +kernel) hlocks hP hS (Option.some.inj hf) rfl dX6_isClean_31
      · replace hf := ite_f c_1 hf
        refine lv_lload_n hx hb dX6_isClean_7 rfl (lv_at hl 0 rfl) ?_
        refine lv_iload_n hx hb dX6_isClean_8 rfl (lv_at hl 2 rfl) ?_
        obtain ⟨r_2, hr_3, hf⟩ := op_some hf
        refine mq_calli (va_runS (As := [.long x0, .int x3]) (rest := []) ⟨hx, hb, hml, hown, hts⟩ (c_X6_byteOf l D ad cy x0 x3 g r_2 hr_3) (va_cwS 2 hts gX6_isClean_X6_byteOf rfl rfl rfl (by decide +kernel) ⟨Nat.le_of_ble_eq_true rfl, Nat.le_of_ble_eq_true rfl⟩) (mq_preS mm_zOkC hK hP hI hZ hS) rfl rfl hl.1 rfl (lv_room (Nat.le_of_ble_eq_true rfl)) dX6_isClean_9 ⟨Nat.le_refl _, Nat.le_refl _⟩) hS (fun H locs hP hS => ?_)
        refine lv_bipush (v := 32) hx hb dX6_isClean_12 (by decide) ?_
        refine lv_bipush (v := 126) hx hb dX6_isClean_14 (by decide) ?_
        obtain ⟨r_4, hr_5, hf⟩ := op_some hf
        refine mq_calli (va_runSN (As := [.int r_2, .int 32, .int 126]) (rest := []) ⟨hx, hb, hml, hown, hts⟩ (c_X11_isWithin l D ad cy r_2 32 126 g r_4 hr_5) ⟨va_cnB 3 hts gX6_isClean_X11_isWithin_n19 rfl rfl rfl hZ.2.2.1 hw0 (by decide +kernel) ⟨Nat.le_of_ble_eq_true rfl, Nat.le_of_ble_eq_true rfl⟩, hw1, trivial⟩ (mq_preS mm_zOkC hK hP hI hZ hS) rfl rfl hl.1 rfl (lv_room (Nat.le_of_ble_eq_true rfl)) dX6_isClean_16 ⟨Nat.le_refl _, Nat.le_refl _⟩) hS (fun H locs hP hS => ?_)
        refine lv_if_ne (tgt := 24) hx hb dX6_isClean_19 (by decide) (fun c_6 => ?_) (fun c_6 => ?_)
        · replace hf := ite_f c_6 hf
          obtain ⟨x3_7, ex3_7, hf⟩ := mv_some hf
          refine lv_iinc (v := x3_7) (lv' := [(3, .int x3_7), (0, .long x0), (2, .int x2)]) hx hb dX6_isClean_24 hl (k := 2) rfl (by rw [ex3_7]; rfl) (by decide) rfl (fun ls hl => ?_)
          refine lv_goto (tgt := 2) hx hb dX6_isClean_27 (by decide) ?_
          exact ih x3_7 H locs ls hP hS (lv_sub hl [1, 2, 0] rfl) hf
        · replace hf := ite_t c_6 hf
          refine lv_iconst (v := 0) hx hb dX6_isClean_22 (by decide) ?_
          exact mq_iret hx hb hr (by decide +kernel) hlocks hP hS (Option.some.inj hf) rfl dX6_isClean_23
  unfold f_X6_isClean at hf
  have hH9 : ∀ (H : Heap) (locs : List Loc), H = s.heap → locs = [] → va_P D vwCl (mm_L TC ad cy g) H → va_S (mm_A TC ad) s.heap H locs → W p l e (headSpec wsX6_isClean (rm_X6_isClean)).room s m args below meth c H locs 0 0 (MQ below (mm_Qi D TC ad cy r0 g) args s 0 0 (mm_A TC ad)) (F0 m 0 ls []) := by
    intro H locs hH9 hL9 hP hS
    clear hH9 hL9
    refine lv_iconst (v := 0) hx hb dX6_isClean_0 (by decide) ?_
    refine lv_istore_n (lv' := [(3, .int 0), (0, .long x0), (2, .int x2)]) hx hb dX6_isClean_1 rfl hl (by decide) rfl (fun ls hl => ?_)
    exact hc2 FU 0 H locs ls hP hS (lv_sub hl [1, 2, 0] rfl) hf
  exact hH9 s.heap [] rfl rfl hP hS
abbrev rm_X6_append : Room := ({ frames := 1, cells := 0, slots := 0, locals := 22 } : Room)
set_option maxHeartbeats 4000000 in
set_option maxRecDepth 100000 in
theorem c_X6_append (l : Launch) (D : va_G) (ad : Nat → Nat) (cy : Nat → ClassId) (p0 : Nat) (x1 : Int64) (x3 : Int32) (g : Mm) (hp : TC[p0]? = some sX6) (r0 : Int32) (g' : Mm) (hf : f_X6_append p0 x1 x3 g = some (r0, g')) : Met l yX6_append wsX6_append rm_X6_append (va_Pc [.ref (ad p0), .long x1, .int x3] (mm_pre mm_Z D TC ad cy g)) (mm_Qi D TC ad cy r0 g') 0 0 (mm_A TC ad) := by
  refine Met.ofW (cc := cX6_append) (maxL := 5) (ret := (some .int)) (by decide) rfl ?_
  intro p e s m args below meth c s₁ B hml hv
  obtain ⟨hargs, hP, hK, hI, hZ⟩ := hv
  have hx := B.exec
  have hb := B.bytes
  have hr := B.returns
  have hts := atoms_spec (ws := wsX6_append) B.pre
  have hown : s.vm.findClass RX6 = some m.cls := findClass_of_methodNamed B.named
  have hlocks := B.notSynchronized
  have hw0 := hts (.fieldLink RX6 25 "LeftShoes$Tape" "length" "I") (by decide +kernel)
  have hiX6 : ∀ w ∈ wsX60, w ∈ wsX6_append := by decide +kernel
  have hw2 := hts (.fieldLink RX6 9 "LeftShoes$Tape" "signs" "[I") (by decide +kernel)
  rw [show entryFrame m args 5 = F0 m 0 ((lg_sl ([.ref (ad p0), .long x1, .int x3] : List Value) ++ List.replicate (5 - (lg_sl ([.ref (ad p0), .long x1, .int x3] : List Value)).length) Slot.unset).toArray) [] from by rw [hargs]; exact lg_entry_eq m _ _]
  have hl := lv_entry ([.ref (ad p0), .long x1, .int x3] : List Value) (n := 5) (by exact Nat.le_of_ble_eq_true rfl)
  generalize (lg_sl ([.ref (ad p0), .long x1, .int x3] : List Value) ++ List.replicate (5 - (lg_sl ([.ref (ad p0), .long x1, .int x3] : List Value)).length) Slot.unset).toArray = ls at hl ⊢
  have hl : lv_has ls 5 [(0, .ref (ad p0)), (1, .long x1), (3, .int x3)] := by exact hl
  have hS : va_S (mm_A TC ad) s.heap s.heap [] := va_S.rf
  clear hargs
  have hc19 : ∀ (n : Nat), ∀ (x4 : Int32) (g : Mm) (H : Heap) (locs : List Loc) (ls : Array Slot), va_P D vwCl (mm_L TC ad cy g) H → va_S (mm_A TC ad) s.heap H locs → lv_has ls 5 [(0, .ref (ad p0)), (1, .long x1), (3, .int x3), (4, .int x4)] → f_X6_append_c19 p0 x1 n x4 g = some (r0, g') → W p l e (headSpec wsX6_append (rm_X6_append)).room s m args below meth c H locs 0 0 (MQ below (mm_Qi D TC ad cy r0 g') args s 0 0 (mm_A TC ad)) (F0 m 19 ls []) := by
    intro n
    induction n with
    | zero =>
      intro x4 g H locs ls hP hS hl hf
      rw [f_X6_append_c19] at hf
      cases hf
    | succ n ih =>
      intro x4 g H locs ls hP hS hl hf
      rw [f_X6_append_c19] at hf
      refine lv_iload hx hb dX6_append_19 (lv_at hl 3 rfl) ?_
      refine lv_if_lt (tgt := 55) hx hb dX6_append_21 (by decide) (fun c_3 => ?_) (fun c_3 => ?_)
      · replace hf := ite_t c_3 hf
        refine lv_aload_n hx hb dX6_append_55 rfl (lv_at hl 0 rfl) ?_
        refine mq_geti (Tt := TX6) (N := 3) (C := RX6) hx hb hts hiX6 hown hK hP hp rfl 1 (by decide) rfl hw0 (fun _ h9 => h9) dX6_append_56 ?_
        exact mq_iret hx hb hr rfl hlocks hP hS (pr_1 hf) (pr_2 hf) dX6_append_59
      · replace hf := ite_f c_3 hf
        refine lv_aload_n hx hb dX6_append_24 rfl (lv_at hl 0 rfl) ?_
        refine mq_getr (Tt := TX6) (N := 3) (C := RX6) hx hb hts hiX6 hown hK hP hp rfl 0 1 (by decide) rfl hw2 (fun _ h9 => h9) dX6_append_25 ?_
        refine lv_aload_n hx hb dX6_append_28 rfl (lv_at hl 0 rfl) ?_
        refine mq_geti (Tt := TX6) (N := 3) (C := RX6) hx hb hts hiX6 hown hK hP hp rfl 1 (by decide) rfl hw0 (fun _ h9 => h9) dX6_append_29 ?_
        refine lv_lload_n hx hb dX6_append_32 rfl (lv_at hl 1 rfl) ?_
        refine lv_iload hx hb dX6_append_33 (lv_at hl 3 rfl) ?_
        obtain ⟨r_4, hr_5, hf⟩ := op_some hf
        refine mq_calli (va_runS (As := [.long x1, .int x4]) (rest := [.int (g p0 1), .ref (ad (p0 + 1))]) ⟨hx, hb, hml, hown, hts⟩ (c_X6_byteOf l D ad cy x1 x4 g r_4 hr_5) (va_cwS 2 hts gX6_append_X6_byteOf rfl rfl rfl (by decide +kernel) ⟨Nat.le_of_ble_eq_true rfl, Nat.le_of_ble_eq_true rfl⟩) (mq_preS mm_zOkC hK hP hI hZ hS) rfl rfl hl.1 rfl (lv_room (Nat.le_of_ble_eq_true rfl)) dX6_append_35 ⟨Nat.le_refl _, Nat.le_refl _⟩) hS (fun H locs hP hS => ?_)
        obtain ⟨h_6, hf⟩ := og_some hf
        obtain ⟨g_7, eg_7, hf⟩ := mw_some hf
        refine mq_iast hx hb hK hI hP hS (N := 60) (shTC_X6_1 hp) h_6 dX6_append_38 eg_7 (fun H locs hP hS => ?_)
        refine lv_aload_n hx hb dX6_append_39 rfl (lv_at hl 0 rfl) ?_
        refine lv_dup hx hb dX6_append_40 rfl ?_
        refine mq_geti (Tt := TX6) (N := 3) (C := RX6) hx hb hts hiX6 hown hK hP hp rfl 1 (by decide) rfl hw0 (fun _ h9 => h9) dX6_append_41 ?_
        refine lv_iconst (v := 1) hx hb dX6_append_44 (by decide) ?_
        refine lv_iadd hx hb dX6_append_45 ?_
        obtain ⟨g_8, eg_8, hf⟩ := mw_some hf
        refine mq_puti (Tt := TX6) (N := 3) (C := RX6) (ty := .int) hx hb hts hiX6 tyX6 tyX6_ok nmX6 hown hK hI hP hS hp rfl 1 (by decide) rfl hw0 (fun _ h9 => h9) rfl (by decide +kernel) rfl rfl dX6_append_46 eg_8 (fun H locs hP hS => ?_)
        obtain ⟨x4_9, ex4_9, hf⟩ := mv_some hf
        refine lv_iinc (v := x4_9) (lv' := [(4, .int x4_9), (0, .ref (ad p0)), (1, .long x1), (3, .int x3)]) hx hb dX6_append_49 hl (k := 3) rfl (by rw [ex4_9]; rfl) (by decide) rfl (fun ls hl => ?_)
        refine lv_goto (tgt := 19) hx hb dX6_append_52 (by decide) ?_
        exact ih x4_9 g_8 H locs ls hP hS (lv_sub hl [1, 2, 3, 0] rfl) hf
  unfold f_X6_append at hf
  have hH9 : ∀ (H : Heap) (locs : List Loc), H = s.heap → locs = [] → va_P D vwCl (mm_L TC ad cy g) H → va_S (mm_A TC ad) s.heap H locs → W p l e (headSpec wsX6_append (rm_X6_append)).room s m args below meth c H locs 0 0 (MQ below (mm_Qi D TC ad cy r0 g') args s 0 0 (mm_A TC ad)) (F0 m 0 ls []) := by
    intro H locs hH9 hL9 hP hS
    clear hH9 hL9
    refine lv_aload_n hx hb dX6_append_0 rfl (lv_at hl 0 rfl) ?_
    refine mq_geti (Tt := TX6) (N := 3) (C := RX6) hx hb hts hiX6 hown hK hP hp rfl 1 (by decide) rfl hw0 (fun _ h9 => h9) dX6_append_1 ?_
    refine lv_iload_n hx hb dX6_append_4 rfl (lv_at hl 2 rfl) ?_
    refine lv_iadd hx hb dX6_append_5 ?_
    refine lv_bipush (v := 60) hx hb dX6_append_6 (by decide) ?_
    refine lv_icmp_le (tgt := 14) hx hb dX6_append_8 (by decide) (fun c_1 => ?_) (fun c_1 => ?_)
    · replace hf := ite_t c_1 hf
      refine lv_iload_n hx hb dX6_append_14 rfl (lv_at hl 2 rfl) ?_
      refine lv_iconst (v := 1) hx hb dX6_append_15 (by decide) ?_
      refine lv_isub hx hb dX6_append_16 ?_
      obtain ⟨x4_2, ex4_2, hf⟩ := mv_some hf
      refine mq_nm ex4_2 ?_
      refine lv_istore (lv' := [(4, .int x4_2), (0, .ref (ad p0)), (1, .long x1), (3, .int x3)]) hx hb dX6_append_17 hl (by decide) rfl (fun ls hl => ?_)
      exact hc19 FU x4_2 g H locs ls hP hS (lv_sub hl [1, 2, 3, 0] rfl) hf
    · replace hf := ite_f c_1 hf
      refine lv_bipush (v := (-3)) hx hb dX6_append_11 (by decide) ?_
      exact mq_iret hx hb hr rfl hlocks hP hS (pr_1 hf) (pr_2 hf) dX6_append_13
  exact hH9 s.heap [] rfl rfl hP hS
abbrev rm_X6_clear : Room := ({ frames := 0, cells := 0, slots := 0, locals := 0 } : Room)
set_option maxHeartbeats 4000000 in
set_option maxRecDepth 100000 in
theorem c_X6_clear (l : Launch) (D : va_G) (ad : Nat → Nat) (cy : Nat → ClassId) (p0 : Nat) (g : Mm) (hp : TC[p0]? = some sX6) (g' : Mm) (hf : f_X6_clear p0 g = some g') : Met l yX6_clear wsX6_clear rm_X6_clear (va_Pc [.ref (ad p0)] (mm_pre mm_Z D TC ad cy g)) (mm_Qv D TC ad cy g') 0 0 (mm_A TC ad) := by
  refine Met.ofW (cc := cX6_clear) (maxL := 1) (ret := none) (by decide) rfl ?_
  intro p e s m args below meth c s₁ B hml hv
  obtain ⟨hargs, hP, hK, hI, hZ⟩ := hv
  have hx := B.exec
  have hb := B.bytes
  have hr := B.returns
  have hts := atoms_spec (ws := wsX6_clear) B.pre
  have hown : s.vm.findClass RX6 = some m.cls := findClass_of_methodNamed B.named
  have hlocks := B.notSynchronized
  have hw0 := hts (.fieldLink RX6 25 "LeftShoes$Tape" "length" "I") (by decide +kernel)
  have hiX6 : ∀ w ∈ wsX60, w ∈ wsX6_clear := by decide +kernel
  rw [show entryFrame m args 1 = F0 m 0 ((lg_sl ([.ref (ad p0)] : List Value) ++ List.replicate (1 - (lg_sl ([.ref (ad p0)] : List Value)).length) Slot.unset).toArray) [] from by rw [hargs]; exact lg_entry_eq m _ _]
  have hl := lv_entry ([.ref (ad p0)] : List Value) (n := 1) (by exact Nat.le_of_ble_eq_true rfl)
  generalize (lg_sl ([.ref (ad p0)] : List Value) ++ List.replicate (1 - (lg_sl ([.ref (ad p0)] : List Value)).length) Slot.unset).toArray = ls at hl ⊢
  have hl : lv_has ls 1 [(0, .ref (ad p0))] := by exact hl
  have hS : va_S (mm_A TC ad) s.heap s.heap [] := va_S.rf
  clear hargs
  unfold f_X6_clear at hf
  have hH9 : ∀ (H : Heap) (locs : List Loc), H = s.heap → locs = [] → va_P D vwCl (mm_L TC ad cy g) H → va_S (mm_A TC ad) s.heap H locs → W p l e (headSpec wsX6_clear (rm_X6_clear)).room s m args below meth c H locs 0 0 (MQ below (mm_Qv D TC ad cy g') args s 0 0 (mm_A TC ad)) (F0 m 0 ls []) := by
    intro H locs hH9 hL9 hP hS
    clear hH9 hL9
    refine lv_aload_n hx hb dX6_clear_0 rfl (lv_at hl 0 rfl) ?_
    refine lv_iconst (v := 0) hx hb dX6_clear_1 (by decide) ?_
    obtain ⟨g_1, eg_1, hf⟩ := mw_some hf
    refine mq_puti (Tt := TX6) (N := 3) (C := RX6) (ty := .int) hx hb hts hiX6 tyX6 tyX6_ok nmX6 hown hK hI hP hS hp rfl 1 (by decide) rfl hw0 (fun _ h9 => h9) rfl (by decide +kernel) rfl rfl dX6_clear_2 eg_1 (fun H locs hP hS => ?_)
    exact mq_vret hx hb hr hlocks hP hS (Option.some.inj hf) dX6_clear_5
  exact hH9 s.heap [] rfl rfl hP hS
abbrev rm_X6_look : Room := ({ frames := 0, cells := 0, slots := 0, locals := 0 } : Room)
set_option maxHeartbeats 4000000 in
set_option maxRecDepth 100000 in
theorem c_X6_look (l : Launch) (D : va_G) (ad : Nat → Nat) (cy : Nat → ClassId) (p0 : Nat) (g : Mm) (hp : TC[p0]? = some sX6) (r0 : Int32) (g' : Mm) (hf : f_X6_look p0 g = some (r0, g')) : Met l yX6_look wsX6_look rm_X6_look (va_Pc [.ref (ad p0)] (mm_pre mm_Z D TC ad cy g)) (mm_Qi D TC ad cy r0 g') 0 0 (mm_A TC ad) := by
  refine Met.ofW (cc := cX6_look) (maxL := 1) (ret := (some .int)) (by decide) rfl ?_
  intro p e s m args below meth c s₁ B hml hv
  obtain ⟨hargs, hP, hK, hI, hZ⟩ := hv
  have hx := B.exec
  have hb := B.bytes
  have hr := B.returns
  have hts := atoms_spec (ws := wsX6_look) B.pre
  have hown : s.vm.findClass RX6 = some m.cls := findClass_of_methodNamed B.named
  have hlocks := B.notSynchronized
  have hw0 := hts (.fieldLink RX6 29 "LeftShoes$Tape" "at" "I") (by decide +kernel)
  have hiX6 : ∀ w ∈ wsX60, w ∈ wsX6_look := by decide +kernel
  have hw2 := hts (.fieldLink RX6 25 "LeftShoes$Tape" "length" "I") (by decide +kernel)
  have hw3 := hts (.fieldLink RX6 9 "LeftShoes$Tape" "signs" "[I") (by decide +kernel)
  rw [show entryFrame m args 1 = F0 m 0 ((lg_sl ([.ref (ad p0)] : List Value) ++ List.replicate (1 - (lg_sl ([.ref (ad p0)] : List Value)).length) Slot.unset).toArray) [] from by rw [hargs]; exact lg_entry_eq m _ _]
  have hl := lv_entry ([.ref (ad p0)] : List Value) (n := 1) (by exact Nat.le_of_ble_eq_true rfl)
  generalize (lg_sl ([.ref (ad p0)] : List Value) ++ List.replicate (1 - (lg_sl ([.ref (ad p0)] : List Value)).length) Slot.unset).toArray = ls at hl ⊢
  have hl : lv_has ls 1 [(0, .ref (ad p0))] := by exact hl
  have hS : va_S (mm_A TC ad) s.heap s.heap [] := va_S.rf
  clear hargs
  have hc38 : ∀ (g : Mm) (H : Heap) (locs : List Loc) (ls : Array Slot), va_P D vwCl (mm_L TC ad cy g) H → va_S (mm_A TC ad) s.heap H locs → lv_has ls 1 [(0, .ref (ad p0))] → f_X6_look_c38 p0 g = some (r0, g') → W p l e (headSpec wsX6_look (rm_X6_look)).room s m args below meth c H locs 0 0 (MQ below (mm_Qi D TC ad cy r0 g') args s 0 0 (mm_A TC ad)) (F0 m 38 ls []) := by
    intro g H locs ls hP hS hl hf
    unfold f_X6_look_c38 at hf
    refine lv_aload_n hx hb dX6_look_38 rfl (lv_at hl 0 rfl) ?_
    refine mq_geti (Tt := TX6) (N := 3) (C := RX6) hx hb hts hiX6 hown hK hP hp rfl 2 (by decide) rfl hw0 (fun _ h9 => h9) dX6_look_39 ?_
    refine lv_aload_n hx hb dX6_look_42 rfl (lv_at hl 0 rfl) ?_
    refine mq_geti (Tt := TX6) (N := 3) (C := RX6) hx hb hts hiX6 hown hK hP hp rfl 1 (by decide) rfl hw2 (fun _ h9 => h9) dX6_look_43 ?_
    refine lv_icmp_ge (tgt := 61) hx hb dX6_look_46 (by decide) (fun c_2 => ?_) (fun c_2 => ?_)
    · replace hf := ite_t c_2 hf
      refine lv_iconst (v := (-1)) hx hb dX6_look_61 (by decide) ?_
      exact mq_iret hx hb hr rfl hlocks hP hS (pr_1 hf) (pr_2 hf) dX6_look_62
    · replace hf := ite_f c_2 hf
      refine lv_aload_n hx hb dX6_look_49 rfl (lv_at hl 0 rfl) ?_
      refine mq_getr (Tt := TX6) (N := 3) (C := RX6) hx hb hts hiX6 hown hK hP hp rfl 0 1 (by decide) rfl hw3 (fun _ h9 => h9) dX6_look_50 ?_
      refine lv_aload_n hx hb dX6_look_53 rfl (lv_at hl 0 rfl) ?_
      refine mq_geti (Tt := TX6) (N := 3) (C := RX6) hx hb hts hiX6 hown hK hP hp rfl 2 (by decide) rfl hw0 (fun _ h9 => h9) dX6_look_54 ?_
      obtain ⟨h_3, hf⟩ := og_some hf
      refine mq_iald hx hb hK hP (N := 60) (shTC_X6_1 hp) h_3 dX6_look_57 ?_
      refine lv_goto (tgt := 62) hx hb dX6_look_58 (by decide) ?_
      exact mq_iret hx hb hr rfl hlocks hP hS (pr_1 hf) (pr_2 hf) dX6_look_62
  have hc0 : ∀ (n : Nat), ∀ (g : Mm) (H : Heap) (locs : List Loc) (ls : Array Slot), va_P D vwCl (mm_L TC ad cy g) H → va_S (mm_A TC ad) s.heap H locs → lv_has ls 1 [(0, .ref (ad p0))] → f_X6_look_c0 p0 n g = some (r0, g') → W p l e (headSpec wsX6_look (rm_X6_look)).room s m args below meth c H locs 0 0 (MQ below (mm_Qi D TC ad cy r0 g') args s 0 0 (mm_A TC ad)) (F0 m 0 ls []) := by
    intro n
    induction n with
    | zero =>
      intro g H locs ls hP hS hl hf
      rw [f_X6_look_c0] at hf
      cases hf
    | succ n ih =>
      intro g H locs ls hP hS hl hf
      rw [f_X6_look_c0] at hf
      refine lv_aload_n hx hb dX6_look_0 rfl (lv_at hl 0 rfl) ?_
      refine mq_geti (Tt := TX6) (N := 3) (C := RX6) hx hb hts hiX6 hown hK hP hp rfl 2 (by decide) rfl hw0 (fun _ h9 => h9) dX6_look_1 ?_
      refine lv_aload_n hx hb dX6_look_4 rfl (lv_at hl 0 rfl) ?_
      refine mq_geti (Tt := TX6) (N := 3) (C := RX6) hx hb hts hiX6 hown hK hP hp rfl 1 (by decide) rfl hw2 (fun _ h9 => h9) dX6_look_5 ?_
      refine lv_icmp_ge (tgt := 38) hx hb dX6_look_8 (by decide) (fun c_1 => ?_) (fun c_1 => ?_)
      · replace hf := ite_t c_1 hf
        exact hc38 g H locs ls hP hS (lv_sub hl [0] rfl) hf
      · replace hf := ite_f c_1 hf
        refine lv_aload_n hx hb dX6_look_11 rfl (lv_at hl 0 rfl) ?_
        refine mq_getr (Tt := TX6) (N := 3) (C := RX6) hx hb hts hiX6 hown hK hP hp rfl 0 1 (by decide) rfl hw3 (fun _ h9 => h9) dX6_look_12 ?_
        refine lv_aload_n hx hb dX6_look_15 rfl (lv_at hl 0 rfl) ?_
        refine mq_geti (Tt := TX6) (N := 3) (C := RX6) hx hb hts hiX6 hown hK hP hp rfl 2 (by decide) rfl hw0 (fun _ h9 => h9) dX6_look_16 ?_
        obtain ⟨h_4, hf⟩ := og_some hf
        refine mq_iald hx hb hK hP (N := 60) (shTC_X6_1 hp) h_4 dX6_look_19 ?_
        refine lv_bipush (v := 32) hx hb dX6_look_20 (by decide) ?_
        refine lv_icmp_ne (tgt := 38) hx hb dX6_look_22 (by decide) (fun c_5 => ?_) (fun c_5 => ?_)
        · replace hf := ite_f c_5 hf
          exact hc38 g H locs ls hP hS (lv_sub hl [0] rfl) hf
        · replace hf := ite_t c_5 hf
          refine lv_aload_n hx hb dX6_look_25 rfl (lv_at hl 0 rfl) ?_
          refine lv_dup hx hb dX6_look_26 rfl ?_
          refine mq_geti (Tt := TX6) (N := 3) (C := RX6) hx hb hts hiX6 hown hK hP hp rfl 2 (by decide) rfl hw0 (fun _ h9 => h9) dX6_look_27 ?_
          refine lv_iconst (v := 1) hx hb dX6_look_30 (by decide) ?_
          refine lv_iadd hx hb dX6_look_31 ?_
          obtain ⟨g_6, eg_6, hf⟩ := mw_some hf
          refine mq_puti (Tt := TX6) (N := 3) (C := RX6) (ty := .int) hx hb hts hiX6 tyX6 tyX6_ok nmX6 hown hK hI hP hS hp rfl 2 (by decide) rfl hw0 (fun _ h9 => h9) rfl (by decide +kernel) rfl rfl dX6_look_32 eg_6 (fun H locs hP hS => ?_)
          refine lv_goto (tgt := 0) hx hb dX6_look_35 (by decide) ?_
          exact ih g_6 H locs ls hP hS (lv_sub hl [0] rfl) hf
  unfold f_X6_look at hf
  have hH9 : ∀ (H : Heap) (locs : List Loc), H = s.heap → locs = [] → va_P D vwCl (mm_L TC ad cy g) H → va_S (mm_A TC ad) s.heap H locs → W p l e (headSpec wsX6_look (rm_X6_look)).room s m args below meth c H locs 0 0 (MQ below (mm_Qi D TC ad cy r0 g') args s 0 0 (mm_A TC ad)) (F0 m 0 ls []) := by
    intro H locs hH9 hL9 hP hS
    clear hH9 hL9
    exact hc0 FU g H locs ls hP hS (lv_sub hl [0] rfl) hf
  exact hH9 s.heap [] rfl rfl hP hS
abbrev rm_X6_sortOf : Room := ({ frames := 0, cells := 0, slots := 0, locals := 0 } : Room)
set_option maxHeartbeats 4000000 in
set_option maxRecDepth 100000 in
theorem c_X6_sortOf (l : Launch) (D : va_G) (ad : Nat → Nat) (cy : Nat → ClassId) (x0 : Int32) (g : Mm)  (r0 : Int32) (hf : f_X6_sortOf x0 = some r0) : Met l yX6_sortOf wsX6_sortOf rm_X6_sortOf (va_Pc [.int x0] (mm_pre mm_Z D TC ad cy g)) (mm_Qi D TC ad cy r0 g) 0 0 (mm_A TC ad) := by
  refine Met.ofW (cc := cX6_sortOf) (maxL := 1) (ret := (some .int)) (by decide) rfl ?_
  intro p e s m args below meth c s₁ B hml hv
  obtain ⟨hargs, hP, hK, hI, hZ⟩ := hv
  have hx := B.exec
  have hb := B.bytes
  have hr := B.returns
  have hts := atoms_spec (ws := wsX6_sortOf) B.pre
  have hown : s.vm.findClass RX6 = some m.cls := findClass_of_methodNamed B.named
  have hlocks := B.notSynchronized
  rw [show entryFrame m args 1 = F0 m 0 ((lg_sl ([.int x0] : List Value) ++ List.replicate (1 - (lg_sl ([.int x0] : List Value)).length) Slot.unset).toArray) [] from by rw [hargs]; exact lg_entry_eq m _ _]
  have hl := lv_entry ([.int x0] : List Value) (n := 1) (by exact Nat.le_of_ble_eq_true rfl)
  generalize (lg_sl ([.int x0] : List Value) ++ List.replicate (1 - (lg_sl ([.int x0] : List Value)).length) Slot.unset).toArray = ls at hl ⊢
  have hl : lv_has ls 1 [(0, .int x0)] := by exact hl
  have hS : va_S (mm_A TC ad) s.heap s.heap [] := va_S.rf
  clear hargs
  unfold f_X6_sortOf at hf
  have hH9 : ∀ (H : Heap) (locs : List Loc), H = s.heap → locs = [] → va_P D vwCl (mm_L TC ad cy g) H → va_S (mm_A TC ad) s.heap H locs → W p l e (headSpec wsX6_sortOf (rm_X6_sortOf)).room s m args below meth c H locs 0 0 (MQ below (mm_Qi D TC ad cy r0 g) args s 0 0 (mm_A TC ad)) (F0 m 0 ls []) := by
    intro H locs hH9 hL9 hP hS
    clear hH9 hL9
    refine lv_iload_n hx hb dX6_sortOf_0 rfl (lv_at hl 0 rfl) ?_
    by_cases c_1_99 : x0 = 99
    · replace hf := ite_t c_1_99 hf
      refine lv_lookup (off := 47) (tgt := 48) hx hb dX6_sortOf_1 (by decide) (by rw [c_1_99]; decide) (by decide) ?_
      refine lv_iconst (v := 2) hx hb dX6_sortOf_48 (by decide) ?_
      exact mq_iret hx hb hr rfl hlocks hP hS (Option.some.inj hf) rfl dX6_sortOf_49
    · replace hf := ite_f c_1_99 hf
      by_cases c_1_107 : x0 = 107
      · replace hf := ite_t c_1_107 hf
        refine lv_lookup (off := 49) (tgt := 50) hx hb dX6_sortOf_1 (by decide) (by rw [c_1_107]; decide) (by decide) ?_
        refine lv_iconst (v := 3) hx hb dX6_sortOf_50 (by decide) ?_
        exact mq_iret hx hb hr rfl hlocks hP hS (Option.some.inj hf) rfl dX6_sortOf_51
      · replace hf := ite_f c_1_107 hf
        by_cases c_1_112 : x0 = 112
        · replace hf := ite_t c_1_112 hf
          refine lv_lookup (off := 43) (tgt := 44) hx hb dX6_sortOf_1 (by decide) (by rw [c_1_112]; decide) (by decide) ?_
          refine lv_iconst (v := 0) hx hb dX6_sortOf_44 (by decide) ?_
          exact mq_iret hx hb hr rfl hlocks hP hS (Option.some.inj hf) rfl dX6_sortOf_45
        · replace hf := ite_f c_1_112 hf
          by_cases c_1_115 : x0 = 115
          · replace hf := ite_t c_1_115 hf
            refine lv_lookup (off := 45) (tgt := 46) hx hb dX6_sortOf_1 (by decide) (by rw [c_1_115]; decide) (by decide) ?_
            refine lv_iconst (v := 1) hx hb dX6_sortOf_46 (by decide) ?_
            exact mq_iret hx hb hr rfl hlocks hP hS (Option.some.inj hf) rfl dX6_sortOf_47
          · replace hf := ite_f c_1_115 hf
            refine lv_lookup (off := 51) (tgt := 52) hx hb dX6_sortOf_1 (by decide) (by
              have e99 : x0.toInt ≠ 99 := sw_ne (k := 99) c_1_99
              have e107 : x0.toInt ≠ 107 := sw_ne (k := 107) c_1_107
              have e112 : x0.toInt ≠ 112 := sw_ne (k := 112) c_1_112
              have e115 : x0.toInt ≠ 115 := sw_ne (k := 115) c_1_115
              exact sw_look [(99, 47), (107, 49), (112, 43), (115, 45)] (by intro q hq; simp only [List.mem_cons, List.not_mem_nil, or_false] at hq; rcases hq with rfl | rfl | rfl | rfl <;> (intro z; simp only at z; omega))) (by decide) ?_
            refine lv_iconst (v := (-1)) hx hb dX6_sortOf_52 (by decide) ?_
            exact mq_iret hx hb hr rfl hlocks hP hS (Option.some.inj hf) rfl dX6_sortOf_53
  exact hH9 s.heap [] rfl rfl hP hS
abbrev rm_X6_isDigit : Room := ({ frames := 1, cells := 0, slots := 0, locals := 22 } : Room)
set_option maxHeartbeats 4000000 in
set_option maxRecDepth 100000 in
theorem c_X6_isDigit (l : Launch) (D : va_G) (ad : Nat → Nat) (cy : Nat → ClassId) (x0 : Int32) (g : Mm)  (r0 : Int32) (hf : f_X6_isDigit x0 = some r0) : Met l yX6_isDigit wsX6_isDigit rm_X6_isDigit (va_Pc [.int x0] (mm_pre mm_Z D TC ad cy g)) (mm_Qi D TC ad cy r0 g) 0 0 (mm_A TC ad) := by
  refine Met.ofW (cc := cX6_isDigit) (maxL := 1) (ret := (some .boolean)) (by decide) rfl ?_
  intro p e s m args below meth c s₁ B hml hv
  obtain ⟨hargs, hP, hK, hI, hZ⟩ := hv
  have hx := B.exec
  have hb := B.bytes
  have hr := B.returns
  have hts := atoms_spec (ws := wsX6_isDigit) B.pre
  have hown : s.vm.findClass RX6 = some m.cls := findClass_of_methodNamed B.named
  have hlocks := B.notSynchronized
  have hw0 := hts (.initialized RX11) (by decide +kernel)
  have hw1 := hts (.static yX11_isWithin) (by decide +kernel)
  rw [show entryFrame m args 1 = F0 m 0 ((lg_sl ([.int x0] : List Value) ++ List.replicate (1 - (lg_sl ([.int x0] : List Value)).length) Slot.unset).toArray) [] from by rw [hargs]; exact lg_entry_eq m _ _]
  have hl := lv_entry ([.int x0] : List Value) (n := 1) (by exact Nat.le_of_ble_eq_true rfl)
  generalize (lg_sl ([.int x0] : List Value) ++ List.replicate (1 - (lg_sl ([.int x0] : List Value)).length) Slot.unset).toArray = ls at hl ⊢
  have hl : lv_has ls 1 [(0, .int x0)] := by exact hl
  have hS : va_S (mm_A TC ad) s.heap s.heap [] := va_S.rf
  clear hargs
  unfold f_X6_isDigit at hf
  have hH9 : ∀ (H : Heap) (locs : List Loc), H = s.heap → locs = [] → va_P D vwCl (mm_L TC ad cy g) H → va_S (mm_A TC ad) s.heap H locs → W p l e (headSpec wsX6_isDigit (rm_X6_isDigit)).room s m args below meth c H locs 0 0 (MQ below (mm_Qi D TC ad cy r0 g) args s 0 0 (mm_A TC ad)) (F0 m 0 ls []) := by
    intro H locs hH9 hL9 hP hS
    clear hH9 hL9
    refine lv_iload_n hx hb dX6_isDigit_0 rfl (lv_at hl 0 rfl) ?_
    refine lv_bipush (v := 48) hx hb dX6_isDigit_1 (by decide) ?_
    refine lv_bipush (v := 57) hx hb dX6_isDigit_3 (by decide) ?_
    obtain ⟨r_1, hr_2, hf⟩ := op_some hf
    refine mq_calli (va_runSN (As := [.int x0, .int 48, .int 57]) (rest := []) ⟨hx, hb, hml, hown, hts⟩ (c_X11_isWithin l D ad cy x0 48 57 g r_1 hr_2) ⟨va_cnB 3 hts gX6_isDigit_X11_isWithin_n19 rfl rfl rfl hZ.2.2.1 hw0 (by decide +kernel) ⟨Nat.le_of_ble_eq_true rfl, Nat.le_of_ble_eq_true rfl⟩, hw1, trivial⟩ (mq_preS mm_zOkC hK hP hI hZ hS) rfl rfl hl.1 rfl (lv_room (Nat.le_of_ble_eq_true rfl)) dX6_isDigit_5 ⟨Nat.le_refl _, Nat.le_refl _⟩) hS (fun H locs hP hS => ?_)
    obtain ⟨h_3, hf⟩ := og_some hf
    exact mq_iret hx hb hr (mm_01_nar h_3) hlocks hP hS (Option.some.inj hf) rfl dX6_isDigit_8
  exact hH9 s.heap [] rfl rfl hP hS
abbrev rm_X6_readDigit : Room := ({ frames := 2, cells := 0, slots := 0, locals := 42 } : Room)
set_option maxHeartbeats 4000000 in
set_option maxRecDepth 100000 in
theorem c_X6_readDigit (l : Launch) (D : va_G) (ad : Nat → Nat) (cy : Nat → ClassId) (p0 : Nat) (g : Mm) (hp : TC[p0]? = some sX6) (r0 : Int32) (g' : Mm) (hf : f_X6_readDigit p0 g = some (r0, g')) : Met l yX6_readDigit wsX6_readDigit rm_X6_readDigit (va_Pc [.ref (ad p0)] (mm_pre mm_Z D TC ad cy g)) (mm_Qi D TC ad cy r0 g') 0 0 (mm_A TC ad) := by
  refine Met.ofW (cc := cX6_readDigit) (maxL := 2) (ret := (some .int)) (by decide) rfl ?_
  intro p e s m args below meth c s₁ B hml hv
  obtain ⟨hargs, hP, hK, hI, hZ⟩ := hv
  have hx := B.exec
  have hb := B.bytes
  have hr := B.returns
  have hts := atoms_spec (ws := wsX6_readDigit) B.pre
  have hown : s.vm.findClass RX6 = some m.cls := findClass_of_methodNamed B.named
  have hlocks := B.notSynchronized
  have hw0 := hts (.fieldLink RX6 29 "LeftShoes$Tape" "at" "I") (by decide +kernel)
  have hiX6 : ∀ w ∈ wsX60, w ∈ wsX6_readDigit := by decide +kernel
  rw [show entryFrame m args 2 = F0 m 0 ((lg_sl ([.ref (ad p0)] : List Value) ++ List.replicate (2 - (lg_sl ([.ref (ad p0)] : List Value)).length) Slot.unset).toArray) [] from by rw [hargs]; exact lg_entry_eq m _ _]
  have hl := lv_entry ([.ref (ad p0)] : List Value) (n := 2) (by exact Nat.le_of_ble_eq_true rfl)
  generalize (lg_sl ([.ref (ad p0)] : List Value) ++ List.replicate (2 - (lg_sl ([.ref (ad p0)] : List Value)).length) Slot.unset).toArray = ls at hl ⊢
  have hl : lv_has ls 2 [(0, .ref (ad p0))] := by exact hl
  have hS : va_S (mm_A TC ad) s.heap s.heap [] := va_S.rf
  clear hargs
  unfold f_X6_readDigit at hf
  have hH9 : ∀ (H : Heap) (locs : List Loc), H = s.heap → locs = [] → va_P D vwCl (mm_L TC ad cy g) H → va_S (mm_A TC ad) s.heap H locs → W p l e (headSpec wsX6_readDigit (rm_X6_readDigit)).room s m args below meth c H locs 0 0 (MQ below (mm_Qi D TC ad cy r0 g') args s 0 0 (mm_A TC ad)) (F0 m 0 ls []) := by
    intro H locs hH9 hL9 hP hS
    clear hH9 hL9
    refine lv_aload_n hx hb dX6_readDigit_0 rfl (lv_at hl 0 rfl) ?_
    obtain ⟨r_2, g_1, hr_3, hf⟩ := ob_some hf
    refine mq_calli (va_runV (As := []) (rest := []) ⟨hx, hb, hml, hown, hts⟩ (c_X6_look l D ad cy p0 g hp r_2 g_1 hr_3) (cwV 0 hts gX6_readDigit_X6_look rfl rfl rfl (by decide +kernel) ⟨Nat.le_of_ble_eq_true rfl, Nat.le_of_ble_eq_true rfl⟩) (mq_preV (q := (RX6, TX6, 3)) mm_zOkC hK hP hI hZ hS hp rfl) rfl rfl hl.1 rfl (lv_room (Nat.le_of_ble_eq_true rfl)) dX6_readDigit_1 ⟨Nat.le_refl _, Nat.le_refl _⟩) hS (fun H locs hP hS => ?_)
    refine lv_istore_n (lv' := [(1, .int r_2), (0, .ref (ad p0))]) hx hb dX6_readDigit_4 rfl hl (by decide) rfl (fun ls hl => ?_)
    refine lv_iload_n hx hb dX6_readDigit_5 rfl (lv_at hl 0 rfl) ?_
    obtain ⟨r_4, hr_5, hf⟩ := op_some hf
    refine mq_calli (va_runS (As := [.int r_2]) (rest := []) ⟨hx, hb, hml, hown, hts⟩ (c_X6_isDigit l D ad cy r_2 g_1 r_4 hr_5) (va_cwS 1 hts gX6_readDigit_X6_isDigit rfl rfl rfl (by decide +kernel) ⟨Nat.le_of_ble_eq_true rfl, Nat.le_of_ble_eq_true rfl⟩) (mq_preS mm_zOkC hK hP hI hZ hS) rfl rfl hl.1 rfl (lv_room (Nat.le_of_ble_eq_true rfl)) dX6_readDigit_6 ⟨Nat.le_refl _, Nat.le_refl _⟩) hS (fun H locs hP hS => ?_)
    refine lv_if_ne (tgt := 14) hx hb dX6_readDigit_9 (by decide) (fun c_6 => ?_) (fun c_6 => ?_)
    · replace hf := ite_f c_6 hf
      refine lv_aload_n hx hb dX6_readDigit_14 rfl (lv_at hl 1 rfl) ?_
      refine lv_dup hx hb dX6_readDigit_15 rfl ?_
      refine mq_geti (Tt := TX6) (N := 3) (C := RX6) hx hb hts hiX6 hown hK hP hp rfl 2 (by decide) rfl hw0 (fun _ h9 => h9) dX6_readDigit_16 ?_
      refine lv_iconst (v := 1) hx hb dX6_readDigit_19 (by decide) ?_
      refine lv_iadd hx hb dX6_readDigit_20 ?_
      obtain ⟨g_7, eg_7, hf⟩ := mw_some hf
      refine mq_puti (Tt := TX6) (N := 3) (C := RX6) (ty := .int) hx hb hts hiX6 tyX6 tyX6_ok nmX6 hown hK hI hP hS hp rfl 2 (by decide) rfl hw0 (fun _ h9 => h9) rfl (by decide +kernel) rfl rfl dX6_readDigit_21 eg_7 (fun H locs hP hS => ?_)
      refine lv_iload_n hx hb dX6_readDigit_24 rfl (lv_at hl 0 rfl) ?_
      refine lv_bipush (v := 48) hx hb dX6_readDigit_25 (by decide) ?_
      refine lv_isub hx hb dX6_readDigit_27 ?_
      exact mq_iret hx hb hr rfl hlocks hP hS (pr_1 hf) (pr_2 hf) dX6_readDigit_28
    · replace hf := ite_t c_6 hf
      refine lv_iconst (v := (-1)) hx hb dX6_readDigit_12 (by decide) ?_
      exact mq_iret hx hb hr rfl hlocks hP hS (pr_1 hf) (pr_2 hf) dX6_readDigit_13
  exact hH9 s.heap [] rfl rfl hP hS
abbrev rm_X6_readRates : Room := ({ frames := 3, cells := 0, slots := 0, locals := 63 } : Room)
set_option maxHeartbeats 4000000 in
set_option maxRecDepth 100000 in
theorem c_X6_readRates (l : Launch) (D : va_G) (ad : Nat → Nat) (cy : Nat → ClassId) (p0 : Nat) (q1 : Nat) (g : Mm) (hp : TC[p0]? = some sX6) (hq1 : TC[q1]? = some sX7) (r0 : Int32) (g' : Mm) (hf : f_X6_readRates p0 q1 g = some (r0, g')) : Met l yX6_readRates wsX6_readRates rm_X6_readRates (va_Pc [.ref (ad p0), .ref (ad q1)] (mm_pre mm_Z D TC ad cy g)) (mm_Qi D TC ad cy r0 g') 0 0 (mm_A TC ad) := by
  refine Met.ofW (cc := cX6_readRates) (maxL := 6) (ret := (some .int)) (by decide) rfl ?_
  intro p e s m args below meth c s₁ B hml hv
  obtain ⟨hargs, hP, hK, hI, hZ⟩ := hv
  have hx := B.exec
  have hb := B.bytes
  have hr := B.returns
  have hts := atoms_spec (ws := wsX6_readRates) B.pre
  have hown : s.vm.findClass RX6 = some m.cls := findClass_of_methodNamed B.named
  have hlocks := B.notSynchronized
  have hw0 := hts (.fieldLink RX6 29 "LeftShoes$Tape" "at" "I") (by decide +kernel)
  have hiX6 : ∀ w ∈ wsX60, w ∈ wsX6_readRates := by decide +kernel
  have hw2 := hts (.fieldLink RX6 58 "LeftShoes$Tax" "rates" "[I") (by decide +kernel)
  have hiX7 : ∀ w ∈ wsX70, w ∈ wsX6_readRates := by decide +kernel
  rw [show entryFrame m args 6 = F0 m 0 ((lg_sl ([.ref (ad p0), .ref (ad q1)] : List Value) ++ List.replicate (6 - (lg_sl ([.ref (ad p0), .ref (ad q1)] : List Value)).length) Slot.unset).toArray) [] from by rw [hargs]; exact lg_entry_eq m _ _]
  have hl := lv_entry ([.ref (ad p0), .ref (ad q1)] : List Value) (n := 6) (by exact Nat.le_of_ble_eq_true rfl)
  generalize (lg_sl ([.ref (ad p0), .ref (ad q1)] : List Value) ++ List.replicate (6 - (lg_sl ([.ref (ad p0), .ref (ad q1)] : List Value)).length) Slot.unset).toArray = ls at hl ⊢
  have hl : lv_has ls 6 [(0, .ref (ad p0)), (1, .ref (ad q1))] := by exact hl
  have hS : va_S (mm_A TC ad) s.heap s.heap [] := va_S.rf
  clear hargs
  have hc4 : ∀ (n : Nat), ∀ (x2 : Int32) (x3 : Int32) (g : Mm) (H : Heap) (locs : List Loc) (ls : Array Slot), va_P D vwCl (mm_L TC ad cy g) H → va_S (mm_A TC ad) s.heap H locs → lv_has ls 6 [(0, .ref (ad p0)), (1, .ref (ad q1)), (2, .int x2), (3, .int x3)] → f_X6_readRates_c4 p0 q1 n x2 x3 g = some (r0, g') → W p l e (headSpec wsX6_readRates (rm_X6_readRates)).room s m args below meth c H locs 0 0 (MQ below (mm_Qi D TC ad cy r0 g') args s 0 0 (mm_A TC ad)) (F0 m 4 ls []) := by
    intro n
    induction n with
    | zero =>
      intro x2 x3 g H locs ls hP hS hl hf
      rw [f_X6_readRates_c4] at hf
      cases hf
    | succ n ih =>
      intro x2 x3 g H locs ls hP hS hl hf
      rw [f_X6_readRates_c4] at hf
      refine lv_iload_n hx hb dX6_readRates_4 rfl (lv_at hl 3 rfl) ?_
      refine lv_iconst (v := 4) hx hb dX6_readRates_5 (by decide) ?_
      refine lv_icmp_ge (tgt := 80) hx hb dX6_readRates_6 (by decide) (fun c_1 => ?_) (fun c_1 => ?_)
      · replace hf := ite_t c_1 hf
        refine lv_iconst (v := 4) hx hb dX6_readRates_80 (by decide) ?_
        exact mq_iret hx hb hr rfl hlocks hP hS (pr_1 hf) (pr_2 hf) dX6_readRates_81
      · replace hf := ite_f c_1 hf
        refine lv_aload_n hx hb dX6_readRates_9 rfl (lv_at hl 0 rfl) ?_
        obtain ⟨r_3, g_2, hr_4, hf⟩ := ob_some hf
        refine mq_calli (va_runV (As := []) (rest := []) ⟨hx, hb, hml, hown, hts⟩ (c_X6_look l D ad cy p0 g hp r_3 g_2 hr_4) (cwV 0 hts gX6_readRates_X6_look rfl rfl rfl (by decide +kernel) ⟨Nat.le_of_ble_eq_true rfl, Nat.le_of_ble_eq_true rfl⟩) (mq_preV (q := (RX6, TX6, 3)) mm_zOkC hK hP hI hZ hS hp rfl) rfl rfl hl.1 rfl (lv_room (Nat.le_of_ble_eq_true rfl)) dX6_readRates_10 ⟨Nat.le_refl _, Nat.le_refl _⟩) hS (fun H locs hP hS => ?_)
        obtain ⟨r_5, hr_6, hf⟩ := op_some hf
        refine mq_calli (va_runS (As := [.int r_3]) (rest := []) ⟨hx, hb, hml, hown, hts⟩ (c_X6_sortOf l D ad cy r_3 g_2 r_5 hr_6) (va_cwS 1 hts gX6_readRates_X6_sortOf rfl rfl rfl (by decide +kernel) ⟨Nat.le_of_ble_eq_true rfl, Nat.le_of_ble_eq_true rfl⟩) (mq_preS mm_zOkC hK hP hI hZ hS) rfl rfl hl.1 rfl (lv_room (Nat.le_of_ble_eq_true rfl)) dX6_readRates_13 ⟨Nat.le_refl _, Nat.le_refl _⟩) hS (fun H locs hP hS => ?_)
        refine lv_istore (lv' := [(4, .int r_5), (0, .ref (ad p0)), (1, .ref (ad q1)), (2, .int x2), (3, .int x3)]) hx hb dX6_readRates_16 hl (by decide) rfl (fun ls hl => ?_)
        refine lv_iload hx hb dX6_readRates_18 (lv_at hl 0 rfl) ?_
        refine lv_if_lt (tgt := 33) hx hb dX6_readRates_20 (by decide) (fun c_7 => ?_) (fun c_7 => ?_)
        · replace hf := ite_t c_7 hf
          refine lv_iload_n hx hb dX6_readRates_33 rfl (lv_at hl 4 rfl) ?_
          exact mq_iret hx hb hr rfl hlocks hP hS (pr_1 hf) (pr_2 hf) dX6_readRates_34
        · replace hf := ite_f c_7 hf
          refine lv_iload_n hx hb dX6_readRates_23 rfl (lv_at hl 3 rfl) ?_
          refine lv_iload hx hb dX6_readRates_24 (lv_at hl 0 rfl) ?_
          refine lv_ishr hx hb dX6_readRates_26 ?_
          refine lv_iconst (v := 1) hx hb dX6_readRates_27 (by decide) ?_
          refine lv_iand hx hb dX6_readRates_28 ?_
          refine lv_iconst (v := 1) hx hb dX6_readRates_29 (by decide) ?_
          refine lv_icmp_ne (tgt := 35) hx hb dX6_readRates_30 (by decide) (fun c_8 => ?_) (fun c_8 => ?_)
          · replace hf := ite_f c_8 hf
            refine lv_iload_n hx hb dX6_readRates_35 rfl (lv_at hl 3 rfl) ?_
            refine lv_iconst (v := 1) hx hb dX6_readRates_36 (by decide) ?_
            refine lv_iload hx hb dX6_readRates_37 (lv_at hl 0 rfl) ?_
            refine lv_ishl hx hb dX6_readRates_39 ?_
            refine lv_ior hx hb dX6_readRates_40 ?_
            obtain ⟨x2_9, ex2_9, hf⟩ := mv_some hf
            refine mq_nm ex2_9 ?_
            refine lv_istore_n (lv' := [(2, .int x2_9), (4, .int r_5), (0, .ref (ad p0)), (1, .ref (ad q1)), (3, .int x3)]) hx hb dX6_readRates_41 rfl hl (by decide) rfl (fun ls hl => ?_)
            refine lv_aload_n hx hb dX6_readRates_42 rfl (lv_at hl 2 rfl) ?_
            refine lv_dup hx hb dX6_readRates_43 rfl ?_
            refine mq_geti (Tt := TX6) (N := 3) (C := RX6) hx hb hts hiX6 hown hK hP hp rfl 2 (by decide) rfl hw0 (fun _ h9 => h9) dX6_readRates_44 ?_
            refine lv_iconst (v := 1) hx hb dX6_readRates_47 (by decide) ?_
            refine lv_iadd hx hb dX6_readRates_48 ?_
            obtain ⟨g_10, eg_10, hf⟩ := mw_some hf
            refine mq_puti (Tt := TX6) (N := 3) (C := RX6) (ty := .int) hx hb hts hiX6 tyX6 tyX6_ok nmX6 hown hK hI hP hS hp rfl 2 (by decide) rfl hw0 (fun _ h9 => h9) rfl (by decide +kernel) rfl rfl dX6_readRates_49 eg_10 (fun H locs hP hS => ?_)
            refine lv_aload_n hx hb dX6_readRates_52 rfl (lv_at hl 2 rfl) ?_
            obtain ⟨r_12, g_11, hr_13, hf⟩ := ob_some hf
            refine mq_calli (va_runV (As := []) (rest := []) ⟨hx, hb, hml, hown, hts⟩ (c_X6_readDigit l D ad cy p0 g_10 hp r_12 g_11 hr_13) (cwV 0 hts gX6_readRates_X6_readDigit rfl rfl rfl (by decide +kernel) ⟨Nat.le_of_ble_eq_true rfl, Nat.le_of_ble_eq_true rfl⟩) (mq_preV (q := (RX6, TX6, 3)) mm_zOkC hK hP hI hZ hS hp rfl) rfl rfl hl.1 rfl (lv_room (Nat.le_of_ble_eq_true rfl)) dX6_readRates_53 ⟨Nat.le_refl _, Nat.le_refl _⟩) hS (fun H locs hP hS => ?_)
            refine lv_istore (lv' := [(5, .int r_12), (2, .int x2_9), (4, .int r_5), (0, .ref (ad p0)), (1, .ref (ad q1)), (3, .int x3)]) hx hb dX6_readRates_56 hl (by decide) rfl (fun ls hl => ?_)
            refine lv_iload hx hb dX6_readRates_58 (lv_at hl 0 rfl) ?_
            refine lv_if_ge (tgt := 65) hx hb dX6_readRates_60 (by decide) (fun c_14 => ?_) (fun c_14 => ?_)
            · replace hf := ite_t c_14 hf
              refine lv_aload_n hx hb dX6_readRates_65 rfl (lv_at hl 4 rfl) ?_
              refine mq_getr (Tt := TX7) (N := 3) (C := RX7) hx hb hts hiX7 hown hK hP hq1 rfl 0 1 (by decide) rfl hw2 (fun _ h9 => h9) dX6_readRates_66 ?_
              refine lv_iload hx hb dX6_readRates_69 (lv_at hl 2 rfl) ?_
              refine lv_iload hx hb dX6_readRates_71 (lv_at hl 0 rfl) ?_
              obtain ⟨h_15, hf⟩ := og_some hf
              obtain ⟨g_16, eg_16, hf⟩ := mw_some hf
              refine mq_iast hx hb hK hI hP hS (N := 4) (shTC_X7_1 hq1) h_15 dX6_readRates_73 eg_16 (fun H locs hP hS => ?_)
              obtain ⟨x3_17, ex3_17, hf⟩ := mv_some hf
              refine lv_iinc (v := x3_17) (lv' := [(3, .int x3_17), (5, .int r_12), (2, .int x2_9), (4, .int r_5), (0, .ref (ad p0)), (1, .ref (ad q1))]) hx hb dX6_readRates_74 hl (k := 5) rfl (by rw [ex3_17]; rfl) (by decide) rfl (fun ls hl => ?_)
              refine lv_goto (tgt := 4) hx hb dX6_readRates_77 (by decide) ?_
              exact ih x2_9 x3_17 g_16 H locs ls hP hS (lv_sub hl [4, 5, 2, 0] rfl) hf
            · replace hf := ite_f c_14 hf
              refine lv_iconst (v := 0) hx hb dX6_readRates_63 (by decide) ?_
              exact mq_iret hx hb hr rfl hlocks hP hS (pr_1 hf) (pr_2 hf) dX6_readRates_64
          · replace hf := ite_t c_8 hf
            refine lv_iload_n hx hb dX6_readRates_33 rfl (lv_at hl 4 rfl) ?_
            exact mq_iret hx hb hr rfl hlocks hP hS (pr_1 hf) (pr_2 hf) dX6_readRates_34
  unfold f_X6_readRates at hf
  have hH9 : ∀ (H : Heap) (locs : List Loc), H = s.heap → locs = [] → va_P D vwCl (mm_L TC ad cy g) H → va_S (mm_A TC ad) s.heap H locs → W p l e (headSpec wsX6_readRates (rm_X6_readRates)).room s m args below meth c H locs 0 0 (MQ below (mm_Qi D TC ad cy r0 g') args s 0 0 (mm_A TC ad)) (F0 m 0 ls []) := by
    intro H locs hH9 hL9 hP hS
    clear hH9 hL9
    refine lv_iconst (v := 0) hx hb dX6_readRates_0 (by decide) ?_
    refine lv_istore_n (lv' := [(2, .int 0), (0, .ref (ad p0)), (1, .ref (ad q1))]) hx hb dX6_readRates_1 rfl hl (by decide) rfl (fun ls hl => ?_)
    refine lv_iconst (v := 0) hx hb dX6_readRates_2 (by decide) ?_
    refine lv_istore_n (lv' := [(3, .int 0), (2, .int 0), (0, .ref (ad p0)), (1, .ref (ad q1))]) hx hb dX6_readRates_3 rfl hl (by decide) rfl (fun ls hl => ?_)
    exact hc4 FU 0 0 g H locs ls hP hS (lv_sub hl [2, 3, 1, 0] rfl) hf
  exact hH9 s.heap [] rfl rfl hP hS
abbrev rm_X6_readNumber : Room := ({ frames := 2, cells := 0, slots := 0, locals := 60 } : Room)
set_option maxHeartbeats 4000000 in
set_option maxRecDepth 100000 in
theorem c_X6_readNumber (l : Launch) (D : va_G) (ad : Nat → Nat) (cy : Nat → ClassId) (p0 : Nat) (x1 : Int32) (g : Mm) (hp : TC[p0]? = some sX6) (r0 : Int32) (g' : Mm) (hf : f_X6_readNumber p0 x1 g = some (r0, g')) : Met l yX6_readNumber wsX6_readNumber rm_X6_readNumber (va_Pc [.ref (ad p0), .int x1] (mm_pre mm_Z D TC ad cy g)) (mm_Qi D TC ad cy r0 g') 0 0 (mm_A TC ad) := by
  refine Met.ofW (cc := cX6_readNumber) (maxL := 4) (ret := (some .int)) (by decide) rfl ?_
  intro p e s m args below meth c s₁ B hml hv
  obtain ⟨hargs, hP, hK, hI, hZ⟩ := hv
  have hx := B.exec
  have hb := B.bytes
  have hr := B.returns
  have hts := atoms_spec (ws := wsX6_readNumber) B.pre
  have hown : s.vm.findClass RX6 = some m.cls := findClass_of_methodNamed B.named
  have hlocks := B.notSynchronized
  have hw0 := hts (.fieldLink RX6 29 "LeftShoes$Tape" "at" "I") (by decide +kernel)
  have hiX6 : ∀ w ∈ wsX60, w ∈ wsX6_readNumber := by decide +kernel
  have hw2 := hts (.fieldLink RX6 25 "LeftShoes$Tape" "length" "I") (by decide +kernel)
  have hw3 := hts (.fieldLink RX6 9 "LeftShoes$Tape" "signs" "[I") (by decide +kernel)
  have hw4 := hts (.methodLink RX6 80 Lib.Math.min.name) (by decide +kernel)
  have hw5 := hts (.static Lib.Math.min.name) (by decide +kernel)
  have hw6 := hts (.initialized "java/lang/Math") (by decide +kernel)
  have hw7 := hts (.code Lib.Math.min.name Lib.Math.min.code 2 (some .int)) (by decide +kernel)
  rw [show entryFrame m args 4 = F0 m 0 ((lg_sl ([.ref (ad p0), .int x1] : List Value) ++ List.replicate (4 - (lg_sl ([.ref (ad p0), .int x1] : List Value)).length) Slot.unset).toArray) [] from by rw [hargs]; exact lg_entry_eq m _ _]
  have hl := lv_entry ([.ref (ad p0), .int x1] : List Value) (n := 4) (by exact Nat.le_of_ble_eq_true rfl)
  generalize (lg_sl ([.ref (ad p0), .int x1] : List Value) ++ List.replicate (4 - (lg_sl ([.ref (ad p0), .int x1] : List Value)).length) Slot.unset).toArray = ls at hl ⊢
  have hl : lv_has ls 4 [(0, .ref (ad p0)), (1, .int x1)] := by exact hl
  have hS : va_S (mm_A TC ad) s.heap s.heap [] := va_S.rf
  clear hargs
  have hc59 : ∀ (x2 : Int32) (x3 : Int32) (g : Mm) (H : Heap) (locs : List Loc) (ls : Array Slot), va_P D vwCl (mm_L TC ad cy g) H → va_S (mm_A TC ad) s.heap H locs → lv_has ls 4 [(0, .ref (ad p0)), (1, .int x1), (2, .int x2), (3, .int x3)] → f_X6_readNumber_c59 p0 x1 x2 x3 g = some (r0, g') → W p l e (headSpec wsX6_readNumber (rm_X6_readNumber)).room s m args below meth c H locs 0 0 (MQ below (mm_Qi D TC ad cy r0 g') args s 0 0 (mm_A TC ad)) (F0 m 59 ls []) := by
    intro x2 x3 g H locs ls hP hS hl hf
    unfold f_X6_readNumber_c59 at hf
    refine lv_iload_n hx hb dX6_readNumber_59 rfl (lv_at hl 3 rfl) ?_
    refine lv_aload_n hx hb dX6_readNumber_60 rfl (lv_at hl 0 rfl) ?_
    refine mq_geti (Tt := TX6) (N := 3) (C := RX6) hx hb hts hiX6 hown hK hP hp rfl 2 (by decide) rfl hw0 (fun _ h9 => h9) dX6_readNumber_61 ?_
    refine lv_icmp_eq (tgt := 72) hx hb dX6_readNumber_64 (by decide) (fun c_6 => ?_) (fun c_6 => ?_)
    · replace hf := ite_t c_6 hf
      refine lv_iconst (v := (-1)) hx hb dX6_readNumber_72 (by decide) ?_
      exact mq_iret hx hb hr rfl hlocks hP hS (pr_1 hf) (pr_2 hf) dX6_readNumber_73
    · replace hf := ite_f c_6 hf
      refine lv_iload_n hx hb dX6_readNumber_67 rfl (lv_at hl 2 rfl) ?_
      refine lv_iload_n hx hb dX6_readNumber_68 rfl (lv_at hl 1 rfl) ?_
      refine lv_icmp_le (tgt := 74) hx hb dX6_readNumber_69 (by decide) (fun c_7 => ?_) (fun c_7 => ?_)
      · replace hf := ite_t c_7 hf
        refine lv_aload_n hx hb dX6_readNumber_74 rfl (lv_at hl 0 rfl) ?_
        refine lv_iload_n hx hb dX6_readNumber_75 rfl (lv_at hl 3 rfl) ?_
        obtain ⟨g_8, eg_8, hf⟩ := mw_some hf
        refine mq_puti (Tt := TX6) (N := 3) (C := RX6) (ty := .int) hx hb hts hiX6 tyX6 tyX6_ok nmX6 hown hK hI hP hS hp rfl 2 (by decide) rfl hw0 (fun _ h9 => h9) rfl (by decide +kernel) rfl rfl dX6_readNumber_76 eg_8 (fun H locs hP hS => ?_)
        refine lv_iload_n hx hb dX6_readNumber_79 rfl (lv_at hl 2 rfl) ?_
        exact mq_iret hx hb hr rfl hlocks hP hS (pr_1 hf) (pr_2 hf) dX6_readNumber_80
      · replace hf := ite_f c_7 hf
        refine lv_iconst (v := (-1)) hx hb dX6_readNumber_72 (by decide) ?_
        exact mq_iret hx hb hr rfl hlocks hP hS (pr_1 hf) (pr_2 hf) dX6_readNumber_73
  have hc12 : ∀ (n : Nat), ∀ (x2 : Int32) (x3 : Int32) (g : Mm) (H : Heap) (locs : List Loc) (ls : Array Slot), va_P D vwCl (mm_L TC ad cy g) H → va_S (mm_A TC ad) s.heap H locs → lv_has ls 4 [(0, .ref (ad p0)), (1, .int x1), (2, .int x2), (3, .int x3)] → f_X6_readNumber_c12 p0 x1 n x2 x3 g = some (r0, g') → W p l e (headSpec wsX6_readNumber (rm_X6_readNumber)).room s m args below meth c H locs 0 0 (MQ below (mm_Qi D TC ad cy r0 g') args s 0 0 (mm_A TC ad)) (F0 m 12 ls []) := by
    intro n
    induction n with
    | zero =>
      intro x2 x3 g H locs ls hP hS hl hf
      rw [f_X6_readNumber_c12] at hf
      cases hf
    | succ n ih =>
      intro x2 x3 g H locs ls hP hS hl hf
      rw [f_X6_readNumber_c12] at hf
      refine lv_iload_n hx hb dX6_readNumber_12 rfl (lv_at hl 3 rfl) ?_
      refine lv_aload_n hx hb dX6_readNumber_13 rfl (lv_at hl 0 rfl) ?_
      refine mq_geti (Tt := TX6) (N := 3) (C := RX6) hx hb hts hiX6 hown hK hP hp rfl 1 (by decide) rfl hw2 (fun _ h9 => h9) dX6_readNumber_14 ?_
      refine lv_icmp_ge (tgt := 59) hx hb dX6_readNumber_17 (by decide) (fun c_5 => ?_) (fun c_5 => ?_)
      · replace hf := ite_t c_5 hf
        exact hc59 x2 x3 g H locs ls hP hS (lv_sub hl [0, 1, 2, 3] rfl) hf
      · replace hf := ite_f c_5 hf
        refine lv_aload_n hx hb dX6_readNumber_20 rfl (lv_at hl 0 rfl) ?_
        refine mq_getr (Tt := TX6) (N := 3) (C := RX6) hx hb hts hiX6 hown hK hP hp rfl 0 1 (by decide) rfl hw3 (fun _ h9 => h9) dX6_readNumber_21 ?_
        refine lv_iload_n hx hb dX6_readNumber_24 rfl (lv_at hl 3 rfl) ?_
        obtain ⟨h_9, hf⟩ := og_some hf
        refine mq_iald hx hb hK hP (N := 60) (shTC_X6_1 hp) h_9 dX6_readNumber_25 ?_
        obtain ⟨r_10, hr_11, hf⟩ := op_some hf
        refine mq_calli (va_runS (As := [.int (g (p0 + 1) x3.toNatClampNeg)]) (rest := []) ⟨hx, hb, hml, hown, hts⟩ (c_X6_isDigit l D ad cy (g (p0 + 1) x3.toNatClampNeg) g r_10 hr_11) (va_cwS 1 hts gX6_readNumber_X6_isDigit rfl rfl rfl (by decide +kernel) ⟨Nat.le_of_ble_eq_true rfl, Nat.le_of_ble_eq_true rfl⟩) (mq_preS mm_zOkC hK hP hI hZ hS) rfl rfl hl.1 rfl (lv_room (Nat.le_of_ble_eq_true rfl)) dX6_readNumber_26 ⟨Nat.le_refl _, Nat.le_refl _⟩) hS (fun H locs hP hS => ?_)
        refine lv_if_eq (tgt := 59) hx hb dX6_readNumber_29 (by decide) (fun c_12 => ?_) (fun c_12 => ?_)
        · replace hf := ite_t c_12 hf
          exact hc59 x2 x3 g H locs ls hP hS (lv_sub hl [0, 1, 2, 3] rfl) hf
        · replace hf := ite_f c_12 hf
          refine lv_bipush (v := 10) hx hb dX6_readNumber_32 (by decide) ?_
          refine lv_iload_n hx hb dX6_readNumber_34 rfl (lv_at hl 2 rfl) ?_
          refine lv_imul hx hb dX6_readNumber_35 ?_
          refine lv_aload_n hx hb dX6_readNumber_36 rfl (lv_at hl 0 rfl) ?_
          refine mq_getr (Tt := TX6) (N := 3) (C := RX6) hx hb hts hiX6 hown hK hP hp rfl 0 1 (by decide) rfl hw3 (fun _ h9 => h9) dX6_readNumber_37 ?_
          refine lv_iload_n hx hb dX6_readNumber_40 rfl (lv_at hl 3 rfl) ?_
          obtain ⟨h_13, hf⟩ := og_some hf
          refine mq_iald hx hb hK hP (N := 60) (shTC_X6_1 hp) h_13 dX6_readNumber_41 ?_
          refine lv_iadd hx hb dX6_readNumber_42 ?_
          refine lv_bipush (v := 48) hx hb dX6_readNumber_43 (by decide) ?_
          refine lv_isub hx hb dX6_readNumber_45 ?_
          refine lv_iload_n hx hb dX6_readNumber_46 rfl (lv_at hl 1 rfl) ?_
          refine lv_iconst (v := 1) hx hb dX6_readNumber_47 (by decide) ?_
          refine lv_iadd hx hb dX6_readNumber_48 ?_
          refine va_mmin hx hb (hml.trans hl.1.symm) hown hw4 hw5 hw6 hw7 (Nat.le_of_ble_eq_true rfl) (Nat.le_of_ble_eq_true rfl) (Nat.le_refl _) (Nat.le_refl _) dX6_readNumber_49 ?_
          obtain ⟨x2_14, ex2_14, hf⟩ := mv_some hf
          refine mq_nm ex2_14 ?_
          refine lv_istore_n (lv' := [(2, .int x2_14), (0, .ref (ad p0)), (1, .int x1), (3, .int x3)]) hx hb dX6_readNumber_52 rfl hl (by decide) rfl (fun ls hl => ?_)
          obtain ⟨x3_15, ex3_15, hf⟩ := mv_some hf
          refine lv_iinc (v := x3_15) (lv' := [(3, .int x3_15), (2, .int x2_14), (0, .ref (ad p0)), (1, .int x1)]) hx hb dX6_readNumber_53 hl (k := 3) rfl (by rw [ex3_15]; rfl) (by decide) rfl (fun ls hl => ?_)
          refine lv_goto (tgt := 12) hx hb dX6_readNumber_56 (by decide) ?_
          exact ih x2_14 x3_15 g H locs ls hP hS (lv_sub hl [2, 3, 1, 0] rfl) hf
  unfold f_X6_readNumber at hf
  have hH9 : ∀ (H : Heap) (locs : List Loc), H = s.heap → locs = [] → va_P D vwCl (mm_L TC ad cy g) H → va_S (mm_A TC ad) s.heap H locs → W p l e (headSpec wsX6_readNumber (rm_X6_readNumber)).room s m args below meth c H locs 0 0 (MQ below (mm_Qi D TC ad cy r0 g') args s 0 0 (mm_A TC ad)) (F0 m 0 ls []) := by
    intro H locs hH9 hL9 hP hS
    clear hH9 hL9
    refine lv_aload_n hx hb dX6_readNumber_0 rfl (lv_at hl 0 rfl) ?_
    obtain ⟨r_2, g_1, hr_3, hf⟩ := ob_some hf
    refine mq_calli (va_runV (As := []) (rest := []) ⟨hx, hb, hml, hown, hts⟩ (c_X6_look l D ad cy p0 g hp r_2 g_1 hr_3) (cwV 0 hts gX6_readNumber_X6_look rfl rfl rfl (by decide +kernel) ⟨Nat.le_of_ble_eq_true rfl, Nat.le_of_ble_eq_true rfl⟩) (mq_preV (q := (RX6, TX6, 3)) mm_zOkC hK hP hI hZ hS hp rfl) rfl rfl hl.1 rfl (lv_room (Nat.le_of_ble_eq_true rfl)) dX6_readNumber_1 ⟨Nat.le_refl _, Nat.le_refl _⟩) hS (fun H locs hP hS => ?_)
    refine lv_pop hx hb dX6_readNumber_4 rfl ?_
    refine lv_iconst (v := 0) hx hb dX6_readNumber_5 (by decide) ?_
    refine lv_istore_n (lv' := [(2, .int 0), (0, .ref (ad p0)), (1, .int x1)]) hx hb dX6_readNumber_6 rfl hl (by decide) rfl (fun ls hl => ?_)
    refine lv_aload_n hx hb dX6_readNumber_7 rfl (lv_at hl 1 rfl) ?_
    refine mq_geti (Tt := TX6) (N := 3) (C := RX6) hx hb hts hiX6 hown hK hP hp rfl 2 (by decide) rfl hw0 (fun _ h9 => h9) dX6_readNumber_8 ?_
    obtain ⟨x3_4, ex3_4, hf⟩ := mv_some hf
    refine mq_nm ex3_4 ?_
    refine lv_istore_n (lv' := [(3, .int x3_4), (2, .int 0), (0, .ref (ad p0)), (1, .int x1)]) hx hb dX6_readNumber_11 rfl hl (by decide) rfl (fun ls hl => ?_)
    exact hc12 FU 0 x3_4 g_1 H locs ls hP hS (lv_sub hl [2, 3, 1, 0] rfl) hf
  exact hH9 s.heap [] rfl rfl hP hS
abbrev rm_X6_readTax : Room := ({ frames := 4, cells := 0, slots := 0, locals := 88 } : Room)
set_option maxHeartbeats 4000000 in
set_option maxRecDepth 100000 in
theorem c_X6_readTax (l : Launch) (D : va_G) (ad : Nat → Nat) (cy : Nat → ClassId) (p0 : Nat) (q1 : Nat) (g : Mm) (hp : TC[p0]? = some sX6) (hq1 : TC[q1]? = some sX7) (r0 : Int32) (g' : Mm) (hf : f_X6_readTax p0 q1 g = some (r0, g')) : Met l yX6_readTax wsX6_readTax rm_X6_readTax (va_Pc [.ref (ad p0), .ref (ad q1)] (mm_pre mm_Z D TC ad cy g)) (mm_Qi D TC ad cy r0 g') 0 0 (mm_A TC ad) := by
  refine Met.ofW (cc := cX6_readTax) (maxL := 4) (ret := (some .int)) (by decide) rfl ?_
  intro p e s m args below meth c s₁ B hml hv
  obtain ⟨hargs, hP, hK, hI, hZ⟩ := hv
  have hx := B.exec
  have hb := B.bytes
  have hr := B.returns
  have hts := atoms_spec (ws := wsX6_readTax) B.pre
  have hown : s.vm.findClass RX6 = some m.cls := findClass_of_methodNamed B.named
  have hlocks := B.notSynchronized
  have hw0 := hts (.fieldLink RX6 29 "LeftShoes$Tape" "at" "I") (by decide +kernel)
  have hiX6 : ∀ w ∈ wsX60, w ∈ wsX6_readTax := by decide +kernel
  have hw2 := hts (.fieldLink RX6 36 "LeftShoes$Tax" "foot" "I") (by decide +kernel)
  have hiX7 : ∀ w ∈ wsX70, w ∈ wsX6_readTax := by decide +kernel
  have hw4 := hts (.fieldLink RX6 49 "LeftShoes$Tax" "fine" "I") (by decide +kernel)
  rw [show entryFrame m args 4 = F0 m 0 ((lg_sl ([.ref (ad p0), .ref (ad q1)] : List Value) ++ List.replicate (4 - (lg_sl ([.ref (ad p0), .ref (ad q1)] : List Value)).length) Slot.unset).toArray) [] from by rw [hargs]; exact lg_entry_eq m _ _]
  have hl := lv_entry ([.ref (ad p0), .ref (ad q1)] : List Value) (n := 4) (by exact Nat.le_of_ble_eq_true rfl)
  generalize (lg_sl ([.ref (ad p0), .ref (ad q1)] : List Value) ++ List.replicate (4 - (lg_sl ([.ref (ad p0), .ref (ad q1)] : List Value)).length) Slot.unset).toArray = ls at hl ⊢
  have hl : lv_has ls 4 [(0, .ref (ad p0)), (1, .ref (ad q1))] := by exact hl
  have hS : va_S (mm_A TC ad) s.heap s.heap [] := va_S.rf
  clear hargs
  have hc109 : ∀ (x3 : Int32) (g : Mm) (H : Heap) (locs : List Loc) (ls : Array Slot), va_P D vwCl (mm_L TC ad cy g) H → va_S (mm_A TC ad) s.heap H locs → lv_has ls 4 [(0, .ref (ad p0)), (1, .ref (ad q1)), (3, .int x3)] → f_X6_readTax_c109 p0 x3 g = some (r0, g') → W p l e (headSpec wsX6_readTax (rm_X6_readTax)).room s m args below meth c H locs 0 0 (MQ below (mm_Qi D TC ad cy r0 g') args s 0 0 (mm_A TC ad)) (F0 m 109 ls []) := by
    intro x3 g H locs ls hP hS hl hf
    unfold f_X6_readTax_c109 at hf
    refine lv_aload_n hx hb dX6_readTax_109 rfl (lv_at hl 0 rfl) ?_
    obtain ⟨r_18, g_17, hr_19, hf⟩ := ob_some hf
    refine mq_calli (va_runV (As := []) (rest := []) ⟨hx, hb, hml, hown, hts⟩ (c_X6_look l D ad cy p0 g hp r_18 g_17 hr_19) (cwV 0 hts gX6_readTax_X6_look rfl rfl rfl (by decide +kernel) ⟨Nat.le_of_ble_eq_true rfl, Nat.le_of_ble_eq_true rfl⟩) (mq_preV (q := (RX6, TX6, 3)) mm_zOkC hK hP hI hZ hS hp rfl) rfl rfl hl.1 rfl (lv_room (Nat.le_of_ble_eq_true rfl)) dX6_readTax_110 ⟨Nat.le_refl _, Nat.le_refl _⟩) hS (fun H locs hP hS => ?_)
    refine lv_iconst (v := (-1)) hx hb dX6_readTax_113 (by decide) ?_
    refine lv_icmp_ne (tgt := 121) hx hb dX6_readTax_114 (by decide) (fun c_20 => ?_) (fun c_20 => ?_)
    · replace hf := ite_f c_20 hf
      refine lv_bipush (v := (-20)) hx hb dX6_readTax_121 (by decide) ?_
      refine lv_aload_n hx hb dX6_readTax_123 rfl (lv_at hl 0 rfl) ?_
      refine mq_geti (Tt := TX6) (N := 3) (C := RX6) hx hb hts hiX6 hown hK hP hp rfl 2 (by decide) rfl hw0 (fun _ h9 => h9) dX6_readTax_124 ?_
      refine lv_isub hx hb dX6_readTax_127 ?_
      exact mq_iret hx hb hr rfl hlocks hP hS (pr_1 hf) (pr_2 hf) dX6_readTax_128
    · replace hf := ite_t c_20 hf
      refine lv_iload_n hx hb dX6_readTax_117 rfl (lv_at hl 2 rfl) ?_
      refine lv_goto (tgt := 128) hx hb dX6_readTax_118 (by decide) ?_
      exact mq_iret hx hb hr rfl hlocks hP hS (pr_1 hf) (pr_2 hf) dX6_readTax_128
  have hc47 : ∀ (g : Mm) (H : Heap) (locs : List Loc) (ls : Array Slot), va_P D vwCl (mm_L TC ad cy g) H → va_S (mm_A TC ad) s.heap H locs → lv_has ls 4 [(0, .ref (ad p0)), (1, .ref (ad q1))] → f_X6_readTax_c47 p0 q1 g = some (r0, g') → W p l e (headSpec wsX6_readTax (rm_X6_readTax)).room s m args below meth c H locs 0 0 (MQ below (mm_Qi D TC ad cy r0 g') args s 0 0 (mm_A TC ad)) (F0 m 47 ls []) := by
    intro g H locs ls hP hS hl hf
    unfold f_X6_readTax_c47 at hf
    refine lv_aload_n hx hb dX6_readTax_47 rfl (lv_at hl 0 rfl) ?_
    refine lv_aload_n hx hb dX6_readTax_48 rfl (lv_at hl 1 rfl) ?_
    obtain ⟨r_10, g_9, hr_11, hf⟩ := ob_some hf
    refine mq_calli (va_runV (As := [.ref (ad q1)]) (rest := []) ⟨hx, hb, hml, hown, hts⟩ (c_X6_readRates l D ad cy p0 q1 g hp hq1 r_10 g_9 hr_11) (cwV 1 hts gX6_readTax_X6_readRates rfl rfl rfl (by decide +kernel) ⟨Nat.le_of_ble_eq_true rfl, Nat.le_of_ble_eq_true rfl⟩) (mq_preV (q := (RX6, TX6, 3)) mm_zOkC hK hP hI hZ hS hp rfl) rfl rfl hl.1 rfl (lv_room (Nat.le_of_ble_eq_true rfl)) dX6_readTax_49 ⟨Nat.le_refl _, Nat.le_refl _⟩) hS (fun H locs hP hS => ?_)
    refine lv_istore_n (lv' := [(3, .int r_10), (0, .ref (ad p0)), (1, .ref (ad q1))]) hx hb dX6_readTax_52 rfl hl (by decide) rfl (fun ls hl => ?_)
    refine lv_iload_n hx hb dX6_readTax_53 rfl (lv_at hl 0 rfl) ?_
    refine lv_if_ne (tgt := 65) hx hb dX6_readTax_54 (by decide) (fun c_12 => ?_) (fun c_12 => ?_)
    · replace hf := ite_f c_12 hf
      refine lv_aload_n hx hb dX6_readTax_65 rfl (lv_at hl 1 rfl) ?_
      obtain ⟨r_14, g_13, hr_15, hf⟩ := ob_some hf
      refine mq_calli (va_runV (As := []) (rest := []) ⟨hx, hb, hml, hown, hts⟩ (c_X6_look l D ad cy p0 g_9 hp r_14 g_13 hr_15) (cwV 0 hts gX6_readTax_X6_look rfl rfl rfl (by decide +kernel) ⟨Nat.le_of_ble_eq_true rfl, Nat.le_of_ble_eq_true rfl⟩) (mq_preV (q := (RX6, TX6, 3)) mm_zOkC hK hP hI hZ hS hp rfl) rfl rfl hl.1 rfl (lv_room (Nat.le_of_ble_eq_true rfl)) dX6_readTax_66 ⟨Nat.le_refl _, Nat.le_refl _⟩) hS (fun H locs hP hS => ?_)
      refine lv_bipush (v := 102) hx hb dX6_readTax_69 (by decide) ?_
      refine lv_icmp_ne (tgt := 109) hx hb dX6_readTax_71 (by decide) (fun c_16 => ?_) (fun c_16 => ?_)
      · replace hf := ite_f c_16 hf
        exact hc109 r_10 g_13 H locs ls hP hS (lv_sub hl [1, 2, 0] rfl) hf
      · replace hf := ite_t c_16 hf
        refine lv_aload_n hx hb dX6_readTax_74 rfl (lv_at hl 1 rfl) ?_
        refine lv_dup hx hb dX6_readTax_75 rfl ?_
        refine mq_geti (Tt := TX6) (N := 3) (C := RX6) hx hb hts hiX6 hown hK hP hp rfl 2 (by decide) rfl hw0 (fun _ h9 => h9) dX6_readTax_76 ?_
        refine lv_iconst (v := 1) hx hb dX6_readTax_79 (by decide) ?_
        refine lv_iadd hx hb dX6_readTax_80 ?_
        obtain ⟨g_21, eg_21, hf⟩ := mw_some hf
        refine mq_puti (Tt := TX6) (N := 3) (C := RX6) (ty := .int) hx hb hts hiX6 tyX6 tyX6_ok nmX6 hown hK hI hP hS hp rfl 2 (by decide) rfl hw0 (fun _ h9 => h9) rfl (by decide +kernel) rfl rfl dX6_readTax_81 eg_21 (fun H locs hP hS => ?_)
        refine lv_aload_n hx hb dX6_readTax_84 rfl (lv_at hl 2 rfl) ?_
        refine lv_aload_n hx hb dX6_readTax_85 rfl (lv_at hl 1 rfl) ?_
        refine lv_bipush (v := 99) hx hb dX6_readTax_86 (by decide) ?_
        obtain ⟨r_23, g_22, hr_24, hf⟩ := ob_some hf
        refine mq_calli (va_runV (As := [.int 99]) (rest := [.ref (ad q1)]) ⟨hx, hb, hml, hown, hts⟩ (c_X6_readNumber l D ad cy p0 99 g_21 hp r_23 g_22 hr_24) (cwV 1 hts gX6_readTax_X6_readNumber rfl rfl rfl (by decide +kernel) ⟨Nat.le_of_ble_eq_true rfl, Nat.le_of_ble_eq_true rfl⟩) (mq_preV (q := (RX6, TX6, 3)) mm_zOkC hK hP hI hZ hS hp rfl) rfl rfl hl.1 rfl (lv_room (Nat.le_of_ble_eq_true rfl)) dX6_readTax_88 ⟨Nat.le_refl _, Nat.le_refl _⟩) hS (fun H locs hP hS => ?_)
        obtain ⟨g_25, eg_25, hf⟩ := mw_some hf
        refine mq_puti (Tt := TX7) (N := 3) (C := RX7) (ty := .int) hx hb hts hiX7 tyX7 tyX7_ok nmX7 hown hK hI hP hS hq1 rfl 1 (by decide) rfl hw4 (fun _ h9 => h9) rfl (by decide +kernel) rfl rfl dX6_readTax_91 eg_25 (fun H locs hP hS => ?_)
        refine lv_aload_n hx hb dX6_readTax_94 rfl (lv_at hl 2 rfl) ?_
        refine mq_geti (Tt := TX7) (N := 3) (C := RX7) hx hb hts hiX7 hown hK hP hq1 rfl 1 (by decide) rfl hw4 (fun _ h9 => h9) dX6_readTax_95 ?_
        refine lv_if_ge (tgt := 109) hx hb dX6_readTax_98 (by decide) (fun c_26 => ?_) (fun c_26 => ?_)
        · replace hf := ite_t c_26 hf
          exact hc109 r_10 g_25 H locs ls hP hS (lv_sub hl [1, 2, 0] rfl) hf
        · replace hf := ite_f c_26 hf
          refine lv_bipush (v := (-20)) hx hb dX6_readTax_101 (by decide) ?_
          refine lv_aload_n hx hb dX6_readTax_103 rfl (lv_at hl 1 rfl) ?_
          refine mq_geti (Tt := TX6) (N := 3) (C := RX6) hx hb hts hiX6 hown hK hP hp rfl 2 (by decide) rfl hw0 (fun _ h9 => h9) dX6_readTax_104 ?_
          refine lv_isub hx hb dX6_readTax_107 ?_
          exact mq_iret hx hb hr rfl hlocks hP hS (pr_1 hf) (pr_2 hf) dX6_readTax_108
    · replace hf := ite_t c_12 hf
      refine lv_bipush (v := (-20)) hx hb dX6_readTax_57 (by decide) ?_
      refine lv_aload_n hx hb dX6_readTax_59 rfl (lv_at hl 1 rfl) ?_
      refine mq_geti (Tt := TX6) (N := 3) (C := RX6) hx hb hts hiX6 hown hK hP hp rfl 2 (by decide) rfl hw0 (fun _ h9 => h9) dX6_readTax_60 ?_
      refine lv_isub hx hb dX6_readTax_63 ?_
      exact mq_iret hx hb hr rfl hlocks hP hS (pr_1 hf) (pr_2 hf) dX6_readTax_64
  have hc34 : ∀ (sq0 : Nat) (sx1 : Int32) (g : Mm) (H : Heap) (locs : List Loc) (ls : Array Slot), TC[sq0]? = some sX7 → va_P D vwCl (mm_L TC ad cy g) H → va_S (mm_A TC ad) s.heap H locs → lv_has ls 4 [(0, .ref (ad p0)), (1, .ref (ad q1))] → f_X6_readTax_c34 p0 q1 sq0 sx1 g = some (r0, g') → W p l e (headSpec wsX6_readTax (rm_X6_readTax)).room s m args below meth c H locs 0 0 (MQ below (mm_Qi D TC ad cy r0 g') args s 0 0 (mm_A TC ad)) (F0 m 34 ls [.int sx1, .ref (ad sq0)]) := by
    intro sq0 sx1 g H locs ls hsq0 hP hS hl hf
    unfold f_X6_readTax_c34 at hf
    obtain ⟨g_7, eg_7, hf⟩ := mw_some hf
    refine mq_puti (Tt := TX7) (N := 3) (C := RX7) (ty := .int) hx hb hts hiX7 tyX7 tyX7_ok nmX7 hown hK hI hP hS hsq0 rfl 2 (by decide) rfl hw2 (fun _ h9 => h9) rfl (by decide +kernel) rfl rfl dX6_readTax_34 eg_7 (fun H locs hP hS => ?_)
    refine lv_aload_n hx hb dX6_readTax_37 rfl (lv_at hl 0 rfl) ?_
    refine lv_dup hx hb dX6_readTax_38 rfl ?_
    refine mq_geti (Tt := TX6) (N := 3) (C := RX6) hx hb hts hiX6 hown hK hP hp rfl 2 (by decide) rfl hw0 (fun _ h9 => h9) dX6_readTax_39 ?_
    refine lv_iconst (v := 1) hx hb dX6_readTax_42 (by decide) ?_
    refine lv_iadd hx hb dX6_readTax_43 ?_
    obtain ⟨g_8, eg_8, hf⟩ := mw_some hf
    refine mq_puti (Tt := TX6) (N := 3) (C := RX6) (ty := .int) hx hb hts hiX6 tyX6 tyX6_ok nmX6 hown hK hI hP hS hp rfl 2 (by decide) rfl hw0 (fun _ h9 => h9) rfl (by decide +kernel) rfl rfl dX6_readTax_44 eg_8 (fun H locs hP hS => ?_)
    exact hc47 g_8 H locs ls hP hS (lv_sub hl [0, 1] rfl) hf
  have hc22 : ∀ (x2 : Int32) (g : Mm) (H : Heap) (locs : List Loc) (ls : Array Slot), va_P D vwCl (mm_L TC ad cy g) H → va_S (mm_A TC ad) s.heap H locs → lv_has ls 4 [(0, .ref (ad p0)), (1, .ref (ad q1)), (2, .int x2)] → f_X6_readTax_c22 p0 q1 x2 g = some (r0, g') → W p l e (headSpec wsX6_readTax (rm_X6_readTax)).room s m args below meth c H locs 0 0 (MQ below (mm_Qi D TC ad cy r0 g') args s 0 0 (mm_A TC ad)) (F0 m 22 ls []) := by
    intro x2 g H locs ls hP hS hl hf
    unfold f_X6_readTax_c22 at hf
    refine lv_aload_n hx hb dX6_readTax_22 rfl (lv_at hl 1 rfl) ?_
    refine lv_iload_n hx hb dX6_readTax_23 rfl (lv_at hl 2 rfl) ?_
    refine lv_bipush (v := 108) hx hb dX6_readTax_24 (by decide) ?_
    refine lv_icmp_ne (tgt := 33) hx hb dX6_readTax_26 (by decide) (fun c_6 => ?_) (fun c_6 => ?_)
    · replace hf := ite_f c_6 hf
      refine lv_iconst (v := 1) hx hb dX6_readTax_33 (by decide) ?_
      exact hc34 q1 1 g H locs ls hq1 hP hS (lv_sub hl [0, 1] rfl) hf
    · replace hf := ite_t c_6 hf
      refine lv_iconst (v := 0) hx hb dX6_readTax_29 (by decide) ?_
      refine lv_goto (tgt := 34) hx hb dX6_readTax_30 (by decide) ?_
      exact hc34 q1 0 g H locs ls hq1 hP hS (lv_sub hl [0, 1] rfl) hf
  unfold f_X6_readTax at hf
  have hH9 : ∀ (H : Heap) (locs : List Loc), H = s.heap → locs = [] → va_P D vwCl (mm_L TC ad cy g) H → va_S (mm_A TC ad) s.heap H locs → W p l e (headSpec wsX6_readTax (rm_X6_readTax)).room s m args below meth c H locs 0 0 (MQ below (mm_Qi D TC ad cy r0 g') args s 0 0 (mm_A TC ad)) (F0 m 0 ls []) := by
    intro H locs hH9 hL9 hP hS
    clear hH9 hL9
    refine lv_aload_n hx hb dX6_readTax_0 rfl (lv_at hl 0 rfl) ?_
    refine lv_iconst (v := 0) hx hb dX6_readTax_1 (by decide) ?_
    obtain ⟨g_1, eg_1, hf⟩ := mw_some hf
    refine mq_puti (Tt := TX6) (N := 3) (C := RX6) (ty := .int) hx hb hts hiX6 tyX6 tyX6_ok nmX6 hown hK hI hP hS hp rfl 2 (by decide) rfl hw0 (fun _ h9 => h9) rfl (by decide +kernel) rfl rfl dX6_readTax_2 eg_1 (fun H locs hP hS => ?_)
    refine lv_aload_n hx hb dX6_readTax_5 rfl (lv_at hl 0 rfl) ?_
    obtain ⟨r_3, g_2, hr_4, hf⟩ := ob_some hf
    refine mq_calli (va_runV (As := []) (rest := []) ⟨hx, hb, hml, hown, hts⟩ (c_X6_look l D ad cy p0 g_1 hp r_3 g_2 hr_4) (cwV 0 hts gX6_readTax_X6_look rfl rfl rfl (by decide +kernel) ⟨Nat.le_of_ble_eq_true rfl, Nat.le_of_ble_eq_true rfl⟩) (mq_preV (q := (RX6, TX6, 3)) mm_zOkC hK hP hI hZ hS hp rfl) rfl rfl hl.1 rfl (lv_room (Nat.le_of_ble_eq_true rfl)) dX6_readTax_6 ⟨Nat.le_refl _, Nat.le_refl _⟩) hS (fun H locs hP hS => ?_)
    refine lv_istore_n (lv' := [(2, .int r_3), (0, .ref (ad p0)), (1, .ref (ad q1))]) hx hb dX6_readTax_9 rfl hl (by decide) rfl (fun ls hl => ?_)
    refine lv_iload_n hx hb dX6_readTax_10 rfl (lv_at hl 0 rfl) ?_
    refine lv_bipush (v := 108) hx hb dX6_readTax_11 (by decide) ?_
    refine lv_icmp_eq (tgt := 22) hx hb dX6_readTax_13 (by decide) (fun c_5 => ?_) (fun c_5 => ?_)
    · replace hf := ite_t c_5 hf
      exact hc22 r_3 g_2 H locs ls hP hS (lv_sub hl [1, 2, 0] rfl) hf
    · replace hf := ite_f c_5 hf
      refine lv_iload_n hx hb dX6_readTax_16 rfl (lv_at hl 0 rfl) ?_
      refine lv_bipush (v := 114) hx hb dX6_readTax_17 (by decide) ?_
      refine lv_icmp_ne (tgt := 47) hx hb dX6_readTax_19 (by decide) (fun c_27 => ?_) (fun c_27 => ?_)
      · replace hf := ite_f c_27 hf
        exact hc47 g_2 H locs ls hP hS (lv_sub hl [1, 2] rfl) hf
      · replace hf := ite_t c_27 hf
        exact hc22 r_3 g_2 H locs ls hP hS (lv_sub hl [1, 2, 0] rfl) hf
  exact hH9 s.heap [] rfl rfl hP hS
