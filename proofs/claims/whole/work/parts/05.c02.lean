abbrev rm_X6_readMile : Room := ({ frames := 3, cells := 0, slots := 0, locals := 83 } : Room)
set_option maxHeartbeats 4000000 in
set_option maxRecDepth 100000 in
theorem c_X6_readMile (l : Launch) (D : va_G) (ad : Nat → Nat) (cy : Nat → ClassId) (p0 : Nat) (q1 : Nat) (x2 : Int32) (g : Mm) (hp : TC[p0]? = some sX6) (hq1 : TC[q1]? = some sX3) (r0 : Int32) (g' : Mm) (hf : f_X6_readMile p0 q1 x2 g = some (r0, g')) : Met l yX6_readMile wsX6_readMile rm_X6_readMile (va_Pc [.ref (ad p0), .ref (ad q1), .int x2] (mm_pre mm_Z D TC ad cy g)) (mm_Qi D TC ad cy r0 g') 0 0 (mm_A TC ad) := by
  refine Met.ofW (cc := cX6_readMile) (maxL := 3) (ret := (some .boolean)) (by decide) rfl ?_
  intro p e s m args below meth c s₁ B hml hv
  obtain ⟨hargs, hP, hK, hI, hZ⟩ := hv
  have hx := B.exec
  have hb := B.bytes
  have hr := B.returns
  have hts := atoms_spec (ws := wsX6_readMile) B.pre
  have hown : s.vm.findClass RX6 = some m.cls := findClass_of_methodNamed B.named
  have hlocks := B.notSynchronized
  have hw0 := hts (.fieldLink RX6 70 "LeftShoes$Road" "mud" "[I") (by decide +kernel)
  have hiX3 : ∀ w ∈ wsX30, w ∈ wsX6_readMile := by decide +kernel
  have hw2 := hts (.fieldLink RX6 73 "LeftShoes$Road" "watched" "[I") (by decide +kernel)
  have hw3 := hts (.fieldLink RX6 29 "LeftShoes$Tape" "at" "I") (by decide +kernel)
  have hiX6 : ∀ w ∈ wsX60, w ∈ wsX6_readMile := by decide +kernel
  rw [show entryFrame m args 3 = F0 m 0 ((lg_sl ([.ref (ad p0), .ref (ad q1), .int x2] : List Value) ++ List.replicate (3 - (lg_sl ([.ref (ad p0), .ref (ad q1), .int x2] : List Value)).length) Slot.unset).toArray) [] from by rw [hargs]; exact lg_entry_eq m _ _]
  have hl := lv_entry ([.ref (ad p0), .ref (ad q1), .int x2] : List Value) (n := 3) (by exact Nat.le_of_ble_eq_true rfl)
  generalize (lg_sl ([.ref (ad p0), .ref (ad q1), .int x2] : List Value) ++ List.replicate (3 - (lg_sl ([.ref (ad p0), .ref (ad q1), .int x2] : List Value)).length) Slot.unset).toArray = ls at hl ⊢
  have hl : lv_has ls 3 [(0, .ref (ad p0)), (1, .ref (ad q1)), (2, .int x2)] := by exact hl
  have hS : va_S (mm_A TC ad) s.heap s.heap [] := va_S.rf
  clear hargs
  have hc59 : ∀ (g : Mm) (H : Heap) (locs : List Loc) (ls : Array Slot), va_P D vwCl (mm_L TC ad cy g) H → va_S (mm_A TC ad) s.heap H locs → lv_has ls 3 [(0, .ref (ad p0)), (1, .ref (ad q1)), (2, .int x2)] → f_X6_readMile_c59 p0 q1 x2 g = some (r0, g') → W p l e (headSpec wsX6_readMile (rm_X6_readMile)).room s m args below meth c H locs 0 0 (MQ below (mm_Qi D TC ad cy r0 g') args s 0 0 (mm_A TC ad)) (F0 m 59 ls []) := by
    intro g H locs ls hP hS hl hf
    unfold f_X6_readMile_c59 at hf
    refine lv_aload_n hx hb dX6_readMile_59 rfl (lv_at hl 1 rfl) ?_
    refine mq_getr (Tt := TX3) (N := 2) (C := RX3) hx hb hts hiX3 hown hK hP hq1 rfl 1 2 (by decide) rfl hw2 (fun _ h9 => h9) dX6_readMile_60 ?_
    refine lv_iload_n hx hb dX6_readMile_63 rfl (lv_at hl 2 rfl) ?_
    obtain ⟨h_14, hf⟩ := og_some hf
    refine mq_iald hx hb hK hP (N := 9) (shTC_X3_2 hq1) h_14 dX6_readMile_64 ?_
    refine lv_if_lt (tgt := 72) hx hb dX6_readMile_65 (by decide) (fun c_15 => ?_) (fun c_15 => ?_)
    · replace hf := ite_t c_15 hf
      refine lv_iconst (v := 0) hx hb dX6_readMile_72 (by decide) ?_
      exact mq_iret hx hb hr (by decide +kernel) hlocks hP hS (pr_1 hf) (pr_2 hf) dX6_readMile_73
    · replace hf := ite_f c_15 hf
      refine lv_iconst (v := 1) hx hb dX6_readMile_68 (by decide) ?_
      refine lv_goto (tgt := 73) hx hb dX6_readMile_69 (by decide) ?_
      exact mq_iret hx hb hr (by decide +kernel) hlocks hP hS (pr_1 hf) (pr_2 hf) dX6_readMile_73
  unfold f_X6_readMile at hf
  have hH9 : ∀ (H : Heap) (locs : List Loc), H = s.heap → locs = [] → va_P D vwCl (mm_L TC ad cy g) H → va_S (mm_A TC ad) s.heap H locs → W p l e (headSpec wsX6_readMile (rm_X6_readMile)).room s m args below meth c H locs 0 0 (MQ below (mm_Qi D TC ad cy r0 g') args s 0 0 (mm_A TC ad)) (F0 m 0 ls []) := by
    intro H locs hH9 hL9 hP hS
    clear hH9 hL9
    refine lv_aload_n hx hb dX6_readMile_0 rfl (lv_at hl 1 rfl) ?_
    refine mq_getr (Tt := TX3) (N := 2) (C := RX3) hx hb hts hiX3 hown hK hP hq1 rfl 0 1 (by decide) rfl hw0 (fun _ h9 => h9) dX6_readMile_1 ?_
    refine lv_iload_n hx hb dX6_readMile_4 rfl (lv_at hl 2 rfl) ?_
    refine lv_aload_n hx hb dX6_readMile_5 rfl (lv_at hl 0 rfl) ?_
    obtain ⟨r_2, g_1, hr_3, hf⟩ := ob_some hf
    refine mq_calli (va_runV (As := []) (rest := [.int x2, .ref (ad (q1 + 1))]) ⟨hx, hb, hml, hown, hts⟩ (c_X6_readDigit l D ad cy p0 g hp r_2 g_1 hr_3) (cwV 0 hts gX6_readMile_X6_readDigit rfl rfl rfl (by decide +kernel) ⟨Nat.le_of_ble_eq_true rfl, Nat.le_of_ble_eq_true rfl⟩) (mq_preV (q := (RX6, TX6, 3)) mm_zOkC hK hP hI hZ hS hp rfl) rfl rfl hl.1 rfl (lv_room (Nat.le_of_ble_eq_true rfl)) dX6_readMile_6 ⟨Nat.le_refl _, Nat.le_refl _⟩) hS (fun H locs hP hS => ?_)
    obtain ⟨h_4, hf⟩ := og_some hf
    obtain ⟨g_5, eg_5, hf⟩ := mw_some hf
    refine mq_iast hx hb hK hI hP hS (N := 9) (shTC_X3_1 hq1) h_4 dX6_readMile_9 eg_5 (fun H locs hP hS => ?_)
    refine lv_aload_n hx hb dX6_readMile_10 rfl (lv_at hl 1 rfl) ?_
    refine mq_getr (Tt := TX3) (N := 2) (C := RX3) hx hb hts hiX3 hown hK hP hq1 rfl 1 2 (by decide) rfl hw2 (fun _ h9 => h9) dX6_readMile_11 ?_
    refine lv_iload_n hx hb dX6_readMile_14 rfl (lv_at hl 2 rfl) ?_
    refine lv_iconst (v := 0) hx hb dX6_readMile_15 (by decide) ?_
    obtain ⟨h_6, hf⟩ := og_some hf
    obtain ⟨g_7, eg_7, hf⟩ := mw_some hf
    refine mq_iast hx hb hK hI hP hS (N := 9) (shTC_X3_2 hq1) h_6 dX6_readMile_16 eg_7 (fun H locs hP hS => ?_)
    refine lv_aload_n hx hb dX6_readMile_17 rfl (lv_at hl 1 rfl) ?_
    refine mq_getr (Tt := TX3) (N := 2) (C := RX3) hx hb hts hiX3 hown hK hP hq1 rfl 0 1 (by decide) rfl hw0 (fun _ h9 => h9) dX6_readMile_18 ?_
    refine lv_iload_n hx hb dX6_readMile_21 rfl (lv_at hl 2 rfl) ?_
    obtain ⟨h_8, hf⟩ := og_some hf
    refine mq_iald hx hb hK hP (N := 9) (shTC_X3_1 hq1) h_8 dX6_readMile_22 ?_
    refine lv_if_ge (tgt := 28) hx hb dX6_readMile_23 (by decide) (fun c_9 => ?_) (fun c_9 => ?_)
    · replace hf := ite_t c_9 hf
      refine lv_aload_n hx hb dX6_readMile_28 rfl (lv_at hl 0 rfl) ?_
      obtain ⟨r_11, g_10, hr_12, hf⟩ := ob_some hf
      refine mq_calli (va_runV (As := []) (rest := []) ⟨hx, hb, hml, hown, hts⟩ (c_X6_look l D ad cy p0 g_7 hp r_11 g_10 hr_12) (cwV 0 hts gX6_readMile_X6_look rfl rfl rfl (by decide +kernel) ⟨Nat.le_of_ble_eq_true rfl, Nat.le_of_ble_eq_true rfl⟩) (mq_preV (q := (RX6, TX6, 3)) mm_zOkC hK hP hI hZ hS hp rfl) rfl rfl hl.1 rfl (lv_room (Nat.le_of_ble_eq_true rfl)) dX6_readMile_29 ⟨Nat.le_refl _, Nat.le_refl _⟩) hS (fun H locs hP hS => ?_)
      refine lv_bipush (v := 119) hx hb dX6_readMile_32 (by decide) ?_
      refine lv_icmp_ne (tgt := 59) hx hb dX6_readMile_34 (by decide) (fun c_13 => ?_) (fun c_13 => ?_)
      · replace hf := ite_f c_13 hf
        exact hc59 g_10 H locs ls hP hS (lv_sub hl [0, 1, 2] rfl) hf
      · replace hf := ite_t c_13 hf
        refine lv_aload_n hx hb dX6_readMile_37 rfl (lv_at hl 0 rfl) ?_
        refine lv_dup hx hb dX6_readMile_38 rfl ?_
        refine mq_geti (Tt := TX6) (N := 3) (C := RX6) hx hb hts hiX6 hown hK hP hp rfl 2 (by decide) rfl hw3 (fun _ h9 => h9) dX6_readMile_39 ?_
        refine lv_iconst (v := 1) hx hb dX6_readMile_42 (by decide) ?_
        refine lv_iadd hx hb dX6_readMile_43 ?_
        obtain ⟨g_16, eg_16, hf⟩ := mw_some hf
        refine mq_puti (Tt := TX6) (N := 3) (C := RX6) (ty := .int) hx hb hts hiX6 tyX6 tyX6_ok nmX6 hown hK hI hP hS hp rfl 2 (by decide) rfl hw3 (fun _ h9 => h9) rfl (by decide +kernel) rfl rfl dX6_readMile_44 eg_16 (fun H locs hP hS => ?_)
        refine lv_aload_n hx hb dX6_readMile_47 rfl (lv_at hl 1 rfl) ?_
        refine mq_getr (Tt := TX3) (N := 2) (C := RX3) hx hb hts hiX3 hown hK hP hq1 rfl 1 2 (by decide) rfl hw2 (fun _ h9 => h9) dX6_readMile_48 ?_
        refine lv_iload_n hx hb dX6_readMile_51 rfl (lv_at hl 2 rfl) ?_
        refine lv_aload_n hx hb dX6_readMile_52 rfl (lv_at hl 0 rfl) ?_
        refine lv_bipush (v := 16) hx hb dX6_readMile_53 (by decide) ?_
        obtain ⟨r_18, g_17, hr_19, hf⟩ := ob_some hf
        refine mq_calli (va_runV (As := [.int 16]) (rest := [.int x2, .ref (ad (q1 + 2))]) ⟨hx, hb, hml, hown, hts⟩ (c_X6_readNumber l D ad cy p0 16 g_16 hp r_18 g_17 hr_19) (cwV 1 hts gX6_readMile_X6_readNumber rfl rfl rfl (by decide +kernel) ⟨Nat.le_of_ble_eq_true rfl, Nat.le_of_ble_eq_true rfl⟩) (mq_preV (q := (RX6, TX6, 3)) mm_zOkC hK hP hI hZ hS hp rfl) rfl rfl hl.1 rfl (lv_room (Nat.le_of_ble_eq_true rfl)) dX6_readMile_55 ⟨Nat.le_refl _, Nat.le_refl _⟩) hS (fun H locs hP hS => ?_)
        obtain ⟨h_20, hf⟩ := og_some hf
        obtain ⟨g_21, eg_21, hf⟩ := mw_some hf
        refine mq_iast hx hb hK hI hP hS (N := 9) (shTC_X3_2 hq1) h_20 dX6_readMile_58 eg_21 (fun H locs hP hS => ?_)
        exact hc59 g_21 H locs ls hP hS (lv_sub hl [0, 1, 2] rfl) hf
    · replace hf := ite_f c_9 hf
      refine lv_iconst (v := 0) hx hb dX6_readMile_26 (by decide) ?_
      exact mq_iret hx hb hr (by decide +kernel) hlocks hP hS (pr_1 hf) (pr_2 hf) dX6_readMile_27
  exact hH9 s.heap [] rfl rfl hP hS
abbrev rm_X6_readRoad : Room := ({ frames := 4, cells := 0, slots := 0, locals := 105 } : Room)
set_option maxHeartbeats 4000000 in
set_option maxRecDepth 100000 in
theorem c_X6_readRoad (l : Launch) (D : va_G) (ad : Nat → Nat) (cy : Nat → ClassId) (p0 : Nat) (q1 : Nat) (g : Mm) (hp : TC[p0]? = some sX6) (hq1 : TC[q1]? = some sX3) (r0 : Int32) (g' : Mm) (hf : f_X6_readRoad p0 q1 g = some (r0, g')) : Met l yX6_readRoad wsX6_readRoad rm_X6_readRoad (va_Pc [.ref (ad p0), .ref (ad q1)] (mm_pre mm_Z D TC ad cy g)) (mm_Qi D TC ad cy r0 g') 0 0 (mm_A TC ad) := by
  refine Met.ofW (cc := cX6_readRoad) (maxL := 3) (ret := (some .int)) (by decide) rfl ?_
  intro p e s m args below meth c s₁ B hml hv
  obtain ⟨hargs, hP, hK, hI, hZ⟩ := hv
  have hx := B.exec
  have hb := B.bytes
  have hr := B.returns
  have hts := atoms_spec (ws := wsX6_readRoad) B.pre
  have hown : s.vm.findClass RX6 = some m.cls := findClass_of_methodNamed B.named
  have hlocks := B.notSynchronized
  have hw0 := hts (.fieldLink RX6 29 "LeftShoes$Tape" "at" "I") (by decide +kernel)
  have hiX6 : ∀ w ∈ wsX60, w ∈ wsX6_readRoad := by decide +kernel
  rw [show entryFrame m args 3 = F0 m 0 ((lg_sl ([.ref (ad p0), .ref (ad q1)] : List Value) ++ List.replicate (3 - (lg_sl ([.ref (ad p0), .ref (ad q1)] : List Value)).length) Slot.unset).toArray) [] from by rw [hargs]; exact lg_entry_eq m _ _]
  have hl := lv_entry ([.ref (ad p0), .ref (ad q1)] : List Value) (n := 3) (by exact Nat.le_of_ble_eq_true rfl)
  generalize (lg_sl ([.ref (ad p0), .ref (ad q1)] : List Value) ++ List.replicate (3 - (lg_sl ([.ref (ad p0), .ref (ad q1)] : List Value)).length) Slot.unset).toArray = ls at hl ⊢
  have hl : lv_has ls 3 [(0, .ref (ad p0)), (1, .ref (ad q1))] := by exact hl
  have hS : va_S (mm_A TC ad) s.heap s.heap [] := va_S.rf
  clear hargs
  have hc44 : ∀ (K_7 : Int32 → Mm → Option (Int32 × Mm)), (∀ (x2 : Int32) (g : Mm) (H : Heap) (locs : List Loc) (ls : Array Slot), va_P D vwCl (mm_L TC ad cy g) H → va_S (mm_A TC ad) s.heap H locs → lv_has ls 3 [(0, .ref (ad p0)), (1, .ref (ad q1)), (2, .int x2)] → K_7 x2 g = some (r0, g') → W p l e (headSpec wsX6_readRoad (rm_X6_readRoad)).room s m args below meth c H locs 0 0 (MQ below (mm_Qi D TC ad cy r0 g') args s 0 0 (mm_A TC ad)) (F0 m 7 ls [])) → ∀ (x2 : Int32) (g : Mm) (H : Heap) (locs : List Loc) (ls : Array Slot), va_P D vwCl (mm_L TC ad cy g) H → va_S (mm_A TC ad) s.heap H locs → lv_has ls 3 [(0, .ref (ad p0)), (1, .ref (ad q1)), (2, .int x2)] → f_X6_readRoad_c44 K_7 p0 q1 x2 g = some (r0, g') → W p l e (headSpec wsX6_readRoad (rm_X6_readRoad)).room s m args below meth c H locs 0 0 (MQ below (mm_Qi D TC ad cy r0 g') args s 0 0 (mm_A TC ad)) (F0 m 44 ls []) := by
    intro K_7 hK_7 x2 g H locs ls hP hS hl hf
    unfold f_X6_readRoad_c44 at hf
    refine lv_aload_n hx hb dX6_readRoad_44 rfl (lv_at hl 0 rfl) ?_
    refine lv_aload_n hx hb dX6_readRoad_45 rfl (lv_at hl 1 rfl) ?_
    refine lv_iload_n hx hb dX6_readRoad_46 rfl (lv_at hl 2 rfl) ?_
    obtain ⟨r_11, g_10, hr_12, hf⟩ := ob_some hf
    refine mq_calli (va_runV (As := [.ref (ad q1), .int x2]) (rest := []) ⟨hx, hb, hml, hown, hts⟩ (c_X6_readMile l D ad cy p0 q1 x2 g hp hq1 r_11 g_10 hr_12) (cwV 2 hts gX6_readRoad_X6_readMile rfl rfl rfl (by decide +kernel) ⟨Nat.le_of_ble_eq_true rfl, Nat.le_of_ble_eq_true rfl⟩) (mq_preV (q := (RX6, TX6, 3)) mm_zOkC hK hP hI hZ hS hp rfl) rfl rfl hl.1 rfl (lv_room (Nat.le_of_ble_eq_true rfl)) dX6_readRoad_47 ⟨Nat.le_refl _, Nat.le_refl _⟩) hS (fun H locs hP hS => ?_)
    refine lv_if_ne (tgt := 61) hx hb dX6_readRoad_50 (by decide) (fun c_13 => ?_) (fun c_13 => ?_)
    · replace hf := ite_f c_13 hf
      obtain ⟨x2_14, ex2_14, hf⟩ := mv_some hf
      refine lv_iinc (v := x2_14) (lv' := [(2, .int x2_14), (0, .ref (ad p0)), (1, .ref (ad q1))]) hx hb dX6_readRoad_61 hl (k := 2) rfl (by rw [ex2_14]; rfl) (by decide) rfl (fun ls hl => ?_)
      refine lv_goto (tgt := 7) hx hb dX6_readRoad_64 (by decide) ?_
      exact hK_7 x2_14 g_10 H locs ls hP hS (lv_sub hl [1, 2, 0] rfl) hf
    · replace hf := ite_t c_13 hf
      refine lv_bipush (v := (-20)) hx hb dX6_readRoad_53 (by decide) ?_
      refine lv_aload_n hx hb dX6_readRoad_55 rfl (lv_at hl 0 rfl) ?_
      refine mq_geti (Tt := TX6) (N := 3) (C := RX6) hx hb hts hiX6 hown hK hP hp rfl 2 (by decide) rfl hw0 (fun _ h9 => h9) dX6_readRoad_56 ?_
      refine lv_isub hx hb dX6_readRoad_59 ?_
      exact mq_iret hx hb hr rfl hlocks hP hS (pr_1 hf) (pr_2 hf) dX6_readRoad_60
  have hc7 : ∀ (n : Nat), ∀ (x2 : Int32) (g : Mm) (H : Heap) (locs : List Loc) (ls : Array Slot), va_P D vwCl (mm_L TC ad cy g) H → va_S (mm_A TC ad) s.heap H locs → lv_has ls 3 [(0, .ref (ad p0)), (1, .ref (ad q1)), (2, .int x2)] → f_X6_readRoad_c7 p0 q1 n x2 g = some (r0, g') → W p l e (headSpec wsX6_readRoad (rm_X6_readRoad)).room s m args below meth c H locs 0 0 (MQ below (mm_Qi D TC ad cy r0 g') args s 0 0 (mm_A TC ad)) (F0 m 7 ls []) := by
    intro n
    induction n with
    | zero =>
      intro x2 g H locs ls hP hS hl hf
      rw [f_X6_readRoad_c7] at hf
      cases hf
    | succ n ih =>
      intro x2 g H locs ls hP hS hl hf
      rw [f_X6_readRoad_c7] at hf
      refine lv_iload_n hx hb dX6_readRoad_7 rfl (lv_at hl 2 rfl) ?_
      refine lv_bipush (v := 9) hx hb dX6_readRoad_8 (by decide) ?_
      refine lv_icmp_ge (tgt := 67) hx hb dX6_readRoad_10 (by decide) (fun c_2 => ?_) (fun c_2 => ?_)
      · replace hf := ite_t c_2 hf
        refine lv_aload_n hx hb dX6_readRoad_67 rfl (lv_at hl 0 rfl) ?_
        obtain ⟨r_4, g_3, hr_5, hf⟩ := ob_some hf
        refine mq_calli (va_runV (As := []) (rest := []) ⟨hx, hb, hml, hown, hts⟩ (c_X6_look l D ad cy p0 g hp r_4 g_3 hr_5) (cwV 0 hts gX6_readRoad_X6_look rfl rfl rfl (by decide +kernel) ⟨Nat.le_of_ble_eq_true rfl, Nat.le_of_ble_eq_true rfl⟩) (mq_preV (q := (RX6, TX6, 3)) mm_zOkC hK hP hI hZ hS hp rfl) rfl rfl hl.1 rfl (lv_room (Nat.le_of_ble_eq_true rfl)) dX6_readRoad_68 ⟨Nat.le_refl _, Nat.le_refl _⟩) hS (fun H locs hP hS => ?_)
        refine lv_iconst (v := (-1)) hx hb dX6_readRoad_71 (by decide) ?_
        refine lv_icmp_ne (tgt := 82) hx hb dX6_readRoad_72 (by decide) (fun c_6 => ?_) (fun c_6 => ?_)
        · replace hf := ite_f c_6 hf
          refine lv_bipush (v := (-20)) hx hb dX6_readRoad_82 (by decide) ?_
          refine lv_aload_n hx hb dX6_readRoad_84 rfl (lv_at hl 0 rfl) ?_
          refine mq_geti (Tt := TX6) (N := 3) (C := RX6) hx hb hts hiX6 hown hK hP hp rfl 2 (by decide) rfl hw0 (fun _ h9 => h9) dX6_readRoad_85 ?_
          refine lv_isub hx hb dX6_readRoad_88 ?_
          exact mq_iret hx hb hr rfl hlocks hP hS (pr_1 hf) (pr_2 hf) dX6_readRoad_89
        · replace hf := ite_t c_6 hf
          refine lv_aload_n hx hb dX6_readRoad_75 rfl (lv_at hl 1 rfl) ?_
          obtain ⟨r_7, hr_8, hf⟩ := op_some hf
          refine mq_calli (va_runV (As := []) (rest := []) ⟨hx, hb, hml, hown, hts⟩ (c_X3_allMud l D ad cy q1 g_3 hq1 r_7 hr_8) (cwV 0 hts gX6_readRoad_X3_allMud rfl rfl rfl (by decide +kernel) ⟨Nat.le_of_ble_eq_true rfl, Nat.le_of_ble_eq_true rfl⟩) (mq_preV (q := (RX3, TX3, 2)) mm_zOkC hK hP hI hZ hS hq1 rfl) rfl rfl hl.1 rfl (lv_room (Nat.le_of_ble_eq_true rfl)) dX6_readRoad_76 ⟨Nat.le_refl _, Nat.le_refl _⟩) hS (fun H locs hP hS => ?_)
          refine lv_goto (tgt := 89) hx hb dX6_readRoad_79 (by decide) ?_
          exact mq_iret hx hb hr rfl hlocks hP hS (pr_1 hf) (pr_2 hf) dX6_readRoad_89
      · replace hf := ite_f c_2 hf
        refine lv_iload_n hx hb dX6_readRoad_13 rfl (lv_at hl 2 rfl) ?_
        refine lv_if_le (tgt := 44) hx hb dX6_readRoad_14 (by decide) (fun c_9 => ?_) (fun c_9 => ?_)
        · replace hf := ite_t c_9 hf
          exact hc44 (f_X6_readRoad_c7 p0 q1 n) ih x2 g H locs ls hP hS (lv_sub hl [0, 1, 2] rfl) hf
        · replace hf := ite_f c_9 hf
          refine lv_aload_n hx hb dX6_readRoad_17 rfl (lv_at hl 0 rfl) ?_
          obtain ⟨r_16, g_15, hr_17, hf⟩ := ob_some hf
          refine mq_calli (va_runV (As := []) (rest := []) ⟨hx, hb, hml, hown, hts⟩ (c_X6_look l D ad cy p0 g hp r_16 g_15 hr_17) (cwV 0 hts gX6_readRoad_X6_look rfl rfl rfl (by decide +kernel) ⟨Nat.le_of_ble_eq_true rfl, Nat.le_of_ble_eq_true rfl⟩) (mq_preV (q := (RX6, TX6, 3)) mm_zOkC hK hP hI hZ hS hp rfl) rfl rfl hl.1 rfl (lv_room (Nat.le_of_ble_eq_true rfl)) dX6_readRoad_18 ⟨Nat.le_refl _, Nat.le_refl _⟩) hS (fun H locs hP hS => ?_)
          refine lv_bipush (v := 44) hx hb dX6_readRoad_21 (by decide) ?_
          refine lv_icmp_eq (tgt := 34) hx hb dX6_readRoad_23 (by decide) (fun c_18 => ?_) (fun c_18 => ?_)
          · replace hf := ite_t c_18 hf
            refine lv_aload_n hx hb dX6_readRoad_34 rfl (lv_at hl 0 rfl) ?_
            refine lv_dup hx hb dX6_readRoad_35 rfl ?_
            refine mq_geti (Tt := TX6) (N := 3) (C := RX6) hx hb hts hiX6 hown hK hP hp rfl 2 (by decide) rfl hw0 (fun _ h9 => h9) dX6_readRoad_36 ?_
            refine lv_iconst (v := 1) hx hb dX6_readRoad_39 (by decide) ?_
            refine lv_iadd hx hb dX6_readRoad_40 ?_
            obtain ⟨g_19, eg_19, hf⟩ := mw_some hf
            refine mq_puti (Tt := TX6) (N := 3) (C := RX6) (ty := .int) hx hb hts hiX6 tyX6 tyX6_ok nmX6 hown hK hI hP hS hp rfl 2 (by decide) rfl hw0 (fun _ h9 => h9) rfl (by decide +kernel) rfl rfl dX6_readRoad_41 eg_19 (fun H locs hP hS => ?_)
            exact hc44 (f_X6_readRoad_c7 p0 q1 n) ih x2 g_19 H locs ls hP hS (lv_sub hl [0, 1, 2] rfl) hf
          · replace hf := ite_f c_18 hf
            refine lv_bipush (v := (-20)) hx hb dX6_readRoad_26 (by decide) ?_
            refine lv_aload_n hx hb dX6_readRoad_28 rfl (lv_at hl 0 rfl) ?_
            refine mq_geti (Tt := TX6) (N := 3) (C := RX6) hx hb hts hiX6 hown hK hP hp rfl 2 (by decide) rfl hw0 (fun _ h9 => h9) dX6_readRoad_29 ?_
            refine lv_isub hx hb dX6_readRoad_32 ?_
            exact mq_iret hx hb hr rfl hlocks hP hS (pr_1 hf) (pr_2 hf) dX6_readRoad_33
  unfold f_X6_readRoad at hf
  have hH9 : ∀ (H : Heap) (locs : List Loc), H = s.heap → locs = [] → va_P D vwCl (mm_L TC ad cy g) H → va_S (mm_A TC ad) s.heap H locs → W p l e (headSpec wsX6_readRoad (rm_X6_readRoad)).room s m args below meth c H locs 0 0 (MQ below (mm_Qi D TC ad cy r0 g') args s 0 0 (mm_A TC ad)) (F0 m 0 ls []) := by
    intro H locs hH9 hL9 hP hS
    clear hH9 hL9
    refine lv_aload_n hx hb dX6_readRoad_0 rfl (lv_at hl 0 rfl) ?_
    refine lv_iconst (v := 0) hx hb dX6_readRoad_1 (by decide) ?_
    obtain ⟨g_1, eg_1, hf⟩ := mw_some hf
    refine mq_puti (Tt := TX6) (N := 3) (C := RX6) (ty := .int) hx hb hts hiX6 tyX6 tyX6_ok nmX6 hown hK hI hP hS hp rfl 2 (by decide) rfl hw0 (fun _ h9 => h9) rfl (by decide +kernel) rfl rfl dX6_readRoad_2 eg_1 (fun H locs hP hS => ?_)
    refine lv_iconst (v := 0) hx hb dX6_readRoad_5 (by decide) ?_
    refine lv_istore_n (lv' := [(2, .int 0), (0, .ref (ad p0)), (1, .ref (ad q1))]) hx hb dX6_readRoad_6 rfl hl (by decide) rfl (fun ls hl => ?_)
    exact hc7 FU 0 g_1 H locs ls hP hS (lv_sub hl [1, 2, 0] rfl) hf
  exact hH9 s.heap [] rfl rfl hP hS
abbrev rm_X0_forget : Room := ({ frames := 0, cells := 0, slots := 0, locals := 0 } : Room)
set_option maxHeartbeats 4000000 in
set_option maxRecDepth 100000 in
theorem c_X0_forget (l : Launch) (D : va_G) (ad : Nat → Nat) (cy : Nat → ClassId) (p0 : Nat) (g : Mm) (hp : TC[p0]? = some sX0) (g' : Mm) (hf : f_X0_forget p0 g = some g') : Met l yX0_forget wsX0_forget rm_X0_forget (va_Pc [.ref (ad p0)] (mm_pre mm_Z D TC ad cy g)) (mm_Qv D TC ad cy g') 0 0 (mm_A TC ad) := by
  refine Met.ofW (cc := cX0_forget) (maxL := 1) (ret := none) (by decide) rfl ?_
  intro p e s m args below meth c s₁ B hml hv
  obtain ⟨hargs, hP, hK, hI, hZ⟩ := hv
  have hx := B.exec
  have hb := B.bytes
  have hr := B.returns
  have hts := atoms_spec (ws := wsX0_forget) B.pre
  have hown : s.vm.findClass RX0 = some m.cls := findClass_of_methodNamed B.named
  have hlocks := B.notSynchronized
  have hw0 := hts (.fieldLink RX0 23 "LeftShoes$Arrivals" "search" "I") (by decide +kernel)
  have hiX0 : ∀ w ∈ wsX00, w ∈ wsX0_forget := by decide +kernel
  rw [show entryFrame m args 1 = F0 m 0 ((lg_sl ([.ref (ad p0)] : List Value) ++ List.replicate (1 - (lg_sl ([.ref (ad p0)] : List Value)).length) Slot.unset).toArray) [] from by rw [hargs]; exact lg_entry_eq m _ _]
  have hl := lv_entry ([.ref (ad p0)] : List Value) (n := 1) (by exact Nat.le_of_ble_eq_true rfl)
  generalize (lg_sl ([.ref (ad p0)] : List Value) ++ List.replicate (1 - (lg_sl ([.ref (ad p0)] : List Value)).length) Slot.unset).toArray = ls at hl ⊢
  have hl : lv_has ls 1 [(0, .ref (ad p0))] := by exact hl
  have hS : va_S (mm_A TC ad) s.heap s.heap [] := va_S.rf
  clear hargs
  unfold f_X0_forget at hf
  have hH9 : ∀ (H : Heap) (locs : List Loc), H = s.heap → locs = [] → va_P D vwCl (mm_L TC ad cy g) H → va_S (mm_A TC ad) s.heap H locs → W p l e (headSpec wsX0_forget (rm_X0_forget)).room s m args below meth c H locs 0 0 (MQ below (mm_Qv D TC ad cy g') args s 0 0 (mm_A TC ad)) (F0 m 0 ls []) := by
    intro H locs hH9 hL9 hP hS
    clear hH9 hL9
    refine lv_aload_n hx hb dX0_forget_0 rfl (lv_at hl 0 rfl) ?_
    refine lv_dup hx hb dX0_forget_1 rfl ?_
    refine mq_geti (Tt := TX0) (N := 4) (C := RX0) hx hb hts hiX0 hown hK hP hp rfl 3 (by decide) rfl hw0 (fun _ h9 => h9) dX0_forget_2 ?_
    refine lv_iconst (v := 1) hx hb dX0_forget_5 (by decide) ?_
    refine lv_iadd hx hb dX0_forget_6 ?_
    obtain ⟨g_1, eg_1, hf⟩ := mw_some hf
    refine mq_puti (Tt := TX0) (N := 4) (C := RX0) (ty := .int) hx hb hts hiX0 tyX0 tyX0_ok nmX0 hown hK hI hP hS hp rfl 3 (by decide) rfl hw0 (fun _ h9 => h9) rfl (by decide +kernel) rfl rfl dX0_forget_7 eg_1 (fun H locs hP hS => ?_)
    exact mq_vret hx hb hr hlocks hP hS (Option.some.inj hf) dX0_forget_10
  exact hH9 s.heap [] rfl rfl hP hS
abbrev rm_X0_betters : Room := ({ frames := 1, cells := 0, slots := 0, locals := 22 } : Room)
set_option maxHeartbeats 4000000 in
set_option maxRecDepth 100000 in
theorem c_X0_betters (l : Launch) (D : va_G) (ad : Nat → Nat) (cy : Nat → ClassId) (p0 : Nat) (x1 : Int32) (x2 : Int32) (x3 : Int32) (g : Mm) (hp : TC[p0]? = some sX0) (r0 : Int32) (g' : Mm) (hf : f_X0_betters p0 x1 x2 x3 g = some (r0, g')) : Met l yX0_betters wsX0_betters rm_X0_betters (va_Pc [.ref (ad p0), .int x1, .int x2, .int x3] (mm_pre mm_Z D TC ad cy g)) (mm_Qi D TC ad cy r0 g') 0 0 (mm_A TC ad) := by
  refine Met.ofW (cc := cX0_betters) (maxL := 4) (ret := (some .boolean)) (by decide) rfl ?_
  intro p e s m args below meth c s₁ B hml hv
  obtain ⟨hargs, hP, hK, hI, hZ⟩ := hv
  have hx := B.exec
  have hb := B.bytes
  have hr := B.returns
  have hts := atoms_spec (ws := wsX0_betters) B.pre
  have hown : s.vm.findClass RX0 = some m.cls := findClass_of_methodNamed B.named
  have hlocks := B.notSynchronized
  have hw0 := hts (.initialized RX11) (by decide +kernel)
  have hw1 := hts (.static yX11_isWithin) (by decide +kernel)
  have hw2 := hts (.fieldLink RX0 20 "LeftShoes$Arrivals" "searchOf" "[I") (by decide +kernel)
  have hiX0 : ∀ w ∈ wsX00, w ∈ wsX0_betters := by decide +kernel
  have hw4 := hts (.fieldLink RX0 23 "LeftShoes$Arrivals" "search" "I") (by decide +kernel)
  have hw5 := hts (.fieldLink RX0 13 "LeftShoes$Arrivals" "costs" "[I") (by decide +kernel)
  have hw6 := hts (.fieldLink RX0 17 "LeftShoes$Arrivals" "lengths" "[I") (by decide +kernel)
  rw [show entryFrame m args 4 = F0 m 0 ((lg_sl ([.ref (ad p0), .int x1, .int x2, .int x3] : List Value) ++ List.replicate (4 - (lg_sl ([.ref (ad p0), .int x1, .int x2, .int x3] : List Value)).length) Slot.unset).toArray) [] from by rw [hargs]; exact lg_entry_eq m _ _]
  have hl := lv_entry ([.ref (ad p0), .int x1, .int x2, .int x3] : List Value) (n := 4) (by exact Nat.le_of_ble_eq_true rfl)
  generalize (lg_sl ([.ref (ad p0), .int x1, .int x2, .int x3] : List Value) ++ List.replicate (4 - (lg_sl ([.ref (ad p0), .int x1, .int x2, .int x3] : List Value)).length) Slot.unset).toArray = ls at hl ⊢
  have hl : lv_has ls 4 [(0, .ref (ad p0)), (1, .int x1), (2, .int x2), (3, .int x3)] := by exact hl
  have hS : va_S (mm_A TC ad) s.heap s.heap [] := va_S.rf
  clear hargs
  have hc48 : ∀ (g : Mm) (H : Heap) (locs : List Loc) (ls : Array Slot), va_P D vwCl (mm_L TC ad cy g) H → va_S (mm_A TC ad) s.heap H locs → lv_has ls 4 [(0, .ref (ad p0)), (1, .int x1), (2, .int x2), (3, .int x3)] → f_X0_betters_c48 p0 x1 x2 x3 g = some (r0, g') → W p l e (headSpec wsX0_betters (rm_X0_betters)).room s m args below meth c H locs 0 0 (MQ below (mm_Qi D TC ad cy r0 g') args s 0 0 (mm_A TC ad)) (F0 m 48 ls []) := by
    intro g H locs ls hP hS hl hf
    unfold f_X0_betters_c48 at hf
    refine lv_aload_n hx hb dX0_betters_48 rfl (lv_at hl 0 rfl) ?_
    refine mq_getr (Tt := TX0) (N := 4) (C := RX0) hx hb hts hiX0 hown hK hP hp rfl 2 3 (by decide) rfl hw2 (fun _ h9 => h9) dX0_betters_49 ?_
    refine lv_iload_n hx hb dX0_betters_52 rfl (lv_at hl 1 rfl) ?_
    refine lv_aload_n hx hb dX0_betters_53 rfl (lv_at hl 0 rfl) ?_
    refine mq_geti (Tt := TX0) (N := 4) (C := RX0) hx hb hts hiX0 hown hK hP hp rfl 3 (by decide) rfl hw4 (fun _ h9 => h9) dX0_betters_54 ?_
    obtain ⟨h_6, hf⟩ := og_some hf
    obtain ⟨g_7, eg_7, hf⟩ := mw_some hf
    refine mq_iast hx hb hK hI hP hS (N := 10935) (shTC_X0_3 hp) h_6 dX0_betters_57 eg_7 (fun H locs hP hS => ?_)
    refine lv_aload_n hx hb dX0_betters_58 rfl (lv_at hl 0 rfl) ?_
    refine mq_getr (Tt := TX0) (N := 4) (C := RX0) hx hb hts hiX0 hown hK hP hp rfl 0 1 (by decide) rfl hw5 (fun _ h9 => h9) dX0_betters_59 ?_
    refine lv_iload_n hx hb dX0_betters_62 rfl (lv_at hl 1 rfl) ?_
    refine lv_iload_n hx hb dX0_betters_63 rfl (lv_at hl 2 rfl) ?_
    obtain ⟨h_8, hf⟩ := og_some hf
    obtain ⟨g_9, eg_9, hf⟩ := mw_some hf
    refine mq_iast hx hb hK hI hP hS (N := 10935) (shTC_X0_1 hp) h_8 dX0_betters_64 eg_9 (fun H locs hP hS => ?_)
    refine lv_aload_n hx hb dX0_betters_65 rfl (lv_at hl 0 rfl) ?_
    refine mq_getr (Tt := TX0) (N := 4) (C := RX0) hx hb hts hiX0 hown hK hP hp rfl 1 2 (by decide) rfl hw6 (fun _ h9 => h9) dX0_betters_66 ?_
    refine lv_iload_n hx hb dX0_betters_69 rfl (lv_at hl 1 rfl) ?_
    refine lv_iload_n hx hb dX0_betters_70 rfl (lv_at hl 3 rfl) ?_
    obtain ⟨h_10, hf⟩ := og_some hf
    obtain ⟨g_11, eg_11, hf⟩ := mw_some hf
    refine mq_iast hx hb hK hI hP hS (N := 10935) (shTC_X0_2 hp) h_10 dX0_betters_71 eg_11 (fun H locs hP hS => ?_)
    refine lv_iconst (v := 1) hx hb dX0_betters_72 (by decide) ?_
    exact mq_iret hx hb hr (by decide +kernel) hlocks hP hS (pr_1 hf) (pr_2 hf) dX0_betters_73
  unfold f_X0_betters at hf
  have hH9 : ∀ (H : Heap) (locs : List Loc), H = s.heap → locs = [] → va_P D vwCl (mm_L TC ad cy g) H → va_S (mm_A TC ad) s.heap H locs → W p l e (headSpec wsX0_betters (rm_X0_betters)).room s m args below meth c H locs 0 0 (MQ below (mm_Qi D TC ad cy r0 g') args s 0 0 (mm_A TC ad)) (F0 m 0 ls []) := by
    intro H locs hH9 hL9 hP hS
    clear hH9 hL9
    refine lv_iload_n hx hb dX0_betters_0 rfl (lv_at hl 1 rfl) ?_
    refine lv_iconst (v := 0) hx hb dX0_betters_1 (by decide) ?_
    refine lv_sipush (v := 10934) hx hb dX0_betters_2 (by decide) ?_
    obtain ⟨r_1, hr_2, hf⟩ := op_some hf
    refine mq_calli (va_runSN (As := [.int x1, .int 0, .int 10934]) (rest := []) ⟨hx, hb, hml, hown, hts⟩ (c_X11_isWithin l D ad cy x1 0 10934 g r_1 hr_2) ⟨va_cnB 3 hts gX0_betters_X11_isWithin_n27 rfl rfl rfl hZ.2.1 hw0 (by decide +kernel) ⟨Nat.le_of_ble_eq_true rfl, Nat.le_of_ble_eq_true rfl⟩, hw1, trivial⟩ (mq_preS mm_zOkC hK hP hI hZ hS) rfl rfl hl.1 rfl (lv_room (Nat.le_of_ble_eq_true rfl)) dX0_betters_5 ⟨Nat.le_refl _, Nat.le_refl _⟩) hS (fun H locs hP hS => ?_)
    refine lv_if_ne (tgt := 13) hx hb dX0_betters_8 (by decide) (fun c_3 => ?_) (fun c_3 => ?_)
    · replace hf := ite_f c_3 hf
      refine lv_aload_n hx hb dX0_betters_13 rfl (lv_at hl 0 rfl) ?_
      refine mq_getr (Tt := TX0) (N := 4) (C := RX0) hx hb hts hiX0 hown hK hP hp rfl 2 3 (by decide) rfl hw2 (fun _ h9 => h9) dX0_betters_14 ?_
      refine lv_iload_n hx hb dX0_betters_17 rfl (lv_at hl 1 rfl) ?_
      obtain ⟨h_4, hf⟩ := og_some hf
      refine mq_iald hx hb hK hP (N := 10935) (shTC_X0_3 hp) h_4 dX0_betters_18 ?_
      refine lv_aload_n hx hb dX0_betters_19 rfl (lv_at hl 0 rfl) ?_
      refine mq_geti (Tt := TX0) (N := 4) (C := RX0) hx hb hts hiX0 hown hK hP hp rfl 3 (by decide) rfl hw4 (fun _ h9 => h9) dX0_betters_20 ?_
      refine lv_icmp_ne (tgt := 48) hx hb dX0_betters_23 (by decide) (fun c_5 => ?_) (fun c_5 => ?_)
      · replace hf := ite_f c_5 hf
        exact hc48 g H locs ls hP hS (lv_sub hl [0, 1, 2, 3] rfl) hf
      · replace hf := ite_t c_5 hf
        refine lv_aload_n hx hb dX0_betters_26 rfl (lv_at hl 0 rfl) ?_
        refine mq_getr (Tt := TX0) (N := 4) (C := RX0) hx hb hts hiX0 hown hK hP hp rfl 0 1 (by decide) rfl hw5 (fun _ h9 => h9) dX0_betters_27 ?_
        refine lv_iload_n hx hb dX0_betters_30 rfl (lv_at hl 1 rfl) ?_
        obtain ⟨h_12, hf⟩ := og_some hf
        refine mq_iald hx hb hK hP (N := 10935) (shTC_X0_1 hp) h_12 dX0_betters_31 ?_
        refine lv_iload_n hx hb dX0_betters_32 rfl (lv_at hl 2 rfl) ?_
        refine lv_icmp_gt (tgt := 48) hx hb dX0_betters_33 (by decide) (fun c_13 => ?_) (fun c_13 => ?_)
        · replace hf := ite_t c_13 hf
          exact hc48 g H locs ls hP hS (lv_sub hl [0, 1, 2, 3] rfl) hf
        · replace hf := ite_f c_13 hf
          refine lv_aload_n hx hb dX0_betters_36 rfl (lv_at hl 0 rfl) ?_
          refine mq_getr (Tt := TX0) (N := 4) (C := RX0) hx hb hts hiX0 hown hK hP hp rfl 1 2 (by decide) rfl hw6 (fun _ h9 => h9) dX0_betters_37 ?_
          refine lv_iload_n hx hb dX0_betters_40 rfl (lv_at hl 1 rfl) ?_
          obtain ⟨h_14, hf⟩ := og_some hf
          refine mq_iald hx hb hK hP (N := 10935) (shTC_X0_2 hp) h_14 dX0_betters_41 ?_
          refine lv_iload_n hx hb dX0_betters_42 rfl (lv_at hl 3 rfl) ?_
          refine lv_icmp_gt (tgt := 48) hx hb dX0_betters_43 (by decide) (fun c_15 => ?_) (fun c_15 => ?_)
          · replace hf := ite_t c_15 hf
            exact hc48 g H locs ls hP hS (lv_sub hl [0, 1, 2, 3] rfl) hf
          · replace hf := ite_f c_15 hf
            refine lv_iconst (v := 0) hx hb dX0_betters_46 (by decide) ?_
            exact mq_iret hx hb hr (by decide +kernel) hlocks hP hS (pr_1 hf) (pr_2 hf) dX0_betters_47
    · replace hf := ite_t c_3 hf
      refine lv_iconst (v := 1) hx hb dX0_betters_11 (by decide) ?_
      exact mq_iret hx hb hr (by decide +kernel) hlocks hP hS (pr_1 hf) (pr_2 hf) dX0_betters_12
  exact hH9 s.heap [] rfl rfl hP hS
abbrev rm_X8_read : Room := ({ frames := 1, cells := 0, slots := 0, locals := 22 } : Room)
set_option maxHeartbeats 4000000 in
set_option maxRecDepth 100000 in
theorem c_X8_read (l : Launch) (D : va_G) (ad : Nat → Nat) (cy : Nat → ClassId) (p0 : Nat) (q1 : Nat) (x2 : Int32) (x3 : Int32) (g : Mm) (hp : TC[p0]? = some sX8) (hq1 : TC[q1]? = some sX4) (r0 : Int32) (g' : Mm) (hf : f_X8_read p0 q1 x2 x3 g = some (r0, g')) : Met l yX8_read wsX8_read rm_X8_read (va_Pc [.ref (ad p0), .ref (ad q1), .int x2, .int x3] (mm_pre mm_Z D TC ad cy g)) (mm_Qi D TC ad cy r0 g') 0 0 (mm_A TC ad) := by
  refine Met.ofW (cc := cX8_read) (maxL := 5) (ret := (some .boolean)) (by decide) rfl ?_
  intro p e s m args below meth c s₁ B hml hv
  obtain ⟨hargs, hP, hK, hI, hZ⟩ := hv
  have hx := B.exec
  have hb := B.bytes
  have hr := B.returns
  have hts := atoms_spec (ws := wsX8_read) B.pre
  have hown : s.vm.findClass RX8 = some m.cls := findClass_of_methodNamed B.named
  have hlocks := B.notSynchronized
  have hw0 := hts (.fieldLink RX8 15 "LeftShoes$Trail" "length" "I") (by decide +kernel)
  have hiX8 : ∀ w ∈ wsX80, w ∈ wsX8_read := by decide +kernel
  have hw2 := hts (.fieldLink RX8 9 "LeftShoes$Trail" "marks" "[I") (by decide +kernel)
  have hw3 := hts (.fieldLink RX8 19 "LeftShoes$Sheet" "items" "[I") (by decide +kernel)
  have hiX4 : ∀ w ∈ wsX40, w ∈ wsX8_read := by decide +kernel
  have hw5 := hts (.initialized RX11) (by decide +kernel)
  have hw6 := hts (.static yX11_isWithin) (by decide +kernel)
  rw [show entryFrame m args 5 = F0 m 0 ((lg_sl ([.ref (ad p0), .ref (ad q1), .int x2, .int x3] : List Value) ++ List.replicate (5 - (lg_sl ([.ref (ad p0), .ref (ad q1), .int x2, .int x3] : List Value)).length) Slot.unset).toArray) [] from by rw [hargs]; exact lg_entry_eq m _ _]
  have hl := lv_entry ([.ref (ad p0), .ref (ad q1), .int x2, .int x3] : List Value) (n := 5) (by exact Nat.le_of_ble_eq_true rfl)
  generalize (lg_sl ([.ref (ad p0), .ref (ad q1), .int x2, .int x3] : List Value) ++ List.replicate (5 - (lg_sl ([.ref (ad p0), .ref (ad q1), .int x2, .int x3] : List Value)).length) Slot.unset).toArray = ls at hl ⊢
  have hl : lv_has ls 5 [(0, .ref (ad p0)), (1, .ref (ad q1)), (2, .int x2), (3, .int x3)] := by exact hl
  have hS : va_S (mm_A TC ad) s.heap s.heap [] := va_S.rf
  clear hargs
  have hc8 : ∀ (n : Nat), ∀ (x4 : Int32) (g : Mm) (H : Heap) (locs : List Loc) (ls : Array Slot), va_P D vwCl (mm_L TC ad cy g) H → va_S (mm_A TC ad) s.heap H locs → lv_has ls 5 [(0, .ref (ad p0)), (1, .ref (ad q1)), (2, .int x2), (3, .int x3), (4, .int x4)] → f_X8_read_c8 p0 q1 x2 x3 n x4 g = some (r0, g') → W p l e (headSpec wsX8_read (rm_X8_read)).room s m args below meth c H locs 0 0 (MQ below (mm_Qi D TC ad cy r0 g') args s 0 0 (mm_A TC ad)) (F0 m 8 ls []) := by
    intro n
    induction n with
    | zero =>
      intro x4 g H locs ls hP hS hl hf
      rw [f_X8_read_c8] at hf
      cases hf
    | succ n ih =>
      intro x4 g H locs ls hP hS hl hf
      rw [f_X8_read_c8] at hf
      refine lv_iload hx hb dX8_read_8 (lv_at hl 4 rfl) ?_
      refine lv_iload_n hx hb dX8_read_10 rfl (lv_at hl 3 rfl) ?_
      refine lv_icmp_ge (tgt := 54) hx hb dX8_read_11 (by decide) (fun c_2 => ?_) (fun c_2 => ?_)
      · replace hf := ite_t c_2 hf
        refine lv_iconst (v := 1) hx hb dX8_read_54 (by decide) ?_
        exact mq_iret hx hb hr (by decide +kernel) hlocks hP hS (pr_1 hf) (pr_2 hf) dX8_read_55
      · replace hf := ite_f c_2 hf
        refine lv_aload_n hx hb dX8_read_14 rfl (lv_at hl 0 rfl) ?_
        refine mq_getr (Tt := TX8) (N := 2) (C := RX8) hx hb hts hiX8 hown hK hP hp rfl 0 1 (by decide) rfl hw2 (fun _ h9 => h9) dX8_read_15 ?_
        refine lv_iload hx hb dX8_read_18 (lv_at hl 4 rfl) ?_
        refine lv_aload_n hx hb dX8_read_20 rfl (lv_at hl 1 rfl) ?_
        refine mq_getr (Tt := TX4) (N := 3) (C := RX4) hx hb hts hiX4 hown hK hP hq1 rfl 0 4 (by decide) rfl hw3 (fun _ h9 => h9) dX8_read_21 ?_
        refine lv_iload_n hx hb dX8_read_24 rfl (lv_at hl 2 rfl) ?_
        refine lv_iload hx hb dX8_read_25 (lv_at hl 4 rfl) ?_
        refine lv_iadd hx hb dX8_read_27 ?_
        obtain ⟨h_3, hf⟩ := og_some hf
        refine mq_iald hx hb hK hP (N := 24) (shTC_X4_4 hq1) h_3 dX8_read_28 ?_
        obtain ⟨h_4, hf⟩ := og_some hf
        obtain ⟨g_5, eg_5, hf⟩ := mw_some hf
        refine mq_iast hx hb hK hI hP hS (N := 12) (shTC_X8_1 hp) h_4 dX8_read_29 eg_5 (fun H locs hP hS => ?_)
        refine lv_aload_n hx hb dX8_read_30 rfl (lv_at hl 0 rfl) ?_
        refine mq_getr (Tt := TX8) (N := 2) (C := RX8) hx hb hts hiX8 hown hK hP hp rfl 0 1 (by decide) rfl hw2 (fun _ h9 => h9) dX8_read_31 ?_
        refine lv_iload hx hb dX8_read_34 (lv_at hl 4 rfl) ?_
        obtain ⟨h_6, hf⟩ := og_some hf
        refine mq_iald hx hb hK hP (N := 12) (shTC_X8_1 hp) h_6 dX8_read_36 ?_
        refine lv_iconst (v := 0) hx hb dX8_read_37 (by decide) ?_
        refine lv_bipush (v := 9) hx hb dX8_read_38 (by decide) ?_
        obtain ⟨r_7, hr_8, hf⟩ := op_some hf
        refine mq_calli (va_runSN (As := [.int (g_5 (p0 + 1) x4.toNatClampNeg), .int 0, .int 9]) (rest := []) ⟨hx, hb, hml, hown, hts⟩ (c_X11_isWithin l D ad cy (g_5 (p0 + 1) x4.toNatClampNeg) 0 9 g_5 r_7 hr_8) ⟨va_cnB 3 hts gX8_read_X11_isWithin_n24 rfl rfl rfl hZ.2.2.2.1 hw5 (by decide +kernel) ⟨Nat.le_of_ble_eq_true rfl, Nat.le_of_ble_eq_true rfl⟩, hw6, trivial⟩ (mq_preS mm_zOkC hK hP hI hZ hS) rfl rfl hl.1 rfl (lv_room (Nat.le_of_ble_eq_true rfl)) dX8_read_40 ⟨Nat.le_refl _, Nat.le_refl _⟩) hS (fun H locs hP hS => ?_)
        refine lv_if_ne (tgt := 48) hx hb dX8_read_43 (by decide) (fun c_9 => ?_) (fun c_9 => ?_)
        · replace hf := ite_f c_9 hf
          obtain ⟨x4_10, ex4_10, hf⟩ := mv_some hf
          refine lv_iinc (v := x4_10) (lv' := [(4, .int x4_10), (0, .ref (ad p0)), (1, .ref (ad q1)), (2, .int x2), (3, .int x3)]) hx hb dX8_read_48 hl (k := 4) rfl (by rw [ex4_10]; rfl) (by decide) rfl (fun ls hl => ?_)
          refine lv_goto (tgt := 8) hx hb dX8_read_51 (by decide) ?_
          exact ih x4_10 g_5 H locs ls hP hS (lv_sub hl [1, 2, 3, 4, 0] rfl) hf
        · replace hf := ite_t c_9 hf
          refine lv_iconst (v := 0) hx hb dX8_read_46 (by decide) ?_
          exact mq_iret hx hb hr (by decide +kernel) hlocks hP hS (pr_1 hf) (pr_2 hf) dX8_read_47
  unfold f_X8_read at hf
  have hH9 : ∀ (H : Heap) (locs : List Loc), H = s.heap → locs = [] → va_P D vwCl (mm_L TC ad cy g) H → va_S (mm_A TC ad) s.heap H locs → W p l e (headSpec wsX8_read (rm_X8_read)).room s m args below meth c H locs 0 0 (MQ below (mm_Qi D TC ad cy r0 g') args s 0 0 (mm_A TC ad)) (F0 m 0 ls []) := by
    intro H locs hH9 hL9 hP hS
    clear hH9 hL9
    refine lv_aload_n hx hb dX8_read_0 rfl (lv_at hl 0 rfl) ?_
    refine lv_iload_n hx hb dX8_read_1 rfl (lv_at hl 3 rfl) ?_
    obtain ⟨g_1, eg_1, hf⟩ := mw_some hf
    refine mq_puti (Tt := TX8) (N := 2) (C := RX8) (ty := .int) hx hb hts hiX8 tyX8 tyX8_ok nmX8 hown hK hI hP hS hp rfl 1 (by decide) rfl hw0 (fun _ h9 => h9) rfl (by decide +kernel) rfl rfl dX8_read_2 eg_1 (fun H locs hP hS => ?_)
    refine lv_iconst (v := 0) hx hb dX8_read_5 (by decide) ?_
    refine lv_istore (lv' := [(4, .int 0), (0, .ref (ad p0)), (1, .ref (ad q1)), (2, .int x2), (3, .int x3)]) hx hb dX8_read_6 hl (by decide) rfl (fun ls hl => ?_)
    exact hc8 FU 0 g_1 H locs ls hP hS (lv_sub hl [1, 2, 3, 4, 0] rfl) hf
  exact hH9 s.heap [] rfl rfl hP hS
abbrev rm_X8_isOf : Room := ({ frames := 0, cells := 0, slots := 0, locals := 0 } : Room)
set_option maxHeartbeats 4000000 in
set_option maxRecDepth 100000 in
theorem c_X8_isOf (l : Launch) (D : va_G) (ad : Nat → Nat) (cy : Nat → ClassId) (p0 : Nat) (x1 : Int32) (x2 : Int32) (g : Mm) (hp : TC[p0]? = some sX8) (r0 : Int32) (hf : f_X8_isOf p0 x1 x2 g = some r0) : Met l yX8_isOf wsX8_isOf rm_X8_isOf (va_Pc [.ref (ad p0), .int x1, .int x2] (mm_pre mm_Z D TC ad cy g)) (mm_Qi D TC ad cy r0 g) 0 0 (mm_A TC ad) := by
  refine Met.ofW (cc := cX8_isOf) (maxL := 4) (ret := (some .boolean)) (by decide) rfl ?_
  intro p e s m args below meth c s₁ B hml hv
  obtain ⟨hargs, hP, hK, hI, hZ⟩ := hv
  have hx := B.exec
  have hb := B.bytes
  have hr := B.returns
  have hts := atoms_spec (ws := wsX8_isOf) B.pre
  have hown : s.vm.findClass RX8 = some m.cls := findClass_of_methodNamed B.named
  have hlocks := B.notSynchronized
  have hw0 := hts (.fieldLink RX8 15 "LeftShoes$Trail" "length" "I") (by decide +kernel)
  have hiX8 : ∀ w ∈ wsX80, w ∈ wsX8_isOf := by decide +kernel
  have hw2 := hts (.fieldLink RX8 9 "LeftShoes$Trail" "marks" "[I") (by decide +kernel)
  rw [show entryFrame m args 4 = F0 m 0 ((lg_sl ([.ref (ad p0), .int x1, .int x2] : List Value) ++ List.replicate (4 - (lg_sl ([.ref (ad p0), .int x1, .int x2] : List Value)).length) Slot.unset).toArray) [] from by rw [hargs]; exact lg_entry_eq m _ _]
  have hl := lv_entry ([.ref (ad p0), .int x1, .int x2] : List Value) (n := 4) (by exact Nat.le_of_ble_eq_true rfl)
  generalize (lg_sl ([.ref (ad p0), .int x1, .int x2] : List Value) ++ List.replicate (4 - (lg_sl ([.ref (ad p0), .int x1, .int x2] : List Value)).length) Slot.unset).toArray = ls at hl ⊢
  have hl : lv_has ls 4 [(0, .ref (ad p0)), (1, .int x1), (2, .int x2)] := by exact hl
  have hS : va_S (mm_A TC ad) s.heap s.heap [] := va_S.rf
  clear hargs
  have hc27 : ∀ (K_2 : Int32 → Mm → Option (Int32)), (∀ (x3 : Int32) (H : Heap) (locs : List Loc) (ls : Array Slot), va_P D vwCl (mm_L TC ad cy g) H → va_S (mm_A TC ad) s.heap H locs → lv_has ls 4 [(0, .ref (ad p0)), (1, .int x1), (2, .int x2), (3, .int x3)] → K_2 x3 g = some r0 → W p l e (headSpec wsX8_isOf (rm_X8_isOf)).room s m args below meth c H locs 0 0 (MQ below (mm_Qi D TC ad cy r0 g) args s 0 0 (mm_A TC ad)) (F0 m 2 ls [])) → ∀ (x3 : Int32) (sx0 : Int32) (sx1 : Int32) (H : Heap) (locs : List Loc) (ls : Array Slot), va_P D vwCl (mm_L TC ad cy g) H → va_S (mm_A TC ad) s.heap H locs → lv_has ls 4 [(0, .ref (ad p0)), (1, .int x1), (2, .int x2), (3, .int x3)] → f_X8_isOf_c27 K_2 p0 x1 x2 x3 sx0 sx1 g = some r0 → W p l e (headSpec wsX8_isOf (rm_X8_isOf)).room s m args below meth c H locs 0 0 (MQ below (mm_Qi D TC ad cy r0 g) args s 0 0 (mm_A TC ad)) (F0 m 27 ls [.int sx1, .int sx0]) := by
    intro K_2 hK_2 x3 sx0 sx1 H locs ls hP hS hl hf
    unfold f_X8_isOf_c27 at hf
    refine lv_icmp_eq (tgt := 32) hx hb dX8_isOf_27 (by decide) (fun c_4 => ?_) (fun c_4 => ?_)
    · replace hf := ite_t c_4 hf
      obtain ⟨x3_5, ex3_5, hf⟩ := mv_some hf
      refine lv_iinc (v := x3_5) (lv' := [(3, .int x3_5), (0, .ref (ad p0)), (1, .int x1), (2, .int x2)]) hx hb dX8_isOf_32 hl (k := 3) rfl (by rw [ex3_5]; rfl) (by decide) rfl (fun ls hl => ?_)
      refine lv_goto (tgt := 2) hx hb dX8_isOf_35 (by decide) ?_
      exact hK_2 x3_5 H locs ls hP hS (lv_sub hl [1, 2, 3, 0] rfl) hf
    · replace hf := ite_f c_4 hf
      refine lv_iconst (v := 0) hx hb dX8_isOf_30 (by decide) ?_
      exact mq_iret hx hb hr (by decide +kernel) hlocks hP hS (Option.some.inj hf) rfl dX8_isOf_31
  have hc2 : ∀ (n : Nat), ∀ (x3 : Int32) (H : Heap) (locs : List Loc) (ls : Array Slot), va_P D vwCl (mm_L TC ad cy g) H → va_S (mm_A TC ad) s.heap H locs → lv_has ls 4 [(0, .ref (ad p0)), (1, .int x1), (2, .int x2), (3, .int x3)] → f_X8_isOf_c2 p0 x1 x2 n x3 g = some r0 → W p l e (headSpec wsX8_isOf (rm_X8_isOf)).room s m args below meth c H locs 0 0 (MQ below (mm_Qi D TC ad cy r0 g) args s 0 0 (mm_A TC ad)) (F0 m 2 ls []) := by
    intro n
    induction n with
    | zero =>
      intro x3 H locs ls hP hS hl hf
      rw [f_X8_isOf_c2] at hf
      cases hf
    | succ n ih =>
      intro x3 H locs ls hP hS hl hf
      rw [f_X8_isOf_c2] at hf
      refine lv_iload_n hx hb dX8_isOf_2 rfl (lv_at hl 3 rfl) ?_
      refine lv_aload_n hx hb dX8_isOf_3 rfl (lv_at hl 0 rfl) ?_
      refine mq_geti (Tt := TX8) (N := 2) (C := RX8) hx hb hts hiX8 hown hK hP hp rfl 1 (by decide) rfl hw0 (fun _ h9 => h9) dX8_isOf_4 ?_
      refine lv_icmp_ge (tgt := 38) hx hb dX8_isOf_7 (by decide) (fun c_1 => ?_) (fun c_1 => ?_)
      · replace hf := ite_t c_1 hf
        refine lv_iconst (v := 1) hx hb dX8_isOf_38 (by decide) ?_
        exact mq_iret hx hb hr (by decide +kernel) hlocks hP hS (Option.some.inj hf) rfl dX8_isOf_39
      · replace hf := ite_f c_1 hf
        refine lv_aload_n hx hb dX8_isOf_10 rfl (lv_at hl 0 rfl) ?_
        refine mq_getr (Tt := TX8) (N := 2) (C := RX8) hx hb hts hiX8 hown hK hP hp rfl 0 1 (by decide) rfl hw2 (fun _ h9 => h9) dX8_isOf_11 ?_
        refine lv_iload_n hx hb dX8_isOf_14 rfl (lv_at hl 3 rfl) ?_
        obtain ⟨h_2, hf⟩ := og_some hf
        refine mq_iald hx hb hK hP (N := 12) (shTC_X8_1 hp) h_2 dX8_isOf_15 ?_
        refine lv_iload_n hx hb dX8_isOf_16 rfl (lv_at hl 3 rfl) ?_
        refine lv_iconst (v := 2) hx hb dX8_isOf_17 (by decide) ?_
        refine lv_irem hx hb dX8_isOf_18 (by decide) ?_
        refine lv_if_ne (tgt := 26) hx hb dX8_isOf_19 (by decide) (fun c_3 => ?_) (fun c_3 => ?_)
        · replace hf := ite_f c_3 hf
          refine lv_iload_n hx hb dX8_isOf_26 rfl (lv_at hl 2 rfl) ?_
          exact hc27 (f_X8_isOf_c2 p0 x1 x2 n) ih x3 (g (p0 + 1) x3.toNatClampNeg) x2 H locs ls hP hS (lv_sub hl [0, 1, 2, 3] rfl) hf
        · replace hf := ite_t c_3 hf
          refine lv_iload_n hx hb dX8_isOf_22 rfl (lv_at hl 1 rfl) ?_
          refine lv_goto (tgt := 27) hx hb dX8_isOf_23 (by decide) ?_
          exact hc27 (f_X8_isOf_c2 p0 x1 x2 n) ih x3 (g (p0 + 1) x3.toNatClampNeg) x1 H locs ls hP hS (lv_sub hl [0, 1, 2, 3] rfl) hf
  unfold f_X8_isOf at hf
  have hH9 : ∀ (H : Heap) (locs : List Loc), H = s.heap → locs = [] → va_P D vwCl (mm_L TC ad cy g) H → va_S (mm_A TC ad) s.heap H locs → W p l e (headSpec wsX8_isOf (rm_X8_isOf)).room s m args below meth c H locs 0 0 (MQ below (mm_Qi D TC ad cy r0 g) args s 0 0 (mm_A TC ad)) (F0 m 0 ls []) := by
    intro H locs hH9 hL9 hP hS
    clear hH9 hL9
    refine lv_iconst (v := 0) hx hb dX8_isOf_0 (by decide) ?_
    refine lv_istore_n (lv' := [(3, .int 0), (0, .ref (ad p0)), (1, .int x1), (2, .int x2)]) hx hb dX8_isOf_1 rfl hl (by decide) rfl (fun ls hl => ?_)
    exact hc2 FU 0 H locs ls hP hS (lv_sub hl [1, 2, 3, 0] rfl) hf
  exact hH9 s.heap [] rfl rfl hP hS
abbrev rm_X8_waysOnBoth : Room := ({ frames := 1, cells := 0, slots := 0, locals := 23 } : Room)
set_option maxHeartbeats 4000000 in
set_option maxRecDepth 100000 in
theorem c_X8_waysOnBoth (l : Launch) (D : va_G) (ad : Nat → Nat) (cy : Nat → ClassId) (p0 : Nat) (q1 : Nat) (x2 : Int32) (g : Mm) (hp : TC[p0]? = some sX8) (hq1 : TC[q1]? = some sX10) (r0 : Int32) (hf : f_X8_waysOnBoth p0 q1 x2 g = some r0) : Met l yX8_waysOnBoth wsX8_waysOnBoth rm_X8_waysOnBoth (va_Pc [.ref (ad p0), .ref (ad q1), .int x2] (mm_pre mm_Z D TC ad cy g)) (mm_Qi D TC ad cy r0 g) 0 0 (mm_A TC ad) := by
  refine Met.ofW (cc := cX8_waysOnBoth) (maxL := 8) (ret := (some .int)) (by decide) rfl ?_
  intro p e s m args below meth c s₁ B hml hv
  obtain ⟨hargs, hP, hK, hI, hZ⟩ := hv
  have hx := B.exec
  have hb := B.bytes
  have hr := B.returns
  have hts := atoms_spec (ws := wsX8_waysOnBoth) B.pre
  have hown : s.vm.findClass RX8 = some m.cls := findClass_of_methodNamed B.named
  have hlocks := B.notSynchronized
  have hw0 := hts (.fieldLink RX8 44 "LeftShoes$World" "shoeCount" "I") (by decide +kernel)
  have hiX10 : ∀ w ∈ wsX100, w ∈ wsX8_waysOnBoth := by decide +kernel
  have hw2 := hts (.fieldLink RX8 47 "LeftShoes$World" "shoes" "[LLeftShoes$Shoe;") (by decide +kernel)
  have hw3 := hts (.fieldLink RX8 51 "LeftShoes$Shoe" "owner" "I") (by decide +kernel)
  have hiX5 : ∀ w ∈ wsX50, w ∈ wsX8_waysOnBoth := by decide +kernel
  rw [show entryFrame m args 8 = F0 m 0 ((lg_sl ([.ref (ad p0), .ref (ad q1), .int x2] : List Value) ++ List.replicate (8 - (lg_sl ([.ref (ad p0), .ref (ad q1), .int x2] : List Value)).length) Slot.unset).toArray) [] from by rw [hargs]; exact lg_entry_eq m _ _]
  have hl := lv_entry ([.ref (ad p0), .ref (ad q1), .int x2] : List Value) (n := 8) (by exact Nat.le_of_ble_eq_true rfl)
  generalize (lg_sl ([.ref (ad p0), .ref (ad q1), .int x2] : List Value) ++ List.replicate (8 - (lg_sl ([.ref (ad p0), .ref (ad q1), .int x2] : List Value)).length) Slot.unset).toArray = ls at hl ⊢
  have hl : lv_has ls 8 [(0, .ref (ad p0)), (1, .ref (ad q1)), (2, .int x2)] := by exact hl
  have hS : va_S (mm_A TC ad) s.heap s.heap [] := va_S.rf
  clear hargs
  have hc39 : ∀ (K_27 : Int32 → Int32 → Mm → Option (Int32)), (∀ (x3 : Int32) (x4 : Int32) (H : Heap) (locs : List Loc) (ls : Array Slot), va_P D vwCl (mm_L TC ad cy g) H → va_S (mm_A TC ad) s.heap H locs → lv_has ls 8 [(0, .ref (ad p0)), (1, .ref (ad q1)), (2, .int x2), (3, .int x3), (4, .int x4)] → K_27 x3 x4 g = some r0 → W p l e (headSpec wsX8_waysOnBoth (rm_X8_waysOnBoth)).room s m args below meth c H locs 0 0 (MQ below (mm_Qi D TC ad cy r0 g) args s 0 0 (mm_A TC ad)) (F0 m 27 ls [])) → ∀ (n : Nat), ∀ (x3 : Int32) (x4 : Int32) (x5 : Int32) (H : Heap) (locs : List Loc) (ls : Array Slot), va_P D vwCl (mm_L TC ad cy g) H → va_S (mm_A TC ad) s.heap H locs → lv_has ls 8 [(0, .ref (ad p0)), (1, .ref (ad q1)), (2, .int x2), (3, .int x3), (4, .int x4), (5, .int x5)] → f_X8_waysOnBoth_c39 K_27 p0 q1 x2 n x3 x4 x5 g = some r0 → W p l e (headSpec wsX8_waysOnBoth (rm_X8_waysOnBoth)).room s m args below meth c H locs 0 0 (MQ below (mm_Qi D TC ad cy r0 g) args s 0 0 (mm_A TC ad)) (F0 m 39 ls []) := by
    intro K_27 hK_27 n
    induction n with
    | zero =>
      intro x3 x4 x5 H locs ls hP hS hl hf
      rw [f_X8_waysOnBoth_c39] at hf
      cases hf
    | succ n ih =>
      intro x3 x4 x5 H locs ls hP hS hl hf
      rw [f_X8_waysOnBoth_c39] at hf
      refine lv_iload hx hb dX8_waysOnBoth_39 (lv_at hl 5 rfl) ?_
      refine lv_aload_n hx hb dX8_waysOnBoth_41 rfl (lv_at hl 1 rfl) ?_
      refine mq_geti (Tt := TX10) (N := 9) (C := RX10) hx hb hts hiX10 hown hK hP hq1 rfl 3 (by decide) rfl hw0 (fun _ h9 => h9) dX8_waysOnBoth_42 ?_
      refine lv_icmp_ge (tgt := 110) hx hb dX8_waysOnBoth_45 (by decide) (fun c_5 => ?_) (fun c_5 => ?_)
      · replace hf := ite_t c_5 hf
        obtain ⟨x4_6, ex4_6, hf⟩ := mv_some hf
        refine lv_iinc (v := x4_6) (lv' := [(4, .int x4_6), (0, .ref (ad p0)), (1, .ref (ad q1)), (2, .int x2), (3, .int x3), (5, .int x5)]) hx hb dX8_waysOnBoth_110 hl (k := 4) rfl (by rw [ex4_6]; rfl) (by decide) rfl (fun ls hl => ?_)
        refine lv_goto (tgt := 27) hx hb dX8_waysOnBoth_113 (by decide) ?_
        exact hK_27 x3 x4_6 H locs ls hP hS (lv_sub hl [1, 2, 3, 4, 0] rfl) hf
      · replace hf := ite_f c_5 hf
        refine lv_aload_n hx hb dX8_waysOnBoth_48 rfl (lv_at hl 1 rfl) ?_
        refine mq_getr (Tt := TX10) (N := 9) (C := RX10) hx hb hts hiX10 hown hK hP hq1 rfl 4 3 (by decide) rfl hw2 (fun _ h9 => h9) dX8_waysOnBoth_49 ?_
        refine lv_iload hx hb dX8_waysOnBoth_52 (lv_at hl 4 rfl) ?_
        obtain ⟨h_7, hf⟩ := og_some hf
        refine mq_aald hx hb hK hP (N := 16) (shTC_X10_3 hq1) rfl h_7 dX8_waysOnBoth_54 ?_
        refine lv_astore (lv' := [(6, .ref (ad (q1 + 4 + x4.toNatClampNeg))), (0, .ref (ad p0)), (1, .ref (ad q1)), (2, .int x2), (3, .int x3), (4, .int x4), (5, .int x5)]) hx hb dX8_waysOnBoth_55 hl (by decide) rfl (fun ls hl => ?_)
        refine lv_aload_n hx hb dX8_waysOnBoth_57 rfl (lv_at hl 2 rfl) ?_
        refine mq_getr (Tt := TX10) (N := 9) (C := RX10) hx hb hts hiX10 hown hK hP hq1 rfl 4 3 (by decide) rfl hw2 (fun _ h9 => h9) dX8_waysOnBoth_58 ?_
        refine lv_iload hx hb dX8_waysOnBoth_61 (lv_at hl 6 rfl) ?_
        obtain ⟨h_8, hf⟩ := og_some hf
        refine mq_aald hx hb hK hP (N := 16) (shTC_X10_3 hq1) rfl h_8 dX8_waysOnBoth_63 ?_
        refine lv_astore (lv' := [(7, .ref (ad (q1 + 4 + x5.toNatClampNeg))), (6, .ref (ad (q1 + 4 + x4.toNatClampNeg))), (0, .ref (ad p0)), (1, .ref (ad q1)), (2, .int x2), (3, .int x3), (4, .int x4), (5, .int x5)]) hx hb dX8_waysOnBoth_64 hl (by decide) rfl (fun ls hl => ?_)
        refine lv_aload hx hb dX8_waysOnBoth_66 (lv_at hl 1 rfl) ?_
        refine mq_geti (Tt := TX5) (N := 5) (C := RX5) hx hb hts hiX5 hown hK hP (shTC_X10_4i_0 hq1 (mm_in_lt h_7)) rfl 3 (by decide) rfl hw3 (fun _ h9 => h9) dX8_waysOnBoth_68 ?_
        refine lv_iload_n hx hb dX8_waysOnBoth_71 rfl (lv_at hl 4 rfl) ?_
        refine lv_icmp_ne (tgt := 104) hx hb dX8_waysOnBoth_72 (by decide) (fun c_9 => ?_) (fun c_9 => ?_)
        · replace hf := ite_f c_9 hf
          obtain ⟨x5_10, ex5_10, hf⟩ := mv_some hf
          refine lv_iinc (v := x5_10) (lv' := [(5, .int x5_10), (7, .ref (ad (q1 + 4 + x5.toNatClampNeg))), (6, .ref (ad (q1 + 4 + x4.toNatClampNeg))), (0, .ref (ad p0)), (1, .ref (ad q1)), (2, .int x2), (3, .int x3), (4, .int x4)]) hx hb dX8_waysOnBoth_104 hl (k := 7) rfl (by rw [ex5_10]; rfl) (by decide) rfl (fun ls hl => ?_)
          refine lv_goto (tgt := 39) hx hb dX8_waysOnBoth_107 (by decide) ?_
          exact ih x3 x4 x5_10 H locs ls hP hS (lv_sub hl [3, 4, 5, 6, 7, 0] rfl) hf
        · replace hf := ite_t c_9 hf
          refine lv_aload hx hb dX8_waysOnBoth_75 (lv_at hl 0 rfl) ?_
          refine mq_geti (Tt := TX5) (N := 5) (C := RX5) hx hb hts hiX5 hown hK hP (shTC_X10_4i_0 hq1 (mm_in_lt h_8)) rfl 3 (by decide) rfl hw3 (fun _ h9 => h9) dX8_waysOnBoth_77 ?_
          refine lv_iload_n hx hb dX8_waysOnBoth_80 rfl (lv_at hl 4 rfl) ?_
          refine lv_icmp_ne (tgt := 104) hx hb dX8_waysOnBoth_81 (by decide) (fun c_11 => ?_) (fun c_11 => ?_)
          · replace hf := ite_f c_11 hf
            obtain ⟨x5_12, ex5_12, hf⟩ := mv_some hf
            refine lv_iinc (v := x5_12) (lv' := [(5, .int x5_12), (7, .ref (ad (q1 + 4 + x5.toNatClampNeg))), (6, .ref (ad (q1 + 4 + x4.toNatClampNeg))), (0, .ref (ad p0)), (1, .ref (ad q1)), (2, .int x2), (3, .int x3), (4, .int x4)]) hx hb dX8_waysOnBoth_104 hl (k := 7) rfl (by rw [ex5_12]; rfl) (by decide) rfl (fun ls hl => ?_)
            refine lv_goto (tgt := 39) hx hb dX8_waysOnBoth_107 (by decide) ?_
            exact ih x3 x4 x5_12 H locs ls hP hS (lv_sub hl [3, 4, 5, 6, 7, 0] rfl) hf
          · replace hf := ite_t c_11 hf
            refine lv_aload_n hx hb dX8_waysOnBoth_84 rfl (lv_at hl 2 rfl) ?_
            refine lv_aload hx hb dX8_waysOnBoth_85 (lv_at hl 1 rfl) ?_
            obtain ⟨r_13, hr_14, hf⟩ := op_some hf
            refine mq_calli (va_runV (As := []) (rest := [.ref (ad p0)]) ⟨hx, hb, hml, hown, hts⟩ (c_X5_mark l D ad cy (q1 + 4 + x4.toNatClampNeg) g (shTC_X10_4i_0 hq1 (mm_in_lt h_7)) r_13 hr_14) (cwV 0 hts gX8_waysOnBoth_X5_mark rfl rfl rfl (by decide +kernel) ⟨Nat.le_of_ble_eq_true rfl, Nat.le_of_ble_eq_true rfl⟩) (mq_preV (q := (RX5, TX5, 5)) mm_zOkC hK hP hI hZ hS (shTC_X10_4i_0 hq1 (mm_in_lt h_7)) rfl) rfl rfl hl.1 rfl (lv_room (Nat.le_of_ble_eq_true rfl)) dX8_waysOnBoth_87 ⟨Nat.le_refl _, Nat.le_refl _⟩) hS (fun H locs hP hS => ?_)
            refine lv_aload hx hb dX8_waysOnBoth_90 (lv_at hl 0 rfl) ?_
            obtain ⟨r_15, hr_16, hf⟩ := op_some hf
            refine mq_calli (va_runV (As := []) (rest := [.int r_13, .ref (ad p0)]) ⟨hx, hb, hml, hown, hts⟩ (c_X5_mark l D ad cy (q1 + 4 + x5.toNatClampNeg) g (shTC_X10_4i_0 hq1 (mm_in_lt h_8)) r_15 hr_16) (cwV 0 hts gX8_waysOnBoth_X5_mark rfl rfl rfl (by decide +kernel) ⟨Nat.le_of_ble_eq_true rfl, Nat.le_of_ble_eq_true rfl⟩) (mq_preV (q := (RX5, TX5, 5)) mm_zOkC hK hP hI hZ hS (shTC_X10_4i_0 hq1 (mm_in_lt h_8)) rfl) rfl rfl hl.1 rfl (lv_room (Nat.le_of_ble_eq_true rfl)) dX8_waysOnBoth_92 ⟨Nat.le_refl _, Nat.le_refl _⟩) hS (fun H locs hP hS => ?_)
            obtain ⟨r_17, hr_18, hf⟩ := op_some hf
            refine mq_calli (va_runV (As := [.int r_13, .int r_15]) (rest := []) ⟨hx, hb, hml, hown, hts⟩ (c_X8_isOf l D ad cy p0 r_13 r_15 g hp r_17 hr_18) (cwV 2 hts gX8_waysOnBoth_X8_isOf rfl rfl rfl (by decide +kernel) ⟨Nat.le_of_ble_eq_true rfl, Nat.le_of_ble_eq_true rfl⟩) (mq_preV (q := (RX8, TX8, 2)) mm_zOkC hK hP hI hZ hS hp rfl) rfl rfl hl.1 rfl (lv_room (Nat.le_of_ble_eq_true rfl)) dX8_waysOnBoth_95 ⟨Nat.le_refl _, Nat.le_refl _⟩) hS (fun H locs hP hS => ?_)
            refine lv_if_eq (tgt := 104) hx hb dX8_waysOnBoth_98 (by decide) (fun c_19 => ?_) (fun c_19 => ?_)
            · replace hf := ite_t c_19 hf
              obtain ⟨x5_20, ex5_20, hf⟩ := mv_some hf
              refine lv_iinc (v := x5_20) (lv' := [(5, .int x5_20), (7, .ref (ad (q1 + 4 + x5.toNatClampNeg))), (6, .ref (ad (q1 + 4 + x4.toNatClampNeg))), (0, .ref (ad p0)), (1, .ref (ad q1)), (2, .int x2), (3, .int x3), (4, .int x4)]) hx hb dX8_waysOnBoth_104 hl (k := 7) rfl (by rw [ex5_20]; rfl) (by decide) rfl (fun ls hl => ?_)
              refine lv_goto (tgt := 39) hx hb dX8_waysOnBoth_107 (by decide) ?_
              exact ih x3 x4 x5_20 H locs ls hP hS (lv_sub hl [3, 4, 5, 6, 7, 0] rfl) hf
            · replace hf := ite_f c_19 hf
              obtain ⟨x3_21, ex3_21, hf⟩ := mv_some hf
              refine lv_iinc (v := x3_21) (lv' := [(3, .int x3_21), (7, .ref (ad (q1 + 4 + x5.toNatClampNeg))), (6, .ref (ad (q1 + 4 + x4.toNatClampNeg))), (0, .ref (ad p0)), (1, .ref (ad q1)), (2, .int x2), (4, .int x4), (5, .int x5)]) hx hb dX8_waysOnBoth_101 hl (k := 5) rfl (by rw [ex3_21]; rfl) (by decide) rfl (fun ls hl => ?_)
              obtain ⟨x5_22, ex5_22, hf⟩ := mv_some hf
              refine lv_iinc (v := x5_22) (lv' := [(5, .int x5_22), (3, .int x3_21), (7, .ref (ad (q1 + 4 + x5.toNatClampNeg))), (6, .ref (ad (q1 + 4 + x4.toNatClampNeg))), (0, .ref (ad p0)), (1, .ref (ad q1)), (2, .int x2), (4, .int x4)]) hx hb dX8_waysOnBoth_104 hl (k := 7) rfl (by rw [ex5_22]; rfl) (by decide) rfl (fun ls hl => ?_)
              refine lv_goto (tgt := 39) hx hb dX8_waysOnBoth_107 (by decide) ?_
              exact ih x3_21 x4 x5_22 H locs ls hP hS (lv_sub hl [4, 5, 6, 1, 7, 0] rfl) hf
  have hc27 : ∀ (n : Nat), ∀ (x3 : Int32) (x4 : Int32) (H : Heap) (locs : List Loc) (ls : Array Slot), va_P D vwCl (mm_L TC ad cy g) H → va_S (mm_A TC ad) s.heap H locs → lv_has ls 8 [(0, .ref (ad p0)), (1, .ref (ad q1)), (2, .int x2), (3, .int x3), (4, .int x4)] → f_X8_waysOnBoth_c27 p0 q1 x2 n x3 x4 g = some r0 → W p l e (headSpec wsX8_waysOnBoth (rm_X8_waysOnBoth)).room s m args below meth c H locs 0 0 (MQ below (mm_Qi D TC ad cy r0 g) args s 0 0 (mm_A TC ad)) (F0 m 27 ls []) := by
    intro n
    induction n with
    | zero =>
      intro x3 x4 H locs ls hP hS hl hf
      rw [f_X8_waysOnBoth_c27] at hf
      cases hf
    | succ n ih =>
      intro x3 x4 H locs ls hP hS hl hf
      rw [f_X8_waysOnBoth_c27] at hf
      refine lv_iload hx hb dX8_waysOnBoth_27 (lv_at hl 4 rfl) ?_
      refine lv_aload_n hx hb dX8_waysOnBoth_29 rfl (lv_at hl 1 rfl) ?_
      refine mq_geti (Tt := TX10) (N := 9) (C := RX10) hx hb hts hiX10 hown hK hP hq1 rfl 3 (by decide) rfl hw0 (fun _ h9 => h9) dX8_waysOnBoth_30 ?_
      refine lv_icmp_ge (tgt := 116) hx hb dX8_waysOnBoth_33 (by decide) (fun c_4 => ?_) (fun c_4 => ?_)
      · replace hf := ite_t c_4 hf
        refine lv_iload_n hx hb dX8_waysOnBoth_116 rfl (lv_at hl 3 rfl) ?_
        exact mq_iret hx hb hr rfl hlocks hP hS (Option.some.inj hf) rfl dX8_waysOnBoth_117
      · replace hf := ite_f c_4 hf
        refine lv_iconst (v := 0) hx hb dX8_waysOnBoth_36 (by decide) ?_
        refine lv_istore (lv' := [(5, .int 0), (0, .ref (ad p0)), (1, .ref (ad q1)), (2, .int x2), (3, .int x3), (4, .int x4)]) hx hb dX8_waysOnBoth_37 hl (by decide) rfl (fun ls hl => ?_)
        exact hc39 (f_X8_waysOnBoth_c27 p0 q1 x2 n) ih FU x3 x4 0 H locs ls hP hS (lv_sub hl [1, 2, 3, 4, 5, 0] rfl) hf
  unfold f_X8_waysOnBoth at hf
  have hH9 : ∀ (H : Heap) (locs : List Loc), H = s.heap → locs = [] → va_P D vwCl (mm_L TC ad cy g) H → va_S (mm_A TC ad) s.heap H locs → W p l e (headSpec wsX8_waysOnBoth (rm_X8_waysOnBoth)).room s m args below meth c H locs 0 0 (MQ below (mm_Qi D TC ad cy r0 g) args s 0 0 (mm_A TC ad)) (F0 m 0 ls []) := by
    intro H locs hH9 hL9 hP hS
    clear hH9 hL9
    refine lv_aload_n hx hb dX8_waysOnBoth_0 rfl (lv_at hl 0 rfl) ?_
    refine lv_iconst (v := 0) hx hb dX8_waysOnBoth_1 (by decide) ?_
    refine lv_iconst (v := 1) hx hb dX8_waysOnBoth_2 (by decide) ?_
    obtain ⟨r_1, hr_2, hf⟩ := op_some hf
    refine mq_calli (va_runV (As := [.int 0, .int 1]) (rest := []) ⟨hx, hb, hml, hown, hts⟩ (c_X8_isOf l D ad cy p0 0 1 g hp r_1 hr_2) (cwV 2 hts gX8_waysOnBoth_X8_isOf rfl rfl rfl (by decide +kernel) ⟨Nat.le_of_ble_eq_true rfl, Nat.le_of_ble_eq_true rfl⟩) (mq_preV (q := (RX8, TX8, 2)) mm_zOkC hK hP hI hZ hS hp rfl) rfl rfl hl.1 rfl (lv_room (Nat.le_of_ble_eq_true rfl)) dX8_waysOnBoth_3 ⟨Nat.le_refl _, Nat.le_refl _⟩) hS (fun H locs hP hS => ?_)
    refine lv_if_ne (tgt := 18) hx hb dX8_waysOnBoth_6 (by decide) (fun c_3 => ?_) (fun c_3 => ?_)
    · replace hf := ite_f c_3 hf
      refine lv_iconst (v := 1) hx hb dX8_waysOnBoth_18 (by decide) ?_
      refine lv_goto (tgt := 23) hx hb dX8_waysOnBoth_19 (by decide) ?_
      refine lv_istore_n (lv' := [(3, .int 1), (0, .ref (ad p0)), (1, .ref (ad q1)), (2, .int x2)]) hx hb dX8_waysOnBoth_23 rfl hl (by decide) rfl (fun ls hl => ?_)
      refine lv_iconst (v := 0) hx hb dX8_waysOnBoth_24 (by decide) ?_
      refine lv_istore (lv' := [(4, .int 0), (3, .int 1), (0, .ref (ad p0)), (1, .ref (ad q1)), (2, .int x2)]) hx hb dX8_waysOnBoth_25 hl (by decide) rfl (fun ls hl => ?_)
      exact hc27 FU 1 0 H locs ls hP hS (lv_sub hl [2, 3, 4, 1, 0] rfl) hf
    · replace hf := ite_t c_3 hf
      refine lv_aload_n hx hb dX8_waysOnBoth_9 rfl (lv_at hl 0 rfl) ?_
      refine lv_iconst (v := 1) hx hb dX8_waysOnBoth_10 (by decide) ?_
      refine lv_iconst (v := 0) hx hb dX8_waysOnBoth_11 (by decide) ?_
      obtain ⟨r_23, hr_24, hf⟩ := op_some hf
      refine mq_calli (va_runV (As := [.int 1, .int 0]) (rest := []) ⟨hx, hb, hml, hown, hts⟩ (c_X8_isOf l D ad cy p0 1 0 g hp r_23 hr_24) (cwV 2 hts gX8_waysOnBoth_X8_isOf rfl rfl rfl (by decide +kernel) ⟨Nat.le_of_ble_eq_true rfl, Nat.le_of_ble_eq_true rfl⟩) (mq_preV (q := (RX8, TX8, 2)) mm_zOkC hK hP hI hZ hS hp rfl) rfl rfl hl.1 rfl (lv_room (Nat.le_of_ble_eq_true rfl)) dX8_waysOnBoth_12 ⟨Nat.le_refl _, Nat.le_refl _⟩) hS (fun H locs hP hS => ?_)
      refine lv_if_eq (tgt := 22) hx hb dX8_waysOnBoth_15 (by decide) (fun c_25 => ?_) (fun c_25 => ?_)
      · replace hf := ite_t c_25 hf
        refine lv_iconst (v := 0) hx hb dX8_waysOnBoth_22 (by decide) ?_
        refine lv_istore_n (lv' := [(3, .int 0), (0, .ref (ad p0)), (1, .ref (ad q1)), (2, .int x2)]) hx hb dX8_waysOnBoth_23 rfl hl (by decide) rfl (fun ls hl => ?_)
        refine lv_iconst (v := 0) hx hb dX8_waysOnBoth_24 (by decide) ?_
        refine lv_istore (lv' := [(4, .int 0), (3, .int 0), (0, .ref (ad p0)), (1, .ref (ad q1)), (2, .int x2)]) hx hb dX8_waysOnBoth_25 hl (by decide) rfl (fun ls hl => ?_)
        exact hc27 FU 0 0 H locs ls hP hS (lv_sub hl [2, 3, 4, 1, 0] rfl) hf
      · replace hf := ite_f c_25 hf
        refine lv_iconst (v := 1) hx hb dX8_waysOnBoth_18 (by decide) ?_
        refine lv_goto (tgt := 23) hx hb dX8_waysOnBoth_19 (by decide) ?_
        refine lv_istore_n (lv' := [(3, .int 1), (0, .ref (ad p0)), (1, .ref (ad q1)), (2, .int x2)]) hx hb dX8_waysOnBoth_23 rfl hl (by decide) rfl (fun ls hl => ?_)
        refine lv_iconst (v := 0) hx hb dX8_waysOnBoth_24 (by decide) ?_
        refine lv_istore (lv' := [(4, .int 0), (3, .int 1), (0, .ref (ad p0)), (1, .ref (ad q1)), (2, .int x2)]) hx hb dX8_waysOnBoth_25 hl (by decide) rfl (fun ls hl => ?_)
        exact hc27 FU 1 0 H locs ls hP hS (lv_sub hl [2, 3, 4, 1, 0] rfl) hf
  exact hH9 s.heap [] rfl rfl hP hS
abbrev rm_X8_waysOnOne : Room := ({ frames := 1, cells := 0, slots := 0, locals := 23 } : Room)
set_option maxHeartbeats 4000000 in
set_option maxRecDepth 100000 in
theorem c_X8_waysOnOne (l : Launch) (D : va_G) (ad : Nat → Nat) (cy : Nat → ClassId) (p0 : Nat) (q1 : Nat) (x2 : Int32) (g : Mm) (hp : TC[p0]? = some sX8) (hq1 : TC[q1]? = some sX10) (r0 : Int32) (hf : f_X8_waysOnOne p0 q1 x2 g = some r0) : Met l yX8_waysOnOne wsX8_waysOnOne rm_X8_waysOnOne (va_Pc [.ref (ad p0), .ref (ad q1), .int x2] (mm_pre mm_Z D TC ad cy g)) (mm_Qi D TC ad cy r0 g) 0 0 (mm_A TC ad) := by
  refine Met.ofW (cc := cX8_waysOnOne) (maxL := 7) (ret := (some .int)) (by decide) rfl ?_
  intro p e s m args below meth c s₁ B hml hv
  obtain ⟨hargs, hP, hK, hI, hZ⟩ := hv
  have hx := B.exec
  have hb := B.bytes
  have hr := B.returns
  have hts := atoms_spec (ws := wsX8_waysOnOne) B.pre
  have hown : s.vm.findClass RX8 = some m.cls := findClass_of_methodNamed B.named
  have hlocks := B.notSynchronized
  have hw0 := hts (.fieldLink RX8 28 "LeftShoes$World" "feet" "[I") (by decide +kernel)
  have hiX10 : ∀ w ∈ wsX100, w ∈ wsX8_waysOnOne := by decide +kernel
  have hw2 := hts (.fieldLink RX8 44 "LeftShoes$World" "shoeCount" "I") (by decide +kernel)
  have hw3 := hts (.fieldLink RX8 47 "LeftShoes$World" "shoes" "[LLeftShoes$Shoe;") (by decide +kernel)
  have hw4 := hts (.fieldLink RX8 51 "LeftShoes$Shoe" "owner" "I") (by decide +kernel)
  have hiX5 : ∀ w ∈ wsX50, w ∈ wsX8_waysOnOne := by decide +kernel
  have hw6 := hts (.fieldLink RX8 60 "LeftShoes$Shoe" "foot" "I") (by decide +kernel)
  rw [show entryFrame m args 7 = F0 m 0 ((lg_sl ([.ref (ad p0), .ref (ad q1), .int x2] : List Value) ++ List.replicate (7 - (lg_sl ([.ref (ad p0), .ref (ad q1), .int x2] : List Value)).length) Slot.unset).toArray) [] from by rw [hargs]; exact lg_entry_eq m _ _]
  have hl := lv_entry ([.ref (ad p0), .ref (ad q1), .int x2] : List Value) (n := 7) (by exact Nat.le_of_ble_eq_true rfl)
  generalize (lg_sl ([.ref (ad p0), .ref (ad q1), .int x2] : List Value) ++ List.replicate (7 - (lg_sl ([.ref (ad p0), .ref (ad q1), .int x2] : List Value)).length) Slot.unset).toArray = ls at hl ⊢
  have hl : lv_has ls 7 [(0, .ref (ad p0)), (1, .ref (ad q1)), (2, .int x2)] := by exact hl
  have hS : va_S (mm_A TC ad) s.heap s.heap [] := va_S.rf
  clear hargs
  have hc28 : ∀ (n : Nat), ∀ (x3 : Int32) (x4 : Int32) (x5 : Int32) (H : Heap) (locs : List Loc) (ls : Array Slot), va_P D vwCl (mm_L TC ad cy g) H → va_S (mm_A TC ad) s.heap H locs → lv_has ls 7 [(0, .ref (ad p0)), (1, .ref (ad q1)), (2, .int x2), (3, .int x3), (4, .int x4), (5, .int x5)] → f_X8_waysOnOne_c28 p0 q1 x2 n x3 x4 x5 g = some r0 → W p l e (headSpec wsX8_waysOnOne (rm_X8_waysOnOne)).room s m args below meth c H locs 0 0 (MQ below (mm_Qi D TC ad cy r0 g) args s 0 0 (mm_A TC ad)) (F0 m 28 ls []) := by
    intro n
    induction n with
    | zero =>
      intro x3 x4 x5 H locs ls hP hS hl hf
      rw [f_X8_waysOnOne_c28] at hf
      cases hf
    | succ n ih =>
      intro x3 x4 x5 H locs ls hP hS hl hf
      rw [f_X8_waysOnOne_c28] at hf
      refine lv_iload hx hb dX8_waysOnOne_28 (lv_at hl 5 rfl) ?_
      refine lv_aload_n hx hb dX8_waysOnOne_30 rfl (lv_at hl 1 rfl) ?_
      refine mq_geti (Tt := TX10) (N := 9) (C := RX10) hx hb hts hiX10 hown hK hP hq1 rfl 3 (by decide) rfl hw2 (fun _ h9 => h9) dX8_waysOnOne_31 ?_
      refine lv_icmp_ge (tgt := 90) hx hb dX8_waysOnOne_34 (by decide) (fun c_6 => ?_) (fun c_6 => ?_)
      · replace hf := ite_t c_6 hf
        refine lv_iload hx hb dX8_waysOnOne_90 (lv_at hl 4 rfl) ?_
        exact mq_iret hx hb hr rfl hlocks hP hS (Option.some.inj hf) rfl dX8_waysOnOne_92
      · replace hf := ite_f c_6 hf
        refine lv_aload_n hx hb dX8_waysOnOne_37 rfl (lv_at hl 1 rfl) ?_
        refine mq_getr (Tt := TX10) (N := 9) (C := RX10) hx hb hts hiX10 hown hK hP hq1 rfl 4 3 (by decide) rfl hw3 (fun _ h9 => h9) dX8_waysOnOne_38 ?_
        refine lv_iload hx hb dX8_waysOnOne_41 (lv_at hl 5 rfl) ?_
        obtain ⟨h_7, hf⟩ := og_some hf
        refine mq_aald hx hb hK hP (N := 16) (shTC_X10_3 hq1) rfl h_7 dX8_waysOnOne_43 ?_
        refine lv_astore (lv' := [(6, .ref (ad (q1 + 4 + x5.toNatClampNeg))), (0, .ref (ad p0)), (1, .ref (ad q1)), (2, .int x2), (3, .int x3), (4, .int x4), (5, .int x5)]) hx hb dX8_waysOnOne_44 hl (by decide) rfl (fun ls hl => ?_)
        refine lv_aload hx hb dX8_waysOnOne_46 (lv_at hl 0 rfl) ?_
        refine mq_geti (Tt := TX5) (N := 5) (C := RX5) hx hb hts hiX5 hown hK hP (shTC_X10_4i_0 hq1 (mm_in_lt h_7)) rfl 3 (by decide) rfl hw4 (fun _ h9 => h9) dX8_waysOnOne_48 ?_
        refine lv_iload_n hx hb dX8_waysOnOne_51 rfl (lv_at hl 3 rfl) ?_
        refine lv_icmp_ne (tgt := 84) hx hb dX8_waysOnOne_52 (by decide) (fun c_8 => ?_) (fun c_8 => ?_)
        · replace hf := ite_f c_8 hf
          obtain ⟨x5_9, ex5_9, hf⟩ := mv_some hf
          refine lv_iinc (v := x5_9) (lv' := [(5, .int x5_9), (6, .ref (ad (q1 + 4 + x5.toNatClampNeg))), (0, .ref (ad p0)), (1, .ref (ad q1)), (2, .int x2), (3, .int x3), (4, .int x4)]) hx hb dX8_waysOnOne_84 hl (k := 6) rfl (by rw [ex5_9]; rfl) (by decide) rfl (fun ls hl => ?_)
          refine lv_goto (tgt := 28) hx hb dX8_waysOnOne_87 (by decide) ?_
          exact ih x3 x4 x5_9 H locs ls hP hS (lv_sub hl [2, 3, 4, 5, 6, 0] rfl) hf
        · replace hf := ite_t c_8 hf
          refine lv_aload hx hb dX8_waysOnOne_55 (lv_at hl 0 rfl) ?_
          refine mq_geti (Tt := TX5) (N := 5) (C := RX5) hx hb hts hiX5 hown hK hP (shTC_X10_4i_0 hq1 (mm_in_lt h_7)) rfl 0 (by decide) rfl hw6 (fun _ h9 => h9) dX8_waysOnOne_57 ?_
          refine lv_iload_n hx hb dX8_waysOnOne_60 rfl (lv_at hl 4 rfl) ?_
          refine lv_icmp_ne (tgt := 84) hx hb dX8_waysOnOne_61 (by decide) (fun c_10 => ?_) (fun c_10 => ?_)
          · replace hf := ite_f c_10 hf
            obtain ⟨x5_11, ex5_11, hf⟩ := mv_some hf
            refine lv_iinc (v := x5_11) (lv' := [(5, .int x5_11), (6, .ref (ad (q1 + 4 + x5.toNatClampNeg))), (0, .ref (ad p0)), (1, .ref (ad q1)), (2, .int x2), (3, .int x3), (4, .int x4)]) hx hb dX8_waysOnOne_84 hl (k := 6) rfl (by rw [ex5_11]; rfl) (by decide) rfl (fun ls hl => ?_)
            refine lv_goto (tgt := 28) hx hb dX8_waysOnOne_87 (by decide) ?_
            exact ih x3 x4 x5_11 H locs ls hP hS (lv_sub hl [2, 3, 4, 5, 6, 0] rfl) hf
          · replace hf := ite_t c_10 hf
            refine lv_aload_n hx hb dX8_waysOnOne_64 rfl (lv_at hl 1 rfl) ?_
            refine lv_aload hx hb dX8_waysOnOne_65 (lv_at hl 0 rfl) ?_
            obtain ⟨r_12, hr_13, hf⟩ := op_some hf
            refine mq_calli (va_runV (As := []) (rest := [.ref (ad p0)]) ⟨hx, hb, hml, hown, hts⟩ (c_X5_mark l D ad cy (q1 + 4 + x5.toNatClampNeg) g (shTC_X10_4i_0 hq1 (mm_in_lt h_7)) r_12 hr_13) (cwV 0 hts gX8_waysOnOne_X5_mark rfl rfl rfl (by decide +kernel) ⟨Nat.le_of_ble_eq_true rfl, Nat.le_of_ble_eq_true rfl⟩) (mq_preV (q := (RX5, TX5, 5)) mm_zOkC hK hP hI hZ hS (shTC_X10_4i_0 hq1 (mm_in_lt h_7)) rfl) rfl rfl hl.1 rfl (lv_room (Nat.le_of_ble_eq_true rfl)) dX8_waysOnOne_67 ⟨Nat.le_refl _, Nat.le_refl _⟩) hS (fun H locs hP hS => ?_)
            refine lv_aload hx hb dX8_waysOnOne_70 (lv_at hl 0 rfl) ?_
            obtain ⟨r_14, hr_15, hf⟩ := op_some hf
            refine mq_calli (va_runV (As := []) (rest := [.int r_12, .ref (ad p0)]) ⟨hx, hb, hml, hown, hts⟩ (c_X5_mark l D ad cy (q1 + 4 + x5.toNatClampNeg) g (shTC_X10_4i_0 hq1 (mm_in_lt h_7)) r_14 hr_15) (cwV 0 hts gX8_waysOnOne_X5_mark rfl rfl rfl (by decide +kernel) ⟨Nat.le_of_ble_eq_true rfl, Nat.le_of_ble_eq_true rfl⟩) (mq_preV (q := (RX5, TX5, 5)) mm_zOkC hK hP hI hZ hS (shTC_X10_4i_0 hq1 (mm_in_lt h_7)) rfl) rfl rfl hl.1 rfl (lv_room (Nat.le_of_ble_eq_true rfl)) dX8_waysOnOne_72 ⟨Nat.le_refl _, Nat.le_refl _⟩) hS (fun H locs hP hS => ?_)
            obtain ⟨r_16, hr_17, hf⟩ := op_some hf
            refine mq_calli (va_runV (As := [.int r_12, .int r_14]) (rest := []) ⟨hx, hb, hml, hown, hts⟩ (c_X8_isOf l D ad cy p0 r_12 r_14 g hp r_16 hr_17) (cwV 2 hts gX8_waysOnOne_X8_isOf rfl rfl rfl (by decide +kernel) ⟨Nat.le_of_ble_eq_true rfl, Nat.le_of_ble_eq_true rfl⟩) (mq_preV (q := (RX8, TX8, 2)) mm_zOkC hK hP hI hZ hS hp rfl) rfl rfl hl.1 rfl (lv_room (Nat.le_of_ble_eq_true rfl)) dX8_waysOnOne_75 ⟨Nat.le_refl _, Nat.le_refl _⟩) hS (fun H locs hP hS => ?_)
            refine lv_if_eq (tgt := 84) hx hb dX8_waysOnOne_78 (by decide) (fun c_18 => ?_) (fun c_18 => ?_)
            · replace hf := ite_t c_18 hf
              obtain ⟨x5_19, ex5_19, hf⟩ := mv_some hf
              refine lv_iinc (v := x5_19) (lv' := [(5, .int x5_19), (6, .ref (ad (q1 + 4 + x5.toNatClampNeg))), (0, .ref (ad p0)), (1, .ref (ad q1)), (2, .int x2), (3, .int x3), (4, .int x4)]) hx hb dX8_waysOnOne_84 hl (k := 6) rfl (by rw [ex5_19]; rfl) (by decide) rfl (fun ls hl => ?_)
              refine lv_goto (tgt := 28) hx hb dX8_waysOnOne_87 (by decide) ?_
              exact ih x3 x4 x5_19 H locs ls hP hS (lv_sub hl [2, 3, 4, 5, 6, 0] rfl) hf
            · replace hf := ite_f c_18 hf
              obtain ⟨x4_20, ex4_20, hf⟩ := mv_some hf
              refine lv_iinc (v := x4_20) (lv' := [(4, .int x4_20), (6, .ref (ad (q1 + 4 + x5.toNatClampNeg))), (0, .ref (ad p0)), (1, .ref (ad q1)), (2, .int x2), (3, .int x3), (5, .int x5)]) hx hb dX8_waysOnOne_81 hl (k := 5) rfl (by rw [ex4_20]; rfl) (by decide) rfl (fun ls hl => ?_)
              obtain ⟨x5_21, ex5_21, hf⟩ := mv_some hf
              refine lv_iinc (v := x5_21) (lv' := [(5, .int x5_21), (4, .int x4_20), (6, .ref (ad (q1 + 4 + x5.toNatClampNeg))), (0, .ref (ad p0)), (1, .ref (ad q1)), (2, .int x2), (3, .int x3)]) hx hb dX8_waysOnOne_84 hl (k := 6) rfl (by rw [ex5_21]; rfl) (by decide) rfl (fun ls hl => ?_)
              refine lv_goto (tgt := 28) hx hb dX8_waysOnOne_87 (by decide) ?_
              exact ih x3 x4_20 x5_21 H locs ls hP hS (lv_sub hl [3, 4, 5, 6, 1, 0] rfl) hf
  unfold f_X8_waysOnOne at hf
  have hH9 : ∀ (H : Heap) (locs : List Loc), H = s.heap → locs = [] → va_P D vwCl (mm_L TC ad cy g) H → va_S (mm_A TC ad) s.heap H locs → W p l e (headSpec wsX8_waysOnOne (rm_X8_waysOnOne)).room s m args below meth c H locs 0 0 (MQ below (mm_Qi D TC ad cy r0 g) args s 0 0 (mm_A TC ad)) (F0 m 0 ls []) := by
    intro H locs hH9 hL9 hP hS
    clear hH9 hL9
    refine lv_aload_n hx hb dX8_waysOnOne_0 rfl (lv_at hl 1 rfl) ?_
    refine mq_getr (Tt := TX10) (N := 9) (C := RX10) hx hb hts hiX10 hown hK hP hq1 rfl 2 2 (by decide) rfl hw0 (fun _ h9 => h9) dX8_waysOnOne_1 ?_
    refine lv_iload_n hx hb dX8_waysOnOne_4 rfl (lv_at hl 2 rfl) ?_
    obtain ⟨h_1, hf⟩ := og_some hf
    refine mq_iald hx hb hK hP (N := 5) (shTC_X10_2 hq1) h_1 dX8_waysOnOne_5 ?_
    refine lv_iconst (v := 1) hx hb dX8_waysOnOne_6 (by decide) ?_
    refine lv_isub hx hb dX8_waysOnOne_7 ?_
    obtain ⟨x3_2, ex3_2, hf⟩ := mv_some hf
    refine mq_nm ex3_2 ?_
    refine lv_istore_n (lv' := [(3, .int x3_2), (0, .ref (ad p0)), (1, .ref (ad q1)), (2, .int x2)]) hx hb dX8_waysOnOne_8 rfl hl (by decide) rfl (fun ls hl => ?_)
    refine lv_aload_n hx hb dX8_waysOnOne_9 rfl (lv_at hl 1 rfl) ?_
    refine lv_iload_n hx hb dX8_waysOnOne_10 rfl (lv_at hl 0 rfl) ?_
    refine lv_iload_n hx hb dX8_waysOnOne_11 rfl (lv_at hl 0 rfl) ?_
    obtain ⟨r_3, hr_4, hf⟩ := op_some hf
    refine mq_calli (va_runV (As := [.int x3_2, .int x3_2]) (rest := []) ⟨hx, hb, hml, hown, hts⟩ (c_X8_isOf l D ad cy p0 x3_2 x3_2 g hp r_3 hr_4) (cwV 2 hts gX8_waysOnOne_X8_isOf rfl rfl rfl (by decide +kernel) ⟨Nat.le_of_ble_eq_true rfl, Nat.le_of_ble_eq_true rfl⟩) (mq_preV (q := (RX8, TX8, 2)) mm_zOkC hK hP hI hZ hS hp rfl) rfl rfl hl.1 rfl (lv_room (Nat.le_of_ble_eq_true rfl)) dX8_waysOnOne_12 ⟨Nat.le_refl _, Nat.le_refl _⟩) hS (fun H locs hP hS => ?_)
    refine lv_if_eq (tgt := 22) hx hb dX8_waysOnOne_15 (by decide) (fun c_5 => ?_) (fun c_5 => ?_)
    · replace hf := ite_t c_5 hf
      refine lv_iconst (v := 0) hx hb dX8_waysOnOne_22 (by decide) ?_
      refine lv_istore (lv' := [(4, .int 0), (3, .int x3_2), (0, .ref (ad p0)), (1, .ref (ad q1)), (2, .int x2)]) hx hb dX8_waysOnOne_23 hl (by decide) rfl (fun ls hl => ?_)
      refine lv_iconst (v := 0) hx hb dX8_waysOnOne_25 (by decide) ?_
      refine lv_istore (lv' := [(5, .int 0), (4, .int 0), (3, .int x3_2), (0, .ref (ad p0)), (1, .ref (ad q1)), (2, .int x2)]) hx hb dX8_waysOnOne_26 hl (by decide) rfl (fun ls hl => ?_)
      exact hc28 FU x3_2 0 0 H locs ls hP hS (lv_sub hl [3, 4, 5, 2, 1, 0] rfl) hf
    · replace hf := ite_f c_5 hf
      refine lv_iconst (v := 1) hx hb dX8_waysOnOne_18 (by decide) ?_
      refine lv_goto (tgt := 23) hx hb dX8_waysOnOne_19 (by decide) ?_
      refine lv_istore (lv' := [(4, .int 1), (3, .int x3_2), (0, .ref (ad p0)), (1, .ref (ad q1)), (2, .int x2)]) hx hb dX8_waysOnOne_23 hl (by decide) rfl (fun ls hl => ?_)
      refine lv_iconst (v := 0) hx hb dX8_waysOnOne_25 (by decide) ?_
      refine lv_istore (lv' := [(5, .int 0), (4, .int 1), (3, .int x3_2), (0, .ref (ad p0)), (1, .ref (ad q1)), (2, .int x2)]) hx hb dX8_waysOnOne_26 hl (by decide) rfl (fun ls hl => ?_)
      exact hc28 FU x3_2 1 0 H locs ls hP hS (lv_sub hl [3, 4, 5, 2, 1, 0] rfl) hf
  exact hH9 s.heap [] rfl rfl hP hS
abbrev rm_X8_waysOf : Room := ({ frames := 2, cells := 0, slots := 0, locals := 50 } : Room)
set_option maxHeartbeats 4000000 in
set_option maxRecDepth 100000 in
theorem c_X8_waysOf (l : Launch) (D : va_G) (ad : Nat → Nat) (cy : Nat → ClassId) (p0 : Nat) (q1 : Nat) (x2 : Int32) (g : Mm) (hp : TC[p0]? = some sX8) (hq1 : TC[q1]? = some sX10) (r0 : Int32) (hf : f_X8_waysOf p0 q1 x2 g = some r0) : Met l yX8_waysOf wsX8_waysOf rm_X8_waysOf (va_Pc [.ref (ad p0), .ref (ad q1), .int x2] (mm_pre mm_Z D TC ad cy g)) (mm_Qi D TC ad cy r0 g) 0 0 (mm_A TC ad) := by
  refine Met.ofW (cc := cX8_waysOf) (maxL := 3) (ret := (some .int)) (by decide) rfl ?_
  intro p e s m args below meth c s₁ B hml hv
  obtain ⟨hargs, hP, hK, hI, hZ⟩ := hv
  have hx := B.exec
  have hb := B.bytes
  have hr := B.returns
  have hts := atoms_spec (ws := wsX8_waysOf) B.pre
  have hown : s.vm.findClass RX8 = some m.cls := findClass_of_methodNamed B.named
  have hlocks := B.notSynchronized
  have hw0 := hts (.fieldLink RX8 28 "LeftShoes$World" "feet" "[I") (by decide +kernel)
  have hiX10 : ∀ w ∈ wsX100, w ∈ wsX8_waysOf := by decide +kernel
  rw [show entryFrame m args 3 = F0 m 0 ((lg_sl ([.ref (ad p0), .ref (ad q1), .int x2] : List Value) ++ List.replicate (3 - (lg_sl ([.ref (ad p0), .ref (ad q1), .int x2] : List Value)).length) Slot.unset).toArray) [] from by rw [hargs]; exact lg_entry_eq m _ _]
  have hl := lv_entry ([.ref (ad p0), .ref (ad q1), .int x2] : List Value) (n := 3) (by exact Nat.le_of_ble_eq_true rfl)
  generalize (lg_sl ([.ref (ad p0), .ref (ad q1), .int x2] : List Value) ++ List.replicate (3 - (lg_sl ([.ref (ad p0), .ref (ad q1), .int x2] : List Value)).length) Slot.unset).toArray = ls at hl ⊢
  have hl : lv_has ls 3 [(0, .ref (ad p0)), (1, .ref (ad q1)), (2, .int x2)] := by exact hl
  have hS : va_S (mm_A TC ad) s.heap s.heap [] := va_S.rf
  clear hargs
  unfold f_X8_waysOf at hf
  have hH9 : ∀ (H : Heap) (locs : List Loc), H = s.heap → locs = [] → va_P D vwCl (mm_L TC ad cy g) H → va_S (mm_A TC ad) s.heap H locs → W p l e (headSpec wsX8_waysOf (rm_X8_waysOf)).room s m args below meth c H locs 0 0 (MQ below (mm_Qi D TC ad cy r0 g) args s 0 0 (mm_A TC ad)) (F0 m 0 ls []) := by
    intro H locs hH9 hL9 hP hS
    clear hH9 hL9
    refine lv_aload_n hx hb dX8_waysOf_0 rfl (lv_at hl 1 rfl) ?_
    refine mq_getr (Tt := TX10) (N := 9) (C := RX10) hx hb hts hiX10 hown hK hP hq1 rfl 2 2 (by decide) rfl hw0 (fun _ h9 => h9) dX8_waysOf_1 ?_
    refine lv_iload_n hx hb dX8_waysOf_4 rfl (lv_at hl 2 rfl) ?_
    obtain ⟨h_1, hf⟩ := og_some hf
    refine mq_iald hx hb hK hP (N := 5) (shTC_X10_2 hq1) h_1 dX8_waysOf_5 ?_
    refine lv_if_ne (tgt := 18) hx hb dX8_waysOf_6 (by decide) (fun c_2 => ?_) (fun c_2 => ?_)
    · replace hf := ite_f c_2 hf
      refine lv_aload_n hx hb dX8_waysOf_18 rfl (lv_at hl 0 rfl) ?_
      refine lv_aload_n hx hb dX8_waysOf_19 rfl (lv_at hl 1 rfl) ?_
      refine lv_iload_n hx hb dX8_waysOf_20 rfl (lv_at hl 2 rfl) ?_
      obtain ⟨r_3, hr_4, hf⟩ := op_some hf
      refine mq_calli (va_runV (As := [.ref (ad q1), .int x2]) (rest := []) ⟨hx, hb, hml, hown, hts⟩ (c_X8_waysOnOne l D ad cy p0 q1 x2 g hp hq1 r_3 hr_4) (cwV 2 hts gX8_waysOf_X8_waysOnOne rfl rfl rfl (by decide +kernel) ⟨Nat.le_of_ble_eq_true rfl, Nat.le_of_ble_eq_true rfl⟩) (mq_preV (q := (RX8, TX8, 2)) mm_zOkC hK hP hI hZ hS hp rfl) rfl rfl hl.1 rfl (lv_room (Nat.le_of_ble_eq_true rfl)) dX8_waysOf_21 ⟨Nat.le_refl _, Nat.le_refl _⟩) hS (fun H locs hP hS => ?_)
      exact mq_iret hx hb hr rfl hlocks hP hS (Option.some.inj hf) rfl dX8_waysOf_24
    · replace hf := ite_t c_2 hf
      refine lv_aload_n hx hb dX8_waysOf_9 rfl (lv_at hl 0 rfl) ?_
      refine lv_aload_n hx hb dX8_waysOf_10 rfl (lv_at hl 1 rfl) ?_
      refine lv_iload_n hx hb dX8_waysOf_11 rfl (lv_at hl 2 rfl) ?_
      obtain ⟨r_5, hr_6, hf⟩ := op_some hf
      refine mq_calli (va_runV (As := [.ref (ad q1), .int x2]) (rest := []) ⟨hx, hb, hml, hown, hts⟩ (c_X8_waysOnBoth l D ad cy p0 q1 x2 g hp hq1 r_5 hr_6) (cwV 2 hts gX8_waysOf_X8_waysOnBoth rfl rfl rfl (by decide +kernel) ⟨Nat.le_of_ble_eq_true rfl, Nat.le_of_ble_eq_true rfl⟩) (mq_preV (q := (RX8, TX8, 2)) mm_zOkC hK hP hI hZ hS hp rfl) rfl rfl hl.1 rfl (lv_room (Nat.le_of_ble_eq_true rfl)) dX8_waysOf_12 ⟨Nat.le_refl _, Nat.le_refl _⟩) hS (fun H locs hP hS => ?_)
      refine lv_goto (tgt := 24) hx hb dX8_waysOf_15 (by decide) ?_
      exact mq_iret hx hb hr rfl hlocks hP hS (Option.some.inj hf) rfl dX8_waysOf_24
  exact hH9 s.heap [] rfl rfl hP hS
abbrev rm_X8_waysOfAll : Room := ({ frames := 3, cells := 0, slots := 0, locals := 72 } : Room)
set_option maxHeartbeats 4000000 in
set_option maxRecDepth 100000 in
theorem c_X8_waysOfAll (l : Launch) (D : va_G) (ad : Nat → Nat) (cy : Nat → ClassId) (p0 : Nat) (q1 : Nat) (g : Mm) (hp : TC[p0]? = some sX8) (hq1 : TC[q1]? = some sX10) (r0 : Int32) (hf : f_X8_waysOfAll p0 q1 g = some r0) : Met l yX8_waysOfAll wsX8_waysOfAll rm_X8_waysOfAll (va_Pc [.ref (ad p0), .ref (ad q1)] (mm_pre mm_Z D TC ad cy g)) (mm_Qi D TC ad cy r0 g) 0 0 (mm_A TC ad) := by
  refine Met.ofW (cc := cX8_waysOfAll) (maxL := 4) (ret := (some .int)) (by decide) rfl ?_
  intro p e s m args below meth c s₁ B hml hv
  obtain ⟨hargs, hP, hK, hI, hZ⟩ := hv
  have hx := B.exec
  have hb := B.bytes
  have hr := B.returns
  have hts := atoms_spec (ws := wsX8_waysOfAll) B.pre
  have hown : s.vm.findClass RX8 = some m.cls := findClass_of_methodNamed B.named
  have hlocks := B.notSynchronized
  have hw0 := hts (.fieldLink RX8 63 "LeftShoes$World" "peopleCount" "I") (by decide +kernel)
  have hiX10 : ∀ w ∈ wsX100, w ∈ wsX8_waysOfAll := by decide +kernel
  rw [show entryFrame m args 4 = F0 m 0 ((lg_sl ([.ref (ad p0), .ref (ad q1)] : List Value) ++ List.replicate (4 - (lg_sl ([.ref (ad p0), .ref (ad q1)] : List Value)).length) Slot.unset).toArray) [] from by rw [hargs]; exact lg_entry_eq m _ _]
  have hl := lv_entry ([.ref (ad p0), .ref (ad q1)] : List Value) (n := 4) (by exact Nat.le_of_ble_eq_true rfl)
  generalize (lg_sl ([.ref (ad p0), .ref (ad q1)] : List Value) ++ List.replicate (4 - (lg_sl ([.ref (ad p0), .ref (ad q1)] : List Value)).length) Slot.unset).toArray = ls at hl ⊢
  have hl : lv_has ls 4 [(0, .ref (ad p0)), (1, .ref (ad q1))] := by exact hl
  have hS : va_S (mm_A TC ad) s.heap s.heap [] := va_S.rf
  clear hargs
  have hc4 : ∀ (n : Nat), ∀ (x2 : Int32) (x3 : Int32) (H : Heap) (locs : List Loc) (ls : Array Slot), va_P D vwCl (mm_L TC ad cy g) H → va_S (mm_A TC ad) s.heap H locs → lv_has ls 4 [(0, .ref (ad p0)), (1, .ref (ad q1)), (2, .int x2), (3, .int x3)] → f_X8_waysOfAll_c4 p0 q1 n x2 x3 g = some r0 → W p l e (headSpec wsX8_waysOfAll (rm_X8_waysOfAll)).room s m args below meth c H locs 0 0 (MQ below (mm_Qi D TC ad cy r0 g) args s 0 0 (mm_A TC ad)) (F0 m 4 ls []) := by
    intro n
    induction n with
    | zero =>
      intro x2 x3 H locs ls hP hS hl hf
      rw [f_X8_waysOfAll_c4] at hf
      cases hf
    | succ n ih =>
      intro x2 x3 H locs ls hP hS hl hf
      rw [f_X8_waysOfAll_c4] at hf
      refine lv_iload_n hx hb dX8_waysOfAll_4 rfl (lv_at hl 3 rfl) ?_
      refine lv_aload_n hx hb dX8_waysOfAll_5 rfl (lv_at hl 1 rfl) ?_
      refine mq_geti (Tt := TX10) (N := 9) (C := RX10) hx hb hts hiX10 hown hK hP hq1 rfl 0 (by decide) rfl hw0 (fun _ h9 => h9) dX8_waysOfAll_6 ?_
      refine lv_icmp_ge (tgt := 27) hx hb dX8_waysOfAll_9 (by decide) (fun c_1 => ?_) (fun c_1 => ?_)
      · replace hf := ite_t c_1 hf
        refine lv_iload_n hx hb dX8_waysOfAll_27 rfl (lv_at hl 2 rfl) ?_
        exact mq_iret hx hb hr rfl hlocks hP hS (Option.some.inj hf) rfl dX8_waysOfAll_28
      · replace hf := ite_f c_1 hf
        refine lv_iload_n hx hb dX8_waysOfAll_12 rfl (lv_at hl 2 rfl) ?_
        refine lv_aload_n hx hb dX8_waysOfAll_13 rfl (lv_at hl 0 rfl) ?_
        refine lv_aload_n hx hb dX8_waysOfAll_14 rfl (lv_at hl 1 rfl) ?_
        refine lv_iload_n hx hb dX8_waysOfAll_15 rfl (lv_at hl 3 rfl) ?_
        obtain ⟨r_2, hr_3, hf⟩ := op_some hf
        refine mq_calli (va_runV (As := [.ref (ad q1), .int x3]) (rest := [.int x2]) ⟨hx, hb, hml, hown, hts⟩ (c_X8_waysOf l D ad cy p0 q1 x3 g hp hq1 r_2 hr_3) (cwV 2 hts gX8_waysOfAll_X8_waysOf rfl rfl rfl (by decide +kernel) ⟨Nat.le_of_ble_eq_true rfl, Nat.le_of_ble_eq_true rfl⟩) (mq_preV (q := (RX8, TX8, 2)) mm_zOkC hK hP hI hZ hS hp rfl) rfl rfl hl.1 rfl (lv_room (Nat.le_of_ble_eq_true rfl)) dX8_waysOfAll_16 ⟨Nat.le_refl _, Nat.le_refl _⟩) hS (fun H locs hP hS => ?_)
        refine lv_iadd hx hb dX8_waysOfAll_19 ?_
        obtain ⟨x2_4, ex2_4, hf⟩ := mv_some hf
        refine mq_nm ex2_4 ?_
        refine lv_istore_n (lv' := [(2, .int x2_4), (0, .ref (ad p0)), (1, .ref (ad q1)), (3, .int x3)]) hx hb dX8_waysOfAll_20 rfl hl (by decide) rfl (fun ls hl => ?_)
        obtain ⟨x3_5, ex3_5, hf⟩ := mv_some hf
        refine lv_iinc (v := x3_5) (lv' := [(3, .int x3_5), (2, .int x2_4), (0, .ref (ad p0)), (1, .ref (ad q1))]) hx hb dX8_waysOfAll_21 hl (k := 3) rfl (by rw [ex3_5]; rfl) (by decide) rfl (fun ls hl => ?_)
        refine lv_goto (tgt := 4) hx hb dX8_waysOfAll_24 (by decide) ?_
        exact ih x2_4 x3_5 H locs ls hP hS (lv_sub hl [2, 3, 1, 0] rfl) hf
  unfold f_X8_waysOfAll at hf
  have hH9 : ∀ (H : Heap) (locs : List Loc), H = s.heap → locs = [] → va_P D vwCl (mm_L TC ad cy g) H → va_S (mm_A TC ad) s.heap H locs → W p l e (headSpec wsX8_waysOfAll (rm_X8_waysOfAll)).room s m args below meth c H locs 0 0 (MQ below (mm_Qi D TC ad cy r0 g) args s 0 0 (mm_A TC ad)) (F0 m 0 ls []) := by
    intro H locs hH9 hL9 hP hS
    clear hH9 hL9
    refine lv_iconst (v := 0) hx hb dX8_waysOfAll_0 (by decide) ?_
    refine lv_istore_n (lv' := [(2, .int 0), (0, .ref (ad p0)), (1, .ref (ad q1))]) hx hb dX8_waysOfAll_1 rfl hl (by decide) rfl (fun ls hl => ?_)
    refine lv_iconst (v := 0) hx hb dX8_waysOfAll_2 (by decide) ?_
    refine lv_istore_n (lv' := [(3, .int 0), (2, .int 0), (0, .ref (ad p0)), (1, .ref (ad q1))]) hx hb dX8_waysOfAll_3 rfl hl (by decide) rfl (fun ls hl => ?_)
    exact hc4 FU 0 0 H locs ls hP hS (lv_sub hl [2, 3, 1, 0] rfl) hf
  exact hH9 s.heap [] rfl rfl hP hS
abbrev rm_X10_isShoe : Room := ({ frames := 1, cells := 0, slots := 0, locals := 22 } : Room)
set_option maxHeartbeats 4000000 in
set_option maxRecDepth 100000 in
theorem c_X10_isShoe (l : Launch) (D : va_G) (ad : Nat → Nat) (cy : Nat → ClassId) (p0 : Nat) (x1 : Int32) (g : Mm) (hp : TC[p0]? = some sX10) (r0 : Int32) (hf : f_X10_isShoe p0 x1 g = some r0) : Met l yX10_isShoe wsX10_isShoe rm_X10_isShoe (va_Pc [.ref (ad p0), .int x1] (mm_pre mm_Z D TC ad cy g)) (mm_Qi D TC ad cy r0 g) 0 0 (mm_A TC ad) := by
  refine Met.ofW (cc := cX10_isShoe) (maxL := 2) (ret := (some .boolean)) (by decide) rfl ?_
  intro p e s m args below meth c s₁ B hml hv
  obtain ⟨hargs, hP, hK, hI, hZ⟩ := hv
  have hx := B.exec
  have hb := B.bytes
  have hr := B.returns
  have hts := atoms_spec (ws := wsX10_isShoe) B.pre
  have hown : s.vm.findClass RX10 = some m.cls := findClass_of_methodNamed B.named
  have hlocks := B.notSynchronized
  have hw0 := hts (.fieldLink RX10 61 "LeftShoes$World" "shoeCount" "I") (by decide +kernel)
  have hiX10 : ∀ w ∈ wsX100, w ∈ wsX10_isShoe := by decide +kernel
  have hw2 := hts (.initialized RX11) (by decide +kernel)
  have hw3 := hts (.static yX11_isWithin) (by decide +kernel)
  rw [show entryFrame m args 2 = F0 m 0 ((lg_sl ([.ref (ad p0), .int x1] : List Value) ++ List.replicate (2 - (lg_sl ([.ref (ad p0), .int x1] : List Value)).length) Slot.unset).toArray) [] from by rw [hargs]; exact lg_entry_eq m _ _]
  have hl := lv_entry ([.ref (ad p0), .int x1] : List Value) (n := 2) (by exact Nat.le_of_ble_eq_true rfl)
  generalize (lg_sl ([.ref (ad p0), .int x1] : List Value) ++ List.replicate (2 - (lg_sl ([.ref (ad p0), .int x1] : List Value)).length) Slot.unset).toArray = ls at hl ⊢
  have hl : lv_has ls 2 [(0, .ref (ad p0)), (1, .int x1)] := by exact hl
  have hS : va_S (mm_A TC ad) s.heap s.heap [] := va_S.rf
  clear hargs
  unfold f_X10_isShoe at hf
  have hH9 : ∀ (H : Heap) (locs : List Loc), H = s.heap → locs = [] → va_P D vwCl (mm_L TC ad cy g) H → va_S (mm_A TC ad) s.heap H locs → W p l e (headSpec wsX10_isShoe (rm_X10_isShoe)).room s m args below meth c H locs 0 0 (MQ below (mm_Qi D TC ad cy r0 g) args s 0 0 (mm_A TC ad)) (F0 m 0 ls []) := by
    intro H locs hH9 hL9 hP hS
    clear hH9 hL9
    refine lv_iload_n hx hb dX10_isShoe_0 rfl (lv_at hl 1 rfl) ?_
    refine lv_iconst (v := 0) hx hb dX10_isShoe_1 (by decide) ?_
    refine lv_aload_n hx hb dX10_isShoe_2 rfl (lv_at hl 0 rfl) ?_
    refine mq_geti (Tt := TX10) (N := 9) (C := RX10) hx hb hts hiX10 hown hK hP hp rfl 3 (by decide) rfl hw0 (fun _ h9 => h9) dX10_isShoe_3 ?_
    refine lv_iconst (v := 1) hx hb dX10_isShoe_6 (by decide) ?_
    refine lv_isub hx hb dX10_isShoe_7 ?_
    obtain ⟨r_1, hr_2, hf⟩ := op_some hf
    refine mq_calli (va_runSN (As := [.int x1, .int 0, .int ((g p0 3) - 1)]) (rest := []) ⟨hx, hb, hml, hown, hts⟩ (c_X11_isWithin l D ad cy x1 0 ((g p0 3) - 1) g r_1 hr_2) ⟨va_cnB 3 hts gX10_isShoe_X11_isWithin_n57 rfl rfl rfl hZ.2.2.2.2 hw2 (by decide +kernel) ⟨Nat.le_of_ble_eq_true rfl, Nat.le_of_ble_eq_true rfl⟩, hw3, trivial⟩ (mq_preS mm_zOkC hK hP hI hZ hS) rfl rfl hl.1 rfl (lv_room (Nat.le_of_ble_eq_true rfl)) dX10_isShoe_8 ⟨Nat.le_refl _, Nat.le_refl _⟩) hS (fun H locs hP hS => ?_)
    obtain ⟨h_3, hf⟩ := og_some hf
    exact mq_iret hx hb hr (mm_01_nar h_3) hlocks hP hS (Option.some.inj hf) rfl dX10_isShoe_11
  exact hH9 s.heap [] rfl rfl hP hS
abbrev rm_X10_shoeOrNull : Room := ({ frames := 2, cells := 0, slots := 0, locals := 43 } : Room)
set_option maxHeartbeats 4000000 in
set_option maxRecDepth 100000 in
theorem c_X10_shoeOrNull (l : Launch) (D : va_G) (ad : Nat → Nat) (cy : Nat → ClassId) (p0 : Nat) (x1 : Int32) (g : Mm) (hp : TC[p0]? = some sX10) (r0 : Option Nat) (hf : f_X10_shoeOrNull p0 x1 g = some r0) : Met l yX10_shoeOrNull wsX10_shoeOrNull rm_X10_shoeOrNull (va_Pc [.ref (ad p0), .int x1] (mm_pre mm_Z D TC ad cy g)) (mm_Qq D TC ad cy r0 g) 0 0 (mm_A TC ad) := by
  refine Met.ofW (cc := cX10_shoeOrNull) (maxL := 2) (ret := (some (.object "LeftShoes$Shoe"))) (by decide) rfl ?_
  intro p e s m args below meth c s₁ B hml hv
  obtain ⟨hargs, hP, hK, hI, hZ⟩ := hv
  have hx := B.exec
  have hb := B.bytes
  have hr := B.returns
  have hts := atoms_spec (ws := wsX10_shoeOrNull) B.pre
  have hown : s.vm.findClass RX10 = some m.cls := findClass_of_methodNamed B.named
  have hlocks := B.notSynchronized
  have hw0 := hts (.fieldLink RX10 20 "LeftShoes$World" "shoes" "[LLeftShoes$Shoe;") (by decide +kernel)
  have hiX10 : ∀ w ∈ wsX100, w ∈ wsX10_shoeOrNull := by decide +kernel
  rw [show entryFrame m args 2 = F0 m 0 ((lg_sl ([.ref (ad p0), .int x1] : List Value) ++ List.replicate (2 - (lg_sl ([.ref (ad p0), .int x1] : List Value)).length) Slot.unset).toArray) [] from by rw [hargs]; exact lg_entry_eq m _ _]
  have hl := lv_entry ([.ref (ad p0), .int x1] : List Value) (n := 2) (by exact Nat.le_of_ble_eq_true rfl)
  generalize (lg_sl ([.ref (ad p0), .int x1] : List Value) ++ List.replicate (2 - (lg_sl ([.ref (ad p0), .int x1] : List Value)).length) Slot.unset).toArray = ls at hl ⊢
  have hl : lv_has ls 2 [(0, .ref (ad p0)), (1, .int x1)] := by exact hl
  have hS : va_S (mm_A TC ad) s.heap s.heap [] := va_S.rf
  clear hargs
  unfold f_X10_shoeOrNull at hf
  have hH9 : ∀ (H : Heap) (locs : List Loc), H = s.heap → locs = [] → va_P D vwCl (mm_L TC ad cy g) H → va_S (mm_A TC ad) s.heap H locs → W p l e (headSpec wsX10_shoeOrNull (rm_X10_shoeOrNull)).room s m args below meth c H locs 0 0 (MQ below (mm_Qq D TC ad cy r0 g) args s 0 0 (mm_A TC ad)) (F0 m 0 ls []) := by
    intro H locs hH9 hL9 hP hS
    clear hH9 hL9
    refine lv_aload_n hx hb dX10_shoeOrNull_0 rfl (lv_at hl 0 rfl) ?_
    refine lv_iload_n hx hb dX10_shoeOrNull_1 rfl (lv_at hl 1 rfl) ?_
    obtain ⟨r_1, hr_2, hf⟩ := op_some hf
    refine mq_calli (va_runV (As := [.int x1]) (rest := []) ⟨hx, hb, hml, hown, hts⟩ (c_X10_isShoe l D ad cy p0 x1 g hp r_1 hr_2) (cwV 1 hts gX10_shoeOrNull_X10_isShoe rfl rfl rfl (by decide +kernel) ⟨Nat.le_of_ble_eq_true rfl, Nat.le_of_ble_eq_true rfl⟩) (mq_preV (q := (RX10, TX10, 9)) mm_zOkC hK hP hI hZ hS hp rfl) rfl rfl hl.1 rfl (lv_room (Nat.le_of_ble_eq_true rfl)) dX10_shoeOrNull_2 ⟨Nat.le_refl _, Nat.le_refl _⟩) hS (fun H locs hP hS => ?_)
    refine lv_if_eq (tgt := 17) hx hb dX10_shoeOrNull_5 (by decide) (fun c_3 => ?_) (fun c_3 => ?_)
    · replace hf := ite_t c_3 hf
      refine lv_null hx hb dX10_shoeOrNull_17 ?_
      exact mq_aret (o := none) hx hb hr hlocks hP hS (Option.some.inj hf) rfl dX10_shoeOrNull_18
    · replace hf := ite_f c_3 hf
      refine lv_aload_n hx hb dX10_shoeOrNull_8 rfl (lv_at hl 0 rfl) ?_
      refine mq_getr (Tt := TX10) (N := 9) (C := RX10) hx hb hts hiX10 hown hK hP hp rfl 4 3 (by decide) rfl hw0 (fun _ h9 => h9) dX10_shoeOrNull_9 ?_
      refine lv_iload_n hx hb dX10_shoeOrNull_12 rfl (lv_at hl 1 rfl) ?_
      obtain ⟨h_4, hf⟩ := og_some hf
      refine mq_aald hx hb hK hP (N := 16) (shTC_X10_3 hp) rfl h_4 dX10_shoeOrNull_13 ?_
      refine lv_goto (tgt := 18) hx hb dX10_shoeOrNull_14 (by decide) ?_
      exact mq_aret (o := (some (p0 + 4 + x1.toNatClampNeg))) hx hb hr hlocks hP hS (Option.some.inj hf) rfl dX10_shoeOrNull_18
  exact hH9 s.heap [] rfl rfl hP hS
abbrev rm_X10_minutesOf : Room := ({ frames := 1, cells := 0, slots := 0, locals := 21 } : Room)
set_option maxHeartbeats 4000000 in
set_option maxRecDepth 100000 in
theorem c_X10_minutesOf (l : Launch) (D : va_G) (ad : Nat → Nat) (cy : Nat → ClassId) (p0 : Nat) (x1 : Int32) (x2 : Int32) (o3 : Option Nat) (o4 : Option Nat) (g : Mm) (hp : TC[p0]? = some sX10) (ho3 : mm_os TC sX5 o3 = true) (ho4 : mm_os TC sX5 o4 = true) (r0 : Int32) (hf : f_X10_minutesOf p0 x1 x2 o3 o4 g = some r0) : Met l yX10_minutesOf wsX10_minutesOf rm_X10_minutesOf (va_Pc [.ref (ad p0), .int x1, .int x2, va_rf (Option.map ad o3), va_rf (Option.map ad o4)] (mm_pre mm_Z D TC ad cy g)) (mm_Qi D TC ad cy r0 g) 0 0 (mm_A TC ad) := by
  refine Met.ofW (cc := cX10_minutesOf) (maxL := 7) (ret := (some .int)) (by decide) rfl ?_
  intro p e s m args below meth c s₁ B hml hv
  obtain ⟨hargs, hP, hK, hI, hZ⟩ := hv
  have hx := B.exec
  have hb := B.bytes
  have hr := B.returns
  have hts := atoms_spec (ws := wsX10_minutesOf) B.pre
  have hown : s.vm.findClass RX10 = some m.cls := findClass_of_methodNamed B.named
  have hlocks := B.notSynchronized
  have hw0 := hts (.fieldLink RX10 34 "LeftShoes$World" "way" "LLeftShoes$Road;") (by decide +kernel)
  have hiX10 : ∀ w ∈ wsX100, w ∈ wsX10_minutesOf := by decide +kernel
  have hw2 := hts (.fieldLink RX10 92 "LeftShoes$Road" "mud" "[I") (by decide +kernel)
  have hiX3 : ∀ w ∈ wsX30, w ∈ wsX10_minutesOf := by decide +kernel
  have hw4 := hts (.fieldLink RX10 95 "LeftShoes$World" "BASE_MINUTES" "[I") (by decide +kernel)
  obtain ⟨tBASE_MINUTES, hzBASE_MINUTES, htBASE_MINUTES⟩ := hZ.1.1
  have hw6 := hts (.fieldLink RX10 98 "LeftShoes$World" "MUD_MINUTES" "[I") (by decide +kernel)
  obtain ⟨tMUD_MINUTES, hzMUD_MINUTES, htMUD_MINUTES⟩ := hZ.1.2.1
  rw [show entryFrame m args 7 = F0 m 0 ((lg_sl ([.ref (ad p0), .int x1, .int x2, va_rf (Option.map ad o3), va_rf (Option.map ad o4)] : List Value) ++ List.replicate (7 - (lg_sl ([.ref (ad p0), .int x1, .int x2, va_rf (Option.map ad o3), va_rf (Option.map ad o4)] : List Value)).length) Slot.unset).toArray) [] from by rw [hargs]; exact lg_entry_eq m _ _]
  have hl := lv_entry ([.ref (ad p0), .int x1, .int x2, va_rf (Option.map ad o3), va_rf (Option.map ad o4)] : List Value) (n := 7) (by cases o3 <;> cases o4 <;> exact Nat.le_of_ble_eq_true rfl)
  generalize (lg_sl ([.ref (ad p0), .int x1, .int x2, va_rf (Option.map ad o3), va_rf (Option.map ad o4)] : List Value) ++ List.replicate (7 - (lg_sl ([.ref (ad p0), .int x1, .int x2, va_rf (Option.map ad o3), va_rf (Option.map ad o4)] : List Value)).length) Slot.unset).toArray = ls at hl ⊢
  have hl : lv_has ls 7 [(0, .ref (ad p0)), (1, .int x1), (2, .int x2), (3, va_rf (Option.map ad o3)), (4, va_rf (Option.map ad o4))] := by cases o3 <;> cases o4 <;> exact hl
  have hS : va_S (mm_A TC ad) s.heap s.heap [] := va_S.rf
  clear hargs
  have hc42 : ∀ (x5 : Int32) (x6 : Int32) (H : Heap) (locs : List Loc) (ls : Array Slot), va_P D vwCl (mm_L TC ad cy g) H → va_S (mm_A TC ad) s.heap H locs → lv_has ls 7 [(0, .ref (ad p0)), (1, .int x1), (2, .int x2), (3, va_rf (Option.map ad o3)), (4, va_rf (Option.map ad o4)), (5, .int x5), (6, .int x6)] → f_X10_minutesOf_c42 p0 o4 x5 x6 g = some r0 → W p l e (headSpec wsX10_minutesOf (rm_X10_minutesOf)).room s m args below meth c H locs 0 0 (MQ below (mm_Qi D TC ad cy r0 g) args s 0 0 (mm_A TC ad)) (F0 m 42 ls []) := by
    intro x5 x6 H locs ls hP hS hl hf
    unfold f_X10_minutesOf_c42 at hf
    refine mq_aloadq hx hb dX10_minutesOf_42 (lv_at hl 4 rfl) ?_
    cases o4 with
    | none =>
      replace hf := on_n hf
      refine lv_ifnullN (tgt := 59) hx hb dX10_minutesOf_44 (by decide) ?_
      refine lv_iload hx hb dX10_minutesOf_59 (lv_at hl 6 rfl) ?_
      exact mq_iret hx hb hr rfl hlocks hP hS (Option.some.inj hf) rfl dX10_minutesOf_61
    | some q_7 =>
      replace hf := on_s hf
      refine lv_ifnull hx hb dX10_minutesOf_44 ?_
      refine lv_iload hx hb dX10_minutesOf_47 (lv_at hl 6 rfl) ?_
      refine lv_aload hx hb dX10_minutesOf_49 (lv_at hl 4 rfl) ?_
      refine lv_iload hx hb dX10_minutesOf_51 (lv_at hl 5 rfl) ?_
      obtain ⟨r_8, hr_9, hf⟩ := op_some hf
      refine mq_calli (va_runV (As := [.int x5]) (rest := [.int x6]) ⟨hx, hb, hml, hown, hts⟩ (c_X5_delay l D ad cy q_7 x5 g (mm_os_q ho4) r_8 hr_9) (cwV 1 hts gX10_minutesOf_X5_delay rfl rfl rfl (by decide +kernel) ⟨Nat.le_of_ble_eq_true rfl, Nat.le_of_ble_eq_true rfl⟩) (mq_preV (q := (RX5, TX5, 5)) mm_zOkC hK hP hI hZ hS (mm_os_q ho4) rfl) rfl rfl hl.1 rfl (lv_room (Nat.le_of_ble_eq_true rfl)) dX10_minutesOf_53 ⟨Nat.le_refl _, Nat.le_refl _⟩) hS (fun H locs hP hS => ?_)
      refine lv_iadd hx hb dX10_minutesOf_56 ?_
      obtain ⟨x6_10, ex6_10, hf⟩ := mv_some hf
      refine mq_nm ex6_10 ?_
      refine lv_istore (lv' := [(6, .int x6_10), (0, .ref (ad p0)), (1, .int x1), (2, .int x2), (3, va_rf (Option.map ad o3)), (4, .ref (ad q_7)), (5, .int x5)]) hx hb dX10_minutesOf_57 hl (by decide) rfl (fun ls hl => ?_)
      refine lv_iload hx hb dX10_minutesOf_59 (lv_at hl 0 rfl) ?_
      exact mq_iret hx hb hr rfl hlocks hP hS (Option.some.inj hf) rfl dX10_minutesOf_61
  unfold f_X10_minutesOf at hf
  have hH9 : ∀ (H : Heap) (locs : List Loc), H = s.heap → locs = [] → va_P D vwCl (mm_L TC ad cy g) H → va_S (mm_A TC ad) s.heap H locs → W p l e (headSpec wsX10_minutesOf (rm_X10_minutesOf)).room s m args below meth c H locs 0 0 (MQ below (mm_Qi D TC ad cy r0 g) args s 0 0 (mm_A TC ad)) (F0 m 0 ls []) := by
    intro H locs hH9 hL9 hP hS
    clear hH9 hL9
    refine lv_aload_n hx hb dX10_minutesOf_0 rfl (lv_at hl 0 rfl) ?_
    refine mq_getr (Tt := TX10) (N := 9) (C := RX10) hx hb hts hiX10 hown hK hP hp rfl 6 22 (by decide) rfl hw0 (fun _ h9 => h9) dX10_minutesOf_1 ?_
    refine mq_getr (Tt := TX3) (N := 2) (C := RX3) hx hb hts hiX3 hown hK hP (shTC_X10_22 hp) rfl 0 1 (by decide) rfl hw2 (fun _ h9 => h9) dX10_minutesOf_4 ?_
    refine lv_iload_n hx hb dX10_minutesOf_7 rfl (lv_at hl 2 rfl) ?_
    obtain ⟨h_1, hf⟩ := og_some hf
    refine mq_iald hx hb hK hP (N := 9) (shTC_X10_23 hp) h_1 dX10_minutesOf_8 ?_
    obtain ⟨x5_2, ex5_2, hf⟩ := mv_some hf
    refine mq_nm ex5_2 ?_
    refine lv_istore (lv' := [(5, .int x5_2), (0, .ref (ad p0)), (1, .int x1), (2, .int x2), (3, va_rf (Option.map ad o3)), (4, va_rf (Option.map ad o4))]) hx hb dX10_minutesOf_9 hl (by decide) (by cases o4 <;> rfl) (fun ls hl => ?_)
    refine va_gets hx hb hzBASE_MINUTES hS hown hw4 (fun _ h9 => h9) dX10_minutesOf_11 ?_
    refine lv_iload_n hx hb dX10_minutesOf_14 rfl (lv_at hl 2 rfl) ?_
    obtain ⟨h_3, hf⟩ := og_some hf
    refine va_ti hx hb htBASE_MINUTES hS (mm_in_vp h_3) (v := .int (mm_tab mm_base x1.toNatClampNeg)) rfl dX10_minutesOf_15 ?_
    refine va_gets hx hb hzMUD_MINUTES hS hown hw6 (fun _ h9 => h9) dX10_minutesOf_16 ?_
    refine lv_iload_n hx hb dX10_minutesOf_19 rfl (lv_at hl 2 rfl) ?_
    obtain ⟨h_4, hf⟩ := og_some hf
    refine va_ti hx hb htMUD_MINUTES hS (mm_in_vp h_4) (v := .int (mm_tab mm_mudm x1.toNatClampNeg)) rfl dX10_minutesOf_20 ?_
    refine lv_iload hx hb dX10_minutesOf_21 (lv_at hl 0 rfl) ?_
    refine lv_imul hx hb dX10_minutesOf_23 ?_
    refine lv_iadd hx hb dX10_minutesOf_24 ?_
    obtain ⟨x6_5, ex6_5, hf⟩ := mv_some hf
    refine mq_nm ex6_5 ?_
    refine lv_istore (lv' := [(6, .int x6_5), (5, .int x5_2), (0, .ref (ad p0)), (1, .int x1), (2, .int x2), (3, va_rf (Option.map ad o3)), (4, va_rf (Option.map ad o4))]) hx hb dX10_minutesOf_25 hl (by decide) rfl (fun ls hl => ?_)
    refine mq_aload_nq hx hb dX10_minutesOf_27 rfl (lv_at hl 5 rfl) ?_
    cases o3 with
    | none =>
      replace hf := on_n hf
      refine lv_ifnullN (tgt := 42) hx hb dX10_minutesOf_28 (by decide) ?_
      exact hc42 x5_2 x6_5 H locs ls hP hS (lv_sub hl [2, 3, 4, 5, 6, 1, 0] rfl) hf
    | some q_6 =>
      replace hf := on_s hf
      refine lv_ifnull hx hb dX10_minutesOf_28 ?_
      refine lv_iload hx hb dX10_minutesOf_31 (lv_at hl 0 rfl) ?_
      refine lv_aload_n hx hb dX10_minutesOf_33 rfl (lv_at hl 5 rfl) ?_
      refine lv_iload hx hb dX10_minutesOf_34 (lv_at hl 1 rfl) ?_
      obtain ⟨r_11, hr_12, hf⟩ := op_some hf
      refine mq_calli (va_runV (As := [.int x5_2]) (rest := [.int x6_5]) ⟨hx, hb, hml, hown, hts⟩ (c_X5_delay l D ad cy q_6 x5_2 g (mm_os_q ho3) r_11 hr_12) (cwV 1 hts gX10_minutesOf_X5_delay rfl rfl rfl (by decide +kernel) ⟨Nat.le_of_ble_eq_true rfl, Nat.le_of_ble_eq_true rfl⟩) (mq_preV (q := (RX5, TX5, 5)) mm_zOkC hK hP hI hZ hS (mm_os_q ho3) rfl) rfl rfl hl.1 rfl (lv_room (Nat.le_of_ble_eq_true rfl)) dX10_minutesOf_36 ⟨Nat.le_refl _, Nat.le_refl _⟩) hS (fun H locs hP hS => ?_)
      refine lv_iadd hx hb dX10_minutesOf_39 ?_
      obtain ⟨x6_13, ex6_13, hf⟩ := mv_some hf
      refine mq_nm ex6_13 ?_
      refine lv_istore (lv' := [(6, .int x6_13), (5, .int x5_2), (0, .ref (ad p0)), (1, .int x1), (2, .int x2), (3, .ref (ad q_6)), (4, va_rf (Option.map ad o4))]) hx hb dX10_minutesOf_40 hl (by decide) rfl (fun ls hl => ?_)
      exact hc42 x5_2 x6_13 H locs ls hP hS (lv_sub hl [2, 3, 4, 5, 6, 1, 0] rfl) hf
  exact hH9 s.heap [] rfl rfl hP hS
abbrev rm_X10_costOf : Room := ({ frames := 1, cells := 0, slots := 0, locals := 22 } : Room)
set_option maxHeartbeats 4000000 in
set_option maxRecDepth 100000 in
theorem c_X10_costOf (l : Launch) (D : va_G) (ad : Nat → Nat) (cy : Nat → ClassId) (p0 : Nat) (x1 : Int32) (o2 : Option Nat) (o3 : Option Nat) (g : Mm) (hp : TC[p0]? = some sX10) (ho2 : mm_os TC sX5 o2 = true) (ho3 : mm_os TC sX5 o3 = true) (r0 : Int32) (hf : f_X10_costOf p0 x1 o2 o3 g = some r0) : Met l yX10_costOf wsX10_costOf rm_X10_costOf (va_Pc [.ref (ad p0), .int x1, va_rf (Option.map ad o2), va_rf (Option.map ad o3)] (mm_pre mm_Z D TC ad cy g)) (mm_Qi D TC ad cy r0 g) 0 0 (mm_A TC ad) := by
  refine Met.ofW (cc := cX10_costOf) (maxL := 4) (ret := (some .int)) (by decide) rfl ?_
  intro p e s m args below meth c s₁ B hml hv
  obtain ⟨hargs, hP, hK, hI, hZ⟩ := hv
  have hx := B.exec
  have hb := B.bytes
  have hr := B.returns
  have hts := atoms_spec (ws := wsX10_costOf) B.pre
  have hown : s.vm.findClass RX10 = some m.cls := findClass_of_methodNamed B.named
  have hlocks := B.notSynchronized
  have hw0 := hts (.fieldLink RX10 27 "LeftShoes$World" "levy" "LLeftShoes$Tax;") (by decide +kernel)
  have hiX10 : ∀ w ∈ wsX100, w ∈ wsX10_costOf := by decide +kernel
  have hw2 := hts (.fieldLink RX10 34 "LeftShoes$World" "way" "LLeftShoes$Road;") (by decide +kernel)
  have hw3 := hts (.fieldLink RX10 105 "LeftShoes$Road" "watched" "[I") (by decide +kernel)
  have hiX3 : ∀ w ∈ wsX30, w ∈ wsX10_costOf := by decide +kernel
  rw [show entryFrame m args 4 = F0 m 0 ((lg_sl ([.ref (ad p0), .int x1, va_rf (Option.map ad o2), va_rf (Option.map ad o3)] : List Value) ++ List.replicate (4 - (lg_sl ([.ref (ad p0), .int x1, va_rf (Option.map ad o2), va_rf (Option.map ad o3)] : List Value)).length) Slot.unset).toArray) [] from by rw [hargs]; exact lg_entry_eq m _ _]
  have hl := lv_entry ([.ref (ad p0), .int x1, va_rf (Option.map ad o2), va_rf (Option.map ad o3)] : List Value) (n := 4) (by cases o2 <;> cases o3 <;> exact Nat.le_of_ble_eq_true rfl)
  generalize (lg_sl ([.ref (ad p0), .int x1, va_rf (Option.map ad o2), va_rf (Option.map ad o3)] : List Value) ++ List.replicate (4 - (lg_sl ([.ref (ad p0), .int x1, va_rf (Option.map ad o2), va_rf (Option.map ad o3)] : List Value)).length) Slot.unset).toArray = ls at hl ⊢
  have hl : lv_has ls 4 [(0, .ref (ad p0)), (1, .int x1), (2, va_rf (Option.map ad o2)), (3, va_rf (Option.map ad o3))] := by cases o2 <;> cases o3 <;> exact hl
  have hS : va_S (mm_A TC ad) s.heap s.heap [] := va_S.rf
  clear hargs
  unfold f_X10_costOf at hf
  have hH9 : ∀ (H : Heap) (locs : List Loc), H = s.heap → locs = [] → va_P D vwCl (mm_L TC ad cy g) H → va_S (mm_A TC ad) s.heap H locs → W p l e (headSpec wsX10_costOf (rm_X10_costOf)).room s m args below meth c H locs 0 0 (MQ below (mm_Qi D TC ad cy r0 g) args s 0 0 (mm_A TC ad)) (F0 m 0 ls []) := by
    intro H locs hH9 hL9 hP hS
    clear hH9 hL9
    refine lv_aload_n hx hb dX10_costOf_0 rfl (lv_at hl 0 rfl) ?_
    refine mq_getr (Tt := TX10) (N := 9) (C := RX10) hx hb hts hiX10 hown hK hP hp rfl 5 20 (by decide) rfl hw0 (fun _ h9 => h9) dX10_costOf_1 ?_
    refine mq_aload_nq hx hb dX10_costOf_4 rfl (lv_at hl 2 rfl) ?_
    refine lv_aload_n hx hb dX10_costOf_5 rfl (lv_at hl 0 rfl) ?_
    refine mq_getr (Tt := TX10) (N := 9) (C := RX10) hx hb hts hiX10 hown hK hP hp rfl 6 22 (by decide) rfl hw2 (fun _ h9 => h9) dX10_costOf_6 ?_
    refine mq_getr (Tt := TX3) (N := 2) (C := RX3) hx hb hts hiX3 hown hK hP (shTC_X10_22 hp) rfl 1 2 (by decide) rfl hw3 (fun _ h9 => h9) dX10_costOf_9 ?_
    refine lv_iload_n hx hb dX10_costOf_12 rfl (lv_at hl 1 rfl) ?_
    obtain ⟨h_1, hf⟩ := og_some hf
    refine mq_iald hx hb hK hP (N := 9) (shTC_X10_24 hp) h_1 dX10_costOf_13 ?_
    obtain ⟨r_2, hr_3, hf⟩ := op_some hf
    refine mq_calli (va_runV (As := [va_rf (Option.map ad o2), .int (g (p0 + 24) x1.toNatClampNeg)]) (rest := []) ⟨hx, hb, hml, hown, hts⟩ (c_X7_costOf l D ad cy (p0 + 20) o2 (g (p0 + 24) x1.toNatClampNeg) g (shTC_X10_20 hp) ho2 r_2 hr_3) (cwV 2 hts gX10_costOf_X7_costOf rfl rfl rfl (by decide +kernel) ⟨Nat.le_of_ble_eq_true rfl, Nat.le_of_ble_eq_true rfl⟩) (mq_preV (q := (RX7, TX7, 3)) mm_zOkC hK hP hI hZ hS (shTC_X10_20 hp) rfl) rfl rfl hl.1 rfl (lv_room (Nat.le_of_ble_eq_true rfl)) dX10_costOf_14 ⟨Nat.le_refl _, Nat.le_refl _⟩) hS (fun H locs hP hS => ?_)
    refine lv_aload_n hx hb dX10_costOf_17 rfl (lv_at hl 0 rfl) ?_
    refine mq_getr (Tt := TX10) (N := 9) (C := RX10) hx hb hts hiX10 hown hK hP hp rfl 5 20 (by decide) rfl hw0 (fun _ h9 => h9) dX10_costOf_18 ?_
    refine mq_aload_nq hx hb dX10_costOf_21 rfl (lv_at hl 3 rfl) ?_
    refine lv_aload_n hx hb dX10_costOf_22 rfl (lv_at hl 0 rfl) ?_
    refine mq_getr (Tt := TX10) (N := 9) (C := RX10) hx hb hts hiX10 hown hK hP hp rfl 6 22 (by decide) rfl hw2 (fun _ h9 => h9) dX10_costOf_23 ?_
    refine mq_getr (Tt := TX3) (N := 2) (C := RX3) hx hb hts hiX3 hown hK hP (shTC_X10_22 hp) rfl 1 2 (by decide) rfl hw3 (fun _ h9 => h9) dX10_costOf_26 ?_
    refine lv_iload_n hx hb dX10_costOf_29 rfl (lv_at hl 1 rfl) ?_
    obtain ⟨h_4, hf⟩ := og_some hf
    refine mq_iald hx hb hK hP (N := 9) (shTC_X10_24 hp) h_4 dX10_costOf_30 ?_
    obtain ⟨r_5, hr_6, hf⟩ := op_some hf
    refine mq_calli (va_runV (As := [va_rf (Option.map ad o3), .int (g (p0 + 24) x1.toNatClampNeg)]) (rest := [.int r_2]) ⟨hx, hb, hml, hown, hts⟩ (c_X7_costOf l D ad cy (p0 + 20) o3 (g (p0 + 24) x1.toNatClampNeg) g (shTC_X10_20 hp) ho3 r_5 hr_6) (cwV 2 hts gX10_costOf_X7_costOf rfl rfl rfl (by decide +kernel) ⟨Nat.le_of_ble_eq_true rfl, Nat.le_of_ble_eq_true rfl⟩) (mq_preV (q := (RX7, TX7, 3)) mm_zOkC hK hP hI hZ hS (shTC_X10_20 hp) rfl) rfl rfl hl.1 rfl (lv_room (Nat.le_of_ble_eq_true rfl)) dX10_costOf_31 ⟨Nat.le_refl _, Nat.le_refl _⟩) hS (fun H locs hP hS => ?_)
    refine lv_iadd hx hb dX10_costOf_34 ?_
    exact mq_iret hx hb hr rfl hlocks hP hS (Option.some.inj hf) rfl dX10_costOf_35
  exact hH9 s.heap [] rfl rfl hP hS
abbrev rm_X10_isPerson : Room := ({ frames := 1, cells := 0, slots := 0, locals := 22 } : Room)
set_option maxHeartbeats 4000000 in
set_option maxRecDepth 100000 in
theorem c_X10_isPerson (l : Launch) (D : va_G) (ad : Nat → Nat) (cy : Nat → ClassId) (p0 : Nat) (x1 : Int32) (g : Mm) (hp : TC[p0]? = some sX10) (r0 : Int32) (hf : f_X10_isPerson p0 x1 g = some r0) : Met l yX10_isPerson wsX10_isPerson rm_X10_isPerson (va_Pc [.ref (ad p0), .int x1] (mm_pre mm_Z D TC ad cy g)) (mm_Qi D TC ad cy r0 g) 0 0 (mm_A TC ad) := by
  refine Met.ofW (cc := cX10_isPerson) (maxL := 2) (ret := (some .boolean)) (by decide) rfl ?_
  intro p e s m args below meth c s₁ B hml hv
  obtain ⟨hargs, hP, hK, hI, hZ⟩ := hv
  have hx := B.exec
  have hb := B.bytes
  have hr := B.returns
  have hts := atoms_spec (ws := wsX10_isPerson) B.pre
  have hown : s.vm.findClass RX10 = some m.cls := findClass_of_methodNamed B.named
  have hlocks := B.notSynchronized
  have hw0 := hts (.fieldLink RX10 53 "LeftShoes$World" "peopleCount" "I") (by decide +kernel)
  have hiX10 : ∀ w ∈ wsX100, w ∈ wsX10_isPerson := by decide +kernel
  have hw2 := hts (.initialized RX11) (by decide +kernel)
  have hw3 := hts (.static yX11_isWithin) (by decide +kernel)
  rw [show entryFrame m args 2 = F0 m 0 ((lg_sl ([.ref (ad p0), .int x1] : List Value) ++ List.replicate (2 - (lg_sl ([.ref (ad p0), .int x1] : List Value)).length) Slot.unset).toArray) [] from by rw [hargs]; exact lg_entry_eq m _ _]
  have hl := lv_entry ([.ref (ad p0), .int x1] : List Value) (n := 2) (by exact Nat.le_of_ble_eq_true rfl)
  generalize (lg_sl ([.ref (ad p0), .int x1] : List Value) ++ List.replicate (2 - (lg_sl ([.ref (ad p0), .int x1] : List Value)).length) Slot.unset).toArray = ls at hl ⊢
  have hl : lv_has ls 2 [(0, .ref (ad p0)), (1, .int x1)] := by exact hl
  have hS : va_S (mm_A TC ad) s.heap s.heap [] := va_S.rf
  clear hargs
  unfold f_X10_isPerson at hf
  have hH9 : ∀ (H : Heap) (locs : List Loc), H = s.heap → locs = [] → va_P D vwCl (mm_L TC ad cy g) H → va_S (mm_A TC ad) s.heap H locs → W p l e (headSpec wsX10_isPerson (rm_X10_isPerson)).room s m args below meth c H locs 0 0 (MQ below (mm_Qi D TC ad cy r0 g) args s 0 0 (mm_A TC ad)) (F0 m 0 ls []) := by
    intro H locs hH9 hL9 hP hS
    clear hH9 hL9
    refine lv_iload_n hx hb dX10_isPerson_0 rfl (lv_at hl 1 rfl) ?_
    refine lv_iconst (v := 0) hx hb dX10_isPerson_1 (by decide) ?_
    refine lv_aload_n hx hb dX10_isPerson_2 rfl (lv_at hl 0 rfl) ?_
    refine mq_geti (Tt := TX10) (N := 9) (C := RX10) hx hb hts hiX10 hown hK hP hp rfl 0 (by decide) rfl hw0 (fun _ h9 => h9) dX10_isPerson_3 ?_
    refine lv_iconst (v := 1) hx hb dX10_isPerson_6 (by decide) ?_
    refine lv_isub hx hb dX10_isPerson_7 ?_
    obtain ⟨r_1, hr_2, hf⟩ := op_some hf
    refine mq_calli (va_runSN (As := [.int x1, .int 0, .int ((g p0 0) - 1)]) (rest := []) ⟨hx, hb, hml, hown, hts⟩ (c_X11_isWithin l D ad cy x1 0 ((g p0 0) - 1) g r_1 hr_2) ⟨va_cnB 3 hts gX10_isPerson_X11_isWithin_n57 rfl rfl rfl hZ.2.2.2.2 hw2 (by decide +kernel) ⟨Nat.le_of_ble_eq_true rfl, Nat.le_of_ble_eq_true rfl⟩, hw3, trivial⟩ (mq_preS mm_zOkC hK hP hI hZ hS) rfl rfl hl.1 rfl (lv_room (Nat.le_of_ble_eq_true rfl)) dX10_isPerson_8 ⟨Nat.le_refl _, Nat.le_refl _⟩) hS (fun H locs hP hS => ?_)
    obtain ⟨h_3, hf⟩ := og_some hf
    exact mq_iret hx hb hr (mm_01_nar h_3) hlocks hP hS (Option.some.inj hf) rfl dX10_isPerson_11
  exact hH9 s.heap [] rfl rfl hP hS
