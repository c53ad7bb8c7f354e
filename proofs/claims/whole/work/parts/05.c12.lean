abbrev rm_X12_fair : Room := ({ frames := 1, cells := 0, slots := 0, locals := 23 } : Room)
set_option maxHeartbeats 4000000 in
set_option maxRecDepth 100000 in
theorem c_X12_fair (l : Launch) (D : va_G) (ad : Nat → Nat) (cy : Nat → ClassId)  (g : Mm) (hp : TM[0]? = some sX12) (r0 : Int32) (g' : Mm) (hf : f_X12_fair g = some (r0, g')) : Met l yX12_fair wsX12_fair rm_X12_fair (va_Pc [.ref (ad 0)] (mm_pre mm_Z0 D TM ad cy g)) (mm_Qi D TM ad cy r0 g') 0 0 (mm_A TM ad) := by
  refine Met.ofW (cc := cX12_fair) (maxL := 1) (ret := (some .int)) (by decide) rfl ?_
  intro p e s m args below meth c s₁ B hml hv
  obtain ⟨hargs, hP, hK, hI, hZ⟩ := hv
  have hx := B.exec
  have hb := B.bytes
  have hr := B.returns
  have hts := atoms_spec (ws := wsX12_fair) B.pre
  have hown : s.vm.findClass RX12 = some m.cls := findClass_of_methodNamed B.named
  have hlocks := B.notSynchronized
  rw [show entryFrame m args 1 = F0 m 0 ((lg_sl ([.ref (ad 0)] : List Value) ++ List.replicate (1 - (lg_sl ([.ref (ad 0)] : List Value)).length) Slot.unset).toArray) [] from by rw [hargs]; exact lg_entry_eq m _ _]
  have hl := lv_entry ([.ref (ad 0)] : List Value) (n := 1) (by exact Nat.le_of_ble_eq_true rfl)
  generalize (lg_sl ([.ref (ad 0)] : List Value) ++ List.replicate (1 - (lg_sl ([.ref (ad 0)] : List Value)).length) Slot.unset).toArray = ls at hl ⊢
  have hl : lv_has ls 1 [(0, .ref (ad 0))] := by exact hl
  have hS : va_S (mm_A TM ad) s.heap s.heap [] := va_S.rf
  clear hargs
  unfold f_X12_fair at hf
  have hH9 : ∀ (H : Heap) (locs : List Loc), H = s.heap → locs = [] → va_P D vwCl (mm_L TM ad cy g) H → va_S (mm_A TM ad) s.heap H locs → W p l e (headSpec wsX12_fair (rm_X12_fair)).room s m args below meth c H locs 0 0 (MQ below (mm_Qi D TM ad cy r0 g') args s 0 0 (mm_A TM ad)) (F0 m 0 ls []) := by
    intro H locs hH9 hL9 hP hS
    clear hH9 hL9
    refine lv_aload_n hx hb dX12_fair_0 rfl (lv_at hl 0 rfl) ?_
    refine lv_iconst (v := 4) hx hb dX12_fair_1 (by decide) ?_
    refine lv_iconst (v := 0) hx hb dX12_fair_2 (by decide) ?_
    obtain ⟨r_2, g_1, hr_3, hf⟩ := ob_some hf
    refine mq_calli (va_runV (As := [.int 4, .int 0]) (rest := []) ⟨hx, hb, hml, hown, hts⟩ (c_X12_changed l D ad cy 4 0 g hp r_2 g_1 hr_3) (cwV 2 hts gX12_fair_X12_changed rfl rfl rfl (by decide +kernel) ⟨Nat.le_of_ble_eq_true rfl, Nat.le_of_ble_eq_true rfl⟩) (mq_preV (q := (RX12, TX12, 26)) mm_zOk0 hK hP hI hZ hS hp rfl) rfl rfl hl.1 rfl (lv_room (Nat.le_of_ble_eq_true rfl)) dX12_fair_3 ⟨Nat.le_refl _, Nat.le_refl _⟩) hS (fun H locs hP hS => ?_)
    exact mq_iret hx hb hr rfl hlocks hP hS (pr_1 hf) (pr_2 hf) dX12_fair_6
  exact hH9 s.heap [] rfl rfl hP hS
abbrev rm_X12_brothers : Room := ({ frames := 1, cells := 0, slots := 0, locals := 25 } : Room)
set_option maxHeartbeats 4000000 in
set_option maxRecDepth 100000 in
theorem c_X12_brothers (l : Launch) (D : va_G) (ad : Nat → Nat) (cy : Nat → ClassId) (x1 : Int32) (x2 : Int32) (g : Mm) (hp : TM[0]? = some sX12) (r0 : Int32) (hf : f_X12_brothers x1 x2 g = some r0) : Met l yX12_brothers wsX12_brothers rm_X12_brothers (va_Pc [.ref (ad 0), .int x1, .int x2] (mm_pre mm_Z0 D TM ad cy g)) (mm_Qi D TM ad cy r0 g) 0 0 (mm_A TM ad) := by
  refine Met.ofW (cc := cX12_brothers) (maxL := 9) (ret := (some .int)) (by decide) rfl ?_
  intro p e s m args below meth c s₁ B hml hv
  obtain ⟨hargs, hP, hK, hI, hZ⟩ := hv
  have hx := B.exec
  have hb := B.bytes
  have hr := B.returns
  have hts := atoms_spec (ws := wsX12_brothers) B.pre
  have hown : s.vm.findClass RX12 = some m.cls := findClass_of_methodNamed B.named
  have hlocks := B.notSynchronized
  have hw0 := hts (.fieldLink RX12 7 "LeftShoesModel" "now" "[I") (by decide +kernel)
  have hiX12 : ∀ w ∈ wsX120, w ∈ wsX12_brothers := by decide +kernel
  rw [show entryFrame m args 9 = F0 m 0 ((lg_sl ([.ref (ad 0), .int x1, .int x2] : List Value) ++ List.replicate (9 - (lg_sl ([.ref (ad 0), .int x1, .int x2] : List Value)).length) Slot.unset).toArray) [] from by rw [hargs]; exact lg_entry_eq m _ _]
  have hl := lv_entry ([.ref (ad 0), .int x1, .int x2] : List Value) (n := 9) (by exact Nat.le_of_ble_eq_true rfl)
  generalize (lg_sl ([.ref (ad 0), .int x1, .int x2] : List Value) ++ List.replicate (9 - (lg_sl ([.ref (ad 0), .int x1, .int x2] : List Value)).length) Slot.unset).toArray = ls at hl ⊢
  have hl : lv_has ls 9 [(0, .ref (ad 0)), (1, .int x1), (2, .int x2)] := by exact hl
  have hS : va_S (mm_A TM ad) s.heap s.heap [] := va_S.rf
  clear hargs
  have hc208 : ∀ (n : Nat), ∀ (x3 : Int32) (x4 : Int32) (x5 : Int32) (H : Heap) (locs : List Loc) (ls : Array Slot), va_P D vwCl (mm_L TM ad cy g) H → va_S (mm_A TM ad) s.heap H locs → lv_has ls 9 [(0, .ref (ad 0)), (1, .int x1), (2, .int x2), (3, .int x3), (4, .int x4), (5, .int x5)] → f_X12_brothers_c208 x1 x2 n x3 x4 x5 g = some r0 → W p l e (headSpec wsX12_brothers (rm_X12_brothers)).room s m args below meth c H locs 0 0 (MQ below (mm_Qi D TM ad cy r0 g) args s 0 0 (mm_A TM ad)) (F0 m 208 ls []) := by
    intro n
    induction n with
    | zero =>
      intro x3 x4 x5 H locs ls hP hS hl hf
      rw [f_X12_brothers_c208] at hf
      cases hf
    | succ n ih =>
      intro x3 x4 x5 H locs ls hP hS hl hf
      rw [f_X12_brothers_c208] at hf
      refine lv_iload hx hb dX12_brothers_208 (lv_at hl 5 rfl) ?_
      refine lv_aload_n hx hb dX12_brothers_210 rfl (lv_at hl 0 rfl) ?_
      refine mq_getr (Tt := TX12) (N := 26) (C := RX12) hx hb hts hiX12 hown hK hP hp rfl 0 1 (by decide) rfl hw0 (fun _ h9 => h9) dX12_brothers_211 ?_
      refine lv_iconst (v := 0) hx hb dX12_brothers_214 (by decide) ?_
      refine mq_iald hx hb hK hP (N := 193) (shTM_X12_1 hp) (by decide : mm_in 0 193 = true) dX12_brothers_215 ?_
      refine lv_icmp_ge (tgt := 258) hx hb dX12_brothers_216 (by decide) (fun c_8 => ?_) (fun c_8 => ?_)
      · replace hf := ite_t c_8 hf
        refine lv_iload_n hx hb dX12_brothers_258 rfl (lv_at hl 2 rfl) ?_
        refine lv_if_eq (tgt := 268) hx hb dX12_brothers_259 (by decide) (fun c_9 => ?_) (fun c_9 => ?_)
        · replace hf := ite_t c_9 hf
          refine lv_iload_n hx hb dX12_brothers_268 rfl (lv_at hl 3 rfl) ?_
          refine lv_goto (tgt := 274) hx hb dX12_brothers_269 (by decide) ?_
          exact mq_iret hx hb hr rfl hlocks hP hS (Option.some.inj hf) rfl dX12_brothers_274
        · replace hf := ite_f c_9 hf
          refine lv_iload_n hx hb dX12_brothers_262 rfl (lv_at hl 3 rfl) ?_
          refine lv_iload hx hb dX12_brothers_263 (lv_at hl 4 rfl) ?_
          refine lv_icmp_ge (tgt := 272) hx hb dX12_brothers_265 (by decide) (fun c_10 => ?_) (fun c_10 => ?_)
          · replace hf := ite_t c_10 hf
            refine lv_iload hx hb dX12_brothers_272 (lv_at hl 4 rfl) ?_
            exact mq_iret hx hb hr rfl hlocks hP hS (Option.some.inj hf) rfl dX12_brothers_274
          · replace hf := ite_f c_10 hf
            refine lv_iload_n hx hb dX12_brothers_268 rfl (lv_at hl 3 rfl) ?_
            refine lv_goto (tgt := 274) hx hb dX12_brothers_269 (by decide) ?_
            exact mq_iret hx hb hr rfl hlocks hP hS (Option.some.inj hf) rfl dX12_brothers_274
      · replace hf := ite_f c_8 hf
        refine lv_iload hx hb dX12_brothers_219 (lv_at hl 4 rfl) ?_
        refine lv_iload_n hx hb dX12_brothers_221 rfl (lv_at hl 1 rfl) ?_
        refine lv_iload hx hb dX12_brothers_222 (lv_at hl 5 rfl) ?_
        refine lv_ishr hx hb dX12_brothers_224 ?_
        refine lv_iconst (v := 1) hx hb dX12_brothers_225 (by decide) ?_
        refine lv_iand hx hb dX12_brothers_226 ?_
        refine lv_iconst (v := 1) hx hb dX12_brothers_227 (by decide) ?_
        refine lv_icmp_ne (tgt := 248) hx hb dX12_brothers_228 (by decide) (fun c_11 => ?_) (fun c_11 => ?_)
        · replace hf := ite_f c_11 hf
          refine lv_iconst (v := 0) hx hb dX12_brothers_248 (by decide) ?_
          refine lv_iadd hx hb dX12_brothers_249 ?_
          obtain ⟨x4_12, ex4_12, hf⟩ := mv_some hf
          refine mq_nm ex4_12 ?_
          refine lv_istore (lv' := [(4, .int x4_12), (0, .ref (ad 0)), (1, .int x1), (2, .int x2), (3, .int x3), (5, .int x5)]) hx hb dX12_brothers_250 hl (by decide) rfl (fun ls hl => ?_)
          obtain ⟨x5_13, ex5_13, hf⟩ := mv_some hf
          refine lv_iinc (v := x5_13) (lv' := [(5, .int x5_13), (4, .int x4_12), (0, .ref (ad 0)), (1, .int x1), (2, .int x2), (3, .int x3)]) hx hb dX12_brothers_252 hl (k := 5) rfl (by rw [ex5_13]; rfl) (by decide) rfl (fun ls hl => ?_)
          refine lv_goto (tgt := 208) hx hb dX12_brothers_255 (by decide) ?_
          exact ih x3 x4_12 x5_13 H locs ls hP hS (lv_sub hl [2, 3, 4, 5, 1, 0] rfl) hf
        · replace hf := ite_t c_11 hf
          refine lv_aload_n hx hb dX12_brothers_231 rfl (lv_at hl 0 rfl) ?_
          refine mq_getr (Tt := TX12) (N := 26) (C := RX12) hx hb hts hiX12 hown hK hP hp rfl 0 1 (by decide) rfl hw0 (fun _ h9 => h9) dX12_brothers_232 ?_
          refine lv_bipush (v := 10) hx hb dX12_brothers_235 (by decide) ?_
          refine lv_iload hx hb dX12_brothers_237 (lv_at hl 5 rfl) ?_
          refine lv_iadd hx hb dX12_brothers_239 ?_
          obtain ⟨h_14, hf⟩ := og_some hf
          refine mq_iald hx hb hK hP (N := 193) (shTM_X12_1 hp) h_14 dX12_brothers_240 ?_
          refine lv_if_ne (tgt := 248) hx hb dX12_brothers_241 (by decide) (fun c_15 => ?_) (fun c_15 => ?_)
          · replace hf := ite_f c_15 hf
            refine lv_iconst (v := 0) hx hb dX12_brothers_248 (by decide) ?_
            refine lv_iadd hx hb dX12_brothers_249 ?_
            obtain ⟨x4_16, ex4_16, hf⟩ := mv_some hf
            refine mq_nm ex4_16 ?_
            refine lv_istore (lv' := [(4, .int x4_16), (0, .ref (ad 0)), (1, .int x1), (2, .int x2), (3, .int x3), (5, .int x5)]) hx hb dX12_brothers_250 hl (by decide) rfl (fun ls hl => ?_)
            obtain ⟨x5_17, ex5_17, hf⟩ := mv_some hf
            refine lv_iinc (v := x5_17) (lv' := [(5, .int x5_17), (4, .int x4_16), (0, .ref (ad 0)), (1, .int x1), (2, .int x2), (3, .int x3)]) hx hb dX12_brothers_252 hl (k := 5) rfl (by rw [ex5_17]; rfl) (by decide) rfl (fun ls hl => ?_)
            refine lv_goto (tgt := 208) hx hb dX12_brothers_255 (by decide) ?_
            exact ih x3 x4_16 x5_17 H locs ls hP hS (lv_sub hl [2, 3, 4, 5, 1, 0] rfl) hf
          · replace hf := ite_t c_15 hf
            refine lv_iconst (v := 1) hx hb dX12_brothers_244 (by decide) ?_
            refine lv_goto (tgt := 249) hx hb dX12_brothers_245 (by decide) ?_
            refine lv_iadd hx hb dX12_brothers_249 ?_
            obtain ⟨x4_18, ex4_18, hf⟩ := mv_some hf
            refine mq_nm ex4_18 ?_
            refine lv_istore (lv' := [(4, .int x4_18), (0, .ref (ad 0)), (1, .int x1), (2, .int x2), (3, .int x3), (5, .int x5)]) hx hb dX12_brothers_250 hl (by decide) rfl (fun ls hl => ?_)
            obtain ⟨x5_19, ex5_19, hf⟩ := mv_some hf
            refine lv_iinc (v := x5_19) (lv' := [(5, .int x5_19), (4, .int x4_18), (0, .ref (ad 0)), (1, .int x1), (2, .int x2), (3, .int x3)]) hx hb dX12_brothers_252 hl (k := 5) rfl (by rw [ex5_19]; rfl) (by decide) rfl (fun ls hl => ?_)
            refine lv_goto (tgt := 208) hx hb dX12_brothers_255 (by decide) ?_
            exact ih x3 x4_18 x5_19 H locs ls hP hS (lv_sub hl [2, 3, 4, 5, 1, 0] rfl) hf
  have hc141 : ∀ (K_37 : Int32 → Int32 → Mm → Option (Int32)), (∀ (x3 : Int32) (x4 : Int32) (H : Heap) (locs : List Loc) (ls : Array Slot), va_P D vwCl (mm_L TM ad cy g) H → va_S (mm_A TM ad) s.heap H locs → lv_has ls 9 [(0, .ref (ad 0)), (1, .int x1), (2, .int x2), (3, .int x3), (4, .int x4)] → K_37 x3 x4 g = some r0 → W p l e (headSpec wsX12_brothers (rm_X12_brothers)).room s m args below meth c H locs 0 0 (MQ below (mm_Qi D TM ad cy r0 g) args s 0 0 (mm_A TM ad)) (F0 m 37 ls [])) → ∀ (K_52 : Int32 → Int32 → Int32 → Int32 → Int32 → Mm → Option (Int32)), (∀ (x3 : Int32) (x4 : Int32) (x5 : Int32) (x6 : Int32) (x7 : Int32) (H : Heap) (locs : List Loc) (ls : Array Slot), va_P D vwCl (mm_L TM ad cy g) H → va_S (mm_A TM ad) s.heap H locs → lv_has ls 9 [(0, .ref (ad 0)), (1, .int x1), (2, .int x2), (3, .int x3), (4, .int x4), (5, .int x5), (6, .int x6), (7, .int x7)] → K_52 x3 x4 x5 x6 x7 g = some r0 → W p l e (headSpec wsX12_brothers (rm_X12_brothers)).room s m args below meth c H locs 0 0 (MQ below (mm_Qi D TM ad cy r0 g) args s 0 0 (mm_A TM ad)) (F0 m 52 ls [])) → ∀ (x3 : Int32) (x4 : Int32) (x6 : Int32) (x7 : Int32) (x8 : Int32) (sx0 : Int32) (sx1 : Int32) (H : Heap) (locs : List Loc) (ls : Array Slot), va_P D vwCl (mm_L TM ad cy g) H → va_S (mm_A TM ad) s.heap H locs → lv_has ls 9 [(0, .ref (ad 0)), (1, .int x1), (2, .int x2), (3, .int x3), (4, .int x4), (6, .int x6), (7, .int x7), (8, .int x8)] → f_X12_brothers_c141 K_37 K_52 x1 x2 x3 x4 x6 x7 x8 sx0 sx1 g = some r0 → W p l e (headSpec wsX12_brothers (rm_X12_brothers)).room s m args below meth c H locs 0 0 (MQ below (mm_Qi D TM ad cy r0 g) args s 0 0 (mm_A TM ad)) (F0 m 141 ls [.int sx1, .int sx0]) := by
    intro K_37 hK_37 K_52 hK_52 x3 x4 x6 x7 x8 sx0 sx1 H locs ls hP hS hl hf
    unfold f_X12_brothers_c141 at hf
    refine lv_iadd hx hb dX12_brothers_141 ?_
    obtain ⟨x5_29, ex5_29, hf⟩ := mv_some hf
    refine mq_nm ex5_29 ?_
    refine lv_istore (lv' := [(5, .int x5_29), (0, .ref (ad 0)), (1, .int x1), (2, .int x2), (3, .int x3), (4, .int x4), (6, .int x6), (7, .int x7), (8, .int x8)]) hx hb dX12_brothers_142 hl (by decide) rfl (fun ls hl => ?_)
    refine lv_iload hx hb dX12_brothers_144 (lv_at hl 6 rfl) ?_
    refine lv_iload hx hb dX12_brothers_146 (lv_at hl 8 rfl) ?_
    refine lv_if_eq (tgt := 169) hx hb dX12_brothers_148 (by decide) (fun c_30 => ?_) (fun c_30 => ?_)
    · replace hf := ite_t c_30 hf
      refine lv_iconst (v := 0) hx hb dX12_brothers_169 (by decide) ?_
      refine lv_iadd hx hb dX12_brothers_170 ?_
      obtain ⟨x6_31, ex6_31, hf⟩ := mv_some hf
      refine mq_nm ex6_31 ?_
      refine lv_istore (lv' := [(6, .int x6_31), (5, .int x5_29), (0, .ref (ad 0)), (1, .int x1), (2, .int x2), (3, .int x3), (4, .int x4), (7, .int x7), (8, .int x8)]) hx hb dX12_brothers_171 hl (by decide) rfl (fun ls hl => ?_)
      obtain ⟨x7_32, ex7_32, hf⟩ := mv_some hf
      refine lv_iinc (v := x7_32) (lv' := [(7, .int x7_32), (6, .int x6_31), (5, .int x5_29), (0, .ref (ad 0)), (1, .int x1), (2, .int x2), (3, .int x3), (4, .int x4), (8, .int x8)]) hx hb dX12_brothers_173 hl (k := 7) rfl (by rw [ex7_32]; rfl) (by decide) rfl (fun ls hl => ?_)
      refine lv_goto (tgt := 52) hx hb dX12_brothers_176 (by decide) ?_
      exact hK_52 x3 x4 x5_29 x6_31 x7_32 H locs ls hP hS (lv_sub hl [3, 4, 5, 6, 7, 2, 1, 0] rfl) hf
    · replace hf := ite_f c_30 hf
      refine lv_aload_n hx hb dX12_brothers_151 rfl (lv_at hl 1 rfl) ?_
      refine mq_getr (Tt := TX12) (N := 26) (C := RX12) hx hb hts hiX12 hown hK hP hp rfl 0 1 (by decide) rfl hw0 (fun _ h9 => h9) dX12_brothers_152 ?_
      refine lv_bipush (v := 31) hx hb dX12_brothers_155 (by decide) ?_
      refine lv_iload hx hb dX12_brothers_157 (lv_at hl 7 rfl) ?_
      refine lv_iadd hx hb dX12_brothers_159 ?_
      obtain ⟨h_33, hf⟩ := og_some hf
      refine mq_iald hx hb hK hP (N := 193) (shTM_X12_1 hp) h_33 dX12_brothers_160 ?_
      refine lv_iconst (v := 1) hx hb dX12_brothers_161 (by decide) ?_
      refine lv_icmp_ne (tgt := 169) hx hb dX12_brothers_162 (by decide) (fun c_34 => ?_) (fun c_34 => ?_)
      · replace hf := ite_f c_34 hf
        refine lv_iconst (v := 0) hx hb dX12_brothers_169 (by decide) ?_
        refine lv_iadd hx hb dX12_brothers_170 ?_
        obtain ⟨x6_35, ex6_35, hf⟩ := mv_some hf
        refine mq_nm ex6_35 ?_
        refine lv_istore (lv' := [(6, .int x6_35), (5, .int x5_29), (0, .ref (ad 0)), (1, .int x1), (2, .int x2), (3, .int x3), (4, .int x4), (7, .int x7), (8, .int x8)]) hx hb dX12_brothers_171 hl (by decide) rfl (fun ls hl => ?_)
        obtain ⟨x7_36, ex7_36, hf⟩ := mv_some hf
        refine lv_iinc (v := x7_36) (lv' := [(7, .int x7_36), (6, .int x6_35), (5, .int x5_29), (0, .ref (ad 0)), (1, .int x1), (2, .int x2), (3, .int x3), (4, .int x4), (8, .int x8)]) hx hb dX12_brothers_173 hl (k := 7) rfl (by rw [ex7_36]; rfl) (by decide) rfl (fun ls hl => ?_)
        refine lv_goto (tgt := 52) hx hb dX12_brothers_176 (by decide) ?_
        exact hK_52 x3 x4 x5_29 x6_35 x7_36 H locs ls hP hS (lv_sub hl [3, 4, 5, 6, 7, 2, 1, 0] rfl) hf
      · replace hf := ite_t c_34 hf
        refine lv_iconst (v := 1) hx hb dX12_brothers_165 (by decide) ?_
        refine lv_goto (tgt := 170) hx hb dX12_brothers_166 (by decide) ?_
        refine lv_iadd hx hb dX12_brothers_170 ?_
        obtain ⟨x6_37, ex6_37, hf⟩ := mv_some hf
        refine mq_nm ex6_37 ?_
        refine lv_istore (lv' := [(6, .int x6_37), (5, .int x5_29), (0, .ref (ad 0)), (1, .int x1), (2, .int x2), (3, .int x3), (4, .int x4), (7, .int x7), (8, .int x8)]) hx hb dX12_brothers_171 hl (by decide) rfl (fun ls hl => ?_)
        obtain ⟨x7_38, ex7_38, hf⟩ := mv_some hf
        refine lv_iinc (v := x7_38) (lv' := [(7, .int x7_38), (6, .int x6_37), (5, .int x5_29), (0, .ref (ad 0)), (1, .int x1), (2, .int x2), (3, .int x3), (4, .int x4), (8, .int x8)]) hx hb dX12_brothers_173 hl (k := 7) rfl (by rw [ex7_38]; rfl) (by decide) rfl (fun ls hl => ?_)
        refine lv_goto (tgt := 52) hx hb dX12_brothers_176 (by decide) ?_
        exact hK_52 x3 x4 x5_29 x6_37 x7_38 H locs ls hP hS (lv_sub hl [3, 4, 5, 6, 7, 2, 1, 0] rfl) hf
  have hc140 : ∀ (K_37 : Int32 → Int32 → Mm → Option (Int32)), (∀ (x3 : Int32) (x4 : Int32) (H : Heap) (locs : List Loc) (ls : Array Slot), va_P D vwCl (mm_L TM ad cy g) H → va_S (mm_A TM ad) s.heap H locs → lv_has ls 9 [(0, .ref (ad 0)), (1, .int x1), (2, .int x2), (3, .int x3), (4, .int x4)] → K_37 x3 x4 g = some r0 → W p l e (headSpec wsX12_brothers (rm_X12_brothers)).room s m args below meth c H locs 0 0 (MQ below (mm_Qi D TM ad cy r0 g) args s 0 0 (mm_A TM ad)) (F0 m 37 ls [])) → ∀ (K_52 : Int32 → Int32 → Int32 → Int32 → Int32 → Mm → Option (Int32)), (∀ (x3 : Int32) (x4 : Int32) (x5 : Int32) (x6 : Int32) (x7 : Int32) (H : Heap) (locs : List Loc) (ls : Array Slot), va_P D vwCl (mm_L TM ad cy g) H → va_S (mm_A TM ad) s.heap H locs → lv_has ls 9 [(0, .ref (ad 0)), (1, .int x1), (2, .int x2), (3, .int x3), (4, .int x4), (5, .int x5), (6, .int x6), (7, .int x7)] → K_52 x3 x4 x5 x6 x7 g = some r0 → W p l e (headSpec wsX12_brothers (rm_X12_brothers)).room s m args below meth c H locs 0 0 (MQ below (mm_Qi D TM ad cy r0 g) args s 0 0 (mm_A TM ad)) (F0 m 52 ls [])) → ∀ (x3 : Int32) (x4 : Int32) (x6 : Int32) (x7 : Int32) (x8 : Int32) (sx0 : Int32) (H : Heap) (locs : List Loc) (ls : Array Slot), va_P D vwCl (mm_L TM ad cy g) H → va_S (mm_A TM ad) s.heap H locs → lv_has ls 9 [(0, .ref (ad 0)), (1, .int x1), (2, .int x2), (3, .int x3), (4, .int x4), (6, .int x6), (7, .int x7), (8, .int x8)] → f_X12_brothers_c140 K_37 K_52 x1 x2 x3 x4 x6 x7 x8 sx0 g = some r0 → W p l e (headSpec wsX12_brothers (rm_X12_brothers)).room s m args below meth c H locs 0 0 (MQ below (mm_Qi D TM ad cy r0 g) args s 0 0 (mm_A TM ad)) (F0 m 140 ls [.int sx0]) := by
    intro K_37 hK_37 K_52 hK_52 x3 x4 x6 x7 x8 sx0 H locs ls hP hS hl hf
    unfold f_X12_brothers_c140 at hf
    refine lv_iconst (v := 0) hx hb dX12_brothers_140 (by decide) ?_
    exact hc141 K_37 hK_37 K_52 hK_52 x3 x4 x6 x7 x8 sx0 0 H locs ls hP hS (lv_sub hl [0, 1, 2, 3, 4, 5, 6, 7] rfl) hf
  have hc114 : ∀ (K_37 : Int32 → Int32 → Mm → Option (Int32)), (∀ (x3 : Int32) (x4 : Int32) (H : Heap) (locs : List Loc) (ls : Array Slot), va_P D vwCl (mm_L TM ad cy g) H → va_S (mm_A TM ad) s.heap H locs → lv_has ls 9 [(0, .ref (ad 0)), (1, .int x1), (2, .int x2), (3, .int x3), (4, .int x4)] → K_37 x3 x4 g = some r0 → W p l e (headSpec wsX12_brothers (rm_X12_brothers)).room s m args below meth c H locs 0 0 (MQ below (mm_Qi D TM ad cy r0 g) args s 0 0 (mm_A TM ad)) (F0 m 37 ls [])) → ∀ (K_52 : Int32 → Int32 → Int32 → Int32 → Int32 → Mm → Option (Int32)), (∀ (x3 : Int32) (x4 : Int32) (x5 : Int32) (x6 : Int32) (x7 : Int32) (H : Heap) (locs : List Loc) (ls : Array Slot), va_P D vwCl (mm_L TM ad cy g) H → va_S (mm_A TM ad) s.heap H locs → lv_has ls 9 [(0, .ref (ad 0)), (1, .int x1), (2, .int x2), (3, .int x3), (4, .int x4), (5, .int x5), (6, .int x6), (7, .int x7)] → K_52 x3 x4 x5 x6 x7 g = some r0 → W p l e (headSpec wsX12_brothers (rm_X12_brothers)).room s m args below meth c H locs 0 0 (MQ below (mm_Qi D TM ad cy r0 g) args s 0 0 (mm_A TM ad)) (F0 m 52 ls [])) → ∀ (x3 : Int32) (x4 : Int32) (x5 : Int32) (x6 : Int32) (x7 : Int32) (sx0 : Int32) (H : Heap) (locs : List Loc) (ls : Array Slot), va_P D vwCl (mm_L TM ad cy g) H → va_S (mm_A TM ad) s.heap H locs → lv_has ls 9 [(0, .ref (ad 0)), (1, .int x1), (2, .int x2), (3, .int x3), (4, .int x4), (5, .int x5), (6, .int x6), (7, .int x7)] → f_X12_brothers_c114 K_37 K_52 x1 x2 x3 x4 x5 x6 x7 sx0 g = some r0 → W p l e (headSpec wsX12_brothers (rm_X12_brothers)).room s m args below meth c H locs 0 0 (MQ below (mm_Qi D TM ad cy r0 g) args s 0 0 (mm_A TM ad)) (F0 m 114 ls [.int sx0]) := by
    intro K_37 hK_37 K_52 hK_52 x3 x4 x5 x6 x7 sx0 H locs ls hP hS hl hf
    unfold f_X12_brothers_c114 at hf
    refine lv_istore (lv' := [(8, .int sx0), (0, .ref (ad 0)), (1, .int x1), (2, .int x2), (3, .int x3), (4, .int x4), (5, .int x5), (6, .int x6), (7, .int x7)]) hx hb dX12_brothers_114 hl (by decide) rfl (fun ls hl => ?_)
    refine lv_iload hx hb dX12_brothers_116 (lv_at hl 6 rfl) ?_
    refine lv_iload hx hb dX12_brothers_118 (lv_at hl 0 rfl) ?_
    refine lv_if_eq (tgt := 140) hx hb dX12_brothers_120 (by decide) (fun c_28 => ?_) (fun c_28 => ?_)
    · replace hf := ite_t c_28 hf
      exact hc140 K_37 hK_37 K_52 hK_52 x3 x4 x6 x7 sx0 x5 H locs ls hP hS (lv_sub hl [1, 2, 3, 4, 5, 7, 8, 0] rfl) hf
    · replace hf := ite_f c_28 hf
      refine lv_aload_n hx hb dX12_brothers_123 rfl (lv_at hl 1 rfl) ?_
      refine mq_getr (Tt := TX12) (N := 26) (C := RX12) hx hb hts hiX12 hown hK hP hp rfl 0 1 (by decide) rfl hw0 (fun _ h9 => h9) dX12_brothers_124 ?_
      refine lv_bipush (v := 31) hx hb dX12_brothers_127 (by decide) ?_
      refine lv_iload hx hb dX12_brothers_129 (lv_at hl 8 rfl) ?_
      refine lv_iadd hx hb dX12_brothers_131 ?_
      obtain ⟨h_39, hf⟩ := og_some hf
      refine mq_iald hx hb hK hP (N := 193) (shTM_X12_1 hp) h_39 dX12_brothers_132 ?_
      refine lv_if_ne (tgt := 140) hx hb dX12_brothers_133 (by decide) (fun c_40 => ?_) (fun c_40 => ?_)
      · replace hf := ite_f c_40 hf
        exact hc140 K_37 hK_37 K_52 hK_52 x3 x4 x6 x7 sx0 x5 H locs ls hP hS (lv_sub hl [1, 2, 3, 4, 5, 7, 8, 0] rfl) hf
      · replace hf := ite_t c_40 hf
        refine lv_iconst (v := 1) hx hb dX12_brothers_136 (by decide) ?_
        refine lv_goto (tgt := 141) hx hb dX12_brothers_137 (by decide) ?_
        exact hc141 K_37 hK_37 K_52 hK_52 x3 x4 x6 x7 sx0 x5 1 H locs ls hP hS (lv_sub hl [1, 2, 3, 4, 5, 7, 8, 0] rfl) hf
  have hc113 : ∀ (K_37 : Int32 → Int32 → Mm → Option (Int32)), (∀ (x3 : Int32) (x4 : Int32) (H : Heap) (locs : List Loc) (ls : Array Slot), va_P D vwCl (mm_L TM ad cy g) H → va_S (mm_A TM ad) s.heap H locs → lv_has ls 9 [(0, .ref (ad 0)), (1, .int x1), (2, .int x2), (3, .int x3), (4, .int x4)] → K_37 x3 x4 g = some r0 → W p l e (headSpec wsX12_brothers (rm_X12_brothers)).room s m args below meth c H locs 0 0 (MQ below (mm_Qi D TM ad cy r0 g) args s 0 0 (mm_A TM ad)) (F0 m 37 ls [])) → ∀ (K_52 : Int32 → Int32 → Int32 → Int32 → Int32 → Mm → Option (Int32)), (∀ (x3 : Int32) (x4 : Int32) (x5 : Int32) (x6 : Int32) (x7 : Int32) (H : Heap) (locs : List Loc) (ls : Array Slot), va_P D vwCl (mm_L TM ad cy g) H → va_S (mm_A TM ad) s.heap H locs → lv_has ls 9 [(0, .ref (ad 0)), (1, .int x1), (2, .int x2), (3, .int x3), (4, .int x4), (5, .int x5), (6, .int x6), (7, .int x7)] → K_52 x3 x4 x5 x6 x7 g = some r0 → W p l e (headSpec wsX12_brothers (rm_X12_brothers)).room s m args below meth c H locs 0 0 (MQ below (mm_Qi D TM ad cy r0 g) args s 0 0 (mm_A TM ad)) (F0 m 52 ls [])) → ∀ (x3 : Int32) (x4 : Int32) (x5 : Int32) (x6 : Int32) (x7 : Int32) (H : Heap) (locs : List Loc) (ls : Array Slot), va_P D vwCl (mm_L TM ad cy g) H → va_S (mm_A TM ad) s.heap H locs → lv_has ls 9 [(0, .ref (ad 0)), (1, .int x1), (2, .int x2), (3, .int x3), (4, .int x4), (5, .int x5), (6, .int x6), (7, .int x7)] → f_X12_brothers_c113 K_37 K_52 x1 x2 x3 x4 x5 x6 x7 g = some r0 → W p l e (headSpec wsX12_brothers (rm_X12_brothers)).room s m args below meth c H locs 0 0 (MQ below (mm_Qi D TM ad cy r0 g) args s 0 0 (mm_A TM ad)) (F0 m 113 ls []) := by
    intro K_37 hK_37 K_52 hK_52 x3 x4 x5 x6 x7 H locs ls hP hS hl hf
    unfold f_X12_brothers_c113 at hf
    refine lv_iconst (v := 0) hx hb dX12_brothers_113 (by decide) ?_
    exact hc114 K_37 hK_37 K_52 hK_52 x3 x4 x5 x6 x7 0 H locs ls hP hS (lv_sub hl [0, 1, 2, 3, 4, 5, 6, 7] rfl) hf
  have hc52 : ∀ (K_37 : Int32 → Int32 → Mm → Option (Int32)), (∀ (x3 : Int32) (x4 : Int32) (H : Heap) (locs : List Loc) (ls : Array Slot), va_P D vwCl (mm_L TM ad cy g) H → va_S (mm_A TM ad) s.heap H locs → lv_has ls 9 [(0, .ref (ad 0)), (1, .int x1), (2, .int x2), (3, .int x3), (4, .int x4)] → K_37 x3 x4 g = some r0 → W p l e (headSpec wsX12_brothers (rm_X12_brothers)).room s m args below meth c H locs 0 0 (MQ below (mm_Qi D TM ad cy r0 g) args s 0 0 (mm_A TM ad)) (F0 m 37 ls [])) → ∀ (n : Nat), ∀ (x3 : Int32) (x4 : Int32) (x5 : Int32) (x6 : Int32) (x7 : Int32) (H : Heap) (locs : List Loc) (ls : Array Slot), va_P D vwCl (mm_L TM ad cy g) H → va_S (mm_A TM ad) s.heap H locs → lv_has ls 9 [(0, .ref (ad 0)), (1, .int x1), (2, .int x2), (3, .int x3), (4, .int x4), (5, .int x5), (6, .int x6), (7, .int x7)] → f_X12_brothers_c52 K_37 x1 x2 n x3 x4 x5 x6 x7 g = some r0 → W p l e (headSpec wsX12_brothers (rm_X12_brothers)).room s m args below meth c H locs 0 0 (MQ below (mm_Qi D TM ad cy r0 g) args s 0 0 (mm_A TM ad)) (F0 m 52 ls []) := by
    intro K_37 hK_37 n
    induction n with
    | zero =>
      intro x3 x4 x5 x6 x7 H locs ls hP hS hl hf
      rw [f_X12_brothers_c52] at hf
      cases hf
    | succ n ih =>
      intro x3 x4 x5 x6 x7 H locs ls hP hS hl hf
      rw [f_X12_brothers_c52] at hf
      refine lv_iload hx hb dX12_brothers_52 (lv_at hl 7 rfl) ?_
      refine lv_aload_n hx hb dX12_brothers_54 rfl (lv_at hl 0 rfl) ?_
      refine mq_getr (Tt := TX12) (N := 26) (C := RX12) hx hb hts hiX12 hown hK hP hp rfl 0 1 (by decide) rfl hw0 (fun _ h9 => h9) dX12_brothers_55 ?_
      refine lv_iconst (v := 1) hx hb dX12_brothers_58 (by decide) ?_
      refine mq_iald hx hb hK hP (N := 193) (shTM_X12_1 hp) (by decide : mm_in 1 193 = true) dX12_brothers_59 ?_
      refine lv_icmp_ge (tgt := 179) hx hb dX12_brothers_60 (by decide) (fun c_20 => ?_) (fun c_20 => ?_)
      · replace hf := ite_t c_20 hf
        refine lv_iload_n hx hb dX12_brothers_179 rfl (lv_at hl 3 rfl) ?_
        refine lv_iload hx hb dX12_brothers_180 (lv_at hl 5 rfl) ?_
        refine lv_iload hx hb dX12_brothers_182 (lv_at hl 6 rfl) ?_
        refine lv_icmp_ge (tgt := 192) hx hb dX12_brothers_184 (by decide) (fun c_21 => ?_) (fun c_21 => ?_)
        · replace hf := ite_t c_21 hf
          refine lv_iload hx hb dX12_brothers_192 (lv_at hl 6 rfl) ?_
          refine lv_iadd hx hb dX12_brothers_194 ?_
          obtain ⟨x3_22, ex3_22, hf⟩ := mv_some hf
          refine mq_nm ex3_22 ?_
          refine lv_istore_n (lv' := [(3, .int x3_22), (0, .ref (ad 0)), (1, .int x1), (2, .int x2), (4, .int x4), (5, .int x5), (6, .int x6), (7, .int x7)]) hx hb dX12_brothers_195 rfl hl (by decide) rfl (fun ls hl => ?_)
          obtain ⟨x4_23, ex4_23, hf⟩ := mv_some hf
          refine lv_iinc (v := x4_23) (lv' := [(4, .int x4_23), (3, .int x3_22), (0, .ref (ad 0)), (1, .int x1), (2, .int x2), (5, .int x5), (6, .int x6), (7, .int x7)]) hx hb dX12_brothers_196 hl (k := 4) rfl (by rw [ex4_23]; rfl) (by decide) rfl (fun ls hl => ?_)
          refine lv_goto (tgt := 37) hx hb dX12_brothers_199 (by decide) ?_
          exact hK_37 x3_22 x4_23 H locs ls hP hS (lv_sub hl [2, 3, 4, 1, 0] rfl) hf
        · replace hf := ite_f c_21 hf
          refine lv_iload hx hb dX12_brothers_187 (lv_at hl 5 rfl) ?_
          refine lv_goto (tgt := 194) hx hb dX12_brothers_189 (by decide) ?_
          refine lv_iadd hx hb dX12_brothers_194 ?_
          obtain ⟨x3_24, ex3_24, hf⟩ := mv_some hf
          refine mq_nm ex3_24 ?_
          refine lv_istore_n (lv' := [(3, .int x3_24), (0, .ref (ad 0)), (1, .int x1), (2, .int x2), (4, .int x4), (5, .int x5), (6, .int x6), (7, .int x7)]) hx hb dX12_brothers_195 rfl hl (by decide) rfl (fun ls hl => ?_)
          obtain ⟨x4_25, ex4_25, hf⟩ := mv_some hf
          refine lv_iinc (v := x4_25) (lv' := [(4, .int x4_25), (3, .int x3_24), (0, .ref (ad 0)), (1, .int x1), (2, .int x2), (5, .int x5), (6, .int x6), (7, .int x7)]) hx hb dX12_brothers_196 hl (k := 4) rfl (by rw [ex4_25]; rfl) (by decide) rfl (fun ls hl => ?_)
          refine lv_goto (tgt := 37) hx hb dX12_brothers_199 (by decide) ?_
          exact hK_37 x3_24 x4_25 H locs ls hP hS (lv_sub hl [2, 3, 4, 1, 0] rfl) hf
      · replace hf := ite_f c_20 hf
        refine lv_aload_n hx hb dX12_brothers_63 rfl (lv_at hl 0 rfl) ?_
        refine mq_getr (Tt := TX12) (N := 26) (C := RX12) hx hb hts hiX12 hown hK hP hp rfl 0 1 (by decide) rfl hw0 (fun _ h9 => h9) dX12_brothers_64 ?_
        refine lv_bipush (v := 47) hx hb dX12_brothers_67 (by decide) ?_
        refine lv_iload hx hb dX12_brothers_69 (lv_at hl 7 rfl) ?_
        refine lv_iadd hx hb dX12_brothers_71 ?_
        obtain ⟨h_26, hf⟩ := og_some hf
        refine mq_iald hx hb hK hP (N := 193) (shTM_X12_1 hp) h_26 dX12_brothers_72 ?_
        refine lv_iload hx hb dX12_brothers_73 (lv_at hl 4 rfl) ?_
        refine lv_icmp_ne (tgt := 113) hx hb dX12_brothers_75 (by decide) (fun c_27 => ?_) (fun c_27 => ?_)
        · replace hf := ite_f c_27 hf
          exact hc113 K_37 hK_37 (f_X12_brothers_c52 K_37 x1 x2 n) ih x3 x4 x5 x6 x7 H locs ls hP hS (lv_sub hl [0, 1, 2, 3, 4, 5, 6, 7] rfl) hf
        · replace hf := ite_t c_27 hf
          refine lv_aload_n hx hb dX12_brothers_78 rfl (lv_at hl 0 rfl) ?_
          refine mq_getr (Tt := TX12) (N := 26) (C := RX12) hx hb hts hiX12 hown hK hP hp rfl 0 1 (by decide) rfl hw0 (fun _ h9 => h9) dX12_brothers_79 ?_
          refine lv_bipush (v := 63) hx hb dX12_brothers_82 (by decide) ?_
          refine lv_iload hx hb dX12_brothers_84 (lv_at hl 7 rfl) ?_
          refine lv_iadd hx hb dX12_brothers_86 ?_
          obtain ⟨h_41, hf⟩ := og_some hf
          refine mq_iald hx hb hK hP (N := 193) (shTM_X12_1 hp) h_41 dX12_brothers_87 ?_
          refine lv_if_le (tgt := 113) hx hb dX12_brothers_88 (by decide) (fun c_42 => ?_) (fun c_42 => ?_)
          · replace hf := ite_t c_42 hf
            exact hc113 K_37 hK_37 (f_X12_brothers_c52 K_37 x1 x2 n) ih x3 x4 x5 x6 x7 H locs ls hP hS (lv_sub hl [0, 1, 2, 3, 4, 5, 6, 7] rfl) hf
          · replace hf := ite_f c_42 hf
            refine lv_iload_n hx hb dX12_brothers_91 rfl (lv_at hl 1 rfl) ?_
            refine lv_aload_n hx hb dX12_brothers_92 rfl (lv_at hl 0 rfl) ?_
            refine mq_getr (Tt := TX12) (N := 26) (C := RX12) hx hb hts hiX12 hown hK hP hp rfl 0 1 (by decide) rfl hw0 (fun _ h9 => h9) dX12_brothers_93 ?_
            refine lv_bipush (v := 15) hx hb dX12_brothers_96 (by decide) ?_
            refine lv_iload hx hb dX12_brothers_98 (lv_at hl 7 rfl) ?_
            refine lv_iadd hx hb dX12_brothers_100 ?_
            obtain ⟨h_43, hf⟩ := og_some hf
            refine mq_iald hx hb hK hP (N := 193) (shTM_X12_1 hp) h_43 dX12_brothers_101 ?_
            refine lv_ishr hx hb dX12_brothers_102 ?_
            refine lv_iconst (v := 1) hx hb dX12_brothers_103 (by decide) ?_
            refine lv_iand hx hb dX12_brothers_104 ?_
            refine lv_iconst (v := 1) hx hb dX12_brothers_105 (by decide) ?_
            refine lv_icmp_ne (tgt := 113) hx hb dX12_brothers_106 (by decide) (fun c_44 => ?_) (fun c_44 => ?_)
            · replace hf := ite_f c_44 hf
              exact hc113 K_37 hK_37 (f_X12_brothers_c52 K_37 x1 x2 n) ih x3 x4 x5 x6 x7 H locs ls hP hS (lv_sub hl [0, 1, 2, 3, 4, 5, 6, 7] rfl) hf
            · replace hf := ite_t c_44 hf
              refine lv_iconst (v := 1) hx hb dX12_brothers_109 (by decide) ?_
              refine lv_goto (tgt := 114) hx hb dX12_brothers_110 (by decide) ?_
              exact hc114 K_37 hK_37 (f_X12_brothers_c52 K_37 x1 x2 n) ih x3 x4 x5 x6 x7 1 H locs ls hP hS (lv_sub hl [0, 1, 2, 3, 4, 5, 6, 7] rfl) hf
  have hc37 : ∀ (n : Nat), ∀ (x3 : Int32) (x4 : Int32) (H : Heap) (locs : List Loc) (ls : Array Slot), va_P D vwCl (mm_L TM ad cy g) H → va_S (mm_A TM ad) s.heap H locs → lv_has ls 9 [(0, .ref (ad 0)), (1, .int x1), (2, .int x2), (3, .int x3), (4, .int x4)] → f_X12_brothers_c37 x1 x2 n x3 x4 g = some r0 → W p l e (headSpec wsX12_brothers (rm_X12_brothers)).room s m args below meth c H locs 0 0 (MQ below (mm_Qi D TM ad cy r0 g) args s 0 0 (mm_A TM ad)) (F0 m 37 ls []) := by
    intro n
    induction n with
    | zero =>
      intro x3 x4 H locs ls hP hS hl hf
      rw [f_X12_brothers_c37] at hf
      cases hf
    | succ n ih =>
      intro x3 x4 H locs ls hP hS hl hf
      rw [f_X12_brothers_c37] at hf
      refine lv_iload hx hb dX12_brothers_37 (lv_at hl 4 rfl) ?_
      refine lv_iconst (v := 4) hx hb dX12_brothers_39 (by decide) ?_
      refine lv_icmp_ge (tgt := 202) hx hb dX12_brothers_40 (by decide) (fun c_7 => ?_) (fun c_7 => ?_)
      · replace hf := ite_t c_7 hf
        refine lv_iconst (v := 0) hx hb dX12_brothers_202 (by decide) ?_
        refine lv_istore (lv' := [(4, .int 0), (0, .ref (ad 0)), (1, .int x1), (2, .int x2), (3, .int x3)]) hx hb dX12_brothers_203 hl (by decide) rfl (fun ls hl => ?_)
        refine lv_iconst (v := 0) hx hb dX12_brothers_205 (by decide) ?_
        refine lv_istore (lv' := [(5, .int 0), (4, .int 0), (0, .ref (ad 0)), (1, .int x1), (2, .int x2), (3, .int x3)]) hx hb dX12_brothers_206 hl (by decide) rfl (fun ls hl => ?_)
        exact hc208 FU x3 0 0 H locs ls hP hS (lv_sub hl [2, 3, 4, 5, 1, 0] rfl) hf
      · replace hf := ite_f c_7 hf
        refine lv_iconst (v := 0) hx hb dX12_brothers_43 (by decide) ?_
        refine lv_istore (lv' := [(5, .int 0), (0, .ref (ad 0)), (1, .int x1), (2, .int x2), (3, .int x3), (4, .int x4)]) hx hb dX12_brothers_44 hl (by decide) rfl (fun ls hl => ?_)
        refine lv_iconst (v := 0) hx hb dX12_brothers_46 (by decide) ?_
        refine lv_istore (lv' := [(6, .int 0), (5, .int 0), (0, .ref (ad 0)), (1, .int x1), (2, .int x2), (3, .int x3), (4, .int x4)]) hx hb dX12_brothers_47 hl (by decide) rfl (fun ls hl => ?_)
        refine lv_iconst (v := 0) hx hb dX12_brothers_49 (by decide) ?_
        refine lv_istore (lv' := [(7, .int 0), (6, .int 0), (5, .int 0), (0, .ref (ad 0)), (1, .int x1), (2, .int x2), (3, .int x3), (4, .int x4)]) hx hb dX12_brothers_50 hl (by decide) rfl (fun ls hl => ?_)
        exact hc52 (f_X12_brothers_c37 x1 x2 n) ih FU x3 x4 0 0 0 H locs ls hP hS (lv_sub hl [3, 4, 5, 6, 7, 2, 1, 0] rfl) hf
  unfold f_X12_brothers at hf
  have hH9 : ∀ (H : Heap) (locs : List Loc), H = s.heap → locs = [] → va_P D vwCl (mm_L TM ad cy g) H → va_S (mm_A TM ad) s.heap H locs → W p l e (headSpec wsX12_brothers (rm_X12_brothers)).room s m args below meth c H locs 0 0 (MQ below (mm_Qi D TM ad cy r0 g) args s 0 0 (mm_A TM ad)) (F0 m 0 ls []) := by
    intro H locs hH9 hL9 hP hS
    clear hH9 hL9
    refine lv_iload_n hx hb dX12_brothers_0 rfl (lv_at hl 1 rfl) ?_
    refine lv_i2l hx hb dX12_brothers_1 rfl ?_
    refine lv_lconst (v := 0) hx hb dX12_brothers_2 (by decide) ?_
    refine lv_iconst (v := 1) hx hb dX12_brothers_3 (by decide) ?_
    refine lv_aload_n hx hb dX12_brothers_4 rfl (lv_at hl 0 rfl) ?_
    refine mq_getr (Tt := TX12) (N := 26) (C := RX12) hx hb hts hiX12 hown hK hP hp rfl 0 1 (by decide) rfl hw0 (fun _ h9 => h9) dX12_brothers_5 ?_
    refine lv_iconst (v := 0) hx hb dX12_brothers_8 (by decide) ?_
    refine mq_iald hx hb hK hP (N := 193) (shTM_X12_1 hp) (by decide : mm_in 0 193 = true) dX12_brothers_9 ?_
    refine lv_ishl hx hb dX12_brothers_10 ?_
    refine lv_iconst (v := 1) hx hb dX12_brothers_11 (by decide) ?_
    refine lv_isub hx hb dX12_brothers_12 ?_
    refine lv_i2l hx hb dX12_brothers_13 rfl ?_
    obtain ⟨r_1, hr_2, hf⟩ := op_some hf
    refine mq_calli (va_runS (As := [.long (x1.toInt64), .long 0, .long (((1 <<< ((g 1 (0 : Int32).toNatClampNeg) &&& 31)) - 1).toInt64)]) (rest := []) ⟨hx, hb, hml, hown, hts⟩ (c_X12_in l D ad cy (x1.toInt64) 0 (((1 <<< ((g 1 (0 : Int32).toNatClampNeg) &&& 31)) - 1).toInt64) g r_1 hr_2) (va_cwS 3 hts gX12_brothers_X12_in rfl rfl rfl (by decide +kernel) ⟨Nat.le_of_ble_eq_true rfl, Nat.le_of_ble_eq_true rfl⟩) (mq_preS mm_zOk0 hK hP hI hZ hS) rfl rfl hl.1 rfl (lv_room (Nat.le_of_ble_eq_true rfl)) dX12_brothers_14 ⟨Nat.le_refl _, Nat.le_refl _⟩) hS (fun H locs hP hS => ?_)
    refine lv_if_eq (tgt := 30) hx hb dX12_brothers_17 (by decide) (fun c_3 => ?_) (fun c_3 => ?_)
    · replace hf := ite_t c_3 hf
      refine lv_iconst (v := (-1)) hx hb dX12_brothers_30 (by decide) ?_
      exact mq_iret hx hb hr rfl hlocks hP hS (Option.some.inj hf) rfl dX12_brothers_31
    · replace hf := ite_f c_3 hf
      refine lv_iload_n hx hb dX12_brothers_20 rfl (lv_at hl 2 rfl) ?_
      refine lv_i2l hx hb dX12_brothers_21 rfl ?_
      refine lv_lconst (v := 0) hx hb dX12_brothers_22 (by decide) ?_
      refine lv_lconst (v := 1) hx hb dX12_brothers_23 (by decide) ?_
      obtain ⟨r_4, hr_5, hf⟩ := op_some hf
      refine mq_calli (va_runS (As := [.long (x2.toInt64), .long 0, .long 1]) (rest := []) ⟨hx, hb, hml, hown, hts⟩ (c_X12_in l D ad cy (x2.toInt64) 0 1 g r_4 hr_5) (va_cwS 3 hts gX12_brothers_X12_in rfl rfl rfl (by decide +kernel) ⟨Nat.le_of_ble_eq_true rfl, Nat.le_of_ble_eq_true rfl⟩) (mq_preS mm_zOk0 hK hP hI hZ hS) rfl rfl hl.1 rfl (lv_room (Nat.le_of_ble_eq_true rfl)) dX12_brothers_24 ⟨Nat.le_refl _, Nat.le_refl _⟩) hS (fun H locs hP hS => ?_)
      refine lv_if_ne (tgt := 32) hx hb dX12_brothers_27 (by decide) (fun c_6 => ?_) (fun c_6 => ?_)
      · replace hf := ite_f c_6 hf
        refine lv_iconst (v := 0) hx hb dX12_brothers_32 (by decide) ?_
        refine lv_istore_n (lv' := [(3, .int 0), (0, .ref (ad 0)), (1, .int x1), (2, .int x2)]) hx hb dX12_brothers_33 rfl hl (by decide) rfl (fun ls hl => ?_)
        refine lv_iconst (v := 0) hx hb dX12_brothers_34 (by decide) ?_
        refine lv_istore (lv' := [(4, .int 0), (3, .int 0), (0, .ref (ad 0)), (1, .int x1), (2, .int x2)]) hx hb dX12_brothers_35 hl (by decide) rfl (fun ls hl => ?_)
        exact hc37 FU 0 0 H locs ls hP hS (lv_sub hl [2, 3, 4, 1, 0] rfl) hf
      · replace hf := ite_t c_6 hf
        refine lv_iconst (v := (-1)) hx hb dX12_brothers_30 (by decide) ?_
        exact mq_iret hx hb hr rfl hlocks hP hS (Option.some.inj hf) rfl dX12_brothers_31
  exact hH9 s.heap [] rfl rfl hP hS
abbrev rm_X12_image : Room := ({ frames := 0, cells := 0, slots := 0, locals := 0 } : Room)
set_option maxHeartbeats 4000000 in
set_option maxRecDepth 100000 in
theorem c_X12_image (l : Launch) (D : va_G) (ad : Nat → Nat) (cy : Nat → ClassId)  (g : Mm) (hp : TM[0]? = some sX12) (r0 : Int32) (g' : Mm) (hf : f_X12_image g = some (r0, g')) : Met l yX12_image wsX12_image rm_X12_image (va_Pc [.ref (ad 0)] (mm_pre mm_Z0 D TM ad cy g)) (mm_Qi D TM ad cy r0 g') 0 0 (mm_A TM ad) := by
  refine Met.ofW (cc := cX12_image) (maxL := 2) (ret := (some .int)) (by decide) rfl ?_
  intro p e s m args below meth c s₁ B hml hv
  obtain ⟨hargs, hP, hK, hI, hZ⟩ := hv
  have hx := B.exec
  have hb := B.bytes
  have hr := B.returns
  have hts := atoms_spec (ws := wsX12_image) B.pre
  have hown : s.vm.findClass RX12 = some m.cls := findClass_of_methodNamed B.named
  have hlocks := B.notSynchronized
  have hw0 := hts (.fieldLink RX12 220 "LeftShoesModel" "isKept" "Z") (by decide +kernel)
  have hiX12 : ∀ w ∈ wsX120, w ∈ wsX12_image := by decide +kernel
  have hw2 := hts (.fieldLink RX12 13 "LeftShoesModel" "then" "[I") (by decide +kernel)
  have hw3 := hts (.fieldLink RX12 7 "LeftShoesModel" "now" "[I") (by decide +kernel)
  rw [show entryFrame m args 2 = F0 m 0 ((lg_sl ([.ref (ad 0)] : List Value) ++ List.replicate (2 - (lg_sl ([.ref (ad 0)] : List Value)).length) Slot.unset).toArray) [] from by rw [hargs]; exact lg_entry_eq m _ _]
  have hl := lv_entry ([.ref (ad 0)] : List Value) (n := 2) (by exact Nat.le_of_ble_eq_true rfl)
  generalize (lg_sl ([.ref (ad 0)] : List Value) ++ List.replicate (2 - (lg_sl ([.ref (ad 0)] : List Value)).length) Slot.unset).toArray = ls at hl ⊢
  have hl : lv_has ls 2 [(0, .ref (ad 0))] := by exact hl
  have hS : va_S (mm_A TM ad) s.heap s.heap [] := va_S.rf
  clear hargs
  have hc2 : ∀ (n : Nat), ∀ (x1 : Int32) (g : Mm) (H : Heap) (locs : List Loc) (ls : Array Slot), va_P D vwCl (mm_L TM ad cy g) H → va_S (mm_A TM ad) s.heap H locs → lv_has ls 2 [(0, .ref (ad 0)), (1, .int x1)] → f_X12_image_c2 n x1 g = some (r0, g') → W p l e (headSpec wsX12_image (rm_X12_image)).room s m args below meth c H locs 0 0 (MQ below (mm_Qi D TM ad cy r0 g') args s 0 0 (mm_A TM ad)) (F0 m 2 ls []) := by
    intro n
    induction n with
    | zero =>
      intro x1 g H locs ls hP hS hl hf
      rw [f_X12_image_c2] at hf
      cases hf
    | succ n ih =>
      intro x1 g H locs ls hP hS hl hf
      rw [f_X12_image_c2] at hf
      refine lv_iload_n hx hb dX12_image_2 rfl (lv_at hl 1 rfl) ?_
      refine lv_sipush (v := 193) hx hb dX12_image_3 (by decide) ?_
      refine lv_icmp_ge (tgt := 27) hx hb dX12_image_6 (by decide) (fun c_1 => ?_) (fun c_1 => ?_)
      · replace hf := ite_t c_1 hf
        refine lv_aload_n hx hb dX12_image_27 rfl (lv_at hl 0 rfl) ?_
        refine lv_iconst (v := 1) hx hb dX12_image_28 (by decide) ?_
        obtain ⟨g_2, eg_2, hf⟩ := mw_some hf
        refine mq_puti (Tt := TX12) (N := 26) (C := RX12) (ty := .boolean) hx hb hts hiX12 tyX12 tyX12_ok nmX12 hown hK hI hP hS hp rfl 2 (by decide) rfl hw0 (fun _ h9 => h9) rfl (by decide +kernel) (by decide +kernel) (by decide +kernel) dX12_image_29 eg_2 (fun H locs hP hS => ?_)
        refine lv_iconst (v := 1) hx hb dX12_image_32 (by decide) ?_
        exact mq_iret hx hb hr rfl hlocks hP hS (pr_1 hf) (pr_2 hf) dX12_image_33
      · replace hf := ite_f c_1 hf
        refine lv_aload_n hx hb dX12_image_9 rfl (lv_at hl 0 rfl) ?_
        refine mq_getr (Tt := TX12) (N := 26) (C := RX12) hx hb hts hiX12 hown hK hP hp rfl 1 2 (by decide) rfl hw2 (fun _ h9 => h9) dX12_image_10 ?_
        refine lv_iload_n hx hb dX12_image_13 rfl (lv_at hl 1 rfl) ?_
        refine lv_aload_n hx hb dX12_image_14 rfl (lv_at hl 0 rfl) ?_
        refine mq_getr (Tt := TX12) (N := 26) (C := RX12) hx hb hts hiX12 hown hK hP hp rfl 0 1 (by decide) rfl hw3 (fun _ h9 => h9) dX12_image_15 ?_
        refine lv_iload_n hx hb dX12_image_18 rfl (lv_at hl 1 rfl) ?_
        obtain ⟨h_3, hf⟩ := og_some hf
        refine mq_iald hx hb hK hP (N := 193) (shTM_X12_1 hp) h_3 dX12_image_19 ?_
        obtain ⟨h_4, hf⟩ := og_some hf
        obtain ⟨g_5, eg_5, hf⟩ := mw_some hf
        refine mq_iast hx hb hK hI hP hS (N := 193) (shTM_X12_2 hp) h_4 dX12_image_20 eg_5 (fun H locs hP hS => ?_)
        obtain ⟨x1_6, ex1_6, hf⟩ := mv_some hf
        refine lv_iinc (v := x1_6) (lv' := [(1, .int x1_6), (0, .ref (ad 0))]) hx hb dX12_image_21 hl (k := 1) rfl (by rw [ex1_6]; rfl) (by decide) rfl (fun ls hl => ?_)
        refine lv_goto (tgt := 2) hx hb dX12_image_24 (by decide) ?_
        exact ih x1_6 g_5 H locs ls hP hS (lv_sub hl [1, 0] rfl) hf
  unfold f_X12_image at hf
  have hH9 : ∀ (H : Heap) (locs : List Loc), H = s.heap → locs = [] → va_P D vwCl (mm_L TM ad cy g) H → va_S (mm_A TM ad) s.heap H locs → W p l e (headSpec wsX12_image (rm_X12_image)).room s m args below meth c H locs 0 0 (MQ below (mm_Qi D TM ad cy r0 g') args s 0 0 (mm_A TM ad)) (F0 m 0 ls []) := by
    intro H locs hH9 hL9 hP hS
    clear hH9 hL9
    refine lv_iconst (v := 0) hx hb dX12_image_0 (by decide) ?_
    refine lv_istore_n (lv' := [(1, .int 0), (0, .ref (ad 0))]) hx hb dX12_image_1 rfl hl (by decide) rfl (fun ls hl => ?_)
    exact hc2 FU 0 g H locs ls hP hS (lv_sub hl [1, 0] rfl) hf
  exact hH9 s.heap [] rfl rfl hP hS
abbrev rm_X12_restore : Room := ({ frames := 0, cells := 0, slots := 0, locals := 0 } : Room)
set_option maxHeartbeats 4000000 in
set_option maxRecDepth 100000 in
theorem c_X12_restore (l : Launch) (D : va_G) (ad : Nat → Nat) (cy : Nat → ClassId)  (g : Mm) (hp : TM[0]? = some sX12) (r0 : Int32) (g' : Mm) (hf : f_X12_restore g = some (r0, g')) : Met l yX12_restore wsX12_restore rm_X12_restore (va_Pc [.ref (ad 0)] (mm_pre mm_Z0 D TM ad cy g)) (mm_Qi D TM ad cy r0 g') 0 0 (mm_A TM ad) := by
  refine Met.ofW (cc := cX12_restore) (maxL := 2) (ret := (some .int)) (by decide) rfl ?_
  intro p e s m args below meth c s₁ B hml hv
  obtain ⟨hargs, hP, hK, hI, hZ⟩ := hv
  have hx := B.exec
  have hb := B.bytes
  have hr := B.returns
  have hts := atoms_spec (ws := wsX12_restore) B.pre
  have hown : s.vm.findClass RX12 = some m.cls := findClass_of_methodNamed B.named
  have hlocks := B.notSynchronized
  have hw0 := hts (.fieldLink RX12 220 "LeftShoesModel" "isKept" "Z") (by decide +kernel)
  have hiX12 : ∀ w ∈ wsX120, w ∈ wsX12_restore := by decide +kernel
  have hw2 := hts (.fieldLink RX12 7 "LeftShoesModel" "now" "[I") (by decide +kernel)
  have hw3 := hts (.fieldLink RX12 13 "LeftShoesModel" "then" "[I") (by decide +kernel)
  rw [show entryFrame m args 2 = F0 m 0 ((lg_sl ([.ref (ad 0)] : List Value) ++ List.replicate (2 - (lg_sl ([.ref (ad 0)] : List Value)).length) Slot.unset).toArray) [] from by rw [hargs]; exact lg_entry_eq m _ _]
  have hl := lv_entry ([.ref (ad 0)] : List Value) (n := 2) (by exact Nat.le_of_ble_eq_true rfl)
  generalize (lg_sl ([.ref (ad 0)] : List Value) ++ List.replicate (2 - (lg_sl ([.ref (ad 0)] : List Value)).length) Slot.unset).toArray = ls at hl ⊢
  have hl : lv_has ls 2 [(0, .ref (ad 0))] := by exact hl
  have hS : va_S (mm_A TM ad) s.heap s.heap [] := va_S.rf
  clear hargs
  have hc12 : ∀ (n : Nat), ∀ (x1 : Int32) (g : Mm) (H : Heap) (locs : List Loc) (ls : Array Slot), va_P D vwCl (mm_L TM ad cy g) H → va_S (mm_A TM ad) s.heap H locs → lv_has ls 2 [(0, .ref (ad 0)), (1, .int x1)] → f_X12_restore_c12 n x1 g = some (r0, g') → W p l e (headSpec wsX12_restore (rm_X12_restore)).room s m args below meth c H locs 0 0 (MQ below (mm_Qi D TM ad cy r0 g') args s 0 0 (mm_A TM ad)) (F0 m 12 ls []) := by
    intro n
    induction n with
    | zero =>
      intro x1 g H locs ls hP hS hl hf
      rw [f_X12_restore_c12] at hf
      cases hf
    | succ n ih =>
      intro x1 g H locs ls hP hS hl hf
      rw [f_X12_restore_c12] at hf
      refine lv_iload_n hx hb dX12_restore_12 rfl (lv_at hl 1 rfl) ?_
      refine lv_sipush (v := 193) hx hb dX12_restore_13 (by decide) ?_
      refine lv_icmp_ge (tgt := 37) hx hb dX12_restore_16 (by decide) (fun c_2 => ?_) (fun c_2 => ?_)
      · replace hf := ite_t c_2 hf
        refine lv_iconst (v := 1) hx hb dX12_restore_37 (by decide) ?_
        exact mq_iret hx hb hr rfl hlocks hP hS (pr_1 hf) (pr_2 hf) dX12_restore_38
      · replace hf := ite_f c_2 hf
        refine lv_aload_n hx hb dX12_restore_19 rfl (lv_at hl 0 rfl) ?_
        refine mq_getr (Tt := TX12) (N := 26) (C := RX12) hx hb hts hiX12 hown hK hP hp rfl 0 1 (by decide) rfl hw2 (fun _ h9 => h9) dX12_restore_20 ?_
        refine lv_iload_n hx hb dX12_restore_23 rfl (lv_at hl 1 rfl) ?_
        refine lv_aload_n hx hb dX12_restore_24 rfl (lv_at hl 0 rfl) ?_
        refine mq_getr (Tt := TX12) (N := 26) (C := RX12) hx hb hts hiX12 hown hK hP hp rfl 1 2 (by decide) rfl hw3 (fun _ h9 => h9) dX12_restore_25 ?_
        refine lv_iload_n hx hb dX12_restore_28 rfl (lv_at hl 1 rfl) ?_
        obtain ⟨h_3, hf⟩ := og_some hf
        refine mq_iald hx hb hK hP (N := 193) (shTM_X12_2 hp) h_3 dX12_restore_29 ?_
        obtain ⟨h_4, hf⟩ := og_some hf
        obtain ⟨g_5, eg_5, hf⟩ := mw_some hf
        refine mq_iast hx hb hK hI hP hS (N := 193) (shTM_X12_1 hp) h_4 dX12_restore_30 eg_5 (fun H locs hP hS => ?_)
        obtain ⟨x1_6, ex1_6, hf⟩ := mv_some hf
        refine lv_iinc (v := x1_6) (lv' := [(1, .int x1_6), (0, .ref (ad 0))]) hx hb dX12_restore_31 hl (k := 1) rfl (by rw [ex1_6]; rfl) (by decide) rfl (fun ls hl => ?_)
        refine lv_goto (tgt := 12) hx hb dX12_restore_34 (by decide) ?_
        exact ih x1_6 g_5 H locs ls hP hS (lv_sub hl [1, 0] rfl) hf
  unfold f_X12_restore at hf
  have hH9 : ∀ (H : Heap) (locs : List Loc), H = s.heap → locs = [] → va_P D vwCl (mm_L TM ad cy g) H → va_S (mm_A TM ad) s.heap H locs → W p l e (headSpec wsX12_restore (rm_X12_restore)).room s m args below meth c H locs 0 0 (MQ below (mm_Qi D TM ad cy r0 g') args s 0 0 (mm_A TM ad)) (F0 m 0 ls []) := by
    intro H locs hH9 hL9 hP hS
    clear hH9 hL9
    refine lv_aload_n hx hb dX12_restore_0 rfl (lv_at hl 0 rfl) ?_
    refine mq_geti (Tt := TX12) (N := 26) (C := RX12) hx hb hts hiX12 hown hK hP hp rfl 2 (by decide) rfl hw0 (fun _ h9 => h9) dX12_restore_1 ?_
    refine lv_if_ne (tgt := 10) hx hb dX12_restore_4 (by decide) (fun c_1 => ?_) (fun c_1 => ?_)
    · replace hf := ite_f c_1 hf
      refine lv_iconst (v := 0) hx hb dX12_restore_10 (by decide) ?_
      refine lv_istore_n (lv' := [(1, .int 0), (0, .ref (ad 0))]) hx hb dX12_restore_11 rfl hl (by decide) rfl (fun ls hl => ?_)
      exact hc12 FU 0 g H locs ls hP hS (lv_sub hl [1, 0] rfl) hf
    · replace hf := ite_t c_1 hf
      refine lv_bipush (v := (-4)) hx hb dX12_restore_7 (by decide) ?_
      exact mq_iret hx hb hr rfl hlocks hP hS (pr_1 hf) (pr_2 hf) dX12_restore_9
  exact hH9 s.heap [] rfl rfl hP hS
abbrev rm_X12_isSheet : Room := ({ frames := 1, cells := 0, slots := 0, locals := 25 } : Room)
set_option maxHeartbeats 4000000 in
set_option maxRecDepth 100000 in
theorem c_X12_isSheet (l : Launch) (D : va_G) (ad : Nat → Nat) (cy : Nat → ClassId) (x0 : Int32) (x1 : Int32) (g : Mm)  (r0 : Int32) (hf : f_X12_isSheet x0 x1 = some r0) : Met l yX12_isSheet wsX12_isSheet rm_X12_isSheet (va_Pc [.int x0, .int x1] (mm_pre mm_Z0 D TM ad cy g)) (mm_Qi D TM ad cy r0 g) 0 0 (mm_A TM ad) := by
  refine Met.ofW (cc := cX12_isSheet) (maxL := 2) (ret := (some .boolean)) (by decide) rfl ?_
  intro p e s m args below meth c s₁ B hml hv
  obtain ⟨hargs, hP, hK, hI, hZ⟩ := hv
  have hx := B.exec
  have hb := B.bytes
  have hr := B.returns
  have hts := atoms_spec (ws := wsX12_isSheet) B.pre
  have hown : s.vm.findClass RX12 = some m.cls := findClass_of_methodNamed B.named
  have hlocks := B.notSynchronized
  have hw0 := hts (.constantLong RX12 79 (3)) (by decide +kernel)
  have hw1 := hts (.constantLong RX12 73 (2)) (by decide +kernel)
  rw [show entryFrame m args 2 = F0 m 0 ((lg_sl ([.int x0, .int x1] : List Value) ++ List.replicate (2 - (lg_sl ([.int x0, .int x1] : List Value)).length) Slot.unset).toArray) [] from by rw [hargs]; exact lg_entry_eq m _ _]
  have hl := lv_entry ([.int x0, .int x1] : List Value) (n := 2) (by exact Nat.le_of_ble_eq_true rfl)
  generalize (lg_sl ([.int x0, .int x1] : List Value) ++ List.replicate (2 - (lg_sl ([.int x0, .int x1] : List Value)).length) Slot.unset).toArray = ls at hl ⊢
  have hl : lv_has ls 2 [(0, .int x0), (1, .int x1)] := by exact hl
  have hS : va_S (mm_A TM ad) s.heap s.heap [] := va_S.rf
  clear hargs
  unfold f_X12_isSheet at hf
  have hH9 : ∀ (H : Heap) (locs : List Loc), H = s.heap → locs = [] → va_P D vwCl (mm_L TM ad cy g) H → va_S (mm_A TM ad) s.heap H locs → W p l e (headSpec wsX12_isSheet (rm_X12_isSheet)).room s m args below meth c H locs 0 0 (MQ below (mm_Qi D TM ad cy r0 g) args s 0 0 (mm_A TM ad)) (F0 m 0 ls []) := by
    intro H locs hH9 hL9 hP hS
    clear hH9 hL9
    refine lv_iload_n hx hb dX12_isSheet_0 rfl (lv_at hl 0 rfl) ?_
    refine lv_i2l hx hb dX12_isSheet_1 rfl ?_
    refine lv_lconst (v := 0) hx hb dX12_isSheet_2 (by decide) ?_
    refine lv_ldc2 (v := 3) hx hb hown hw0 dX12_isSheet_3 ?_
    obtain ⟨r_1, hr_2, hf⟩ := op_some hf
    refine mq_calli (va_runS (As := [.long (x0.toInt64), .long 0, .long 3]) (rest := []) ⟨hx, hb, hml, hown, hts⟩ (c_X12_in l D ad cy (x0.toInt64) 0 3 g r_1 hr_2) (va_cwS 3 hts gX12_isSheet_X12_in rfl rfl rfl (by decide +kernel) ⟨Nat.le_of_ble_eq_true rfl, Nat.le_of_ble_eq_true rfl⟩) (mq_preS mm_zOk0 hK hP hI hZ hS) rfl rfl hl.1 rfl (lv_room (Nat.le_of_ble_eq_true rfl)) dX12_isSheet_6 ⟨Nat.le_refl _, Nat.le_refl _⟩) hS (fun H locs hP hS => ?_)
    refine lv_if_eq (tgt := 28) hx hb dX12_isSheet_9 (by decide) (fun c_3 => ?_) (fun c_3 => ?_)
    · replace hf := ite_t c_3 hf
      refine lv_iconst (v := 0) hx hb dX12_isSheet_28 (by decide) ?_
      exact mq_iret hx hb hr (by decide +kernel) hlocks hP hS (Option.some.inj hf) rfl dX12_isSheet_29
    · replace hf := ite_f c_3 hf
      refine lv_iload_n hx hb dX12_isSheet_12 rfl (lv_at hl 1 rfl) ?_
      refine lv_i2l hx hb dX12_isSheet_13 rfl ?_
      refine lv_lconst (v := 0) hx hb dX12_isSheet_14 (by decide) ?_
      refine lv_ldc2 (v := 2) hx hb hown hw1 dX12_isSheet_15 ?_
      obtain ⟨r_4, hr_5, hf⟩ := op_some hf
      refine mq_calli (va_runS (As := [.long (x1.toInt64), .long 0, .long 2]) (rest := []) ⟨hx, hb, hml, hown, hts⟩ (c_X12_in l D ad cy (x1.toInt64) 0 2 g r_4 hr_5) (va_cwS 3 hts gX12_isSheet_X12_in rfl rfl rfl (by decide +kernel) ⟨Nat.le_of_ble_eq_true rfl, Nat.le_of_ble_eq_true rfl⟩) (mq_preS mm_zOk0 hK hP hI hZ hS) rfl rfl hl.1 rfl (lv_room (Nat.le_of_ble_eq_true rfl)) dX12_isSheet_18 ⟨Nat.le_refl _, Nat.le_refl _⟩) hS (fun H locs hP hS => ?_)
      refine lv_if_eq (tgt := 28) hx hb dX12_isSheet_21 (by decide) (fun c_6 => ?_) (fun c_6 => ?_)
      · replace hf := ite_t c_6 hf
        refine lv_iconst (v := 0) hx hb dX12_isSheet_28 (by decide) ?_
        exact mq_iret hx hb hr (by decide +kernel) hlocks hP hS (Option.some.inj hf) rfl dX12_isSheet_29
      · replace hf := ite_f c_6 hf
        refine lv_iconst (v := 1) hx hb dX12_isSheet_24 (by decide) ?_
        refine lv_goto (tgt := 29) hx hb dX12_isSheet_25 (by decide) ?_
        exact mq_iret hx hb hr (by decide +kernel) hlocks hP hS (Option.some.inj hf) rfl dX12_isSheet_29
  exact hH9 s.heap [] rfl rfl hP hS
abbrev rm_X12_found : Room := ({ frames := 0, cells := 0, slots := 0, locals := 0 } : Room)
set_option maxHeartbeats 4000000 in
set_option maxRecDepth 100000 in
theorem c_X12_found (l : Launch) (D : va_G) (ad : Nat → Nat) (cy : Nat → ClassId) (x1 : Int32) (x2 : Int32) (x3 : Int32) (x4 : Int32) (g : Mm) (hp : TM[0]? = some sX12) (r0 : Int32) (hf : f_X12_found x1 x2 x3 x4 g = some r0) : Met l yX12_found wsX12_found rm_X12_found (va_Pc [.ref (ad 0), .int x1, .int x2, .int x3, .int x4] (mm_pre mm_Z0 D TM ad cy g)) (mm_Qi D TM ad cy r0 g) 0 0 (mm_A TM ad) := by
  refine Met.ofW (cc := cX12_found) (maxL := 5) (ret := (some .int)) (by decide) rfl ?_
  intro p e s m args below meth c s₁ B hml hv
  obtain ⟨hargs, hP, hK, hI, hZ⟩ := hv
  have hx := B.exec
  have hb := B.bytes
  have hr := B.returns
  have hts := atoms_spec (ws := wsX12_found) B.pre
  have hown : s.vm.findClass RX12 = some m.cls := findClass_of_methodNamed B.named
  have hlocks := B.notSynchronized
  have hw0 := hts (.fieldLink RX12 19 "LeftShoesModel" "sizes" "[I") (by decide +kernel)
  have hiX12 : ∀ w ∈ wsX120, w ∈ wsX12_found := by decide +kernel
  have hw2 := hts (.fieldLink RX12 22 "LeftShoesModel" "lanes" "[I") (by decide +kernel)
  rw [show entryFrame m args 5 = F0 m 0 ((lg_sl ([.ref (ad 0), .int x1, .int x2, .int x3, .int x4] : List Value) ++ List.replicate (5 - (lg_sl ([.ref (ad 0), .int x1, .int x2, .int x3, .int x4] : List Value)).length) Slot.unset).toArray) [] from by rw [hargs]; exact lg_entry_eq m _ _]
  have hl := lv_entry ([.ref (ad 0), .int x1, .int x2, .int x3, .int x4] : List Value) (n := 5) (by exact Nat.le_of_ble_eq_true rfl)
  generalize (lg_sl ([.ref (ad 0), .int x1, .int x2, .int x3, .int x4] : List Value) ++ List.replicate (5 - (lg_sl ([.ref (ad 0), .int x1, .int x2, .int x3, .int x4] : List Value)).length) Slot.unset).toArray = ls at hl ⊢
  have hl : lv_has ls 5 [(0, .ref (ad 0)), (1, .int x1), (2, .int x2), (3, .int x3), (4, .int x4)] := by exact hl
  have hS : va_S (mm_A TM ad) s.heap s.heap [] := va_S.rf
  clear hargs
  unfold f_X12_found at hf
  have hH9 : ∀ (H : Heap) (locs : List Loc), H = s.heap → locs = [] → va_P D vwCl (mm_L TM ad cy g) H → va_S (mm_A TM ad) s.heap H locs → W p l e (headSpec wsX12_found (rm_X12_found)).room s m args below meth c H locs 0 0 (MQ below (mm_Qi D TM ad cy r0 g) args s 0 0 (mm_A TM ad)) (F0 m 0 ls []) := by
    intro H locs hH9 hL9 hP hS
    clear hH9 hL9
    refine lv_aload_n hx hb dX12_found_0 rfl (lv_at hl 0 rfl) ?_
    refine mq_getr (Tt := TX12) (N := 26) (C := RX12) hx hb hts hiX12 hown hK hP hp rfl 5 4 (by decide) rfl hw0 (fun _ h9 => h9) dX12_found_1 ?_
    refine lv_iload_n hx hb dX12_found_4 rfl (lv_at hl 1 rfl) ?_
    obtain ⟨h_1, hf⟩ := og_some hf
    refine mq_iald hx hb hK hP (N := 4) (shTM_X12_4 hp) h_1 dX12_found_5 ?_
    refine lv_if_ge (tgt := 14) hx hb dX12_found_6 (by decide) (fun c_2 => ?_) (fun c_2 => ?_)
    · replace hf := ite_t c_2 hf
      refine lv_aload_n hx hb dX12_found_14 rfl (lv_at hl 0 rfl) ?_
      refine mq_getr (Tt := TX12) (N := 26) (C := RX12) hx hb hts hiX12 hown hK hP hp rfl 6 5 (by decide) rfl hw2 (fun _ h9 => h9) dX12_found_15 ?_
      refine lv_iload_n hx hb dX12_found_18 rfl (lv_at hl 1 rfl) ?_
      obtain ⟨h_3, hf⟩ := og_some hf
      refine mq_iald hx hb hK hP (N := 4) (shTM_X12_5 hp) h_3 dX12_found_19 ?_
      refine lv_iload_n hx hb dX12_found_20 rfl (lv_at hl 2 rfl) ?_
      refine lv_icmp_eq (tgt := 29) hx hb dX12_found_21 (by decide) (fun c_4 => ?_) (fun c_4 => ?_)
      · replace hf := ite_t c_4 hf
        refine lv_iload_n hx hb dX12_found_29 rfl (lv_at hl 3 rfl) ?_
        refine lv_if_lt (tgt := 50) hx hb dX12_found_30 (by decide) (fun c_5 => ?_) (fun c_5 => ?_)
        · replace hf := ite_t c_5 hf
          refine lv_bipush (v := (-13)) hx hb dX12_found_50 (by decide) ?_
          refine lv_goto (tgt := 56) hx hb dX12_found_52 (by decide) ?_
          exact mq_iret hx hb hr rfl hlocks hP hS (Option.some.inj hf) rfl dX12_found_56
        · replace hf := ite_f c_5 hf
          refine lv_iload_n hx hb dX12_found_33 rfl (lv_at hl 3 rfl) ?_
          refine lv_i2l hx hb dX12_found_34 rfl ?_
          refine lv_iload hx hb dX12_found_35 (lv_at hl 4 rfl) ?_
          refine lv_i2l hx hb dX12_found_37 rfl ?_
          refine lv_ladd hx hb dX12_found_38 ?_
          refine lv_aload_n hx hb dX12_found_39 rfl (lv_at hl 0 rfl) ?_
          refine mq_getr (Tt := TX12) (N := 26) (C := RX12) hx hb hts hiX12 hown hK hP hp rfl 5 4 (by decide) rfl hw0 (fun _ h9 => h9) dX12_found_40 ?_
          refine lv_iload_n hx hb dX12_found_43 rfl (lv_at hl 1 rfl) ?_
          obtain ⟨h_6, hf⟩ := og_some hf
          refine mq_iald hx hb hK hP (N := 4) (shTM_X12_4 hp) h_6 dX12_found_44 ?_
          refine lv_i2l hx hb dX12_found_45 rfl ?_
          refine W.lcmp hx hb dX12_found_46 ?_
          refine lv_if_le (tgt := 55) hx hb dX12_found_47 (by decide) (fun c_7 => ?_) (fun c_7 => ?_)
          · replace hf := ite_t c_7 hf
            refine lv_iconst (v := 0) hx hb dX12_found_55 (by decide) ?_
            exact mq_iret hx hb hr rfl hlocks hP hS (Option.some.inj hf) rfl dX12_found_56
          · replace hf := ite_f c_7 hf
            refine lv_bipush (v := (-13)) hx hb dX12_found_50 (by decide) ?_
            refine lv_goto (tgt := 56) hx hb dX12_found_52 (by decide) ?_
            exact mq_iret hx hb hr rfl hlocks hP hS (Option.some.inj hf) rfl dX12_found_56
      · replace hf := ite_f c_4 hf
        refine lv_bipush (v := (-12)) hx hb dX12_found_24 (by decide) ?_
        refine lv_goto (tgt := 56) hx hb dX12_found_26 (by decide) ?_
        exact mq_iret hx hb hr rfl hlocks hP hS (Option.some.inj hf) rfl dX12_found_56
    · replace hf := ite_f c_2 hf
      refine lv_bipush (v := (-11)) hx hb dX12_found_9 (by decide) ?_
      refine lv_goto (tgt := 56) hx hb dX12_found_11 (by decide) ?_
      exact mq_iret hx hb hr rfl hlocks hP hS (Option.some.inj hf) rfl dX12_found_56
  exact hH9 s.heap [] rfl rfl hP hS
abbrev rm_X12_turns : Room := ({ frames := 0, cells := 0, slots := 0, locals := 0 } : Room)
set_option maxHeartbeats 4000000 in
set_option maxRecDepth 100000 in
theorem c_X12_turns (l : Launch) (D : va_G) (ad : Nat → Nat) (cy : Nat → ClassId) (x1 : Int32) (x2 : Int32) (x3 : Int32) (x4 : Int32) (g : Mm) (hp : TM[0]? = some sX12) (r0 : Int32) (hf : f_X12_turns x1 x2 x3 x4 g = some r0) : Met l yX12_turns wsX12_turns rm_X12_turns (va_Pc [.ref (ad 0), .int x1, .int x2, .int x3, .int x4] (mm_pre mm_Z0 D TM ad cy g)) (mm_Qi D TM ad cy r0 g) 0 0 (mm_A TM ad) := by
  refine Met.ofW (cc := cX12_turns) (maxL := 7) (ret := (some .boolean)) (by decide) rfl ?_
  intro p e s m args below meth c s₁ B hml hv
  obtain ⟨hargs, hP, hK, hI, hZ⟩ := hv
  have hx := B.exec
  have hb := B.bytes
  have hr := B.returns
  have hts := atoms_spec (ws := wsX12_turns) B.pre
  have hown : s.vm.findClass RX12 = some m.cls := findClass_of_methodNamed B.named
  have hlocks := B.notSynchronized
  have hw0 := hts (.fieldLink RX12 25 "LeftShoesModel" "items" "[I") (by decide +kernel)
  have hiX12 : ∀ w ∈ wsX120, w ∈ wsX12_turns := by decide +kernel
  rw [show entryFrame m args 7 = F0 m 0 ((lg_sl ([.ref (ad 0), .int x1, .int x2, .int x3, .int x4] : List Value) ++ List.replicate (7 - (lg_sl ([.ref (ad 0), .int x1, .int x2, .int x3, .int x4] : List Value)).length) Slot.unset).toArray) [] from by rw [hargs]; exact lg_entry_eq m _ _]
  have hl := lv_entry ([.ref (ad 0), .int x1, .int x2, .int x3, .int x4] : List Value) (n := 7) (by exact Nat.le_of_ble_eq_true rfl)
  generalize (lg_sl ([.ref (ad 0), .int x1, .int x2, .int x3, .int x4] : List Value) ++ List.replicate (7 - (lg_sl ([.ref (ad 0), .int x1, .int x2, .int x3, .int x4] : List Value)).length) Slot.unset).toArray = ls at hl ⊢
  have hl : lv_has ls 7 [(0, .ref (ad 0)), (1, .int x1), (2, .int x2), (3, .int x3), (4, .int x4)] := by exact hl
  have hS : va_S (mm_A TM ad) s.heap s.heap [] := va_S.rf
  clear hargs
  have hc39 : ∀ (K_6 : Int32 → Int32 → Mm → Option (Int32)), (∀ (x5 : Int32) (x6 : Int32) (H : Heap) (locs : List Loc) (ls : Array Slot), va_P D vwCl (mm_L TM ad cy g) H → va_S (mm_A TM ad) s.heap H locs → lv_has ls 7 [(0, .ref (ad 0)), (1, .int x1), (2, .int x2), (3, .int x3), (4, .int x4), (5, .int x5), (6, .int x6)] → K_6 x5 x6 g = some r0 → W p l e (headSpec wsX12_turns (rm_X12_turns)).room s m args below meth c H locs 0 0 (MQ below (mm_Qi D TM ad cy r0 g) args s 0 0 (mm_A TM ad)) (F0 m 6 ls [])) → ∀ (x6 : Int32) (sx0 : Int32) (sx1 : Int32) (H : Heap) (locs : List Loc) (ls : Array Slot), va_P D vwCl (mm_L TM ad cy g) H → va_S (mm_A TM ad) s.heap H locs → lv_has ls 7 [(0, .ref (ad 0)), (1, .int x1), (2, .int x2), (3, .int x3), (4, .int x4), (6, .int x6)] → f_X12_turns_c39 K_6 x1 x2 x3 x4 x6 sx0 sx1 g = some r0 → W p l e (headSpec wsX12_turns (rm_X12_turns)).room s m args below meth c H locs 0 0 (MQ below (mm_Qi D TM ad cy r0 g) args s 0 0 (mm_A TM ad)) (F0 m 39 ls [.int sx1, .int sx0]) := by
    intro K_6 hK_6 x6 sx0 sx1 H locs ls hP hS hl hf
    unfold f_X12_turns_c39 at hf
    refine lv_icmp_ne (tgt := 46) hx hb dX12_turns_39 (by decide) (fun c_7 => ?_) (fun c_7 => ?_)
    · replace hf := ite_f c_7 hf
      refine lv_iconst (v := 0) hx hb dX12_turns_46 (by decide) ?_
      refine lv_istore (lv' := [(5, .int 0), (0, .ref (ad 0)), (1, .int x1), (2, .int x2), (3, .int x3), (4, .int x4), (6, .int x6)]) hx hb dX12_turns_47 hl (by decide) rfl (fun ls hl => ?_)
      obtain ⟨x6_8, ex6_8, hf⟩ := mv_some hf
      refine lv_iinc (v := x6_8) (lv' := [(6, .int x6_8), (5, .int 0), (0, .ref (ad 0)), (1, .int x1), (2, .int x2), (3, .int x3), (4, .int x4)]) hx hb dX12_turns_49 hl (k := 6) rfl (by rw [ex6_8]; rfl) (by decide) rfl (fun ls hl => ?_)
      refine lv_goto (tgt := 6) hx hb dX12_turns_52 (by decide) ?_
      exact hK_6 0 x6_8 H locs ls hP hS (lv_sub hl [2, 3, 4, 5, 6, 1, 0] rfl) hf
    · replace hf := ite_t c_7 hf
      refine lv_iconst (v := 1) hx hb dX12_turns_42 (by decide) ?_
      refine lv_goto (tgt := 47) hx hb dX12_turns_43 (by decide) ?_
      refine lv_istore (lv' := [(5, .int 1), (0, .ref (ad 0)), (1, .int x1), (2, .int x2), (3, .int x3), (4, .int x4), (6, .int x6)]) hx hb dX12_turns_47 hl (by decide) rfl (fun ls hl => ?_)
      obtain ⟨x6_9, ex6_9, hf⟩ := mv_some hf
      refine lv_iinc (v := x6_9) (lv' := [(6, .int x6_9), (5, .int 1), (0, .ref (ad 0)), (1, .int x1), (2, .int x2), (3, .int x3), (4, .int x4)]) hx hb dX12_turns_49 hl (k := 6) rfl (by rw [ex6_9]; rfl) (by decide) rfl (fun ls hl => ?_)
      refine lv_goto (tgt := 6) hx hb dX12_turns_52 (by decide) ?_
      exact hK_6 1 x6_9 H locs ls hP hS (lv_sub hl [2, 3, 4, 5, 6, 1, 0] rfl) hf
  have hc6 : ∀ (n : Nat), ∀ (x5 : Int32) (x6 : Int32) (H : Heap) (locs : List Loc) (ls : Array Slot), va_P D vwCl (mm_L TM ad cy g) H → va_S (mm_A TM ad) s.heap H locs → lv_has ls 7 [(0, .ref (ad 0)), (1, .int x1), (2, .int x2), (3, .int x3), (4, .int x4), (5, .int x5), (6, .int x6)] → f_X12_turns_c6 x1 x2 x3 x4 n x5 x6 g = some r0 → W p l e (headSpec wsX12_turns (rm_X12_turns)).room s m args below meth c H locs 0 0 (MQ below (mm_Qi D TM ad cy r0 g) args s 0 0 (mm_A TM ad)) (F0 m 6 ls []) := by
    intro n
    induction n with
    | zero =>
      intro x5 x6 H locs ls hP hS hl hf
      rw [f_X12_turns_c6] at hf
      cases hf
    | succ n ih =>
      intro x5 x6 H locs ls hP hS hl hf
      rw [f_X12_turns_c6] at hf
      refine lv_iload hx hb dX12_turns_6 (lv_at hl 6 rfl) ?_
      refine lv_iload_n hx hb dX12_turns_8 rfl (lv_at hl 2 rfl) ?_
      refine lv_icmp_ge (tgt := 55) hx hb dX12_turns_9 (by decide) (fun c_1 => ?_) (fun c_1 => ?_)
      · replace hf := ite_t c_1 hf
        refine lv_iload hx hb dX12_turns_55 (lv_at hl 5 rfl) ?_
        obtain ⟨h_2, hf⟩ := og_some hf
        exact mq_iret hx hb hr (mm_01_nar h_2) hlocks hP hS (Option.some.inj hf) rfl dX12_turns_57
      · replace hf := ite_f c_1 hf
        refine lv_iload hx hb dX12_turns_12 (lv_at hl 5 rfl) ?_
        refine lv_if_eq (tgt := 46) hx hb dX12_turns_14 (by decide) (fun c_3 => ?_) (fun c_3 => ?_)
        · replace hf := ite_t c_3 hf
          refine lv_iconst (v := 0) hx hb dX12_turns_46 (by decide) ?_
          refine lv_istore (lv' := [(5, .int 0), (0, .ref (ad 0)), (1, .int x1), (2, .int x2), (3, .int x3), (4, .int x4), (6, .int x6)]) hx hb dX12_turns_47 hl (by decide) rfl (fun ls hl => ?_)
          obtain ⟨x6_4, ex6_4, hf⟩ := mv_some hf
          refine lv_iinc (v := x6_4) (lv' := [(6, .int x6_4), (5, .int 0), (0, .ref (ad 0)), (1, .int x1), (2, .int x2), (3, .int x3), (4, .int x4)]) hx hb dX12_turns_49 hl (k := 6) rfl (by rw [ex6_4]; rfl) (by decide) rfl (fun ls hl => ?_)
          refine lv_goto (tgt := 6) hx hb dX12_turns_52 (by decide) ?_
          exact ih 0 x6_4 H locs ls hP hS (lv_sub hl [2, 3, 4, 5, 6, 1, 0] rfl) hf
        · replace hf := ite_f c_3 hf
          refine lv_aload_n hx hb dX12_turns_17 rfl (lv_at hl 0 rfl) ?_
          refine mq_getr (Tt := TX12) (N := 26) (C := RX12) hx hb hts hiX12 hown hK hP hp rfl 7 6 (by decide) rfl hw0 (fun _ h9 => h9) dX12_turns_18 ?_
          refine lv_iload_n hx hb dX12_turns_21 rfl (lv_at hl 1 rfl) ?_
          refine lv_iload hx hb dX12_turns_22 (lv_at hl 6 rfl) ?_
          refine lv_iadd hx hb dX12_turns_24 ?_
          obtain ⟨h_5, hf⟩ := og_some hf
          refine mq_iald hx hb hK hP (N := 96) (shTM_X12_6 hp) h_5 dX12_turns_25 ?_
          refine lv_iload hx hb dX12_turns_26 (lv_at hl 6 rfl) ?_
          refine lv_iconst (v := 2) hx hb dX12_turns_28 (by decide) ?_
          refine lv_irem hx hb dX12_turns_29 (by decide) ?_
          refine lv_if_ne (tgt := 37) hx hb dX12_turns_30 (by decide) (fun c_6 => ?_) (fun c_6 => ?_)
          · replace hf := ite_f c_6 hf
            refine lv_iload hx hb dX12_turns_37 (lv_at hl 4 rfl) ?_
            exact hc39 (f_X12_turns_c6 x1 x2 x3 x4 n) ih x6 (g 6 (x1 + x6).toNatClampNeg) x4 H locs ls hP hS (lv_sub hl [0, 1, 2, 3, 4, 6] rfl) hf
          · replace hf := ite_t c_6 hf
            refine lv_iload_n hx hb dX12_turns_33 rfl (lv_at hl 3 rfl) ?_
            refine lv_goto (tgt := 39) hx hb dX12_turns_34 (by decide) ?_
            exact hc39 (f_X12_turns_c6 x1 x2 x3 x4 n) ih x6 (g 6 (x1 + x6).toNatClampNeg) x3 H locs ls hP hS (lv_sub hl [0, 1, 2, 3, 4, 6] rfl) hf
  unfold f_X12_turns at hf
  have hH9 : ∀ (H : Heap) (locs : List Loc), H = s.heap → locs = [] → va_P D vwCl (mm_L TM ad cy g) H → va_S (mm_A TM ad) s.heap H locs → W p l e (headSpec wsX12_turns (rm_X12_turns)).room s m args below meth c H locs 0 0 (MQ below (mm_Qi D TM ad cy r0 g) args s 0 0 (mm_A TM ad)) (F0 m 0 ls []) := by
    intro H locs hH9 hL9 hP hS
    clear hH9 hL9
    refine lv_iconst (v := 1) hx hb dX12_turns_0 (by decide) ?_
    refine lv_istore (lv' := [(5, .int 1), (0, .ref (ad 0)), (1, .int x1), (2, .int x2), (3, .int x3), (4, .int x4)]) hx hb dX12_turns_1 hl (by decide) rfl (fun ls hl => ?_)
    refine lv_iconst (v := 0) hx hb dX12_turns_3 (by decide) ?_
    refine lv_istore (lv' := [(6, .int 0), (5, .int 1), (0, .ref (ad 0)), (1, .int x1), (2, .int x2), (3, .int x3), (4, .int x4)]) hx hb dX12_turns_4 hl (by decide) rfl (fun ls hl => ?_)
    exact hc6 FU 1 0 H locs ls hP hS (lv_sub hl [2, 3, 4, 5, 6, 1, 0] rfl) hf
  exact hH9 s.heap [] rfl rfl hP hS
abbrev rm_X12_printOf : Room := ({ frames := 0, cells := 0, slots := 0, locals := 0 } : Room)
set_option maxHeartbeats 4000000 in
set_option maxRecDepth 100000 in
theorem c_X12_printOf (l : Launch) (D : va_G) (ad : Nat → Nat) (cy : Nat → ClassId) (x1 : Int32) (g : Mm) (hp : TM[0]? = some sX12) (r0 : Int32) (hf : f_X12_printOf x1 g = some r0) : Met l yX12_printOf wsX12_printOf rm_X12_printOf (va_Pc [.ref (ad 0), .int x1] (mm_pre mm_Z0 D TM ad cy g)) (mm_Qi D TM ad cy r0 g) 0 0 (mm_A TM ad) := by
  refine Met.ofW (cc := cX12_printOf) (maxL := 2) (ret := (some .int)) (by decide) rfl ?_
  intro p e s m args below meth c s₁ B hml hv
  obtain ⟨hargs, hP, hK, hI, hZ⟩ := hv
  have hx := B.exec
  have hb := B.bytes
  have hr := B.returns
  have hts := atoms_spec (ws := wsX12_printOf) B.pre
  have hown : s.vm.findClass RX12 = some m.cls := findClass_of_methodNamed B.named
  have hlocks := B.notSynchronized
  have hw0 := hts (.fieldLink RX12 7 "LeftShoesModel" "now" "[I") (by decide +kernel)
  have hiX12 : ∀ w ∈ wsX120, w ∈ wsX12_printOf := by decide +kernel
  rw [show entryFrame m args 2 = F0 m 0 ((lg_sl ([.ref (ad 0), .int x1] : List Value) ++ List.replicate (2 - (lg_sl ([.ref (ad 0), .int x1] : List Value)).length) Slot.unset).toArray) [] from by rw [hargs]; exact lg_entry_eq m _ _]
  have hl := lv_entry ([.ref (ad 0), .int x1] : List Value) (n := 2) (by exact Nat.le_of_ble_eq_true rfl)
  generalize (lg_sl ([.ref (ad 0), .int x1] : List Value) ++ List.replicate (2 - (lg_sl ([.ref (ad 0), .int x1] : List Value)).length) Slot.unset).toArray = ls at hl ⊢
  have hl : lv_has ls 2 [(0, .ref (ad 0)), (1, .int x1)] := by exact hl
  have hS : va_S (mm_A TM ad) s.heap s.heap [] := va_S.rf
  clear hargs
  unfold f_X12_printOf at hf
  have hH9 : ∀ (H : Heap) (locs : List Loc), H = s.heap → locs = [] → va_P D vwCl (mm_L TM ad cy g) H → va_S (mm_A TM ad) s.heap H locs → W p l e (headSpec wsX12_printOf (rm_X12_printOf)).room s m args below meth c H locs 0 0 (MQ below (mm_Qi D TM ad cy r0 g) args s 0 0 (mm_A TM ad)) (F0 m 0 ls []) := by
    intro H locs hH9 hL9 hP hS
    clear hH9 hL9
    refine lv_iconst (v := 2) hx hb dX12_printOf_0 (by decide) ?_
    refine lv_iconst (v := 1) hx hb dX12_printOf_1 (by decide) ?_
    refine lv_aload_n hx hb dX12_printOf_2 rfl (lv_at hl 0 rfl) ?_
    refine mq_getr (Tt := TX12) (N := 26) (C := RX12) hx hb hts hiX12 hown hK hP hp rfl 0 1 (by decide) rfl hw0 (fun _ h9 => h9) dX12_printOf_3 ?_
    refine lv_bipush (v := 47) hx hb dX12_printOf_6 (by decide) ?_
    refine lv_iload_n hx hb dX12_printOf_8 rfl (lv_at hl 1 rfl) ?_
    refine lv_iadd hx hb dX12_printOf_9 ?_
    obtain ⟨h_1, hf⟩ := og_some hf
    refine mq_iald hx hb hK hP (N := 193) (shTM_X12_1 hp) h_1 dX12_printOf_10 ?_
    refine lv_iadd hx hb dX12_printOf_11 ?_
    refine lv_imul hx hb dX12_printOf_12 ?_
    refine lv_aload_n hx hb dX12_printOf_13 rfl (lv_at hl 0 rfl) ?_
    refine mq_getr (Tt := TX12) (N := 26) (C := RX12) hx hb hts hiX12 hown hK hP hp rfl 0 1 (by decide) rfl hw0 (fun _ h9 => h9) dX12_printOf_14 ?_
    refine lv_bipush (v := 31) hx hb dX12_printOf_17 (by decide) ?_
    refine lv_iload_n hx hb dX12_printOf_19 rfl (lv_at hl 1 rfl) ?_
    refine lv_iadd hx hb dX12_printOf_20 ?_
    obtain ⟨h_2, hf⟩ := og_some hf
    refine mq_iald hx hb hK hP (N := 193) (shTM_X12_1 hp) h_2 dX12_printOf_21 ?_
    refine lv_iadd hx hb dX12_printOf_22 ?_
    exact mq_iret hx hb hr rfl hlocks hP hS (Option.some.inj hf) rfl dX12_printOf_23
  exact hH9 s.heap [] rfl rfl hP hS
abbrev rm_X12_byTwo : Room := ({ frames := 1, cells := 0, slots := 0, locals := 26 } : Room)
set_option maxHeartbeats 4000000 in
set_option maxRecDepth 100000 in
theorem c_X12_byTwo (l : Launch) (D : va_G) (ad : Nat → Nat) (cy : Nat → ClassId) (x1 : Int32) (x2 : Int32) (x3 : Int32) (x4 : Int32) (g : Mm) (hp : TM[0]? = some sX12) (r0 : Int32) (hf : f_X12_byTwo x1 x2 x3 x4 g = some r0) : Met l yX12_byTwo wsX12_byTwo rm_X12_byTwo (va_Pc [.ref (ad 0), .int x1, .int x2, .int x3, .int x4] (mm_pre mm_Z0 D TM ad cy g)) (mm_Qi D TM ad cy r0 g) 0 0 (mm_A TM ad) := by
  refine Met.ofW (cc := cX12_byTwo) (maxL := 7) (ret := (some .int)) (by decide) rfl ?_
  intro p e s m args below meth c s₁ B hml hv
  obtain ⟨hargs, hP, hK, hI, hZ⟩ := hv
  have hx := B.exec
  have hb := B.bytes
  have hr := B.returns
  have hts := atoms_spec (ws := wsX12_byTwo) B.pre
  have hown : s.vm.findClass RX12 = some m.cls := findClass_of_methodNamed B.named
  have hlocks := B.notSynchronized
  rw [show entryFrame m args 7 = F0 m 0 ((lg_sl ([.ref (ad 0), .int x1, .int x2, .int x3, .int x4] : List Value) ++ List.replicate (7 - (lg_sl ([.ref (ad 0), .int x1, .int x2, .int x3, .int x4] : List Value)).length) Slot.unset).toArray) [] from by rw [hargs]; exact lg_entry_eq m _ _]
  have hl := lv_entry ([.ref (ad 0), .int x1, .int x2, .int x3, .int x4] : List Value) (n := 7) (by exact Nat.le_of_ble_eq_true rfl)
  generalize (lg_sl ([.ref (ad 0), .int x1, .int x2, .int x3, .int x4] : List Value) ++ List.replicate (7 - (lg_sl ([.ref (ad 0), .int x1, .int x2, .int x3, .int x4] : List Value)).length) Slot.unset).toArray = ls at hl ⊢
  have hl : lv_has ls 7 [(0, .ref (ad 0)), (1, .int x1), (2, .int x2), (3, .int x3), (4, .int x4)] := by exact hl
  have hS : va_S (mm_A TM ad) s.heap s.heap [] := va_S.rf
  clear hargs
  have hc25 : ∀ (sx0 : Int32) (H : Heap) (locs : List Loc) (ls : Array Slot), va_P D vwCl (mm_L TM ad cy g) H → va_S (mm_A TM ad) s.heap H locs → lv_has ls 7 [(0, .ref (ad 0)), (1, .int x1), (2, .int x2), (3, .int x3), (4, .int x4)] → f_X12_byTwo_c25 x1 x2 x3 x4 sx0 g = some r0 → W p l e (headSpec wsX12_byTwo (rm_X12_byTwo)).room s m args below meth c H locs 0 0 (MQ below (mm_Qi D TM ad cy r0 g) args s 0 0 (mm_A TM ad)) (F0 m 25 ls [.int sx0]) := by
    intro sx0 H locs ls hP hS hl hf
    unfold f_X12_byTwo_c25 at hf
    refine lv_istore (lv' := [(5, .int sx0), (0, .ref (ad 0)), (1, .int x1), (2, .int x2), (3, .int x3), (4, .int x4)]) hx hb dX12_byTwo_25 hl (by decide) rfl (fun ls hl => ?_)
    refine lv_aload_n hx hb dX12_byTwo_27 rfl (lv_at hl 1 rfl) ?_
    refine lv_iload_n hx hb dX12_byTwo_28 rfl (lv_at hl 2 rfl) ?_
    refine lv_iload_n hx hb dX12_byTwo_29 rfl (lv_at hl 3 rfl) ?_
    refine lv_aload_n hx hb dX12_byTwo_30 rfl (lv_at hl 1 rfl) ?_
    refine lv_iload hx hb dX12_byTwo_31 (lv_at hl 5 rfl) ?_
    obtain ⟨r_8, hr_9, hf⟩ := op_some hf
    refine mq_calli (va_runV (As := [.int x4]) (rest := [.int x2, .int x1, .ref (ad 0)]) ⟨hx, hb, hml, hown, hts⟩ (c_X12_printOf l D ad cy x4 g hp r_8 hr_9) (cwV 1 hts gX12_byTwo_X12_printOf rfl rfl rfl (by decide +kernel) ⟨Nat.le_of_ble_eq_true rfl, Nat.le_of_ble_eq_true rfl⟩) (mq_preV (q := (RX12, TX12, 26)) mm_zOk0 hK hP hI hZ hS hp rfl) rfl rfl hl.1 rfl (lv_room (Nat.le_of_ble_eq_true rfl)) dX12_byTwo_33 ⟨Nat.le_refl _, Nat.le_refl _⟩) hS (fun H locs hP hS => ?_)
    refine lv_aload_n hx hb dX12_byTwo_36 rfl (lv_at hl 1 rfl) ?_
    refine lv_iload_n hx hb dX12_byTwo_37 rfl (lv_at hl 4 rfl) ?_
    obtain ⟨r_10, hr_11, hf⟩ := op_some hf
    refine mq_calli (va_runV (As := [.int x3]) (rest := [.int r_8, .int x2, .int x1, .ref (ad 0)]) ⟨hx, hb, hml, hown, hts⟩ (c_X12_printOf l D ad cy x3 g hp r_10 hr_11) (cwV 1 hts gX12_byTwo_X12_printOf rfl rfl rfl (by decide +kernel) ⟨Nat.le_of_ble_eq_true rfl, Nat.le_of_ble_eq_true rfl⟩) (mq_preV (q := (RX12, TX12, 26)) mm_zOk0 hK hP hI hZ hS hp rfl) rfl rfl hl.1 rfl (lv_room (Nat.le_of_ble_eq_true rfl)) dX12_byTwo_38 ⟨Nat.le_refl _, Nat.le_refl _⟩) hS (fun H locs hP hS => ?_)
    obtain ⟨r_12, hr_13, hf⟩ := op_some hf
    refine mq_calli (va_runV (As := [.int x1, .int x2, .int r_8, .int r_10]) (rest := []) ⟨hx, hb, hml, hown, hts⟩ (c_X12_turns l D ad cy x1 x2 r_8 r_10 g hp r_12 hr_13) (cwV 4 hts gX12_byTwo_X12_turns rfl rfl rfl (by decide +kernel) ⟨Nat.le_of_ble_eq_true rfl, Nat.le_of_ble_eq_true rfl⟩) (mq_preV (q := (RX12, TX12, 26)) mm_zOk0 hK hP hI hZ hS hp rfl) rfl rfl hl.1 rfl (lv_room (Nat.le_of_ble_eq_true rfl)) dX12_byTwo_41 ⟨Nat.le_refl _, Nat.le_refl _⟩) hS (fun H locs hP hS => ?_)
    refine lv_if_eq (tgt := 51) hx hb dX12_byTwo_44 (by decide) (fun c_14 => ?_) (fun c_14 => ?_)
    · replace hf := ite_t c_14 hf
      refine lv_iconst (v := 0) hx hb dX12_byTwo_51 (by decide) ?_
      refine lv_istore (lv' := [(6, .int 0), (5, .int sx0), (0, .ref (ad 0)), (1, .int x1), (2, .int x2), (3, .int x3), (4, .int x4)]) hx hb dX12_byTwo_52 hl (by decide) rfl (fun ls hl => ?_)
      refine lv_iload hx hb dX12_byTwo_54 (lv_at hl 1 rfl) ?_
      refine lv_iload hx hb dX12_byTwo_56 (lv_at hl 0 rfl) ?_
      refine lv_iadd hx hb dX12_byTwo_58 ?_
      exact mq_iret hx hb hr rfl hlocks hP hS (Option.some.inj hf) rfl dX12_byTwo_59
    · replace hf := ite_f c_14 hf
      refine lv_iconst (v := 1) hx hb dX12_byTwo_47 (by decide) ?_
      refine lv_goto (tgt := 52) hx hb dX12_byTwo_48 (by decide) ?_
      refine lv_istore (lv' := [(6, .int 1), (5, .int sx0), (0, .ref (ad 0)), (1, .int x1), (2, .int x2), (3, .int x3), (4, .int x4)]) hx hb dX12_byTwo_52 hl (by decide) rfl (fun ls hl => ?_)
      refine lv_iload hx hb dX12_byTwo_54 (lv_at hl 1 rfl) ?_
      refine lv_iload hx hb dX12_byTwo_56 (lv_at hl 0 rfl) ?_
      refine lv_iadd hx hb dX12_byTwo_58 ?_
      exact mq_iret hx hb hr rfl hlocks hP hS (Option.some.inj hf) rfl dX12_byTwo_59
  unfold f_X12_byTwo at hf
  have hH9 : ∀ (H : Heap) (locs : List Loc), H = s.heap → locs = [] → va_P D vwCl (mm_L TM ad cy g) H → va_S (mm_A TM ad) s.heap H locs → W p l e (headSpec wsX12_byTwo (rm_X12_byTwo)).room s m args below meth c H locs 0 0 (MQ below (mm_Qi D TM ad cy r0 g) args s 0 0 (mm_A TM ad)) (F0 m 0 ls []) := by
    intro H locs hH9 hL9 hP hS
    clear hH9 hL9
    refine lv_aload_n hx hb dX12_byTwo_0 rfl (lv_at hl 0 rfl) ?_
    refine lv_iload_n hx hb dX12_byTwo_1 rfl (lv_at hl 1 rfl) ?_
    refine lv_iload_n hx hb dX12_byTwo_2 rfl (lv_at hl 2 rfl) ?_
    refine lv_aload_n hx hb dX12_byTwo_3 rfl (lv_at hl 0 rfl) ?_
    refine lv_iload_n hx hb dX12_byTwo_4 rfl (lv_at hl 3 rfl) ?_
    obtain ⟨r_1, hr_2, hf⟩ := op_some hf
    refine mq_calli (va_runV (As := [.int x3]) (rest := [.int x2, .int x1, .ref (ad 0)]) ⟨hx, hb, hml, hown, hts⟩ (c_X12_printOf l D ad cy x3 g hp r_1 hr_2) (cwV 1 hts gX12_byTwo_X12_printOf rfl rfl rfl (by decide +kernel) ⟨Nat.le_of_ble_eq_true rfl, Nat.le_of_ble_eq_true rfl⟩) (mq_preV (q := (RX12, TX12, 26)) mm_zOk0 hK hP hI hZ hS hp rfl) rfl rfl hl.1 rfl (lv_room (Nat.le_of_ble_eq_true rfl)) dX12_byTwo_5 ⟨Nat.le_refl _, Nat.le_refl _⟩) hS (fun H locs hP hS => ?_)
    refine lv_aload_n hx hb dX12_byTwo_8 rfl (lv_at hl 0 rfl) ?_
    refine lv_iload hx hb dX12_byTwo_9 (lv_at hl 4 rfl) ?_
    obtain ⟨r_3, hr_4, hf⟩ := op_some hf
    refine mq_calli (va_runV (As := [.int x4]) (rest := [.int r_1, .int x2, .int x1, .ref (ad 0)]) ⟨hx, hb, hml, hown, hts⟩ (c_X12_printOf l D ad cy x4 g hp r_3 hr_4) (cwV 1 hts gX12_byTwo_X12_printOf rfl rfl rfl (by decide +kernel) ⟨Nat.le_of_ble_eq_true rfl, Nat.le_of_ble_eq_true rfl⟩) (mq_preV (q := (RX12, TX12, 26)) mm_zOk0 hK hP hI hZ hS hp rfl) rfl rfl hl.1 rfl (lv_room (Nat.le_of_ble_eq_true rfl)) dX12_byTwo_11 ⟨Nat.le_refl _, Nat.le_refl _⟩) hS (fun H locs hP hS => ?_)
    obtain ⟨r_5, hr_6, hf⟩ := op_some hf
    refine mq_calli (va_runV (As := [.int x1, .int x2, .int r_1, .int r_3]) (rest := []) ⟨hx, hb, hml, hown, hts⟩ (c_X12_turns l D ad cy x1 x2 r_1 r_3 g hp r_5 hr_6) (cwV 4 hts gX12_byTwo_X12_turns rfl rfl rfl (by decide +kernel) ⟨Nat.le_of_ble_eq_true rfl, Nat.le_of_ble_eq_true rfl⟩) (mq_preV (q := (RX12, TX12, 26)) mm_zOk0 hK hP hI hZ hS hp rfl) rfl rfl hl.1 rfl (lv_room (Nat.le_of_ble_eq_true rfl)) dX12_byTwo_14 ⟨Nat.le_refl _, Nat.le_refl _⟩) hS (fun H locs hP hS => ?_)
    refine lv_if_eq (tgt := 24) hx hb dX12_byTwo_17 (by decide) (fun c_7 => ?_) (fun c_7 => ?_)
    · replace hf := ite_t c_7 hf
      refine lv_iconst (v := 0) hx hb dX12_byTwo_24 (by decide) ?_
      exact hc25 0 H locs ls hP hS (lv_sub hl [0, 1, 2, 3, 4] rfl) hf
    · replace hf := ite_f c_7 hf
      refine lv_iconst (v := 1) hx hb dX12_byTwo_20 (by decide) ?_
      refine lv_goto (tgt := 25) hx hb dX12_byTwo_21 (by decide) ?_
      exact hc25 1 H locs ls hP hS (lv_sub hl [0, 1, 2, 3, 4] rfl) hf
  exact hH9 s.heap [] rfl rfl hP hS
abbrev rm_X12_waysOf : Room := ({ frames := 2, cells := 0, slots := 0, locals := 52 } : Room)
set_option maxHeartbeats 4000000 in
set_option maxRecDepth 100000 in
theorem c_X12_waysOf (l : Launch) (D : va_G) (ad : Nat → Nat) (cy : Nat → ClassId) (x1 : Int32) (x2 : Int32) (x3 : Int32) (g : Mm) (hp : TM[0]? = some sX12) (r0 : Int32) (hf : f_X12_waysOf x1 x2 x3 g = some r0) : Met l yX12_waysOf wsX12_waysOf rm_X12_waysOf (va_Pc [.ref (ad 0), .int x1, .int x2, .int x3] (mm_pre mm_Z0 D TM ad cy g)) (mm_Qi D TM ad cy r0 g) 0 0 (mm_A TM ad) := by
  refine Met.ofW (cc := cX12_waysOf) (maxL := 8) (ret := (some .int)) (by decide) rfl ?_
  intro p e s m args below meth c s₁ B hml hv
  obtain ⟨hargs, hP, hK, hI, hZ⟩ := hv
  have hx := B.exec
  have hb := B.bytes
  have hr := B.returns
  have hts := atoms_spec (ws := wsX12_waysOf) B.pre
  have hown : s.vm.findClass RX12 = some m.cls := findClass_of_methodNamed B.named
  have hlocks := B.notSynchronized
  have hw0 := hts (.fieldLink RX12 7 "LeftShoesModel" "now" "[I") (by decide +kernel)
  have hiX12 : ∀ w ∈ wsX120, w ∈ wsX12_waysOf := by decide +kernel
  rw [show entryFrame m args 8 = F0 m 0 ((lg_sl ([.ref (ad 0), .int x1, .int x2, .int x3] : List Value) ++ List.replicate (8 - (lg_sl ([.ref (ad 0), .int x1, .int x2, .int x3] : List Value)).length) Slot.unset).toArray) [] from by rw [hargs]; exact lg_entry_eq m _ _]
  have hl := lv_entry ([.ref (ad 0), .int x1, .int x2, .int x3] : List Value) (n := 8) (by exact Nat.le_of_ble_eq_true rfl)
  generalize (lg_sl ([.ref (ad 0), .int x1, .int x2, .int x3] : List Value) ++ List.replicate (8 - (lg_sl ([.ref (ad 0), .int x1, .int x2, .int x3] : List Value)).length) Slot.unset).toArray = ls at hl ⊢
  have hl : lv_has ls 8 [(0, .ref (ad 0)), (1, .int x1), (2, .int x2), (3, .int x3)] := by exact hl
  have hS : va_S (mm_A TM ad) s.heap s.heap [] := va_S.rf
  clear hargs
  have hc101 : ∀ (K_17 : Int32 → Int32 → Int32 → Mm → Option (Int32)), (∀ (x4 : Int32) (x5 : Int32) (x6 : Int32) (H : Heap) (locs : List Loc) (ls : Array Slot), va_P D vwCl (mm_L TM ad cy g) H → va_S (mm_A TM ad) s.heap H locs → lv_has ls 8 [(0, .ref (ad 0)), (1, .int x1), (2, .int x2), (3, .int x3), (4, .int x4), (5, .int x5), (6, .int x6)] → K_17 x4 x5 x6 g = some r0 → W p l e (headSpec wsX12_waysOf (rm_X12_waysOf)).room s m args below meth c H locs 0 0 (MQ below (mm_Qi D TM ad cy r0 g) args s 0 0 (mm_A TM ad)) (F0 m 17 ls [])) → ∀ (n : Nat), ∀ (x4 : Int32) (x5 : Int32) (x6 : Int32) (x7 : Int32) (H : Heap) (locs : List Loc) (ls : Array Slot), va_P D vwCl (mm_L TM ad cy g) H → va_S (mm_A TM ad) s.heap H locs → lv_has ls 8 [(0, .ref (ad 0)), (1, .int x1), (2, .int x2), (3, .int x3), (4, .int x4), (5, .int x5), (6, .int x6), (7, .int x7)] → f_X12_waysOf_c101 K_17 x1 x2 x3 n x4 x5 x6 x7 g = some r0 → W p l e (headSpec wsX12_waysOf (rm_X12_waysOf)).room s m args below meth c H locs 0 0 (MQ below (mm_Qi D TM ad cy r0 g) args s 0 0 (mm_A TM ad)) (F0 m 101 ls []) := by
    intro K_17 hK_17 n
    induction n with
    | zero =>
      intro x4 x5 x6 x7 H locs ls hP hS hl hf
      rw [f_X12_waysOf_c101] at hf
      cases hf
    | succ n ih =>
      intro x4 x5 x6 x7 H locs ls hP hS hl hf
      rw [f_X12_waysOf_c101] at hf
      refine lv_iload hx hb dX12_waysOf_101 (lv_at hl 7 rfl) ?_
      refine lv_iload hx hb dX12_waysOf_103 (lv_at hl 6 rfl) ?_
      refine lv_icmp_ge (tgt := 152) hx hb dX12_waysOf_105 (by decide) (fun c_26 => ?_) (fun c_26 => ?_)
      · replace hf := ite_t c_26 hf
        obtain ⟨x6_27, ex6_27, hf⟩ := mv_some hf
        refine lv_iinc (v := x6_27) (lv' := [(6, .int x6_27), (0, .ref (ad 0)), (1, .int x1), (2, .int x2), (3, .int x3), (4, .int x4), (5, .int x5), (7, .int x7)]) hx hb dX12_waysOf_152 hl (k := 6) rfl (by rw [ex6_27]; rfl) (by decide) rfl (fun ls hl => ?_)
        refine lv_goto (tgt := 17) hx hb dX12_waysOf_155 (by decide) ?_
        exact hK_17 x4 x5 x6_27 H locs ls hP hS (lv_sub hl [1, 2, 3, 4, 5, 6, 0] rfl) hf
      · replace hf := ite_f c_26 hf
        refine lv_iload hx hb dX12_waysOf_108 (lv_at hl 4 rfl) ?_
        refine lv_if_ne (tgt := 152) hx hb dX12_waysOf_110 (by decide) (fun c_28 => ?_) (fun c_28 => ?_)
        · replace hf := ite_f c_28 hf
          obtain ⟨x6_29, ex6_29, hf⟩ := mv_some hf
          refine lv_iinc (v := x6_29) (lv' := [(6, .int x6_29), (0, .ref (ad 0)), (1, .int x1), (2, .int x2), (3, .int x3), (4, .int x4), (5, .int x5), (7, .int x7)]) hx hb dX12_waysOf_152 hl (k := 6) rfl (by rw [ex6_29]; rfl) (by decide) rfl (fun ls hl => ?_)
          refine lv_goto (tgt := 17) hx hb dX12_waysOf_155 (by decide) ?_
          exact hK_17 x4 x5 x6_29 H locs ls hP hS (lv_sub hl [1, 2, 3, 4, 5, 6, 0] rfl) hf
        · replace hf := ite_t c_28 hf
          refine lv_iload hx hb dX12_waysOf_113 (lv_at hl 5 rfl) ?_
          refine lv_aload_n hx hb dX12_waysOf_115 rfl (lv_at hl 0 rfl) ?_
          refine mq_getr (Tt := TX12) (N := 26) (C := RX12) hx hb hts hiX12 hown hK hP hp rfl 0 1 (by decide) rfl hw0 (fun _ h9 => h9) dX12_waysOf_116 ?_
          refine lv_bipush (v := 15) hx hb dX12_waysOf_119 (by decide) ?_
          refine lv_iload hx hb dX12_waysOf_121 (lv_at hl 7 rfl) ?_
          refine lv_iadd hx hb dX12_waysOf_123 ?_
          obtain ⟨h_30, hf⟩ := og_some hf
          refine mq_iald hx hb hK hP (N := 193) (shTM_X12_1 hp) h_30 dX12_waysOf_124 ?_
          refine lv_iload_n hx hb dX12_waysOf_125 rfl (lv_at hl 1 rfl) ?_
          refine lv_icmp_ne (tgt := 142) hx hb dX12_waysOf_126 (by decide) (fun c_31 => ?_) (fun c_31 => ?_)
          · replace hf := ite_f c_31 hf
            refine lv_iconst (v := 0) hx hb dX12_waysOf_142 (by decide) ?_
            refine lv_iadd hx hb dX12_waysOf_143 ?_
            obtain ⟨x5_32, ex5_32, hf⟩ := mv_some hf
            refine mq_nm ex5_32 ?_
            refine lv_istore (lv' := [(5, .int x5_32), (0, .ref (ad 0)), (1, .int x1), (2, .int x2), (3, .int x3), (4, .int x4), (6, .int x6), (7, .int x7)]) hx hb dX12_waysOf_144 hl (by decide) rfl (fun ls hl => ?_)
            obtain ⟨x7_33, ex7_33, hf⟩ := mv_some hf
            refine lv_iinc (v := x7_33) (lv' := [(7, .int x7_33), (5, .int x5_32), (0, .ref (ad 0)), (1, .int x1), (2, .int x2), (3, .int x3), (4, .int x4), (6, .int x6)]) hx hb dX12_waysOf_146 hl (k := 7) rfl (by rw [ex7_33]; rfl) (by decide) rfl (fun ls hl => ?_)
            refine lv_goto (tgt := 101) hx hb dX12_waysOf_149 (by decide) ?_
            exact ih x4 x5_32 x6 x7_33 H locs ls hP hS (lv_sub hl [2, 3, 4, 5, 6, 1, 7, 0] rfl) hf
          · replace hf := ite_t c_31 hf
            refine lv_aload_n hx hb dX12_waysOf_129 rfl (lv_at hl 0 rfl) ?_
            refine lv_iload_n hx hb dX12_waysOf_130 rfl (lv_at hl 2 rfl) ?_
            refine lv_iload_n hx hb dX12_waysOf_131 rfl (lv_at hl 3 rfl) ?_
            refine lv_iload hx hb dX12_waysOf_132 (lv_at hl 6 rfl) ?_
            refine lv_iload hx hb dX12_waysOf_134 (lv_at hl 7 rfl) ?_
            obtain ⟨r_34, hr_35, hf⟩ := op_some hf
            refine mq_calli (va_runV (As := [.int x2, .int x3, .int x6, .int x7]) (rest := [.int x5]) ⟨hx, hb, hml, hown, hts⟩ (c_X12_byTwo l D ad cy x2 x3 x6 x7 g hp r_34 hr_35) (cwV 4 hts gX12_waysOf_X12_byTwo rfl rfl rfl (by decide +kernel) ⟨Nat.le_of_ble_eq_true rfl, Nat.le_of_ble_eq_true rfl⟩) (mq_preV (q := (RX12, TX12, 26)) mm_zOk0 hK hP hI hZ hS hp rfl) rfl rfl hl.1 rfl (lv_room (Nat.le_of_ble_eq_true rfl)) dX12_waysOf_136 ⟨Nat.le_refl _, Nat.le_refl _⟩) hS (fun H locs hP hS => ?_)
            refine lv_goto (tgt := 143) hx hb dX12_waysOf_139 (by decide) ?_
            refine lv_iadd hx hb dX12_waysOf_143 ?_
            obtain ⟨x5_36, ex5_36, hf⟩ := mv_some hf
            refine mq_nm ex5_36 ?_
            refine lv_istore (lv' := [(5, .int x5_36), (0, .ref (ad 0)), (1, .int x1), (2, .int x2), (3, .int x3), (4, .int x4), (6, .int x6), (7, .int x7)]) hx hb dX12_waysOf_144 hl (by decide) rfl (fun ls hl => ?_)
            obtain ⟨x7_37, ex7_37, hf⟩ := mv_some hf
            refine lv_iinc (v := x7_37) (lv' := [(7, .int x7_37), (5, .int x5_36), (0, .ref (ad 0)), (1, .int x1), (2, .int x2), (3, .int x3), (4, .int x4), (6, .int x6)]) hx hb dX12_waysOf_146 hl (k := 7) rfl (by rw [ex7_37]; rfl) (by decide) rfl (fun ls hl => ?_)
            refine lv_goto (tgt := 101) hx hb dX12_waysOf_149 (by decide) ?_
            exact ih x4 x5_36 x6 x7_37 H locs ls hP hS (lv_sub hl [2, 3, 4, 5, 6, 1, 7, 0] rfl) hf
  have hc67 : ∀ (K_17 : Int32 → Int32 → Int32 → Mm → Option (Int32)), (∀ (x4 : Int32) (x5 : Int32) (x6 : Int32) (H : Heap) (locs : List Loc) (ls : Array Slot), va_P D vwCl (mm_L TM ad cy g) H → va_S (mm_A TM ad) s.heap H locs → lv_has ls 8 [(0, .ref (ad 0)), (1, .int x1), (2, .int x2), (3, .int x3), (4, .int x4), (5, .int x5), (6, .int x6)] → K_17 x4 x5 x6 g = some r0 → W p l e (headSpec wsX12_waysOf (rm_X12_waysOf)).room s m args below meth c H locs 0 0 (MQ below (mm_Qi D TM ad cy r0 g) args s 0 0 (mm_A TM ad)) (F0 m 17 ls [])) → ∀ (x4 : Int32) (x5 : Int32) (x6 : Int32) (H : Heap) (locs : List Loc) (ls : Array Slot), va_P D vwCl (mm_L TM ad cy g) H → va_S (mm_A TM ad) s.heap H locs → lv_has ls 8 [(0, .ref (ad 0)), (1, .int x1), (2, .int x2), (3, .int x3), (4, .int x4), (5, .int x5), (6, .int x6)] → f_X12_waysOf_c67 K_17 x1 x2 x3 x4 x5 x6 g = some r0 → W p l e (headSpec wsX12_waysOf (rm_X12_waysOf)).room s m args below meth c H locs 0 0 (MQ below (mm_Qi D TM ad cy r0 g) args s 0 0 (mm_A TM ad)) (F0 m 67 ls []) := by
    intro K_17 hK_17 x4 x5 x6 H locs ls hP hS hl hf
    unfold f_X12_waysOf_c67 at hf
    refine lv_iload hx hb dX12_waysOf_67 (lv_at hl 5 rfl) ?_
    refine lv_aload_n hx hb dX12_waysOf_69 rfl (lv_at hl 0 rfl) ?_
    refine lv_iload_n hx hb dX12_waysOf_70 rfl (lv_at hl 2 rfl) ?_
    refine lv_iload_n hx hb dX12_waysOf_71 rfl (lv_at hl 3 rfl) ?_
    refine lv_aload_n hx hb dX12_waysOf_72 rfl (lv_at hl 0 rfl) ?_
    refine lv_iload hx hb dX12_waysOf_73 (lv_at hl 6 rfl) ?_
    obtain ⟨r_18, hr_19, hf⟩ := op_some hf
    refine mq_calli (va_runV (As := [.int x6]) (rest := [.int x3, .int x2, .ref (ad 0), .int x5]) ⟨hx, hb, hml, hown, hts⟩ (c_X12_printOf l D ad cy x6 g hp r_18 hr_19) (cwV 1 hts gX12_waysOf_X12_printOf rfl rfl rfl (by decide +kernel) ⟨Nat.le_of_ble_eq_true rfl, Nat.le_of_ble_eq_true rfl⟩) (mq_preV (q := (RX12, TX12, 26)) mm_zOk0 hK hP hI hZ hS hp rfl) rfl rfl hl.1 rfl (lv_room (Nat.le_of_ble_eq_true rfl)) dX12_waysOf_75 ⟨Nat.le_refl _, Nat.le_refl _⟩) hS (fun H locs hP hS => ?_)
    refine lv_aload_n hx hb dX12_waysOf_78 rfl (lv_at hl 0 rfl) ?_
    refine lv_iload hx hb dX12_waysOf_79 (lv_at hl 6 rfl) ?_
    obtain ⟨r_20, hr_21, hf⟩ := op_some hf
    refine mq_calli (va_runV (As := [.int x6]) (rest := [.int r_18, .int x3, .int x2, .ref (ad 0), .int x5]) ⟨hx, hb, hml, hown, hts⟩ (c_X12_printOf l D ad cy x6 g hp r_20 hr_21) (cwV 1 hts gX12_waysOf_X12_printOf rfl rfl rfl (by decide +kernel) ⟨Nat.le_of_ble_eq_true rfl, Nat.le_of_ble_eq_true rfl⟩) (mq_preV (q := (RX12, TX12, 26)) mm_zOk0 hK hP hI hZ hS hp rfl) rfl rfl hl.1 rfl (lv_room (Nat.le_of_ble_eq_true rfl)) dX12_waysOf_81 ⟨Nat.le_refl _, Nat.le_refl _⟩) hS (fun H locs hP hS => ?_)
    obtain ⟨r_22, hr_23, hf⟩ := op_some hf
    refine mq_calli (va_runV (As := [.int x2, .int x3, .int r_18, .int r_20]) (rest := [.int x5]) ⟨hx, hb, hml, hown, hts⟩ (c_X12_turns l D ad cy x2 x3 r_18 r_20 g hp r_22 hr_23) (cwV 4 hts gX12_waysOf_X12_turns rfl rfl rfl (by decide +kernel) ⟨Nat.le_of_ble_eq_true rfl, Nat.le_of_ble_eq_true rfl⟩) (mq_preV (q := (RX12, TX12, 26)) mm_zOk0 hK hP hI hZ hS hp rfl) rfl rfl hl.1 rfl (lv_room (Nat.le_of_ble_eq_true rfl)) dX12_waysOf_84 ⟨Nat.le_refl _, Nat.le_refl _⟩) hS (fun H locs hP hS => ?_)
    refine lv_if_eq (tgt := 94) hx hb dX12_waysOf_87 (by decide) (fun c_24 => ?_) (fun c_24 => ?_)
    · replace hf := ite_t c_24 hf
      refine lv_iconst (v := 0) hx hb dX12_waysOf_94 (by decide) ?_
      refine lv_iadd hx hb dX12_waysOf_95 ?_
      obtain ⟨x5_25, ex5_25, hf⟩ := mv_some hf
      refine mq_nm ex5_25 ?_
      refine lv_istore (lv' := [(5, .int x5_25), (0, .ref (ad 0)), (1, .int x1), (2, .int x2), (3, .int x3), (4, .int x4), (6, .int x6)]) hx hb dX12_waysOf_96 hl (by decide) rfl (fun ls hl => ?_)
      refine lv_iconst (v := 0) hx hb dX12_waysOf_98 (by decide) ?_
      refine lv_istore (lv' := [(7, .int 0), (5, .int x5_25), (0, .ref (ad 0)), (1, .int x1), (2, .int x2), (3, .int x3), (4, .int x4), (6, .int x6)]) hx hb dX12_waysOf_99 hl (by decide) rfl (fun ls hl => ?_)
      exact hc101 K_17 hK_17 FU x4 x5_25 x6 0 H locs ls hP hS (lv_sub hl [2, 3, 4, 5, 6, 1, 7, 0] rfl) hf
    · replace hf := ite_f c_24 hf
      refine lv_iconst (v := 1) hx hb dX12_waysOf_90 (by decide) ?_
      refine lv_goto (tgt := 95) hx hb dX12_waysOf_91 (by decide) ?_
      refine lv_iadd hx hb dX12_waysOf_95 ?_
      obtain ⟨x5_38, ex5_38, hf⟩ := mv_some hf
      refine mq_nm ex5_38 ?_
      refine lv_istore (lv' := [(5, .int x5_38), (0, .ref (ad 0)), (1, .int x1), (2, .int x2), (3, .int x3), (4, .int x4), (6, .int x6)]) hx hb dX12_waysOf_96 hl (by decide) rfl (fun ls hl => ?_)
      refine lv_iconst (v := 0) hx hb dX12_waysOf_98 (by decide) ?_
      refine lv_istore (lv' := [(7, .int 0), (5, .int x5_38), (0, .ref (ad 0)), (1, .int x1), (2, .int x2), (3, .int x3), (4, .int x4), (6, .int x6)]) hx hb dX12_waysOf_99 hl (by decide) rfl (fun ls hl => ?_)
      exact hc101 K_17 hK_17 FU x4 x5_38 x6 0 H locs ls hP hS (lv_sub hl [2, 3, 4, 5, 6, 1, 7, 0] rfl) hf
  have hc17 : ∀ (n : Nat), ∀ (x4 : Int32) (x5 : Int32) (x6 : Int32) (H : Heap) (locs : List Loc) (ls : Array Slot), va_P D vwCl (mm_L TM ad cy g) H → va_S (mm_A TM ad) s.heap H locs → lv_has ls 8 [(0, .ref (ad 0)), (1, .int x1), (2, .int x2), (3, .int x3), (4, .int x4), (5, .int x5), (6, .int x6)] → f_X12_waysOf_c17 x1 x2 x3 n x4 x5 x6 g = some r0 → W p l e (headSpec wsX12_waysOf (rm_X12_waysOf)).room s m args below meth c H locs 0 0 (MQ below (mm_Qi D TM ad cy r0 g) args s 0 0 (mm_A TM ad)) (F0 m 17 ls []) := by
    intro n
    induction n with
    | zero =>
      intro x4 x5 x6 H locs ls hP hS hl hf
      rw [f_X12_waysOf_c17] at hf
      cases hf
    | succ n ih =>
      intro x4 x5 x6 H locs ls hP hS hl hf
      rw [f_X12_waysOf_c17] at hf
      refine lv_iload hx hb dX12_waysOf_17 (lv_at hl 6 rfl) ?_
      refine lv_aload_n hx hb dX12_waysOf_19 rfl (lv_at hl 0 rfl) ?_
      refine mq_getr (Tt := TX12) (N := 26) (C := RX12) hx hb hts hiX12 hown hK hP hp rfl 0 1 (by decide) rfl hw0 (fun _ h9 => h9) dX12_waysOf_20 ?_
      refine lv_iconst (v := 1) hx hb dX12_waysOf_23 (by decide) ?_
      refine mq_iald hx hb hK hP (N := 193) (shTM_X12_1 hp) (by decide : mm_in 1 193 = true) dX12_waysOf_24 ?_
      refine lv_icmp_ge (tgt := 158) hx hb dX12_waysOf_25 (by decide) (fun c_3 => ?_) (fun c_3 => ?_)
      · replace hf := ite_t c_3 hf
        refine lv_iload hx hb dX12_waysOf_158 (lv_at hl 4 rfl) ?_
        refine lv_if_le (tgt := 189) hx hb dX12_waysOf_160 (by decide) (fun c_4 => ?_) (fun c_4 => ?_)
        · replace hf := ite_t c_4 hf
          refine lv_iload hx hb dX12_waysOf_189 (lv_at hl 5 rfl) ?_
          refine lv_aload_n hx hb dX12_waysOf_191 rfl (lv_at hl 0 rfl) ?_
          refine lv_iload_n hx hb dX12_waysOf_192 rfl (lv_at hl 2 rfl) ?_
          refine lv_iload_n hx hb dX12_waysOf_193 rfl (lv_at hl 3 rfl) ?_
          refine lv_iconst (v := 0) hx hb dX12_waysOf_194 (by decide) ?_
          refine lv_iconst (v := 1) hx hb dX12_waysOf_195 (by decide) ?_
          obtain ⟨r_5, hr_6, hf⟩ := op_some hf
          refine mq_calli (va_runV (As := [.int x2, .int x3, .int 0, .int 1]) (rest := [.int x5]) ⟨hx, hb, hml, hown, hts⟩ (c_X12_turns l D ad cy x2 x3 0 1 g hp r_5 hr_6) (cwV 4 hts gX12_waysOf_X12_turns rfl rfl rfl (by decide +kernel) ⟨Nat.le_of_ble_eq_true rfl, Nat.le_of_ble_eq_true rfl⟩) (mq_preV (q := (RX12, TX12, 26)) mm_zOk0 hK hP hI hZ hS hp rfl) rfl rfl hl.1 rfl (lv_room (Nat.le_of_ble_eq_true rfl)) dX12_waysOf_196 ⟨Nat.le_refl _, Nat.le_refl _⟩) hS (fun H locs hP hS => ?_)
          refine lv_if_ne (tgt := 213) hx hb dX12_waysOf_199 (by decide) (fun c_7 => ?_) (fun c_7 => ?_)
          · replace hf := ite_f c_7 hf
            refine lv_iconst (v := 1) hx hb dX12_waysOf_213 (by decide) ?_
            refine lv_goto (tgt := 218) hx hb dX12_waysOf_214 (by decide) ?_
            refine lv_iadd hx hb dX12_waysOf_218 ?_
            exact mq_iret hx hb hr rfl hlocks hP hS (Option.some.inj hf) rfl dX12_waysOf_219
          · replace hf := ite_t c_7 hf
            refine lv_aload_n hx hb dX12_waysOf_202 rfl (lv_at hl 0 rfl) ?_
            refine lv_iload_n hx hb dX12_waysOf_203 rfl (lv_at hl 2 rfl) ?_
            refine lv_iload_n hx hb dX12_waysOf_204 rfl (lv_at hl 3 rfl) ?_
            refine lv_iconst (v := 1) hx hb dX12_waysOf_205 (by decide) ?_
            refine lv_iconst (v := 0) hx hb dX12_waysOf_206 (by decide) ?_
            obtain ⟨r_8, hr_9, hf⟩ := op_some hf
            refine mq_calli (va_runV (As := [.int x2, .int x3, .int 1, .int 0]) (rest := [.int x5]) ⟨hx, hb, hml, hown, hts⟩ (c_X12_turns l D ad cy x2 x3 1 0 g hp r_8 hr_9) (cwV 4 hts gX12_waysOf_X12_turns rfl rfl rfl (by decide +kernel) ⟨Nat.le_of_ble_eq_true rfl, Nat.le_of_ble_eq_true rfl⟩) (mq_preV (q := (RX12, TX12, 26)) mm_zOk0 hK hP hI hZ hS hp rfl) rfl rfl hl.1 rfl (lv_room (Nat.le_of_ble_eq_true rfl)) dX12_waysOf_207 ⟨Nat.le_refl _, Nat.le_refl _⟩) hS (fun H locs hP hS => ?_)
            refine lv_if_eq (tgt := 217) hx hb dX12_waysOf_210 (by decide) (fun c_10 => ?_) (fun c_10 => ?_)
            · replace hf := ite_t c_10 hf
              refine lv_iconst (v := 0) hx hb dX12_waysOf_217 (by decide) ?_
              refine lv_iadd hx hb dX12_waysOf_218 ?_
              exact mq_iret hx hb hr rfl hlocks hP hS (Option.some.inj hf) rfl dX12_waysOf_219
            · replace hf := ite_f c_10 hf
              refine lv_iconst (v := 1) hx hb dX12_waysOf_213 (by decide) ?_
              refine lv_goto (tgt := 218) hx hb dX12_waysOf_214 (by decide) ?_
              refine lv_iadd hx hb dX12_waysOf_218 ?_
              exact mq_iret hx hb hr rfl hlocks hP hS (Option.some.inj hf) rfl dX12_waysOf_219
        · replace hf := ite_f c_4 hf
          refine lv_iload hx hb dX12_waysOf_163 (lv_at hl 5 rfl) ?_
          refine lv_aload_n hx hb dX12_waysOf_165 rfl (lv_at hl 0 rfl) ?_
          refine lv_iload_n hx hb dX12_waysOf_166 rfl (lv_at hl 2 rfl) ?_
          refine lv_iload_n hx hb dX12_waysOf_167 rfl (lv_at hl 3 rfl) ?_
          refine lv_iload hx hb dX12_waysOf_168 (lv_at hl 4 rfl) ?_
          refine lv_iconst (v := 1) hx hb dX12_waysOf_170 (by decide) ?_
          refine lv_isub hx hb dX12_waysOf_171 ?_
          refine lv_iload hx hb dX12_waysOf_172 (lv_at hl 4 rfl) ?_
          refine lv_iconst (v := 1) hx hb dX12_waysOf_174 (by decide) ?_
          refine lv_isub hx hb dX12_waysOf_175 ?_
          obtain ⟨r_11, hr_12, hf⟩ := op_some hf
          refine mq_calli (va_runV (As := [.int x2, .int x3, .int (x4 - 1), .int (x4 - 1)]) (rest := [.int x5]) ⟨hx, hb, hml, hown, hts⟩ (c_X12_turns l D ad cy x2 x3 (x4 - 1) (x4 - 1) g hp r_11 hr_12) (cwV 4 hts gX12_waysOf_X12_turns rfl rfl rfl (by decide +kernel) ⟨Nat.le_of_ble_eq_true rfl, Nat.le_of_ble_eq_true rfl⟩) (mq_preV (q := (RX12, TX12, 26)) mm_zOk0 hK hP hI hZ hS hp rfl) rfl rfl hl.1 rfl (lv_room (Nat.le_of_ble_eq_true rfl)) dX12_waysOf_176 ⟨Nat.le_refl _, Nat.le_refl _⟩) hS (fun H locs hP hS => ?_)
          refine lv_if_eq (tgt := 186) hx hb dX12_waysOf_179 (by decide) (fun c_13 => ?_) (fun c_13 => ?_)
          · replace hf := ite_t c_13 hf
            refine lv_iconst (v := 0) hx hb dX12_waysOf_186 (by decide) ?_
            refine lv_iadd hx hb dX12_waysOf_187 ?_
            exact mq_iret hx hb hr rfl hlocks hP hS (Option.some.inj hf) rfl dX12_waysOf_188
          · replace hf := ite_f c_13 hf
            refine lv_iconst (v := 1) hx hb dX12_waysOf_182 (by decide) ?_
            refine lv_goto (tgt := 187) hx hb dX12_waysOf_183 (by decide) ?_
            refine lv_iadd hx hb dX12_waysOf_187 ?_
            exact mq_iret hx hb hr rfl hlocks hP hS (Option.some.inj hf) rfl dX12_waysOf_188
      · replace hf := ite_f c_3 hf
        refine lv_aload_n hx hb dX12_waysOf_28 rfl (lv_at hl 0 rfl) ?_
        refine mq_getr (Tt := TX12) (N := 26) (C := RX12) hx hb hts hiX12 hown hK hP hp rfl 0 1 (by decide) rfl hw0 (fun _ h9 => h9) dX12_waysOf_29 ?_
        refine lv_bipush (v := 15) hx hb dX12_waysOf_32 (by decide) ?_
        refine lv_iload hx hb dX12_waysOf_34 (lv_at hl 6 rfl) ?_
        refine lv_iadd hx hb dX12_waysOf_36 ?_
        obtain ⟨h_14, hf⟩ := og_some hf
        refine mq_iald hx hb hK hP (N := 193) (shTM_X12_1 hp) h_14 dX12_waysOf_37 ?_
        refine lv_iload_n hx hb dX12_waysOf_38 rfl (lv_at hl 1 rfl) ?_
        refine lv_icmp_ne (tgt := 152) hx hb dX12_waysOf_39 (by decide) (fun c_15 => ?_) (fun c_15 => ?_)
        · replace hf := ite_f c_15 hf
          obtain ⟨x6_16, ex6_16, hf⟩ := mv_some hf
          refine lv_iinc (v := x6_16) (lv' := [(6, .int x6_16), (0, .ref (ad 0)), (1, .int x1), (2, .int x2), (3, .int x3), (4, .int x4), (5, .int x5)]) hx hb dX12_waysOf_152 hl (k := 6) rfl (by rw [ex6_16]; rfl) (by decide) rfl (fun ls hl => ?_)
          refine lv_goto (tgt := 17) hx hb dX12_waysOf_155 (by decide) ?_
          exact ih x4 x5 x6_16 H locs ls hP hS (lv_sub hl [1, 2, 3, 4, 5, 6, 0] rfl) hf
        · replace hf := ite_t c_15 hf
          refine lv_iload hx hb dX12_waysOf_42 (lv_at hl 4 rfl) ?_
          refine lv_if_le (tgt := 67) hx hb dX12_waysOf_44 (by decide) (fun c_17 => ?_) (fun c_17 => ?_)
          · replace hf := ite_t c_17 hf
            exact hc67 (f_X12_waysOf_c17 x1 x2 x3 n) ih x4 x5 x6 H locs ls hP hS (lv_sub hl [0, 1, 2, 3, 4, 5, 6] rfl) hf
          · replace hf := ite_f c_17 hf
            refine lv_aload_n hx hb dX12_waysOf_47 rfl (lv_at hl 0 rfl) ?_
            refine mq_getr (Tt := TX12) (N := 26) (C := RX12) hx hb hts hiX12 hown hK hP hp rfl 0 1 (by decide) rfl hw0 (fun _ h9 => h9) dX12_waysOf_48 ?_
            refine lv_bipush (v := 31) hx hb dX12_waysOf_51 (by decide) ?_
            refine lv_iload hx hb dX12_waysOf_53 (lv_at hl 6 rfl) ?_
            refine lv_iadd hx hb dX12_waysOf_55 ?_
            obtain ⟨h_39, hf⟩ := og_some hf
            refine mq_iald hx hb hK hP (N := 193) (shTM_X12_1 hp) h_39 dX12_waysOf_56 ?_
            refine lv_iload hx hb dX12_waysOf_57 (lv_at hl 4 rfl) ?_
            refine lv_iconst (v := 1) hx hb dX12_waysOf_59 (by decide) ?_
            refine lv_isub hx hb dX12_waysOf_60 ?_
            refine lv_icmp_eq (tgt := 67) hx hb dX12_waysOf_61 (by decide) (fun c_40 => ?_) (fun c_40 => ?_)
            · replace hf := ite_t c_40 hf
              exact hc67 (f_X12_waysOf_c17 x1 x2 x3 n) ih x4 x5 x6 H locs ls hP hS (lv_sub hl [0, 1, 2, 3, 4, 5, 6] rfl) hf
            · replace hf := ite_f c_40 hf
              refine lv_goto (tgt := 152) hx hb dX12_waysOf_64 (by decide) ?_
              obtain ⟨x6_41, ex6_41, hf⟩ := mv_some hf
              refine lv_iinc (v := x6_41) (lv' := [(6, .int x6_41), (0, .ref (ad 0)), (1, .int x1), (2, .int x2), (3, .int x3), (4, .int x4), (5, .int x5)]) hx hb dX12_waysOf_152 hl (k := 6) rfl (by rw [ex6_41]; rfl) (by decide) rfl (fun ls hl => ?_)
              refine lv_goto (tgt := 17) hx hb dX12_waysOf_155 (by decide) ?_
              exact ih x4 x5 x6_41 H locs ls hP hS (lv_sub hl [1, 2, 3, 4, 5, 6, 0] rfl) hf
  unfold f_X12_waysOf at hf
  have hH9 : ∀ (H : Heap) (locs : List Loc), H = s.heap → locs = [] → va_P D vwCl (mm_L TM ad cy g) H → va_S (mm_A TM ad) s.heap H locs → W p l e (headSpec wsX12_waysOf (rm_X12_waysOf)).room s m args below meth c H locs 0 0 (MQ below (mm_Qi D TM ad cy r0 g) args s 0 0 (mm_A TM ad)) (F0 m 0 ls []) := by
    intro H locs hH9 hL9 hP hS
    clear hH9 hL9
    refine lv_aload_n hx hb dX12_waysOf_0 rfl (lv_at hl 0 rfl) ?_
    refine mq_getr (Tt := TX12) (N := 26) (C := RX12) hx hb hts hiX12 hown hK hP hp rfl 0 1 (by decide) rfl hw0 (fun _ h9 => h9) dX12_waysOf_1 ?_
    refine lv_bipush (v := 10) hx hb dX12_waysOf_4 (by decide) ?_
    refine lv_iload_n hx hb dX12_waysOf_6 rfl (lv_at hl 1 rfl) ?_
    refine lv_iadd hx hb dX12_waysOf_7 ?_
    obtain ⟨h_1, hf⟩ := og_some hf
    refine mq_iald hx hb hK hP (N := 193) (shTM_X12_1 hp) h_1 dX12_waysOf_8 ?_
    obtain ⟨x4_2, ex4_2, hf⟩ := mv_some hf
    refine mq_nm ex4_2 ?_
    refine lv_istore (lv' := [(4, .int x4_2), (0, .ref (ad 0)), (1, .int x1), (2, .int x2), (3, .int x3)]) hx hb dX12_waysOf_9 hl (by decide) rfl (fun ls hl => ?_)
    refine lv_iconst (v := 0) hx hb dX12_waysOf_11 (by decide) ?_
    refine lv_istore (lv' := [(5, .int 0), (4, .int x4_2), (0, .ref (ad 0)), (1, .int x1), (2, .int x2), (3, .int x3)]) hx hb dX12_waysOf_12 hl (by decide) rfl (fun ls hl => ?_)
    refine lv_iconst (v := 0) hx hb dX12_waysOf_14 (by decide) ?_
    refine lv_istore (lv' := [(6, .int 0), (5, .int 0), (4, .int x4_2), (0, .ref (ad 0)), (1, .int x1), (2, .int x2), (3, .int x3)]) hx hb dX12_waysOf_15 hl (by decide) rfl (fun ls hl => ?_)
    exact hc17 FU x4_2 0 0 H locs ls hP hS (lv_sub hl [3, 4, 5, 6, 2, 1, 0] rfl) hf
  exact hH9 s.heap [] rfl rfl hP hS
abbrev rm_X12_waysOfAll : Room := ({ frames := 3, cells := 0, slots := 0, locals := 79 } : Room)
set_option maxHeartbeats 4000000 in
set_option maxRecDepth 100000 in
theorem c_X12_waysOfAll (l : Launch) (D : va_G) (ad : Nat → Nat) (cy : Nat → ClassId) (x1 : Int32) (x2 : Int32) (g : Mm) (hp : TM[0]? = some sX12) (r0 : Int32) (hf : f_X12_waysOfAll x1 x2 g = some r0) : Met l yX12_waysOfAll wsX12_waysOfAll rm_X12_waysOfAll (va_Pc [.ref (ad 0), .int x1, .int x2] (mm_pre mm_Z0 D TM ad cy g)) (mm_Qi D TM ad cy r0 g) 0 0 (mm_A TM ad) := by
  refine Met.ofW (cc := cX12_waysOfAll) (maxL := 5) (ret := (some .int)) (by decide) rfl ?_
  intro p e s m args below meth c s₁ B hml hv
  obtain ⟨hargs, hP, hK, hI, hZ⟩ := hv
  have hx := B.exec
  have hb := B.bytes
  have hr := B.returns
  have hts := atoms_spec (ws := wsX12_waysOfAll) B.pre
  have hown : s.vm.findClass RX12 = some m.cls := findClass_of_methodNamed B.named
  have hlocks := B.notSynchronized
  have hw0 := hts (.fieldLink RX12 7 "LeftShoesModel" "now" "[I") (by decide +kernel)
  have hiX12 : ∀ w ∈ wsX120, w ∈ wsX12_waysOfAll := by decide +kernel
  rw [show entryFrame m args 5 = F0 m 0 ((lg_sl ([.ref (ad 0), .int x1, .int x2] : List Value) ++ List.replicate (5 - (lg_sl ([.ref (ad 0), .int x1, .int x2] : List Value)).length) Slot.unset).toArray) [] from by rw [hargs]; exact lg_entry_eq m _ _]
  have hl := lv_entry ([.ref (ad 0), .int x1, .int x2] : List Value) (n := 5) (by exact Nat.le_of_ble_eq_true rfl)
  generalize (lg_sl ([.ref (ad 0), .int x1, .int x2] : List Value) ++ List.replicate (5 - (lg_sl ([.ref (ad 0), .int x1, .int x2] : List Value)).length) Slot.unset).toArray = ls at hl ⊢
  have hl : lv_has ls 5 [(0, .ref (ad 0)), (1, .int x1), (2, .int x2)] := by exact hl
  have hS : va_S (mm_A TM ad) s.heap s.heap [] := va_S.rf
  clear hargs
  have hc5 : ∀ (n : Nat), ∀ (x3 : Int32) (x4 : Int32) (H : Heap) (locs : List Loc) (ls : Array Slot), va_P D vwCl (mm_L TM ad cy g) H → va_S (mm_A TM ad) s.heap H locs → lv_has ls 5 [(0, .ref (ad 0)), (1, .int x1), (2, .int x2), (3, .int x3), (4, .int x4)] → f_X12_waysOfAll_c5 x1 x2 n x3 x4 g = some r0 → W p l e (headSpec wsX12_waysOfAll (rm_X12_waysOfAll)).room s m args below meth c H locs 0 0 (MQ below (mm_Qi D TM ad cy r0 g) args s 0 0 (mm_A TM ad)) (F0 m 5 ls []) := by
    intro n
    induction n with
    | zero =>
      intro x3 x4 H locs ls hP hS hl hf
      rw [f_X12_waysOfAll_c5] at hf
      cases hf
    | succ n ih =>
      intro x3 x4 H locs ls hP hS hl hf
      rw [f_X12_waysOfAll_c5] at hf
      refine lv_iload hx hb dX12_waysOfAll_5 (lv_at hl 4 rfl) ?_
      refine lv_aload_n hx hb dX12_waysOfAll_7 rfl (lv_at hl 0 rfl) ?_
      refine mq_getr (Tt := TX12) (N := 26) (C := RX12) hx hb hts hiX12 hown hK hP hp rfl 0 1 (by decide) rfl hw0 (fun _ h9 => h9) dX12_waysOfAll_8 ?_
      refine lv_iconst (v := 0) hx hb dX12_waysOfAll_11 (by decide) ?_
      refine mq_iald hx hb hK hP (N := 193) (shTM_X12_1 hp) (by decide : mm_in 0 193 = true) dX12_waysOfAll_12 ?_
      refine lv_icmp_ge (tgt := 33) hx hb dX12_waysOfAll_13 (by decide) (fun c_1 => ?_) (fun c_1 => ?_)
      · replace hf := ite_t c_1 hf
        refine lv_iload_n hx hb dX12_waysOfAll_33 rfl (lv_at hl 3 rfl) ?_
        exact mq_iret hx hb hr rfl hlocks hP hS (Option.some.inj hf) rfl dX12_waysOfAll_34
      · replace hf := ite_f c_1 hf
        refine lv_iload_n hx hb dX12_waysOfAll_16 rfl (lv_at hl 3 rfl) ?_
        refine lv_aload_n hx hb dX12_waysOfAll_17 rfl (lv_at hl 0 rfl) ?_
        refine lv_iload hx hb dX12_waysOfAll_18 (lv_at hl 4 rfl) ?_
        refine lv_iload_n hx hb dX12_waysOfAll_20 rfl (lv_at hl 1 rfl) ?_
        refine lv_iload_n hx hb dX12_waysOfAll_21 rfl (lv_at hl 2 rfl) ?_
        obtain ⟨r_2, hr_3, hf⟩ := op_some hf
        refine mq_calli (va_runV (As := [.int x4, .int x1, .int x2]) (rest := [.int x3]) ⟨hx, hb, hml, hown, hts⟩ (c_X12_waysOf l D ad cy x4 x1 x2 g hp r_2 hr_3) (cwV 3 hts gX12_waysOfAll_X12_waysOf rfl rfl rfl (by decide +kernel) ⟨Nat.le_of_ble_eq_true rfl, Nat.le_of_ble_eq_true rfl⟩) (mq_preV (q := (RX12, TX12, 26)) mm_zOk0 hK hP hI hZ hS hp rfl) rfl rfl hl.1 rfl (lv_room (Nat.le_of_ble_eq_true rfl)) dX12_waysOfAll_22 ⟨Nat.le_refl _, Nat.le_refl _⟩) hS (fun H locs hP hS => ?_)
        refine lv_iadd hx hb dX12_waysOfAll_25 ?_
        obtain ⟨x3_4, ex3_4, hf⟩ := mv_some hf
        refine mq_nm ex3_4 ?_
        refine lv_istore_n (lv' := [(3, .int x3_4), (0, .ref (ad 0)), (1, .int x1), (2, .int x2), (4, .int x4)]) hx hb dX12_waysOfAll_26 rfl hl (by decide) rfl (fun ls hl => ?_)
        obtain ⟨x4_5, ex4_5, hf⟩ := mv_some hf
        refine lv_iinc (v := x4_5) (lv' := [(4, .int x4_5), (3, .int x3_4), (0, .ref (ad 0)), (1, .int x1), (2, .int x2)]) hx hb dX12_waysOfAll_27 hl (k := 4) rfl (by rw [ex4_5]; rfl) (by decide) rfl (fun ls hl => ?_)
        refine lv_goto (tgt := 5) hx hb dX12_waysOfAll_30 (by decide) ?_
        exact ih x3_4 x4_5 H locs ls hP hS (lv_sub hl [2, 3, 4, 1, 0] rfl) hf
  unfold f_X12_waysOfAll at hf
  have hH9 : ∀ (H : Heap) (locs : List Loc), H = s.heap → locs = [] → va_P D vwCl (mm_L TM ad cy g) H → va_S (mm_A TM ad) s.heap H locs → W p l e (headSpec wsX12_waysOfAll (rm_X12_waysOfAll)).room s m args below meth c H locs 0 0 (MQ below (mm_Qi D TM ad cy r0 g) args s 0 0 (mm_A TM ad)) (F0 m 0 ls []) := by
    intro H locs hH9 hL9 hP hS
    clear hH9 hL9
    refine lv_iconst (v := 0) hx hb dX12_waysOfAll_0 (by decide) ?_
    refine lv_istore_n (lv' := [(3, .int 0), (0, .ref (ad 0)), (1, .int x1), (2, .int x2)]) hx hb dX12_waysOfAll_1 rfl hl (by decide) rfl (fun ls hl => ?_)
    refine lv_iconst (v := 0) hx hb dX12_waysOfAll_2 (by decide) ?_
    refine lv_istore (lv' := [(4, .int 0), (3, .int 0), (0, .ref (ad 0)), (1, .int x1), (2, .int x2)]) hx hb dX12_waysOfAll_3 hl (by decide) rfl (fun ls hl => ?_)
    exact hc5 FU 0 0 H locs ls hP hS (lv_sub hl [2, 3, 4, 1, 0] rfl) hf
  exact hH9 s.heap [] rfl rfl hP hS
