set_option maxHeartbeats 4000000 in
set_option maxRecDepth 100000 in
theorem c_X10_init (l : Launch) (D : va_G) (cy : Nat → ClassId) (h0 sz : Nat) : Met l yX10_init wsX10_init rm_X10_init (va_Pc [.ref h0] (cn_pre D cy h0 sz (.inr (10, [.int 0, .null, .null, .int 0, .null, .null, .null, .null, .null])))) (cn_Q D cy T10_ gW h0 sz (.inr (10, [.int 0, .null, .null, .int 0, .null, .null, .null, .null, .null]))) 40 344 (va_A [(h0, .inr (10, [.int 0, .null, .null, .int 0, .null, .null, .null, .null, .null]))] sz) := by
  refine Met.ofW (cc := cX10_init) (maxL := 2) (ret := none) (by decide) rfl ?_
  intro p e s m args below meth c s₁ B hml hv
  obtain ⟨rfl, rfl, hP, hK, hZ⟩ := hv
  have hx := B.exec
  have hb := B.bytes
  have hr := B.returns
  have hts := atoms_spec (ws := wsX10_init) B.pre
  have hown : s.vm.findClass RX10 = some m.cls := findClass_of_methodNamed B.named
  have hlocks := B.notSynchronized
  have hin : meth.name = "<init>" := (name_of_methodNamed B.named B.method).1
  have hD : va_D (va_A [(h0, .inr (10, [.int 0, .null, .null, .int 0, .null, .null, .null, .null, .null]))] s.heap.size) [(h0, .inr (10, [.int 0, .null, .null, .int 0, .null, .null, .null, .null, .null]))] := cn_D1
  unfold cn_Q
  generalize hAe : va_A [(h0, .inr (10, [.int 0, .null, .null, .int 0, .null, .null, .null, .null, .null]))] s.heap.size = A at hD ⊢
  have hA : ∀ q : Nat, s.heap.size ≤ q → A q := fun q h => by rw [← hAe]; exact Or.inr h
  clear hAe
  have hS : va_S A s.heap s.heap [] := va_S.rf
  have hl := lv_entry ([.ref h0]) (n := 2) (Nat.le_of_ble_eq_true rfl)
  rw [lg_entry_eq]
  generalize (lg_sl ([.ref h0]) ++ List.replicate (2 - (lg_sl ([.ref h0])).length) Slot.unset).toArray = ls at hl ⊢
  have hl : lv_has ls 2 [(0, .ref h0)] := hl
  have hP : va_P D vwCl [(h0, .inr (10, [.int 0, .null, .null, .int 0, .null, .null, .null, .null, .null]))] s.heap := hP
  refine lv_aload_n hx hb dX10_init_0 rfl (lv_at hl 0 rfl) ?_
  refine W.objInit hx hb hown (hts (.methodLink RX10 3 objectInit) (by decide +kernel)) (hts (.instanceMethod objectInit) (by decide +kernel)) (hts (.code objectInit ⟨#[0xb1]⟩ 1 none) (by decide +kernel)) rfl (by rw [hml]; exact hl.1) rfl dX10_init_1 (Nat.le_of_ble_eq_true rfl) (Nat.le_of_ble_eq_true rfl) ?_
  refine W.eq (g2 := F0 m 4 ls []) rfl ?_
  refine lv_aload_n hx hb dX10_init_4 rfl (lv_at hl 0 rfl) ?_
  refine lv_iconst (v := 5) hx hb dX10_init_5 (by decide) ?_
  refine cn_newI (N' := 5) (ty := .int) (t := 0) (atype := .int) hx hb (hts (.arrayClass .int) (by decide +kernel)) rfl hK rfl rfl hP hD hS hA (by decide) rfl (Nat.le_of_ble_eq_true rfl) (Nat.le_of_ble_eq_true rfl) (Nat.le_of_ble_eq_true rfl) dX10_init_6 (fun q6 H hP hD hS => ?_)
  have hP : va_P D vwCl [(h0, .inr (10, [.int 0, .null, .null, .int 0, .null, .null, .null, .null, .null])), (q6, .inl (cy 0, 5, .inl (fun _ => 0)))] H := hP
  have hD : va_D A [(h0, .inr (10, [.int 0, .null, .null, .int 0, .null, .null, .null, .null, .null])), (q6, .inl (cy 0, 5, .inl (fun _ => 0)))] := hD
  refine W.widen (k := 1) (n := 5) (Nat.le_of_ble_eq_true rfl) (Nat.le_of_ble_eq_true rfl) ?_
  refine va_putF (D := D) (ci := 10) (v := .ref q6) (ty := .array .int) (C := RX10) (T := TX10) (N := 9) hx hb hts (by decide +kernel) tyX10 tyX10_ok nmX10 hown hK hP hD hS 0 rfl rfl 1 (by decide) (hts (.fieldLink RX10 9 "LeftShoes$World" "purses" "[I") (by decide +kernel)) (fun _ h9 => h9) rfl hin rfl (by decide +kernel) rfl rfl (Nat.le_of_ble_eq_true rfl) dX10_init_8 (fun H locs hP hD hS => ?_)
  have hP : va_P D vwCl [(h0, .inr (10, [.int 0, .ref q6, .null, .int 0, .null, .null, .null, .null, .null])), (q6, .inl (cy 0, 5, .inl (fun _ => 0)))] H := hP
  have hD : va_D A [(h0, .inr (10, [.int 0, .ref q6, .null, .int 0, .null, .null, .null, .null, .null])), (q6, .inl (cy 0, 5, .inl (fun _ => 0)))] := hD
  refine lv_aload_n hx hb dX10_init_11 rfl (lv_at hl 0 rfl) ?_
  refine lv_iconst (v := 5) hx hb dX10_init_12 (by decide) ?_
  refine cn_newI (N' := 5) (ty := .int) (t := 0) (atype := .int) hx hb (hts (.arrayClass .int) (by decide +kernel)) rfl hK rfl rfl hP hD hS hA (by decide) rfl (Nat.le_of_ble_eq_true rfl) (Nat.le_of_ble_eq_true rfl) (Nat.le_of_ble_eq_true rfl) dX10_init_13 (fun q13 H hP hD hS => ?_)
  have hP : va_P D vwCl [(h0, .inr (10, [.int 0, .ref q6, .null, .int 0, .null, .null, .null, .null, .null])), (q6, .inl (cy 0, 5, .inl (fun _ => 0))), (q13, .inl (cy 0, 5, .inl (fun _ => 0)))] H := hP
  have hD : va_D A [(h0, .inr (10, [.int 0, .ref q6, .null, .int 0, .null, .null, .null, .null, .null])), (q6, .inl (cy 0, 5, .inl (fun _ => 0))), (q13, .inl (cy 0, 5, .inl (fun _ => 0)))] := hD
  refine W.widen (k := 2) (n := 10) (Nat.le_of_ble_eq_true rfl) (Nat.le_of_ble_eq_true rfl) ?_
  refine va_putF (D := D) (ci := 10) (v := .ref q13) (ty := .array .int) (C := RX10) (T := TX10) (N := 9) hx hb hts (by decide +kernel) tyX10 tyX10_ok nmX10 hown hK hP hD hS 0 rfl rfl 2 (by decide) (hts (.fieldLink RX10 15 "LeftShoes$World" "feet" "[I") (by decide +kernel)) (fun _ h9 => h9) rfl hin rfl (by decide +kernel) rfl rfl (Nat.le_of_ble_eq_true rfl) dX10_init_15 (fun H locs hP hD hS => ?_)
  have hP : va_P D vwCl [(h0, .inr (10, [.int 0, .ref q6, .ref q13, .int 0, .null, .null, .null, .null, .null])), (q6, .inl (cy 0, 5, .inl (fun _ => 0))), (q13, .inl (cy 0, 5, .inl (fun _ => 0)))] H := hP
  have hD : va_D A [(h0, .inr (10, [.int 0, .ref q6, .ref q13, .int 0, .null, .null, .null, .null, .null])), (q6, .inl (cy 0, 5, .inl (fun _ => 0))), (q13, .inl (cy 0, 5, .inl (fun _ => 0)))] := hD
  refine lv_aload_n hx hb dX10_init_18 rfl (lv_at hl 0 rfl) ?_
  refine lv_bipush (v := 16) hx hb dX10_init_19 (by decide) ?_
  refine cn_newQ (N' := 16) (t := 2) (C := RX5) hx hb hown (hts (.classLink RX10 18 RX5) (by decide +kernel)) hZ.1.1 hK rfl hP hD hS hA (by decide) rfl (Nat.le_of_ble_eq_true rfl) (Nat.le_of_ble_eq_true rfl) (Nat.le_of_ble_eq_true rfl) dX10_init_21 (fun q21 H hP hD hS => ?_)
  have hP : va_P D vwCl [(h0, .inr (10, [.int 0, .ref q6, .ref q13, .int 0, .null, .null, .null, .null, .null])), (q6, .inl (cy 0, 5, .inl (fun _ => 0))), (q13, .inl (cy 0, 5, .inl (fun _ => 0))), (q21, .inl (cy 2, 16, .inr (.inr (.inr (.inr (fun _ => none))))))] H := hP
  have hD : va_D A [(h0, .inr (10, [.int 0, .ref q6, .ref q13, .int 0, .null, .null, .null, .null, .null])), (q6, .inl (cy 0, 5, .inl (fun _ => 0))), (q13, .inl (cy 0, 5, .inl (fun _ => 0))), (q21, .inl (cy 2, 16, .inr (.inr (.inr (.inr (fun _ => none))))))] := hD
  refine W.widen (k := 3) (n := 26) (Nat.le_of_ble_eq_true rfl) (Nat.le_of_ble_eq_true rfl) ?_
  refine va_putF (D := D) (ci := 10) (v := .ref q21) (ty := .array (.object "LeftShoes$Shoe")) (C := RX10) (T := TX10) (N := 9) hx hb hts (by decide +kernel) tyX10 tyX10_ok nmX10 hown hK hP hD hS 0 rfl rfl 4 (by decide) (hts (.fieldLink RX10 20 "LeftShoes$World" "shoes" "[LLeftShoes$Shoe;") (by decide +kernel)) (fun _ h9 => h9) rfl hin rfl (by decide +kernel) rfl rfl (Nat.le_of_ble_eq_true rfl) dX10_init_24 (fun H locs hP hD hS => ?_)
  have hP : va_P D vwCl [(h0, .inr (10, [.int 0, .ref q6, .ref q13, .int 0, .ref q21, .null, .null, .null, .null])), (q6, .inl (cy 0, 5, .inl (fun _ => 0))), (q13, .inl (cy 0, 5, .inl (fun _ => 0))), (q21, .inl (cy 2, 16, .inr (.inr (.inr (.inr (fun _ => none))))))] H := hP
  have hD : va_D A [(h0, .inr (10, [.int 0, .ref q6, .ref q13, .int 0, .ref q21, .null, .null, .null, .null])), (q6, .inl (cy 0, 5, .inl (fun _ => 0))), (q13, .inl (cy 0, 5, .inl (fun _ => 0))), (q21, .inl (cy 2, 16, .inr (.inr (.inr (.inr (fun _ => none))))))] := hD
  refine lv_aload_n hx hb dX10_init_27 rfl (lv_at hl 0 rfl) ?_
  refine va_new (ci := 7) (fs := [.null, .int 0, .int 0]) (C := RX7) (T := TX7) (N := 3) hx hb hts (by decide +kernel) tyX7 tyX7_ok hown (hts (.classLink RX10 24 RX7) (by decide +kernel)) (hts (.instantiable RX7 3) (by decide +kernel)) (hts (.initialized RX7) (by decide +kernel)) hK hP hD hS hA rfl (fun j hj => by rcases (show j = 0 ∨ j = 1 ∨ j = 2 by omega) with rfl | rfl | rfl <;> rfl) (Nat.le_of_ble_eq_true rfl) (Nat.le_of_ble_eq_true rfl) dX10_init_28 (fun q28 H hP hD hS => ?_)
  refine W.widen (k := 4) (n := 29) (Nat.le_of_ble_eq_true rfl) (Nat.le_of_ble_eq_true rfl) ?_
  refine lv_dup hx hb dX10_init_31 rfl ?_
  refine cn_after (ws := [(h0, .inr (10, [.int 0, .ref q6, .ref q13, .int 0, .ref q21, .null, .null, .null, .null])), (q6, .inl (cy 0, 5, .inl (fun _ => 0))), (q13, .inl (cy 0, 5, .inl (fun _ => 0))), (q21, .inl (cy 2, 16, .inr (.inr (.inr (.inr (fun _ => none))))))]) (e0 := (.inr (7, [.null, .int 0, .int 0]))) (va_runIN (As := []) (rest := [.ref q28, .ref h0]) ⟨hx, hb, hml, hown, hts⟩ (c_X7_init l D cy q28 H.size) ⟨va_cnB 0 hts gX10_init_X7_init_n26 rfl rfl rfl (hZ.2 (RX10, 26, yX7_init) (by decide +kernel)) (hts (.initialized RX7) (by decide +kernel)) (by decide +kernel) ⟨Nat.le_of_ble_eq_true rfl, Nat.le_of_ble_eq_true rfl⟩, rfl, hts (.instanceMethod yX7_init) (by decide +kernel)⟩ (cn_preS hK hZ (cn_last (ws := [(h0, .inr (10, [.int 0, .ref q6, .ref q13, .int 0, .ref q21, .null, .null, .null, .null])), (q6, .inl (cy 0, 5, .inl (fun _ => 0))), (q13, .inl (cy 0, 5, .inl (fun _ => 0))), (q21, .inl (cy 2, 16, .inr (.inr (.inr (.inr (fun _ => none))))))]) hP)) rfl rfl hl.1 rfl (Nat.le_of_ble_eq_true rfl) dX10_init_32 ⟨Nat.le_of_ble_eq_true rfl, Nat.le_of_ble_eq_true rfl⟩) hP hD hS hA (fun ad32 H9 locs9 ead32 hP9 hD9 hS9 => ?_)
  clear hP hD hS
  subst ead32
  have hP : va_P D vwCl ((h0, .inr (10, [.int 0, .ref q6, .ref q13, .int 0, .ref q21, .null, .null, .null, .null])) :: (q6, .inl (cy 0, 5, .inl (fun _ => 0))) :: (q13, .inl (cy 0, 5, .inl (fun _ => 0))) :: (q21, .inl (cy 2, 16, .inr (.inr (.inr (.inr (fun _ => none)))))) :: mm_L T7_ ad32 cy (fun _ _ => 0)) H9 := hP9
  have hD : va_D A ((h0, .inr (10, [.int 0, .ref q6, .ref q13, .int 0, .ref q21, .null, .null, .null, .null])) :: (q6, .inl (cy 0, 5, .inl (fun _ => 0))) :: (q13, .inl (cy 0, 5, .inl (fun _ => 0))) :: (q21, .inl (cy 2, 16, .inr (.inr (.inr (.inr (fun _ => none)))))) :: mm_L T7_ ad32 cy (fun _ _ => 0)) := hD9
  have hS := hS9
  clear hP9 hD9 hS9
  generalize H9 = H at hP hS ⊢
  generalize locs9 = locs at hS ⊢
  refine W.widen (k := 5) (n := 33) (Nat.le_of_ble_eq_true rfl) (Nat.le_of_ble_eq_true rfl) ?_
  refine va_putF (D := D) (ci := 10) (v := .ref (ad32 0)) (ty := .object "LeftShoes$Tax") (C := RX10) (T := TX10) (N := 9) hx hb hts (by decide +kernel) tyX10 tyX10_ok nmX10 hown hK hP hD hS 0 rfl rfl 5 (by decide) (hts (.fieldLink RX10 27 "LeftShoes$World" "levy" "LLeftShoes$Tax;") (by decide +kernel)) (fun _ h9 => h9) rfl hin rfl (by decide +kernel) rfl rfl (Nat.le_of_ble_eq_true rfl) dX10_init_35 (fun H locs hP hD hS => ?_)
  have hP : va_P D vwCl ((h0, .inr (10, [.int 0, .ref q6, .ref q13, .int 0, .ref q21, .ref (ad32 0), .null, .null, .null])) :: (q6, .inl (cy 0, 5, .inl (fun _ => 0))) :: (q13, .inl (cy 0, 5, .inl (fun _ => 0))) :: (q21, .inl (cy 2, 16, .inr (.inr (.inr (.inr (fun _ => none)))))) :: mm_L T7_ ad32 cy (fun _ _ => 0)) H := hP
  have hD : va_D A ((h0, .inr (10, [.int 0, .ref q6, .ref q13, .int 0, .ref q21, .ref (ad32 0), .null, .null, .null])) :: (q6, .inl (cy 0, 5, .inl (fun _ => 0))) :: (q13, .inl (cy 0, 5, .inl (fun _ => 0))) :: (q21, .inl (cy 2, 16, .inr (.inr (.inr (.inr (fun _ => none)))))) :: mm_L T7_ ad32 cy (fun _ _ => 0)) := hD
  refine lv_aload_n hx hb dX10_init_38 rfl (lv_at hl 0 rfl) ?_
  refine va_new (ci := 3) (fs := [.null, .null]) (C := RX3) (T := TX3) (N := 2) hx hb hts (by decide +kernel) tyX3 tyX3_ok hown (hts (.classLink RX10 31 RX3) (by decide +kernel)) (hts (.instantiable RX3 2) (by decide +kernel)) (hts (.initialized RX3) (by decide +kernel)) hK hP hD hS hA rfl (fun j hj => by rcases (show j = 0 ∨ j = 1 by omega) with rfl | rfl <;> rfl) (Nat.le_of_ble_eq_true rfl) (Nat.le_of_ble_eq_true rfl) dX10_init_39 (fun q39 H hP hD hS => ?_)
  refine W.widen (k := 6) (n := 35) (Nat.le_of_ble_eq_true rfl) (Nat.le_of_ble_eq_true rfl) ?_
  refine lv_dup hx hb dX10_init_42 rfl ?_
  refine cn_after (ws := ((h0, .inr (10, [.int 0, .ref q6, .ref q13, .int 0, .ref q21, .ref (ad32 0), .null, .null, .null])) :: (q6, .inl (cy 0, 5, .inl (fun _ => 0))) :: (q13, .inl (cy 0, 5, .inl (fun _ => 0))) :: (q21, .inl (cy 2, 16, .inr (.inr (.inr (.inr (fun _ => none)))))) :: mm_L T7_ ad32 cy (fun _ _ => 0))) (e0 := (.inr (3, [.null, .null]))) (va_runIN (As := []) (rest := [.ref q39, .ref h0]) ⟨hx, hb, hml, hown, hts⟩ (c_X3_init l D cy q39 H.size) ⟨va_cnB 0 hts gX10_init_X3_init_n33 rfl rfl rfl (hZ.2 (RX10, 33, yX3_init) (by decide +kernel)) (hts (.initialized RX3) (by decide +kernel)) (by decide +kernel) ⟨Nat.le_of_ble_eq_true rfl, Nat.le_of_ble_eq_true rfl⟩, rfl, hts (.instanceMethod yX3_init) (by decide +kernel)⟩ (cn_preS hK hZ (cn_last (ws := ((h0, .inr (10, [.int 0, .ref q6, .ref q13, .int 0, .ref q21, .ref (ad32 0), .null, .null, .null])) :: (q6, .inl (cy 0, 5, .inl (fun _ => 0))) :: (q13, .inl (cy 0, 5, .inl (fun _ => 0))) :: (q21, .inl (cy 2, 16, .inr (.inr (.inr (.inr (fun _ => none)))))) :: mm_L T7_ ad32 cy (fun _ _ => 0))) hP)) rfl rfl hl.1 rfl (Nat.le_of_ble_eq_true rfl) dX10_init_43 ⟨Nat.le_of_ble_eq_true rfl, Nat.le_of_ble_eq_true rfl⟩) hP hD hS hA (fun ad43 H9 locs9 ead43 hP9 hD9 hS9 => ?_)
  clear hP hD hS
  subst ead43
  have hP : va_P D vwCl ((h0, .inr (10, [.int 0, .ref q6, .ref q13, .int 0, .ref q21, .ref (ad32 0), .null, .null, .null])) :: (q6, .inl (cy 0, 5, .inl (fun _ => 0))) :: (q13, .inl (cy 0, 5, .inl (fun _ => 0))) :: (q21, .inl (cy 2, 16, .inr (.inr (.inr (.inr (fun _ => none)))))) :: (mm_L T7_ ad32 cy (fun _ _ => 0) ++ mm_L T3_ ad43 cy (fun _ _ => 0))) H9 := hP9
  have hD : va_D A ((h0, .inr (10, [.int 0, .ref q6, .ref q13, .int 0, .ref q21, .ref (ad32 0), .null, .null, .null])) :: (q6, .inl (cy 0, 5, .inl (fun _ => 0))) :: (q13, .inl (cy 0, 5, .inl (fun _ => 0))) :: (q21, .inl (cy 2, 16, .inr (.inr (.inr (.inr (fun _ => none)))))) :: (mm_L T7_ ad32 cy (fun _ _ => 0) ++ mm_L T3_ ad43 cy (fun _ _ => 0))) := hD9
  have hS := hS9
  clear hP9 hD9 hS9
  generalize H9 = H at hP hS ⊢
  generalize locs9 = locs at hS ⊢
  refine W.widen (k := 8) (n := 53) (Nat.le_of_ble_eq_true rfl) (Nat.le_of_ble_eq_true rfl) ?_
  refine va_putF (D := D) (ci := 10) (v := .ref (ad43 0)) (ty := .object "LeftShoes$Road") (C := RX10) (T := TX10) (N := 9) hx hb hts (by decide +kernel) tyX10 tyX10_ok nmX10 hown hK hP hD hS 0 rfl rfl 6 (by decide) (hts (.fieldLink RX10 34 "LeftShoes$World" "way" "LLeftShoes$Road;") (by decide +kernel)) (fun _ h9 => h9) rfl hin rfl (by decide +kernel) rfl rfl (Nat.le_of_ble_eq_true rfl) dX10_init_46 (fun H locs hP hD hS => ?_)
  have hP : va_P D vwCl ((h0, .inr (10, [.int 0, .ref q6, .ref q13, .int 0, .ref q21, .ref (ad32 0), .ref (ad43 0), .null, .null])) :: (q6, .inl (cy 0, 5, .inl (fun _ => 0))) :: (q13, .inl (cy 0, 5, .inl (fun _ => 0))) :: (q21, .inl (cy 2, 16, .inr (.inr (.inr (.inr (fun _ => none)))))) :: (mm_L T7_ ad32 cy (fun _ _ => 0) ++ mm_L T3_ ad43 cy (fun _ _ => 0))) H := hP
  have hD : va_D A ((h0, .inr (10, [.int 0, .ref q6, .ref q13, .int 0, .ref q21, .ref (ad32 0), .ref (ad43 0), .null, .null])) :: (q6, .inl (cy 0, 5, .inl (fun _ => 0))) :: (q13, .inl (cy 0, 5, .inl (fun _ => 0))) :: (q21, .inl (cy 2, 16, .inr (.inr (.inr (.inr (fun _ => none)))))) :: (mm_L T7_ ad32 cy (fun _ _ => 0) ++ mm_L T3_ ad43 cy (fun _ _ => 0))) := hD
  refine lv_aload_n hx hb dX10_init_49 rfl (lv_at hl 0 rfl) ?_
  refine va_new (ci := 2) (fs := [.null, .null, .null, .int 0, .int 0]) (C := RX2) (T := TX2) (N := 5) hx hb hts (by decide +kernel) tyX2 tyX2_ok hown (hts (.classLink RX10 38 RX2) (by decide +kernel)) (hts (.instantiable RX2 5) (by decide +kernel)) (hts (.initialized RX2) (by decide +kernel)) hK hP hD hS hA rfl (fun j hj => by rcases (show j = 0 ∨ j = 1 ∨ j = 2 ∨ j = 3 ∨ j = 4 by omega) with rfl | rfl | rfl | rfl | rfl <;> rfl) (Nat.le_of_ble_eq_true rfl) (Nat.le_of_ble_eq_true rfl) dX10_init_50 (fun q50 H hP hD hS => ?_)
  refine W.widen (k := 9) (n := 58) (Nat.le_of_ble_eq_true rfl) (Nat.le_of_ble_eq_true rfl) ?_
  refine lv_dup hx hb dX10_init_53 rfl ?_
  refine cn_after (ws := ((h0, .inr (10, [.int 0, .ref q6, .ref q13, .int 0, .ref q21, .ref (ad32 0), .ref (ad43 0), .null, .null])) :: (q6, .inl (cy 0, 5, .inl (fun _ => 0))) :: (q13, .inl (cy 0, 5, .inl (fun _ => 0))) :: (q21, .inl (cy 2, 16, .inr (.inr (.inr (.inr (fun _ => none)))))) :: (mm_L T7_ ad32 cy (fun _ _ => 0) ++ mm_L T3_ ad43 cy (fun _ _ => 0)))) (e0 := (.inr (2, [.null, .null, .null, .int 0, .int 0]))) (va_runI (As := []) (rest := [.ref q50, .ref h0]) ⟨hx, hb, hml, hown, hts⟩ (c_X2_init l D cy q50 H.size) (cwI 0 hts gX10_init_X2_init rfl rfl rfl (hts (.initialized RX2) (by decide +kernel)) (hts (.methodLink RX10 40 yX2_init) (by decide +kernel)) (hts (.instanceMethod yX2_init) (by decide +kernel)) rfl (by decide +kernel) ⟨Nat.le_of_ble_eq_true rfl, Nat.le_of_ble_eq_true rfl⟩) (cn_preS hK hZ (cn_last (ws := ((h0, .inr (10, [.int 0, .ref q6, .ref q13, .int 0, .ref q21, .ref (ad32 0), .ref (ad43 0), .null, .null])) :: (q6, .inl (cy 0, 5, .inl (fun _ => 0))) :: (q13, .inl (cy 0, 5, .inl (fun _ => 0))) :: (q21, .inl (cy 2, 16, .inr (.inr (.inr (.inr (fun _ => none)))))) :: (mm_L T7_ ad32 cy (fun _ _ => 0) ++ mm_L T3_ ad43 cy (fun _ _ => 0)))) hP)) rfl rfl hl.1 rfl (Nat.le_of_ble_eq_true rfl) dX10_init_54 ⟨Nat.le_of_ble_eq_true rfl, Nat.le_of_ble_eq_true rfl⟩) hP hD hS hA (fun ad54 H9 locs9 ead54 hP9 hD9 hS9 => ?_)
  clear hP hD hS
  subst ead54
  have hP : va_P D vwCl ((h0, .inr (10, [.int 0, .ref q6, .ref q13, .int 0, .ref q21, .ref (ad32 0), .ref (ad43 0), .null, .null])) :: (q6, .inl (cy 0, 5, .inl (fun _ => 0))) :: (q13, .inl (cy 0, 5, .inl (fun _ => 0))) :: (q21, .inl (cy 2, 16, .inr (.inr (.inr (.inr (fun _ => none)))))) :: ((mm_L T7_ ad32 cy (fun _ _ => 0) ++ mm_L T3_ ad43 cy (fun _ _ => 0)) ++ mm_L T2_ ad54 cy (gF 8))) H9 := hP9
  have hD : va_D A ((h0, .inr (10, [.int 0, .ref q6, .ref q13, .int 0, .ref q21, .ref (ad32 0), .ref (ad43 0), .null, .null])) :: (q6, .inl (cy 0, 5, .inl (fun _ => 0))) :: (q13, .inl (cy 0, 5, .inl (fun _ => 0))) :: (q21, .inl (cy 2, 16, .inr (.inr (.inr (.inr (fun _ => none)))))) :: ((mm_L T7_ ad32 cy (fun _ _ => 0) ++ mm_L T3_ ad43 cy (fun _ _ => 0)) ++ mm_L T2_ ad54 cy (gF 8))) := hD9
  have hS := hS9
  clear hP9 hD9 hS9
  generalize H9 = H at hP hS ⊢
  generalize locs9 = locs at hS ⊢
  refine W.widen (k := 20) (n := 146) (Nat.le_of_ble_eq_true rfl) (Nat.le_of_ble_eq_true rfl) ?_
  refine va_putF (D := D) (ci := 10) (v := .ref (ad54 0)) (ty := .object "LeftShoes$Fords") (C := RX10) (T := TX10) (N := 9) hx hb hts (by decide +kernel) tyX10 tyX10_ok nmX10 hown hK hP hD hS 0 rfl rfl 7 (by decide) (hts (.fieldLink RX10 41 "LeftShoes$World" "fords" "LLeftShoes$Fords;") (by decide +kernel)) (fun _ h9 => h9) rfl hin rfl (by decide +kernel) rfl rfl (Nat.le_of_ble_eq_true rfl) dX10_init_57 (fun H locs hP hD hS => ?_)
  have hP : va_P D vwCl ((h0, .inr (10, [.int 0, .ref q6, .ref q13, .int 0, .ref q21, .ref (ad32 0), .ref (ad43 0), .ref (ad54 0), .null])) :: (q6, .inl (cy 0, 5, .inl (fun _ => 0))) :: (q13, .inl (cy 0, 5, .inl (fun _ => 0))) :: (q21, .inl (cy 2, 16, .inr (.inr (.inr (.inr (fun _ => none)))))) :: ((mm_L T7_ ad32 cy (fun _ _ => 0) ++ mm_L T3_ ad43 cy (fun _ _ => 0)) ++ mm_L T2_ ad54 cy (gF 8))) H := hP
  have hD : va_D A ((h0, .inr (10, [.int 0, .ref q6, .ref q13, .int 0, .ref q21, .ref (ad32 0), .ref (ad43 0), .ref (ad54 0), .null])) :: (q6, .inl (cy 0, 5, .inl (fun _ => 0))) :: (q13, .inl (cy 0, 5, .inl (fun _ => 0))) :: (q21, .inl (cy 2, 16, .inr (.inr (.inr (.inr (fun _ => none)))))) :: ((mm_L T7_ ad32 cy (fun _ _ => 0) ++ mm_L T3_ ad43 cy (fun _ _ => 0)) ++ mm_L T2_ ad54 cy (gF 8))) := hD
  refine lv_aload_n hx hb dX10_init_60 rfl (lv_at hl 0 rfl) ?_
  refine va_new (ci := 1) (fs := [.null, .null, .int 0, .null, .int 0, .int 0]) (C := RX1) (T := TX1) (N := 6) hx hb hts (by decide +kernel) tyX1 tyX1_ok hown (hts (.classLink RX10 45 RX1) (by decide +kernel)) (hts (.instantiable RX1 6) (by decide +kernel)) (hts (.initialized RX1) (by decide +kernel)) hK hP hD hS hA rfl (fun j hj => by rcases (show j = 0 ∨ j = 1 ∨ j = 2 ∨ j = 3 ∨ j = 4 ∨ j = 5 by omega) with rfl | rfl | rfl | rfl | rfl | rfl <;> rfl) (Nat.le_of_ble_eq_true rfl) (Nat.le_of_ble_eq_true rfl) dX10_init_61 (fun q61 H hP hD hS => ?_)
  refine W.widen (k := 21) (n := 152) (Nat.le_of_ble_eq_true rfl) (Nat.le_of_ble_eq_true rfl) ?_
  refine lv_dup hx hb dX10_init_64 rfl ?_
  refine cn_after (ws := ((h0, .inr (10, [.int 0, .ref q6, .ref q13, .int 0, .ref q21, .ref (ad32 0), .ref (ad43 0), .ref (ad54 0), .null])) :: (q6, .inl (cy 0, 5, .inl (fun _ => 0))) :: (q13, .inl (cy 0, 5, .inl (fun _ => 0))) :: (q21, .inl (cy 2, 16, .inr (.inr (.inr (.inr (fun _ => none)))))) :: ((mm_L T7_ ad32 cy (fun _ _ => 0) ++ mm_L T3_ ad43 cy (fun _ _ => 0)) ++ mm_L T2_ ad54 cy (gF 8)))) (e0 := (.inr (1, [.null, .null, .int 0, .null, .int 0, .int 0]))) (va_runIN (As := []) (rest := [.ref q61, .ref h0]) ⟨hx, hb, hml, hown, hts⟩ (c_X1_init l D cy q61 H.size) ⟨va_cnB 0 hts gX10_init_X1_init_n47 rfl rfl rfl (hZ.2 (RX10, 47, yX1_init) (by decide +kernel)) (hts (.initialized RX1) (by decide +kernel)) (by decide +kernel) ⟨Nat.le_of_ble_eq_true rfl, Nat.le_of_ble_eq_true rfl⟩, rfl, hts (.instanceMethod yX1_init) (by decide +kernel)⟩ (cn_preS hK hZ (cn_last (ws := ((h0, .inr (10, [.int 0, .ref q6, .ref q13, .int 0, .ref q21, .ref (ad32 0), .ref (ad43 0), .ref (ad54 0), .null])) :: (q6, .inl (cy 0, 5, .inl (fun _ => 0))) :: (q13, .inl (cy 0, 5, .inl (fun _ => 0))) :: (q21, .inl (cy 2, 16, .inr (.inr (.inr (.inr (fun _ => none)))))) :: ((mm_L T7_ ad32 cy (fun _ _ => 0) ++ mm_L T3_ ad43 cy (fun _ _ => 0)) ++ mm_L T2_ ad54 cy (gF 8)))) hP)) rfl rfl hl.1 rfl (Nat.le_of_ble_eq_true rfl) dX10_init_65 ⟨Nat.le_of_ble_eq_true rfl, Nat.le_of_ble_eq_true rfl⟩) hP hD hS hA (fun ad65 H9 locs9 ead65 hP9 hD9 hS9 => ?_)
  clear hP hD hS
  subst ead65
  have hP : va_P D vwCl ((h0, .inr (10, [.int 0, .ref q6, .ref q13, .int 0, .ref q21, .ref (ad32 0), .ref (ad43 0), .ref (ad54 0), .null])) :: (q6, .inl (cy 0, 5, .inl (fun _ => 0))) :: (q13, .inl (cy 0, 5, .inl (fun _ => 0))) :: (q21, .inl (cy 2, 16, .inr (.inr (.inr (.inr (fun _ => none)))))) :: (((mm_L T7_ ad32 cy (fun _ _ => 0) ++ mm_L T3_ ad43 cy (fun _ _ => 0)) ++ mm_L T2_ ad54 cy (gF 8)) ++ mm_L T1_ ad65 cy (fun _ _ => 0))) H9 := hP9
  have hD : va_D A ((h0, .inr (10, [.int 0, .ref q6, .ref q13, .int 0, .ref q21, .ref (ad32 0), .ref (ad43 0), .ref (ad54 0), .null])) :: (q6, .inl (cy 0, 5, .inl (fun _ => 0))) :: (q13, .inl (cy 0, 5, .inl (fun _ => 0))) :: (q21, .inl (cy 2, 16, .inr (.inr (.inr (.inr (fun _ => none)))))) :: (((mm_L T7_ ad32 cy (fun _ _ => 0) ++ mm_L T3_ ad43 cy (fun _ _ => 0)) ++ mm_L T2_ ad54 cy (gF 8)) ++ mm_L T1_ ad65 cy (fun _ _ => 0))) := hD9
  have hS := hS9
  clear hP9 hD9 hS9
  generalize H9 = H at hP hS ⊢
  generalize locs9 = locs at hS ⊢
  refine W.widen (k := 24) (n := 264) (Nat.le_of_ble_eq_true rfl) (Nat.le_of_ble_eq_true rfl) ?_
  refine va_putF (D := D) (ci := 10) (v := .ref (ad65 0)) (ty := .object "LeftShoes$Buyers") (C := RX10) (T := TX10) (N := 9) hx hb hts (by decide +kernel) tyX10 tyX10_ok nmX10 hown hK hP hD hS 0 rfl rfl 8 (by decide) (hts (.fieldLink RX10 48 "LeftShoes$World" "buyers" "LLeftShoes$Buyers;") (by decide +kernel)) (fun _ h9 => h9) rfl hin rfl (by decide +kernel) rfl rfl (Nat.le_of_ble_eq_true rfl) dX10_init_68 (fun H locs hP hD hS => ?_)
  have hP : va_P D vwCl ((h0, .inr (10, [.int 0, .ref q6, .ref q13, .int 0, .ref q21, .ref (ad32 0), .ref (ad43 0), .ref (ad54 0), .ref (ad65 0)])) :: (q6, .inl (cy 0, 5, .inl (fun _ => 0))) :: (q13, .inl (cy 0, 5, .inl (fun _ => 0))) :: (q21, .inl (cy 2, 16, .inr (.inr (.inr (.inr (fun _ => none)))))) :: (((mm_L T7_ ad32 cy (fun _ _ => 0) ++ mm_L T3_ ad43 cy (fun _ _ => 0)) ++ mm_L T2_ ad54 cy (gF 8)) ++ mm_L T1_ ad65 cy (fun _ _ => 0))) H := hP
  have hD : va_D A ((h0, .inr (10, [.int 0, .ref q6, .ref q13, .int 0, .ref q21, .ref (ad32 0), .ref (ad43 0), .ref (ad54 0), .ref (ad65 0)])) :: (q6, .inl (cy 0, 5, .inl (fun _ => 0))) :: (q13, .inl (cy 0, 5, .inl (fun _ => 0))) :: (q21, .inl (cy 2, 16, .inr (.inr (.inr (.inr (fun _ => none)))))) :: (((mm_L T7_ ad32 cy (fun _ _ => 0) ++ mm_L T3_ ad43 cy (fun _ _ => 0)) ++ mm_L T2_ ad54 cy (gF 8)) ++ mm_L T1_ ad65 cy (fun _ _ => 0))) := hD
  have eN : (fun _ => none : Nat → Option Nat) = fun j => ([] : List Nat)[j]? := rfl
  have eP : ((h0, .inr (10, [.int 0, .ref q6, .ref q13, .int 0, .ref q21, .ref (ad32 0), .ref (ad43 0), .ref (ad54 0), .ref (ad65 0)])) :: (q6, .inl (cy 0, 5, .inl (fun _ => 0))) :: (q13, .inl (cy 0, 5, .inl (fun _ => 0))) :: (q21, .inl (cy 2, 16, .inr (.inr (.inr (.inr (fun _ => none)))))) :: (((mm_L T7_ ad32 cy (fun _ _ => 0) ++ mm_L T3_ ad43 cy (fun _ _ => 0)) ++ mm_L T2_ ad54 cy (gF 8)) ++ mm_L T1_ ad65 cy (fun _ _ => 0))) = WS cy h0 q6 q13 q21 (ad32 0) (ad43 0) (ad54 0) (ad65 0) (((mm_L T7_ ad32 cy (fun _ _ => 0) ++ mm_L T3_ ad43 cy (fun _ _ => 0)) ++ mm_L T2_ ad54 cy (gF 8)) ++ mm_L T1_ ad65 cy (fun _ _ => 0)) [] := by
    unfold WS
    rw [List.map_nil, List.append_nil]
    rfl
  rw [eP] at hP hD
  refine lv_iconst (v := 0) hx hb dX10_init_71 (by decide) ?_
  refine lv_istore_n (lv' := [(1, .int 0), (0, .ref h0)]) hx hb dX10_init_72 rfl hl (by decide) rfl (fun ls hl => ?_)
  refine l_X10_init hx hb hml hown hts hK hZ hA (fun L H locs ls hL hP hD hS => ?_) 16 0 [] H locs ls rfl rfl (lv_sub hl [1, 0] rfl) hP hD hS
  have hC := a_X10 hL hP hD
  exact W.vret hx hb hr (fun t ht hW => ⟨⟨(), rfl, trivial, by show CP D cy T10_ gW h0 A t.heap; rw [ht]; exact hC⟩, hS.F ht⟩) hS.2.2 dX10_init_98 hlocks
