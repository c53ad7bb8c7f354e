set_option maxHeartbeats 4000000 in
set_option maxRecDepth 100000 in
theorem c_X11_init (l : Launch) (D : va_G) (cy : Nat → ClassId) (h0 sz : Nat) : Met l yX11_init wsX11_init rm_X11_init (va_Pc [.ref h0] (cn_pre D cy h0 sz (.inr (11, [.null, .null, .int 0, .null, .null, .null, .null, .null, .null])))) (cn_Q D cy TC gC h0 sz (.inr (11, [.null, .null, .int 0, .null, .null, .null, .null, .null, .null]))) 150 34001 (va_A [(h0, .inr (11, [.null, .null, .int 0, .null, .null, .null, .null, .null, .null]))] sz) := by
  refine Met.ofW (cc := cX11_init) (maxL := 2) (ret := none) (by decide) rfl ?_
  intro p e s m args below meth c s₁ B hml hv
  obtain ⟨rfl, rfl, hP, hK, hZ⟩ := hv
  have hx := B.exec
  have hb := B.bytes
  have hr := B.returns
  have hts := atoms_spec (ws := wsX11_init) B.pre
  have hown : s.vm.findClass RX11 = some m.cls := findClass_of_methodNamed B.named
  have hlocks := B.notSynchronized
  have hin : meth.name = "<init>" := (name_of_methodNamed B.named B.method).1
  have hD : va_D (va_A [(h0, .inr (11, [.null, .null, .int 0, .null, .null, .null, .null, .null, .null]))] s.heap.size) [(h0, .inr (11, [.null, .null, .int 0, .null, .null, .null, .null, .null, .null]))] := cn_D1
  unfold cn_Q
  generalize hAe : va_A [(h0, .inr (11, [.null, .null, .int 0, .null, .null, .null, .null, .null, .null]))] s.heap.size = A at hD ⊢
  have hA : ∀ q : Nat, s.heap.size ≤ q → A q := fun q h => by rw [← hAe]; exact Or.inr h
  clear hAe
  have hS : va_S A s.heap s.heap [] := va_S.rf
  have hl := lv_entry ([.ref h0]) (n := 2) (Nat.le_of_ble_eq_true rfl)
  rw [lg_entry_eq]
  generalize (lg_sl ([.ref h0]) ++ List.replicate (2 - (lg_sl ([.ref h0])).length) Slot.unset).toArray = ls at hl ⊢
  have hl : lv_has ls 2 [(0, .ref h0)] := hl
  have hP : va_P D vwCl [(h0, .inr (11, [.null, .null, .int 0, .null, .null, .null, .null, .null, .null]))] s.heap := hP
  refine lv_aload_n hx hb dX11_init_0 rfl (lv_at hl 0 rfl) ?_
  refine W.objInit hx hb hown (hts (.methodLink RX11 1 objectInit) (by decide +kernel)) (hts (.instanceMethod objectInit) (by decide +kernel)) (hts (.code objectInit ⟨#[0xb1]⟩ 1 none) (by decide +kernel)) rfl (by rw [hml]; exact hl.1) rfl dX11_init_1 (Nat.le_of_ble_eq_true rfl) (Nat.le_of_ble_eq_true rfl) ?_
  refine W.eq (g2 := F0 m 4 ls []) rfl ?_
  refine lv_aload_n hx hb dX11_init_4 rfl (lv_at hl 0 rfl) ?_
  refine va_new (ci := 10) (fs := [.int 0, .null, .null, .int 0, .null, .null, .null, .null, .null]) (C := RX10) (T := TX10) (N := 9) hx hb hts (by decide +kernel) tyX10 tyX10_ok hown (hts (.classLink RX11 7 RX10) (by decide +kernel)) (hts (.instantiable RX10 9) (by decide +kernel)) (hts (.initialized RX10) (by decide +kernel)) hK hP hD hS hA rfl (fun j hj => by rcases (show j = 0 ∨ j = 1 ∨ j = 2 ∨ j = 3 ∨ j = 4 ∨ j = 5 ∨ j = 6 ∨ j = 7 ∨ j = 8 by omega) with rfl | rfl | rfl | rfl | rfl | rfl | rfl | rfl | rfl <;> rfl) (Nat.le_of_ble_eq_true rfl) (Nat.le_of_ble_eq_true rfl) dX11_init_5 (fun q5 H hP hD hS => ?_)
  refine W.widen (k := 1) (n := 9) (Nat.le_of_ble_eq_true rfl) (Nat.le_of_ble_eq_true rfl) ?_
  refine lv_dup hx hb dX11_init_8 rfl ?_
  refine cn_after (ws := [(h0, .inr (11, [.null, .null, .int 0, .null, .null, .null, .null, .null, .null]))]) (e0 := (.inr (10, [.int 0, .null, .null, .int 0, .null, .null, .null, .null, .null]))) (va_runI (As := []) (rest := [.ref q5, .ref h0]) ⟨hx, hb, hml, hown, hts⟩ (c_X10_init l D cy q5 H.size) (cwI 0 hts gX11_init_X10_init rfl rfl rfl (hts (.initialized RX10) (by decide +kernel)) (hts (.methodLink RX11 9 yX10_init) (by decide +kernel)) (hts (.instanceMethod yX10_init) (by decide +kernel)) rfl (by decide +kernel) ⟨Nat.le_of_ble_eq_true rfl, Nat.le_of_ble_eq_true rfl⟩) (cn_preS hK hZ (cn_last (ws := [(h0, .inr (11, [.null, .null, .int 0, .null, .null, .null, .null, .null, .null]))]) hP)) rfl rfl hl.1 rfl (Nat.le_of_ble_eq_true rfl) dX11_init_9 ⟨Nat.le_of_ble_eq_true rfl, Nat.le_of_ble_eq_true rfl⟩) hP hD hS hA (fun ad9 H9 locs9 ead9 hP9 hD9 hS9 => ?_)
  clear hP hD hS
  subst ead9
  have hP : va_P D vwCl ((h0, .inr (11, [.null, .null, .int 0, .null, .null, .null, .null, .null, .null])) :: mm_L T10_ ad9 cy gW) H9 := hP9
  have hD : va_D A ((h0, .inr (11, [.null, .null, .int 0, .null, .null, .null, .null, .null, .null])) :: mm_L T10_ ad9 cy gW) := hD9
  have hS := hS9
  clear hP9 hD9 hS9
  generalize H9 = H at hP hS ⊢
  generalize locs9 = locs at hS ⊢
  refine W.widen (k := 41) (n := 353) (Nat.le_of_ble_eq_true rfl) (Nat.le_of_ble_eq_true rfl) ?_
  refine va_putF (D := D) (ci := 11) (v := .ref (ad9 0)) (ty := .object "LeftShoes$World") (C := RX11) (T := TX11) (N := 9) hx hb hts (by decide +kernel) tyX11 tyX11_ok nmX11 hown hK hP hD hS 0 rfl rfl 0 (by decide) (hts (.fieldLink RX11 10 "LeftShoes" "now" "LLeftShoes$World;") (by decide +kernel)) (fun _ h9 => h9) rfl hin rfl (by decide +kernel) rfl rfl (Nat.le_of_ble_eq_true rfl) dX11_init_12 (fun H locs hP hD hS => ?_)
  have hP : va_P D vwCl ((h0, .inr (11, [.ref (ad9 0), .null, .int 0, .null, .null, .null, .null, .null, .null])) :: mm_L T10_ ad9 cy gW) H := hP
  have hD : va_D A ((h0, .inr (11, [.ref (ad9 0), .null, .int 0, .null, .null, .null, .null, .null, .null])) :: mm_L T10_ ad9 cy gW) := hD
  refine lv_aload_n hx hb dX11_init_15 rfl (lv_at hl 0 rfl) ?_
  refine va_new (ci := 10) (fs := [.int 0, .null, .null, .int 0, .null, .null, .null, .null, .null]) (C := RX10) (T := TX10) (N := 9) hx hb hts (by decide +kernel) tyX10 tyX10_ok hown (hts (.classLink RX11 7 RX10) (by decide +kernel)) (hts (.instantiable RX10 9) (by decide +kernel)) (hts (.initialized RX10) (by decide +kernel)) hK hP hD hS hA rfl (fun j hj => by rcases (show j = 0 ∨ j = 1 ∨ j = 2 ∨ j = 3 ∨ j = 4 ∨ j = 5 ∨ j = 6 ∨ j = 7 ∨ j = 8 by omega) with rfl | rfl | rfl | rfl | rfl | rfl | rfl | rfl | rfl <;> rfl) (Nat.le_of_ble_eq_true rfl) (Nat.le_of_ble_eq_true rfl) dX11_init_16 (fun q16 H hP hD hS => ?_)
  refine W.widen (k := 42) (n := 362) (Nat.le_of_ble_eq_true rfl) (Nat.le_of_ble_eq_true rfl) ?_
  refine lv_dup hx hb dX11_init_19 rfl ?_
  refine cn_after (ws := ((h0, .inr (11, [.ref (ad9 0), .null, .int 0, .null, .null, .null, .null, .null, .null])) :: mm_L T10_ ad9 cy gW)) (e0 := (.inr (10, [.int 0, .null, .null, .int 0, .null, .null, .null, .null, .null]))) (va_runI (As := []) (rest := [.ref q16, .ref h0]) ⟨hx, hb, hml, hown, hts⟩ (c_X10_init l D cy q16 H.size) (cwI 0 hts gX11_init_X10_init rfl rfl rfl (hts (.initialized RX10) (by decide +kernel)) (hts (.methodLink RX11 9 yX10_init) (by decide +kernel)) (hts (.instanceMethod yX10_init) (by decide +kernel)) rfl (by decide +kernel) ⟨Nat.le_of_ble_eq_true rfl, Nat.le_of_ble_eq_true rfl⟩) (cn_preS hK hZ (cn_last (ws := ((h0, .inr (11, [.ref (ad9 0), .null, .int 0, .null, .null, .null, .null, .null, .null])) :: mm_L T10_ ad9 cy gW)) hP)) rfl rfl hl.1 rfl (Nat.le_of_ble_eq_true rfl) dX11_init_20 ⟨Nat.le_of_ble_eq_true rfl, Nat.le_of_ble_eq_true rfl⟩) hP hD hS hA (fun ad20 H9 locs9 ead20 hP9 hD9 hS9 => ?_)
  clear hP hD hS
  subst ead20
  have hP : va_P D vwCl ((h0, .inr (11, [.ref (ad9 0), .null, .int 0, .null, .null, .null, .null, .null, .null])) :: (mm_L T10_ ad9 cy gW ++ mm_L T10_ ad20 cy gW)) H9 := hP9
  have hD : va_D A ((h0, .inr (11, [.ref (ad9 0), .null, .int 0, .null, .null, .null, .null, .null, .null])) :: (mm_L T10_ ad9 cy gW ++ mm_L T10_ ad20 cy gW)) := hD9
  have hS := hS9
  clear hP9 hD9 hS9
  generalize H9 = H at hP hS ⊢
  generalize locs9 = locs at hS ⊢
  refine W.widen (k := 82) (n := 706) (Nat.le_of_ble_eq_true rfl) (Nat.le_of_ble_eq_true rfl) ?_
  refine va_putF (D := D) (ci := 11) (v := .ref (ad20 0)) (ty := .object "LeftShoes$World") (C := RX11) (T := TX11) (N := 9) hx hb hts (by decide +kernel) tyX11 tyX11_ok nmX11 hown hK hP hD hS 0 rfl rfl 1 (by decide) (hts (.fieldLink RX11 16 "LeftShoes" "kept" "LLeftShoes$World;") (by decide +kernel)) (fun _ h9 => h9) rfl hin rfl (by decide +kernel) rfl rfl (Nat.le_of_ble_eq_true rfl) dX11_init_23 (fun H locs hP hD hS => ?_)
  have hP : va_P D vwCl ((h0, .inr (11, [.ref (ad9 0), .ref (ad20 0), .int 0, .null, .null, .null, .null, .null, .null])) :: (mm_L T10_ ad9 cy gW ++ mm_L T10_ ad20 cy gW)) H := hP
  have hD : va_D A ((h0, .inr (11, [.ref (ad9 0), .ref (ad20 0), .int 0, .null, .null, .null, .null, .null, .null])) :: (mm_L T10_ ad9 cy gW ++ mm_L T10_ ad20 cy gW)) := hD
  refine lv_aload_n hx hb dX11_init_26 rfl (lv_at hl 0 rfl) ?_
  refine va_new (ci := 6) (fs := [.null, .int 0, .int 0]) (C := RX6) (T := TX6) (N := 3) hx hb hts (by decide +kernel) tyX6 tyX6_ok hown (hts (.classLink RX11 19 RX6) (by decide +kernel)) (hts (.instantiable RX6 3) (by decide +kernel)) (hts (.initialized RX6) (by decide +kernel)) hK hP hD hS hA rfl (fun j hj => by rcases (show j = 0 ∨ j = 1 ∨ j = 2 by omega) with rfl | rfl | rfl <;> rfl) (Nat.le_of_ble_eq_true rfl) (Nat.le_of_ble_eq_true rfl) dX11_init_27 (fun q27 H hP hD hS => ?_)
  refine W.widen (k := 83) (n := 709) (Nat.le_of_ble_eq_true rfl) (Nat.le_of_ble_eq_true rfl) ?_
  refine lv_dup hx hb dX11_init_30 rfl ?_
  refine cn_after (ws := ((h0, .inr (11, [.ref (ad9 0), .ref (ad20 0), .int 0, .null, .null, .null, .null, .null, .null])) :: (mm_L T10_ ad9 cy gW ++ mm_L T10_ ad20 cy gW))) (e0 := (.inr (6, [.null, .int 0, .int 0]))) (va_runIN (As := []) (rest := [.ref q27, .ref h0]) ⟨hx, hb, hml, hown, hts⟩ (c_X6_init l D cy q27 H.size) ⟨va_cnB 0 hts gX11_init_X6_init_n21 rfl rfl rfl (hZ.2 (RX11, 21, yX6_init) (by decide +kernel)) (hts (.initialized RX6) (by decide +kernel)) (by decide +kernel) ⟨Nat.le_of_ble_eq_true rfl, Nat.le_of_ble_eq_true rfl⟩, rfl, hts (.instanceMethod yX6_init) (by decide +kernel)⟩ (cn_preS hK hZ (cn_last (ws := ((h0, .inr (11, [.ref (ad9 0), .ref (ad20 0), .int 0, .null, .null, .null, .null, .null, .null])) :: (mm_L T10_ ad9 cy gW ++ mm_L T10_ ad20 cy gW))) hP)) rfl rfl hl.1 rfl (Nat.le_of_ble_eq_true rfl) dX11_init_31 ⟨Nat.le_of_ble_eq_true rfl, Nat.le_of_ble_eq_true rfl⟩) hP hD hS hA (fun ad31 H9 locs9 ead31 hP9 hD9 hS9 => ?_)
  clear hP hD hS
  subst ead31
  have hP : va_P D vwCl ((h0, .inr (11, [.ref (ad9 0), .ref (ad20 0), .int 0, .null, .null, .null, .null, .null, .null])) :: ((mm_L T10_ ad9 cy gW ++ mm_L T10_ ad20 cy gW) ++ mm_L T6_ ad31 cy (fun _ _ => 0))) H9 := hP9
  have hD : va_D A ((h0, .inr (11, [.ref (ad9 0), .ref (ad20 0), .int 0, .null, .null, .null, .null, .null, .null])) :: ((mm_L T10_ ad9 cy gW ++ mm_L T10_ ad20 cy gW) ++ mm_L T6_ ad31 cy (fun _ _ => 0))) := hD9
  have hS := hS9
  clear hP9 hD9 hS9
  generalize H9 = H at hP hS ⊢
  generalize locs9 = locs at hS ⊢
  refine W.widen (k := 84) (n := 769) (Nat.le_of_ble_eq_true rfl) (Nat.le_of_ble_eq_true rfl) ?_
  refine va_putF (D := D) (ci := 11) (v := .ref (ad31 0)) (ty := .object "LeftShoes$Tape") (C := RX11) (T := TX11) (N := 9) hx hb hts (by decide +kernel) tyX11 tyX11_ok nmX11 hown hK hP hD hS 0 rfl rfl 3 (by decide) (hts (.fieldLink RX11 22 "LeftShoes" "tape" "LLeftShoes$Tape;") (by decide +kernel)) (fun _ h9 => h9) rfl hin rfl (by decide +kernel) rfl rfl (Nat.le_of_ble_eq_true rfl) dX11_init_34 (fun H locs hP hD hS => ?_)
  have hP : va_P D vwCl ((h0, .inr (11, [.ref (ad9 0), .ref (ad20 0), .int 0, .ref (ad31 0), .null, .null, .null, .null, .null])) :: ((mm_L T10_ ad9 cy gW ++ mm_L T10_ ad20 cy gW) ++ mm_L T6_ ad31 cy (fun _ _ => 0))) H := hP
  have hD : va_D A ((h0, .inr (11, [.ref (ad9 0), .ref (ad20 0), .int 0, .ref (ad31 0), .null, .null, .null, .null, .null])) :: ((mm_L T10_ ad9 cy gW ++ mm_L T10_ ad20 cy gW) ++ mm_L T6_ ad31 cy (fun _ _ => 0))) := hD
  refine lv_aload_n hx hb dX11_init_37 rfl (lv_at hl 0 rfl) ?_
  refine va_new (ci := 7) (fs := [.null, .int 0, .int 0]) (C := RX7) (T := TX7) (N := 3) hx hb hts (by decide +kernel) tyX7 tyX7_ok hown (hts (.classLink RX11 26 RX7) (by decide +kernel)) (hts (.instantiable RX7 3) (by decide +kernel)) (hts (.initialized RX7) (by decide +kernel)) hK hP hD hS hA rfl (fun j hj => by rcases (show j = 0 ∨ j = 1 ∨ j = 2 by omega) with rfl | rfl | rfl <;> rfl) (Nat.le_of_ble_eq_true rfl) (Nat.le_of_ble_eq_true rfl) dX11_init_38 (fun q38 H hP hD hS => ?_)
  refine W.widen (k := 85) (n := 772) (Nat.le_of_ble_eq_true rfl) (Nat.le_of_ble_eq_true rfl) ?_
  refine lv_dup hx hb dX11_init_41 rfl ?_
  refine cn_after (ws := ((h0, .inr (11, [.ref (ad9 0), .ref (ad20 0), .int 0, .ref (ad31 0), .null, .null, .null, .null, .null])) :: ((mm_L T10_ ad9 cy gW ++ mm_L T10_ ad20 cy gW) ++ mm_L T6_ ad31 cy (fun _ _ => 0)))) (e0 := (.inr (7, [.null, .int 0, .int 0]))) (va_runIN (As := []) (rest := [.ref q38, .ref h0]) ⟨hx, hb, hml, hown, hts⟩ (c_X7_init l D cy q38 H.size) ⟨va_cnB 0 hts gX11_init_X7_init_n28 rfl rfl rfl (hZ.2 (RX11, 28, yX7_init) (by decide +kernel)) (hts (.initialized RX7) (by decide +kernel)) (by decide +kernel) ⟨Nat.le_of_ble_eq_true rfl, Nat.le_of_ble_eq_true rfl⟩, rfl, hts (.instanceMethod yX7_init) (by decide +kernel)⟩ (cn_preS hK hZ (cn_last (ws := ((h0, .inr (11, [.ref (ad9 0), .ref (ad20 0), .int 0, .ref (ad31 0), .null, .null, .null, .null, .null])) :: ((mm_L T10_ ad9 cy gW ++ mm_L T10_ ad20 cy gW) ++ mm_L T6_ ad31 cy (fun _ _ => 0)))) hP)) rfl rfl hl.1 rfl (Nat.le_of_ble_eq_true rfl) dX11_init_42 ⟨Nat.le_of_ble_eq_true rfl, Nat.le_of_ble_eq_true rfl⟩) hP hD hS hA (fun ad42 H9 locs9 ead42 hP9 hD9 hS9 => ?_)
  clear hP hD hS
  subst ead42
  have hP : va_P D vwCl ((h0, .inr (11, [.ref (ad9 0), .ref (ad20 0), .int 0, .ref (ad31 0), .null, .null, .null, .null, .null])) :: (((mm_L T10_ ad9 cy gW ++ mm_L T10_ ad20 cy gW) ++ mm_L T6_ ad31 cy (fun _ _ => 0)) ++ mm_L T7_ ad42 cy (fun _ _ => 0))) H9 := hP9
  have hD : va_D A ((h0, .inr (11, [.ref (ad9 0), .ref (ad20 0), .int 0, .ref (ad31 0), .null, .null, .null, .null, .null])) :: (((mm_L T10_ ad9 cy gW ++ mm_L T10_ ad20 cy gW) ++ mm_L T6_ ad31 cy (fun _ _ => 0)) ++ mm_L T7_ ad42 cy (fun _ _ => 0))) := hD9
  have hS := hS9
  clear hP9 hD9 hS9
  generalize H9 = H at hP hS ⊢
  generalize locs9 = locs at hS ⊢
  refine W.widen (k := 86) (n := 776) (Nat.le_of_ble_eq_true rfl) (Nat.le_of_ble_eq_true rfl) ?_
  refine va_putF (D := D) (ci := 11) (v := .ref (ad42 0)) (ty := .object "LeftShoes$Tax") (C := RX11) (T := TX11) (N := 9) hx hb hts (by decide +kernel) tyX11 tyX11_ok nmX11 hown hK hP hD hS 0 rfl rfl 4 (by decide) (hts (.fieldLink RX11 29 "LeftShoes" "taxDraft" "LLeftShoes$Tax;") (by decide +kernel)) (fun _ h9 => h9) rfl hin rfl (by decide +kernel) rfl rfl (Nat.le_of_ble_eq_true rfl) dX11_init_45 (fun H locs hP hD hS => ?_)
  have hP : va_P D vwCl ((h0, .inr (11, [.ref (ad9 0), .ref (ad20 0), .int 0, .ref (ad31 0), .ref (ad42 0), .null, .null, .null, .null])) :: (((mm_L T10_ ad9 cy gW ++ mm_L T10_ ad20 cy gW) ++ mm_L T6_ ad31 cy (fun _ _ => 0)) ++ mm_L T7_ ad42 cy (fun _ _ => 0))) H := hP
  have hD : va_D A ((h0, .inr (11, [.ref (ad9 0), .ref (ad20 0), .int 0, .ref (ad31 0), .ref (ad42 0), .null, .null, .null, .null])) :: (((mm_L T10_ ad9 cy gW ++ mm_L T10_ ad20 cy gW) ++ mm_L T6_ ad31 cy (fun _ _ => 0)) ++ mm_L T7_ ad42 cy (fun _ _ => 0))) := hD
  refine lv_aload_n hx hb dX11_init_48 rfl (lv_at hl 0 rfl) ?_
  refine va_new (ci := 3) (fs := [.null, .null]) (C := RX3) (T := TX3) (N := 2) hx hb hts (by decide +kernel) tyX3 tyX3_ok hown (hts (.classLink RX11 33 RX3) (by decide +kernel)) (hts (.instantiable RX3 2) (by decide +kernel)) (hts (.initialized RX3) (by decide +kernel)) hK hP hD hS hA rfl (fun j hj => by rcases (show j = 0 ∨ j = 1 by omega) with rfl | rfl <;> rfl) (Nat.le_of_ble_eq_true rfl) (Nat.le_of_ble_eq_true rfl) dX11_init_49 (fun q49 H hP hD hS => ?_)
  refine W.widen (k := 87) (n := 778) (Nat.le_of_ble_eq_true rfl) (Nat.le_of_ble_eq_true rfl) ?_
  refine lv_dup hx hb dX11_init_52 rfl ?_
  refine cn_after (ws := ((h0, .inr (11, [.ref (ad9 0), .ref (ad20 0), .int 0, .ref (ad31 0), .ref (ad42 0), .null, .null, .null, .null])) :: (((mm_L T10_ ad9 cy gW ++ mm_L T10_ ad20 cy gW) ++ mm_L T6_ ad31 cy (fun _ _ => 0)) ++ mm_L T7_ ad42 cy (fun _ _ => 0)))) (e0 := (.inr (3, [.null, .null]))) (va_runIN (As := []) (rest := [.ref q49, .ref h0]) ⟨hx, hb, hml, hown, hts⟩ (c_X3_init l D cy q49 H.size) ⟨va_cnB 0 hts gX11_init_X3_init_n35 rfl rfl rfl (hZ.2 (RX11, 35, yX3_init) (by decide +kernel)) (hts (.initialized RX3) (by decide +kernel)) (by decide +kernel) ⟨Nat.le_of_ble_eq_true rfl, Nat.le_of_ble_eq_true rfl⟩, rfl, hts (.instanceMethod yX3_init) (by decide +kernel)⟩ (cn_preS hK hZ (cn_last (ws := ((h0, .inr (11, [.ref (ad9 0), .ref (ad20 0), .int 0, .ref (ad31 0), .ref (ad42 0), .null, .null, .null, .null])) :: (((mm_L T10_ ad9 cy gW ++ mm_L T10_ ad20 cy gW) ++ mm_L T6_ ad31 cy (fun _ _ => 0)) ++ mm_L T7_ ad42 cy (fun _ _ => 0)))) hP)) rfl rfl hl.1 rfl (Nat.le_of_ble_eq_true rfl) dX11_init_53 ⟨Nat.le_of_ble_eq_true rfl, Nat.le_of_ble_eq_true rfl⟩) hP hD hS hA (fun ad53 H9 locs9 ead53 hP9 hD9 hS9 => ?_)
  clear hP hD hS
  subst ead53
  have hP : va_P D vwCl ((h0, .inr (11, [.ref (ad9 0), .ref (ad20 0), .int 0, .ref (ad31 0), .ref (ad42 0), .null, .null, .null, .null])) :: ((((mm_L T10_ ad9 cy gW ++ mm_L T10_ ad20 cy gW) ++ mm_L T6_ ad31 cy (fun _ _ => 0)) ++ mm_L T7_ ad42 cy (fun _ _ => 0)) ++ mm_L T3_ ad53 cy (fun _ _ => 0))) H9 := hP9
  have hD : va_D A ((h0, .inr (11, [.ref (ad9 0), .ref (ad20 0), .int 0, .ref (ad31 0), .ref (ad42 0), .null, .null, .null, .null])) :: ((((mm_L T10_ ad9 cy gW ++ mm_L T10_ ad20 cy gW) ++ mm_L T6_ ad31 cy (fun _ _ => 0)) ++ mm_L T7_ ad42 cy (fun _ _ => 0)) ++ mm_L T3_ ad53 cy (fun _ _ => 0))) := hD9
  have hS := hS9
  clear hP9 hD9 hS9
  generalize H9 = H at hP hS ⊢
  generalize locs9 = locs at hS ⊢
  refine W.widen (k := 89) (n := 796) (Nat.le_of_ble_eq_true rfl) (Nat.le_of_ble_eq_true rfl) ?_
  refine va_putF (D := D) (ci := 11) (v := .ref (ad53 0)) (ty := .object "LeftShoes$Road") (C := RX11) (T := TX11) (N := 9) hx hb hts (by decide +kernel) tyX11 tyX11_ok nmX11 hown hK hP hD hS 0 rfl rfl 5 (by decide) (hts (.fieldLink RX11 36 "LeftShoes" "roadDraft" "LLeftShoes$Road;") (by decide +kernel)) (fun _ h9 => h9) rfl hin rfl (by decide +kernel) rfl rfl (Nat.le_of_ble_eq_true rfl) dX11_init_56 (fun H locs hP hD hS => ?_)
  have hP : va_P D vwCl ((h0, .inr (11, [.ref (ad9 0), .ref (ad20 0), .int 0, .ref (ad31 0), .ref (ad42 0), .ref (ad53 0), .null, .null, .null])) :: ((((mm_L T10_ ad9 cy gW ++ mm_L T10_ ad20 cy gW) ++ mm_L T6_ ad31 cy (fun _ _ => 0)) ++ mm_L T7_ ad42 cy (fun _ _ => 0)) ++ mm_L T3_ ad53 cy (fun _ _ => 0))) H := hP
  have hD : va_D A ((h0, .inr (11, [.ref (ad9 0), .ref (ad20 0), .int 0, .ref (ad31 0), .ref (ad42 0), .ref (ad53 0), .null, .null, .null])) :: ((((mm_L T10_ ad9 cy gW ++ mm_L T10_ ad20 cy gW) ++ mm_L T6_ ad31 cy (fun _ _ => 0)) ++ mm_L T7_ ad42 cy (fun _ _ => 0)) ++ mm_L T3_ ad53 cy (fun _ _ => 0))) := hD
  refine lv_aload_n hx hb dX11_init_59 rfl (lv_at hl 0 rfl) ?_
  refine va_new (ci := 9) (fs := [.null, .int 0, .int 0, .null, .null, .null, .null, .null, .null, .null, .null, .null, .null, .null, .null, .int 0, .null, .int 0, .int 0]) (C := RX9) (T := TX9) (N := 19) hx hb hts (by decide +kernel) tyX9 tyX9_ok hown (hts (.classLink RX11 40 RX9) (by decide +kernel)) (hts (.instantiable RX9 19) (by decide +kernel)) (hts (.initialized RX9) (by decide +kernel)) hK hP hD hS hA rfl (fun j hj => by rcases (show j = 0 ∨ j = 1 ∨ j = 2 ∨ j = 3 ∨ j = 4 ∨ j = 5 ∨ j = 6 ∨ j = 7 ∨ j = 8 ∨ j = 9 ∨ j = 10 ∨ j = 11 ∨ j = 12 ∨ j = 13 ∨ j = 14 ∨ j = 15 ∨ j = 16 ∨ j = 17 ∨ j = 18 by omega) with rfl | rfl | rfl | rfl | rfl | rfl | rfl | rfl | rfl | rfl | rfl | rfl | rfl | rfl | rfl | rfl | rfl | rfl | rfl <;> rfl) (Nat.le_of_ble_eq_true rfl) (Nat.le_of_ble_eq_true rfl) dX11_init_60 (fun q60 H hP hD hS => ?_)
  refine W.widen (k := 90) (n := 815) (Nat.le_of_ble_eq_true rfl) (Nat.le_of_ble_eq_true rfl) ?_
  refine lv_dup hx hb dX11_init_63 rfl ?_
  refine cn_after (ws := ((h0, .inr (11, [.ref (ad9 0), .ref (ad20 0), .int 0, .ref (ad31 0), .ref (ad42 0), .ref (ad53 0), .null, .null, .null])) :: ((((mm_L T10_ ad9 cy gW ++ mm_L T10_ ad20 cy gW) ++ mm_L T6_ ad31 cy (fun _ _ => 0)) ++ mm_L T7_ ad42 cy (fun _ _ => 0)) ++ mm_L T3_ ad53 cy (fun _ _ => 0)))) (e0 := (.inr (9, [.null, .int 0, .int 0, .null, .null, .null, .null, .null, .null, .null, .null, .null, .null, .null, .null, .int 0, .null, .int 0, .int 0]))) (va_runIN (As := []) (rest := [.ref q60, .ref h0]) ⟨hx, hb, hml, hown, hts⟩ (c_X9_init l D cy q60 H.size) ⟨va_cnB 0 hts gX11_init_X9_init_n42 rfl rfl rfl (hZ.2 (RX11, 42, yX9_init) (by decide +kernel)) (hts (.initialized RX9) (by decide +kernel)) (by decide +kernel) ⟨Nat.le_of_ble_eq_true rfl, Nat.le_of_ble_eq_true rfl⟩, rfl, hts (.instanceMethod yX9_init) (by decide +kernel)⟩ (cn_preS hK hZ (cn_last (ws := ((h0, .inr (11, [.ref (ad9 0), .ref (ad20 0), .int 0, .ref (ad31 0), .ref (ad42 0), .ref (ad53 0), .null, .null, .null])) :: ((((mm_L T10_ ad9 cy gW ++ mm_L T10_ ad20 cy gW) ++ mm_L T6_ ad31 cy (fun _ _ => 0)) ++ mm_L T7_ ad42 cy (fun _ _ => 0)) ++ mm_L T3_ ad53 cy (fun _ _ => 0)))) hP)) rfl rfl hl.1 rfl (Nat.le_of_ble_eq_true rfl) dX11_init_64 ⟨Nat.le_of_ble_eq_true rfl, Nat.le_of_ble_eq_true rfl⟩) hP hD hS hA (fun ad64 H9 locs9 ead64 hP9 hD9 hS9 => ?_)
  clear hP hD hS
  subst ead64
  have hP : va_P D vwCl ((h0, .inr (11, [.ref (ad9 0), .ref (ad20 0), .int 0, .ref (ad31 0), .ref (ad42 0), .ref (ad53 0), .null, .null, .null])) :: (((((mm_L T10_ ad9 cy gW ++ mm_L T10_ ad20 cy gW) ++ mm_L T6_ ad31 cy (fun _ _ => 0)) ++ mm_L T7_ ad42 cy (fun _ _ => 0)) ++ mm_L T3_ ad53 cy (fun _ _ => 0)) ++ mm_L T9_ ad64 cy (fun _ _ => 0))) H9 := hP9
  have hD : va_D A ((h0, .inr (11, [.ref (ad9 0), .ref (ad20 0), .int 0, .ref (ad31 0), .ref (ad42 0), .ref (ad53 0), .null, .null, .null])) :: (((((mm_L T10_ ad9 cy gW ++ mm_L T10_ ad20 cy gW) ++ mm_L T6_ ad31 cy (fun _ _ => 0)) ++ mm_L T7_ ad42 cy (fun _ _ => 0)) ++ mm_L T3_ ad53 cy (fun _ _ => 0)) ++ mm_L T9_ ad64 cy (fun _ _ => 0))) := hD9
  have hS := hS9
  clear hP9 hD9 hS9
  generalize H9 = H at hP hS ⊢
  generalize locs9 = locs at hS ⊢
  refine W.widen (k := 139) (n := 33875) (Nat.le_of_ble_eq_true rfl) (Nat.le_of_ble_eq_true rfl) ?_
  refine va_putF (D := D) (ci := 11) (v := .ref (ad64 0)) (ty := .object "LeftShoes$Walk") (C := RX11) (T := TX11) (N := 9) hx hb hts (by decide +kernel) tyX11 tyX11_ok nmX11 hown hK hP hD hS 0 rfl rfl 6 (by decide) (hts (.fieldLink RX11 43 "LeftShoes" "walk" "LLeftShoes$Walk;") (by decide +kernel)) (fun _ h9 => h9) rfl hin rfl (by decide +kernel) rfl rfl (Nat.le_of_ble_eq_true rfl) dX11_init_67 (fun H locs hP hD hS => ?_)
  have hP : va_P D vwCl ((h0, .inr (11, [.ref (ad9 0), .ref (ad20 0), .int 0, .ref (ad31 0), .ref (ad42 0), .ref (ad53 0), .ref (ad64 0), .null, .null])) :: (((((mm_L T10_ ad9 cy gW ++ mm_L T10_ ad20 cy gW) ++ mm_L T6_ ad31 cy (fun _ _ => 0)) ++ mm_L T7_ ad42 cy (fun _ _ => 0)) ++ mm_L T3_ ad53 cy (fun _ _ => 0)) ++ mm_L T9_ ad64 cy (fun _ _ => 0))) H := hP
  have hD : va_D A ((h0, .inr (11, [.ref (ad9 0), .ref (ad20 0), .int 0, .ref (ad31 0), .ref (ad42 0), .ref (ad53 0), .ref (ad64 0), .null, .null])) :: (((((mm_L T10_ ad9 cy gW ++ mm_L T10_ ad20 cy gW) ++ mm_L T6_ ad31 cy (fun _ _ => 0)) ++ mm_L T7_ ad42 cy (fun _ _ => 0)) ++ mm_L T3_ ad53 cy (fun _ _ => 0)) ++ mm_L T9_ ad64 cy (fun _ _ => 0))) := hD
  refine lv_aload_n hx hb dX11_init_70 rfl (lv_at hl 0 rfl) ?_
  refine va_new (ci := 8) (fs := [.null, .int 0]) (C := RX8) (T := TX8) (N := 2) hx hb hts (by decide +kernel) tyX8 tyX8_ok hown (hts (.classLink RX11 47 RX8) (by decide +kernel)) (hts (.instantiable RX8 2) (by decide +kernel)) (hts (.initialized RX8) (by decide +kernel)) hK hP hD hS hA rfl (fun j hj => by rcases (show j = 0 ∨ j = 1 by omega) with rfl | rfl <;> rfl) (Nat.le_of_ble_eq_true rfl) (Nat.le_of_ble_eq_true rfl) dX11_init_71 (fun q71 H hP hD hS => ?_)
  refine W.widen (k := 140) (n := 33877) (Nat.le_of_ble_eq_true rfl) (Nat.le_of_ble_eq_true rfl) ?_
  refine lv_dup hx hb dX11_init_74 rfl ?_
  refine cn_after (ws := ((h0, .inr (11, [.ref (ad9 0), .ref (ad20 0), .int 0, .ref (ad31 0), .ref (ad42 0), .ref (ad53 0), .ref (ad64 0), .null, .null])) :: (((((mm_L T10_ ad9 cy gW ++ mm_L T10_ ad20 cy gW) ++ mm_L T6_ ad31 cy (fun _ _ => 0)) ++ mm_L T7_ ad42 cy (fun _ _ => 0)) ++ mm_L T3_ ad53 cy (fun _ _ => 0)) ++ mm_L T9_ ad64 cy (fun _ _ => 0)))) (e0 := (.inr (8, [.null, .int 0]))) (va_runIN (As := []) (rest := [.ref q71, .ref h0]) ⟨hx, hb, hml, hown, hts⟩ (c_X8_init l D cy q71 H.size) ⟨va_cnB 0 hts gX11_init_X8_init_n49 rfl rfl rfl (hZ.2 (RX11, 49, yX8_init) (by decide +kernel)) (hts (.initialized RX8) (by decide +kernel)) (by decide +kernel) ⟨Nat.le_of_ble_eq_true rfl, Nat.le_of_ble_eq_true rfl⟩, rfl, hts (.instanceMethod yX8_init) (by decide +kernel)⟩ (cn_preS hK hZ (cn_last (ws := ((h0, .inr (11, [.ref (ad9 0), .ref (ad20 0), .int 0, .ref (ad31 0), .ref (ad42 0), .ref (ad53 0), .ref (ad64 0), .null, .null])) :: (((((mm_L T10_ ad9 cy gW ++ mm_L T10_ ad20 cy gW) ++ mm_L T6_ ad31 cy (fun _ _ => 0)) ++ mm_L T7_ ad42 cy (fun _ _ => 0)) ++ mm_L T3_ ad53 cy (fun _ _ => 0)) ++ mm_L T9_ ad64 cy (fun _ _ => 0)))) hP)) rfl rfl hl.1 rfl (Nat.le_of_ble_eq_true rfl) dX11_init_75 ⟨Nat.le_of_ble_eq_true rfl, Nat.le_of_ble_eq_true rfl⟩) hP hD hS hA (fun ad75 H9 locs9 ead75 hP9 hD9 hS9 => ?_)
  clear hP hD hS
  subst ead75
  have hP : va_P D vwCl ((h0, .inr (11, [.ref (ad9 0), .ref (ad20 0), .int 0, .ref (ad31 0), .ref (ad42 0), .ref (ad53 0), .ref (ad64 0), .null, .null])) :: ((((((mm_L T10_ ad9 cy gW ++ mm_L T10_ ad20 cy gW) ++ mm_L T6_ ad31 cy (fun _ _ => 0)) ++ mm_L T7_ ad42 cy (fun _ _ => 0)) ++ mm_L T3_ ad53 cy (fun _ _ => 0)) ++ mm_L T9_ ad64 cy (fun _ _ => 0)) ++ mm_L T8_ ad75 cy (fun _ _ => 0))) H9 := hP9
  have hD : va_D A ((h0, .inr (11, [.ref (ad9 0), .ref (ad20 0), .int 0, .ref (ad31 0), .ref (ad42 0), .ref (ad53 0), .ref (ad64 0), .null, .null])) :: ((((((mm_L T10_ ad9 cy gW ++ mm_L T10_ ad20 cy gW) ++ mm_L T6_ ad31 cy (fun _ _ => 0)) ++ mm_L T7_ ad42 cy (fun _ _ => 0)) ++ mm_L T3_ ad53 cy (fun _ _ => 0)) ++ mm_L T9_ ad64 cy (fun _ _ => 0)) ++ mm_L T8_ ad75 cy (fun _ _ => 0))) := hD9
  have hS := hS9
  clear hP9 hD9 hS9
  generalize H9 = H at hP hS ⊢
  generalize locs9 = locs at hS ⊢
  refine W.widen (k := 141) (n := 33889) (Nat.le_of_ble_eq_true rfl) (Nat.le_of_ble_eq_true rfl) ?_
  refine va_putF (D := D) (ci := 11) (v := .ref (ad75 0)) (ty := .object "LeftShoes$Trail") (C := RX11) (T := TX11) (N := 9) hx hb hts (by decide +kernel) tyX11 tyX11_ok nmX11 hown hK hP hD hS 0 rfl rfl 7 (by decide) (hts (.fieldLink RX11 50 "LeftShoes" "trail" "LLeftShoes$Trail;") (by decide +kernel)) (fun _ h9 => h9) rfl hin rfl (by decide +kernel) rfl rfl (Nat.le_of_ble_eq_true rfl) dX11_init_78 (fun H locs hP hD hS => ?_)
  have hP : va_P D vwCl ((h0, .inr (11, [.ref (ad9 0), .ref (ad20 0), .int 0, .ref (ad31 0), .ref (ad42 0), .ref (ad53 0), .ref (ad64 0), .ref (ad75 0), .null])) :: ((((((mm_L T10_ ad9 cy gW ++ mm_L T10_ ad20 cy gW) ++ mm_L T6_ ad31 cy (fun _ _ => 0)) ++ mm_L T7_ ad42 cy (fun _ _ => 0)) ++ mm_L T3_ ad53 cy (fun _ _ => 0)) ++ mm_L T9_ ad64 cy (fun _ _ => 0)) ++ mm_L T8_ ad75 cy (fun _ _ => 0))) H := hP
  have hD : va_D A ((h0, .inr (11, [.ref (ad9 0), .ref (ad20 0), .int 0, .ref (ad31 0), .ref (ad42 0), .ref (ad53 0), .ref (ad64 0), .ref (ad75 0), .null])) :: ((((((mm_L T10_ ad9 cy gW ++ mm_L T10_ ad20 cy gW) ++ mm_L T6_ ad31 cy (fun _ _ => 0)) ++ mm_L T7_ ad42 cy (fun _ _ => 0)) ++ mm_L T3_ ad53 cy (fun _ _ => 0)) ++ mm_L T9_ ad64 cy (fun _ _ => 0)) ++ mm_L T8_ ad75 cy (fun _ _ => 0))) := hD
  refine lv_aload_n hx hb dX11_init_81 rfl (lv_at hl 0 rfl) ?_
  refine lv_iconst (v := 4) hx hb dX11_init_82 (by decide) ?_
  refine cn_newQ (N' := 4) (t := 3) (C := RX4) hx hb hown (hts (.classLink RX11 54 RX4) (by decide +kernel)) hZ.1.2.1 hK rfl hP hD hS hA (by decide) rfl (Nat.le_of_ble_eq_true rfl) (Nat.le_of_ble_eq_true rfl) (Nat.le_of_ble_eq_true rfl) dX11_init_83 (fun q83 H hP hD hS => ?_)
  have hP : va_P D vwCl ((h0, .inr (11, [.ref (ad9 0), .ref (ad20 0), .int 0, .ref (ad31 0), .ref (ad42 0), .ref (ad53 0), .ref (ad64 0), .ref (ad75 0), .null])) :: (((((((mm_L T10_ ad9 cy gW ++ mm_L T10_ ad20 cy gW) ++ mm_L T6_ ad31 cy (fun _ _ => 0)) ++ mm_L T7_ ad42 cy (fun _ _ => 0)) ++ mm_L T3_ ad53 cy (fun _ _ => 0)) ++ mm_L T9_ ad64 cy (fun _ _ => 0)) ++ mm_L T8_ ad75 cy (fun _ _ => 0)) ++ [(q83, .inl (cy 3, 4, .inr (.inr (.inr (.inr (fun _ => none))))))])) H := hP
  have hD : va_D A ((h0, .inr (11, [.ref (ad9 0), .ref (ad20 0), .int 0, .ref (ad31 0), .ref (ad42 0), .ref (ad53 0), .ref (ad64 0), .ref (ad75 0), .null])) :: (((((((mm_L T10_ ad9 cy gW ++ mm_L T10_ ad20 cy gW) ++ mm_L T6_ ad31 cy (fun _ _ => 0)) ++ mm_L T7_ ad42 cy (fun _ _ => 0)) ++ mm_L T3_ ad53 cy (fun _ _ => 0)) ++ mm_L T9_ ad64 cy (fun _ _ => 0)) ++ mm_L T8_ ad75 cy (fun _ _ => 0)) ++ [(q83, .inl (cy 3, 4, .inr (.inr (.inr (.inr (fun _ => none))))))])) := hD
  refine W.widen (k := 142) (n := 33893) (Nat.le_of_ble_eq_true rfl) (Nat.le_of_ble_eq_true rfl) ?_
  refine va_putF (D := D) (ci := 11) (v := .ref q83) (ty := .array (.object "LeftShoes$Sheet")) (C := RX11) (T := TX11) (N := 9) hx hb hts (by decide +kernel) tyX11 tyX11_ok nmX11 hown hK hP hD hS 0 rfl rfl 8 (by decide) (hts (.fieldLink RX11 56 "LeftShoes" "sheets" "[LLeftShoes$Sheet;") (by decide +kernel)) (fun _ h9 => h9) rfl hin rfl (by decide +kernel) rfl rfl (Nat.le_of_ble_eq_true rfl) dX11_init_86 (fun H locs hP hD hS => ?_)
  have hP : va_P D vwCl ((h0, .inr (11, [.ref (ad9 0), .ref (ad20 0), .int 0, .ref (ad31 0), .ref (ad42 0), .ref (ad53 0), .ref (ad64 0), .ref (ad75 0), .ref q83])) :: (((((((mm_L T10_ ad9 cy gW ++ mm_L T10_ ad20 cy gW) ++ mm_L T6_ ad31 cy (fun _ _ => 0)) ++ mm_L T7_ ad42 cy (fun _ _ => 0)) ++ mm_L T3_ ad53 cy (fun _ _ => 0)) ++ mm_L T9_ ad64 cy (fun _ _ => 0)) ++ mm_L T8_ ad75 cy (fun _ _ => 0)) ++ [(q83, .inl (cy 3, 4, .inr (.inr (.inr (.inr (fun _ => none))))))])) H := hP
  have hD : va_D A ((h0, .inr (11, [.ref (ad9 0), .ref (ad20 0), .int 0, .ref (ad31 0), .ref (ad42 0), .ref (ad53 0), .ref (ad64 0), .ref (ad75 0), .ref q83])) :: (((((((mm_L T10_ ad9 cy gW ++ mm_L T10_ ad20 cy gW) ++ mm_L T6_ ad31 cy (fun _ _ => 0)) ++ mm_L T7_ ad42 cy (fun _ _ => 0)) ++ mm_L T3_ ad53 cy (fun _ _ => 0)) ++ mm_L T9_ ad64 cy (fun _ _ => 0)) ++ mm_L T8_ ad75 cy (fun _ _ => 0)) ++ [(q83, .inl (cy 3, 4, .inr (.inr (.inr (.inr (fun _ => none))))))])) := hD
  have hP := cn_rotP hP
  have hD := cn_rotD hD
  have eP : ((h0, .inr (11, [.ref (ad9 0), .ref (ad20 0), .int 0, .ref (ad31 0), .ref (ad42 0), .ref (ad53 0), .ref (ad64 0), .ref (ad75 0), .ref q83])) :: (q83, .inl (cy 3, 4, .inr (.inr (.inr (.inr (fun _ => none)))))) :: ((((((mm_L T10_ ad9 cy gW ++ mm_L T10_ ad20 cy gW) ++ mm_L T6_ ad31 cy (fun _ _ => 0)) ++ mm_L T7_ ad42 cy (fun _ _ => 0)) ++ mm_L T3_ ad53 cy (fun _ _ => 0)) ++ mm_L T9_ ad64 cy (fun _ _ => 0)) ++ mm_L T8_ ad75 cy (fun _ _ => 0))) = WU cy h0 q83 [.ref (ad9 0), .ref (ad20 0), .int 0, .ref (ad31 0), .ref (ad42 0), .ref (ad53 0), .ref (ad64 0), .ref (ad75 0), .ref q83] ((((((mm_L T10_ ad9 cy gW ++ mm_L T10_ ad20 cy gW) ++ mm_L T6_ ad31 cy (fun _ _ => 0)) ++ mm_L T7_ ad42 cy (fun _ _ => 0)) ++ mm_L T3_ ad53 cy (fun _ _ => 0)) ++ mm_L T9_ ad64 cy (fun _ _ => 0)) ++ mm_L T8_ ad75 cy (fun _ _ => 0)) [] := by
    unfold WU
    rw [List.flatMap_nil, List.append_nil]
    rfl
  rw [eP] at hP hD
  refine lv_iconst (v := 0) hx hb dX11_init_89 (by decide) ?_
  refine lv_istore_n (lv' := [(1, .int 0), (0, .ref h0)]) hx hb dX11_init_90 rfl hl (by decide) rfl (fun ls hl => ?_)
  refine l_X11_init hx hb hml hown hts hK hZ hA (fun lp H locs ls hL hP hD hS => ?_) 4 0 [] H locs ls rfl rfl (lv_sub hl [1, 0] rfl) hP hD hS
  obtain ⟨⟨s0, i0⟩, ⟨s1, i1⟩, ⟨s2, i2⟩, ⟨s3, i3⟩, rfl⟩ := len4 lp hL
  have hC := a_X11 hP hD
  exact W.vret hx hb hr (fun t ht hW => ⟨⟨(), rfl, trivial, by show CP D cy TC gC h0 A t.heap; rw [ht]; exact hC⟩, hS.F ht⟩) hS.2.2 dX11_init_115 hlocks
