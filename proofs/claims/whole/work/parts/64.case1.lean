set_option maxHeartbeats 4000000 in
set_option maxRecDepth 100000 in
theorem case_8 {p : Program} {l : Launch} {e : Env} {s : State} {m0 : MethodId} {args : Array Value} {below : List Frame} {meth : Method} {c0 : Code} {H : Heap} {locs : List Loc} {Q : State → Prop} {ls : Array Slot} {D : va_G} {cy : Nat → ClassId} {adC adM : Nat → Nat} {c m : Mm} {b L n i : Nat} {xs : Nat → Int32} (hx : p.tables.exec = Jvm.exec) (hb : c0.code = code) (hml : c0.maxLocals = 4) (hown : s.vm.findClass RL = some m0.cls) (hts : ∀ w ∈ wsL_law, w.before args s = true) (hX : va_X b L xs s s.heap) (hbl : b < s.heap.size) (hL : L ≤ 3584) (K : LK D cy adC adM s) (h : LI D cy adC adM c m s H locs) (hR : Rel n c m) (hn : n < 999999) (hi : i + 6 < L) (hl : lv_has ls 4 [(0, .ref b), (1, .ref (adC 0)), (2, .ref (adM 0)), (3, .int (nI i))])
    (kk : ∀ (c' m' : Mm) (H : Heap) (locs : List Loc), LI D cy adC adM c' m' s H locs → Rel (n + 1) c' m' → W p l e room_1 s m0 args below meth c0 H locs 600000 7302250 Q (F0 m0 1437 ls [])) : W p l e room_1 s m0 args below meth c0 H locs 600000 7302250 Q (F0 m0 482 ls []) := by
  obtain ⟨r, c', m', e1, e2, R1⟩ := sim_type hR ((((xs (i + 1)).toInt64) <<< ((32 : Int32).toInt64 &&& 63)) ||| (((xs (i + 2)).toInt64) &&& (4294967295 : Int64))) (xs (i + 3))
  refine lv_aload_n hx hb dL_law_482 rfl (lv_at hl 1 rfl) ?_
  refine lv_aload_n hx hb dL_law_483 rfl (lv_at hl 0 rfl) ?_
  refine lv_iload_n hx hb dL_law_484 rfl (lv_at hl 3 rfl) ?_
  refine lv_iconst (v := 1) hx hb dL_law_485 (by decide) ?_
  refine lv_iadd hx hb dL_law_486 ?_
  refine lw_ld (i := i) (k := 1) hx hb hX hbl h (nI_add i 1) (by omega) hL dL_law_487 ?_
  refine lv_i2l hx hb dL_law_488 rfl ?_
  refine lv_bipush (v := 32) hx hb dL_law_489 (by decide) ?_
  refine lv_lshl hx hb dL_law_491 rfl ?_
  refine lv_aload_n hx hb dL_law_492 rfl (lv_at hl 0 rfl) ?_
  refine lv_iload_n hx hb dL_law_493 rfl (lv_at hl 3 rfl) ?_
  refine lv_iconst (v := 2) hx hb dL_law_494 (by decide) ?_
  refine lv_iadd hx hb dL_law_495 ?_
  refine lw_ld (i := i) (k := 2) hx hb hX hbl h (nI_add i 2) (by omega) hL dL_law_496 ?_
  refine lv_i2l hx hb dL_law_497 rfl ?_
  refine lv_ldc2 (v := 4294967295) hx hb hown (hts (.constantLong RL 49 (4294967295)) kL49) dL_law_498 ?_
  refine lv_land hx hb dL_law_501 ?_
  refine lv_lor hx hb dL_law_502 ?_
  refine lv_aload_n hx hb dL_law_503 rfl (lv_at hl 0 rfl) ?_
  refine lv_iload_n hx hb dL_law_504 rfl (lv_at hl 3 rfl) ?_
  refine lv_iconst (v := 3) hx hb dL_law_505 (by decide) ?_
  refine lv_iadd hx hb dL_law_506 ?_
  refine lw_ld (i := i) (k := 3) hx hb hX hbl h (nI_add i 3) (by omega) hL dL_law_507 ?_
  refine lc_C (c' := c') K h (va_runV (As := [.long ((((xs (i + 1)).toInt64) <<< ((32 : Int32).toInt64 &&& 63)) ||| (((xs (i + 2)).toInt64) &&& (4294967295 : Int64))), .int (xs (i + 3))]) (rest := []) ⟨hx, hb, hml, hown, hts⟩ (c_X11_type l D adC cy ((((xs (i + 1)).toInt64) <<< ((32 : Int32).toInt64 &&& 63)) ||| (((xs (i + 2)).toInt64) &&& (4294967295 : Int64))) (xs (i + 3)) c rfl r c' e1) (cwV 2 hts gL_law_X11_type rfl rfl rfl (by decide +kernel) ⟨Nat.le_of_ble_eq_true rfl, Nat.le_of_ble_eq_true rfl⟩) (lp_C K h) rfl rfl hl.1 rfl (lv_room (Nat.le_of_ble_eq_true rfl)) dL_law_508 ⟨Nat.le_of_ble_eq_true rfl, Nat.le_of_ble_eq_true rfl⟩) (fun H locs h => ?_)
  refine lv_aload_n hx hb dL_law_511 rfl (lv_at hl 2 rfl) ?_
  refine lv_aload_n hx hb dL_law_512 rfl (lv_at hl 0 rfl) ?_
  refine lv_iload_n hx hb dL_law_513 rfl (lv_at hl 3 rfl) ?_
  refine lv_iconst (v := 1) hx hb dL_law_514 (by decide) ?_
  refine lv_iadd hx hb dL_law_515 ?_
  refine lw_ld (i := i) (k := 1) hx hb hX hbl h (nI_add i 1) (by omega) hL dL_law_516 ?_
  refine lv_i2l hx hb dL_law_517 rfl ?_
  refine lv_bipush (v := 32) hx hb dL_law_518 (by decide) ?_
  refine lv_lshl hx hb dL_law_520 rfl ?_
  refine lv_aload_n hx hb dL_law_521 rfl (lv_at hl 0 rfl) ?_
  refine lv_iload_n hx hb dL_law_522 rfl (lv_at hl 3 rfl) ?_
  refine lv_iconst (v := 2) hx hb dL_law_523 (by decide) ?_
  refine lv_iadd hx hb dL_law_524 ?_
  refine lw_ld (i := i) (k := 2) hx hb hX hbl h (nI_add i 2) (by omega) hL dL_law_525 ?_
  refine lv_i2l hx hb dL_law_526 rfl ?_
  refine lv_ldc2 (v := 4294967295) hx hb hown (hts (.constantLong RL 49 (4294967295)) kL49) dL_law_527 ?_
  refine lv_land hx hb dL_law_530 ?_
  refine lv_lor hx hb dL_law_531 ?_
  refine lv_aload_n hx hb dL_law_532 rfl (lv_at hl 0 rfl) ?_
  refine lv_iload_n hx hb dL_law_533 rfl (lv_at hl 3 rfl) ?_
  refine lv_iconst (v := 3) hx hb dL_law_534 (by decide) ?_
  refine lv_iadd hx hb dL_law_535 ?_
  refine lw_ld (i := i) (k := 3) hx hb hX hbl h (nI_add i 3) (by omega) hL dL_law_536 ?_
  refine lc_M (m' := m') K h (va_runV (As := [.long ((((xs (i + 1)).toInt64) <<< ((32 : Int32).toInt64 &&& 63)) ||| (((xs (i + 2)).toInt64) &&& (4294967295 : Int64))), .int (xs (i + 3))]) (rest := [.int r]) ⟨hx, hb, hml, hown, hts⟩ (c_X12_type l D adM cy ((((xs (i + 1)).toInt64) <<< ((32 : Int32).toInt64 &&& 63)) ||| (((xs (i + 2)).toInt64) &&& (4294967295 : Int64))) (xs (i + 3)) m rfl r m' e2) (cwV 2 hts gL_law_X12_type rfl rfl rfl (by decide +kernel) ⟨Nat.le_of_ble_eq_true rfl, Nat.le_of_ble_eq_true rfl⟩) (lp_M K h) rfl rfl hl.1 rfl (lv_room (Nat.le_of_ble_eq_true rfl)) dL_law_537 ⟨Nat.le_of_ble_eq_true rfl, Nat.le_of_ble_eq_true rfl⟩) (fun H locs h => ?_)
  refine lv_icmp_eq (tgt := 1437) hx hb dL_law_540 (by decide) (fun c_1 => ?_) (fun c_1 => ?_)
  · exact kk c' m' H locs h R1
  · exact absurd rfl c_1
set_option maxHeartbeats 4000000 in
set_option maxRecDepth 100000 in
theorem case_9 {p : Program} {l : Launch} {e : Env} {s : State} {m0 : MethodId} {args : Array Value} {below : List Frame} {meth : Method} {c0 : Code} {H : Heap} {locs : List Loc} {Q : State → Prop} {ls : Array Slot} {D : va_G} {cy : Nat → ClassId} {adC adM : Nat → Nat} {c m : Mm} {b L n i : Nat} {xs : Nat → Int32} (hx : p.tables.exec = Jvm.exec) (hb : c0.code = code) (hml : c0.maxLocals = 4) (hown : s.vm.findClass RL = some m0.cls) (hts : ∀ w ∈ wsL_law, w.before args s = true) (hX : va_X b L xs s s.heap) (hbl : b < s.heap.size) (hL : L ≤ 3584) (K : LK D cy adC adM s) (h : LI D cy adC adM c m s H locs) (hR : Rel n c m) (hn : n < 999999) (hi : i + 6 < L) (hl : lv_has ls 4 [(0, .ref b), (1, .ref (adC 0)), (2, .ref (adM 0)), (3, .int (nI i))])
    (kk : ∀ (c' m' : Mm) (H : Heap) (locs : List Loc), LI D cy adC adM c' m' s H locs → Rel (n + 1) c' m' → W p l e room_1 s m0 args below meth c0 H locs 600000 7302250 Q (F0 m0 1437 ls [])) : W p l e room_1 s m0 args below meth c0 H locs 600000 7302250 Q (F0 m0 545 ls []) := by
  obtain ⟨r, c', m', e1, e2, R1⟩ := sim_taxes hR 
  refine lv_aload_n hx hb dL_law_545 rfl (lv_at hl 1 rfl) ?_
  refine lc_C (c' := c') K h (va_runV (As := []) (rest := []) ⟨hx, hb, hml, hown, hts⟩ (c_X11_taxes l D adC cy  c rfl r c' e1) (cwV 0 hts gL_law_X11_taxes rfl rfl rfl (by decide +kernel) ⟨Nat.le_of_ble_eq_true rfl, Nat.le_of_ble_eq_true rfl⟩) (lp_C K h) rfl rfl hl.1 rfl (lv_room (Nat.le_of_ble_eq_true rfl)) dL_law_546 ⟨Nat.le_of_ble_eq_true rfl, Nat.le_of_ble_eq_true rfl⟩) (fun H locs h => ?_)
  refine lv_aload_n hx hb dL_law_549 rfl (lv_at hl 2 rfl) ?_
  refine lc_M (m' := m') K h (va_runV (As := []) (rest := [.int r]) ⟨hx, hb, hml, hown, hts⟩ (c_X12_taxes l D adM cy  m rfl r m' e2) (cwV 0 hts gL_law_X12_taxes rfl rfl rfl (by decide +kernel) ⟨Nat.le_of_ble_eq_true rfl, Nat.le_of_ble_eq_true rfl⟩) (lp_M K h) rfl rfl hl.1 rfl (lv_room (Nat.le_of_ble_eq_true rfl)) dL_law_550 ⟨Nat.le_of_ble_eq_true rfl, Nat.le_of_ble_eq_true rfl⟩) (fun H locs h => ?_)
  refine lv_icmp_eq (tgt := 1437) hx hb dL_law_553 (by decide) (fun c_1 => ?_) (fun c_1 => ?_)
  · exact kk c' m' H locs h R1
  · exact absurd rfl c_1
set_option maxHeartbeats 4000000 in
set_option maxRecDepth 100000 in
theorem case_10 {p : Program} {l : Launch} {e : Env} {s : State} {m0 : MethodId} {args : Array Value} {below : List Frame} {meth : Method} {c0 : Code} {H : Heap} {locs : List Loc} {Q : State → Prop} {ls : Array Slot} {D : va_G} {cy : Nat → ClassId} {adC adM : Nat → Nat} {c m : Mm} {b L n i : Nat} {xs : Nat → Int32} (hx : p.tables.exec = Jvm.exec) (hb : c0.code = code) (hml : c0.maxLocals = 4) (hown : s.vm.findClass RL = some m0.cls) (hts : ∀ w ∈ wsL_law, w.before args s = true) (hX : va_X b L xs s s.heap) (hbl : b < s.heap.size) (hL : L ≤ 3584) (K : LK D cy adC adM s) (h : LI D cy adC adM c m s H locs) (hR : Rel n c m) (hn : n < 999999) (hi : i + 6 < L) (hl : lv_has ls 4 [(0, .ref b), (1, .ref (adC 0)), (2, .ref (adM 0)), (3, .int (nI i))])
    (kk : ∀ (c' m' : Mm) (H : Heap) (locs : List Loc), LI D cy adC adM c' m' s H locs → Rel (n + 1) c' m' → W p l e room_1 s m0 args below meth c0 H locs 600000 7302250 Q (F0 m0 1437 ls [])) : W p l e room_1 s m0 args below meth c0 H locs 600000 7302250 Q (F0 m0 558 ls []) := by
  obtain ⟨r, c', m', e1, e2, R1⟩ := sim_roads hR 
  refine lv_aload_n hx hb dL_law_558 rfl (lv_at hl 1 rfl) ?_
  refine lc_C (c' := c') K h (va_runV (As := []) (rest := []) ⟨hx, hb, hml, hown, hts⟩ (c_X11_roads l D adC cy  c rfl r c' e1) (cwV 0 hts gL_law_X11_roads rfl rfl rfl (by decide +kernel) ⟨Nat.le_of_ble_eq_true rfl, Nat.le_of_ble_eq_true rfl⟩) (lp_C K h) rfl rfl hl.1 rfl (lv_room (Nat.le_of_ble_eq_true rfl)) dL_law_559 ⟨Nat.le_of_ble_eq_true rfl, Nat.le_of_ble_eq_true rfl⟩) (fun H locs h => ?_)
  refine lv_aload_n hx hb dL_law_562 rfl (lv_at hl 2 rfl) ?_
  refine lc_M (m' := m') K h (va_runV (As := []) (rest := [.int r]) ⟨hx, hb, hml, hown, hts⟩ (c_X12_roads l D adM cy  m rfl r m' e2) (cwV 0 hts gL_law_X12_roads rfl rfl rfl (by decide +kernel) ⟨Nat.le_of_ble_eq_true rfl, Nat.le_of_ble_eq_true rfl⟩) (lp_M K h) rfl rfl hl.1 rfl (lv_room (Nat.le_of_ble_eq_true rfl)) dL_law_563 ⟨Nat.le_of_ble_eq_true rfl, Nat.le_of_ble_eq_true rfl⟩) (fun H locs h => ?_)
  refine lv_icmp_eq (tgt := 1437) hx hb dL_law_566 (by decide) (fun c_1 => ?_) (fun c_1 => ?_)
  · exact kk c' m' H locs h R1
  · exact absurd rfl c_1
set_option maxHeartbeats 4000000 in
set_option maxRecDepth 100000 in
theorem case_11 {p : Program} {l : Launch} {e : Env} {s : State} {m0 : MethodId} {args : Array Value} {below : List Frame} {meth : Method} {c0 : Code} {H : Heap} {locs : List Loc} {Q : State → Prop} {ls : Array Slot} {D : va_G} {cy : Nat → ClassId} {adC adM : Nat → Nat} {c m : Mm} {b L n i : Nat} {xs : Nat → Int32} (hx : p.tables.exec = Jvm.exec) (hb : c0.code = code) (hml : c0.maxLocals = 4) (hown : s.vm.findClass RL = some m0.cls) (hts : ∀ w ∈ wsL_law, w.before args s = true) (hX : va_X b L xs s s.heap) (hbl : b < s.heap.size) (hL : L ≤ 3584) (K : LK D cy adC adM s) (h : LI D cy adC adM c m s H locs) (hR : Rel n c m) (hn : n < 999999) (hi : i + 6 < L) (hl : lv_has ls 4 [(0, .ref b), (1, .ref (adC 0)), (2, .ref (adM 0)), (3, .int (nI i))])
    (kk : ∀ (c' m' : Mm) (H : Heap) (locs : List Loc), LI D cy adC adM c' m' s H locs → Rel (n + 1) c' m' → W p l e room_1 s m0 args below meth c0 H locs 600000 7302250 Q (F0 m0 1437 ls [])) : W p l e room_1 s m0 args below meth c0 H locs 600000 7302250 Q (F0 m0 571 ls []) := by
  obtain ⟨r, e1, e2, R1⟩ := SimP.to (sim_count hR (xs (i + 1))) hR
  refine lv_aload_n hx hb dL_law_571 rfl (lv_at hl 1 rfl) ?_
  refine lv_aload_n hx hb dL_law_572 rfl (lv_at hl 0 rfl) ?_
  refine lv_iload_n hx hb dL_law_573 rfl (lv_at hl 3 rfl) ?_
  refine lv_iconst (v := 1) hx hb dL_law_574 (by decide) ?_
  refine lv_iadd hx hb dL_law_575 ?_
  refine lw_ld (i := i) (k := 1) hx hb hX hbl h (nI_add i 1) (by omega) hL dL_law_576 ?_
  refine lc_C (c' := c) K h (va_runV (As := [.int (xs (i + 1))]) (rest := []) ⟨hx, hb, hml, hown, hts⟩ (c_X11_count l D adC cy (xs (i + 1)) c rfl r e1) (cwV 1 hts gL_law_X11_count rfl rfl rfl (by decide +kernel) ⟨Nat.le_of_ble_eq_true rfl, Nat.le_of_ble_eq_true rfl⟩) (lp_C K h) rfl rfl hl.1 rfl (lv_room (Nat.le_of_ble_eq_true rfl)) dL_law_577 ⟨Nat.le_of_ble_eq_true rfl, Nat.le_of_ble_eq_true rfl⟩) (fun H locs h => ?_)
  refine lv_aload_n hx hb dL_law_580 rfl (lv_at hl 2 rfl) ?_
  refine lv_aload_n hx hb dL_law_581 rfl (lv_at hl 0 rfl) ?_
  refine lv_iload_n hx hb dL_law_582 rfl (lv_at hl 3 rfl) ?_
  refine lv_iconst (v := 1) hx hb dL_law_583 (by decide) ?_
  refine lv_iadd hx hb dL_law_584 ?_
  refine lw_ld (i := i) (k := 1) hx hb hX hbl h (nI_add i 1) (by omega) hL dL_law_585 ?_
  refine lc_M (m' := m) K h (va_runV (As := [.int (xs (i + 1))]) (rest := [.int r]) ⟨hx, hb, hml, hown, hts⟩ (c_X12_count l D adM cy (xs (i + 1)) m rfl r e2) (cwV 1 hts gL_law_X12_count rfl rfl rfl (by decide +kernel) ⟨Nat.le_of_ble_eq_true rfl, Nat.le_of_ble_eq_true rfl⟩) (lp_M K h) rfl rfl hl.1 rfl (lv_room (Nat.le_of_ble_eq_true rfl)) dL_law_586 ⟨Nat.le_of_ble_eq_true rfl, Nat.le_of_ble_eq_true rfl⟩) (fun H locs h => ?_)
  refine lv_icmp_eq (tgt := 1437) hx hb dL_law_589 (by decide) (fun c_1 => ?_) (fun c_1 => ?_)
  · exact kk c m H locs h R1
  · exact absurd rfl c_1
set_option maxHeartbeats 4000000 in
set_option maxRecDepth 100000 in
theorem case_12 {p : Program} {l : Launch} {e : Env} {s : State} {m0 : MethodId} {args : Array Value} {below : List Frame} {meth : Method} {c0 : Code} {H : Heap} {locs : List Loc} {Q : State → Prop} {ls : Array Slot} {D : va_G} {cy : Nat → ClassId} {adC adM : Nat → Nat} {c m : Mm} {b L n i : Nat} {xs : Nat → Int32} (hx : p.tables.exec = Jvm.exec) (hb : c0.code = code) (hml : c0.maxLocals = 4) (hown : s.vm.findClass RL = some m0.cls) (hts : ∀ w ∈ wsL_law, w.before args s = true) (hX : va_X b L xs s s.heap) (hbl : b < s.heap.size) (hL : L ≤ 3584) (K : LK D cy adC adM s) (h : LI D cy adC adM c m s H locs) (hR : Rel n c m) (hn : n < 999999) (hi : i + 6 < L) (hl : lv_has ls 4 [(0, .ref b), (1, .ref (adC 0)), (2, .ref (adM 0)), (3, .int (nI i))])
    (kk : ∀ (c' m' : Mm) (H : Heap) (locs : List Loc), LI D cy adC adM c' m' s H locs → Rel (n + 1) c' m' → W p l e room_1 s m0 args below meth c0 H locs 600000 7302250 Q (F0 m0 1437 ls [])) : W p l e room_1 s m0 args below meth c0 H locs 600000 7302250 Q (F0 m0 594 ls []) := by
  obtain ⟨r, e1, e2, R1⟩ := SimP.to (sim_minutes hR (xs (i + 1)) (xs (i + 2)) (xs (i + 3)) (xs (i + 4))) hR
  refine lv_aload_n hx hb dL_law_594 rfl (lv_at hl 1 rfl) ?_
  refine lv_aload_n hx hb dL_law_595 rfl (lv_at hl 0 rfl) ?_
  refine lv_iload_n hx hb dL_law_596 rfl (lv_at hl 3 rfl) ?_
  refine lv_iconst (v := 1) hx hb dL_law_597 (by decide) ?_
  refine lv_iadd hx hb dL_law_598 ?_
  refine lw_ld (i := i) (k := 1) hx hb hX hbl h (nI_add i 1) (by omega) hL dL_law_599 ?_
  refine lv_aload_n hx hb dL_law_600 rfl (lv_at hl 0 rfl) ?_
  refine lv_iload_n hx hb dL_law_601 rfl (lv_at hl 3 rfl) ?_
  refine lv_iconst (v := 2) hx hb dL_law_602 (by decide) ?_
  refine lv_iadd hx hb dL_law_603 ?_
  refine lw_ld (i := i) (k := 2) hx hb hX hbl h (nI_add i 2) (by omega) hL dL_law_604 ?_
  refine lv_aload_n hx hb dL_law_605 rfl (lv_at hl 0 rfl) ?_
  refine lv_iload_n hx hb dL_law_606 rfl (lv_at hl 3 rfl) ?_
  refine lv_iconst (v := 3) hx hb dL_law_607 (by decide) ?_
  refine lv_iadd hx hb dL_law_608 ?_
  refine lw_ld (i := i) (k := 3) hx hb hX hbl h (nI_add i 3) (by omega) hL dL_law_609 ?_
  refine lv_aload_n hx hb dL_law_610 rfl (lv_at hl 0 rfl) ?_
  refine lv_iload_n hx hb dL_law_611 rfl (lv_at hl 3 rfl) ?_
  refine lv_iconst (v := 4) hx hb dL_law_612 (by decide) ?_
  refine lv_iadd hx hb dL_law_613 ?_
  refine lw_ld (i := i) (k := 4) hx hb hX hbl h (nI_add i 4) (by omega) hL dL_law_614 ?_
  refine lc_C (c' := c) K h (va_runV (As := [.int (xs (i + 1)), .int (xs (i + 2)), .int (xs (i + 3)), .int (xs (i + 4))]) (rest := []) ⟨hx, hb, hml, hown, hts⟩ (c_X11_minutes l D adC cy (xs (i + 1)) (xs (i + 2)) (xs (i + 3)) (xs (i + 4)) c rfl r e1) (cwV 4 hts gL_law_X11_minutes rfl rfl rfl (by decide +kernel) ⟨Nat.le_of_ble_eq_true rfl, Nat.le_of_ble_eq_true rfl⟩) (lp_C K h) rfl rfl hl.1 rfl (lv_room (Nat.le_of_ble_eq_true rfl)) dL_law_615 ⟨Nat.le_of_ble_eq_true rfl, Nat.le_of_ble_eq_true rfl⟩) (fun H locs h => ?_)
  refine lv_aload_n hx hb dL_law_618 rfl (lv_at hl 2 rfl) ?_
  refine lv_aload_n hx hb dL_law_619 rfl (lv_at hl 0 rfl) ?_
  refine lv_iload_n hx hb dL_law_620 rfl (lv_at hl 3 rfl) ?_
  refine lv_iconst (v := 1) hx hb dL_law_621 (by decide) ?_
  refine lv_iadd hx hb dL_law_622 ?_
  refine lw_ld (i := i) (k := 1) hx hb hX hbl h (nI_add i 1) (by omega) hL dL_law_623 ?_
  refine lv_aload_n hx hb dL_law_624 rfl (lv_at hl 0 rfl) ?_
  refine lv_iload_n hx hb dL_law_625 rfl (lv_at hl 3 rfl) ?_
  refine lv_iconst (v := 2) hx hb dL_law_626 (by decide) ?_
  refine lv_iadd hx hb dL_law_627 ?_
  refine lw_ld (i := i) (k := 2) hx hb hX hbl h (nI_add i 2) (by omega) hL dL_law_628 ?_
  refine lv_aload_n hx hb dL_law_629 rfl (lv_at hl 0 rfl) ?_
  refine lv_iload_n hx hb dL_law_630 rfl (lv_at hl 3 rfl) ?_
  refine lv_iconst (v := 3) hx hb dL_law_631 (by decide) ?_
  refine lv_iadd hx hb dL_law_632 ?_
  refine lw_ld (i := i) (k := 3) hx hb hX hbl h (nI_add i 3) (by omega) hL dL_law_633 ?_
  refine lv_aload_n hx hb dL_law_634 rfl (lv_at hl 0 rfl) ?_
  refine lv_iload_n hx hb dL_law_635 rfl (lv_at hl 3 rfl) ?_
  refine lv_iconst (v := 4) hx hb dL_law_636 (by decide) ?_
  refine lv_iadd hx hb dL_law_637 ?_
  refine lw_ld (i := i) (k := 4) hx hb hX hbl h (nI_add i 4) (by omega) hL dL_law_638 ?_
  refine lc_M (m' := m) K h (va_runV (As := [.int (xs (i + 1)), .int (xs (i + 2)), .int (xs (i + 3)), .int (xs (i + 4))]) (rest := [.int r]) ⟨hx, hb, hml, hown, hts⟩ (c_X12_minutes l D adM cy (xs (i + 1)) (xs (i + 2)) (xs (i + 3)) (xs (i + 4)) m rfl r e2) (cwV 4 hts gL_law_X12_minutes rfl rfl rfl (by decide +kernel) ⟨Nat.le_of_ble_eq_true rfl, Nat.le_of_ble_eq_true rfl⟩) (lp_M K h) rfl rfl hl.1 rfl (lv_room (Nat.le_of_ble_eq_true rfl)) dL_law_639 ⟨Nat.le_of_ble_eq_true rfl, Nat.le_of_ble_eq_true rfl⟩) (fun H locs h => ?_)
  refine lv_icmp_eq (tgt := 1437) hx hb dL_law_642 (by decide) (fun c_1 => ?_) (fun c_1 => ?_)
  · exact kk c m H locs h R1
  · exact absurd rfl c_1
set_option maxHeartbeats 4000000 in
set_option maxRecDepth 100000 in
theorem case_13 {p : Program} {l : Launch} {e : Env} {s : State} {m0 : MethodId} {args : Array Value} {below : List Frame} {meth : Method} {c0 : Code} {H : Heap} {locs : List Loc} {Q : State → Prop} {ls : Array Slot} {D : va_G} {cy : Nat → ClassId} {adC adM : Nat → Nat} {c m : Mm} {b L n i : Nat} {xs : Nat → Int32} (hx : p.tables.exec = Jvm.exec) (hb : c0.code = code) (hml : c0.maxLocals = 4) (hown : s.vm.findClass RL = some m0.cls) (hts : ∀ w ∈ wsL_law, w.before args s = true) (hX : va_X b L xs s s.heap) (hbl : b < s.heap.size) (hL : L ≤ 3584) (K : LK D cy adC adM s) (h : LI D cy adC adM c m s H locs) (hR : Rel n c m) (hn : n < 999999) (hi : i + 6 < L) (hl : lv_has ls 4 [(0, .ref b), (1, .ref (adC 0)), (2, .ref (adM 0)), (3, .int (nI i))])
    (kk : ∀ (c' m' : Mm) (H : Heap) (locs : List Loc), LI D cy adC adM c' m' s H locs → Rel (n + 1) c' m' → W p l e room_1 s m0 args below meth c0 H locs 600000 7302250 Q (F0 m0 1437 ls [])) : W p l e room_1 s m0 args below meth c0 H locs 600000 7302250 Q (F0 m0 647 ls []) := by
  obtain ⟨r, c', m', e1, e2, R1⟩ := sim_cheapest hR hn (xs (i + 1)) (xs (i + 2)) (xs (i + 3)) (xs (i + 4)) (xs (i + 5)) (xs (i + 6))
  refine lv_aload_n hx hb dL_law_647 rfl (lv_at hl 1 rfl) ?_
  refine lv_aload_n hx hb dL_law_648 rfl (lv_at hl 0 rfl) ?_
  refine lv_iload_n hx hb dL_law_649 rfl (lv_at hl 3 rfl) ?_
  refine lv_iconst (v := 1) hx hb dL_law_650 (by decide) ?_
  refine lv_iadd hx hb dL_law_651 ?_
  refine lw_ld (i := i) (k := 1) hx hb hX hbl h (nI_add i 1) (by omega) hL dL_law_652 ?_
  refine lv_aload_n hx hb dL_law_653 rfl (lv_at hl 0 rfl) ?_
  refine lv_iload_n hx hb dL_law_654 rfl (lv_at hl 3 rfl) ?_
  refine lv_iconst (v := 2) hx hb dL_law_655 (by decide) ?_
  refine lv_iadd hx hb dL_law_656 ?_
  refine lw_ld (i := i) (k := 2) hx hb hX hbl h (nI_add i 2) (by omega) hL dL_law_657 ?_
  refine lv_aload_n hx hb dL_law_658 rfl (lv_at hl 0 rfl) ?_
  refine lv_iload_n hx hb dL_law_659 rfl (lv_at hl 3 rfl) ?_
  refine lv_iconst (v := 3) hx hb dL_law_660 (by decide) ?_
  refine lv_iadd hx hb dL_law_661 ?_
  refine lw_ld (i := i) (k := 3) hx hb hX hbl h (nI_add i 3) (by omega) hL dL_law_662 ?_
  refine lv_aload_n hx hb dL_law_663 rfl (lv_at hl 0 rfl) ?_
  refine lv_iload_n hx hb dL_law_664 rfl (lv_at hl 3 rfl) ?_
  refine lv_iconst (v := 4) hx hb dL_law_665 (by decide) ?_
  refine lv_iadd hx hb dL_law_666 ?_
  refine lw_ld (i := i) (k := 4) hx hb hX hbl h (nI_add i 4) (by omega) hL dL_law_667 ?_
  refine lv_aload_n hx hb dL_law_668 rfl (lv_at hl 0 rfl) ?_
  refine lv_iload_n hx hb dL_law_669 rfl (lv_at hl 3 rfl) ?_
  refine lv_iconst (v := 5) hx hb dL_law_670 (by decide) ?_
  refine lv_iadd hx hb dL_law_671 ?_
  refine lw_ld (i := i) (k := 5) hx hb hX hbl h (nI_add i 5) (by omega) hL dL_law_672 ?_
  refine lv_aload_n hx hb dL_law_673 rfl (lv_at hl 0 rfl) ?_
  refine lv_iload_n hx hb dL_law_674 rfl (lv_at hl 3 rfl) ?_
  refine lv_bipush (v := 6) hx hb dL_law_675 (by decide) ?_
  refine lv_iadd hx hb dL_law_677 ?_
  refine lw_ld (i := i) (k := 6) hx hb hX hbl h (nI_add i 6) (by omega) hL dL_law_678 ?_
  refine lc_C (c' := c') K h (va_runV (As := [.int (xs (i + 1)), .int (xs (i + 2)), .int (xs (i + 3)), .int (xs (i + 4)), .int (xs (i + 5)), .int (xs (i + 6))]) (rest := []) ⟨hx, hb, hml, hown, hts⟩ (c_X11_cheapest l D adC cy (xs (i + 1)) (xs (i + 2)) (xs (i + 3)) (xs (i + 4)) (xs (i + 5)) (xs (i + 6)) c rfl r c' e1) (cwV 6 hts gL_law_X11_cheapest rfl rfl rfl (by decide +kernel) ⟨Nat.le_of_ble_eq_true rfl, Nat.le_of_ble_eq_true rfl⟩) (lp_C K h) rfl rfl hl.1 rfl (lv_room (Nat.le_of_ble_eq_true rfl)) dL_law_679 ⟨Nat.le_of_ble_eq_true rfl, Nat.le_of_ble_eq_true rfl⟩) (fun H locs h => ?_)
  refine lv_aload_n hx hb dL_law_682 rfl (lv_at hl 2 rfl) ?_
  refine lv_aload_n hx hb dL_law_683 rfl (lv_at hl 0 rfl) ?_
  refine lv_iload_n hx hb dL_law_684 rfl (lv_at hl 3 rfl) ?_
  refine lv_iconst (v := 1) hx hb dL_law_685 (by decide) ?_
  refine lv_iadd hx hb dL_law_686 ?_
  refine lw_ld (i := i) (k := 1) hx hb hX hbl h (nI_add i 1) (by omega) hL dL_law_687 ?_
  refine lv_aload_n hx hb dL_law_688 rfl (lv_at hl 0 rfl) ?_
  refine lv_iload_n hx hb dL_law_689 rfl (lv_at hl 3 rfl) ?_
  refine lv_iconst (v := 2) hx hb dL_law_690 (by decide) ?_
  refine lv_iadd hx hb dL_law_691 ?_
  refine lw_ld (i := i) (k := 2) hx hb hX hbl h (nI_add i 2) (by omega) hL dL_law_692 ?_
  refine lv_aload_n hx hb dL_law_693 rfl (lv_at hl 0 rfl) ?_
  refine lv_iload_n hx hb dL_law_694 rfl (lv_at hl 3 rfl) ?_
  refine lv_iconst (v := 3) hx hb dL_law_695 (by decide) ?_
  refine lv_iadd hx hb dL_law_696 ?_
  refine lw_ld (i := i) (k := 3) hx hb hX hbl h (nI_add i 3) (by omega) hL dL_law_697 ?_
  refine lv_aload_n hx hb dL_law_698 rfl (lv_at hl 0 rfl) ?_
  refine lv_iload_n hx hb dL_law_699 rfl (lv_at hl 3 rfl) ?_
  refine lv_iconst (v := 4) hx hb dL_law_700 (by decide) ?_
  refine lv_iadd hx hb dL_law_701 ?_
  refine lw_ld (i := i) (k := 4) hx hb hX hbl h (nI_add i 4) (by omega) hL dL_law_702 ?_
  refine lv_aload_n hx hb dL_law_703 rfl (lv_at hl 0 rfl) ?_
  refine lv_iload_n hx hb dL_law_704 rfl (lv_at hl 3 rfl) ?_
  refine lv_iconst (v := 5) hx hb dL_law_705 (by decide) ?_
  refine lv_iadd hx hb dL_law_706 ?_
  refine lw_ld (i := i) (k := 5) hx hb hX hbl h (nI_add i 5) (by omega) hL dL_law_707 ?_
  refine lv_aload_n hx hb dL_law_708 rfl (lv_at hl 0 rfl) ?_
  refine lv_iload_n hx hb dL_law_709 rfl (lv_at hl 3 rfl) ?_
  refine lv_bipush (v := 6) hx hb dL_law_710 (by decide) ?_
  refine lv_iadd hx hb dL_law_712 ?_
  refine lw_ld (i := i) (k := 6) hx hb hX hbl h (nI_add i 6) (by omega) hL dL_law_713 ?_
  refine lc_M (m' := m') K h (va_runV (As := [.int (xs (i + 1)), .int (xs (i + 2)), .int (xs (i + 3)), .int (xs (i + 4)), .int (xs (i + 5)), .int (xs (i + 6))]) (rest := [.int r]) ⟨hx, hb, hml, hown, hts⟩ (c_X12_cheapest l D adM cy (xs (i + 1)) (xs (i + 2)) (xs (i + 3)) (xs (i + 4)) (xs (i + 5)) (xs (i + 6)) m rfl r m' e2) (cwV 6 hts gL_law_X12_cheapest rfl rfl rfl (by decide +kernel) ⟨Nat.le_of_ble_eq_true rfl, Nat.le_of_ble_eq_true rfl⟩) (lp_M K h) rfl rfl hl.1 rfl (lv_room (Nat.le_of_ble_eq_true rfl)) dL_law_714 ⟨Nat.le_of_ble_eq_true rfl, Nat.le_of_ble_eq_true rfl⟩) (fun H locs h => ?_)
  refine lv_icmp_eq (tgt := 1437) hx hb dL_law_717 (by decide) (fun c_1 => ?_) (fun c_1 => ?_)
  · exact kk c' m' H locs h R1
  · exact absurd rfl c_1
set_option maxHeartbeats 4000000 in
set_option maxRecDepth 100000 in
theorem case_14 {p : Program} {l : Launch} {e : Env} {s : State} {m0 : MethodId} {args : Array Value} {below : List Frame} {meth : Method} {c0 : Code} {H : Heap} {locs : List Loc} {Q : State → Prop} {ls : Array Slot} {D : va_G} {cy : Nat → ClassId} {adC adM : Nat → Nat} {c m : Mm} {b L n i : Nat} {xs : Nat → Int32} (hx : p.tables.exec = Jvm.exec) (hb : c0.code = code) (hml : c0.maxLocals = 4) (hown : s.vm.findClass RL = some m0.cls) (hts : ∀ w ∈ wsL_law, w.before args s = true) (hX : va_X b L xs s s.heap) (hbl : b < s.heap.size) (hL : L ≤ 3584) (K : LK D cy adC adM s) (h : LI D cy adC adM c m s H locs) (hR : Rel n c m) (hn : n < 999999) (hi : i + 6 < L) (hl : lv_has ls 4 [(0, .ref b), (1, .ref (adC 0)), (2, .ref (adM 0)), (3, .int (nI i))])
    (kk : ∀ (c' m' : Mm) (H : Heap) (locs : List Loc), LI D cy adC adM c' m' s H locs → Rel (n + 1) c' m' → W p l e room_1 s m0 args below meth c0 H locs 600000 7302250 Q (F0 m0 1437 ls [])) : W p l e room_1 s m0 args below meth c0 H locs 600000 7302250 Q (F0 m0 722 ls []) := by
  obtain ⟨r, c', m', e1, e2, R1⟩ := sim_go hR hn (xs (i + 1)) (xs (i + 2)) (xs (i + 3)) (xs (i + 4)) (xs (i + 5))
  refine lv_aload_n hx hb dL_law_722 rfl (lv_at hl 1 rfl) ?_
  refine lv_aload_n hx hb dL_law_723 rfl (lv_at hl 0 rfl) ?_
  refine lv_iload_n hx hb dL_law_724 rfl (lv_at hl 3 rfl) ?_
  refine lv_iconst (v := 1) hx hb dL_law_725 (by decide) ?_
  refine lv_iadd hx hb dL_law_726 ?_
  refine lw_ld (i := i) (k := 1) hx hb hX hbl h (nI_add i 1) (by omega) hL dL_law_727 ?_
  refine lv_aload_n hx hb dL_law_728 rfl (lv_at hl 0 rfl) ?_
  refine lv_iload_n hx hb dL_law_729 rfl (lv_at hl 3 rfl) ?_
  refine lv_iconst (v := 2) hx hb dL_law_730 (by decide) ?_
  refine lv_iadd hx hb dL_law_731 ?_
  refine lw_ld (i := i) (k := 2) hx hb hX hbl h (nI_add i 2) (by omega) hL dL_law_732 ?_
  refine lv_aload_n hx hb dL_law_733 rfl (lv_at hl 0 rfl) ?_
  refine lv_iload_n hx hb dL_law_734 rfl (lv_at hl 3 rfl) ?_
  refine lv_iconst (v := 3) hx hb dL_law_735 (by decide) ?_
  refine lv_iadd hx hb dL_law_736 ?_
  refine lw_ld (i := i) (k := 3) hx hb hX hbl h (nI_add i 3) (by omega) hL dL_law_737 ?_
  refine lv_aload_n hx hb dL_law_738 rfl (lv_at hl 0 rfl) ?_
  refine lv_iload_n hx hb dL_law_739 rfl (lv_at hl 3 rfl) ?_
  refine lv_iconst (v := 4) hx hb dL_law_740 (by decide) ?_
  refine lv_iadd hx hb dL_law_741 ?_
  refine lw_ld (i := i) (k := 4) hx hb hX hbl h (nI_add i 4) (by omega) hL dL_law_742 ?_
  refine lv_aload_n hx hb dL_law_743 rfl (lv_at hl 0 rfl) ?_
  refine lv_iload_n hx hb dL_law_744 rfl (lv_at hl 3 rfl) ?_
  refine lv_iconst (v := 5) hx hb dL_law_745 (by decide) ?_
  refine lv_iadd hx hb dL_law_746 ?_
  refine lw_ld (i := i) (k := 5) hx hb hX hbl h (nI_add i 5) (by omega) hL dL_law_747 ?_
  refine lc_C (c' := c') K h (va_runV (As := [.int (xs (i + 1)), .int (xs (i + 2)), .int (xs (i + 3)), .int (xs (i + 4)), .int (xs (i + 5))]) (rest := []) ⟨hx, hb, hml, hown, hts⟩ (c_X11_go l D adC cy (xs (i + 1)) (xs (i + 2)) (xs (i + 3)) (xs (i + 4)) (xs (i + 5)) c rfl r c' e1) (cwV 5 hts gL_law_X11_go rfl rfl rfl (by decide +kernel) ⟨Nat.le_of_ble_eq_true rfl, Nat.le_of_ble_eq_true rfl⟩) (lp_C K h) rfl rfl hl.1 rfl (lv_room (Nat.le_of_ble_eq_true rfl)) dL_law_748 ⟨Nat.le_of_ble_eq_true rfl, Nat.le_of_ble_eq_true rfl⟩) (fun H locs h => ?_)
  refine lv_aload_n hx hb dL_law_751 rfl (lv_at hl 2 rfl) ?_
  refine lv_aload_n hx hb dL_law_752 rfl (lv_at hl 0 rfl) ?_
  refine lv_iload_n hx hb dL_law_753 rfl (lv_at hl 3 rfl) ?_
  refine lv_iconst (v := 1) hx hb dL_law_754 (by decide) ?_
  refine lv_iadd hx hb dL_law_755 ?_
  refine lw_ld (i := i) (k := 1) hx hb hX hbl h (nI_add i 1) (by omega) hL dL_law_756 ?_
  refine lv_aload_n hx hb dL_law_757 rfl (lv_at hl 0 rfl) ?_
  refine lv_iload_n hx hb dL_law_758 rfl (lv_at hl 3 rfl) ?_
  refine lv_iconst (v := 2) hx hb dL_law_759 (by decide) ?_
  refine lv_iadd hx hb dL_law_760 ?_
  refine lw_ld (i := i) (k := 2) hx hb hX hbl h (nI_add i 2) (by omega) hL dL_law_761 ?_
  refine lv_aload_n hx hb dL_law_762 rfl (lv_at hl 0 rfl) ?_
  refine lv_iload_n hx hb dL_law_763 rfl (lv_at hl 3 rfl) ?_
  refine lv_iconst (v := 3) hx hb dL_law_764 (by decide) ?_
  refine lv_iadd hx hb dL_law_765 ?_
  refine lw_ld (i := i) (k := 3) hx hb hX hbl h (nI_add i 3) (by omega) hL dL_law_766 ?_
  refine lv_aload_n hx hb dL_law_767 rfl (lv_at hl 0 rfl) ?_
  refine lv_iload_n hx hb dL_law_768 rfl (lv_at hl 3 rfl) ?_
  refine lv_iconst (v := 4) hx hb dL_law_769 (by decide) ?_
  refine lv_iadd hx hb dL_law_770 ?_
  refine lw_ld (i := i) (k := 4) hx hb hX hbl h (nI_add i 4) (by omega) hL dL_law_771 ?_
  refine lv_aload_n hx hb dL_law_772 rfl (lv_at hl 0 rfl) ?_
  refine lv_iload_n hx hb dL_law_773 rfl (lv_at hl 3 rfl) ?_
  refine lv_iconst (v := 5) hx hb dL_law_774 (by decide) ?_
  refine lv_iadd hx hb dL_law_775 ?_
  refine lw_ld (i := i) (k := 5) hx hb hX hbl h (nI_add i 5) (by omega) hL dL_law_776 ?_
  refine lc_M (m' := m') K h (va_runV (As := [.int (xs (i + 1)), .int (xs (i + 2)), .int (xs (i + 3)), .int (xs (i + 4)), .int (xs (i + 5))]) (rest := [.int r]) ⟨hx, hb, hml, hown, hts⟩ (c_X12_go l D adM cy (xs (i + 1)) (xs (i + 2)) (xs (i + 3)) (xs (i + 4)) (xs (i + 5)) m rfl r m' e2) (cwV 5 hts gL_law_X12_go rfl rfl rfl (by decide +kernel) ⟨Nat.le_of_ble_eq_true rfl, Nat.le_of_ble_eq_true rfl⟩) (lp_M K h) rfl rfl hl.1 rfl (lv_room (Nat.le_of_ble_eq_true rfl)) dL_law_777 ⟨Nat.le_of_ble_eq_true rfl, Nat.le_of_ble_eq_true rfl⟩) (fun H locs h => ?_)
  refine lv_icmp_eq (tgt := 1437) hx hb dL_law_780 (by decide) (fun c_1 => ?_) (fun c_1 => ?_)
  · exact kk c' m' H locs h R1
  · exact absurd rfl c_1
set_option maxHeartbeats 4000000 in
set_option maxRecDepth 100000 in
theorem case_15 {p : Program} {l : Launch} {e : Env} {s : State} {m0 : MethodId} {args : Array Value} {below : List Frame} {meth : Method} {c0 : Code} {H : Heap} {locs : List Loc} {Q : State → Prop} {ls : Array Slot} {D : va_G} {cy : Nat → ClassId} {adC adM : Nat → Nat} {c m : Mm} {b L n i : Nat} {xs : Nat → Int32} (hx : p.tables.exec = Jvm.exec) (hb : c0.code = code) (hml : c0.maxLocals = 4) (hown : s.vm.findClass RL = some m0.cls) (hts : ∀ w ∈ wsL_law, w.before args s = true) (hX : va_X b L xs s s.heap) (hbl : b < s.heap.size) (hL : L ≤ 3584) (K : LK D cy adC adM s) (h : LI D cy adC adM c m s H locs) (hR : Rel n c m) (hn : n < 999999) (hi : i + 6 < L) (hl : lv_has ls 4 [(0, .ref b), (1, .ref (adC 0)), (2, .ref (adM 0)), (3, .int (nI i))])
    (kk : ∀ (c' m' : Mm) (H : Heap) (locs : List Loc), LI D cy adC adM c' m' s H locs → Rel (n + 1) c' m' → W p l e room_1 s m0 args below meth c0 H locs 600000 7302250 Q (F0 m0 1437 ls [])) : W p l e room_1 s m0 args below meth c0 H locs 600000 7302250 Q (F0 m0 785 ls []) := by
  obtain ⟨r, c', m', e1, e2, R1⟩ := sim_path hR (xs (i + 1)) (xs (i + 2)) (xs (i + 3))
  refine lv_aload_n hx hb dL_law_785 rfl (lv_at hl 1 rfl) ?_
  refine lv_aload_n hx hb dL_law_786 rfl (lv_at hl 0 rfl) ?_
  refine lv_iload_n hx hb dL_law_787 rfl (lv_at hl 3 rfl) ?_
  refine lv_iconst (v := 1) hx hb dL_law_788 (by decide) ?_
  refine lv_iadd hx hb dL_law_789 ?_
  refine lw_ld (i := i) (k := 1) hx hb hX hbl h (nI_add i 1) (by omega) hL dL_law_790 ?_
  refine lv_aload_n hx hb dL_law_791 rfl (lv_at hl 0 rfl) ?_
  refine lv_iload_n hx hb dL_law_792 rfl (lv_at hl 3 rfl) ?_
  refine lv_iconst (v := 2) hx hb dL_law_793 (by decide) ?_
  refine lv_iadd hx hb dL_law_794 ?_
  refine lw_ld (i := i) (k := 2) hx hb hX hbl h (nI_add i 2) (by omega) hL dL_law_795 ?_
  refine lv_aload_n hx hb dL_law_796 rfl (lv_at hl 0 rfl) ?_
  refine lv_iload_n hx hb dL_law_797 rfl (lv_at hl 3 rfl) ?_
  refine lv_iconst (v := 3) hx hb dL_law_798 (by decide) ?_
  refine lv_iadd hx hb dL_law_799 ?_
  refine lw_ld (i := i) (k := 3) hx hb hX hbl h (nI_add i 3) (by omega) hL dL_law_800 ?_
  refine lc_C (c' := c') K h (va_runV (As := [.int (xs (i + 1)), .int (xs (i + 2)), .int (xs (i + 3))]) (rest := []) ⟨hx, hb, hml, hown, hts⟩ (c_X11_path l D adC cy (xs (i + 1)) (xs (i + 2)) (xs (i + 3)) c rfl r c' e1) (cwV 3 hts gL_law_X11_path rfl rfl rfl (by decide +kernel) ⟨Nat.le_of_ble_eq_true rfl, Nat.le_of_ble_eq_true rfl⟩) (lp_C K h) rfl rfl hl.1 rfl (lv_room (Nat.le_of_ble_eq_true rfl)) dL_law_801 ⟨Nat.le_of_ble_eq_true rfl, Nat.le_of_ble_eq_true rfl⟩) (fun H locs h => ?_)
  refine lv_aload_n hx hb dL_law_804 rfl (lv_at hl 2 rfl) ?_
  refine lv_aload_n hx hb dL_law_805 rfl (lv_at hl 0 rfl) ?_
  refine lv_iload_n hx hb dL_law_806 rfl (lv_at hl 3 rfl) ?_
  refine lv_iconst (v := 1) hx hb dL_law_807 (by decide) ?_
  refine lv_iadd hx hb dL_law_808 ?_
  refine lw_ld (i := i) (k := 1) hx hb hX hbl h (nI_add i 1) (by omega) hL dL_law_809 ?_
  refine lv_aload_n hx hb dL_law_810 rfl (lv_at hl 0 rfl) ?_
  refine lv_iload_n hx hb dL_law_811 rfl (lv_at hl 3 rfl) ?_
  refine lv_iconst (v := 2) hx hb dL_law_812 (by decide) ?_
  refine lv_iadd hx hb dL_law_813 ?_
  refine lw_ld (i := i) (k := 2) hx hb hX hbl h (nI_add i 2) (by omega) hL dL_law_814 ?_
  refine lv_aload_n hx hb dL_law_815 rfl (lv_at hl 0 rfl) ?_
  refine lv_iload_n hx hb dL_law_816 rfl (lv_at hl 3 rfl) ?_
  refine lv_iconst (v := 3) hx hb dL_law_817 (by decide) ?_
  refine lv_iadd hx hb dL_law_818 ?_
  refine lw_ld (i := i) (k := 3) hx hb hX hbl h (nI_add i 3) (by omega) hL dL_law_819 ?_
  refine lc_M (m' := m') K h (va_runV (As := [.int (xs (i + 1)), .int (xs (i + 2)), .int (xs (i + 3))]) (rest := [.int r]) ⟨hx, hb, hml, hown, hts⟩ (c_X12_path l D adM cy (xs (i + 1)) (xs (i + 2)) (xs (i + 3)) m rfl r m' e2) (cwV 3 hts gL_law_X12_path rfl rfl rfl (by decide +kernel) ⟨Nat.le_of_ble_eq_true rfl, Nat.le_of_ble_eq_true rfl⟩) (lp_M K h) rfl rfl hl.1 rfl (lv_room (Nat.le_of_ble_eq_true rfl)) dL_law_820 ⟨Nat.le_of_ble_eq_true rfl, Nat.le_of_ble_eq_true rfl⟩) (fun H locs h => ?_)
  refine lv_icmp_eq (tgt := 1437) hx hb dL_law_823 (by decide) (fun c_1 => ?_) (fun c_1 => ?_)
  · exact kk c' m' H locs h R1
  · exact absurd rfl c_1
