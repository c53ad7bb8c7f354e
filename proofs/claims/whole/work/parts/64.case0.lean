theorem bool01 (x : Int32) : (if x = 0 then (0 : Int32) else 1) = 0 ∨ (if x = 0 then (0 : Int32) else 1) = 1 := by
  by_cases w : x = 0
  · exact Or.inl (if_pos w)
  · exact Or.inr (if_neg w)
theorem kL49 : Cond.constantLong RL 49 (4294967295) ∈ wsL_law := List.mem_of_getElem? (i := 6) (by decide +kernel)
/-- x != 0, as the law writes it -/
theorem cz_bool {p : Program} {l : Launch} {e : Env} {R : Room} {s : State} {m : MethodId} {args : Array Value} {below : List Frame} {meth : Method} {c : Code} {H : Heap} {locs : List Loc} {cells slots : Nat} {Q : State → Prop} {cc : ByteArray} {pc : Nat} {ls : Array Slot} {rest : List Value} {x : Int32} {o1 o2 : Int} {t1 : Nat} (hx : p.tables.exec = Jvm.exec) (hb : c.code = cc) (d1 : decode cc pc = .ok (.ifCond .eq o1, 3)) (d2 : decode cc (pc + 3) = .ok (.iconst 1, 1)) (d3 : decode cc (pc + 3 + 1) = .ok (.goto o2, 3)) (d4 : decode cc t1 = .ok (.iconst 0, 1)) (h1 : (pc : Int) + o1 = (t1 : Int)) (h2 : ((pc + 3 + 1 : Nat) : Int) + o2 = ((t1 + 1 : Nat) : Int))
    (k : W p l e R s m args below meth c H locs cells slots Q (F0 m (t1 + 1) ls (.int (if x = 0 then (0 : Int32) else 1) :: rest))) : W p l e R s m args below meth c H locs cells slots Q (F0 m pc ls (.int x :: rest)) := by
  refine lv_if_eq (tgt := t1) hx hb d1 h1 (fun w => ?_) (fun w => ?_)
  · refine lv_iconst (v := 0) hx hb d4 (by decide) ?_
    rw [if_pos w] at k
    exact k
  · refine lv_iconst (v := 1) hx hb d2 (by decide) ?_
    refine lv_goto (tgt := t1 + 1) hx hb d3 h2 ?_
    rw [if_neg w] at k
    exact k
set_option maxHeartbeats 4000000 in
set_option maxRecDepth 100000 in
theorem case_0 {p : Program} {l : Launch} {e : Env} {s : State} {m0 : MethodId} {args : Array Value} {below : List Frame} {meth : Method} {c0 : Code} {H : Heap} {locs : List Loc} {Q : State → Prop} {ls : Array Slot} {D : va_G} {cy : Nat → ClassId} {adC adM : Nat → Nat} {c m : Mm} {b L n i : Nat} {xs : Nat → Int32} (hx : p.tables.exec = Jvm.exec) (hb : c0.code = code) (hml : c0.maxLocals = 4) (hown : s.vm.findClass RL = some m0.cls) (hts : ∀ w ∈ wsL_law, w.before args s = true) (hX : va_X b L xs s s.heap) (hbl : b < s.heap.size) (hL : L ≤ 3584) (K : LK D cy adC adM s) (h : LI D cy adC adM c m s H locs) (hR : Rel n c m) (hn : n < 999999) (hi : i + 6 < L) (hl : lv_has ls 4 [(0, .ref b), (1, .ref (adC 0)), (2, .ref (adM 0)), (3, .int (nI i))])
    (kk : ∀ (c' m' : Mm) (H : Heap) (locs : List Loc), LI D cy adC adM c' m' s H locs → Rel (n + 1) c' m' → W p l e room_1 s m0 args below meth c0 H locs 600000 7302250 Q (F0 m0 1437 ls [])) : W p l e room_1 s m0 args below meth c0 H locs 600000 7302250 Q (F0 m0 172 ls []) := by
  obtain ⟨r, c', m', e1, e2, R1⟩ := sim_person hR (xs (i + 1)) (xs (i + 2))
  refine lv_aload_n hx hb dL_law_172 rfl (lv_at hl 1 rfl) ?_
  refine lv_aload_n hx hb dL_law_173 rfl (lv_at hl 0 rfl) ?_
  refine lv_iload_n hx hb dL_law_174 rfl (lv_at hl 3 rfl) ?_
  refine lv_iconst (v := 1) hx hb dL_law_175 (by decide) ?_
  refine lv_iadd hx hb dL_law_176 ?_
  refine lw_ld (i := i) (k := 1) hx hb hX hbl h (nI_add i 1) (by omega) hL dL_law_177 ?_
  refine lv_aload_n hx hb dL_law_178 rfl (lv_at hl 0 rfl) ?_
  refine lv_iload_n hx hb dL_law_179 rfl (lv_at hl 3 rfl) ?_
  refine lv_iconst (v := 2) hx hb dL_law_180 (by decide) ?_
  refine lv_iadd hx hb dL_law_181 ?_
  refine lw_ld (i := i) (k := 2) hx hb hX hbl h (nI_add i 2) (by omega) hL dL_law_182 ?_
  refine lc_C (c' := c') K h (va_runV (As := [.int (xs (i + 1)), .int (xs (i + 2))]) (rest := []) ⟨hx, hb, hml, hown, hts⟩ (c_X11_person l D adC cy (xs (i + 1)) (xs (i + 2)) c rfl r c' e1) (cwV 2 hts gL_law_X11_person rfl rfl rfl (by decide +kernel) ⟨Nat.le_of_ble_eq_true rfl, Nat.le_of_ble_eq_true rfl⟩) (lp_C K h) rfl rfl hl.1 rfl (lv_room (Nat.le_of_ble_eq_true rfl)) dL_law_183 ⟨Nat.le_of_ble_eq_true rfl, Nat.le_of_ble_eq_true rfl⟩) (fun H locs h => ?_)
  refine lv_aload_n hx hb dL_law_186 rfl (lv_at hl 2 rfl) ?_
  refine lv_aload_n hx hb dL_law_187 rfl (lv_at hl 0 rfl) ?_
  refine lv_iload_n hx hb dL_law_188 rfl (lv_at hl 3 rfl) ?_
  refine lv_iconst (v := 1) hx hb dL_law_189 (by decide) ?_
  refine lv_iadd hx hb dL_law_190 ?_
  refine lw_ld (i := i) (k := 1) hx hb hX hbl h (nI_add i 1) (by omega) hL dL_law_191 ?_
  refine lv_aload_n hx hb dL_law_192 rfl (lv_at hl 0 rfl) ?_
  refine lv_iload_n hx hb dL_law_193 rfl (lv_at hl 3 rfl) ?_
  refine lv_iconst (v := 2) hx hb dL_law_194 (by decide) ?_
  refine lv_iadd hx hb dL_law_195 ?_
  refine lw_ld (i := i) (k := 2) hx hb hX hbl h (nI_add i 2) (by omega) hL dL_law_196 ?_
  refine lc_M (m' := m') K h (va_runV (As := [.int (xs (i + 1)), .int (xs (i + 2))]) (rest := [.int r]) ⟨hx, hb, hml, hown, hts⟩ (c_X12_person l D adM cy (xs (i + 1)) (xs (i + 2)) m rfl r m' e2) (cwV 2 hts gL_law_X12_person rfl rfl rfl (by decide +kernel) ⟨Nat.le_of_ble_eq_true rfl, Nat.le_of_ble_eq_true rfl⟩) (lp_M K h) rfl rfl hl.1 rfl (lv_room (Nat.le_of_ble_eq_true rfl)) dL_law_197 ⟨Nat.le_of_ble_eq_true rfl, Nat.le_of_ble_eq_true rfl⟩) (fun H locs h => ?_)
  refine lv_icmp_eq (tgt := 1437) hx hb dL_law_200 (by decide) (fun c_1 => ?_) (fun c_1 => ?_)
  · exact kk c' m' H locs h R1
  · exact absurd rfl c_1
set_option maxHeartbeats 4000000 in
set_option maxRecDepth 100000 in
theorem case_1 {p : Program} {l : Launch} {e : Env} {s : State} {m0 : MethodId} {args : Array Value} {below : List Frame} {meth : Method} {c0 : Code} {H : Heap} {locs : List Loc} {Q : State → Prop} {ls : Array Slot} {D : va_G} {cy : Nat → ClassId} {adC adM : Nat → Nat} {c m : Mm} {b L n i : Nat} {xs : Nat → Int32} (hx : p.tables.exec = Jvm.exec) (hb : c0.code = code) (hml : c0.maxLocals = 4) (hown : s.vm.findClass RL = some m0.cls) (hts : ∀ w ∈ wsL_law, w.before args s = true) (hX : va_X b L xs s s.heap) (hbl : b < s.heap.size) (hL : L ≤ 3584) (K : LK D cy adC adM s) (h : LI D cy adC adM c m s H locs) (hR : Rel n c m) (hn : n < 999999) (hi : i + 6 < L) (hl : lv_has ls 4 [(0, .ref b), (1, .ref (adC 0)), (2, .ref (adM 0)), (3, .int (nI i))])
    (kk : ∀ (c' m' : Mm) (H : Heap) (locs : List Loc), LI D cy adC adM c' m' s H locs → Rel (n + 1) c' m' → W p l e room_1 s m0 args below meth c0 H locs 600000 7302250 Q (F0 m0 1437 ls [])) : W p l e room_1 s m0 args below meth c0 H locs 600000 7302250 Q (F0 m0 205 ls []) := by
  obtain ⟨r, c', m', e1, e2, R1⟩ := sim_shoe hR (xs (i + 1)) (xs (i + 2)) (xs (i + 3)) (xs (i + 4))
  refine lv_aload_n hx hb dL_law_205 rfl (lv_at hl 1 rfl) ?_
  refine lv_aload_n hx hb dL_law_206 rfl (lv_at hl 0 rfl) ?_
  refine lv_iload_n hx hb dL_law_207 rfl (lv_at hl 3 rfl) ?_
  refine lv_iconst (v := 1) hx hb dL_law_208 (by decide) ?_
  refine lv_iadd hx hb dL_law_209 ?_
  refine lw_ld (i := i) (k := 1) hx hb hX hbl h (nI_add i 1) (by omega) hL dL_law_210 ?_
  refine lv_aload_n hx hb dL_law_211 rfl (lv_at hl 0 rfl) ?_
  refine lv_iload_n hx hb dL_law_212 rfl (lv_at hl 3 rfl) ?_
  refine lv_iconst (v := 2) hx hb dL_law_213 (by decide) ?_
  refine lv_iadd hx hb dL_law_214 ?_
  refine lw_ld (i := i) (k := 2) hx hb hX hbl h (nI_add i 2) (by omega) hL dL_law_215 ?_
  refine lv_aload_n hx hb dL_law_216 rfl (lv_at hl 0 rfl) ?_
  refine lv_iload_n hx hb dL_law_217 rfl (lv_at hl 3 rfl) ?_
  refine lv_iconst (v := 3) hx hb dL_law_218 (by decide) ?_
  refine lv_iadd hx hb dL_law_219 ?_
  refine lw_ld (i := i) (k := 3) hx hb hX hbl h (nI_add i 3) (by omega) hL dL_law_220 ?_
  refine lv_aload_n hx hb dL_law_221 rfl (lv_at hl 0 rfl) ?_
  refine lv_iload_n hx hb dL_law_222 rfl (lv_at hl 3 rfl) ?_
  refine lv_iconst (v := 4) hx hb dL_law_223 (by decide) ?_
  refine lv_iadd hx hb dL_law_224 ?_
  refine lw_ld (i := i) (k := 4) hx hb hX hbl h (nI_add i 4) (by omega) hL dL_law_225 ?_
  refine lc_C (c' := c') K h (va_runV (As := [.int (xs (i + 1)), .int (xs (i + 2)), .int (xs (i + 3)), .int (xs (i + 4))]) (rest := []) ⟨hx, hb, hml, hown, hts⟩ (c_X11_shoe l D adC cy (xs (i + 1)) (xs (i + 2)) (xs (i + 3)) (xs (i + 4)) c rfl r c' e1) (cwV 4 hts gL_law_X11_shoe rfl rfl rfl (by decide +kernel) ⟨Nat.le_of_ble_eq_true rfl, Nat.le_of_ble_eq_true rfl⟩) (lp_C K h) rfl rfl hl.1 rfl (lv_room (Nat.le_of_ble_eq_true rfl)) dL_law_226 ⟨Nat.le_of_ble_eq_true rfl, Nat.le_of_ble_eq_true rfl⟩) (fun H locs h => ?_)
  refine lv_aload_n hx hb dL_law_229 rfl (lv_at hl 2 rfl) ?_
  refine lv_aload_n hx hb dL_law_230 rfl (lv_at hl 0 rfl) ?_
  refine lv_iload_n hx hb dL_law_231 rfl (lv_at hl 3 rfl) ?_
  refine lv_iconst (v := 1) hx hb dL_law_232 (by decide) ?_
  refine lv_iadd hx hb dL_law_233 ?_
  refine lw_ld (i := i) (k := 1) hx hb hX hbl h (nI_add i 1) (by omega) hL dL_law_234 ?_
  refine lv_aload_n hx hb dL_law_235 rfl (lv_at hl 0 rfl) ?_
  refine lv_iload_n hx hb dL_law_236 rfl (lv_at hl 3 rfl) ?_
  refine lv_iconst (v := 2) hx hb dL_law_237 (by decide) ?_
  refine lv_iadd hx hb dL_law_238 ?_
  refine lw_ld (i := i) (k := 2) hx hb hX hbl h (nI_add i 2) (by omega) hL dL_law_239 ?_
  refine lv_aload_n hx hb dL_law_240 rfl (lv_at hl 0 rfl) ?_
  refine lv_iload_n hx hb dL_law_241 rfl (lv_at hl 3 rfl) ?_
  refine lv_iconst (v := 3) hx hb dL_law_242 (by decide) ?_
  refine lv_iadd hx hb dL_law_243 ?_
  refine lw_ld (i := i) (k := 3) hx hb hX hbl h (nI_add i 3) (by omega) hL dL_law_244 ?_
  refine lv_aload_n hx hb dL_law_245 rfl (lv_at hl 0 rfl) ?_
  refine lv_iload_n hx hb dL_law_246 rfl (lv_at hl 3 rfl) ?_
  refine lv_iconst (v := 4) hx hb dL_law_247 (by decide) ?_
  refine lv_iadd hx hb dL_law_248 ?_
  refine lw_ld (i := i) (k := 4) hx hb hX hbl h (nI_add i 4) (by omega) hL dL_law_249 ?_
  refine lc_M (m' := m') K h (va_runV (As := [.int (xs (i + 1)), .int (xs (i + 2)), .int (xs (i + 3)), .int (xs (i + 4))]) (rest := [.int r]) ⟨hx, hb, hml, hown, hts⟩ (c_X12_shoe l D adM cy (xs (i + 1)) (xs (i + 2)) (xs (i + 3)) (xs (i + 4)) m rfl r m' e2) (cwV 4 hts gL_law_X12_shoe rfl rfl rfl (by decide +kernel) ⟨Nat.le_of_ble_eq_true rfl, Nat.le_of_ble_eq_true rfl⟩) (lp_M K h) rfl rfl hl.1 rfl (lv_room (Nat.le_of_ble_eq_true rfl)) dL_law_250 ⟨Nat.le_of_ble_eq_true rfl, Nat.le_of_ble_eq_true rfl⟩) (fun H locs h => ?_)
  refine lv_icmp_eq (tgt := 1437) hx hb dL_law_253 (by decide) (fun c_1 => ?_) (fun c_1 => ?_)
  · exact kk c' m' H locs h R1
  · exact absurd rfl c_1
set_option maxHeartbeats 4000000 in
set_option maxRecDepth 100000 in
theorem case_2 {p : Program} {l : Launch} {e : Env} {s : State} {m0 : MethodId} {args : Array Value} {below : List Frame} {meth : Method} {c0 : Code} {H : Heap} {locs : List Loc} {Q : State → Prop} {ls : Array Slot} {D : va_G} {cy : Nat → ClassId} {adC adM : Nat → Nat} {c m : Mm} {b L n i : Nat} {xs : Nat → Int32} (hx : p.tables.exec = Jvm.exec) (hb : c0.code = code) (hml : c0.maxLocals = 4) (hown : s.vm.findClass RL = some m0.cls) (hts : ∀ w ∈ wsL_law, w.before args s = true) (hX : va_X b L xs s s.heap) (hbl : b < s.heap.size) (hL : L ≤ 3584) (K : LK D cy adC adM s) (h : LI D cy adC adM c m s H locs) (hR : Rel n c m) (hn : n < 999999) (hi : i + 6 < L) (hl : lv_has ls 4 [(0, .ref b), (1, .ref (adC 0)), (2, .ref (adM 0)), (3, .int (nI i))])
    (kk : ∀ (c' m' : Mm) (H : Heap) (locs : List Loc), LI D cy adC adM c' m' s H locs → Rel (n + 1) c' m' → W p l e room_1 s m0 args below meth c0 H locs 600000 7302250 Q (F0 m0 1437 ls [])) : W p l e room_1 s m0 args below meth c0 H locs 600000 7302250 Q (F0 m0 258 ls []) := by
  obtain ⟨r, e1, e2, R1⟩ := SimP.to (sim_told hR (xs (i + 1)) (xs (i + 2))) hR
  refine lv_aload_n hx hb dL_law_258 rfl (lv_at hl 1 rfl) ?_
  refine lv_aload_n hx hb dL_law_259 rfl (lv_at hl 0 rfl) ?_
  refine lv_iload_n hx hb dL_law_260 rfl (lv_at hl 3 rfl) ?_
  refine lv_iconst (v := 1) hx hb dL_law_261 (by decide) ?_
  refine lv_iadd hx hb dL_law_262 ?_
  refine lw_ld (i := i) (k := 1) hx hb hX hbl h (nI_add i 1) (by omega) hL dL_law_263 ?_
  refine lv_aload_n hx hb dL_law_264 rfl (lv_at hl 0 rfl) ?_
  refine lv_iload_n hx hb dL_law_265 rfl (lv_at hl 3 rfl) ?_
  refine lv_iconst (v := 2) hx hb dL_law_266 (by decide) ?_
  refine lv_iadd hx hb dL_law_267 ?_
  refine lw_ld (i := i) (k := 2) hx hb hX hbl h (nI_add i 2) (by omega) hL dL_law_268 ?_
  refine lc_C (c' := c) K h (va_runV (As := [.int (xs (i + 1)), .int (xs (i + 2))]) (rest := []) ⟨hx, hb, hml, hown, hts⟩ (c_X11_told l D adC cy (xs (i + 1)) (xs (i + 2)) c rfl r e1) (cwV 2 hts gL_law_X11_told rfl rfl rfl (by decide +kernel) ⟨Nat.le_of_ble_eq_true rfl, Nat.le_of_ble_eq_true rfl⟩) (lp_C K h) rfl rfl hl.1 rfl (lv_room (Nat.le_of_ble_eq_true rfl)) dL_law_269 ⟨Nat.le_of_ble_eq_true rfl, Nat.le_of_ble_eq_true rfl⟩) (fun H locs h => ?_)
  refine lv_aload_n hx hb dL_law_272 rfl (lv_at hl 2 rfl) ?_
  refine lv_aload_n hx hb dL_law_273 rfl (lv_at hl 0 rfl) ?_
  refine lv_iload_n hx hb dL_law_274 rfl (lv_at hl 3 rfl) ?_
  refine lv_iconst (v := 1) hx hb dL_law_275 (by decide) ?_
  refine lv_iadd hx hb dL_law_276 ?_
  refine lw_ld (i := i) (k := 1) hx hb hX hbl h (nI_add i 1) (by omega) hL dL_law_277 ?_
  refine lv_aload_n hx hb dL_law_278 rfl (lv_at hl 0 rfl) ?_
  refine lv_iload_n hx hb dL_law_279 rfl (lv_at hl 3 rfl) ?_
  refine lv_iconst (v := 2) hx hb dL_law_280 (by decide) ?_
  refine lv_iadd hx hb dL_law_281 ?_
  refine lw_ld (i := i) (k := 2) hx hb hX hbl h (nI_add i 2) (by omega) hL dL_law_282 ?_
  refine lc_M (m' := m) K h (va_runV (As := [.int (xs (i + 1)), .int (xs (i + 2))]) (rest := [.int r]) ⟨hx, hb, hml, hown, hts⟩ (c_X12_told l D adM cy (xs (i + 1)) (xs (i + 2)) m rfl r e2) (cwV 2 hts gL_law_X12_told rfl rfl rfl (by decide +kernel) ⟨Nat.le_of_ble_eq_true rfl, Nat.le_of_ble_eq_true rfl⟩) (lp_M K h) rfl rfl hl.1 rfl (lv_room (Nat.le_of_ble_eq_true rfl)) dL_law_283 ⟨Nat.le_of_ble_eq_true rfl, Nat.le_of_ble_eq_true rfl⟩) (fun H locs h => ?_)
  refine lv_icmp_eq (tgt := 1437) hx hb dL_law_286 (by decide) (fun c_1 => ?_) (fun c_1 => ?_)
  · exact kk c m H locs h R1
  · exact absurd rfl c_1
set_option maxHeartbeats 4000000 in
set_option maxRecDepth 100000 in
theorem case_3 {p : Program} {l : Launch} {e : Env} {s : State} {m0 : MethodId} {args : Array Value} {below : List Frame} {meth : Method} {c0 : Code} {H : Heap} {locs : List Loc} {Q : State → Prop} {ls : Array Slot} {D : va_G} {cy : Nat → ClassId} {adC adM : Nat → Nat} {c m : Mm} {b L n i : Nat} {xs : Nat → Int32} (hx : p.tables.exec = Jvm.exec) (hb : c0.code = code) (hml : c0.maxLocals = 4) (hown : s.vm.findClass RL = some m0.cls) (hts : ∀ w ∈ wsL_law, w.before args s = true) (hX : va_X b L xs s s.heap) (hbl : b < s.heap.size) (hL : L ≤ 3584) (K : LK D cy adC adM s) (h : LI D cy adC adM c m s H locs) (hR : Rel n c m) (hn : n < 999999) (hi : i + 6 < L) (hl : lv_has ls 4 [(0, .ref b), (1, .ref (adC 0)), (2, .ref (adM 0)), (3, .int (nI i))])
    (kk : ∀ (c' m' : Mm) (H : Heap) (locs : List Loc), LI D cy adC adM c' m' s H locs → Rel (n + 1) c' m' → W p l e room_1 s m0 args below meth c0 H locs 600000 7302250 Q (F0 m0 1437 ls [])) : W p l e room_1 s m0 args below meth c0 H locs 600000 7302250 Q (F0 m0 291 ls []) := by
  obtain ⟨r, c', m', e1, e2, R1⟩ := sim_stamp hR (xs (i + 1)) (if (xs (i + 2)) = 0 then (0 : Int32) else 1) (bool01 _)
  refine lv_aload_n hx hb dL_law_291 rfl (lv_at hl 1 rfl) ?_
  refine lv_aload_n hx hb dL_law_292 rfl (lv_at hl 0 rfl) ?_
  refine lv_iload_n hx hb dL_law_293 rfl (lv_at hl 3 rfl) ?_
  refine lv_iconst (v := 1) hx hb dL_law_294 (by decide) ?_
  refine lv_iadd hx hb dL_law_295 ?_
  refine lw_ld (i := i) (k := 1) hx hb hX hbl h (nI_add i 1) (by omega) hL dL_law_296 ?_
  refine lv_aload_n hx hb dL_law_297 rfl (lv_at hl 0 rfl) ?_
  refine lv_iload_n hx hb dL_law_298 rfl (lv_at hl 3 rfl) ?_
  refine lv_iconst (v := 2) hx hb dL_law_299 (by decide) ?_
  refine lv_iadd hx hb dL_law_300 ?_
  refine lw_ld (i := i) (k := 2) hx hb hX hbl h (nI_add i 2) (by omega) hL dL_law_301 ?_
  refine cz_bool (x := (xs (i + 2))) hx hb dL_law_302 dL_law_305 dL_law_306 dL_law_309 (by decide) (by decide) ?_
  refine lc_C (c' := c') K h (va_runV (As := [.int (xs (i + 1)), .int (if (xs (i + 2)) = 0 then (0 : Int32) else 1)]) (rest := []) ⟨hx, hb, hml, hown, hts⟩ (c_X11_stamp l D adC cy (xs (i + 1)) (if (xs (i + 2)) = 0 then (0 : Int32) else 1) c rfl r c' e1) (cwV 2 hts gL_law_X11_stamp rfl rfl rfl (by decide +kernel) ⟨Nat.le_of_ble_eq_true rfl, Nat.le_of_ble_eq_true rfl⟩) (lp_C K h) rfl rfl hl.1 rfl (lv_room (Nat.le_of_ble_eq_true rfl)) dL_law_310 ⟨Nat.le_of_ble_eq_true rfl, Nat.le_of_ble_eq_true rfl⟩) (fun H locs h => ?_)
  refine lv_aload_n hx hb dL_law_313 rfl (lv_at hl 2 rfl) ?_
  refine lv_aload_n hx hb dL_law_314 rfl (lv_at hl 0 rfl) ?_
  refine lv_iload_n hx hb dL_law_315 rfl (lv_at hl 3 rfl) ?_
  refine lv_iconst (v := 1) hx hb dL_law_316 (by decide) ?_
  refine lv_iadd hx hb dL_law_317 ?_
  refine lw_ld (i := i) (k := 1) hx hb hX hbl h (nI_add i 1) (by omega) hL dL_law_318 ?_
  refine lv_aload_n hx hb dL_law_319 rfl (lv_at hl 0 rfl) ?_
  refine lv_iload_n hx hb dL_law_320 rfl (lv_at hl 3 rfl) ?_
  refine lv_iconst (v := 2) hx hb dL_law_321 (by decide) ?_
  refine lv_iadd hx hb dL_law_322 ?_
  refine lw_ld (i := i) (k := 2) hx hb hX hbl h (nI_add i 2) (by omega) hL dL_law_323 ?_
  refine cz_bool (x := (xs (i + 2))) hx hb dL_law_324 dL_law_327 dL_law_328 dL_law_331 (by decide) (by decide) ?_
  refine lc_M (m' := m') K h (va_runV (As := [.int (xs (i + 1)), .int (if (xs (i + 2)) = 0 then (0 : Int32) else 1)]) (rest := [.int r]) ⟨hx, hb, hml, hown, hts⟩ (c_X12_stamp l D adM cy (xs (i + 1)) (if (xs (i + 2)) = 0 then (0 : Int32) else 1) m rfl r m' e2) (cwV 2 hts gL_law_X12_stamp rfl rfl rfl (by decide +kernel) ⟨Nat.le_of_ble_eq_true rfl, Nat.le_of_ble_eq_true rfl⟩) (lp_M K h) rfl rfl hl.1 rfl (lv_room (Nat.le_of_ble_eq_true rfl)) dL_law_332 ⟨Nat.le_of_ble_eq_true rfl, Nat.le_of_ble_eq_true rfl⟩) (fun H locs h => ?_)
  refine lv_icmp_eq (tgt := 1437) hx hb dL_law_335 (by decide) (fun c_1 => ?_) (fun c_1 => ?_)
  · exact kk c' m' H locs h R1
  · exact absurd rfl c_1
set_option maxHeartbeats 4000000 in
set_option maxRecDepth 100000 in
theorem case_4 {p : Program} {l : Launch} {e : Env} {s : State} {m0 : MethodId} {args : Array Value} {below : List Frame} {meth : Method} {c0 : Code} {H : Heap} {locs : List Loc} {Q : State → Prop} {ls : Array Slot} {D : va_G} {cy : Nat → ClassId} {adC adM : Nat → Nat} {c m : Mm} {b L n i : Nat} {xs : Nat → Int32} (hx : p.tables.exec = Jvm.exec) (hb : c0.code = code) (hml : c0.maxLocals = 4) (hown : s.vm.findClass RL = some m0.cls) (hts : ∀ w ∈ wsL_law, w.before args s = true) (hX : va_X b L xs s s.heap) (hbl : b < s.heap.size) (hL : L ≤ 3584) (K : LK D cy adC adM s) (h : LI D cy adC adM c m s H locs) (hR : Rel n c m) (hn : n < 999999) (hi : i + 6 < L) (hl : lv_has ls 4 [(0, .ref b), (1, .ref (adC 0)), (2, .ref (adM 0)), (3, .int (nI i))])
    (kk : ∀ (c' m' : Mm) (H : Heap) (locs : List Loc), LI D cy adC adM c' m' s H locs → Rel (n + 1) c' m' → W p l e room_1 s m0 args below meth c0 H locs 600000 7302250 Q (F0 m0 1437 ls [])) : W p l e room_1 s m0 args below meth c0 H locs 600000 7302250 Q (F0 m0 340 ls []) := by
  obtain ⟨r, c', m', e1, e2, R1⟩ := sim_give hR (xs (i + 1)) (xs (i + 2))
  refine lv_aload_n hx hb dL_law_340 rfl (lv_at hl 1 rfl) ?_
  refine lv_aload_n hx hb dL_law_341 rfl (lv_at hl 0 rfl) ?_
  refine lv_iload_n hx hb dL_law_342 rfl (lv_at hl 3 rfl) ?_
  refine lv_iconst (v := 1) hx hb dL_law_343 (by decide) ?_
  refine lv_iadd hx hb dL_law_344 ?_
  refine lw_ld (i := i) (k := 1) hx hb hX hbl h (nI_add i 1) (by omega) hL dL_law_345 ?_
  refine lv_aload_n hx hb dL_law_346 rfl (lv_at hl 0 rfl) ?_
  refine lv_iload_n hx hb dL_law_347 rfl (lv_at hl 3 rfl) ?_
  refine lv_iconst (v := 2) hx hb dL_law_348 (by decide) ?_
  refine lv_iadd hx hb dL_law_349 ?_
  refine lw_ld (i := i) (k := 2) hx hb hX hbl h (nI_add i 2) (by omega) hL dL_law_350 ?_
  refine lc_C (c' := c') K h (va_runV (As := [.int (xs (i + 1)), .int (xs (i + 2))]) (rest := []) ⟨hx, hb, hml, hown, hts⟩ (c_X11_give l D adC cy (xs (i + 1)) (xs (i + 2)) c rfl r c' e1) (cwV 2 hts gL_law_X11_give rfl rfl rfl (by decide +kernel) ⟨Nat.le_of_ble_eq_true rfl, Nat.le_of_ble_eq_true rfl⟩) (lp_C K h) rfl rfl hl.1 rfl (lv_room (Nat.le_of_ble_eq_true rfl)) dL_law_351 ⟨Nat.le_of_ble_eq_true rfl, Nat.le_of_ble_eq_true rfl⟩) (fun H locs h => ?_)
  refine lv_aload_n hx hb dL_law_354 rfl (lv_at hl 2 rfl) ?_
  refine lv_aload_n hx hb dL_law_355 rfl (lv_at hl 0 rfl) ?_
  refine lv_iload_n hx hb dL_law_356 rfl (lv_at hl 3 rfl) ?_
  refine lv_iconst (v := 1) hx hb dL_law_357 (by decide) ?_
  refine lv_iadd hx hb dL_law_358 ?_
  refine lw_ld (i := i) (k := 1) hx hb hX hbl h (nI_add i 1) (by omega) hL dL_law_359 ?_
  refine lv_aload_n hx hb dL_law_360 rfl (lv_at hl 0 rfl) ?_
  refine lv_iload_n hx hb dL_law_361 rfl (lv_at hl 3 rfl) ?_
  refine lv_iconst (v := 2) hx hb dL_law_362 (by decide) ?_
  refine lv_iadd hx hb dL_law_363 ?_
  refine lw_ld (i := i) (k := 2) hx hb hX hbl h (nI_add i 2) (by omega) hL dL_law_364 ?_
  refine lc_M (m' := m') K h (va_runV (As := [.int (xs (i + 1)), .int (xs (i + 2))]) (rest := [.int r]) ⟨hx, hb, hml, hown, hts⟩ (c_X12_give l D adM cy (xs (i + 1)) (xs (i + 2)) m rfl r m' e2) (cwV 2 hts gL_law_X12_give rfl rfl rfl (by decide +kernel) ⟨Nat.le_of_ble_eq_true rfl, Nat.le_of_ble_eq_true rfl⟩) (lp_M K h) rfl rfl hl.1 rfl (lv_room (Nat.le_of_ble_eq_true rfl)) dL_law_365 ⟨Nat.le_of_ble_eq_true rfl, Nat.le_of_ble_eq_true rfl⟩) (fun H locs h => ?_)
  refine lv_icmp_eq (tgt := 1437) hx hb dL_law_368 (by decide) (fun c_1 => ?_) (fun c_1 => ?_)
  · exact kk c' m' H locs h R1
  · exact absurd rfl c_1
set_option maxHeartbeats 4000000 in
set_option maxRecDepth 100000 in
theorem case_5 {p : Program} {l : Launch} {e : Env} {s : State} {m0 : MethodId} {args : Array Value} {below : List Frame} {meth : Method} {c0 : Code} {H : Heap} {locs : List Loc} {Q : State → Prop} {ls : Array Slot} {D : va_G} {cy : Nat → ClassId} {adC adM : Nat → Nat} {c m : Mm} {b L n i : Nat} {xs : Nat → Int32} (hx : p.tables.exec = Jvm.exec) (hb : c0.code = code) (hml : c0.maxLocals = 4) (hown : s.vm.findClass RL = some m0.cls) (hts : ∀ w ∈ wsL_law, w.before args s = true) (hX : va_X b L xs s s.heap) (hbl : b < s.heap.size) (hL : L ≤ 3584) (K : LK D cy adC adM s) (h : LI D cy adC adM c m s H locs) (hR : Rel n c m) (hn : n < 999999) (hi : i + 6 < L) (hl : lv_has ls 4 [(0, .ref b), (1, .ref (adC 0)), (2, .ref (adM 0)), (3, .int (nI i))])
    (kk : ∀ (c' m' : Mm) (H : Heap) (locs : List Loc), LI D cy adC adM c' m' s H locs → Rel (n + 1) c' m' → W p l e room_1 s m0 args below meth c0 H locs 600000 7302250 Q (F0 m0 1437 ls [])) : W p l e room_1 s m0 args below meth c0 H locs 600000 7302250 Q (F0 m0 373 ls []) := by
  obtain ⟨r, e1, e2, R1⟩ := SimP.to (sim_of hR (xs (i + 1)) (xs (i + 2))) hR
  refine lv_aload_n hx hb dL_law_373 rfl (lv_at hl 1 rfl) ?_
  refine lv_aload_n hx hb dL_law_374 rfl (lv_at hl 0 rfl) ?_
  refine lv_iload_n hx hb dL_law_375 rfl (lv_at hl 3 rfl) ?_
  refine lv_iconst (v := 1) hx hb dL_law_376 (by decide) ?_
  refine lv_iadd hx hb dL_law_377 ?_
  refine lw_ld (i := i) (k := 1) hx hb hX hbl h (nI_add i 1) (by omega) hL dL_law_378 ?_
  refine lv_aload_n hx hb dL_law_379 rfl (lv_at hl 0 rfl) ?_
  refine lv_iload_n hx hb dL_law_380 rfl (lv_at hl 3 rfl) ?_
  refine lv_iconst (v := 2) hx hb dL_law_381 (by decide) ?_
  refine lv_iadd hx hb dL_law_382 ?_
  refine lw_ld (i := i) (k := 2) hx hb hX hbl h (nI_add i 2) (by omega) hL dL_law_383 ?_
  refine lc_C (c' := c) K h (va_runV (As := [.int (xs (i + 1)), .int (xs (i + 2))]) (rest := []) ⟨hx, hb, hml, hown, hts⟩ (c_X11_of l D adC cy (xs (i + 1)) (xs (i + 2)) c rfl r e1) (cwV 2 hts gL_law_X11_of rfl rfl rfl (by decide +kernel) ⟨Nat.le_of_ble_eq_true rfl, Nat.le_of_ble_eq_true rfl⟩) (lp_C K h) rfl rfl hl.1 rfl (lv_room (Nat.le_of_ble_eq_true rfl)) dL_law_384 ⟨Nat.le_of_ble_eq_true rfl, Nat.le_of_ble_eq_true rfl⟩) (fun H locs h => ?_)
  refine lv_aload_n hx hb dL_law_387 rfl (lv_at hl 2 rfl) ?_
  refine lv_aload_n hx hb dL_law_388 rfl (lv_at hl 0 rfl) ?_
  refine lv_iload_n hx hb dL_law_389 rfl (lv_at hl 3 rfl) ?_
  refine lv_iconst (v := 1) hx hb dL_law_390 (by decide) ?_
  refine lv_iadd hx hb dL_law_391 ?_
  refine lw_ld (i := i) (k := 1) hx hb hX hbl h (nI_add i 1) (by omega) hL dL_law_392 ?_
  refine lv_aload_n hx hb dL_law_393 rfl (lv_at hl 0 rfl) ?_
  refine lv_iload_n hx hb dL_law_394 rfl (lv_at hl 3 rfl) ?_
  refine lv_iconst (v := 2) hx hb dL_law_395 (by decide) ?_
  refine lv_iadd hx hb dL_law_396 ?_
  refine lw_ld (i := i) (k := 2) hx hb hX hbl h (nI_add i 2) (by omega) hL dL_law_397 ?_
  refine lc_M (m' := m) K h (va_runV (As := [.int (xs (i + 1)), .int (xs (i + 2))]) (rest := [.int r]) ⟨hx, hb, hml, hown, hts⟩ (c_X12_of l D adM cy (xs (i + 1)) (xs (i + 2)) m rfl r e2) (cwV 2 hts gL_law_X12_of rfl rfl rfl (by decide +kernel) ⟨Nat.le_of_ble_eq_true rfl, Nat.le_of_ble_eq_true rfl⟩) (lp_M K h) rfl rfl hl.1 rfl (lv_room (Nat.le_of_ble_eq_true rfl)) dL_law_398 ⟨Nat.le_of_ble_eq_true rfl, Nat.le_of_ble_eq_true rfl⟩) (fun H locs h => ?_)
  refine lv_icmp_eq (tgt := 1437) hx hb dL_law_401 (by decide) (fun c_1 => ?_) (fun c_1 => ?_)
  · exact kk c m H locs h R1
  · exact absurd rfl c_1
set_option maxHeartbeats 4000000 in
set_option maxRecDepth 100000 in
theorem case_6 {p : Program} {l : Launch} {e : Env} {s : State} {m0 : MethodId} {args : Array Value} {below : List Frame} {meth : Method} {c0 : Code} {H : Heap} {locs : List Loc} {Q : State → Prop} {ls : Array Slot} {D : va_G} {cy : Nat → ClassId} {adC adM : Nat → Nat} {c m : Mm} {b L n i : Nat} {xs : Nat → Int32} (hx : p.tables.exec = Jvm.exec) (hb : c0.code = code) (hml : c0.maxLocals = 4) (hown : s.vm.findClass RL = some m0.cls) (hts : ∀ w ∈ wsL_law, w.before args s = true) (hX : va_X b L xs s s.heap) (hbl : b < s.heap.size) (hL : L ≤ 3584) (K : LK D cy adC adM s) (h : LI D cy adC adM c m s H locs) (hR : Rel n c m) (hn : n < 999999) (hi : i + 6 < L) (hl : lv_has ls 4 [(0, .ref b), (1, .ref (adC 0)), (2, .ref (adM 0)), (3, .int (nI i))])
    (kk : ∀ (c' m' : Mm) (H : Heap) (locs : List Loc), LI D cy adC adM c' m' s H locs → Rel (n + 1) c' m' → W p l e room_1 s m0 args below meth c0 H locs 600000 7302250 Q (F0 m0 1437 ls [])) : W p l e room_1 s m0 args below meth c0 H locs 600000 7302250 Q (F0 m0 406 ls []) := by
  obtain ⟨r, c', m', e1, e2, R1⟩ := sim_tax hR (xs (i + 1)) (xs (i + 2))
  refine lv_aload_n hx hb dL_law_406 rfl (lv_at hl 1 rfl) ?_
  refine lv_aload_n hx hb dL_law_407 rfl (lv_at hl 0 rfl) ?_
  refine lv_iload_n hx hb dL_law_408 rfl (lv_at hl 3 rfl) ?_
  refine lv_iconst (v := 1) hx hb dL_law_409 (by decide) ?_
  refine lv_iadd hx hb dL_law_410 ?_
  refine lw_ld (i := i) (k := 1) hx hb hX hbl h (nI_add i 1) (by omega) hL dL_law_411 ?_
  refine lv_aload_n hx hb dL_law_412 rfl (lv_at hl 0 rfl) ?_
  refine lv_iload_n hx hb dL_law_413 rfl (lv_at hl 3 rfl) ?_
  refine lv_iconst (v := 2) hx hb dL_law_414 (by decide) ?_
  refine lv_iadd hx hb dL_law_415 ?_
  refine lw_ld (i := i) (k := 2) hx hb hX hbl h (nI_add i 2) (by omega) hL dL_law_416 ?_
  refine lc_C (c' := c') K h (va_runV (As := [.int (xs (i + 1)), .int (xs (i + 2))]) (rest := []) ⟨hx, hb, hml, hown, hts⟩ (c_X11_tax l D adC cy (xs (i + 1)) (xs (i + 2)) c rfl r c' e1) (cwV 2 hts gL_law_X11_tax rfl rfl rfl (by decide +kernel) ⟨Nat.le_of_ble_eq_true rfl, Nat.le_of_ble_eq_true rfl⟩) (lp_C K h) rfl rfl hl.1 rfl (lv_room (Nat.le_of_ble_eq_true rfl)) dL_law_417 ⟨Nat.le_of_ble_eq_true rfl, Nat.le_of_ble_eq_true rfl⟩) (fun H locs h => ?_)
  refine lv_aload_n hx hb dL_law_420 rfl (lv_at hl 2 rfl) ?_
  refine lv_aload_n hx hb dL_law_421 rfl (lv_at hl 0 rfl) ?_
  refine lv_iload_n hx hb dL_law_422 rfl (lv_at hl 3 rfl) ?_
  refine lv_iconst (v := 1) hx hb dL_law_423 (by decide) ?_
  refine lv_iadd hx hb dL_law_424 ?_
  refine lw_ld (i := i) (k := 1) hx hb hX hbl h (nI_add i 1) (by omega) hL dL_law_425 ?_
  refine lv_aload_n hx hb dL_law_426 rfl (lv_at hl 0 rfl) ?_
  refine lv_iload_n hx hb dL_law_427 rfl (lv_at hl 3 rfl) ?_
  refine lv_iconst (v := 2) hx hb dL_law_428 (by decide) ?_
  refine lv_iadd hx hb dL_law_429 ?_
  refine lw_ld (i := i) (k := 2) hx hb hX hbl h (nI_add i 2) (by omega) hL dL_law_430 ?_
  refine lc_M (m' := m') K h (va_runV (As := [.int (xs (i + 1)), .int (xs (i + 2))]) (rest := [.int r]) ⟨hx, hb, hml, hown, hts⟩ (c_X12_tax l D adM cy (xs (i + 1)) (xs (i + 2)) m rfl r m' e2) (cwV 2 hts gL_law_X12_tax rfl rfl rfl (by decide +kernel) ⟨Nat.le_of_ble_eq_true rfl, Nat.le_of_ble_eq_true rfl⟩) (lp_M K h) rfl rfl hl.1 rfl (lv_room (Nat.le_of_ble_eq_true rfl)) dL_law_431 ⟨Nat.le_of_ble_eq_true rfl, Nat.le_of_ble_eq_true rfl⟩) (fun H locs h => ?_)
  refine lv_icmp_eq (tgt := 1437) hx hb dL_law_434 (by decide) (fun c_1 => ?_) (fun c_1 => ?_)
  · exact kk c' m' H locs h R1
  · exact absurd rfl c_1
set_option maxHeartbeats 4000000 in
set_option maxRecDepth 100000 in
theorem case_7 {p : Program} {l : Launch} {e : Env} {s : State} {m0 : MethodId} {args : Array Value} {below : List Frame} {meth : Method} {c0 : Code} {H : Heap} {locs : List Loc} {Q : State → Prop} {ls : Array Slot} {D : va_G} {cy : Nat → ClassId} {adC adM : Nat → Nat} {c m : Mm} {b L n i : Nat} {xs : Nat → Int32} (hx : p.tables.exec = Jvm.exec) (hb : c0.code = code) (hml : c0.maxLocals = 4) (hown : s.vm.findClass RL = some m0.cls) (hts : ∀ w ∈ wsL_law, w.before args s = true) (hX : va_X b L xs s s.heap) (hbl : b < s.heap.size) (hL : L ≤ 3584) (K : LK D cy adC adM s) (h : LI D cy adC adM c m s H locs) (hR : Rel n c m) (hn : n < 999999) (hi : i + 6 < L) (hl : lv_has ls 4 [(0, .ref b), (1, .ref (adC 0)), (2, .ref (adM 0)), (3, .int (nI i))])
    (kk : ∀ (c' m' : Mm) (H : Heap) (locs : List Loc), LI D cy adC adM c' m' s H locs → Rel (n + 1) c' m' → W p l e room_1 s m0 args below meth c0 H locs 600000 7302250 Q (F0 m0 1437 ls [])) : W p l e room_1 s m0 args below meth c0 H locs 600000 7302250 Q (F0 m0 439 ls []) := by
  obtain ⟨r, c', m', e1, e2, R1⟩ := sim_road hR (xs (i + 1)) (xs (i + 2)) (xs (i + 3))
  refine lv_aload_n hx hb dL_law_439 rfl (lv_at hl 1 rfl) ?_
  refine lv_aload_n hx hb dL_law_440 rfl (lv_at hl 0 rfl) ?_
  refine lv_iload_n hx hb dL_law_441 rfl (lv_at hl 3 rfl) ?_
  refine lv_iconst (v := 1) hx hb dL_law_442 (by decide) ?_
  refine lv_iadd hx hb dL_law_443 ?_
  refine lw_ld (i := i) (k := 1) hx hb hX hbl h (nI_add i 1) (by omega) hL dL_law_444 ?_
  refine lv_aload_n hx hb dL_law_445 rfl (lv_at hl 0 rfl) ?_
  refine lv_iload_n hx hb dL_law_446 rfl (lv_at hl 3 rfl) ?_
  refine lv_iconst (v := 2) hx hb dL_law_447 (by decide) ?_
  refine lv_iadd hx hb dL_law_448 ?_
  refine lw_ld (i := i) (k := 2) hx hb hX hbl h (nI_add i 2) (by omega) hL dL_law_449 ?_
  refine lv_aload_n hx hb dL_law_450 rfl (lv_at hl 0 rfl) ?_
  refine lv_iload_n hx hb dL_law_451 rfl (lv_at hl 3 rfl) ?_
  refine lv_iconst (v := 3) hx hb dL_law_452 (by decide) ?_
  refine lv_iadd hx hb dL_law_453 ?_
  refine lw_ld (i := i) (k := 3) hx hb hX hbl h (nI_add i 3) (by omega) hL dL_law_454 ?_
  refine lc_C (c' := c') K h (va_runV (As := [.int (xs (i + 1)), .int (xs (i + 2)), .int (xs (i + 3))]) (rest := []) ⟨hx, hb, hml, hown, hts⟩ (c_X11_road l D adC cy (xs (i + 1)) (xs (i + 2)) (xs (i + 3)) c rfl r c' e1) (cwV 3 hts gL_law_X11_road rfl rfl rfl (by decide +kernel) ⟨Nat.le_of_ble_eq_true rfl, Nat.le_of_ble_eq_true rfl⟩) (lp_C K h) rfl rfl hl.1 rfl (lv_room (Nat.le_of_ble_eq_true rfl)) dL_law_455 ⟨Nat.le_of_ble_eq_true rfl, Nat.le_of_ble_eq_true rfl⟩) (fun H locs h => ?_)
  refine lv_aload_n hx hb dL_law_458 rfl (lv_at hl 2 rfl) ?_
  refine lv_aload_n hx hb dL_law_459 rfl (lv_at hl 0 rfl) ?_
  refine lv_iload_n hx hb dL_law_460 rfl (lv_at hl 3 rfl) ?_
  refine lv_iconst (v := 1) hx hb dL_law_461 (by decide) ?_
  refine lv_iadd hx hb dL_law_462 ?_
  refine lw_ld (i := i) (k := 1) hx hb hX hbl h (nI_add i 1) (by omega) hL dL_law_463 ?_
  refine lv_aload_n hx hb dL_law_464 rfl (lv_at hl 0 rfl) ?_
  refine lv_iload_n hx hb dL_law_465 rfl (lv_at hl 3 rfl) ?_
  refine lv_iconst (v := 2) hx hb dL_law_466 (by decide) ?_
  refine lv_iadd hx hb dL_law_467 ?_
  refine lw_ld (i := i) (k := 2) hx hb hX hbl h (nI_add i 2) (by omega) hL dL_law_468 ?_
  refine lv_aload_n hx hb dL_law_469 rfl (lv_at hl 0 rfl) ?_
  refine lv_iload_n hx hb dL_law_470 rfl (lv_at hl 3 rfl) ?_
  refine lv_iconst (v := 3) hx hb dL_law_471 (by decide) ?_
  refine lv_iadd hx hb dL_law_472 ?_
  refine lw_ld (i := i) (k := 3) hx hb hX hbl h (nI_add i 3) (by omega) hL dL_law_473 ?_
  refine lc_M (m' := m') K h (va_runV (As := [.int (xs (i + 1)), .int (xs (i + 2)), .int (xs (i + 3))]) (rest := [.int r]) ⟨hx, hb, hml, hown, hts⟩ (c_X12_road l D adM cy (xs (i + 1)) (xs (i + 2)) (xs (i + 3)) m rfl r m' e2) (cwV 3 hts gL_law_X12_road rfl rfl rfl (by decide +kernel) ⟨Nat.le_of_ble_eq_true rfl, Nat.le_of_ble_eq_true rfl⟩) (lp_M K h) rfl rfl hl.1 rfl (lv_room (Nat.le_of_ble_eq_true rfl)) dL_law_474 ⟨Nat.le_of_ble_eq_true rfl, Nat.le_of_ble_eq_true rfl⟩) (fun H locs h => ?_)
  refine lv_icmp_eq (tgt := 1437) hx hb dL_law_477 (by decide) (fun c_1 => ?_) (fun c_1 => ?_)
  · exact kk c' m' H locs h R1
  · exact absurd rfl c_1
