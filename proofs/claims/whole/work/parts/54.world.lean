def T10_ : List Shp := [sX10, (.inr (5, 0, none) : Shp), (.inr (5, 0, none) : Shp), (.inr (16, 2, some (some 1)) : Shp), sX5, sX5, sX5, sX5, sX5, sX5, sX5, sX5, sX5, sX5, sX5, sX5, sX5, sX5, sX5, sX5, sX7, (.inr (4, 0, none) : Shp), sX3, (.inr (9, 0, none) : Shp), (.inr (9, 0, none) : Shp), sX2, (.inr (8, 4, some (some 1)) : Shp), (.inr (8, 0, none) : Shp), (.inr (8, 0, none) : Shp), (.inr (8, 0, none) : Shp), (.inr (8, 0, none) : Shp), (.inr (8, 0, none) : Shp), (.inr (8, 0, none) : Shp), (.inr (8, 0, none) : Shp), (.inr (8, 0, none) : Shp), (.inr (8, 0, none) : Shp), (.inr (8, 0, none) : Shp), sX1, (.inr (6, 0, none) : Shp), (.inr (6, 0, none) : Shp), (.inr (100, 0, none) : Shp)]
/-- the cells of a world while its shoes are made -/
def WS (cy : Nat → ClassId) (h0 q1 q2 q3 t5 t6 t7 t8 : Nat) (R : va_W) (l : List Nat) : va_W := (h0, .inr (10, [.int 0, .ref q1, .ref q2, .int 0, .ref q3, .ref t5, .ref t6, .ref t7, .ref t8])) :: (q1, .inl (cy 0, 5, .inl (fun _ => 0))) :: (q2, .inl (cy 0, 5, .inl (fun _ => 0))) :: (q3, .inl (cy 2, 16, .inr (.inr (.inr (.inr (fun j => l[j]?)))))) :: (R ++ l.map (fun a => (a, .inr (5, [.int 0, .int 0, .int 0, .int 0, .int 0]))))
theorem WS_s (cy : Nat → ClassId) (h0 q1 q2 q3 t5 t6 t7 t8 : Nat) (R : va_W) (l : List Nat) (a : Nat) : (WS cy h0 q1 q2 q3 t5 t6 t7 t8 R l ++ [((a, (.inr (5, [.int 0, .int 0, .int 0, .int 0, .int 0]) : va_E)) : Nat × va_E)]).set 3 (q3, .inl (cy 2, 16, .inr (.inr (.inr (.inr (va_up (fun j => l[j]?) l.length (some a))))))) = WS cy h0 q1 q2 q3 t5 t6 t7 t8 R (l ++ [a]) := by
  have e : va_up (fun j => l[j]?) l.length (some a) = fun j => (l ++ [a])[j]? := by
    funext j
    show (if j = l.length then some a else l[j]?) = (l ++ [a])[j]?
    by_cases h : j = l.length
    · subst h
      rw [if_pos rfl]
      simp
    · rw [if_neg h]
      by_cases h2 : j < l.length
      · rw [List.getElem?_append_left h2]
      · rw [List.getElem?_eq_none (by omega), List.getElem?_eq_none (by simp; omega)]
  rw [e]
  unfold WS
  rw [List.map_append, ← List.append_assoc]
  rfl
abbrev rm_X10_init : Room := ({ frames := 2, cells := 40, slots := 344, locals := 44 } : Room)
set_option maxHeartbeats 4000000 in
set_option maxRecDepth 100000 in
theorem l_X10_init {p : Program} {l : Launch} {e : Env} {s : State} {m : MethodId} {args : Array Value} {below : List Frame} {meth : Method} {c : Code} {Q : State → Prop} {D : va_G} {A : Nat → Prop} {cy : Nat → ClassId} {h0 q1 q2 q3 t5 t6 t7 t8 : Nat} {R : va_W} (hx : p.tables.exec = Jvm.exec) (hb : c.code = cX10_init) (hml : c.maxLocals = 2) (hown : s.vm.findClass RX10 = some m.cls) (hts : ∀ w ∈ wsX10_init, w.before args s = true) (hK : va_K D vwCl (mm_tys cy) s) (hZ : CZ s) (hA : ∀ q : Nat, s.heap.size ≤ q → A q)
    (kk : ∀ (L : List Nat) (H : Heap) (locs : List Loc) (ls : Array Slot), L.length = 16 → va_P D vwCl (WS cy h0 q1 q2 q3 t5 t6 t7 t8 R L) H → va_D A (WS cy h0 q1 q2 q3 t5 t6 t7 t8 R L) → va_S A s.heap H locs → W p l e (headSpec wsX10_init (rm_X10_init)).room s m args below meth c H locs 40 344 Q (F0 m 98 ls [])) :
    ∀ (n i : Nat) (L : List Nat) (H : Heap) (locs : List Loc) (ls : Array Slot), i + n = 16 → L.length = i → lv_has ls 2 [(0, .ref h0), (1, .int (nI i))] → va_P D vwCl (WS cy h0 q1 q2 q3 t5 t6 t7 t8 R L) H → va_D A (WS cy h0 q1 q2 q3 t5 t6 t7 t8 R L) → va_S A s.heap H locs → W p l e (headSpec wsX10_init (rm_X10_init)).room s m args below meth c H locs (24 + i) (264 + 5 * i) Q (F0 m 73 ls []) := by
  intro n
  induction n with
  | zero =>
    intro i L H locs ls hi hL hl hP hD hS
    have e : i = 16 := by omega
    subst e
    refine lv_iload_n hx hb dX10_init_73 rfl (lv_at hl 1 rfl) ?_
    refine lv_bipush (v := 16) hx hb dX10_init_74 (by decide) ?_
    refine lv_icmp_ge (tgt := 98) hx hb dX10_init_76 (by decide) (fun c_1 => ?_) (fun c_1 => ?_)
    · exact kk L H locs ls hL hP hD hS
    · exact absurd (show (16 : Int32) ≤ nI 16 by decide) c_1
  | succ n ih =>
    intro i L H locs ls hi hL hl hP hD hS
    have hi16 : i < 16 := by omega
    refine lv_iload_n hx hb dX10_init_73 rfl (lv_at hl 1 rfl) ?_
    refine lv_bipush (v := 16) hx hb dX10_init_74 (by decide) ?_
    refine lv_icmp_ge (tgt := 98) hx hb dX10_init_76 (by decide) (fun c_1 => ?_) (fun c_1 => ?_)
    · exact absurd c_1 (nI_ge (b := 16) hi16 (by omega))
    · refine lv_aload_n hx hb dX10_init_79 rfl (lv_at hl 0 rfl) ?_
      refine va_get (D := D) (ci := 10) (v := .ref q3) (C := RX10) (T := TX10) (N := 9) hx hb hts (by decide +kernel) hown hK hP 0 rfl rfl 4 (by decide) (hts (.fieldLink RX10 20 "LeftShoes$World" "shoes" "[LLeftShoes$Shoe;") (by decide +kernel)) (fun _ h9 => h9) rfl dX10_init_80 ?_
      refine lv_iload_n hx hb dX10_init_83 rfl (lv_at hl 1 rfl) ?_
      refine va_new (ci := 5) (fs := [.int 0, .int 0, .int 0, .int 0, .int 0]) (C := RX5) (T := TX5) (N := 5) hx hb hts (by decide +kernel) tyX5 tyX5_ok hown (hts (.classLink RX10 18 RX5) (by decide +kernel)) (hts (.instantiable RX5 5) (by decide +kernel)) (hts (.initialized RX5) (by decide +kernel)) hK hP hD hS hA rfl (fun j hj => by rcases (show j = 0 ∨ j = 1 ∨ j = 2 ∨ j = 3 ∨ j = 4 by omega) with rfl | rfl | rfl | rfl | rfl <;> rfl) (show 24 + i + 1 ≤ 40 by omega) (show 264 + 5 * i + 5 ≤ 344 by omega) dX10_init_84 (fun q84 H hP hD hS => ?_)
      refine W.widen (k := 24 + (i + 1)) (n := 264 + 5 * (i + 1)) (by omega) (by omega) ?_
      refine lv_dup hx hb dX10_init_87 rfl ?_
      refine cn_after (ws := WS cy h0 q1 q2 q3 t5 t6 t7 t8 R L) (e0 := (.inr (5, [.int 0, .int 0, .int 0, .int 0, .int 0]))) (va_runIN (As := []) (rest := [.ref q84, .int (nI i), .ref q3]) ⟨hx, hb, hml, hown, hts⟩ (c_X5_init l D cy q84 H.size) ⟨va_cnB 0 hts gX10_init_X5_init_n52 rfl rfl rfl (hZ.2 (RX10, 52, yX5_init) (by decide +kernel)) (hts (.initialized RX5) (by decide +kernel)) (by decide +kernel) ⟨Nat.le_of_ble_eq_true rfl, Nat.le_of_ble_eq_true rfl⟩, rfl, hts (.instanceMethod yX5_init) (by decide +kernel)⟩ (cn_preS hK hZ (cn_last (ws := WS cy h0 q1 q2 q3 t5 t6 t7 t8 R L) hP)) rfl rfl hl.1 rfl (Nat.le_of_ble_eq_true rfl) dX10_init_88 ⟨show 24 + (i + 1) + 0 ≤ 40 by omega, show 264 + 5 * (i + 1) + 0 ≤ 344 by omega⟩) hP hD hS hA (fun ad88 H9 locs9 e88 hP9 hD9 hS9 => ?_)
      clear hP hD hS
      subst e88
      have hP : va_P D vwCl (WS cy h0 q1 q2 q3 t5 t6 t7 t8 R L ++ [(ad88 0, .inr (5, [.int 0, .int 0, .int 0, .int 0, .int 0]))]) H9 := hP9
      have hD : va_D A (WS cy h0 q1 q2 q3 t5 t6 t7 t8 R L ++ [(ad88 0, .inr (5, [.int 0, .int 0, .int 0, .int 0, .int 0]))]) := hD9
      have hin : vp_in (nI i) 16 := vp_in_nI hi16 (by omega)
      refine va_astq hx hb hK hP hD hS9 3 2 (WS cy h0 q1 q2 q3 t5 t6 t7 t8 R L).length 5 (r := (RX5, TX5, 5)) (cA := cy 2) (n := 16) (f := fun j => L[j]?) (v := ad88 0) (vs := [.int 0, .int 0, .int 0, .int 0, .int 0]) rfl rfl (List.getElem?_concat_length) rfl hin dX10_init_91 (fun H locs hP hD hS => ?_)
      rw [show (nI i).toNatClampNeg = L.length by rw [nI_clamp (by omega), hL], WS_s] at hP hD
      refine lv_iinc (v := nI (i + 1)) (lv' := [(1, .int (nI (i + 1))), (0, .ref h0)]) hx hb dX10_init_92 hl (k := 1) rfl (nI_1 i) (by decide) rfl (fun ls hl => ?_)
      refine lv_goto (tgt := 73) hx hb dX10_init_95 (by decide) ?_
      exact ih (i + 1) (L ++ [ad88 0]) H locs ls (by omega) (by simp; omega) (lv_sub hl [1, 0] rfl) hP hD hS
