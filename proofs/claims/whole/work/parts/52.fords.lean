theorem mm_I_of {A : Nat → Prop} {T : List Shp} {ad : Nat → Nat} {cy : Nat → ClassId} {g : Mm} (h : va_D A (mm_L T ad cy g)) : mm_I T ad := by
  intro i j hi hj e
  refine h.1 i j (ad i, mm_e ad cy (g i) i (T.getD i (.inl (0, [])))) (ad j, mm_e ad cy (g j) j (T.getD j (.inl (0, [])))) ?_ ?_ e
  · unfold mm_L
    rw [List.getElem?_map, List.getElem?_range hi]
    rfl
  · unfold mm_L
    rw [List.getElem?_map, List.getElem?_range hj]
    rfl
theorem mm_A_of {A : Nat → Prop} {T : List Shp} {ad : Nat → Nat} {cy : Nat → ClassId} {g : Mm} (h : va_D A (mm_L T ad cy g)) : ∀ q, mm_A T ad q → A q := by
  rintro q ⟨k, hk, rfl⟩
  refine h.2 k (ad k, mm_e ad cy (g k) k (T.getD k (.inl (0, [])))) ?_
  unfold mm_L
  rw [List.getElem?_map, List.getElem?_range hk]
  rfl
theorem mm_D_any {A : Nat → Prop} {T : List Shp} {ad : Nat → Nat} {cy : Nat → ClassId} {g : Mm} (h : va_D A (mm_L T ad cy g)) (g' : Mm) : va_D A (mm_L T ad cy g') := D_of (by
  have := AN_of h
  rw [mm_L_fst] at this ⊢
  exact this)
theorem cn_outer {D : va_G} {ws : va_W} {H : Heap} (hP : va_P D vwCl ws H) (i : Nat) {q : Nat} {cA : ClassId} {n : Nat} {f : Nat → Option Nat} (h : ws[i]? = some (q, .inl (cA, n, .inr (.inr (.inr (.inr f)))))) (f' : Nat → Option Nat) (hf : ∀ j, j < n → f j = f' j) : va_P D vwCl (ws.set i (q, .inl (cA, n, .inr (.inr (.inr (.inr f')))))) H := by
  have hl := (List.getElem?_eq_some_iff.mp h).1
  intro k x hk
  by_cases e : k = i
  · subst e
    rw [List.getElem?_set_self hl] at hk
    cases hk
    exact outer_cg hf (hP k _ h)
  · rw [List.getElem?_set_ne (Ne.symm e)] at hk
    exact hP k x hk
/-! Fords: its rows are filled with -1 -/
def gF (i : Nat) : Mm := fun k => if 2 ≤ k ∧ k < 2 + i then (fun j => if j < 8 then -1 else 0) else fun _ => 0
theorem gF_0 : gF 0 = fun _ _ => 0 := by
  funext k
  exact if_neg (by omega)
theorem gF_s (i : Nat) : mm_row (gF i) (1 + 1 + i) (mm_fl (-1) (gF i (1 + 1 + i)) 8) = gF (i + 1) := by
  funext k
  unfold mm_row
  by_cases e : k = 1 + 1 + i
  · rw [if_pos e]
    unfold gF mm_fl
    rw [if_neg (by omega), if_pos (by omega)]
  · rw [if_neg e]
    unfold gF
    by_cases h : 2 ≤ k ∧ k < 2 + i
    · rw [if_pos h, if_pos (by omega)]
    · rw [if_neg h, if_neg (by omega)]
def T2_ : List Shp := [sX2, (.inr (8, 4, some (some 1)) : Shp), (.inr (8, 0, none) : Shp), (.inr (8, 0, none) : Shp), (.inr (8, 0, none) : Shp), (.inr (8, 0, none) : Shp), (.inr (8, 0, none) : Shp), (.inr (8, 0, none) : Shp), (.inr (8, 0, none) : Shp), (.inr (8, 0, none) : Shp), (.inr (8, 0, none) : Shp), (.inr (8, 0, none) : Shp)]
theorem T2_row : ∀ i, i < 8 → T2_[1 + 1 + i]? = some (.inr (8, 0, none)) := by
  intro i hi
  rcases (show i = 0 ∨ i = 1 ∨ i = 2 ∨ i = 3 ∨ i = 4 ∨ i = 5 ∨ i = 6 ∨ i = 7 by omega) with rfl | rfl | rfl | rfl | rfl | rfl | rfl | rfl <;> rfl
abbrev rm_X2_init : Room := ({ frames := 1, cells := 11, slots := 88, locals := 23 } : Room)
set_option maxHeartbeats 4000000 in
set_option maxRecDepth 100000 in
theorem l_X2_init {p : Program} {l : Launch} {e : Env} {s : State} {m : MethodId} {args : Array Value} {below : List Frame} {meth : Method} {c : Code} {Q : State → Prop} {D : va_G} {A : Nat → Prop} {ad : Nat → Nat} {cy : Nat → ClassId} {g0 : Mm} (hx : p.tables.exec = Jvm.exec) (hb : c.code = cX2_init) (hml : c.maxLocals = 2) (hown : s.vm.findClass RX2 = some m.cls) (hts : ∀ w ∈ wsX2_init, w.before args s = true) (hK : va_K D vwCl (mm_tys cy) s) (hD : va_D A (mm_L T2_ ad cy g0))
    (kk : ∀ (H : Heap) (locs : List Loc) (ls : Array Slot), va_P D vwCl (mm_L T2_ ad cy (gF 8)) H → va_S A s.heap H locs → W p l e (headSpec wsX2_init (rm_X2_init)).room s m args below meth c H locs 11 88 Q (F0 m 56 ls [])) :
    ∀ (n i : Nat) (H : Heap) (locs : List Loc) (ls : Array Slot), i + n = 8 → lv_has ls 2 [(0, .ref (ad 0)), (1, .int (nI i))] → va_P D vwCl (mm_L T2_ ad cy (gF i)) H → va_S A s.heap H locs → W p l e (headSpec wsX2_init (rm_X2_init)).room s m args below meth c H locs 11 88 Q (F0 m 34 ls []) := by
  have hI := mm_I_of hD
  have hAA := mm_A_of hD
  intro n
  induction n with
  | zero =>
    intro i H locs ls hi hl hP hS
    have e : i = 8 := by omega
    subst e
    refine lv_iload_n hx hb dX2_init_34 rfl (lv_at hl 1 rfl) ?_
    refine lv_bipush (v := 8) hx hb dX2_init_35 (by decide) ?_
    refine lv_icmp_ge (tgt := 56) hx hb dX2_init_37 (by decide) (fun c_1 => ?_) (fun c_1 => ?_)
    · exact kk H locs ls hP hS
    · exact absurd (show (8 : Int32) ≤ nI 8 by decide) c_1
  | succ n ih =>
    intro i H locs ls hi hl hP hS
    have hi8 : i < 8 := by omega
    refine lv_iload_n hx hb dX2_init_34 rfl (lv_at hl 1 rfl) ?_
    refine lv_bipush (v := 8) hx hb dX2_init_35 (by decide) ?_
    refine lv_icmp_ge (tgt := 56) hx hb dX2_init_37 (by decide) (fun c_1 => ?_) (fun c_1 => ?_)
    · exact absurd c_1 (nI_ge (b := 8) hi8 (by omega))
    · have hin : mm_in (nI i) 8 = true := by rw [mm_in_nI (by omega)]; exact decide_eq_true hi8
      refine lv_aload_n hx hb dX2_init_40 rfl (lv_at hl 0 rfl) ?_
      refine mq_getr hx hb hts (by decide +kernel) hown hK hP (k := 0) (fl := [some 1, some 10, some 11, none, none]) (C := RX2) (Tt := TX2) (N := 5) (ci := 2) rfl rfl 0 1 (by decide) rfl (hts (.fieldLink RX2 11 "LeftShoes$Fords" "watched" "[[I") (by decide +kernel)) (fun _ h9 => h9) dX2_init_41 ?_
      refine lv_iload_n hx hb dX2_init_44 rfl (lv_at hl 1 rfl) ?_
      refine mq_aaldA hx hb hK hP (k := 1) (N := 8) (d := 1) rfl hin dX2_init_45 ?_
      refine lv_iconst (v := (-1)) hx hb dX2_init_46 (by decide) ?_
      rw [show (nI i).toNatClampNeg = i from nI_clamp (by omega)]
      refine va_callv (va_runS (As := [.ref (ad (1 + 1 + i)), .int (-1)]) (rest := []) ⟨hx, hb, hml, hown, hts⟩ (c_fill (Z := mm_Z0) l D T2_ ad cy (1 + 1 + i) 8 (-1) (gF i) (T2_row i hi8) (by decide) rfl) (va_cwS 2 hts gX2_init_J7_fill_53178 rfl rfl rfl (by decide +kernel) ⟨Nat.le_of_ble_eq_true rfl, Nat.le_of_ble_eq_true rfl⟩) ⟨mm_blind mm_zOk0, fun U hU hW => ⟨rfl, by rw [hU]; exact hP, va_K.moved hW.alike hK, hI, trivial⟩⟩ rfl rfl hl.1 rfl (lv_room (Nat.le_of_ble_eq_true rfl)) dX2_init_47 ⟨Nat.le_of_ble_eq_true rfl, Nat.le_of_ble_eq_true rfl⟩) hS (fun q _ h => hAA q h) hAA (fun u t H1 locs1 ht hvm hw hB hz1 hk1 hS => ?_)
      have hP1 : va_P D vwCl (mm_L T2_ ad cy (mm_row (gF i) (1 + 1 + i) (mm_fl (-1) (gF i (1 + 1 + i)) 8))) t.heap := hB
      rw [ht, gF_s] at hP1
      refine lv_iinc (v := nI (i + 1)) (lv' := [(1, .int (nI (i + 1))), (0, .ref (ad 0))]) hx hb dX2_init_50 hl (k := 1) rfl (nI_1 i) (by decide) rfl (fun ls hl => ?_)
      refine lv_goto (tgt := 34) hx hb dX2_init_53 (by decide) ?_
      exact ih (i + 1) H1 locs1 ls (by omega) (lv_sub hl [1, 0] rfl) hP1 hS
set_option maxHeartbeats 4000000 in
set_option maxRecDepth 100000 in
theorem c_X2_init (l : Launch) (D : va_G) (cy : Nat → ClassId) (h0 sz : Nat) : Met l yX2_init wsX2_init rm_X2_init (va_Pc [.ref h0] (cn_pre D cy h0 sz (.inr (2, [.null, .null, .null, .int 0, .int 0])))) (cn_Q D cy T2_ (gF 8) h0 sz (.inr (2, [.null, .null, .null, .int 0, .int 0]))) 11 88 (va_A [(h0, .inr (2, [.null, .null, .null, .int 0, .int 0]))] sz) := by
  refine Met.ofW (cc := cX2_init) (maxL := 2) (ret := none) (by decide) rfl ?_
  intro p e s m args below meth c s₁ B hml hv
  obtain ⟨rfl, rfl, hP, hK, hZ⟩ := hv
  have hx := B.exec
  have hb := B.bytes
  have hr := B.returns
  have hts := atoms_spec (ws := wsX2_init) B.pre
  have hown : s.vm.findClass RX2 = some m.cls := findClass_of_methodNamed B.named
  have hlocks := B.notSynchronized
  have hin : meth.name = "<init>" := (name_of_methodNamed B.named B.method).1
  have hD : va_D (va_A [(h0, .inr (2, [.null, .null, .null, .int 0, .int 0]))] s.heap.size) [(h0, .inr (2, [.null, .null, .null, .int 0, .int 0]))] := cn_D1
  unfold cn_Q
  generalize hAe : va_A [(h0, .inr (2, [.null, .null, .null, .int 0, .int 0]))] s.heap.size = A at hD ⊢
  have hA : ∀ q : Nat, s.heap.size ≤ q → A q := fun q h => by rw [← hAe]; exact Or.inr h
  clear hAe
  have hS : va_S A s.heap s.heap [] := va_S.rf
  have hl := lv_entry ([.ref h0]) (n := 2) (Nat.le_of_ble_eq_true rfl)
  rw [lg_entry_eq]
  generalize (lg_sl ([.ref h0]) ++ List.replicate (2 - (lg_sl ([.ref h0])).length) Slot.unset).toArray = ls at hl ⊢
  have hl : lv_has ls 2 [(0, .ref h0)] := hl
  have hP : va_P D vwCl [(h0, .inr (2, [.null, .null, .null, .int 0, .int 0]))] s.heap := hP
  refine lv_aload_n hx hb dX2_init_0 rfl (lv_at hl 0 rfl) ?_
  refine W.objInit hx hb hown (hts (.methodLink RX2 3 objectInit) (by decide +kernel)) (hts (.instanceMethod objectInit) (by decide +kernel)) (hts (.code objectInit ⟨#[0xb1]⟩ 1 none) (by decide +kernel)) rfl (by rw [hml]; exact hl.1) rfl dX2_init_1 (Nat.le_of_ble_eq_true rfl) (Nat.le_of_ble_eq_true rfl) ?_
  refine W.eq (g2 := F0 m 4 ls []) rfl ?_
  refine lv_aload_n hx hb dX2_init_4 rfl (lv_at hl 0 rfl) ?_
  refine lv_bipush (v := 8) hx hb dX2_init_5 (by decide) ?_
  refine lv_bipush (v := 8) hx hb dX2_init_7 (by decide) ?_
  refine cn_mna (N' := 8) (K' := 8) hx hb hown (hts (.classLink RX2 9 "[[I") (by decide +kernel)) hZ.1.2.2 (hts (.arrayClass .int) (by decide +kernel)) hK hP hD hS hA (by decide) (by decide) rfl rfl (Nat.le_of_ble_eq_true rfl) (Nat.le_of_ble_eq_true rfl) (Nat.le_of_ble_eq_true rfl) (Nat.le_of_ble_eq_true rfl) dX2_init_9 (fun q9 r9 H hP hD hS => ?_)
  have hP : va_P D vwCl [(h0, .inr (2, [.null, .null, .null, .int 0, .int 0])), (q9, .inl (cy 4, 8, .inr (.inr (.inr (.inr (fun i => if i < 8 then some (r9 i) else none)))))), (r9 0, .inl (cy 0, 8, .inl (fun _ => 0))), (r9 1, .inl (cy 0, 8, .inl (fun _ => 0))), (r9 2, .inl (cy 0, 8, .inl (fun _ => 0))), (r9 3, .inl (cy 0, 8, .inl (fun _ => 0))), (r9 4, .inl (cy 0, 8, .inl (fun _ => 0))), (r9 5, .inl (cy 0, 8, .inl (fun _ => 0))), (r9 6, .inl (cy 0, 8, .inl (fun _ => 0))), (r9 7, .inl (cy 0, 8, .inl (fun _ => 0)))] H := hP
  have hD : va_D A [(h0, .inr (2, [.null, .null, .null, .int 0, .int 0])), (q9, .inl (cy 4, 8, .inr (.inr (.inr (.inr (fun i => if i < 8 then some (r9 i) else none)))))), (r9 0, .inl (cy 0, 8, .inl (fun _ => 0))), (r9 1, .inl (cy 0, 8, .inl (fun _ => 0))), (r9 2, .inl (cy 0, 8, .inl (fun _ => 0))), (r9 3, .inl (cy 0, 8, .inl (fun _ => 0))), (r9 4, .inl (cy 0, 8, .inl (fun _ => 0))), (r9 5, .inl (cy 0, 8, .inl (fun _ => 0))), (r9 6, .inl (cy 0, 8, .inl (fun _ => 0))), (r9 7, .inl (cy 0, 8, .inl (fun _ => 0)))] := hD
  refine W.widen (k := 9) (n := 72) (Nat.le_of_ble_eq_true rfl) (Nat.le_of_ble_eq_true rfl) ?_
  refine va_putF (D := D) (ci := 2) (v := .ref q9) (ty := .array (.array .int)) (C := RX2) (T := TX2) (N := 5) hx hb hts (by decide +kernel) tyX2 tyX2_ok nmX2 hown hK hP hD hS 0 rfl rfl 0 (by decide) (hts (.fieldLink RX2 11 "LeftShoes$Fords" "watched" "[[I") (by decide +kernel)) (fun _ h9 => h9) rfl hin rfl (by decide +kernel) rfl rfl (Nat.le_of_ble_eq_true rfl) dX2_init_13 (fun H locs hP hD hS => ?_)
  have hP : va_P D vwCl [(h0, .inr (2, [.ref q9, .null, .null, .int 0, .int 0])), (q9, .inl (cy 4, 8, .inr (.inr (.inr (.inr (fun i => if i < 8 then some (r9 i) else none)))))), (r9 0, .inl (cy 0, 8, .inl (fun _ => 0))), (r9 1, .inl (cy 0, 8, .inl (fun _ => 0))), (r9 2, .inl (cy 0, 8, .inl (fun _ => 0))), (r9 3, .inl (cy 0, 8, .inl (fun _ => 0))), (r9 4, .inl (cy 0, 8, .inl (fun _ => 0))), (r9 5, .inl (cy 0, 8, .inl (fun _ => 0))), (r9 6, .inl (cy 0, 8, .inl (fun _ => 0))), (r9 7, .inl (cy 0, 8, .inl (fun _ => 0)))] H := hP
  have hD : va_D A [(h0, .inr (2, [.ref q9, .null, .null, .int 0, .int 0])), (q9, .inl (cy 4, 8, .inr (.inr (.inr (.inr (fun i => if i < 8 then some (r9 i) else none)))))), (r9 0, .inl (cy 0, 8, .inl (fun _ => 0))), (r9 1, .inl (cy 0, 8, .inl (fun _ => 0))), (r9 2, .inl (cy 0, 8, .inl (fun _ => 0))), (r9 3, .inl (cy 0, 8, .inl (fun _ => 0))), (r9 4, .inl (cy 0, 8, .inl (fun _ => 0))), (r9 5, .inl (cy 0, 8, .inl (fun _ => 0))), (r9 6, .inl (cy 0, 8, .inl (fun _ => 0))), (r9 7, .inl (cy 0, 8, .inl (fun _ => 0)))] := hD
  refine lv_aload_n hx hb dX2_init_16 rfl (lv_at hl 0 rfl) ?_
  refine lv_bipush (v := 8) hx hb dX2_init_17 (by decide) ?_
  refine cn_newI (N' := 8) (ty := .int) (t := 0) (atype := .int) hx hb (hts (.arrayClass .int) (by decide +kernel)) rfl hK rfl rfl hP hD hS hA (by decide) rfl (Nat.le_of_ble_eq_true rfl) (Nat.le_of_ble_eq_true rfl) (Nat.le_of_ble_eq_true rfl) dX2_init_19 (fun q19 H hP hD hS => ?_)
  have hP : va_P D vwCl [(h0, .inr (2, [.ref q9, .null, .null, .int 0, .int 0])), (q9, .inl (cy 4, 8, .inr (.inr (.inr (.inr (fun i => if i < 8 then some (r9 i) else none)))))), (r9 0, .inl (cy 0, 8, .inl (fun _ => 0))), (r9 1, .inl (cy 0, 8, .inl (fun _ => 0))), (r9 2, .inl (cy 0, 8, .inl (fun _ => 0))), (r9 3, .inl (cy 0, 8, .inl (fun _ => 0))), (r9 4, .inl (cy 0, 8, .inl (fun _ => 0))), (r9 5, .inl (cy 0, 8, .inl (fun _ => 0))), (r9 6, .inl (cy 0, 8, .inl (fun _ => 0))), (r9 7, .inl (cy 0, 8, .inl (fun _ => 0))), (q19, .inl (cy 0, 8, .inl (fun _ => 0)))] H := hP
  have hD : va_D A [(h0, .inr (2, [.ref q9, .null, .null, .int 0, .int 0])), (q9, .inl (cy 4, 8, .inr (.inr (.inr (.inr (fun i => if i < 8 then some (r9 i) else none)))))), (r9 0, .inl (cy 0, 8, .inl (fun _ => 0))), (r9 1, .inl (cy 0, 8, .inl (fun _ => 0))), (r9 2, .inl (cy 0, 8, .inl (fun _ => 0))), (r9 3, .inl (cy 0, 8, .inl (fun _ => 0))), (r9 4, .inl (cy 0, 8, .inl (fun _ => 0))), (r9 5, .inl (cy 0, 8, .inl (fun _ => 0))), (r9 6, .inl (cy 0, 8, .inl (fun _ => 0))), (r9 7, .inl (cy 0, 8, .inl (fun _ => 0))), (q19, .inl (cy 0, 8, .inl (fun _ => 0)))] := hD
  refine W.widen (k := 10) (n := 80) (Nat.le_of_ble_eq_true rfl) (Nat.le_of_ble_eq_true rfl) ?_
  refine va_putF (D := D) (ci := 2) (v := .ref q19) (ty := .array .int) (C := RX2) (T := TX2) (N := 5) hx hb hts (by decide +kernel) tyX2 tyX2_ok nmX2 hown hK hP hD hS 0 rfl rfl 1 (by decide) (hts (.fieldLink RX2 16 "LeftShoes$Fords" "reached" "[I") (by decide +kernel)) (fun _ h9 => h9) rfl hin rfl (by decide +kernel) rfl rfl (Nat.le_of_ble_eq_true rfl) dX2_init_21 (fun H locs hP hD hS => ?_)
  have hP : va_P D vwCl [(h0, .inr (2, [.ref q9, .ref q19, .null, .int 0, .int 0])), (q9, .inl (cy 4, 8, .inr (.inr (.inr (.inr (fun i => if i < 8 then some (r9 i) else none)))))), (r9 0, .inl (cy 0, 8, .inl (fun _ => 0))), (r9 1, .inl (cy 0, 8, .inl (fun _ => 0))), (r9 2, .inl (cy 0, 8, .inl (fun _ => 0))), (r9 3, .inl (cy 0, 8, .inl (fun _ => 0))), (r9 4, .inl (cy 0, 8, .inl (fun _ => 0))), (r9 5, .inl (cy 0, 8, .inl (fun _ => 0))), (r9 6, .inl (cy 0, 8, .inl (fun _ => 0))), (r9 7, .inl (cy 0, 8, .inl (fun _ => 0))), (q19, .inl (cy 0, 8, .inl (fun _ => 0)))] H := hP
  have hD : va_D A [(h0, .inr (2, [.ref q9, .ref q19, .null, .int 0, .int 0])), (q9, .inl (cy 4, 8, .inr (.inr (.inr (.inr (fun i => if i < 8 then some (r9 i) else none)))))), (r9 0, .inl (cy 0, 8, .inl (fun _ => 0))), (r9 1, .inl (cy 0, 8, .inl (fun _ => 0))), (r9 2, .inl (cy 0, 8, .inl (fun _ => 0))), (r9 3, .inl (cy 0, 8, .inl (fun _ => 0))), (r9 4, .inl (cy 0, 8, .inl (fun _ => 0))), (r9 5, .inl (cy 0, 8, .inl (fun _ => 0))), (r9 6, .inl (cy 0, 8, .inl (fun _ => 0))), (r9 7, .inl (cy 0, 8, .inl (fun _ => 0))), (q19, .inl (cy 0, 8, .inl (fun _ => 0)))] := hD
  refine lv_aload_n hx hb dX2_init_24 rfl (lv_at hl 0 rfl) ?_
  refine lv_bipush (v := 8) hx hb dX2_init_25 (by decide) ?_
  refine cn_newI (N' := 8) (ty := .int) (t := 0) (atype := .int) hx hb (hts (.arrayClass .int) (by decide +kernel)) rfl hK rfl rfl hP hD hS hA (by decide) rfl (Nat.le_of_ble_eq_true rfl) (Nat.le_of_ble_eq_true rfl) (Nat.le_of_ble_eq_true rfl) dX2_init_27 (fun q27 H hP hD hS => ?_)
  have hP : va_P D vwCl [(h0, .inr (2, [.ref q9, .ref q19, .null, .int 0, .int 0])), (q9, .inl (cy 4, 8, .inr (.inr (.inr (.inr (fun i => if i < 8 then some (r9 i) else none)))))), (r9 0, .inl (cy 0, 8, .inl (fun _ => 0))), (r9 1, .inl (cy 0, 8, .inl (fun _ => 0))), (r9 2, .inl (cy 0, 8, .inl (fun _ => 0))), (r9 3, .inl (cy 0, 8, .inl (fun _ => 0))), (r9 4, .inl (cy 0, 8, .inl (fun _ => 0))), (r9 5, .inl (cy 0, 8, .inl (fun _ => 0))), (r9 6, .inl (cy 0, 8, .inl (fun _ => 0))), (r9 7, .inl (cy 0, 8, .inl (fun _ => 0))), (q19, .inl (cy 0, 8, .inl (fun _ => 0))), (q27, .inl (cy 0, 8, .inl (fun _ => 0)))] H := hP
  have hD : va_D A [(h0, .inr (2, [.ref q9, .ref q19, .null, .int 0, .int 0])), (q9, .inl (cy 4, 8, .inr (.inr (.inr (.inr (fun i => if i < 8 then some (r9 i) else none)))))), (r9 0, .inl (cy 0, 8, .inl (fun _ => 0))), (r9 1, .inl (cy 0, 8, .inl (fun _ => 0))), (r9 2, .inl (cy 0, 8, .inl (fun _ => 0))), (r9 3, .inl (cy 0, 8, .inl (fun _ => 0))), (r9 4, .inl (cy 0, 8, .inl (fun _ => 0))), (r9 5, .inl (cy 0, 8, .inl (fun _ => 0))), (r9 6, .inl (cy 0, 8, .inl (fun _ => 0))), (r9 7, .inl (cy 0, 8, .inl (fun _ => 0))), (q19, .inl (cy 0, 8, .inl (fun _ => 0))), (q27, .inl (cy 0, 8, .inl (fun _ => 0)))] := hD
  refine W.widen (k := 11) (n := 88) (Nat.le_of_ble_eq_true rfl) (Nat.le_of_ble_eq_true rfl) ?_
  refine va_putF (D := D) (ci := 2) (v := .ref q27) (ty := .array .int) (C := RX2) (T := TX2) (N := 5) hx hb hts (by decide +kernel) tyX2 tyX2_ok nmX2 hown hK hP hD hS 0 rfl rfl 2 (by decide) (hts (.fieldLink RX2 20 "LeftShoes$Fords" "next" "[I") (by decide +kernel)) (fun _ h9 => h9) rfl hin rfl (by decide +kernel) rfl rfl (Nat.le_of_ble_eq_true rfl) dX2_init_29 (fun H locs hP hD hS => ?_)
  have hP : va_P D vwCl [(h0, .inr (2, [.ref q9, .ref q19, .ref q27, .int 0, .int 0])), (q9, .inl (cy 4, 8, .inr (.inr (.inr (.inr (fun i => if i < 8 then some (r9 i) else none)))))), (r9 0, .inl (cy 0, 8, .inl (fun _ => 0))), (r9 1, .inl (cy 0, 8, .inl (fun _ => 0))), (r9 2, .inl (cy 0, 8, .inl (fun _ => 0))), (r9 3, .inl (cy 0, 8, .inl (fun _ => 0))), (r9 4, .inl (cy 0, 8, .inl (fun _ => 0))), (r9 5, .inl (cy 0, 8, .inl (fun _ => 0))), (r9 6, .inl (cy 0, 8, .inl (fun _ => 0))), (r9 7, .inl (cy 0, 8, .inl (fun _ => 0))), (q19, .inl (cy 0, 8, .inl (fun _ => 0))), (q27, .inl (cy 0, 8, .inl (fun _ => 0)))] H := hP
  have hD : va_D A [(h0, .inr (2, [.ref q9, .ref q19, .ref q27, .int 0, .int 0])), (q9, .inl (cy 4, 8, .inr (.inr (.inr (.inr (fun i => if i < 8 then some (r9 i) else none)))))), (r9 0, .inl (cy 0, 8, .inl (fun _ => 0))), (r9 1, .inl (cy 0, 8, .inl (fun _ => 0))), (r9 2, .inl (cy 0, 8, .inl (fun _ => 0))), (r9 3, .inl (cy 0, 8, .inl (fun _ => 0))), (r9 4, .inl (cy 0, 8, .inl (fun _ => 0))), (r9 5, .inl (cy 0, 8, .inl (fun _ => 0))), (r9 6, .inl (cy 0, 8, .inl (fun _ => 0))), (r9 7, .inl (cy 0, 8, .inl (fun _ => 0))), (q19, .inl (cy 0, 8, .inl (fun _ => 0))), (q27, .inl (cy 0, 8, .inl (fun _ => 0)))] := hD
  have hO := cn_outer hP 1 rfl (fun j => some ((fun k => [h0, q9, r9 0, r9 1, r9 2, r9 3, r9 4, r9 5, r9 6, r9 7, q19, q27].getD k 0) (1 + 1 + j))) (fun j hj => by
    rcases (show j = 0 ∨ j = 1 ∨ j = 2 ∨ j = 3 ∨ j = 4 ∨ j = 5 ∨ j = 6 ∨ j = 7 by omega) with rfl | rfl | rfl | rfl | rfl | rfl | rfl | rfl <;> rfl)
  have hDO := hD.set (p := 1) (e := .inl (cy 4, 8, .inr (.inr (.inr (.inr (fun j => some ((fun k => [h0, q9, r9 0, r9 1, r9 2, r9 3, r9 4, r9 5, r9 6, r9 7, q19, q27].getD k 0) (1 + 1 + j)))))))) rfl
  obtain ⟨ad, e0, hPm, hDm⟩ : ∃ ad : Nat → Nat, ad 0 = h0 ∧ va_P D vwCl (mm_L T2_ ad cy (fun _ _ => 0)) H ∧ va_D A (mm_L T2_ ad cy (fun _ _ => 0)) := ⟨(fun k => [h0, q9, r9 0, r9 1, r9 2, r9 3, r9 4, r9 5, r9 6, r9 7, q19, q27].getD k 0), rfl, hO, hDO⟩
  clear hO hDO hP hD
  subst e0
  rw [← gF_0] at hPm
  refine lv_iconst (v := 0) hx hb dX2_init_32 (by decide) ?_
  refine lv_istore_n (lv' := [(1, .int 0), (0, .ref (ad 0))]) hx hb dX2_init_33 rfl hl (by decide) rfl (fun ls hl => ?_)
  refine l_X2_init hx hb hml hown hts hK hDm (fun H locs ls hP hS => ?_) 8 0 H locs ls rfl (lv_sub hl [1, 0] rfl) hPm hS
  have hD2 := mm_D_any hDm (gF 8)
  exact W.vret hx hb hr (fun t ht hW => ⟨⟨(), rfl, trivial, ad, rfl, by rw [ht]; exact hP, hD2⟩, hS.F ht⟩) hS.2.2 dX2_init_56 hlocks
