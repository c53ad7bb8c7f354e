/-! the whole object: its sheets are made -/
def WU (cy : Nat → ClassId) (h0 qS : Nat) (F : List Value) (R : va_W) (lp : List (Nat × Nat)) : va_W := (h0, .inr (11, F)) :: (qS, .inl (cy 3, 4, .inr (.inr (.inr (.inr (fun j => (lp.map Prod.fst)[j]?)))))) :: (R ++ lp.flatMap (fun pr => [(pr.1, .inr (4, [.ref pr.2, .int (-1), .int 0])), (pr.2, .inl (cy 0, 24, .inl (fun _ => 0)))]))
theorem WU_s (cy : Nat → ClassId) (h0 qS : Nat) (F : List Value) (R : va_W) (lp : List (Nat × Nat)) (a b : Nat) : (WU cy h0 qS F R lp ++ [((a, (.inr (4, [.ref b, .int (-1), .int 0]) : va_E)) : Nat × va_E), (b, .inl (cy 0, 24, .inl (fun _ => 0)))]).set 1 (qS, .inl (cy 3, 4, .inr (.inr (.inr (.inr (va_up (fun j => (lp.map Prod.fst)[j]?) lp.length (some a))))))) = WU cy h0 qS F R (lp ++ [(a, b)]) := by
  have e : va_up (fun j => (lp.map Prod.fst)[j]?) lp.length (some a) = fun j => ((lp ++ [(a, b)]).map Prod.fst)[j]? := by
    funext j
    show (if j = lp.length then some a else (lp.map Prod.fst)[j]?) = ((lp ++ [(a, b)]).map Prod.fst)[j]?
    rw [List.map_append]
    by_cases h : j = lp.length
    · subst h
      rw [if_pos rfl, List.getElem?_append_right (by simp)]
      simp
    · rw [if_neg h]
      by_cases h2 : j < lp.length
      · rw [List.getElem?_append_left (by simpa using h2)]
      · rw [List.getElem?_eq_none (by simp; omega), List.getElem?_eq_none (by simp; omega)]
  rw [e]
  unfold WU
  rw [List.flatMap_append, ← List.append_assoc]
  rfl
theorem cn_rotP {D : va_G} {cl : List vw_C} {R : va_W} {hd x : Nat × va_E} {H : Heap} (h : va_P D cl (hd :: (R ++ [x])) H) : va_P D cl (hd :: x :: R) H := P_sub h (fun q hq => by
  simp only [List.mem_cons, List.mem_append] at hq ⊢
  rcases hq with hq | hq | hq
  · exact Or.inl hq
  · exact Or.inr (Or.inr (Or.inl hq))
  · exact Or.inr (Or.inl hq))
theorem cn_rotD {A : Nat → Prop} {R : va_W} {hd x : Nat × va_E} (h : va_D A (hd :: (R ++ [x]))) : va_D A (hd :: x :: R) := D_of ((AN_of h).perm (by
  simp only [List.map_cons, List.map_append, List.map_nil]
  exact (List.perm_append_comm (l₁ := R.map Prod.fst) (l₂ := [x.1])).cons _))
abbrev rm_X11_init : Room := ({ frames := 3, cells := 150, slots := 34001, locals := 65 } : Room)
set_option maxHeartbeats 4000000 in
set_option maxRecDepth 100000 in
theorem l_X11_init {p : Program} {l : Launch} {e : Env} {s : State} {m : MethodId} {args : Array Value} {below : List Frame} {meth : Method} {c : Code} {Q : State → Prop} {D : va_G} {A : Nat → Prop} {cy : Nat → ClassId} {h0 qS : Nat} {f0 f1 f2 f3 f4 f5 f6 f7 : Value} {R : va_W} (hx : p.tables.exec = Jvm.exec) (hb : c.code = cX11_init) (hml : c.maxLocals = 2) (hown : s.vm.findClass RX11 = some m.cls) (hts : ∀ w ∈ wsX11_init, w.before args s = true) (hK : va_K D vwCl (mm_tys cy) s) (hZ : CZ s) (hA : ∀ q : Nat, s.heap.size ≤ q → A q)
    (kk : ∀ (lp : List (Nat × Nat)) (H : Heap) (locs : List Loc) (ls : Array Slot), lp.length = 4 → va_P D vwCl (WU cy h0 qS [f0, f1, f2, f3, f4, f5, f6, f7, .ref qS] R lp) H → va_D A (WU cy h0 qS [f0, f1, f2, f3, f4, f5, f6, f7, .ref qS] R lp) → va_S A s.heap H locs → W p l e (headSpec wsX11_init (rm_X11_init)).room s m args below meth c H locs 150 34001 Q (F0 m 115 ls [])) :
    ∀ (n i : Nat) (lp : List (Nat × Nat)) (H : Heap) (locs : List Loc) (ls : Array Slot), i + n = 4 → lp.length = i → lv_has ls 2 [(0, .ref h0), (1, .int (nI i))] → va_P D vwCl (WU cy h0 qS [f0, f1, f2, f3, f4, f5, f6, f7, .ref qS] R lp) H → va_D A (WU cy h0 qS [f0, f1, f2, f3, f4, f5, f6, f7, .ref qS] R lp) → va_S A s.heap H locs → W p l e (headSpec wsX11_init (rm_X11_init)).room s m args below meth c H locs (142 + 2 * i) (33893 + 27 * i) Q (F0 m 91 ls []) := by
  intro n
  induction n with
  | zero =>
    intro i lp H locs ls hi hL hl hP hD hS
    have e : i = 4 := by omega
    subst e
    refine lv_iload_n hx hb dX11_init_91 rfl (lv_at hl 1 rfl) ?_
    refine lv_iconst (v := 4) hx hb dX11_init_92 (by decide) ?_
    refine lv_icmp_ge (tgt := 115) hx hb dX11_init_93 (by decide) (fun c_1 => ?_) (fun c_1 => ?_)
    · exact kk lp H locs ls hL hP hD hS
    · exact absurd (show (4 : Int32) ≤ nI 4 by decide) c_1
  | succ n ih =>
    intro i lp H locs ls hi hL hl hP hD hS
    have hi4 : i < 4 := by omega
    refine lv_iload_n hx hb dX11_init_91 rfl (lv_at hl 1 rfl) ?_
    refine lv_iconst (v := 4) hx hb dX11_init_92 (by decide) ?_
    refine lv_icmp_ge (tgt := 115) hx hb dX11_init_93 (by decide) (fun c_1 => ?_) (fun c_1 => ?_)
    · exact absurd c_1 (nI_ge (b := 4) hi4 (by omega))
    · refine lv_aload_n hx hb dX11_init_96 rfl (lv_at hl 0 rfl) ?_
      refine va_get (D := D) (ci := 11) (v := .ref qS) (C := RX11) (T := TX11) (N := 9) hx hb hts (by decide +kernel) hown hK hP 0 rfl rfl 8 (by decide) (hts (.fieldLink RX11 56 "LeftShoes" "sheets" "[LLeftShoes$Sheet;") (by decide +kernel)) (fun _ h9 => h9) rfl dX11_init_97 ?_
      refine lv_iload_n hx hb dX11_init_100 rfl (lv_at hl 1 rfl) ?_
      refine va_new (ci := 4) (fs := [.null, .int 0, .int 0]) (C := RX4) (T := TX4) (N := 3) hx hb hts (by decide +kernel) tyX4 tyX4_ok hown (hts (.classLink RX11 54 RX4) (by decide +kernel)) (hts (.instantiable RX4 3) (by decide +kernel)) (hts (.initialized RX4) (by decide +kernel)) hK hP hD hS hA rfl (fun j hj => by rcases (show j = 0 ∨ j = 1 ∨ j = 2 by omega) with rfl | rfl | rfl <;> rfl) (show 142 + 2 * i + 1 ≤ 150 by omega) (show 33893 + 27 * i + 3 ≤ 34001 by omega) dX11_init_101 (fun q101 H hP hD hS => ?_)
      refine lv_dup hx hb dX11_init_104 rfl ?_
      refine cn_after (ws := WU cy h0 qS [f0, f1, f2, f3, f4, f5, f6, f7, .ref qS] R lp) (e0 := (.inr (4, [.null, .int 0, .int 0]))) (va_runIN (As := []) (rest := [.ref q101, .int (nI i), .ref qS]) ⟨hx, hb, hml, hown, hts⟩ (c_X4_init l D cy q101 H.size) ⟨va_cnB 0 hts gX11_init_X4_init_n60 rfl rfl rfl (hZ.2 (RX11, 60, yX4_init) (by decide +kernel)) (hts (.initialized RX4) (by decide +kernel)) (by decide +kernel) ⟨Nat.le_of_ble_eq_true rfl, Nat.le_of_ble_eq_true rfl⟩, rfl, hts (.instanceMethod yX4_init) (by decide +kernel)⟩ (cn_preS hK hZ (cn_last (ws := WU cy h0 qS [f0, f1, f2, f3, f4, f5, f6, f7, .ref qS] R lp) hP)) rfl rfl hl.1 rfl (Nat.le_of_ble_eq_true rfl) dX11_init_105 ⟨show 142 + 2 * i + 1 + 1 ≤ 150 by omega, show 33893 + 27 * i + 3 + 24 ≤ 34001 by omega⟩) hP hD hS hA (fun ad105 H9 locs9 e105 hP9 hD9 hS9 => ?_)
      clear hP hD hS
      subst e105
      refine W.widen (k := 142 + 2 * (i + 1)) (n := 33893 + 27 * (i + 1)) (by omega) (by omega) ?_
      have hP : va_P D vwCl (WU cy h0 qS [f0, f1, f2, f3, f4, f5, f6, f7, .ref qS] R lp ++ [(ad105 0, .inr (4, [.ref (ad105 1), .int (-1), .int 0])), (ad105 1, .inl (cy 0, 24, .inl (fun _ => 0)))]) H9 := hP9
      have hD : va_D A (WU cy h0 qS [f0, f1, f2, f3, f4, f5, f6, f7, .ref qS] R lp ++ [(ad105 0, .inr (4, [.ref (ad105 1), .int (-1), .int 0])), (ad105 1, .inl (cy 0, 24, .inl (fun _ => 0)))]) := hD9
      have hin : vp_in (nI i) 4 := vp_in_nI hi4 (by omega)
      refine va_astq hx hb hK hP hD hS9 1 3 (WU cy h0 qS [f0, f1, f2, f3, f4, f5, f6, f7, .ref qS] R lp).length 4 (r := (RX4, TX4, 3)) (cA := cy 3) (n := 4) (f := fun j => (lp.map Prod.fst)[j]?) (v := ad105 0) (vs := [.ref (ad105 1), .int (-1), .int 0]) rfl rfl (by rw [List.getElem?_append_right (Nat.le_refl _), Nat.sub_self]; rfl) rfl hin dX11_init_108 (fun H locs hP hD hS => ?_)
      rw [show (nI i).toNatClampNeg = lp.length by rw [nI_clamp (by omega), hL], WU_s] at hP hD
      refine lv_iinc (v := nI (i + 1)) (lv' := [(1, .int (nI (i + 1))), (0, .ref h0)]) hx hb dX11_init_109 hl (k := 1) rfl (nI_1 i) (by decide) rfl (fun ls hl => ?_)
      refine lv_goto (tgt := 91) hx hb dX11_init_112 (by decide) ?_
      exact ih (i + 1) (lp ++ [(ad105 0, ad105 1)]) H locs ls (by omega) (by simp; omega) (lv_sub hl [1, 0] rfl) hP hD hS
