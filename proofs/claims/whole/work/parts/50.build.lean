/-! how a memory comes to be: new cells, calls of constructors, and the pieces put together -/
section CN
variable {p : Program} {l : Launch} {e : Env} {R : Room} {s : State} {m : MethodId} {args : Array Value} {below : List Frame} {meth : Method} {c : Code} {H : Heap} {locs : List Loc} {cells slots : Nat} {Q : State → Prop}
variable {cc : ByteArray} {pc : Nat} {ls : Array Slot} {rest : List Value} {D : va_G} {cl : List vw_C} {A : Nat → Prop} {a : Nat} {ws : va_W} {H0 : Heap} {cy : Nat → ClassId}
theorem cn_name {U : State} {cA : ClassId} {ty : FieldType} (h : va_RA U cA ty) : U.vm.findClass ("[" ++ ty.toString) = some cA := by
  cases ty with
  | object C =>
    obtain ⟨_, _, _, _, _, h⟩ := h
    exact h
  | _ => exact h
theorem cn_same {t1 t2 : List (ClassId × FieldType)} (h1 : va_K D cl t1 s) (h2 : va_K D cl t2 s) {k1 k2 : Nat} {cA cB : ClassId} {ty : FieldType} (e1 : t1[k1]? = some (cA, ty)) (e2 : t2[k2]? = some (cB, ty)) : cA = cB :=
  Option.some.inj ((cn_name (h1.2 k1 _ e1).2).symm.trans (cn_name (h2.2 k2 _ e2).2))
theorem cn_D1 {h0 sz : Nat} {e : va_E} : va_D (va_A [(h0, e)] sz) [(h0, e)] := by
  refine ⟨fun i j p q hi hj _ => ?_, fun k q hk => va_A.in hk⟩
  have h1 : i < 1 := (List.getElem?_eq_some_iff.mp hi).1
  have h2 : j < 1 := (List.getElem?_eq_some_iff.mp hj).1
  omega
theorem cn_newI (hexec : p.tables.exec = Jvm.exec) (hb : c.code = cc) {atype : ArrayType} (harr : (Cond.arrayClass (newarray.typeOf atype)).before args s = true) {ty : FieldType} (hty : newarray.typeOf atype = ty) (hK : va_K D cl (mm_tys cy) s) {t : Nat} (ht : (mm_tys cy)[t]? = some (cy t, ty)) (hdef : defaultValue ty = .int 0) (hP : va_P D cl ws H) (hD : va_D A ws) (hS : va_S A H0 H locs) (hA : ∀ q, H0.size ≤ q → A q)
    {n : Int32} {N' : Nat} (hn : ¬ n < 0) (hN : n.toNatClampNeg = N') (hbytes : N' * componentBytes ty ≤ 536870912) (hcells : cells + 1 ≤ R.cells) (hslots : slots + N' ≤ R.slots) (hdg : decode cc pc = .ok (.newarray atype, 2))
    (kk : ∀ (q : Nat) (H1 : Heap), va_P D cl (ws ++ [(q, .inl (cy t, N', .inl (fun _ => 0)))]) H1 → va_D A (ws ++ [(q, .inl (cy t, N', .inl (fun _ => 0)))]) → va_S A H0 H1 locs →
      W p l e R s m args below meth c H1 locs (cells + 1) (slots + N') Q (F0 m (pc + 2) ls (.ref q :: rest))) : W p l e R s m args below meth c H locs cells slots Q (F0 m pc ls (.int n :: rest)) := by
  refine va_newa (tys := mm_tys cy) (a0 := (N', .inl (fun _ => 0))) hexec hb harr hty hK hP hD hS hA (fun cA => by rw [hdef]; rfl) hn hN hbytes hcells hslots hdg (fun q cA H1 hK1 hP1 hD1 hS1 => ?_)
  have e0 : cA = cy t := cn_same hK1 hK (k1 := (mm_tys cy).length) (by simp) ht
  subst e0
  exact kk q H1 hP1 hD1 hS1
theorem cn_newQ (hexec : p.tables.exec = Jvm.exec) (hb : c.code = cc) {own C : String} {index : Nat} (hown : s.vm.findClass own = some m.cls) (hclink : (Cond.classLink own index C).before args s = true) (hover : va_AO C s) (hK : va_K D cl (mm_tys cy) s) {t : Nat} (ht : (mm_tys cy)[t]? = some (cy t, .object C)) (hP : va_P D cl ws H) (hD : va_D A ws) (hS : va_S A H0 H locs) (hA : ∀ q, H0.size ≤ q → A q)
    {n : Int32} {N' : Nat} (hn : ¬ n < 0) (hN : n.toNatClampNeg = N') (hbytes : N' * 4 ≤ 536870912) (hcells : cells + 1 ≤ R.cells) (hslots : slots + N' ≤ R.slots) (hdg : decode cc pc = .ok (.anewarray index, 3))
    (kk : ∀ (q : Nat) (H1 : Heap), va_P D cl (ws ++ [(q, .inl (cy t, N', .inr (.inr (.inr (.inr (fun _ => none))))))]) H1 → va_D A (ws ++ [(q, .inl (cy t, N', .inr (.inr (.inr (.inr (fun _ => none))))))]) → va_S A H0 H1 locs →
      W p l e R s m args below meth c H1 locs (cells + 1) (slots + N') Q (F0 m (pc + 3) ls (.ref q :: rest))) : W p l e R s m args below meth c H locs cells slots Q (F0 m pc ls (.int n :: rest)) := by
  refine va_newq (tys := mm_tys cy) hexec hb hown hclink hover hK hP hD hS hA hn hN hbytes hcells hslots hdg (fun q cA H1 hK1 hP1 hD1 hS1 => ?_)
  have e0 : cA = cy t := cn_same hK1 hK (k1 := (mm_tys cy).length) (by simp) ht
  subst e0
  exact kk q H1 hP1 hD1 hS1
theorem cn_mna (hexec : p.tables.exec = Jvm.exec) (hb : c.code = cc) {own : String} {index : Nat} (hown : s.vm.findClass own = some m.cls) (hclink : (Cond.classLink own index "[[I").before args s = true) (hover : va_AOA .int s) (harr : (Cond.arrayClass .int).before args s = true)
    (hK : va_K D cl (mm_tys cy) s) (hP : va_P D cl ws H) (hD : va_D A ws) (hS : va_S A H0 H locs) (hA : ∀ q, H0.size ≤ q → A q) {n k : Int32} {N' K' : Nat} (hn : ¬ n < 0) (hk : ¬ k < 0) (hN : n.toNatClampNeg = N') (hM : k.toNatClampNeg = K')
    (hb1 : N' * 4 ≤ 536870912) (hb2 : K' * 4 ≤ 536870912) (hcells : cells + (1 + N') ≤ R.cells) (hslots : slots + (N' + N' * K') ≤ R.slots) (hdg : decode cc pc = .ok (.multianewarray index 2, 4))
    (kk : ∀ (q : Nat) (r : Nat → Nat) (H1 : Heap), va_P D cl (ws ++ ((q, .inl (cy 4, N', .inr (.inr (.inr (.inr (fun i => if i < N' then some (r i) else none)))))) :: (List.range N').map (fun i => (r i, .inl (cy 0, K', .inl (fun _ => 0)))))) H1 → va_D A (ws ++ ((q, .inl (cy 4, N', .inr (.inr (.inr (.inr (fun i => if i < N' then some (r i) else none)))))) :: (List.range N').map (fun i => (r i, .inl (cy 0, K', .inl (fun _ => 0)))))) → va_S A H0 H1 locs →
      W p l e R s m args below meth c H1 locs (cells + 1 + N') (slots + N' + N' * K') Q (F0 m (pc + 4) ls (.ref q :: rest))) : W p l e R s m args below meth c H locs cells slots Q (F0 m pc ls (.int k :: .int n :: rest)) := by
  have h0 : s.vm.findClass (FieldType.array .int).toString = some (cy 0) := by
    have := cn_name (hK.2 0 _ rfl).2
    rw [show (FieldType.array .int).toString = "[" ++ FieldType.int.toString by decide +kernel]
    exact this
  have eW : ws ++ va_pl [] (fun _ => (.inr (0, []) : va_E)) = ws := by
    show ws ++ [] = ws
    exact List.append_nil ws
  refine va_mna (X := ws) (L := []) (f := fun _ => .inr (0, [])) (ty := .int) (z := (K', .inl (fun _ => 0))) (N' := N') (K' := K') hexec hb hown (by rw [show "[" ++ (FieldType.array .int).toString = "[[I" by decide +kernel]; exact hclink) hover harr h0 hK (by rw [eW]; exact hP) (by rw [eW]; exact hD) hS hA hn hk hN hM hb1 hb2 (by omega) rfl rfl hcells hslots (fun c9 => arrV_new c9 K' _) hdg (fun q r cA H1 hr hrL hK1 hP1 hD1 hS1 => ?_)
  have e0 : cA = cy 4 := cn_same hK1 hK (k1 := (mm_tys cy).length) (k2 := 4) (by simp) rfl
  subst e0
  have e1 : va_pl ([] ++ (List.range N').map r) (vr_up (fun _ => (.inr (0, []) : va_E)) ((List.range N').map r) (.inl (cy 0, K', .inl (fun _ => 0)))) = (List.range N').map (fun i => (r i, .inl (cy 0, K', .inl (fun _ => 0)))) := by
    rw [List.nil_append]
    unfold va_pl
    rw [List.map_map]
    apply List.map_congr_left
    intro i hi
    show (r i, vr_up _ _ _ (r i)) = _
    rw [vr_up_in (List.mem_map.mpr ⟨i, hi, rfl⟩)]
  rw [e1, List.append_assoc] at hP1 hD1
  exact kk q r H1 hP1 hD1 hS1
end CN
/-- behind a constructor's call: its cells take the place of the one that was last -/
theorem cn_free {A0 : Nat → Prop} {ws : va_W} {x : Nat × va_E} {H0 H : Heap} {locs : List Loc} (hD : va_D A0 (ws ++ [x])) (hS : va_S A0 H0 H locs) (hA : ∀ q, H0.size ≤ q → A0 q) : ∀ q, va_A [x] H.size q → A0 q := va_free hD hS hA [ws.length] (by simp)
theorem cn_join {A0 : Nat → Prop} {D : va_G} {cl : List vw_C} {ws w1 : va_W} {x : Nat × va_E} {H H1 : Heap} (hP : va_P D cl (ws ++ [x]) H) (hD : va_D A0 (ws ++ [x])) (hk : ∀ q : Nat, q < H.size → ¬ va_A [x] H.size q → H1[q]? = H[q]?) (hF : ∀ q, va_A [x] H.size q → A0 q) (hP1 : va_P D cl w1 H1) (hD1 : va_D (va_A [x] H.size) w1) : va_P D cl (ws ++ w1) H1 ∧ va_D A0 (ws ++ w1) := by
  have lo : ∀ (k : Nat) (q : Nat × va_E), ws[k]? = some q → (ws ++ [x])[k]? = some q := fun k q h => by
    rw [List.getElem?_append_left (List.getElem?_eq_some_iff.mp h).1]
    exact h
  have nx : ∀ (k : Nat) (q : Nat × va_E), ws[k]? = some q → q.1 < H.size ∧ ¬ va_A [x] H.size q.1 := fun k q h => by
    have h1 := lo k q h
    have h2 := (hP k q h1).lt
    refine ⟨h2, fun w => ?_⟩
    rcases w with ⟨k9, e9, w⟩ | w
    · have hk0 : k9 < 1 := (List.getElem?_eq_some_iff.mp w).1
      rw [show k9 = 0 by omega] at w
      cases w
      have := hD.1 k ws.length q (q.1, e9) h1 (by simp) rfl
      have := (List.getElem?_eq_some_iff.mp h).1
      omega
    · omega
  have hP0 : va_P D cl ws H := fun k q h => hP k q (lo k q h)
  have hD0 : va_D A0 ws := ⟨fun i j p q hi hj e => hD.1 i j p q (lo i p hi) (lo j q hj) e, fun k q h => hD.2 k q (lo k q h)⟩
  refine ⟨(hP0.kept (fun k q h => hk q.1 (nx k q h).1 (nx k q h).2)).app hP1, hD0.app (hD1.weaken (fun k q _ h => hF q.1 h)) (fun i j p q hi hj e => ?_)⟩
  have h1 := hD1.2 j q hj
  rw [← e] at h1
  exact (nx i p hi).2 h1
/-! lists of addresses: pairwise unlike -/
def AN (A : Nat → Prop) (l : List Nat) : Prop := l.Pairwise (· ≠ ·) ∧ ∀ a ∈ l, A a
theorem AN.perm {A : Nat → Prop} {l l' : List Nat} (h : AN A l) (hp : l.Perm l') : AN A l' :=
  ⟨(hp.pairwise_iff (fun {_ _} h => Ne.symm h)).mp h.1, fun a ha => h.2 a (hp.mem_iff.mpr ha)⟩
theorem AN_of {A : Nat → Prop} {ws : va_W} (h : va_D A ws) : AN A (ws.map Prod.fst) := by
  refine ⟨List.pairwise_iff_getElem.mpr (fun i j hi hj hij e => ?_), fun a ha => ?_⟩
  · rw [List.getElem_map, List.getElem_map] at e
    have hi' : i < ws.length := by simpa using hi
    have hj' : j < ws.length := by simpa using hj
    have := h.1 i j _ _ (List.getElem?_eq_getElem hi') (List.getElem?_eq_getElem hj') e
    omega
  · obtain ⟨q, hq, rfl⟩ := List.mem_map.mp ha
    obtain ⟨k, hk⟩ := List.getElem?_of_mem hq
    exact h.2 k q hk
theorem D_of {A : Nat → Prop} {ws : va_W} (h : AN A (ws.map Prod.fst)) : va_D A ws := by
  refine ⟨fun i j p q hi hj e => ?_, fun k q hk => h.2 _ (List.mem_map.mpr ⟨q, List.mem_of_getElem? hk, rfl⟩)⟩
  have key := List.pairwise_iff_getElem.mp h.1
  obtain ⟨hi1, hi2⟩ := List.getElem?_eq_some_iff.mp hi
  obtain ⟨hj1, hj2⟩ := List.getElem?_eq_some_iff.mp hj
  rcases Nat.lt_trichotomy i j with w | w | w
  · exact absurd (by rw [List.getElem_map, List.getElem_map, hi2, hj2]; exact e) (key i j (by simpa using hi1) (by simpa using hj1) w)
  · exact w
  · exact absurd (by rw [List.getElem_map, List.getElem_map, hi2, hj2]; exact e.symm) (key j i (by simpa using hj1) (by simpa using hi1) w)
theorem mm_L_fst (T : List Shp) (ad : Nat → Nat) (cy : Nat → ClassId) (g : Mm) : (mm_L T ad cy g).map Prod.fst = (List.range T.length).map ad := by
  unfold mm_L
  rw [List.map_map]
  rfl
theorem getD_all (L : List Nat) {n : Nat} (h : L.length = n) : (List.range n).map (fun k => L.getD k 0) = L := by
  apply List.ext_getElem?
  intro i
  rw [List.getElem?_map]
  by_cases hi : i < n
  · rw [List.getElem?_range hi, Option.map_some, List.getD_eq_getElem?_getD, List.getElem?_eq_getElem (by omega), Option.getD_some]
  · rw [List.getElem?_eq_none (by simp; omega), List.getElem?_eq_none (by omega)]
    rfl
theorem getD_seg (P S R : List Nat) {o k : Nat} (hP : P.length = o) (hk : k < S.length) : (P ++ (S ++ R)).getD (o + k) 0 = S.getD k 0 := by
  subst hP
  rw [List.getD_eq_getElem?_getD, List.getElem?_append_right (by omega), Nat.add_sub_cancel_left, List.getElem?_append_left hk, ← List.getD_eq_getElem?_getD]
theorem getD_range (f : Nat → Nat) {n k : Nat} (h : k < n) : ((List.range n).map f).getD k 0 = f k := by
  rw [List.getD_eq_getElem?_getD, List.getElem?_map, List.getElem?_range h]
  rfl
/-! a memory out of pieces -/
def sh0 : Shp := .inl (0, [])
def mm_one (D : va_G) (T : List Shp) (ad : Nat → Nat) (cy : Nat → ClassId) (g : Mm) (H : Heap) (k : Nat) : Prop := va_at D vwCl (ad k, mm_e ad cy (g k) k (T.getD k sh0)) H
theorem mm_P_of {D : va_G} {T : List Shp} {ad : Nat → Nat} {cy : Nat → ClassId} {g : Mm} {H : Heap} (h : ∀ k, k < T.length → mm_one D T ad cy g H k) : va_P D vwCl (mm_L T ad cy g) H := by
  intro k q hq
  have hk := (mm_L_get hq).1
  unfold mm_L at hq
  rw [List.getElem?_map, List.getElem?_range hk, Option.map_some] at hq
  cases hq
  exact h k hk
theorem mm_P_at {D : va_G} {T : List Shp} {ad : Nat → Nat} {cy : Nat → ClassId} {g : Mm} {H : Heap} (h : va_P D vwCl (mm_L T ad cy g) H) {k : Nat} (hk : k < T.length) : mm_one D T ad cy g H k := by
  refine h k _ ?_
  unfold mm_L
  rw [List.getElem?_map, List.getElem?_range hk, Option.map_some]
  rfl
/-- no place behind the end is spoken of; places by their numbers stand only where the rest is told -/
def cl_ok (T : List Shp) (k : Nat) : Bool := match T.getD k sh0 with
  | .inl (_, fl) => fl.all (fun o => match o with | none => true | some d => decide (k + d < T.length))
  | .inr (_, _, none) => true
  | .inr (N, _, some (some d)) => decide (k + d + N ≤ T.length)
  | .inr (_, _, some none) => true
def clsd (T : List Shp) : Bool := (List.range T.length).all (cl_ok T)
theorem arrV_cg {cA : ClassId} {n : Nat} {f f' : Nat → Value} (h : ∀ j, j < n → f j = f' j) : arrV cA n f = arrV cA n f' := by
  unfold arrV
  congr 1
  apply Array.ext
  · simp
  · intro i h1 h2
    have : i < n := by simpa using h1
    simpa using h i this
theorem outer_cg {D : va_G} {q : Nat} {cA : ClassId} {n : Nat} {f f' : Nat → Option Nat} {H : Heap} (h : ∀ j, j < n → f j = f' j) (ha : va_at D vwCl (q, .inl (cA, n, .inr (.inr (.inr (.inr f))))) H) : va_at D vwCl (q, .inl (cA, n, .inr (.inr (.inr (.inr f'))))) H := by
  show H[q]? = some (vp_cell _ _)
  rw [show vp_cell cA (n, .inr (.inr (.inr (.inr f')))) = vp_cell cA (n, .inr (.inr (.inr (.inr f)))) from by
    rw [vp_cell_q, vp_cell_q]
    exact arrV_cg (fun j hj => by rw [h j hj])]
  exact ha
theorem mm_shift {D : va_G} {T T' : List Shp} {ad ad' : Nat → Nat} {cy : Nat → ClassId} {g g' : Mm} {H : Heap} {o : Nat} (hT : ∀ k, k < T'.length → T.getD (o + k) sh0 = T'.getD k sh0) (had : ∀ k, k < T'.length → ad (o + k) = ad' k) (hg : ∀ k, k < T'.length → g (o + k) = g' k) (hc : clsd T' = true) (hz : ∀ k N t, k < T'.length → T'.getD k sh0 = .inr (N, t, some none) → ∀ j, g' k j = 0) (hP : va_P D vwCl (mm_L T' ad' cy g') H) : ∀ k, k < T'.length → mm_one D T ad cy g H (o + k) := by
  intro k hk
  have h1 := mm_P_at hP hk
  have h2 := List.all_eq_true.mp hc k (List.mem_range.mpr hk)
  unfold mm_one at h1 ⊢
  unfold cl_ok at h2
  rw [hT k hk, had k hk, hg k hk]
  revert h1 h2
  have hz := fun N t => hz k N t hk
  revert hz
  generalize T'.getD k sh0 = S
  intro hz h1 h2
  match S, hz, h1, h2 with
  | .inl (ci, fl), hz, h1, h2 =>
    have e : mm_F ad (g' k) (o + k) fl = mm_F ad' (g' k) k fl := by
      unfold mm_F
      apply List.map_congr_left
      intro j hj
      have hj := List.mem_range.mp hj
      have h3 := List.all_eq_true.mp h2 (fl.getD j none) (by
        rw [List.getD_eq_getElem?_getD, List.getElem?_eq_getElem hj]
        exact List.getElem_mem hj)
      unfold mm_fv
      cases hd : fl.getD j none with
      | none => rfl
      | some d =>
        rw [hd] at h3
        have h3 : k + d < T'.length := of_decide_eq_true h3
        show Value.ref (ad (o + k + d)) = Value.ref (ad' (k + d))
        rw [Nat.add_assoc, had (k + d) h3]
    show va_at D vwCl (ad' k, .inr (ci, mm_F ad (g' k) (o + k) fl)) H
    rw [e]
    exact h1
  | .inr (N, t, none), hz, h1, h2 => exact h1
  | .inr (N, t, some (some d)), hz, h1, h2 =>
    have h3 : k + d + N ≤ T'.length := of_decide_eq_true h2
    exact outer_cg (fun j hj => by
      show some (ad' (k + d + j)) = some (ad (o + k + d + j))
      rw [← had (k + d + j) (by omega)]
      congr 2
      omega) h1
  | .inr (N, t, some none), hz, h1, h2 =>
    exact outer_cg (fun j hj => by
      show (mm_code (g' k j)).map ad' = (mm_code (g' k j)).map ad
      rw [hz N t rfl j, mm_code_0]
      rfl) h1
