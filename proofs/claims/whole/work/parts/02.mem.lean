/-! THE MEMORY: a fixed number of places; place k lies at address ad k; what it holds is read off g k (whole numbers), its shape off a table T -/
abbrev Mm : Type := Nat → Nat → Int32
def mm_row (g : Mm) (k : Nat) (f : Nat → Int32) : Mm := fun a => if a = k then f else g a
def mm_up (g : Mm) (k j : Nat) (x : Int32) : Mm := mm_row g k (upd (g k) j x)
theorem mm_row_at (g : Mm) (k : Nat) (f : Nat → Int32) : mm_row g k f k = f := if_pos rfl
theorem mm_row_ne (g : Mm) {k a : Nat} (f : Nat → Int32) (h : a ≠ k) : mm_row g k f a = g a := if_neg h
theorem mm_row_self (g : Mm) (k : Nat) : mm_row g k (g k) = g := by
  funext a
  unfold mm_row
  split
  · rename_i h; rw [h]
  · rfl
theorem mm_up_ap (g : Mm) (k j : Nat) (x : Int32) (a b : Nat) : mm_up g k j x a b = if a = k then (if b = j then x else g a b) else g a b := by
  unfold mm_up mm_row
  split
  · rename_i h; subst h; rfl
  · rfl
/-- a shape: an object (number of its class, its fields: a number, or the place so far behind this one), or an array (length, number of its type; numbers, or the places so far behind this one, or places by their numbers, 0 for null) -/
abbrev Shp : Type := (Nat × List (Option Nat)) ⊕ (Nat × Nat × Option (Option Nat))
def mm_code (x : Int32) : Option Nat := if x = 0 then none else some x.toNatClampNeg
def mm_fv (ad : Nat → Nat) (f : Nat → Int32) (k : Nat) (o : Option Nat) (j : Nat) : Value := match o with
  | none => .int (f j)
  | some d => .ref (ad (k + d))
def mm_F (ad : Nat → Nat) (f : Nat → Int32) (k : Nat) (fl : List (Option Nat)) : List Value := (List.range fl.length).map (fun j => mm_fv ad f k (fl.getD j none) j)
def mm_e (ad : Nat → Nat) (cy : Nat → ClassId) (f : Nat → Int32) (k : Nat) : Shp → va_E
  | .inl (ci, fl) => .inr (ci, mm_F ad f k fl)
  | .inr (N, t, none) => .inl (cy t, N, .inl f)
  | .inr (N, t, some (some d)) => .inl (cy t, N, .inr (.inr (.inr (.inr (fun j => some (ad (k + d + j)))))))
  | .inr (N, t, some none) => .inl (cy t, N, .inr (.inr (.inr (.inr (fun j => (mm_code (f j)).map ad)))))
def mm_L (T : List Shp) (ad : Nat → Nat) (cy : Nat → ClassId) (g : Mm) : va_W := (List.range T.length).map (fun k => (ad k, mm_e ad cy (g k) k (T.getD k (.inl (0, [])))))
def mm_I (T : List Shp) (ad : Nat → Nat) : Prop := ∀ i j : Nat, i < T.length → j < T.length → ad i = ad j → i = j
def mm_A (T : List Shp) (ad : Nat → Nat) : Nat → Prop := fun q => ∃ k : Nat, k < T.length ∧ q = ad k
def mm_tys (cy : Nat → ClassId) : List (ClassId × FieldType) := [(cy 0, .int), (cy 1, .boolean), (cy 2, .object RX5), (cy 3, .object RX4), (cy 4, .array .int)]
theorem mm_lt {T : List Shp} {k : Nat} {S : Shp} (h : T[k]? = some S) : k < T.length := (List.getElem?_eq_some_iff.mp h).1
theorem mm_L_at {T : List Shp} {ad : Nat → Nat} {cy : Nat → ClassId} {g : Mm} {k : Nat} {S : Shp} (h : T[k]? = some S) : (mm_L T ad cy g)[k]? = some (ad k, mm_e ad cy (g k) k S) := by
  unfold mm_L
  rw [List.getElem?_map, List.getElem?_range (mm_lt h), Option.map_some, List.getD_eq_getElem?_getD, h]
  rfl
theorem mm_L_get {T : List Shp} {ad : Nat → Nat} {cy : Nat → ClassId} {g : Mm} {k : Nat} {q : Nat × va_E} (h : (mm_L T ad cy g)[k]? = some q) : k < T.length ∧ q.1 = ad k := by
  have hl := (List.getElem?_eq_some_iff.mp h).1
  have hk : k < T.length := by simpa [mm_L] using hl
  refine ⟨hk, ?_⟩
  unfold mm_L at h
  rw [List.getElem?_map, List.getElem?_range hk, Option.map_some] at h
  cases h
  rfl
theorem mm_L_set {T : List Shp} {ad : Nat → Nat} {cy : Nat → ClassId} {g : Mm} {k : Nat} {S : Shp} (h : T[k]? = some S) (f : Nat → Int32) : (mm_L T ad cy g).set k (ad k, mm_e ad cy f k S) = mm_L T ad cy (mm_row g k f) := by
  have hk := mm_lt h
  apply List.ext_getElem?
  intro i
  by_cases e : i = k
  · subst e
    rw [List.getElem?_set_self (by simpa [mm_L] using hk), mm_L_at h, mm_row_at]
  · rw [List.getElem?_set_ne (Ne.symm e)]
    unfold mm_L
    rw [List.getElem?_map, List.getElem?_map]
    by_cases hi : i < T.length
    · rw [List.getElem?_range hi]
      simp only [Option.map_some, mm_row_ne g f e]
    · rw [List.getElem?_eq_none (by simp; omega)]
      rfl
theorem mm_Dd {T : List Shp} {ad : Nat → Nat} {cy : Nat → ClassId} {g : Mm} (hI : mm_I T ad) : va_D (mm_A T ad) (mm_L T ad cy g) := by
  refine ⟨fun i j p q hi hj hpq => ?_, fun k q hk => ?_⟩
  · obtain ⟨i1, i2⟩ := mm_L_get hi
    obtain ⟨j1, j2⟩ := mm_L_get hj
    exact hI i j i1 j1 (by rw [← i2, ← j2]; exact hpq)
  · obtain ⟨k1, k2⟩ := mm_L_get hk
    exact ⟨k, k1, k2⟩
theorem mm_F_at {ad : Nat → Nat} {f : Nat → Int32} {k j : Nat} {fl : List (Option Nat)} {o : Option Nat} (h : fl[j]? = some o) : (mm_F ad f k fl)[j]? = some (mm_fv ad f k o j) := by
  unfold mm_F
  rw [List.getElem?_map, List.getElem?_range (List.getElem?_eq_some_iff.mp h).1, Option.map_some, List.getD_eq_getElem?_getD, h]
  rfl
theorem mm_F_set {ad : Nat → Nat} {f : Nat → Int32} {k j : Nat} {fl : List (Option Nat)} {x : Int32} (h : fl[j]? = some none) : (mm_F ad f k fl).set j (.int x) = mm_F ad (upd f j x) k fl := by
  have hj := (List.getElem?_eq_some_iff.mp h).1
  apply List.ext_getElem?
  intro i
  by_cases e : i = j
  · subst e
    rw [List.getElem?_set_self (by simpa [mm_F] using hj), mm_F_at h]
    simp [mm_fv, upd]
  · rw [List.getElem?_set_ne (Ne.symm e)]
    unfold mm_F
    rw [List.getElem?_map, List.getElem?_map]
    by_cases hi : i < fl.length
    · rw [List.getElem?_range hi]
      simp only [Option.map_some]
      congr 1
      unfold mm_fv
      split
      · simp [upd, e]
      · rfl
    · rw [List.getElem?_eq_none (by simp; omega)]
      rfl
/-! what a translated method is made of: a guard, a call, a write, a name -/
def og {α : Type} (b : Bool) (x : Option α) : Option α := if b then x else none
def op {α β : Type} (x : Option α) (k : α → Option β) : Option β := x.bind k
def ob {α β : Type} (x : Option (α × Mm)) (k : α → Mm → Option β) : Option β := x.bind (fun q => k q.1 q.2)
def mw {β : Type} (g : Mm) (k j : Nat) (x : Int32) (K : Mm → Option β) : Option β := K (mm_up g k j x)
def mr {β : Type} (g : Mm) (k : Nat) (f : Nat → Int32) (K : Mm → Option β) : Option β := K (mm_row g k f)
def mv {α β : Type} (x : α) (K : α → Option β) : Option β := K x
def mm_in (i : Int32) (N : Nat) : Bool := decide (¬ i < 0) && decide (i.toNatClampNeg < N)
def mm_01 (x : Int32) : Bool := decide (x = 0) || decide (x = 1)
def mm_cp (sp dp n : Int32) (n0 n1 : Nat) : Bool := decide (¬ sp < 0) && decide (¬ dp < 0) && decide (¬ n < 0) && decide (sp.toNatClampNeg + n.toNatClampNeg ≤ n0) && decide (dp.toNatClampNeg + n.toNatClampNeg ≤ n1)
theorem og_some {α : Type} {b : Bool} {x : Option α} {r : α} (h : og b x = some r) : b = true ∧ x = some r := by
  unfold og at h
  split at h
  · exact ⟨by assumption, h⟩
  · cases h
theorem op_some {α β : Type} {x : Option α} {k : α → Option β} {r : β} (h : op x k = some r) : ∃ a, x = some a ∧ k a = some r := Option.bind_eq_some_iff.mp h
theorem ob_some {α β : Type} {x : Option (α × Mm)} {k : α → Mm → Option β} {r : β} (h : ob x k = some r) : ∃ a g, x = some (a, g) ∧ k a g = some r := by
  obtain ⟨⟨a, g⟩, h1, h2⟩ := Option.bind_eq_some_iff.mp h
  exact ⟨a, g, h1, h2⟩
theorem mw_some {β : Type} {g : Mm} {k j : Nat} {x : Int32} {K : Mm → Option β} {r : β} (h : mw g k j x K = some r) : ∃ g2, g2 = mm_up g k j x ∧ K g2 = some r := ⟨_, rfl, h⟩
theorem mr_some {β : Type} {g : Mm} {k : Nat} {f : Nat → Int32} {K : Mm → Option β} {r : β} (h : mr g k f K = some r) : ∃ g2, g2 = mm_row g k f ∧ K g2 = some r := ⟨_, rfl, h⟩
theorem mv_some {α β : Type} {x : α} {K : α → Option β} {r : β} (h : mv x K = some r) : ∃ y, y = x ∧ K y = some r := ⟨_, rfl, h⟩
theorem mm_in_vp {i : Int32} {N : Nat} (h : mm_in i N = true) : vp_in i N := by
  simp only [mm_in, Bool.and_eq_true, decide_eq_true_eq] at h
  rintro (q | q)
  · exact h.1 q
  · omega
theorem mm_in_lt {i : Int32} {N : Nat} (h : mm_in i N = true) : i.toNatClampNeg < N := by
  simp only [mm_in, Bool.and_eq_true, decide_eq_true_eq] at h
  exact h.2
theorem mm_01_nar {x : Int32} (h : mm_01 x = true) : narrow .boolean (.int x) = .int x := by
  simp only [mm_01, Bool.or_eq_true, decide_eq_true_eq] at h
  rcases h with h | h <;> subst h <;> decide +kernel
theorem mm_01_fit {x : Int32} (h : mm_01 x = true) : fits .boolean (.int x) = true := by
  simp only [mm_01, Bool.or_eq_true, decide_eq_true_eq] at h
  rcases h with h | h <;> subst h <;> decide +kernel
theorem mm_01_vp {x : Int32} (h : mm_01 x = true) : vp_nar .boolean x = x := by
  unfold vp_nar
  rw [mm_01_nar h]
theorem mm_cp_of {sp dp n : Int32} {n0 n1 : Nat} (h : mm_cp sp dp n n0 n1 = true) : ¬ sp < 0 ∧ ¬ dp < 0 ∧ ¬ n < 0 ∧ sp.toNatClampNeg + n.toNatClampNeg ≤ n0 ∧ dp.toNatClampNeg + n.toNatClampNeg ≤ n1 := by
  simp only [mm_cp, Bool.and_eq_true, decide_eq_true_eq] at h
  exact ⟨h.1.1.1.1, h.1.1.1.2, h.1.1.2, h.1.2, h.2⟩
theorem mm_code_nI {q : Nat} (h0 : q ≠ 0) (h : q < 2 ^ 31) : mm_code (nI q) = some q := by
  unfold mm_code
  rw [if_neg (nI_ne0 (by omega) h), nI_clamp h]
theorem mm_code_0 : mm_code 0 = none := if_pos rfl
/-! statics: the five tables of whole numbers, and the nest mates' words -/
def mm_tab (l : List Int32) (j : Nat) : Int32 := l.getD j 0
def mm_Zt (C n : String) (l : List Int32) (A : Nat → Prop) (U : State) (H : Heap) : Prop := ∃ t : Nat, va_Z C n "[I" (.ref t) A U H ∧ va_T .int t l.length (fun j => .int (mm_tab l j)) A U H
theorem mm_Zt.kept {C n : String} {l : List Int32} {A : Nat → Prop} {U : State} {H H1 : Heap} (h : mm_Zt C n l A U H) (hq : ∀ a : Nat, a < H.size → ¬ A a → H1[a]? = H[a]?) : mm_Zt C n l A U H1 := by
  obtain ⟨t, h1, h2⟩ := h
  exact ⟨t, h1.kept hq, h2.kept hq⟩
theorem mm_Zt.moved {C n : String} {l : List Int32} {A : Nat → Prop} {u U : State} {H : Heap} (hvm : u.vm.Alike U.vm) (h : mm_Zt C n l A u H) : mm_Zt C n l A U H := by
  obtain ⟨t, h1, h2⟩ := h
  exact ⟨t, h1.moved hvm, h2.moved hvm⟩
def mm_base : List Int32 := [20, 26, 40, 30]
def mm_mudm : List Int32 := [1, 1, 2, 3]
def mm_tA : List Int32 := [1, 0, 0, 0]
def mm_tB : List Int32 := [1, 1, 2, 0]
def mm_tC : List Int32 := [0, 1, 0, 0]
def mm_Zs (A : Nat → Prop) (U : State) (H : Heap) : Prop := mm_Zt "LeftShoes$World" "BASE_MINUTES" mm_base A U H ∧ mm_Zt "LeftShoes$World" "MUD_MINUTES" mm_mudm A U H ∧ mm_Zt "LeftShoes$Walk" "TIMES_A" mm_tA A U H ∧ mm_Zt "LeftShoes$Walk" "TIMES_B" mm_tB A U H ∧ mm_Zt "LeftShoes$Walk" "TIMES_C" mm_tC A U H
def mm_Zn (U : State) : Prop := va_Nw (.methodLinkNest RX0 27 yX11_isWithin RX11) U ∧ va_Nw (.methodLinkNest RX6 19 yX11_isWithin RX11) U ∧ va_Nw (.methodLinkNest RX8 24 yX11_isWithin RX11) U ∧ va_Nw (.methodLinkNest RX10 57 yX11_isWithin RX11) U
def mm_Z (A : Nat → Prop) (U : State) (H : Heap) : Prop := mm_Zs A U H ∧ mm_Zn U
theorem mm_Z.kept {A : Nat → Prop} {U : State} {H H1 : Heap} (h : mm_Z A U H) (hq : ∀ a : Nat, a < H.size → ¬ A a → H1[a]? = H[a]?) : mm_Z A U H1 := ⟨⟨h.1.1.kept hq, h.1.2.1.kept hq, h.1.2.2.1.kept hq, h.1.2.2.2.1.kept hq, h.1.2.2.2.2.kept hq⟩, h.2⟩
theorem mm_Z.warm {A : Nat → Prop} {s U : State} {H : Heap} (hW : s.WarmedH U.vm) (h : mm_Z A s H) : mm_Z A U H := ⟨⟨h.1.1.moved hW.alike, h.1.2.1.moved hW.alike, h.1.2.2.1.moved hW.alike, h.1.2.2.2.1.moved hW.alike, h.1.2.2.2.2.moved hW.alike⟩, h.2.1.warmM hW, h.2.2.1.warmM hW, h.2.2.2.1.warmM hW, h.2.2.2.2.warmM hW⟩
theorem mm_Z.same {A : Nat → Prop} {u U : State} {H : Heap} (e : u.vm = U.vm) (h : mm_Z A u H) : mm_Z A U H := by
  have hvm : u.vm.Alike U.vm := by rw [e]; exact Vm.Alike.refl _
  exact ⟨⟨h.1.1.moved hvm, h.1.2.1.moved hvm, h.1.2.2.1.moved hvm, h.1.2.2.2.1.moved hvm, h.1.2.2.2.2.moved hvm⟩, va_Nw.same rfl e h.2.1, va_Nw.same rfl e h.2.2.1, va_Nw.same rfl e h.2.2.2.1, va_Nw.same rfl e h.2.2.2.2⟩
/-! the start and the end of a method over a memory; Z: what else it wants of the tables and statics -/
abbrev ZZ : Type := (Nat → Prop) → State → Heap → Prop
def mm_zOk (Z : ZZ) : Prop := (∀ (A : Nat → Prop) (U : State) (H H1 : Heap), Z A U H → (∀ a : Nat, a < H.size → ¬ A a → H1[a]? = H[a]?) → Z A U H1) ∧ (∀ (A : Nat → Prop) (s U : State) (H : Heap), s.WarmedH U.vm → Z A s H → Z A U H) ∧ ∀ (A : Nat → Prop) (u U : State) (H : Heap), u.vm = U.vm → Z A u H → Z A U H
theorem mm_zOkC : mm_zOk mm_Z := ⟨fun _ _ _ _ h q => h.kept q, fun _ _ _ _ hW h => h.warm hW, fun _ _ _ _ e h => h.same e⟩
def mm_Z0 : ZZ := fun _ _ _ => True
theorem mm_zOk0 : mm_zOk mm_Z0 := ⟨fun _ _ _ _ _ _ => trivial, fun _ _ _ _ _ _ => trivial, fun _ _ _ _ _ _ => trivial⟩
def mm_pre (Z : ZZ) (D : va_G) (T : List Shp) (ad : Nat → Nat) (cy : Nat → ClassId) (g : Mm) (U : State) : Prop := va_P D vwCl (mm_L T ad cy g) U.heap ∧ va_K D vwCl (mm_tys cy) U ∧ mm_I T ad ∧ Z (mm_A T ad) U U.heap
abbrev mm_Qi (D : va_G) (T : List Shp) (ad : Nat → Nat) (cy : Nat → ClassId) (r0 : Int32) (g' : Mm) : Array Value → State → Outcome → State → Prop := va_Qi (fun (r : Int32) (_ : Unit) => r = r0) (fun _ t => va_P D vwCl (mm_L T ad cy g') t.heap) (mm_A T ad)
abbrev mm_Qv (D : va_G) (T : List Shp) (ad : Nat → Nat) (cy : Nat → ClassId) (g' : Mm) : Array Value → State → Outcome → State → Prop := va_Qv (fun (_ : Unit) => True) (fun _ t => va_P D vwCl (mm_L T ad cy g') t.heap) (mm_A T ad)
abbrev mm_Qq (D : va_G) (T : List Shp) (ad : Nat → Nat) (cy : Nat → ClassId) (r0 : Option Nat) (g' : Mm) : Array Value → State → Outcome → State → Prop := va_Qq (fun (r : Option Nat) (_ : Unit) => r = r0.map ad) (fun _ t => va_P D vwCl (mm_L T ad cy g') t.heap) (mm_A T ad)
theorem mm_blind {Z : ZZ} (hz : mm_zOk Z) {D : va_G} {T : List Shp} {ad : Nat → Nat} {cy : Nat → ClassId} {g : Mm} {av : List Value} : FrameBlind (va_Pc av (mm_pre Z D T ad cy g)) := fun a U g1 mk q => ⟨q.1, q.2.1, va_K.moved (u := U) (U := U.calling g1 mk a) (Vm.Alike.refl U.vm) q.2.2.1, q.2.2.2.1, hz.2.2 _ U (U.calling g1 mk a) _ rfl q.2.2.2.2⟩
theorem mm_to {Z : ZZ} (hz : mm_zOk Z) {D : va_G} {T : List Shp} {ad : Nat → Nat} {cy : Nat → ClassId} {g : Mm} {s : State} {H : Heap} {locs : List Loc} (hK : va_K D vwCl (mm_tys cy) s) (hI : mm_I T ad) (hZ : Z (mm_A T ad) s s.heap) (hP : va_P D vwCl (mm_L T ad cy g) H) (hS : va_S (mm_A T ad) s.heap H locs) : ∀ U : State, U.heap = H → s.WarmedH U.vm → mm_pre Z D T ad cy g U := fun U hU hW => ⟨by rw [hU]; exact hP, va_K.moved hW.alike hK, hI, by rw [hU]; exact hz.2.1 _ _ _ _ hW (hz.1 _ _ _ _ hZ hS.2.1)⟩
section MMR
variable {p : Program} {l : Launch} {e : Env} {R : Room} {s : State} {m : MethodId} {args : Array Value} {below : List Frame} {meth : Method} {c : Code} {H : Heap} {locs : List Loc} {cells slots : Nat} {Q : State → Prop}
variable {cc : ByteArray} {pc : Nat} {ls : Array Slot} {rest st0 : List Value} {D : va_G} {T : List Shp} {ad : Nat → Nat} {cy : Nat → ClassId} {g g2 : Mm} {H0 : Heap} {cl : List vw_C} {Z : ZZ}
theorem mq_nm {x y : Int32} (h : y = x) (k : W p l e R s m args below meth c H locs cells slots Q (F0 m pc ls (.int y :: rest))) : W p l e R s m args below meth c H locs cells slots Q (F0 m pc ls (.int x :: rest)) := h ▸ k
theorem mq_geti (hexec : p.tables.exec = Jvm.exec) (hb : c.code = cc) {own C ref : String} {Tt : u_T} {N ci index : Nat} {Ts : List Cond} (hts : ∀ w ∈ Ts, w.before args s = true) (hin : ∀ w ∈ u_ws C Tt N, w ∈ Ts) (hown : s.vm.findClass own = some m.cls) (hK : va_K D cl (mm_tys cy) s) (hP : va_P D cl (mm_L T ad cy g) H) {k : Nat} {fl : List (Option Nat)} (hT : T[k]? = some (.inl (ci, fl))) (hc : cl[ci]? = some (C, Tt, N)) (j : Nat) (hj : j < N) (hf : fl[j]? = some none) (hlink : (Cond.fieldLink own index ref (Tt j).2.1 (Tt j).2.2.1).before args s = true) (hsame : ∀ x, s.fieldFound? (Tt j).1 (Tt j).2.1 (Tt j).2.2.1 = some x → s.fieldFound? ref (Tt j).2.1 (Tt j).2.2.1 = some x) (hdg : decode cc pc = .ok (.getfield index, 3))
    (kk : W p l e R s m args below meth c H locs cells slots Q (F0 m (pc + 3) ls (.int (g k j) :: rest))) : W p l e R s m args below meth c H locs cells slots Q (F0 m pc ls (.ref (ad k) :: rest)) :=
  va_get hexec hb hts hin hown hK hP k (mm_L_at hT) hc j hj hlink hsame (mm_F_at hf) hdg kk
theorem mq_getr (hexec : p.tables.exec = Jvm.exec) (hb : c.code = cc) {own C ref : String} {Tt : u_T} {N ci index : Nat} {Ts : List Cond} (hts : ∀ w ∈ Ts, w.before args s = true) (hin : ∀ w ∈ u_ws C Tt N, w ∈ Ts) (hown : s.vm.findClass own = some m.cls) (hK : va_K D cl (mm_tys cy) s) (hP : va_P D cl (mm_L T ad cy g) H) {k : Nat} {fl : List (Option Nat)} (hT : T[k]? = some (.inl (ci, fl))) (hc : cl[ci]? = some (C, Tt, N)) (j d : Nat) (hj : j < N) (hf : fl[j]? = some (some d)) (hlink : (Cond.fieldLink own index ref (Tt j).2.1 (Tt j).2.2.1).before args s = true) (hsame : ∀ x, s.fieldFound? (Tt j).1 (Tt j).2.1 (Tt j).2.2.1 = some x → s.fieldFound? ref (Tt j).2.1 (Tt j).2.2.1 = some x) (hdg : decode cc pc = .ok (.getfield index, 3))
    (kk : W p l e R s m args below meth c H locs cells slots Q (F0 m (pc + 3) ls (.ref (ad (k + d)) :: rest))) : W p l e R s m args below meth c H locs cells slots Q (F0 m pc ls (.ref (ad k) :: rest)) :=
  va_get hexec hb hts hin hown hK hP k (mm_L_at hT) hc j hj hlink hsame (mm_F_at hf) hdg kk
theorem mq_puti (hexec : p.tables.exec = Jvm.exec) (hb : c.code = cc) {own C ref : String} {Tt : u_T} {N ci index : Nat} {Ts : List Cond} (hts : ∀ w ∈ Ts, w.before args s = true) (hin : ∀ w ∈ u_ws C Tt N, w ∈ Ts) (ty0 : Nat → FieldType) (hty : ∀ k, k < N → parseFieldDescriptor (Tt k).2.2.1 = some (ty0 k)) (hnm : ∀ a, a < N → ∀ b, b < N → a ≠ b → (Tt a).2.1 ≠ (Tt b).2.1) (hown : s.vm.findClass own = some m.cls) (hK : va_K D cl (mm_tys cy) s) (hI : mm_I T ad) (hP : va_P D cl (mm_L T ad cy g) H) (hS : va_S (mm_A T ad) H0 H locs) {k : Nat} {fl : List (Option Nat)} (hT : T[k]? = some (.inl (ci, fl))) (hc : cl[ci]? = some (C, Tt, N)) (j : Nat) (hj : j < N) (hf : fl[j]? = some none) (hlink : (Cond.fieldLink own index ref (Tt j).2.1 (Tt j).2.2.1).before args s = true) (hsame : ∀ x, s.fieldFound? (Tt j).1 (Tt j).2.1 (Tt j).2.2.1 = some x → s.fieldFound? ref (Tt j).2.1 (Tt j).2.2.1 = some x) (hfin : (Tt j).2.2.2 = false) {ty : FieldType} {x : Int32} (hd : parseFieldDescriptor (Tt j).2.2.1 = some ty) (hn : narrow ty (.int x) = .int x) (hfit : fits ty (.int x) = true) (hdg : decode cc pc = .ok (.putfield index, 3)) (hg : g2 = mm_up g k j x)
    (kk : ∀ (H1 : Heap) (locs1 : List Loc), va_P D cl (mm_L T ad cy g2) H1 → va_S (mm_A T ad) H0 H1 locs1 → W p l e R s m args below meth c H1 locs1 cells slots Q (F0 m (pc + 3) ls rest)) : W p l e R s m args below meth c H locs cells slots Q (F0 m pc ls (.int x :: .ref (ad k) :: rest)) := by
  refine va_put hexec hb hts hin ty0 hty hnm hown hK hP (mm_Dd hI) hS k (mm_L_at hT) hc j hj hlink hsame hfin hd hn hfit (by have := (List.getElem?_eq_some_iff.mp hf).1; simpa [mm_F] using this) hdg (fun H1 locs1 hP1 _ hS1 => kk H1 locs1 ?_ hS1)
  have e0 : (mm_L T ad cy g).set k (ad k, .inr (ci, (mm_F ad (g k) k fl).set j (.int x))) = mm_L T ad cy g2 := by
    rw [mm_F_set hf, hg]
    exact mm_L_set hT _
  rw [e0] at hP1
  exact hP1
theorem mq_iald (hexec : p.tables.exec = Jvm.exec) (hb : c.code = cc) (hK : va_K D cl (mm_tys cy) s) (hP : va_P D cl (mm_L T ad cy g) H) {k N : Nat} (hT : T[k]? = some (.inr (N, 0, none))) {i : Int32} (hin : mm_in i N = true) (hdg : decode cc pc = .ok (.iaload, 1))
    (kk : W p l e R s m args below meth c H locs cells slots Q (F0 m (pc + 1) ls (.int (g k i.toNatClampNeg) :: rest))) : W p l e R s m args below meth c H locs cells slots Q (F0 m pc ls (.int i :: .ref (ad k) :: rest)) :=
  va_iald (n := N) hexec hb hK hP k 0 (mm_L_at hT) rfl (mm_in_vp hin) hdg kk
theorem mq_zald (hexec : p.tables.exec = Jvm.exec) (hb : c.code = cc) (hK : va_K D cl (mm_tys cy) s) (hP : va_P D cl (mm_L T ad cy g) H) {k N : Nat} (hT : T[k]? = some (.inr (N, 1, none))) {i : Int32} (hin : mm_in i N = true) (hdg : decode cc pc = .ok (.baload, 1))
    (kk : W p l e R s m args below meth c H locs cells slots Q (F0 m (pc + 1) ls (.int (g k i.toNatClampNeg) :: rest))) : W p l e R s m args below meth c H locs cells slots Q (F0 m pc ls (.int i :: .ref (ad k) :: rest)) :=
  va_zald (n := N) hexec hb hK hP k 1 (mm_L_at hT) rfl (mm_in_vp hin) hdg kk
theorem mq_iast (hexec : p.tables.exec = Jvm.exec) (hb : c.code = cc) (hK : va_K D cl (mm_tys cy) s) (hI : mm_I T ad) (hP : va_P D cl (mm_L T ad cy g) H) (hS : va_S (mm_A T ad) H0 H locs) {k N : Nat} (hT : T[k]? = some (.inr (N, 0, none))) {i x : Int32} (hin : mm_in i N = true) (hdg : decode cc pc = .ok (.iastore, 1)) (hg : g2 = mm_up g k i.toNatClampNeg x)
    (kk : ∀ (H1 : Heap) (locs1 : List Loc), va_P D cl (mm_L T ad cy g2) H1 → va_S (mm_A T ad) H0 H1 locs1 → W p l e R s m args below meth c H1 locs1 cells slots Q (F0 m (pc + 1) ls rest)) : W p l e R s m args below meth c H locs cells slots Q (F0 m pc ls (.int x :: .int i :: .ref (ad k) :: rest)) := by
  refine va_iast (n := N) (f := g k) hexec hb hK hP (mm_Dd hI) hS k 0 (mm_L_at hT) rfl (mm_in_vp hin) hdg (fun H1 locs1 hP1 _ hS1 => kk H1 locs1 ?_ hS1)
  have e0 : (mm_L T ad cy g).set k (ad k, .inl (cy 0, N, .inl (upd (g k) i.toNatClampNeg x))) = mm_L T ad cy g2 := by
    rw [hg]
    exact mm_L_set hT _
  rw [e0] at hP1
  exact hP1
theorem mq_zast (hexec : p.tables.exec = Jvm.exec) (hb : c.code = cc) (hK : va_K D cl (mm_tys cy) s) (hI : mm_I T ad) (hP : va_P D cl (mm_L T ad cy g) H) (hS : va_S (mm_A T ad) H0 H locs) {k N : Nat} (hT : T[k]? = some (.inr (N, 1, none))) {i x : Int32} (hin : mm_in i N = true) (h01 : mm_01 x = true) (hdg : decode cc pc = .ok (.bastore, 1)) (hg : g2 = mm_up g k i.toNatClampNeg x)
    (kk : ∀ (H1 : Heap) (locs1 : List Loc), va_P D cl (mm_L T ad cy g2) H1 → va_S (mm_A T ad) H0 H1 locs1 → W p l e R s m args below meth c H1 locs1 cells slots Q (F0 m (pc + 1) ls rest)) : W p l e R s m args below meth c H locs cells slots Q (F0 m pc ls (.int x :: .int i :: .ref (ad k) :: rest)) := by
  refine va_zast (n := N) (f := g k) hexec hb hK hP (mm_Dd hI) hS k 1 (mm_L_at hT) rfl (mm_in_vp hin) hdg (fun H1 locs1 hP1 _ hS1 => kk H1 locs1 ?_ hS1)
  have e0 : (mm_L T ad cy g).set k (ad k, .inl (cy 1, N, .inl (upd (g k) i.toNatClampNeg x))) = mm_L T ad cy g2 := by
    rw [hg]
    exact mm_L_set hT _
  rw [mm_01_vp h01, e0] at hP1
  exact hP1
theorem mq_aald (hexec : p.tables.exec = Jvm.exec) (hb : c.code = cc) (hK : va_K D cl (mm_tys cy) s) (hP : va_P D cl (mm_L T ad cy g) H) {k N t d : Nat} (hT : T[k]? = some (.inr (N, t, some (some d)))) {C : String} (ht : (mm_tys cy)[t]? = some (cy t, .object C)) {i : Int32} (hin : mm_in i N = true) (hdg : decode cc pc = .ok (.aaload, 1))
    (kk : W p l e R s m args below meth c H locs cells slots Q (F0 m (pc + 1) ls (.ref (ad (k + d + i.toNatClampNeg)) :: rest))) : W p l e R s m args below meth c H locs cells slots Q (F0 m pc ls (.int i :: .ref (ad k) :: rest)) :=
  va_aldq (n := N) hexec hb hK hP k t (mm_L_at hT) ht (mm_in_vp hin) hdg kk
theorem va_aldA {a : Nat} {tys : List (ClassId × FieldType)} {ws : va_W} (hexec : p.tables.exec = Jvm.exec) (hb : c.code = cc) (hK : va_K D cl tys s) (hP : va_P D cl ws H) (q0 t0 : Nat) {cA : ClassId} {tt : FieldType} {n : Nat} {f : Nat → Option Nat} (ha : ws[q0]? = some (a, .inl (cA, n, .inr (.inr (.inr (.inr f)))))) (ht : tys[t0]? = some (cA, .array tt)) {i : Int32} (hin : vp_in i n) (hdg : decode cc pc = .ok (.aaload, 1))
    (kk : W p l e R s m args below meth c H locs cells slots Q (F0 m (pc + 1) ls (va_rf (f i.toNatClampNeg) :: rest))) : W p l e R s m args below meth c H locs cells slots Q (F0 m pc ls (.int i :: .ref a :: rest)) := by
  have hlt : i.toNatClampNeg < n := Nat.not_le.mp fun q => hin (Or.inr q)
  exact W.aald (v := va_rf (f i.toNatClampNeg)) (ty := .array tt) hexec hb (hP q0 _ ha) ((hK.2 t0 _ ht).1 n (fun j => va_rf (f j))) rfl (fun q => by cases q) (by show ¬ (i < 0 ∨ (arrV _ _ _).slots.size ≤ _); rw [arrV_size]; exact hin) (by show (arrV _ _ _).slots[_]? = _; rw [arrV_read _ _ hlt]) rfl rfl hdg kk
theorem mq_aaldA (hexec : p.tables.exec = Jvm.exec) (hb : c.code = cc) (hK : va_K D cl (mm_tys cy) s) (hP : va_P D cl (mm_L T ad cy g) H) {k N d : Nat} (hT : T[k]? = some (.inr (N, 4, some (some d)))) {i : Int32} (hin : mm_in i N = true) (hdg : decode cc pc = .ok (.aaload, 1))
    (kk : W p l e R s m args below meth c H locs cells slots Q (F0 m (pc + 1) ls (.ref (ad (k + d + i.toNatClampNeg)) :: rest))) : W p l e R s m args below meth c H locs cells slots Q (F0 m pc ls (.int i :: .ref (ad k) :: rest)) :=
  va_aldA (n := N) hexec hb hK hP k 4 (mm_L_at hT) rfl (mm_in_vp hin) hdg kk
theorem mq_aaldm (hexec : p.tables.exec = Jvm.exec) (hb : c.code = cc) (hK : va_K D cl (mm_tys cy) s) (hP : va_P D cl (mm_L T ad cy g) H) {k N t : Nat} (hT : T[k]? = some (.inr (N, t, some none))) {C : String} (ht : (mm_tys cy)[t]? = some (cy t, .object C)) {i : Int32} (hin : mm_in i N = true) (hdg : decode cc pc = .ok (.aaload, 1))
    (kk : W p l e R s m args below meth c H locs cells slots Q (F0 m (pc + 1) ls (va_rf ((mm_code (g k i.toNatClampNeg)).map ad) :: rest))) : W p l e R s m args below meth c H locs cells slots Q (F0 m pc ls (.int i :: .ref (ad k) :: rest)) :=
  va_aldq (n := N) hexec hb hK hP k t (mm_L_at hT) ht (mm_in_vp hin) hdg kk
theorem mq_aastm (hexec : p.tables.exec = Jvm.exec) (hb : c.code = cc) (hK : va_K D cl (mm_tys cy) s) (hI : mm_I T ad) (hP : va_P D cl (mm_L T ad cy g) H) (hS : va_S (mm_A T ad) H0 H locs) {k N t q ci : Nat} {r : vw_C} {fl : List (Option Nat)} (hT : T[k]? = some (.inr (N, t, some none))) (ht : (mm_tys cy)[t]? = some (cy t, .object r.1)) (hq : T[q]? = some (.inl (ci, fl))) (hc : cl[ci]? = some r) (hqc : mm_code (nI q) = some q) {i : Int32} (hin : mm_in i N = true) (hdg : decode cc pc = .ok (.aastore, 1)) (hg : g2 = mm_up g k i.toNatClampNeg (nI q))
    (kk : ∀ (H1 : Heap) (locs1 : List Loc), va_P D cl (mm_L T ad cy g2) H1 → va_S (mm_A T ad) H0 H1 locs1 → W p l e R s m args below meth c H1 locs1 cells slots Q (F0 m (pc + 1) ls rest)) : W p l e R s m args below meth c H locs cells slots Q (F0 m pc ls (.ref (ad q) :: .int i :: .ref (ad k) :: rest)) := by
  refine va_astq (n := N) (r := r) (f := fun j => (mm_code (g k j)).map ad) hexec hb hK hP (mm_Dd hI) hS k t q ci (mm_L_at hT) ht (mm_L_at hq) hc (mm_in_vp hin) hdg (fun H1 locs1 hP1 _ hS1 => kk H1 locs1 ?_ hS1)
  have e1 : va_up (fun j => (mm_code (g k j)).map ad) i.toNatClampNeg (some (ad q)) = fun j => (mm_code (upd (g k) i.toNatClampNeg (nI q) j)).map ad := by
    funext j
    unfold va_up upd
    split
    · rw [hqc]; rfl
    · rfl
  have e0 : (mm_L T ad cy g).set k (ad k, .inl (cy t, N, .inr (.inr (.inr (.inr (va_up (fun j => (mm_code (g k j)).map ad) i.toNatClampNeg (some (ad q)))))))) = mm_L T ad cy g2 := by
    rw [e1, hg]
    exact mm_L_set hT _
  rw [e0] at hP1
  exact hP1
theorem mq_aastN (hexec : p.tables.exec = Jvm.exec) (hb : c.code = cc) (hK : va_K D cl (mm_tys cy) s) (hI : mm_I T ad) (hP : va_P D cl (mm_L T ad cy g) H) (hS : va_S (mm_A T ad) H0 H locs) {k N t : Nat} {C : String} (hT : T[k]? = some (.inr (N, t, some none))) (ht : (mm_tys cy)[t]? = some (cy t, .object C)) {i : Int32} (hin : mm_in i N = true) (hdg : decode cc pc = .ok (.aastore, 1)) (hg : g2 = mm_up g k i.toNatClampNeg 0)
    (kk : ∀ (H1 : Heap) (locs1 : List Loc), va_P D cl (mm_L T ad cy g2) H1 → va_S (mm_A T ad) H0 H1 locs1 → W p l e R s m args below meth c H1 locs1 cells slots Q (F0 m (pc + 1) ls rest)) : W p l e R s m args below meth c H locs cells slots Q (F0 m pc ls (.null :: .int i :: .ref (ad k) :: rest)) := by
  refine va_astqN (n := N) (C := C) (f := fun j => (mm_code (g k j)).map ad) hexec hb hK hP (mm_Dd hI) hS k t (mm_L_at hT) ht (mm_in_vp hin) hdg (fun H1 locs1 hP1 _ hS1 => kk H1 locs1 ?_ hS1)
  have e1 : va_up (fun j => (mm_code (g k j)).map ad) i.toNatClampNeg none = fun j => (mm_code (upd (g k) i.toNatClampNeg 0 j)).map ad := by
    funext j
    unfold va_up upd
    split
    · rw [mm_code_0]; rfl
    · rfl
  have e0 : (mm_L T ad cy g).set k (ad k, .inl (cy t, N, .inr (.inr (.inr (.inr (va_up (fun j => (mm_code (g k j)).map ad) i.toNatClampNeg none)))))) = mm_L T ad cy g2 := by
    rw [e1, hg]
    exact mm_L_set hT _
  rw [e0] at hP1
  exact hP1
theorem mq_alen (hexec : p.tables.exec = Jvm.exec) (hb : c.code = cc) (hK : va_K D cl (mm_tys cy) s) (hP : va_P D cl (mm_L T ad cy g) H) {k N : Nat} (hT : T[k]? = some (.inr (N, 0, none))) (hdg : decode cc pc = .ok (.arraylength, 1))
    (kk : W p l e R s m args below meth c H locs cells slots Q (F0 m (pc + 1) ls (.int (nI N) :: rest))) : W p l e R s m args below meth c H locs cells slots Q (F0 m pc ls (.ref (ad k) :: rest)) :=
  va_alen (x := (N, .inl (g k))) hexec hb hK hP k 0 (mm_L_at hT) rfl rfl hdg kk
theorem mq_copy (hexec : p.tables.exec = Jvm.exec) (hb : c.code = cc) (hml : c.maxLocals = ls.size) {own : String} {index : Nat} (hown : s.vm.findClass own = some m.cls) (hlink : (Cond.methodLink own index arraycopyName).before args s = true) (hnat : (Cond.native arraycopyName).before args s = true) (hstat : (Cond.static arraycopyName).before args s = true) (hini : (Cond.initialized "java/lang/System").before args s = true)
    (hK : va_K D cl (mm_tys cy) s) (hI : mm_I T ad) (hP : va_P D cl (mm_L T ad cy g) H) (hS : va_S (mm_A T ad) H0 H locs) {k0 k1 n0 n1 : Nat} (hT0 : T[k0]? = some (.inr (n0, 0, none))) (hT1 : T[k1]? = some (.inr (n1, 0, none))) {sp dp n : Int32} (hcp : mm_cp sp dp n n0 n1 = true) (hframes : 1 ≤ R.frames) (hlocals : (rest.map fun v => v.category).sum + (nativeFrameWords "java/lang/System" "arraycopy" 5 + 11) ≤ R.locals) (hdg : decode cc pc = .ok (.invokestatic index, 3)) (hg : g2 = mm_row g k1 (va_cpy (g k0) (g k1) sp.toNatClampNeg dp.toNatClampNeg n.toNatClampNeg))
    (kk : ∀ (H1 : Heap) (locs1 : List Loc), va_P D cl (mm_L T ad cy g2) H1 → va_S (mm_A T ad) H0 H1 locs1 → W p l e R s m args below meth c H1 locs1 cells slots Q (F0 m (pc + 3) ls rest)) : W p l e R s m args below meth c H locs cells slots Q (F0 m pc ls (.int n :: .int dp :: .ref (ad k1) :: .int sp :: .ref (ad k0) :: rest)) := by
  obtain ⟨h1, h2, h3, h4, h5⟩ := mm_cp_of hcp
  refine va_copyi (ty := .int) (f := g k0) (g := g k1) hexec hb hml hown hlink hnat hstat hini hK hP (mm_Dd hI) hS k0 k1 0 0 (mm_L_at hT0) (mm_L_at hT1) rfl rfl rfl h1 h2 h3 h4 h5 (fun i _ => rfl) hframes hlocals hdg (fun H1 locs1 hP1 _ hS1 => kk H1 locs1 ?_ hS1)
  have e0 : (mm_L T ad cy g).set k1 (ad k1, .inl (cy 0, n1, .inl (va_cpy (g k0) (g k1) sp.toNatClampNeg dp.toNatClampNeg n.toNatClampNeg))) = mm_L T ad cy g2 := by
    rw [hg]
    exact mm_L_set hT1 _
  rw [e0] at hP1
  exact hP1
theorem mq_recv {k ci : Nat} {q : vw_C} {fl : List (Option Nat)} (hK : va_K D cl (mm_tys cy) s) (hP : va_P D cl (mm_L T ad cy g) H) (hT : T[k]? = some (.inl (ci, fl))) (hc : cl[ci]? = some q) : ∃ cell : Cell, H[ad k]? = some cell ∧ cell.vm.isStatics = false ∧ s.vm.findClass q.1 = some cell.cls := va_recv hK hP hc (mm_L_at hT)
/-- the receiver and the start of a call of an instance's method -/
theorem mq_preV (hz : mm_zOk Z) {k ci : Nat} {q : vw_C} {fl : List (Option Nat)} {As : List Value} (hK : va_K D vwCl (mm_tys cy) s) (hP : va_P D vwCl (mm_L T ad cy g) H) (hI : mm_I T ad) (hZ : Z (mm_A T ad) s s.heap) (hS : va_S (mm_A T ad) s.heap H locs) (hT : T[k]? = some (.inl (ci, fl))) (hc : vwCl[ci]? = some q) : PreV s H q.1 (ad k) (va_Pc (.ref (ad k) :: As) (mm_pre Z D T ad cy g)) As :=
  ⟨mm_blind hz, mq_recv hK hP hT hc, fun U hU hW => ⟨rfl, mm_to hz hK hI hZ hP hS U hU hW⟩⟩
theorem mq_preS (hz : mm_zOk Z) {As : List Value} (hK : va_K D vwCl (mm_tys cy) s) (hP : va_P D vwCl (mm_L T ad cy g) H) (hI : mm_I T ad) (hZ : Z (mm_A T ad) s s.heap) (hS : va_S (mm_A T ad) s.heap H locs) : PreS s H (va_Pc As (mm_pre Z D T ad cy g)) As :=
  ⟨mm_blind hz, fun U hU hW => ⟨rfl, mm_to hz hK hI hZ hP hS U hU hW⟩⟩
theorem mq_calli {r0 : Int32} {a : Array Value} (hr : va_Run p l e R s m args below meth c H locs cells slots 0 0 (F0 m pc ls st0) rest (mm_Qi D T ad cy r0 g2 a) (mm_A T ad)) (hS : va_S (mm_A T ad) H0 H locs)
    (kk : ∀ (H1 : Heap) (locs1 : List Loc), va_P D vwCl (mm_L T ad cy g2) H1 → va_S (mm_A T ad) H0 H1 locs1 → W p l e R s m args below meth c H1 locs1 cells slots Q (F0 m (pc + 3) ls (.int r0 :: rest))) : W p l e R s m args below meth c H locs cells slots Q (F0 m pc ls st0) := by
  refine va_calli hr hS (fun q _ h => h) (fun q h => h) (fun r u t H1 locs1 ht _ hw hB _ _ hS1 => ?_)
  subst hw
  rw [ht] at hB
  exact kk H1 locs1 hB hS1
theorem mq_callv {a : Array Value} (hr : va_Run p l e R s m args below meth c H locs cells slots 0 0 (F0 m pc ls st0) rest (mm_Qv D T ad cy g2 a) (mm_A T ad)) (hS : va_S (mm_A T ad) H0 H locs)
    (kk : ∀ (H1 : Heap) (locs1 : List Loc), va_P D vwCl (mm_L T ad cy g2) H1 → va_S (mm_A T ad) H0 H1 locs1 → W p l e R s m args below meth c H1 locs1 cells slots Q (F0 m (pc + 3) ls rest)) : W p l e R s m args below meth c H locs cells slots Q (F0 m pc ls st0) := by
  refine va_callv hr hS (fun q _ h => h) (fun q h => h) (fun u t H1 locs1 ht _ hw hB _ _ hS1 => ?_)
  rw [ht] at hB
  exact kk H1 locs1 hB hS1
theorem mq_callq {r0 : Option Nat} {a : Array Value} (hr : va_Run p l e R s m args below meth c H locs cells slots 0 0 (F0 m pc ls st0) rest (mm_Qq D T ad cy r0 g2 a) (mm_A T ad)) (hS : va_S (mm_A T ad) H0 H locs)
    (kk : ∀ (H1 : Heap) (locs1 : List Loc), va_P D vwCl (mm_L T ad cy g2) H1 → va_S (mm_A T ad) H0 H1 locs1 → W p l e R s m args below meth c H1 locs1 cells slots Q (F0 m (pc + 3) ls (va_rf (r0.map ad) :: rest))) : W p l e R s m args below meth c H locs cells slots Q (F0 m pc ls st0) := by
  refine va_callq hr hS (fun q _ h => h) (fun q h => h) (fun r u t H1 locs1 ht _ hw hB _ _ hS1 => ?_)
  subst hw
  rw [ht] at hB
  exact kk H1 locs1 hB hS1
theorem mq_iret {r0 v : Int32} {g' : Mm} {ty : FieldType} (hexec : p.tables.exec = Jvm.exec) (hb : c.code = cc) (hr : meth.sig.returnType = some ty) (hn : narrow ty (.int v) = .int v) (hlocks : meth.locks = false) (hP : va_P D vwCl (mm_L T ad cy g) H) (hS : va_S (mm_A T ad) s.heap H locs) (h1 : v = r0) (h2 : g = g') (hdg : decode cc pc = .ok (.ireturn, 1)) : W p l e R s m args below meth c H locs cells slots (MQ below (mm_Qi D T ad cy r0 g') args s cells slots (mm_A T ad)) (F0 m pc ls [.int v]) := by
  subst h1
  subst h2
  exact W.zret (v := v) hexec hb hr hn (fun t ht hW => ⟨⟨v, (), rfl, rfl, by show va_P D vwCl _ t.heap; rw [ht]; exact hP⟩, hS.F ht⟩) hS.2.2 hdg hlocks
theorem mq_vret {g' : Mm} (hexec : p.tables.exec = Jvm.exec) (hb : c.code = cc) (hr : meth.sig.returnType = none) (hlocks : meth.locks = false) (hP : va_P D vwCl (mm_L T ad cy g) H) (hS : va_S (mm_A T ad) s.heap H locs) (h2 : g = g') (hdg : decode cc pc = .ok (.return_, 1)) : W p l e R s m args below meth c H locs cells slots (MQ below (mm_Qv D T ad cy g') args s cells slots (mm_A T ad)) (F0 m pc ls []) := by
  subst h2
  exact W.vret hexec hb hr (fun t ht hW => ⟨⟨(), rfl, trivial, by show va_P D vwCl _ t.heap; rw [ht]; exact hP⟩, hS.F ht⟩) hS.2.2 hdg hlocks
theorem mq_aret {r0 o : Option Nat} {g' : Mm} {n : String} (hexec : p.tables.exec = Jvm.exec) (hb : c.code = cc) (hr : meth.sig.returnType = some (.object n)) (hlocks : meth.locks = false) (hP : va_P D vwCl (mm_L T ad cy g) H) (hS : va_S (mm_A T ad) s.heap H locs) (h1 : o = r0) (h2 : g = g') (hdg : decode cc pc = .ok (.areturn, 1)) : W p l e R s m args below meth c H locs cells slots (MQ below (mm_Qq D T ad cy r0 g') args s cells slots (mm_A T ad)) (F0 m pc ls [va_rf (o.map ad)]) := by
  subst h1
  subst h2
  exact W.aret (v := va_rf (o.map ad)) hexec hb hr (Or.inl ⟨n, rfl⟩) (by cases o with | none => exact Or.inl rfl | some q => exact Or.inr ⟨_, rfl⟩) (fun t ht hW => ⟨⟨o.map ad, (), rfl, rfl, by show va_P D vwCl _ t.heap; rw [ht]; exact hP⟩, hS.F ht⟩) hS.2.2 hdg hlocks
end MMR
