/-! THE SYSTEM: shapes, the two pools; the lemmas of what lies where -/
def sX10 : Shp := .inl (10, [none, some 1, some 2, none, some 3, some 20, some 22, some 25, some 37])
def sX5 : Shp := .inl (5, [none, none, none, none, none])
def sX7 : Shp := .inl (7, [some 1, none, none])
def sX3 : Shp := .inl (3, [some 1, some 2])
def sX2 : Shp := .inl (2, [some 1, some 10, some 11, none, none])
def sX1 : Shp := .inl (1, [some 1, some 2, none, some 3, none, none])
def sX6 : Shp := .inl (6, [some 1, none, none])
def sX9 : Shp := .inl (9, [some 1, none, none, some 2, some 3, some 8, some 13, some 18, some 19, some 20, some 21, some 22, some 33, some 34, some 45, none, some 49, none, none])
def sX0 : Shp := .inl (0, [some 1, some 2, some 3, none])
def sX8 : Shp := .inl (8, [some 1, none])
def sX4 : Shp := .inl (4, [some 4, none, none])
def sX11 : Shp := .inl (11, [some 1, some 42, none, some 83, some 85, some 87, some 90, some 140, some 142])
def sX12 : Shp := .inl (12, [some 1, some 2, none, some 3, none, some 4, some 5, some 6, none, some 7, some 8, some 9, some 10, some 11, some 12, some 13, some 14, some 15, some 16, none, none, some 17, some 18, none, none, some 19])
def TC : List Shp := [sX11, sX10, (.inr (5, 0, none) : Shp), (.inr (5, 0, none) : Shp), (.inr (16, 2, some (some 1)) : Shp), sX5, sX5, sX5, sX5, sX5, sX5, sX5, sX5, sX5, sX5, sX5, sX5, sX5, sX5, sX5, sX5, sX7, (.inr (4, 0, none) : Shp), sX3, (.inr (9, 0, none) : Shp), (.inr (9, 0, none) : Shp), sX2, (.inr (8, 4, some (some 1)) : Shp), (.inr (8, 0, none) : Shp), (.inr (8, 0, none) : Shp), (.inr (8, 0, none) : Shp), (.inr (8, 0, none) : Shp), (.inr (8, 0, none) : Shp), (.inr (8, 0, none) : Shp), (.inr (8, 0, none) : Shp), (.inr (8, 0, none) : Shp), (.inr (8, 0, none) : Shp), (.inr (8, 0, none) : Shp), sX1, (.inr (6, 0, none) : Shp), (.inr (6, 0, none) : Shp), (.inr (100, 0, none) : Shp), sX10, (.inr (5, 0, none) : Shp), (.inr (5, 0, none) : Shp), (.inr (16, 2, some (some 1)) : Shp), sX5, sX5, sX5, sX5, sX5, sX5, sX5, sX5, sX5, sX5, sX5, sX5, sX5, sX5, sX5, sX5, sX7, (.inr (4, 0, none) : Shp), sX3, (.inr (9, 0, none) : Shp), (.inr (9, 0, none) : Shp), sX2, (.inr (8, 4, some (some 1)) : Shp), (.inr (8, 0, none) : Shp), (.inr (8, 0, none) : Shp), (.inr (8, 0, none) : Shp), (.inr (8, 0, none) : Shp), (.inr (8, 0, none) : Shp), (.inr (8, 0, none) : Shp), (.inr (8, 0, none) : Shp), (.inr (8, 0, none) : Shp), (.inr (8, 0, none) : Shp), (.inr (8, 0, none) : Shp), sX1, (.inr (6, 0, none) : Shp), (.inr (6, 0, none) : Shp), (.inr (100, 0, none) : Shp), sX6, (.inr (60, 0, none) : Shp), sX7, (.inr (4, 0, none) : Shp), sX3, (.inr (9, 0, none) : Shp), (.inr (9, 0, none) : Shp), sX9, (.inr (3, 2, some none) : Shp), (.inr (4, 1, none) : Shp), (.inr (4, 4, some (some 1)) : Shp), (.inr (9, 0, none) : Shp), (.inr (9, 0, none) : Shp), (.inr (9, 0, none) : Shp), (.inr (9, 0, none) : Shp), (.inr (4, 4, some (some 1)) : Shp), (.inr (9, 0, none) : Shp), (.inr (9, 0, none) : Shp), (.inr (9, 0, none) : Shp), (.inr (9, 0, none) : Shp), (.inr (4, 4, some (some 1)) : Shp), (.inr (3, 0, none) : Shp), (.inr (3, 0, none) : Shp), (.inr (3, 0, none) : Shp), (.inr (3, 0, none) : Shp), (.inr (10, 0, none) : Shp), (.inr (9, 0, none) : Shp), (.inr (10, 0, none) : Shp), (.inr (10, 0, none) : Shp), (.inr (10, 4, some (some 1)) : Shp), (.inr (4, 0, none) : Shp), (.inr (4, 0, none) : Shp), (.inr (4, 0, none) : Shp), (.inr (4, 0, none) : Shp), (.inr (4, 0, none) : Shp), (.inr (4, 0, none) : Shp), (.inr (4, 0, none) : Shp), (.inr (4, 0, none) : Shp), (.inr (4, 0, none) : Shp), (.inr (4, 0, none) : Shp), (.inr (10, 0, none) : Shp), (.inr (10, 4, some (some 1)) : Shp), (.inr (3, 0, none) : Shp), (.inr (3, 0, none) : Shp), (.inr (3, 0, none) : Shp), (.inr (3, 0, none) : Shp), (.inr (3, 0, none) : Shp), (.inr (3, 0, none) : Shp), (.inr (3, 0, none) : Shp), (.inr (3, 0, none) : Shp), (.inr (3, 0, none) : Shp), (.inr (3, 0, none) : Shp), sX0, (.inr (10935, 0, none) : Shp), (.inr (10935, 0, none) : Shp), (.inr (10935, 0, none) : Shp), (.inr (9, 0, none) : Shp), sX8, (.inr (12, 0, none) : Shp), (.inr (4, 3, some (some 1)) : Shp), sX4, sX4, sX4, sX4, (.inr (24, 0, none) : Shp), (.inr (24, 0, none) : Shp), (.inr (24, 0, none) : Shp), (.inr (24, 0, none) : Shp)]
def TM : List Shp := [sX12, (.inr (193, 0, none) : Shp), (.inr (193, 0, none) : Shp), (.inr (60, 0, none) : Shp), (.inr (4, 0, none) : Shp), (.inr (4, 0, none) : Shp), (.inr (96, 0, none) : Shp), (.inr (18, 0, none) : Shp), (.inr (9, 0, none) : Shp), (.inr (10, 0, none) : Shp), (.inr (10, 0, none) : Shp), (.inr (10, 0, none) : Shp), (.inr (10, 0, none) : Shp), (.inr (10, 0, none) : Shp), (.inr (10, 0, none) : Shp), (.inr (10, 0, none) : Shp), (.inr (9, 0, none) : Shp), (.inr (8, 0, none) : Shp), (.inr (8, 0, none) : Shp), (.inr (16, 0, none) : Shp)]

def mm_os (T : List Shp) (S : Shp) (o : Option Nat) : Bool := match o with
  | none => true
  | some q => decide (T[q]? = some S)
def mm_num (o : Option Nat) : Int32 := match o with
  | none => 0
  | some q => nI q
def on {β : Type} (o : Option Nat) (a : Option β) (b : Nat → Option β) : Option β := match o with
  | none => a
  | some q => b q
def mm_fl (v : Int32) (f : Nat → Int32) (N : Nat) : Nat → Int32 := fun k => if k < N then v else f k
def FU : Nat := 4000000
theorem mm_os_some {T : List Shp} {S : Shp} {q : Nat} (h : T[q]? = some S) : mm_os T S (some q) = true := decide_eq_true h
theorem mm_os_q {T : List Shp} {S : Shp} {q : Nat} (h : mm_os T S (some q) = true) : T[q]? = some S := of_decide_eq_true h
theorem mm_os_at {T : List Shp} {S : Shp} {o : Option Nat} (h : mm_os T S o = true) : ∀ q, o = some q → T[q]? = some S := fun q e => by subst e; exact mm_os_q h
theorem on_n {β : Type} {a : Option β} {b : Nat → Option β} {r : β} (h : on none a b = some r) : a = some r := h
theorem on_s {β : Type} {q : Nat} {a : Option β} {b : Nat → Option β} {r : β} (h : on (some q) a b = some r) : b q = some r := h
theorem on_ex {β : Type} {o : Option Nat} {b : Nat → Option β} {r : β} (h : on o none b = some r) : ∃ q, o = some q ∧ b q = some r := by
  cases o with
  | none => cases h
  | some q => exact ⟨q, rfl, h⟩
theorem ite_t {c : Prop} [Decidable c] {β : Type} {a b : Option β} {r : β} (hc : c) (h : (if c then a else b) = some r) : a = some r := by rw [if_pos hc] at h; exact h
theorem ite_f {c : Prop} [Decidable c] {β : Type} {a b : Option β} {r : β} (hc : ¬ c) (h : (if c then a else b) = some r) : b = some r := by rw [if_neg hc] at h; exact h
theorem sw_ne {x : Int32} {k : Int32} (h : ¬ x = k) : x.toInt ≠ k.toInt := fun e => h (Int32.toInt_inj.mp e)
theorem pr_1 {α β : Type} {a c : α} {b d : β} (h : some (a, b) = some (c, d)) : a = c := congrArg Prod.fst (Option.some.inj h)
theorem pr_2 {α β : Type} {a c : α} {b d : β} (h : some (a, b) = some (c, d)) : b = d := congrArg Prod.snd (Option.some.inj h)
section MMH
variable {p : Program} {l : Launch} {e : Env} {R : Room} {s : State} {m : MethodId} {args : Array Value} {below : List Frame} {meth : Method} {c : Code} {H : Heap} {locs : List Loc} {cells slots : Nat} {Q : State → Prop}
variable {cc : ByteArray} {pc : Nat} {ls : Array Slot} {rest st0 : List Value} {D : va_G} {T : List Shp} {ad : Nat → Nat} {cy : Nat → ClassId} {g g2 : Mm} {H0 : Heap} {cl : List vw_C} {Z : ZZ}
theorem mq_nmo {o o' : Option Nat} (h : o = o') (k : W p l e R s m args below meth c H locs cells slots Q (F0 m pc ls (va_rf (o.map ad) :: rest))) : W p l e R s m args below meth c H locs cells slots Q (F0 m pc ls (va_rf (o'.map ad) :: rest)) := h ▸ k
theorem mq_aload_nq (hexec : p.tables.exec = Jvm.exec) (hb : c.code = cc) {k : Fin 4} {i : Nat} {x : Option Nat} (hdg : decode cc pc = .ok (.aload_n k, 1)) (hi : (k : Nat) = i) (hl : ls[i]? = some (.val (va_rf x)))
    (kk : W p l e R s m args below meth c H locs cells slots Q (F0 m (pc + 1) ls (va_rf x :: rest))) : W p l e R s m args below meth c H locs cells slots Q (F0 m pc ls rest) := by
  cases x with
  | none => exact lv_aload_nN hexec hb hdg hi hl kk
  | some q => exact lv_aload_n hexec hb hdg hi hl kk
theorem mq_aloadq (hexec : p.tables.exec = Jvm.exec) (hb : c.code = cc) {i : Nat} {x : Option Nat} (hdg : decode cc pc = .ok (.aload i, 2)) (hl : ls[i]? = some (.val (va_rf x)))
    (kk : W p l e R s m args below meth c H locs cells slots Q (F0 m (pc + 2) ls (va_rf x :: rest))) : W p l e R s m args below meth c H locs cells slots Q (F0 m pc ls rest) := by
  cases x with
  | none => exact lv_aloadN hexec hb hdg hl kk
  | some q => exact lv_aload hexec hb hdg hl kk
theorem mq_astoreq (hexec : p.tables.exec = Jvm.exec) (hb : c.code = cc) {i nL : Nat} {x : Option Nat} {lv lv' : List (Nat × Value)} (hdg : decode cc pc = .ok (.astore i, 2)) (h : lv_has ls nL lv) (hn : i < nL) (hl : (i, va_rf x) :: lv.filter (fun q => !(q.1 == i) && !(q.1 + 1 == i && q.2.category == 2)) = lv')
    (kk : ∀ ls' : Array Slot, lv_has ls' nL lv' → W p l e R s m args below meth c H locs cells slots Q (F0 m (pc + 2) ls' rest)) : W p l e R s m args below meth c H locs cells slots Q (F0 m pc ls (va_rf x :: rest)) := by
  cases x with
  | none => exact lv_astoreN hexec hb hdg h hn hl kk
  | some q => exact lv_astore hexec hb hdg h hn hl kk
theorem mq_astore_nq (hexec : p.tables.exec = Jvm.exec) (hb : c.code = cc) {k : Fin 4} {i nL : Nat} {x : Option Nat} {lv lv' : List (Nat × Value)} (hdg : decode cc pc = .ok (.astore_n k, 1)) (hi : (k : Nat) = i) (h : lv_has ls nL lv) (hn : i < nL) (hl : (i, va_rf x) :: lv.filter (fun q => !(q.1 == i) && !(q.1 + 1 == i && q.2.category == 2)) = lv')
    (kk : ∀ ls' : Array Slot, lv_has ls' nL lv' → W p l e R s m args below meth c H locs cells slots Q (F0 m (pc + 1) ls' rest)) : W p l e R s m args below meth c H locs cells slots Q (F0 m pc ls (va_rf x :: rest)) := by
  cases x with
  | none => exact lv_astore_nN hexec hb hdg hi h hn hl kk
  | some q => exact lv_astore_n hexec hb hdg hi h hn hl kk
theorem mq_aasto (hexec : p.tables.exec = Jvm.exec) (hb : c.code = cc) (hK : va_K D cl (mm_tys cy) s) (hI : mm_I T ad) (hP : va_P D cl (mm_L T ad cy g) H) (hS : va_S (mm_A T ad) H0 H locs) {k N t ci : Nat} {o : Option Nat} {r : vw_C} {fl : List (Option Nat)} (hT : T[k]? = some (.inr (N, t, some none))) (ht : (mm_tys cy)[t]? = some (cy t, .object r.1)) (hq : ∀ q, o = some q → T[q]? = some (.inl (ci, fl))) (hc : cl[ci]? = some r) (hqc : ∀ q, o = some q → mm_code (nI q) = some q) {i : Int32} (hin : mm_in i N = true) (hdg : decode cc pc = .ok (.aastore, 1)) (hg : g2 = mm_up g k i.toNatClampNeg (mm_num o))
    (kk : ∀ (H1 : Heap) (locs1 : List Loc), va_P D cl (mm_L T ad cy g2) H1 → va_S (mm_A T ad) H0 H1 locs1 → W p l e R s m args below meth c H1 locs1 cells slots Q (F0 m (pc + 1) ls rest)) : W p l e R s m args below meth c H locs cells slots Q (F0 m pc ls (va_rf (o.map ad) :: .int i :: .ref (ad k) :: rest)) := by
  cases o with
  | none => exact mq_aastN hexec hb hK hI hP hS hT ht hin hdg hg kk
  | some q => exact mq_aastm hexec hb hK hI hP hS hT ht (hq q rfl) hc (hqc q rfl) hin hdg hg kk
end MMH
abbrev rm_fill : Room := { frames := 0, cells := 0, slots := 0, locals := 0 }
set_option maxHeartbeats 4000000 in
set_option maxRecDepth 100000 in
theorem c_fill {Z : ZZ} (l : Launch) (D : va_G) (T : List Shp) (ad : Nat → Nat) (cy : Nat → ClassId) (q N : Nat) (v : Int32) (g : Mm) (hq : T[q]? = some (.inr (N, 0, none))) (hN : N < 2 ^ 31) {g2 : Mm} (hg2 : g2 = mm_row g q (mm_fl v (g q) N)) : Met l yJ7_fill_53178 wsJ7_fill_53178 rm_fill (va_Pc [.ref (ad q), .int v] (mm_pre Z D T ad cy g)) (mm_Qv D T ad cy g2) 0 0 (mm_A T ad) := by
  refine Met.ofW (cc := cJ7_fill_53178) (maxL := 4) (ret := none) (by decide) rfl ?_
  intro p e s m args below meth c s₁ B hml hv
  obtain ⟨hargs, hP, hK, hI, hZ⟩ := hv
  have hx := B.exec
  have hb := B.bytes
  have hr := B.returns
  have hlocks := B.notSynchronized
  rw [show entryFrame m args 4 = F0 m 0 ((lg_sl ([.ref (ad q), .int v] : List Value) ++ List.replicate (4 - (lg_sl ([.ref (ad q), .int v] : List Value)).length) Slot.unset).toArray) [] from by rw [hargs]; exact lg_entry_eq m _ _]
  have hl := lv_entry ([.ref (ad q), .int v] : List Value) (n := 4) (by exact Nat.le_of_ble_eq_true rfl)
  generalize (lg_sl ([.ref (ad q), .int v] : List Value) ++ List.replicate (4 - (lg_sl ([.ref (ad q), .int v] : List Value)).length) Slot.unset).toArray = ls at hl ⊢
  have hl : lv_has ls 4 [(0, .ref (ad q)), (1, .int v)] := hl
  have hS : va_S (mm_A T ad) s.heap s.heap [] := va_S.rf
  have hc5 : ∀ (n i : Nat) (H : Heap) (locs : List Loc) (ls : Array Slot), i ≤ N → N - i ≤ n → va_P D vwCl (mm_L T ad cy (mm_row g q (mm_fl v (g q) i))) H → va_S (mm_A T ad) s.heap H locs → lv_has ls 4 [(0, .ref (ad q)), (1, .int v), (2, .int (nI i)), (3, .int (nI N))] → W p l e (headSpec wsJ7_fill_53178 rm_fill).room s m args below meth c H locs 0 0 (MQ below (mm_Qv D T ad cy g2) args s 0 0 (mm_A T ad)) (F0 m 5 ls []) := by
    intro n
    induction n with
    | zero =>
      intro i H locs ls hi hn hP hS hl
      have e0 : i = N := by omega
      subst e0
      refine lv_iload_n hx hb dJ7_fill_53178_5 rfl (lv_at hl 2 rfl) ?_
      refine lv_iload_n hx hb dJ7_fill_53178_6 rfl (lv_at hl 3 rfl) ?_
      refine lv_icmp_ge (tgt := 20) hx hb dJ7_fill_53178_7 (by decide) (fun c_1 => ?_) (fun c_1 => ?_)
      · exact mq_vret hx hb hr hlocks hP hS hg2.symm dJ7_fill_53178_20
      · exact absurd (Int32.le_refl _) c_1
    | succ n ih =>
      intro i H locs ls hi hn hP hS hl
      refine lv_iload_n hx hb dJ7_fill_53178_5 rfl (lv_at hl 2 rfl) ?_
      refine lv_iload_n hx hb dJ7_fill_53178_6 rfl (lv_at hl 3 rfl) ?_
      refine lv_icmp_ge (tgt := 20) hx hb dJ7_fill_53178_7 (by decide) (fun c_1 => ?_) (fun c_1 => ?_)
      · have e0 : i = N := by
          have := (nI_leI hN (by omega)).mp c_1
          omega
        subst e0
        exact mq_vret hx hb hr hlocks hP hS hg2.symm dJ7_fill_53178_20
      · have hlt : i < N := by
          rcases Nat.lt_or_ge i N with h | h
          · exact h
          · exact absurd ((nI_leI hN (by omega)).mpr h) c_1
        have hin : mm_in (nI i) N = true := by
          simp only [mm_in, Bool.and_eq_true, decide_eq_true_eq]
          exact ⟨nI_pos (by omega), by rw [nI_clamp (by omega)]; exact hlt⟩
        refine lv_aload_n hx hb dJ7_fill_53178_10 rfl (lv_at hl 0 rfl) ?_
        refine lv_iload_n hx hb dJ7_fill_53178_11 rfl (lv_at hl 2 rfl) ?_
        refine lv_iload_n hx hb dJ7_fill_53178_12 rfl (lv_at hl 1 rfl) ?_
        refine mq_iast hx hb hK hI hP hS hq hin dJ7_fill_53178_13 rfl (fun H locs hP hS => ?_)
        refine lv_iinc (v := nI (i + 1)) (lv' := [(2, .int (nI (i + 1))), (0, .ref (ad q)), (1, .int v), (3, .int (nI N))]) hx hb dJ7_fill_53178_14 hl (k := 2) rfl (nI_1 i) (by decide) rfl (fun ls hl => ?_)
        refine lv_goto (tgt := 5) hx hb dJ7_fill_53178_17 (by decide) ?_
        refine ih (i + 1) H locs ls hlt (by omega) ?_ hS (lv_sub hl [1, 2, 0, 3] rfl)
        have e1 : mm_up (mm_row g q (mm_fl v (g q) i)) q (nI i).toNatClampNeg v = mm_row g q (mm_fl v (g q) (i + 1)) := by
          rw [nI_clamp (by omega)]
          funext a
          unfold mm_up mm_row
          split
          · rw [if_pos rfl]
            funext k
            unfold upd mm_fl
            split
            · rename_i h; rw [if_pos (by omega)]
            · by_cases h : k < i
              · rw [if_pos h, if_pos (by omega)]
              · rw [if_neg h, if_neg (by omega)]
          · rfl
        rw [e1] at hP
        exact hP
  refine lv_iconst (v := 0) hx hb dJ7_fill_53178_0 (by decide) ?_
  refine lv_istore_n (lv' := [(2, .int 0), (0, .ref (ad q)), (1, .int v)]) hx hb dJ7_fill_53178_1 rfl hl (by decide) rfl (fun ls hl => ?_)
  refine lv_aload_n hx hb dJ7_fill_53178_2 rfl (lv_at hl 1 rfl) ?_
  refine mq_alen hx hb hK hP hq dJ7_fill_53178_3 ?_
  refine lv_istore_n (lv' := [(3, .int (nI N)), (2, .int 0), (0, .ref (ad q)), (1, .int v)]) hx hb dJ7_fill_53178_4 rfl hl (by decide) rfl (fun ls hl => ?_)
  refine hc5 N 0 s.heap [] ls (Nat.zero_le N) (by omega) ?_ hS (lv_sub hl [2, 3, 1, 0] rfl)
  have e0 : mm_row g q (mm_fl v (g q) 0) = g := by
    have : mm_fl v (g q) 0 = g q := by
      funext k
      unfold mm_fl
      rw [if_neg (by omega)]
    rw [this, mm_row_self]
  rw [e0]
  exact hP

theorem sw_look {d x : Int} : ∀ (ps : List (Int × Int)), (∀ q ∈ ps, ¬ q.1 = x) → Op.lookupswitch.offset ps d x = d
  | [], _ => rfl
  | (a, o) :: r, h => by
    unfold Op.lookupswitch.offset
    rw [if_neg (h (a, o) List.mem_cons_self)]
    exact sw_look r (fun q hq => h q (List.mem_cons_of_mem _ hq))
theorem sh_d {T : List Shp} {S S' : Shp} {d : Nat} (h : (List.range T.length).all (fun p => if T[p]? = some S then decide (T[p + d]? = some S') else true) = true) {p : Nat} (hp : T[p]? = some S) : T[p + d]? = some S' := by
  have h1 := List.all_eq_true.mp h p (List.mem_range.mpr (mm_lt hp))
  rw [if_pos hp] at h1
  exact of_decide_eq_true h1
theorem sh_di {T : List Shp} {S S' : Shp} {N d o : Nat} (h : (List.range T.length).all (fun p => if T[p]? = some S then (List.range N).all (fun j => decide (T[p + d + j + o]? = some S')) else true) = true) {p j : Nat} (hp : T[p]? = some S) (hj : j < N) : T[p + d + j + o]? = some S' := by
  have h1 := List.all_eq_true.mp h p (List.mem_range.mpr (mm_lt hp))
  rw [if_pos hp] at h1
  exact of_decide_eq_true (List.all_eq_true.mp h1 j (List.mem_range.mpr hj))
theorem codeTC {o : Option Nat} (h : mm_os TC sX5 o = true) : ∀ q, o = some q → mm_code (nI q) = some q := fun q e => by
  have h1 := mm_os_at h q e
  have h2 : q < 151 := mm_lt h1
  exact mm_code_nI (fun z => by subst z; revert h1; decide +kernel) (by omega)
set_option maxRecDepth 100000 in
theorem shTC_X7_1 {p : Nat} (h : TC[p]? = some sX7) : TC[p + 1]? = some (.inr (4, 0, none) : Shp) := sh_d (d := 1) (by decide +kernel) h
set_option maxRecDepth 100000 in
theorem shTC_X3_1 {p : Nat} (h : TC[p]? = some sX3) : TC[p + 1]? = some (.inr (9, 0, none) : Shp) := sh_d (d := 1) (by decide +kernel) h
set_option maxRecDepth 100000 in
theorem shTC_X3_2 {p : Nat} (h : TC[p]? = some sX3) : TC[p + 2]? = some (.inr (9, 0, none) : Shp) := sh_d (d := 2) (by decide +kernel) h
set_option maxRecDepth 100000 in
theorem shTC_X2_1 {p : Nat} (h : TC[p]? = some sX2) : TC[p + 1]? = some (.inr (8, 4, some (some 1)) : Shp) := sh_d (d := 1) (by decide +kernel) h
set_option maxRecDepth 100000 in
theorem shTC_X2_2i_0 {p j : Nat} (h : TC[p]? = some sX2) (hj : j < 8) : TC[p + 2 + j]? = some (.inr (8, 0, none) : Shp) := sh_di (N := 8) (d := 2) (o := 0) (by decide +kernel) h hj
set_option maxRecDepth 100000 in
theorem shTC_X2_10 {p : Nat} (h : TC[p]? = some sX2) : TC[p + 10]? = some (.inr (8, 0, none) : Shp) := sh_d (d := 10) (by decide +kernel) h
set_option maxRecDepth 100000 in
theorem shTC_X2_11 {p : Nat} (h : TC[p]? = some sX2) : TC[p + 11]? = some (.inr (8, 0, none) : Shp) := sh_d (d := 11) (by decide +kernel) h
set_option maxRecDepth 100000 in
theorem shTC_X1_1 {p : Nat} (h : TC[p]? = some sX1) : TC[p + 1]? = some (.inr (6, 0, none) : Shp) := sh_d (d := 1) (by decide +kernel) h
set_option maxRecDepth 100000 in
theorem shTC_X1_2 {p : Nat} (h : TC[p]? = some sX1) : TC[p + 2]? = some (.inr (6, 0, none) : Shp) := sh_d (d := 2) (by decide +kernel) h
set_option maxRecDepth 100000 in
theorem shTC_X1_3 {p : Nat} (h : TC[p]? = some sX1) : TC[p + 3]? = some (.inr (100, 0, none) : Shp) := sh_d (d := 3) (by decide +kernel) h
set_option maxRecDepth 100000 in
theorem shTC_X4_4 {p : Nat} (h : TC[p]? = some sX4) : TC[p + 4]? = some (.inr (24, 0, none) : Shp) := sh_d (d := 4) (by decide +kernel) h
set_option maxRecDepth 100000 in
theorem shTC_X6_1 {p : Nat} (h : TC[p]? = some sX6) : TC[p + 1]? = some (.inr (60, 0, none) : Shp) := sh_d (d := 1) (by decide +kernel) h
set_option maxRecDepth 100000 in
theorem shTC_X0_3 {p : Nat} (h : TC[p]? = some sX0) : TC[p + 3]? = some (.inr (10935, 0, none) : Shp) := sh_d (d := 3) (by decide +kernel) h
set_option maxRecDepth 100000 in
theorem shTC_X0_1 {p : Nat} (h : TC[p]? = some sX0) : TC[p + 1]? = some (.inr (10935, 0, none) : Shp) := sh_d (d := 1) (by decide +kernel) h
set_option maxRecDepth 100000 in
theorem shTC_X0_2 {p : Nat} (h : TC[p]? = some sX0) : TC[p + 2]? = some (.inr (10935, 0, none) : Shp) := sh_d (d := 2) (by decide +kernel) h
set_option maxRecDepth 100000 in
theorem shTC_X8_1 {p : Nat} (h : TC[p]? = some sX8) : TC[p + 1]? = some (.inr (12, 0, none) : Shp) := sh_d (d := 1) (by decide +kernel) h
set_option maxRecDepth 100000 in
theorem shTC_X10_3 {p : Nat} (h : TC[p]? = some sX10) : TC[p + 3]? = some (.inr (16, 2, some (some 1)) : Shp) := sh_d (d := 3) (by decide +kernel) h
set_option maxRecDepth 100000 in
theorem shTC_X10_4i_0 {p j : Nat} (h : TC[p]? = some sX10) (hj : j < 16) : TC[p + 4 + j]? = some sX5 := sh_di (N := 16) (d := 4) (o := 0) (by decide +kernel) h hj
set_option maxRecDepth 100000 in
theorem shTC_X10_2 {p : Nat} (h : TC[p]? = some sX10) : TC[p + 2]? = some (.inr (5, 0, none) : Shp) := sh_d (d := 2) (by decide +kernel) h
set_option maxRecDepth 100000 in
theorem shTC_X10_22 {p : Nat} (h : TC[p]? = some sX10) : TC[p + 22]? = some sX3 := sh_d (d := 22) (by decide +kernel) h
set_option maxRecDepth 100000 in
theorem shTC_X10_23 {p : Nat} (h : TC[p]? = some sX10) : TC[p + 23]? = some (.inr (9, 0, none) : Shp) := sh_d (d := 23) (by decide +kernel) h
set_option maxRecDepth 100000 in
theorem shTC_X10_24 {p : Nat} (h : TC[p]? = some sX10) : TC[p + 24]? = some (.inr (9, 0, none) : Shp) := sh_d (d := 24) (by decide +kernel) h
set_option maxRecDepth 100000 in
theorem shTC_X10_20 {p : Nat} (h : TC[p]? = some sX10) : TC[p + 20]? = some sX7 := sh_d (d := 20) (by decide +kernel) h
set_option maxRecDepth 100000 in
theorem shTC_X10_1 {p : Nat} (h : TC[p]? = some sX10) : TC[p + 1]? = some (.inr (5, 0, none) : Shp) := sh_d (d := 1) (by decide +kernel) h
set_option maxRecDepth 100000 in
theorem shTC_X10_25 {p : Nat} (h : TC[p]? = some sX10) : TC[p + 25]? = some sX2 := sh_d (d := 25) (by decide +kernel) h
set_option maxRecDepth 100000 in
theorem shTC_X10_37 {p : Nat} (h : TC[p]? = some sX10) : TC[p + 37]? = some sX1 := sh_d (d := 37) (by decide +kernel) h
set_option maxRecDepth 100000 in
theorem shTC_X9_1 {p : Nat} (h : TC[p]? = some sX9) : TC[p + 1]? = some (.inr (3, 2, some none) : Shp) := sh_d (d := 1) (by decide +kernel) h
set_option maxRecDepth 100000 in
theorem shTC_X9_34 {p : Nat} (h : TC[p]? = some sX9) : TC[p + 34]? = some (.inr (10, 4, some (some 1)) : Shp) := sh_d (d := 34) (by decide +kernel) h
set_option maxRecDepth 100000 in
theorem shTC_X9_35i_0 {p j : Nat} (h : TC[p]? = some sX9) (hj : j < 10) : TC[p + 35 + j]? = some (.inr (3, 0, none) : Shp) := sh_di (N := 10) (d := 35) (o := 0) (by decide +kernel) h hj
set_option maxRecDepth 100000 in
theorem shTC_X9_2 {p : Nat} (h : TC[p]? = some sX9) : TC[p + 2]? = some (.inr (4, 1, none) : Shp) := sh_d (d := 2) (by decide +kernel) h
set_option maxRecDepth 100000 in
theorem shTC_X9_13 {p : Nat} (h : TC[p]? = some sX9) : TC[p + 13]? = some (.inr (4, 4, some (some 1)) : Shp) := sh_d (d := 13) (by decide +kernel) h
set_option maxRecDepth 100000 in
theorem shTC_X9_14i_0 {p j : Nat} (h : TC[p]? = some sX9) (hj : j < 4) : TC[p + 14 + j]? = some (.inr (3, 0, none) : Shp) := sh_di (N := 4) (d := 14) (o := 0) (by decide +kernel) h hj
set_option maxRecDepth 100000 in
theorem shTC_X9_3 {p : Nat} (h : TC[p]? = some sX9) : TC[p + 3]? = some (.inr (4, 4, some (some 1)) : Shp) := sh_d (d := 3) (by decide +kernel) h
set_option maxRecDepth 100000 in
theorem shTC_X9_4i_0 {p j : Nat} (h : TC[p]? = some sX9) (hj : j < 4) : TC[p + 4 + j]? = some (.inr (9, 0, none) : Shp) := sh_di (N := 4) (d := 4) (o := 0) (by decide +kernel) h hj
set_option maxRecDepth 100000 in
theorem shTC_X9_8 {p : Nat} (h : TC[p]? = some sX9) : TC[p + 8]? = some (.inr (4, 4, some (some 1)) : Shp) := sh_d (d := 8) (by decide +kernel) h
set_option maxRecDepth 100000 in
theorem shTC_X9_9i_0 {p j : Nat} (h : TC[p]? = some sX9) (hj : j < 4) : TC[p + 9 + j]? = some (.inr (9, 0, none) : Shp) := sh_di (N := 4) (d := 9) (o := 0) (by decide +kernel) h hj
set_option maxRecDepth 100000 in
theorem shTC_X9_18 {p : Nat} (h : TC[p]? = some sX9) : TC[p + 18]? = some (.inr (10, 0, none) : Shp) := sh_d (d := 18) (by decide +kernel) h
set_option maxRecDepth 100000 in
theorem shTC_X9_33 {p : Nat} (h : TC[p]? = some sX9) : TC[p + 33]? = some (.inr (10, 0, none) : Shp) := sh_d (d := 33) (by decide +kernel) h
set_option maxRecDepth 100000 in
theorem shTC_X9_22 {p : Nat} (h : TC[p]? = some sX9) : TC[p + 22]? = some (.inr (10, 4, some (some 1)) : Shp) := sh_d (d := 22) (by decide +kernel) h
set_option maxRecDepth 100000 in
theorem shTC_X9_23i_0 {p j : Nat} (h : TC[p]? = some sX9) (hj : j < 10) : TC[p + 23 + j]? = some (.inr (4, 0, none) : Shp) := sh_di (N := 10) (d := 23) (o := 0) (by decide +kernel) h hj
set_option maxRecDepth 100000 in
theorem shTC_X9_20 {p : Nat} (h : TC[p]? = some sX9) : TC[p + 20]? = some (.inr (10, 0, none) : Shp) := sh_d (d := 20) (by decide +kernel) h
set_option maxRecDepth 100000 in
theorem shTC_X9_21 {p : Nat} (h : TC[p]? = some sX9) : TC[p + 21]? = some (.inr (10, 0, none) : Shp) := sh_d (d := 21) (by decide +kernel) h
set_option maxRecDepth 100000 in
theorem shTC_X9_19 {p : Nat} (h : TC[p]? = some sX9) : TC[p + 19]? = some (.inr (9, 0, none) : Shp) := sh_d (d := 19) (by decide +kernel) h
set_option maxRecDepth 100000 in
theorem shTC_X9_49 {p : Nat} (h : TC[p]? = some sX9) : TC[p + 49]? = some (.inr (9, 0, none) : Shp) := sh_d (d := 49) (by decide +kernel) h
set_option maxRecDepth 100000 in
theorem shTC_X9_45 {p : Nat} (h : TC[p]? = some sX9) : TC[p + 45]? = some sX0 := sh_d (d := 45) (by decide +kernel) h
set_option maxRecDepth 100000 in
theorem shTC_X11_1 {p : Nat} (h : TC[p]? = some sX11) : TC[p + 1]? = some sX10 := sh_d (d := 1) (by decide +kernel) h
set_option maxRecDepth 100000 in
theorem shTC_X11_4 {p : Nat} (h : TC[p]? = some sX11) : TC[p + 4]? = some (.inr (16, 2, some (some 1)) : Shp) := sh_d (d := 4) (by decide +kernel) h
set_option maxRecDepth 100000 in
theorem shTC_X11_5i_0 {p j : Nat} (h : TC[p]? = some sX11) (hj : j < 16) : TC[p + 5 + j]? = some sX5 := sh_di (N := 16) (d := 5) (o := 0) (by decide +kernel) h hj
set_option maxRecDepth 100000 in
theorem shTC_X11_3 {p : Nat} (h : TC[p]? = some sX11) : TC[p + 3]? = some (.inr (5, 0, none) : Shp) := sh_d (d := 3) (by decide +kernel) h
set_option maxRecDepth 100000 in
theorem shTC_X11_2 {p : Nat} (h : TC[p]? = some sX11) : TC[p + 2]? = some (.inr (5, 0, none) : Shp) := sh_d (d := 2) (by decide +kernel) h
set_option maxRecDepth 100000 in
theorem shTC_X11_21 {p : Nat} (h : TC[p]? = some sX11) : TC[p + 21]? = some sX7 := sh_d (d := 21) (by decide +kernel) h
set_option maxRecDepth 100000 in
theorem shTC_X11_23 {p : Nat} (h : TC[p]? = some sX11) : TC[p + 23]? = some sX3 := sh_d (d := 23) (by decide +kernel) h
set_option maxRecDepth 100000 in
theorem shTC_X11_83 {p : Nat} (h : TC[p]? = some sX11) : TC[p + 83]? = some sX6 := sh_d (d := 83) (by decide +kernel) h
set_option maxRecDepth 100000 in
theorem shTC_X11_85 {p : Nat} (h : TC[p]? = some sX11) : TC[p + 85]? = some sX7 := sh_d (d := 85) (by decide +kernel) h
set_option maxRecDepth 100000 in
theorem shTC_X11_87 {p : Nat} (h : TC[p]? = some sX11) : TC[p + 87]? = some sX3 := sh_d (d := 87) (by decide +kernel) h
set_option maxRecDepth 100000 in
theorem shTC_X11_26 {p : Nat} (h : TC[p]? = some sX11) : TC[p + 26]? = some sX2 := sh_d (d := 26) (by decide +kernel) h
set_option maxRecDepth 100000 in
theorem shTC_X11_38 {p : Nat} (h : TC[p]? = some sX11) : TC[p + 38]? = some sX1 := sh_d (d := 38) (by decide +kernel) h
set_option maxRecDepth 100000 in
theorem shTC_X11_90 {p : Nat} (h : TC[p]? = some sX11) : TC[p + 90]? = some sX9 := sh_d (d := 90) (by decide +kernel) h
set_option maxRecDepth 100000 in
theorem shTC_X11_139 {p : Nat} (h : TC[p]? = some sX11) : TC[p + 139]? = some (.inr (9, 0, none) : Shp) := sh_d (d := 139) (by decide +kernel) h
set_option maxRecDepth 100000 in
theorem shTC_X11_42 {p : Nat} (h : TC[p]? = some sX11) : TC[p + 42]? = some sX10 := sh_d (d := 42) (by decide +kernel) h
set_option maxRecDepth 100000 in
theorem shTC_X11_142 {p : Nat} (h : TC[p]? = some sX11) : TC[p + 142]? = some (.inr (4, 3, some (some 1)) : Shp) := sh_d (d := 142) (by decide +kernel) h
set_option maxRecDepth 100000 in
theorem shTC_X11_143i_0 {p j : Nat} (h : TC[p]? = some sX11) (hj : j < 4) : TC[p + 143 + j]? = some sX4 := sh_di (N := 4) (d := 143) (o := 0) (by decide +kernel) h hj
set_option maxRecDepth 100000 in
theorem shTC_X11_140 {p : Nat} (h : TC[p]? = some sX11) : TC[p + 140]? = some sX8 := sh_d (d := 140) (by decide +kernel) h
set_option maxRecDepth 100000 in
theorem shTC_X11_143i_4 {p j : Nat} (h : TC[p]? = some sX11) (hj : j < 4) : TC[p + 143 + j + 4]? = some (.inr (24, 0, none) : Shp) := sh_di (N := 4) (d := 143) (o := 4) (by decide +kernel) h hj
set_option maxRecDepth 100000 in
theorem shTM_X12_1 {p : Nat} (h : TM[p]? = some sX12) : TM[p + 1]? = some (.inr (193, 0, none) : Shp) := sh_d (d := 1) (by decide +kernel) h
set_option maxRecDepth 100000 in
theorem shTM_X12_3 {p : Nat} (h : TM[p]? = some sX12) : TM[p + 3]? = some (.inr (60, 0, none) : Shp) := sh_d (d := 3) (by decide +kernel) h
set_option maxRecDepth 100000 in
theorem shTM_X12_7 {p : Nat} (h : TM[p]? = some sX12) : TM[p + 7]? = some (.inr (18, 0, none) : Shp) := sh_d (d := 7) (by decide +kernel) h
set_option maxRecDepth 100000 in
theorem shTM_X12_8 {p : Nat} (h : TM[p]? = some sX12) : TM[p + 8]? = some (.inr (9, 0, none) : Shp) := sh_d (d := 8) (by decide +kernel) h
set_option maxRecDepth 100000 in
theorem shTM_X12_9 {p : Nat} (h : TM[p]? = some sX12) : TM[p + 9]? = some (.inr (10, 0, none) : Shp) := sh_d (d := 9) (by decide +kernel) h
set_option maxRecDepth 100000 in
theorem shTM_X12_10 {p : Nat} (h : TM[p]? = some sX12) : TM[p + 10]? = some (.inr (10, 0, none) : Shp) := sh_d (d := 10) (by decide +kernel) h
set_option maxRecDepth 100000 in
theorem shTM_X12_11 {p : Nat} (h : TM[p]? = some sX12) : TM[p + 11]? = some (.inr (10, 0, none) : Shp) := sh_d (d := 11) (by decide +kernel) h
set_option maxRecDepth 100000 in
theorem shTM_X12_12 {p : Nat} (h : TM[p]? = some sX12) : TM[p + 12]? = some (.inr (10, 0, none) : Shp) := sh_d (d := 12) (by decide +kernel) h
set_option maxRecDepth 100000 in
theorem shTM_X12_13 {p : Nat} (h : TM[p]? = some sX12) : TM[p + 13]? = some (.inr (10, 0, none) : Shp) := sh_d (d := 13) (by decide +kernel) h
set_option maxRecDepth 100000 in
theorem shTM_X12_14 {p : Nat} (h : TM[p]? = some sX12) : TM[p + 14]? = some (.inr (10, 0, none) : Shp) := sh_d (d := 14) (by decide +kernel) h
set_option maxRecDepth 100000 in
theorem shTM_X12_15 {p : Nat} (h : TM[p]? = some sX12) : TM[p + 15]? = some (.inr (10, 0, none) : Shp) := sh_d (d := 15) (by decide +kernel) h
set_option maxRecDepth 100000 in
theorem shTM_X12_16 {p : Nat} (h : TM[p]? = some sX12) : TM[p + 16]? = some (.inr (9, 0, none) : Shp) := sh_d (d := 16) (by decide +kernel) h
set_option maxRecDepth 100000 in
theorem shTM_X12_17 {p : Nat} (h : TM[p]? = some sX12) : TM[p + 17]? = some (.inr (8, 0, none) : Shp) := sh_d (d := 17) (by decide +kernel) h
set_option maxRecDepth 100000 in
theorem shTM_X12_18 {p : Nat} (h : TM[p]? = some sX12) : TM[p + 18]? = some (.inr (8, 0, none) : Shp) := sh_d (d := 18) (by decide +kernel) h
set_option maxRecDepth 100000 in
theorem shTM_X12_2 {p : Nat} (h : TM[p]? = some sX12) : TM[p + 2]? = some (.inr (193, 0, none) : Shp) := sh_d (d := 2) (by decide +kernel) h
set_option maxRecDepth 100000 in
theorem shTM_X12_4 {p : Nat} (h : TM[p]? = some sX12) : TM[p + 4]? = some (.inr (4, 0, none) : Shp) := sh_d (d := 4) (by decide +kernel) h
set_option maxRecDepth 100000 in
theorem shTM_X12_5 {p : Nat} (h : TM[p]? = some sX12) : TM[p + 5]? = some (.inr (4, 0, none) : Shp) := sh_d (d := 5) (by decide +kernel) h
set_option maxRecDepth 100000 in
theorem shTM_X12_6 {p : Nat} (h : TM[p]? = some sX12) : TM[p + 6]? = some (.inr (96, 0, none) : Shp) := sh_d (d := 6) (by decide +kernel) h
set_option maxRecDepth 100000 in
theorem shTM_X12_19 {p : Nat} (h : TM[p]? = some sX12) : TM[p + 19]? = some (.inr (16, 0, none) : Shp) := sh_d (d := 19) (by decide +kernel) h
