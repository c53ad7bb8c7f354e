/-! the law: what holds between two calls -/
theorem rel_0 : Rel 0 gC gM0 := by
  have w0 : ∀ j, j < 193 → gM0 1 j = if 117 ≤ j ∧ j < 181 then -1 else 0 := fun _ _ => rfl
  refine ⟨?_, ⟨fun j hj hb => ⟨0, Nat.zero_le _, ?_⟩, fun a b ha hb => ⟨⟨0, by omega, ?_, fun _ => rfl⟩, ?_⟩⟩, ⟨rfl, Or.inl rfl⟩, ⟨0, by omega, rfl, rfl, fun k hk => rfl, fun k hk => by omega⟩, fun s hs => ⟨fun k hk => ?_, Or.inl ⟨?_, ?_, ?_⟩⟩, ⟨⟨fun a h1 h2 => ?_, rfl, rfl, fun s hs => ?_, rfl⟩, 0, Nat.le_refl _, rfl, fun k hk => ⟨0, Nat.le_refl _, rfl⟩⟩⟩
  · show ∀ j, j < 193 → gC (1 + wP j) (wL j) = gM0 1 j
    decide +kernel
  · rw [w0 j hj, if_neg (by omega)]
    rfl
  · rw [w0 _ (by omega), if_pos (by omega)]
    rfl
  · rw [w0 _ (by omega), if_pos (by omega), w0 _ (by omega), if_pos (by omega)]
  · rw [gC_o (by omega)]
    rfl
  · show (if s < 4 then (-1 : Int32) else 0) = -1
    exact if_pos hs
  · show gC (143 + s) 1 = -1
    unfold gC
    rw [if_neg (by omega), if_pos (by omega), if_pos rfl]
  · show gC (143 + s) 2 = 0
    unfold gC
    rw [if_neg (by omega), if_pos (by omega), if_neg (by omega)]
  · show gM2 4 a 0 = 0
    unfold gM2
    rw [if_neg (by omega), if_neg (by omega)]
  · show gC 113 s = 0
    rw [gC_o (by omega)]
theorem mm_Zt.narrow {C n : String} {l : List Int32} {A B : Nat → Prop} {U : State} {H : Heap} (h : mm_Zt C n l A U H) (hAB : ∀ q, B q → A q) : mm_Zt C n l B U H := by
  obtain ⟨t, h1, h2⟩ := h
  exact ⟨t, h1.narrow hAB, h2.narrow hAB⟩
theorem mm_Z.narrow {A B : Nat → Prop} {U : State} {H : Heap} (h : mm_Z A U H) (hAB : ∀ q, B q → A q) : mm_Z B U H := ⟨⟨h.1.1.narrow hAB, h.1.2.1.narrow hAB, h.1.2.2.1.narrow hAB, h.1.2.2.2.1.narrow hAB, h.1.2.2.2.2.narrow hAB⟩, h.2⟩
/-- what stays -/
def LK (D : va_G) (cy : Nat → ClassId) (adC adM : Nat → Nat) (s : State) : Prop := va_K D vwCl (mm_tys cy) s ∧ mm_I TC adC ∧ mm_I TM adM ∧ (∀ q, mm_A TC adC q → s.heap.size ≤ q) ∧ (∀ q, mm_A TM adM q → s.heap.size ≤ q) ∧ (∀ q, mm_A TC adC q → mm_A TM adM q → False) ∧ mm_Z (fun q => s.heap.size ≤ q) s s.heap
/-- what the heap holds -/
def LI (D : va_G) (cy : Nat → ClassId) (adC adM : Nat → Nat) (c m : Mm) (s : State) (H : Heap) (locs : List Loc) : Prop := va_P D vwCl (mm_L TC adC cy c) H ∧ va_P D vwCl (mm_L TM adM cy m) H ∧ va_S (fun q => s.heap.size ≤ q) s.heap H locs
theorem mm_L_in {T : List Shp} {ad : Nat → Nat} {cy : Nat → ClassId} {g : Mm} {k : Nat} {x : Nat × va_E} (h : (mm_L T ad cy g)[k]? = some x) : mm_A T ad x.1 := ⟨k, (mm_L_get h).1, (mm_L_get h).2⟩
section LW
variable {p : Program} {l : Launch} {e : Env} {R : Room} {s : State} {m0 : MethodId} {args : Array Value} {below : List Frame} {meth : Method} {c0 : Code} {H : Heap} {locs : List Loc} {cells slots : Nat} {Q : State → Prop}
variable {pc : Nat} {ls : Array Slot} {rest st0 : List Value} {D : va_G} {cy : Nat → ClassId} {adC adM : Nat → Nat} {c m c' m' : Mm}
theorem lp_C {As : List Value} (K : LK D cy adC adM s) (h : LI D cy adC adM c m s H locs) : PreV s H RX11 (adC 0) (va_Pc (.ref (adC 0) :: As) (mm_pre mm_Z D TC adC cy c)) As :=
  ⟨mm_blind mm_zOkC, mq_recv (q := (RX11, TX11, 9)) K.1 h.1 (k := 0) rfl rfl, fun U hU hW => ⟨rfl, by rw [hU]; exact h.1, va_K.moved hW.alike K.1, K.2.1, by rw [hU]; exact (mm_zOkC.2.1 _ _ _ _ hW (mm_zOkC.1 _ _ _ _ K.2.2.2.2.2.2 h.2.2.2.1)).narrow K.2.2.2.1⟩⟩
theorem lp_M {As : List Value} (K : LK D cy adC adM s) (h : LI D cy adC adM c m s H locs) : PreV s H RX12 (adM 0) (va_Pc (.ref (adM 0) :: As) (mm_pre mm_Z0 D TM adM cy m)) As :=
  ⟨mm_blind mm_zOk0, mq_recv (q := (RX12, TX12, 26)) K.1 h.2.1 (k := 0) rfl rfl, fun U hU hW => ⟨rfl, by rw [hU]; exact h.2.1, va_K.moved hW.alike K.1, K.2.2.1, trivial⟩⟩
theorem lc_C {r0 : Int32} {a : Array Value} (K : LK D cy adC adM s) (h : LI D cy adC adM c m s H locs) (hr : va_Run p l e R s m0 args below meth c0 H locs cells slots 0 0 (F0 m0 pc ls st0) rest (mm_Qi D TC adC cy r0 c' a) (mm_A TC adC))
    (kk : ∀ (H1 : Heap) (locs1 : List Loc), LI D cy adC adM c' m s H1 locs1 → W p l e R s m0 args below meth c0 H1 locs1 cells slots Q (F0 m0 (pc + 3) ls (.int r0 :: rest))) : W p l e R s m0 args below meth c0 H locs cells slots Q (F0 m0 pc ls st0) := by
  refine va_calli hr h.2.2 (fun q _ hq => K.2.2.2.1 q hq) K.2.2.2.1 (fun r u t H1 locs1 ht _ hw hB hz1 hk1 hS1 => ?_)
  subst hw
  rw [ht] at hB
  exact kk H1 locs1 ⟨hB, h.2.1.kept (fun k x hx => hk1 x.1 ((h.2.1 k x hx).lt) (fun w => K.2.2.2.2.2.1 x.1 w (mm_L_in hx))), hS1⟩
theorem lc_M {r0 : Int32} {a : Array Value} (K : LK D cy adC adM s) (h : LI D cy adC adM c m s H locs) (hr : va_Run p l e R s m0 args below meth c0 H locs cells slots 0 0 (F0 m0 pc ls st0) rest (mm_Qi D TM adM cy r0 m' a) (mm_A TM adM))
    (kk : ∀ (H1 : Heap) (locs1 : List Loc), LI D cy adC adM c m' s H1 locs1 → W p l e R s m0 args below meth c0 H1 locs1 cells slots Q (F0 m0 (pc + 3) ls (.int r0 :: rest))) : W p l e R s m0 args below meth c0 H locs cells slots Q (F0 m0 pc ls st0) := by
  refine va_calli hr h.2.2 (fun q _ hq => K.2.2.2.2.1 q hq) K.2.2.2.2.1 (fun r u t H1 locs1 ht _ hw hB hz1 hk1 hS1 => ?_)
  subst hw
  rw [ht] at hB
  exact kk H1 locs1 ⟨h.1.kept (fun k x hx => hk1 x.1 ((h.1 k x hx).lt) (fun w => K.2.2.2.2.2.1 x.1 (mm_L_in hx) w)), hB, hS1⟩
/-- an int of the script, some places on -/
theorem lw_ld {b L : Nat} {xs : Nat → Int32} {i : Nat} {cc : ByteArray} (hexec : p.tables.exec = Jvm.exec) (hb : c0.code = cc) (hX : va_X b L xs s s.heap) (hbl : b < s.heap.size) (h : LI D cy adC adM c m s H locs) {x : Int32} {k : Nat} (hx : x = nI (i + k)) (hi : i + k < L) (hL : L ≤ 3584) (hdg : decode cc pc = .ok (.iaload, 1))
    (kk : W p l e R s m0 args below meth c0 H locs cells slots Q (F0 m0 (pc + 1) ls (.int (xs (i + k)) :: rest))) : W p l e R s m0 args below meth c0 H locs cells slots Q (F0 m0 pc ls (.int x :: .ref b :: rest)) := by
  subst hx
  refine va_sld hexec hb hX hbl (Nat.not_le.mpr hbl) h.2.2 (vp_in_nI hi (by omega)) hdg ?_
  rw [nI_clamp (show i + k < 2 ^ 31 by omega)]
  exact kk
end LW
theorem SimP.to {n : Nat} {c m : Mm} {X Y : Option Int32} (h : SimP X Y) (hR : Rel n c m) : ∃ r, X = some r ∧ Y = some r ∧ Rel (n + 1) c m := by
  obtain ⟨r, h1, h2⟩ := h
  exact ⟨r, h1, h2, hR.next⟩
