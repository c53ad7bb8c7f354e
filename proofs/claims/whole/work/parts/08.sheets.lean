theorem add_143_4 (s : Nat) : 143 + s + 4 = 147 + s := by omega
theorem mm_up_row (g : Mm) (k : Nat) (f : Nat → Int32) (j : Nat) (x : Int32) : mm_up (mm_row g k f) k j x = mm_row g k (upd f j x) := by
  unfold mm_up
  rw [mm_row_at]
  funext a
  unfold mm_row
  split <;> rfl
theorem mm_up_as_row (g : Mm) (k j : Nat) (x : Int32) : mm_up g k j x = mm_row g k (upd (g k) j x) := rfl
theorem Rel.sheets {n : Nat} {c m c' m' : Mm} (h : Rel n c m) (hc : ∀ a, a < 143 → c' a = c a) (hm : ∀ a, a < 4 ∨ 7 ≤ a → m' a = m a) (hs : SH c' m') : Rel (n + 1) c' m' :=
  ⟨by rw [hm 1 (by omega)]; exact h.1.kept' (fun a _ h2 => hc a (by omega)), by rw [hm 1 (by omega)]; exact h.2.1, h.2.2.1.kept (by rw [hc 0 (by omega)]) (by rw [hm 0 (by omega)]) (hm 2 (by omega)) (fun a _ h1 => hc a (by omega)), h.2.2.2.1.kept (by rw [hm 0 (by omega)]) (by rw [hc 83 (by omega)]) (hc 84 (by omega)) (hm 3 (by omega)), hs, h.2.2.2.2.2.mono (by omega) (by rw [hc 135 (by omega)]) (hc 138 (by omega)) (fun a _ _ => hc a (by omega)) (fun a _ _ => hm a (by omega))⟩
/-- what is found where q items from i on are asked for of a sheet of z items -/
def fd (i : Int32) (q z : Nat) : Int32 := if i < 0 then -13 else if i.toNatClampNeg + q ≤ z then 0 else -13
theorem m_found_no {m : Mm} {s : Nat} (hs : s < 4) (h : m 4 s = -1) (lane i n : Int32) : f_X12_found (nI s) lane i n m = some (-11) := by
  unfold f_X12_found
  simp (disch := omega) only [og_in, nI_clamp, h]
  rfl
theorem m_found {m : Mm} {s z l : Nat} (hs : s < 4) (hz : z ≤ 24) (h : m 4 s = nI z) (hl : m 5 s = nI l) (lane i : Int32) {q : Nat} (hq : q < 1000) : f_X12_found (nI s) lane i (nI q) m = some (if nI l = lane then fd i q z else -12) := by
  unfold f_X12_found fd
  simp (disch := omega) only [og_in, nI_clamp, h, hl]
  rw [if_pos (show (0 : Int32) ≤ nI z from nI_pos' (by omega))]
  by_cases h1 : nI l = lane
  · rw [if_pos h1, if_pos h1]
    by_cases h2 : i < 0
    · rw [if_pos h2, if_pos h2]
    · rw [if_neg h2, if_neg h2]
      obtain ⟨j, l1, rfl⟩ := nI_of h2
      simp (disch := omega) only [lg_cmp_le, nI_l, lN_add, pk_lLE, nI_clamp]
      split <;> rfl
  · rw [if_neg h1, if_neg h1]
theorem k_nothing {c : Mm} {p : Nat} : f_X4_isNothing p c = some (if c p 1 = -1 then 1 else 0) := by
  unfold f_X4_isNothing
  split <;> rfl
theorem nI_nm1 {l : Nat} (h : l < 2 ^ 31) : ¬ nI l = -1 := by
  intro e
  have := nI_toInt h
  rw [e] at this
  have e2 : (-1 : Int32).toInt = -1 := by decide
  omega
theorem k_holds {c : Mm} {p z : Nat} (hz : z ≤ 24) (h : c p 2 = nI z) (i : Int32) {q : Nat} (hq : q < 1000) : f_X4_holds p i (nI q) c = some (if fd i q z = 0 then 1 else 0) := by
  unfold f_X4_holds fd
  rw [h]
  by_cases h2 : i < 0
  · rw [if_pos h2, if_pos h2]
    rfl
  · rw [if_neg h2, if_neg h2]
    obtain ⟨j, l1, rfl⟩ := nI_of h2
    rw [if_neg (nI_pos (by omega))]
    simp (disch := omega) only [nI_clamp, nI_ltI]
    by_cases h3 : z < j
    · rw [if_pos h3, if_neg (show ¬ j + q ≤ z by omega)]
      rfl
    · rw [if_neg h3]
      simp (disch := omega) only [pk_sub, nI_ltI]
      by_cases h4 : j + q ≤ z
      · rw [if_pos h4, if_neg (by omega)]
        rfl
      · rw [if_neg h4, if_pos (by omega)]
        rfl
theorem k_refusal_no {c : Mm} {p : Nat} (h : c p 1 = -1) (lane i n : Int32) : f_X4_refusal p lane i n c = some (-11) := by
  unfold f_X4_refusal
  rw [k_nothing, h]
  rfl
theorem fd_01 (i : Int32) (q z : Nat) : fd i q z = 0 ∨ fd i q z = -13 := by
  unfold fd
  split
  · exact Or.inr rfl
  · split
    · exact Or.inl rfl
    · exact Or.inr rfl
theorem fd_0 {i : Int32} {q z : Nat} (hz : z ≤ 24) (h : fd i q z = 0) : ∃ j, i = nI j ∧ j + q ≤ z := by
  unfold fd at h
  split at h
  · exact absurd h (by decide)
  · rename_i h2
    obtain ⟨j, l1, rfl⟩ := nI_of h2
    rw [nI_clamp l1] at h
    split at h
    · rename_i h3
      exact ⟨j, rfl, h3⟩
    · exact absurd h (by decide)
theorem k_refusal {c : Mm} {p z l : Nat} (hz : z ≤ 24) (hl2 : l ≤ 2) (h : c p 2 = nI z) (hl : c p 1 = nI l) (lane i : Int32) {q : Nat} (hq : q < 1000) : f_X4_refusal p lane i (nI q) c = some (if nI l = lane then fd i q z else -12) := by
  unfold f_X4_refusal
  rw [k_nothing, hl, if_neg (nI_nm1 (by omega)), op_v, if_pos rfl, k_holds hz h i hq, op_v]
  by_cases h1 : nI l = lane
  · rw [if_pos h1, if_pos h1]
    rcases fd_01 i q z with e | e <;> rw [e] <;> rfl
  · rw [if_neg h1, if_neg h1]
/-! a new sheet -/
def z24 (f : Nat → Int32) (s i : Nat) : Nat → Int32 := fun k => if 24 * s ≤ k ∧ k < 24 * s + i then 0 else f k
theorem z24_0 (f : Nat → Int32) (s : Nat) : z24 f s 0 = f := by
  funext k
  unfold z24
  rw [if_neg (by omega)]
theorem z24_s (f : Nat → Int32) (s i : Nat) : upd (z24 f s i) (24 * s + i) 0 = z24 f s (i + 1) := by
  funext k
  unfold upd z24
  by_cases h : k = 24 * s + i
  · rw [if_pos h, if_pos (by omega)]
  · rw [if_neg h]
    by_cases h2 : 24 * s ≤ k ∧ k < 24 * s + i
    · rw [if_pos h2, if_pos (by omega)]
    · rw [if_neg h2, if_neg (by omega)]
theorem m_sheet_c40 (g : Mm) (f : Nat → Int32) {s : Nat} (hs : s < 4) (x3 : Int32) : ∀ (d i fl : Nat), i + d = 24 → d < fl → f_X12_sheet_c40 (nI s) x3 fl (nI i) (mm_row g 6 (z24 f s i)) = some (x3, mm_row g 6 (z24 f s 24)) := by
  intro d
  induction d with
  | zero =>
    intro i fl hi hf
    obtain ⟨fl, rfl⟩ := Nat.exists_eq_succ_of_ne_zero (show fl ≠ 0 by omega)
    rw [f_X12_sheet_c40]
    have e : i = 24 := by omega
    subst e
    rfl
  | succ d ih =>
    intro i fl hi hf
    obtain ⟨fl, rfl⟩ := Nat.exists_eq_succ_of_ne_zero (show fl ≠ 0 by omega)
    rw [f_X12_sheet_c40]
    simp (disch := omega) only [op_v, ob_v, mv_v, mw_v, mr_v, og_t, fa_lit, nI_add, pk_mul, nI_ltI, nI_leI, nI_eq, nI_clamp, og_in, pk_sub, Nat.add_zero, Nat.zero_add, Nat.reduceAdd, Nat.reduceMul, Nat.reduceSub, if_neg (show ¬ 24 ≤ i by omega), mm_up_row]
    have ih := ih (i + 1) fl (by omega) (by omega)
    rw [← z24_s] at ih
    exact ih
theorem sim_sheet {n : Nat} {c m : Mm} (h : Rel n c m) (x1 x2 x3 : Int32) : Sim n (f_X11_sheet x1 x2 x3 c) (f_X12_sheet x1 x2 x3 m) := by
  unfold f_X11_sheet f_X12_sheet f_X12_isSheet
  simp only [k_isSheet, k_isLane, in_0_3, in_0_2, op_v]
  by_cases h1 : wi x1 0 3 = 0
  · simp only [if_pos h1, op_v, if_true]; exact Sim.ret rfl h.next
  simp only [if_neg h1]
  by_cases h2 : wi x2 0 2 = 0
  · simp only [if_pos h2, op_v, if_true]; exact Sim.ret rfl h.next
  simp only [if_neg h2, op_v]
  rw [if_neg (show ¬ (1 : Int32) = 0 by decide)]
  by_cases h3 : x3 ≤ 24
  rotate_left
  · rw [if_neg h3, if_neg h3]; exact Sim.ret rfl h.next
  rw [if_pos h3, if_pos h3]
  by_cases h4 : 0 ≤ x3
  rotate_left
  · rw [if_neg h4, if_neg h4]; exact Sim.ret rfl h.next
  rw [if_pos h4, if_pos h4]
  obtain ⟨s, l1, rfl⟩ := wi_nz (b := 3) (by omega) h1
  obtain ⟨l, l2, rfl⟩ := wi_nz (b := 2) (by omega) h2
  obtain ⟨z, l3, rfl⟩ := nI_of2 (n := 24) (M := 24) rfl (by rw [Int32.lt_iff_toInt_lt]; rw [Int32.le_iff_toInt_le] at h4; omega) h3
  unfold f_X4_begin
  simp (disch := omega) only [op_v, ob_v, mv_v, mw_v, mr_v, og_t, fa_lit, nI_add, pk_mul, nI_ltI, nI_leI, nI_eq, nI_clamp, og_in, pk_sub, Nat.add_zero, Nat.zero_add, Nat.reduceAdd, Nat.reduceMul, Nat.reduceSub, add_143_4]
  have e6 : mm_up (mm_up m 4 s (nI z)) 5 s (nI l) = mm_row (mm_up (mm_up m 4 s (nI z)) 5 s (nI l)) 6 (z24 (m 6) s 0) := by
    rw [z24_0]
    have := mm_row_self (mm_up (mm_up m 4 s (nI z)) 5 s (nI l)) 6
    simp (disch := omega) only [mm_up_eq, mm_up_ne, upd_eq, upd_ne] at this
    exact this.symm
  rw [e6]
  rw [show nI 0 = (nI 0) from rfl, m_sheet_c40 _ (m 6) (by omega) (nI z) 24 0 FU (by omega) (fu_lt (by omega))]
  refine Sim.ret rfl (h.sheets (fun a ha => ?_) (fun a ha => ?_) ?_)
  · rw [mm_row_ne _ _ (by omega)]
    simp (disch := omega) only [mm_up_eq, mm_up_ne, upd_eq, upd_ne]
  · rw [mm_row_ne _ _ (by omega)]
    simp (disch := omega) only [mm_up_eq, mm_up_ne, upd_eq, upd_ne]
  · intro t ht
    have ho := h.2.2.2.2.1 t ht
    by_cases e : t = s
    · subst e
      refine ⟨fun k hk => ?_, Or.inr ⟨z, l, l3, l2, ?_, ?_, ?_, ?_⟩⟩
      · rw [mm_row_at, mm_row_at]
        unfold mm_fl z24
        rw [if_pos hk, if_pos (by omega)]
        rfl
      · rw [mm_row_ne _ _ (by omega)]
        simp (disch := omega) only [mm_up_eq, mm_up_ne, upd_eq, upd_ne]
      · rw [mm_row_ne _ _ (by omega)]
        simp (disch := omega) only [mm_up_eq, mm_up_ne, upd_eq, upd_ne]
      · rw [mm_row_ne _ _ (by omega)]
        simp (disch := omega) only [mm_up_eq, mm_up_ne, upd_eq, upd_ne]
      · rw [mm_row_ne _ _ (by omega)]
        simp (disch := omega) only [mm_up_eq, mm_up_ne, upd_eq, upd_ne]
    · rw [mm_row_ne _ _ (show 147 + t ≠ 147 + s by omega), mm_row_at, mm_row_ne _ _ (show 143 + t ≠ 147 + s by omega), mm_row_ne _ _ (show 4 ≠ 6 by omega), mm_row_ne _ _ (show 5 ≠ 6 by omega)]
      simp (disch := omega) only [mm_up_eq, mm_up_ne, upd_eq, upd_ne]
      refine ⟨fun k hk => ?_, ho.2⟩
      unfold z24
      rw [if_neg (by omega)]
      exact ho.1 k hk
theorem sim_drop {n : Nat} {c m : Mm} (h : Rel n c m) (x1 : Int32) : Sim n (f_X11_drop x1 c) (f_X12_drop x1 m) := by
  unfold f_X11_drop f_X12_drop
  simp only [k_isSheet, in_0_3, op_v]
  by_cases h1 : wi x1 0 3 = 0
  · rw [if_pos h1, if_pos h1]; exact Sim.ret rfl h.next
  rw [if_neg h1, if_neg h1]
  obtain ⟨s, l1, rfl⟩ := wi_nz (b := 3) (by omega) h1
  unfold f_X4_clear
  simp (disch := omega) only [og_in, nI_clamp, k_nothing, op_v]
  have ho := h.2.2.2.2.1 s (by omega)
  rcases ho.2 with ⟨h2, h3, h4⟩ | ⟨z, l, l2, l3, h2, h3, h4, h5⟩
  · rw [h2, h3]
    exact Sim.ret rfl h.next
  · rw [h5, if_neg (nI_nm1 (by omega)), if_pos rfl, h2, if_pos (nI_pos' (by omega)), h3]
    simp only [op_v, ob_v, mv_v, mw_v, mr_v, og_t]
    refine Sim.ret rfl (h.sheets (fun a ha => ?_) (fun a ha => ?_) ?_)
    · simp (disch := omega) only [mm_up_eq, mm_up_ne, upd_eq, upd_ne]
    · simp (disch := omega) only [mm_up_eq, mm_up_ne, upd_eq, upd_ne]
    · intro t ht
      have ho := h.2.2.2.2.1 t ht
      simp (disch := omega) only [mm_up_eq, mm_up_ne, upd_eq, upd_ne]
      by_cases e : t = s
      · subst e
        refine ⟨ho.1, Or.inl ⟨?_, ?_, ?_⟩⟩ <;> simp (disch := omega) only [mm_up_eq, mm_up_ne, upd_eq, upd_ne]
      · simp (disch := omega) only [mm_up_eq, mm_up_ne, upd_eq, upd_ne]
        exact ho
theorem sim_item {n : Nat} {c m : Mm} (h : Rel n c m) (x1 x2 x3 x4 : Int32) : Sim n (f_X11_item x1 x2 x3 x4 c) (f_X12_item x1 x2 x3 x4 m) := by
  unfold f_X11_item f_X12_item f_X12_isSheet
  simp only [k_isSheet, k_isLane, in_0_3, in_0_2, op_v]
  by_cases h1 : wi x1 0 3 = 0
  · simp only [if_pos h1, op_v, if_true]; exact Sim.ret rfl h.next
  simp only [if_neg h1]
  by_cases h2 : wi x2 0 2 = 0
  · simp only [if_pos h2, op_v, if_true]; exact Sim.ret rfl h.next
  simp only [if_neg h2, op_v]
  rw [if_neg (show ¬ (1 : Int32) = 0 by decide)]
  obtain ⟨s, l1, rfl⟩ := wi_nz (b := 3) (by omega) h1
  simp (disch := omega) only [og_in, nI_clamp]
  have ho := h.2.2.2.2.1 s (by omega)
  rcases ho.2 with ⟨h3, h4, h5⟩ | ⟨z, l, l2, l3, h3, h4, h5, h6⟩
  · rw [k_refusal_no h4, m_found_no (by omega) h3, op_v, op_v]
    exact Sim.ret rfl h.next
  · rw [show (1 : Int32) = nI 1 from rfl, k_refusal l2 l3 h4 h6 _ _ (by omega), m_found (by omega) l2 h3 h5 _ _ (by omega), op_v, op_v]
    by_cases h7 : nI l = x2
    rotate_left
    · simp only [if_neg h7]
      exact Sim.ret rfl h.next
    simp only [if_pos h7]
    rcases fd_01 x3 1 z with e | e
    rotate_left
    · rw [e]
      exact Sim.ret rfl h.next
    rw [e, if_pos (by decide), if_pos (by decide)]
    obtain ⟨j, rfl, l7⟩ := fd_0 l2 e
    subst h7
    unfold f_X4_put f_X4_put_c31 f_X12_item_c61
    simp (disch := omega) only [op_v, ob_v, mv_v, mw_v, mr_v, og_t, fa_lit, nI_add, pk_mul, nI_ltI, nI_leI, nI_eq, nI_clamp, og_in, pk_sub, Nat.add_zero, Nat.zero_add, Nat.reduceAdd, Nat.reduceMul, Nat.reduceSub, h6, add_143_4]
    have key : ∀ v : Int32, Sim n (some (nI 1, mm_up c (147 + s) j v)) (some (nI 1, mm_up m 6 (24 * s + j) v)) := by
      intro v
      refine Sim.ret rfl (h.sheets (fun a ha => ?_) (fun a ha => ?_) ?_)
      · simp (disch := omega) only [mm_up_eq, mm_up_ne, upd_eq, upd_ne]
      · simp (disch := omega) only [mm_up_eq, mm_up_ne, upd_eq, upd_ne]
      · intro t ht
        have ho := h.2.2.2.2.1 t ht
        simp (disch := omega) only [mm_up_eq, mm_up_ne, upd_eq, upd_ne]
        refine ⟨fun k hk => ?_, ho.2⟩
        by_cases e : t = s
        · subst e
          rw [mm_up_eq]
          by_cases e2 : k = j
          · subst e2
            rw [upd_eq, upd_eq]
          · rw [upd_ne _ _ e2, upd_ne _ _ (by omega)]
            exact ho.1 k hk
        · simp (disch := omega) only [mm_up_eq, mm_up_ne, upd_eq, upd_ne]
          exact ho.1 k hk
    rcases (show l = 0 ∨ l = 1 ∨ l = 2 by omega) with rfl | rfl | rfl
    · exact key _
    · exact key _
    · exact key _
