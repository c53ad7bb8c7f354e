def pk (f : Nat → Int32) : Nat → Bool
  | 0 => true
  | n + 1 => pk f n && decide (¬ wi (f n) 0 9 = 0)
theorem pk_false {f : Nat → Int32} {i : Nat} (h : pk f i = false) : ∀ d, pk f (i + d) = false
  | 0 => h
  | d + 1 => by
    rw [show i + (d + 1) = (i + d) + 1 from rfl]
    unfold pk
    rw [pk_false h d]
    rfl
theorem m_c14_ne {m : Mm} {r : Int32} (hr : ¬ r = 0) (x1 x3 x4 x6 : Int32) {f : Nat} (hf : 0 < f) : f_X12_barred_c14 x1 x3 x4 f r x6 m = some r := by
  obtain ⟨f, rfl⟩ := Nat.exists_eq_succ_of_ne_zero (show f ≠ 0 by omega)
  rw [f_X12_barred_c14, if_neg hr]
  split <;> rfl
theorem m_c14 {m : Mm} {s i0 n : Nat} (hs : s < 4) (hn : 24 * s + i0 + n ≤ 96) : ∀ (d i f : Nat), i + d = n → d + 1 < f → pk (fun k => m 6 (24 * s + i0 + k)) i = true → f_X12_barred_c14 (nI s) (nI i0) (nI n) f 0 (nI i) m = some (if pk (fun k => m 6 (24 * s + i0 + k)) n then 0 else -2) := by
  intro d
  induction d with
  | zero =>
    intro i f hi hf hp
    obtain ⟨f, rfl⟩ := Nat.exists_eq_succ_of_ne_zero (show f ≠ 0 by omega)
    rw [f_X12_barred_c14]
    have e : i = n := by omega
    subst e
    rw [if_pos (Int32.le_refl _), hp]
    rfl
  | succ d ih =>
    intro i f hi hf hp
    obtain ⟨f, rfl⟩ := Nat.exists_eq_succ_of_ne_zero (show f ≠ 0 by omega)
    rw [f_X12_barred_c14, if_pos rfl]
    simp (disch := omega) only [show (24 : Int32) = nI 24 from rfl, pk_mul, nI_add, nI_1, og_in, nI_clamp, op_v, mv_v, nI_leI, if_neg (show ¬ n ≤ i by omega), in_0_9]
    by_cases h1 : wi (m 6 (24 * s + i0 + i)) 0 9 = 0
    · rw [if_pos h1, m_c14_ne (by decide) _ _ _ _ (by omega)]
      have h2 : pk (fun k => m 6 (24 * s + i0 + k)) (i + 1) = false := by
        unfold pk
        rw [hp, h1]
        rfl
      rw [show n = (i + 1) + d by omega, pk_false h2 d]
      rfl
    · rw [if_neg h1]
      refine ih (i + 1) f (by omega) (by omega) ?_
      unfold pk
      rw [hp, decide_eq_true h1]
      rfl
theorem k_read_c8 {s i0 n : Nat} (hs : s < 4) (hn : i0 + n ≤ 24) (hn2 : n ≤ 12) (F : Nat → Int32) : ∀ (d i f : Nat) (g : Mm), i + d = n → d < f → (∀ k, k < n → g (147 + s) (i0 + k) = F k) → pk F i = true → (∀ k, k < i → g 141 k = F k) → ∃ g', f_X8_read_c8 140 (143 + s) (nI i0) (nI n) f (nI i) g = some (nI (b2 (pk F n)), g') ∧ (∀ a, a ≠ 141 → g' a = g a) ∧ (pk F n = true → ∀ k, k < n → g' 141 k = F k) := by
  intro d
  induction d with
  | zero =>
    intro i f g hi hf hF hp hg
    obtain ⟨f, rfl⟩ := Nat.exists_eq_succ_of_ne_zero (show f ≠ 0 by omega)
    rw [f_X8_read_c8]
    have e : i = n := by omega
    subst e
    rw [if_pos (Int32.le_refl _), hp]
    exact ⟨g, rfl, fun _ _ => rfl, fun _ => hg⟩
  | succ d ih =>
    intro i f g hi hf hF hp hg
    obtain ⟨f, rfl⟩ := Nat.exists_eq_succ_of_ne_zero (show f ≠ 0 by omega)
    rw [f_X8_read_c8]
    simp (disch := omega) only [op_v, ob_v, mv_v, mw_v, mr_v, og_t, fa_lit, nI_add, pk_mul, nI_ltI, nI_leI, nI_eq, nI_clamp, og_in, pk_sub, Nat.add_zero, Nat.zero_add, Nat.reduceAdd, Nat.reduceMul, Nat.reduceSub, mm_up_eq, mm_up_ne, upd_eq, upd_ne, if_neg (show ¬ n ≤ i by omega), isWithin_eq, add_143_4, hF i (by omega)]
    by_cases h1 : wi (F i) 0 9 = 0
    · have h2 : pk F (i + 1) = false := by
        unfold pk
        rw [hp, h1]
        rfl
      refine ⟨mm_up g 141 i (F i), ?_, fun a ha => mm_up_ne _ _ _ ha, fun q => ?_⟩
      · rw [show n = (i + 1) + d by omega, pk_false h2 d]
        exact if_pos h1
      · rw [show n = (i + 1) + d by omega, pk_false h2 d] at q
        cases q
    · have h2 : pk F (i + 1) = true := by
        unfold pk
        rw [hp, decide_eq_true h1]
        rfl
      obtain ⟨g', e1, e2, e3⟩ := ih (i + 1) f (mm_up g 141 i (F i)) (by omega) (by omega) (fun k hk => by rw [mm_up_ne _ _ _ (by omega)]; exact hF k hk) h2 (fun k hk => by
        rw [mm_up_eq]
        by_cases e : k = i
        · subst e; exact upd_eq _ _ _
        · rw [upd_ne _ _ e]; exact hg k (by omega))
      refine ⟨g', ?_, fun a ha => by rw [e2 a ha]; exact mm_up_ne _ _ _ ha, e3⟩
      rw [← e1]
      exact if_neg h1
/-- both read the prints alike -/
theorem trail_read {N : Nat} {c m : Mm} (h : Rel N c m) {s n : Nat} (hs : s ≤ 3) (h1 : ¬ wi (nI s) 0 3 = 0) {x2 : Int32} (h2 : ¬ wi x2 0 2 = 0) (x3 : Int32) (hn : n ≤ 12) (h4 : ¬ wi (nI n) 1 12 = 0) {x5 : Int32} (h5 : ¬ wi x5 0 (m 1 0 - 1) = 0) :
    (∃ r c', ¬ 0 ≤ r ∧ f_X11_readTrail (nI s) x2 x3 (nI n) x5 c = some (r, c') ∧ f_X12_barred (nI s) x2 x3 (nI n) m = some r ∧ ∀ a, a ≠ 140 → a ≠ 141 → c' a = c a) ∨
    ∃ c' i0, x3 = nI i0 ∧ 24 * s + i0 + n ≤ 96 ∧ f_X11_readTrail (nI s) x2 x3 (nI n) x5 c = some (0, c') ∧ f_X12_barred (nI s) x2 x3 (nI n) m = some 0 ∧ (∀ a, a ≠ 140 → a ≠ 141 → c' a = c a) ∧ c' 140 1 = nI n ∧ ∀ k, k < n → c' 141 k = m 6 (24 * s + i0 + k) := by
  have hW := h.1
  have ho := h.2.2.2.2.1 s (by omega)
  unfold f_X11_readTrail f_X12_barred
  simp only [k_isSheet, k_isLane, isWithin_eq, k_isPerson hW, op_v, if_neg h1, if_neg h2, if_neg h4, if_neg h5]
  simp (disch := omega) only [og_in, nI_clamp]
  rcases ho.2 with ⟨e3, e4, e5⟩ | ⟨z, l, l2, l3, e3, e4, e5, e6⟩
  · refine Or.inl ⟨-11, c, by decide, ?_, ?_, fun _ _ _ => rfl⟩
    · rw [k_refusal_no e4, op_v]
      rfl
    · rw [m_found_no (by omega) e3, op_v, m_c14_ne (by decide) _ _ _ _ (fu_lt (by omega))]
  · rw [k_refusal l2 l3 e4 e6 _ _ (by omega), m_found (by omega) l2 e3 e5 _ _ (by omega), op_v, op_v]
    by_cases h7 : nI l = x2
    rotate_left
    · refine Or.inl ⟨-12, c, by decide, ?_, ?_, fun _ _ _ => rfl⟩
      · rw [if_neg h7]
        rfl
      · rw [if_neg h7, m_c14_ne (by decide) _ _ _ _ (fu_lt (by omega))]
    rw [if_pos h7]
    rcases fd_01 x3 n z with e | e
    rotate_left
    · refine Or.inl ⟨-13, c, by decide, ?_, ?_, fun _ _ _ => rfl⟩
      · rw [e]
        rfl
      · rw [e, m_c14_ne (by decide) _ _ _ _ (fu_lt (by omega))]
    rw [e, if_pos (by decide)]
    obtain ⟨i0, rfl, l7⟩ := fd_0 l2 e
    rw [show f_X12_barred_c14 (nI s) (nI i0) (nI n) FU 0 0 m = _ from m_c14 (s := s) (i0 := i0) (n := n) (by omega) (by omega) n 0 FU (by omega) (fu_lt (by omega)) rfl]
    obtain ⟨g', q1, q2, q3⟩ := k_read_c8 (s := s) (i0 := i0) (n := n) (by omega) (by omega) hn (fun k => m 6 (24 * s + i0 + k)) n 0 FU (mm_up c 140 1 (nI n)) (by omega) (fu_lt (by omega)) (fun k hk => by
      rw [mm_up_ne _ _ _ (by omega)]
      have := ho.1 (i0 + k) (by omega)
      rw [← Nat.add_assoc] at this
      exact this) rfl (fun k hk => by omega)
    unfold f_X8_read
    rw [mw_v, show (0 : Int32) = nI 0 from rfl, q1, ob_v]
    have hfr : ∀ a, a ≠ 140 → a ≠ 141 → g' a = c a := fun a h1 h2 => by rw [q2 a h2]; exact mm_up_ne _ _ _ h1
    cases hp : pk (fun k => m 6 (24 * s + i0 + k)) n with
    | false =>
      refine Or.inl ⟨-2, g', by decide, ?_, rfl, hfr⟩
      rfl
    | true =>
      refine Or.inr ⟨g', i0, rfl, by omega, rfl, rfl, hfr, ?_, q3 hp⟩
      rw [q2 140 (by omega), mm_up_eq, upd_eq]
theorem sim_prints {n : Nat} {c m : Mm} (h : Rel n c m) (x1 x2 x3 x4 x5 x6 : Int32) : SimC n (f_X11_prints x1 x2 x3 x4 x5 x6 c) (f_X12_prints x1 x2 x3 x4 x5 x6 m) m := by
  have hW := h.1
  have hF := h.2.1
  have bad : ∀ (Y : Option Int32), Y = some (-1) → (f_X11_prints x1 x2 x3 x4 x5 x6 c = some (-1, c)) → SimC n (f_X11_prints x1 x2 x3 x4 x5 x6 c) Y m := fun Y e1 e2 => ⟨-1, c, e2, e1, h.next⟩
  unfold f_X12_prints f_X12_isSheet
  simp only [in_0_3, in_0_2, in_1_12, in_0_1, m_isPerson, op_v]
  by_cases h1 : wi x1 0 3 = 0
  · refine bad _ (by simp only [if_pos h1, op_v, if_true]) ?_
    unfold f_X11_prints f_X11_readTrail
    simp only [isWithin_eq, k_isSheet, op_v, if_pos h1, ob_v]
    split <;> rfl
  by_cases h2 : wi x2 0 2 = 0
  · refine bad _ (by simp only [if_neg h1, if_pos h2, op_v, if_true]) ?_
    unfold f_X11_prints f_X11_readTrail
    simp only [isWithin_eq, k_isSheet, k_isLane, op_v, if_neg h1, if_pos h2, ob_v]
    split <;> rfl
  simp only [if_neg h1, if_neg h2, op_v]
  rw [if_neg (show ¬ (1 : Int32) = 0 by decide)]
  by_cases h4 : wi x4 1 12 = 0
  · refine bad _ (by simp only [if_pos h4]) ?_
    unfold f_X11_prints f_X11_readTrail
    simp only [isWithin_eq, k_isSheet, k_isLane, op_v, if_neg h1, if_neg h2, if_pos h4, ob_v]
    split <;> rfl
  rw [if_neg h4]
  by_cases h5 : wi x5 0 (m 1 0 - 1) = 0
  · refine bad _ (by simp only [if_pos h5]) ?_
    unfold f_X11_prints f_X11_readTrail
    simp only [isWithin_eq, k_isSheet, k_isLane, k_isPerson hW, op_v, if_neg h1, if_neg h2, if_neg h4, if_pos h5, ob_v]
    split <;> rfl
  rw [if_neg h5]
  by_cases h6 : wi x6 0 1 = 0
  · refine bad _ (by simp only [if_pos h6]) ?_
    unfold f_X11_prints
    simp only [isWithin_eq, op_v, if_pos h6]
  rw [if_neg h6]
  unfold f_X11_prints
  rw [isWithin_eq, op_v, if_neg h6]
  obtain ⟨s, l1, rfl⟩ := wi_nz (b := 3) (by omega) h1
  obtain ⟨q, -, l4, rfl⟩ := wi_1 (b := 12) (by omega) h4
  obtain ⟨np, l0, e0⟩ := wf_np hF
  obtain ⟨ns, l8, e8⟩ := wf_ns hF
  obtain ⟨j, l5, rfl⟩ := wi_pr (n := np) (by omega) (by rw [e0] at h5; exact h5)
  rcases trail_read h l1 h1 h2 x3 l4 h4 h5 with ⟨r, c', r1, r2, r3, r4⟩ | ⟨c', i0, rfl, r0, r2, r3, r4, r5, r6⟩
  · rw [r2, r3, ob_v, op_v, if_neg r1, if_neg r1]
    exact SimC.ret rfl (h.trail r4)
  · rw [r2, r3, ob_v, op_v]
    simp only [if_pos (show (0 : Int32) ≤ 0 by decide)]
    have hW' : WR c' 1 (m 1) := hW.kept' (fun a _ h2 => r4 a (by omega) (by omega))
    have e24 : (24 : Int32) * nI s + nI i0 = nI (24 * s + i0) := by
      rw [show (24 : Int32) = nI 24 from rfl, pk_mul, nI_add]
    rw [e24, k_waysOf hW' l8 e8 l4 r5 (by omega), k_waysOfAll hW' l0 e0 l8 e8 l4 r5, m_waysOf hF r0 l8 e8 (by omega), m_waysOfAll hF r0 l0 e0 l8 e8, op_v, op_v, op_v, op_v]
    have ec : ∀ j, ways (m 1) (c' 141) q ns j = ways (m 1) (fun k => m 6 (24 * s + i0 + k)) q ns j := fun j => ways_congr r6 ns j
    rw [ec j, sumN_congr np (fun k _ => ec k)]
    split
    · exact SimC.ret rfl (h.trail r4)
    · exact SimC.ret rfl (h.trail r4)
