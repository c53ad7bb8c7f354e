/-- the model's scratch for the book is not told of -/
theorem Rel.mscr {n : Nat} {c m m' : Mm} (h : Rel n c m) (hm : ∀ a, 1 ≤ a → a < 7 ∨ 9 ≤ a ∧ a < 16 → m' a = m a) (h2 : m' 0 2 = m 0 2) (h4 : m' 0 4 = m 0 4) : Rel (n + 1) c m' :=
  ⟨by rw [hm 1 (by omega) (by omega)]; exact h.1, by rw [hm 1 (by omega) (by omega)]; exact h.2.1, h.2.2.1.kept rfl h2 (hm 2 (by omega) (by omega)) (fun _ _ _ => rfl), h.2.2.2.1.kept h4 rfl rfl (hm 3 (by omega) (by omega)), h.2.2.2.2.1.kept (fun _ _ _ => rfl) (hm 4 (by omega) (by omega)) (hm 5 (by omega) (by omega)) (hm 6 (by omega) (by omega)), h.2.2.2.2.2.mono (by omega) rfl rfl (fun _ _ _ => rfl) (fun a _ _ => hm a (by omega) (by omega))⟩
/-- miles of shoe x in the first t rows; I: the items from the first row on -/
def bkS (I : Nat → Int32) (x : Nat) : Nat → Nat
  | 0 => 0
  | t + 1 => bkS I x t + (if I (2 * t) = nI x then (I (2 * t + 1)).toNatClampNeg else 0)
/-- a row's shoe and miles are such -/
def bkR (I : Nat → Int32) (ns k : Nat) : Prop := ∃ x v, x < ns ∧ 1 ≤ v ∧ v ≤ 99 ∧ I (2 * k) = nI x ∧ I (2 * k + 1) = nI v
theorem bkS_le {I : Nat → Int32} {ns x : Nat} : ∀ t, (∀ k, k < t → bkR I ns k) → bkS I x t ≤ t * 99
  | 0, _ => Nat.zero_le _
  | t + 1, h => by
    have h1 := bkS_le (x := x) t (fun k hk => h k (by omega))
    obtain ⟨y, v, -, -, h2, -, h3⟩ := h t (by omega)
    unfold bkS
    rw [h3, nI_clamp (by omega)]
    split <;> omega
theorem k_canBe_c50 {c : Mm} {N I : Nat → Int32} (hW : WR c 1 N) (hF : WF N) {s i0 n ns : Nat} (hn : i0 + 2 * n ≤ 24) (hns : ns ≤ 16) (hI : ∀ k, k < 2 * n → c (147 + s) (i0 + k) = I k) {x t : Nat} (hx : x < ns) (ht : t < n) (hR : ∀ k, k < t + 1 → bkR I ns k) : ∀ (d k f : Nat), k + d = t + 1 → d < f → f_X10_canBe_c50 1 (143 + s) (nI i0) (nI t) f (nI x) (nI (bkS I x k)) (nI k) c = some (if bkS I x (t + 1) ≤ (N (63 + x)).toNatClampNeg then 1 else 0) := by
  obtain ⟨sl, hsl, esl⟩ := wf_soles hF (show x < 16 by omega)
  intro d
  induction d with
  | zero =>
    intro k f hi hf
    obtain ⟨f, rfl⟩ := Nat.exists_eq_succ_of_ne_zero (show f ≠ 0 by omega)
    have e : k = t + 1 := by omega
    subst e
    have hb := bkS_le (x := x) (t + 1) hR
    rw [f_X10_canBe_c50]
    simp (disch := omega) only [nI_ltI, if_pos (show t < t + 1 by omega), og_in, nI_clamp, Nat.reduceAdd, wr_soles hW, esl]
    by_cases h1 : bkS I x (t + 1) ≤ sl
    · rw [if_pos h1, if_neg (by omega)]
    · rw [if_neg h1, if_pos (by omega)]
  | succ d ih =>
    intro k f hi hf
    obtain ⟨f, rfl⟩ := Nat.exists_eq_succ_of_ne_zero (show f ≠ 0 by omega)
    obtain ⟨y, v, q1, q2, q3, q4, q5⟩ := hR k (by omega)
    rw [f_X10_canBe_c50]
    have hI1 : c (147 + s) (i0 + 2 * k) = I (2 * k) := hI (2 * k) (by omega)
    have hI2 : c (147 + s) (i0 + 2 * k + 1) = I (2 * k + 1) := hI (2 * k + 1) (by omega)
    simp (disch := omega) only [show (2 : Int32) = nI 2 from rfl, pk_mul, nI_add, nI_1, nI_ltI, if_neg (show ¬ t < k by omega), og_in, nI_clamp, add_143_4, mv_v, hI1, hI2, q4, q5]
    have ih := ih (k + 1) f (by omega) (by omega)
    rw [← ih]
    have eS : bkS I x (k + 1) = bkS I x k + (if nI y = nI x then v else 0) := by
      show bkS I x k + _ = _
      rw [q4, q5, nI_clamp (by omega)]
    rw [eS]
    by_cases h1 : nI y = nI x
    · rw [if_pos h1, if_pos h1]
    · rw [if_neg h1, if_neg h1]
      rfl
/-- how the book is judged from row t on: the first row that can't be -/
theorem book_both {N0 : Nat} {c m : Mm} (h : Rel N0 c m) {s i0 n ns : Nat} {I : Nat → Int32} (hs : s < 4) (hn : i0 + 2 * n ≤ 24) (hn2 : n ≤ 12) (ens : m 1 1 = nI ns) (hns : ns ≤ 16) (hIc : ∀ k, k < 2 * n → c (147 + s) (i0 + k) = I k) (hIm : ∀ k, k < 2 * n → m 6 (24 * s + i0 + k) = I k) : ∀ (d t f f' : Nat) (g : Mm), t + d = n → d < f → d < f' → (∀ k, k < t → bkR I ns k) → (∀ x, x < ns → bkS I x t ≤ (m 1 (63 + x)).toNatClampNeg ∧ g 19 x = nI ((m 1 (63 + x)).toNatClampNeg - bkS I x t)) → (∀ a, a ≠ 19 → g a = m a) →
    ∃ r g', f_X11_book_c55 (nI s) (nI i0) (nI n) f (nI t) c = some r ∧ f_X12_book_c80 (nI s) (nI i0) (nI n) f' (nI t) g = some (r, g') ∧ ∀ a, a ≠ 19 → g' a = m a := by
  have hW := h.1
  have hF := h.2.1
  intro d
  induction d with
  | zero =>
    intro t f f' g hi hf hf' _ _ hg
    obtain ⟨f, rfl⟩ := Nat.exists_eq_succ_of_ne_zero (show f ≠ 0 by omega)
    obtain ⟨f', rfl⟩ := Nat.exists_eq_succ_of_ne_zero (show f' ≠ 0 by omega)
    have e : t = n := by omega
    subst e
    refine ⟨-4, g, ?_, ?_, hg⟩
    · rw [f_X11_book_c55]
      exact if_pos (Int32.le_refl _)
    · rw [f_X12_book_c80]
      exact if_pos (Int32.le_refl _)
  | succ d ih =>
    intro t f f' g hi hf hf' hR hS hg
    obtain ⟨f, rfl⟩ := Nat.exists_eq_succ_of_ne_zero (show f ≠ 0 by omega)
    obtain ⟨f', rfl⟩ := Nat.exists_eq_succ_of_ne_zero (show f' ≠ 0 by omega)
    rw [f_X11_book_c55, f_X12_book_c80]
    unfold f_X10_canBe
    have hW1 : g 1 = m 1 := hg 1 (by omega)
    have hW6 : g 6 = m 6 := hg 6 (by omega)
    have c1 : c (147 + s) (i0 + 2 * t) = I (2 * t) := hIc (2 * t) (by omega)
    have c2 : c (147 + s) (i0 + 2 * t + 1) = I (2 * t + 1) := hIc (2 * t + 1) (by omega)
    have m1 : m 6 (24 * s + i0 + 2 * t) = I (2 * t) := hIm (2 * t) (by omega)
    have m2 : m 6 (24 * s + i0 + 2 * t + 1) = I (2 * t + 1) := hIm (2 * t + 1) (by omega)
    simp (disch := omega) only [show (2 : Int32) = nI 2 from rfl, show (24 : Int32) = nI 24 from rfl, pk_mul, nI_add, nI_1, nI_leI, if_neg (show ¬ n ≤ t by omega), og_in, nI_clamp, add_143_4, mv_v, c1, c2, m1, m2, hW6]
    simp only [k_isShoe hW, m_isShoe, hW1, isWithin_eq, in_1_99, op_v, ens]
    by_cases h1 : wi (I (2 * t)) 0 (nI ns - 1) = 0
    · refine ⟨nI t, g, ?_, ?_, hg⟩
      · simp only [if_pos h1, op_v, if_true]
      · simp only [if_pos h1]
    simp only [if_neg h1]
    by_cases h2 : wi (I (2 * t + 1)) 1 99 = 0
    · refine ⟨nI t, g, ?_, ?_, hg⟩
      · simp only [if_pos h2, op_v, if_true]
      · simp only [if_pos h2]
    simp only [if_neg h2]
    obtain ⟨x, hx, ex⟩ := wi_pr (by omega) h1
    obtain ⟨v, v1, v2, ev⟩ := wi_1 (b := 99) (by omega) h2
    have hR' : ∀ k, k < t + 1 → bkR I ns k := fun k hk => by
      by_cases e : k = t
      · subst e
        exact ⟨x, v, hx, v1, v2, ex, ev⟩
      · exact hR k (by omega)
    rw [ex, ev]
    rw [show f_X10_canBe_c50 1 (143 + s) (nI i0) (nI t) FU (nI x) 0 0 c = _ from k_canBe_c50 hW hF hn hns hIc hx (by omega) hR' (t + 1) 0 FU (by omega) (fu_lt (by omega)), op_v]
    obtain ⟨sl, hsl, esl⟩ := wf_soles hF (show x < 16 by omega)
    obtain ⟨S1, S2⟩ := hS x hx
    have eS : bkS I x (t + 1) = bkS I x t + v := by
      show bkS I x t + _ = _
      rw [if_pos ex, ev, nI_clamp (by omega)]
    rw [esl, nI_clamp (by omega)] at S1 S2 ⊢
    simp (disch := omega) only [og_in, nI_clamp, S2, nI_leI, pk_sub]
    by_cases h3 : bkS I x (t + 1) ≤ sl
    rotate_left
    · refine ⟨nI t, g, ?_, ?_, hg⟩
      · rw [if_neg h3]
        rfl
      · rw [if_neg (show ¬ v ≤ sl - bkS I x t by omega)]
    rw [if_pos h3, if_neg (show ¬ (1 : Int32) = 0 by decide), if_pos (show v ≤ sl - bkS I x t by omega), mw_v]
    refine ih (t + 1) f f' _ (by omega) (by omega) (by omega) hR' (fun y hy => ?_) (fun a ha => by rw [mm_up_ne _ _ _ ha]; exact hg a ha)
    obtain ⟨T1, T2⟩ := hS y hy
    rw [mm_up_eq]
    by_cases e : y = x
    · subst e
      rw [esl, nI_clamp (by omega), upd_eq, eS]
      exact ⟨by omega, by rw [Nat.sub_sub]⟩
    · rw [upd_ne _ _ e]
      have e2 : bkS I y (t + 1) = bkS I y t := by
        show bkS I y t + _ = _
        rw [if_neg (by rw [ex]; intro q; exact e ((nI_eq (by omega) (by omega)).mp q).symm)]
        rfl
      rw [e2]
      exact ⟨T1, T2⟩
theorem m_book_c47 {m : Mm} (hF : WF (m 1)) (x1 x3 x4 : Int32) : ∀ (d x f : Nat) (g : Mm), x + d = 16 → d < f → (∀ a, a ≠ 19 → g a = m a) → (∀ k, k < x → g 19 k = m 1 (63 + k)) → ∃ g2, f_X12_book_c47 x1 x3 x4 f (nI x) g = f_X12_book_c80 x1 x3 x4 FU 0 g2 ∧ (∀ a, a ≠ 19 → g2 a = m a) ∧ ∀ k, k < 16 → g2 19 k = m 1 (63 + k) := by
  intro d
  induction d with
  | zero =>
    intro x f g hi hf hg hl
    obtain ⟨f, rfl⟩ := Nat.exists_eq_succ_of_ne_zero (show f ≠ 0 by omega)
    have e : x = 16 := by omega
    subst e
    rw [f_X12_book_c47, if_pos (by decide)]
    exact ⟨g, rfl, hg, hl⟩
  | succ d ih =>
    intro x f g hi hf hg hl
    obtain ⟨f, rfl⟩ := Nat.exists_eq_succ_of_ne_zero (show f ≠ 0 by omega)
    rw [f_X12_book_c47]
    simp (disch := omega) only [op_v, ob_v, mv_v, mw_v, mr_v, og_t, fa_lit, nI_add, pk_mul, nI_ltI, nI_leI, nI_eq, nI_clamp, og_in, pk_sub, Nat.add_zero, Nat.zero_add, Nat.reduceAdd, Nat.reduceMul, Nat.reduceSub, if_neg (show ¬ 16 ≤ x by omega)]
    refine ih (x + 1) f _ (by omega) (by omega) (fun a ha => by rw [mm_up_ne _ _ _ ha]; exact hg a ha) (fun k hk => ?_)
    rw [mm_up_eq]
    by_cases e : k = x
    · subst e
      rw [upd_eq, hg 1 (by omega)]
    · rw [upd_ne _ _ e]
      exact hl k (by omega)
theorem sim_book {n : Nat} {c m : Mm} (h : Rel n c m) (x1 x2 x3 x4 : Int32) : SimM n (f_X11_book x1 x2 x3 x4 c) (f_X12_book x1 x2 x3 x4 m) c := by
  have hW := h.1
  have hF := h.2.1
  unfold f_X11_book f_X12_book f_X12_isSheet
  simp only [k_isSheet, k_isLane, isWithin_eq, in_0_3, in_0_2, in_1_12, op_v]
  by_cases h1 : wi x1 0 3 = 0
  · simp only [if_pos h1, op_v, if_true]; exact SimM.ret rfl h.next
  simp only [if_neg h1]
  by_cases h2 : wi x2 0 2 = 0
  · simp only [if_pos h2, op_v, if_true]; exact SimM.ret rfl h.next
  simp only [if_neg h2, op_v]
  rw [if_neg (show ¬ (1 : Int32) = 0 by decide)]
  by_cases h4 : wi x4 1 12 = 0
  · simp only [if_pos h4]; exact SimM.ret rfl h.next
  rw [if_neg h4, if_neg h4]
  obtain ⟨s, l1, rfl⟩ := wi_nz (b := 3) (by omega) h1
  obtain ⟨q, q1, q2, rfl⟩ := wi_1 (b := 12) (by omega) h4
  simp (disch := omega) only [og_in, nI_clamp, show (2 : Int32) = nI 2 from rfl, pk_mul]
  have ho := h.2.2.2.2.1 s (by omega)
  rcases ho.2 with ⟨h3, h4, h5⟩ | ⟨z, l, l2, l3, h3, h4, h5, h6⟩
  · rw [k_refusal_no h4, m_found_no (by omega) h3, op_v, op_v]
    exact SimM.ret rfl h.next
  rw [k_refusal l2 l3 h4 h6 _ _ (by omega), m_found (by omega) l2 h3 h5 _ _ (by omega), op_v, op_v]
  by_cases h7 : nI l = x2
  rotate_left
  · simp only [if_neg h7]
    exact SimM.ret rfl h.next
  simp only [if_pos h7]
  rcases fd_01 x3 (2 * q) z with e | e
  rotate_left
  · rw [e]
    exact SimM.ret rfl h.next
  rw [e, if_pos (by decide), if_pos (by decide)]
  obtain ⟨i0, rfl, l7⟩ := fd_0 l2 e
  obtain ⟨ns, l8, e8⟩ := wf_ns hF
  obtain ⟨g2, b1, b2, b3⟩ := m_book_c47 hF (nI s) (nI i0) (nI q) 16 0 FU m (by omega) (fu_lt (by omega)) (fun _ _ => rfl) (fun k hk => by omega)
  rw [show f_X12_book_c47 (nI s) (nI i0) (nI q) FU 0 m = _ from b1]
  obtain ⟨r, g', r1, r2, r3⟩ := book_both h (s := s) (i0 := i0) (n := q) (ns := ns) (I := fun k => m 6 (24 * s + i0 + k)) (by omega) (by omega) q2 e8 l8 (fun k hk => by
    have := ho.1 (i0 + k) (by omega)
    rw [← Nat.add_assoc] at this
    exact this) (fun _ _ => rfl) q 0 FU FU g2 (by omega) (fu_lt (by omega)) (fu_lt (by omega)) (fun k hk => by omega) (fun x hx => by
      obtain ⟨sl, hsl, esl⟩ := wf_soles hF (show x < 16 by omega)
      rw [b3 x (by omega), esl, nI_clamp (by omega)]
      exact ⟨Nat.zero_le _, rfl⟩) b2
  refine ⟨r, g', r1, r2, h.mscr (fun a _ _ => r3 a (by omega)) (by rw [r3 0 (by omega)]) (by rw [r3 0 (by omega)])⟩
