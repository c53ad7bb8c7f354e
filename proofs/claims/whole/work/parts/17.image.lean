theorem cp0_lt {f g : Nat → Int32} {n k : Nat} (h : k < n) : va_cpy f g 0 0 n k = f k := by
  unfold va_cpy
  rw [if_pos (by omega)]
  congr 1
  omega
theorem k_become5 {g : Mm} {a b : Nat} (h : a ≠ b) (h4 : mm_01 (g b 4) = true) : ∃ g', f_X5_become a b g = some g' ∧ (∀ s, s < 5 → g' a s = g b s) ∧ ∀ x, x ≠ a → g' x = g x := by
  unfold f_X5_become
  simp (disch := omega) only [mw_v, mm_up_ne, mm_up_eq, h4, og_t]
  refine ⟨_, rfl, fun s hs => ?_, fun x hx => ?_⟩
  · rcases (show s = 0 ∨ s = 1 ∨ s = 2 ∨ s = 3 ∨ s = 4 by omega) with rfl | rfl | rfl | rfl | rfl <;> simp (disch := omega) only [mm_up_ne, mm_up_eq, upd_eq, upd_ne]
  · simp (disch := omega) only [mm_up_ne]
theorem k_become7 {g : Mm} {a b : Nat} (h : a + 2 ≤ b ∨ b + 2 ≤ a) : ∃ g', f_X7_become a b g = some g' ∧ (∀ s, s < 4 → g' (a + 1) s = g (b + 1) s) ∧ g' a 1 = g b 1 ∧ g' a 2 = g b 2 ∧ ∀ x, x ≠ a → x ≠ a + 1 → g' x = g x := by
  unfold f_X7_become
  simp only [mw_v, mr_v, show (0 : Int32).toNatClampNeg = 0 from rfl, show (4 : Int32).toNatClampNeg = 4 from rfl]
  refine ⟨_, rfl, fun s hs => ?_, ?_, ?_, fun x hx hx1 => ?_⟩
  · simp (disch := omega) only [mm_up_ne, mm_row_at, cp0_lt hs]
  · simp (disch := omega) only [mm_up_ne, mm_up_eq, upd_eq, upd_ne, mm_row_ne]
  · simp (disch := omega) only [mm_up_ne, mm_up_eq, upd_eq, upd_ne, mm_row_ne]
  · simp (disch := omega) only [mm_up_ne, mm_row_ne]
theorem k_become3 {g : Mm} {a b : Nat} (h : a + 3 ≤ b ∨ b + 3 ≤ a) : ∃ g', f_X3_become a b g = some g' ∧ (∀ s, s < 9 → g' (a + 1) s = g (b + 1) s) ∧ (∀ s, s < 9 → g' (a + 2) s = g (b + 2) s) ∧ ∀ x, x ≠ a + 1 → x ≠ a + 2 → g' x = g x := by
  unfold f_X3_become
  simp only [mr_v, show (0 : Int32).toNatClampNeg = 0 from rfl, show (9 : Int32).toNatClampNeg = 9 from rfl]
  refine ⟨_, rfl, fun s hs => ?_, fun s hs => ?_, fun x hx hx1 => ?_⟩
  · simp (disch := omega) only [mm_row_ne, mm_row_at, cp0_lt hs]
  · simp (disch := omega) only [mm_row_ne, mm_row_at, cp0_lt hs]
  · simp (disch := omega) only [mm_row_ne]
theorem k_become1 {g : Mm} {a b : Nat} (h : a + 4 ≤ b ∨ b + 4 ≤ a) : ∃ g', f_X1_become a b g = some g' ∧ (∀ s, s < 6 → g' (a + 1) s = g (b + 1) s) ∧ (∀ s, s < 6 → g' (a + 2) s = g (b + 2) s) ∧ g' a 2 = g b 2 ∧ ∀ x, x ≠ a → x ≠ a + 1 → x ≠ a + 2 → g' x = g x := by
  unfold f_X1_become
  simp only [mr_v, mw_v, show (0 : Int32).toNatClampNeg = 0 from rfl, show (6 : Int32).toNatClampNeg = 6 from rfl]
  refine ⟨_, rfl, fun s hs => ?_, fun s hs => ?_, ?_, fun x hx hx1 hx2 => ?_⟩
  · simp (disch := omega) only [mm_up_ne, mm_row_ne, mm_row_at, cp0_lt hs]
  · simp (disch := omega) only [mm_up_ne, mm_row_ne, mm_row_at, cp0_lt hs]
  · simp (disch := omega) only [mm_up_ne, mm_up_eq, upd_eq, mm_row_ne]
  · simp (disch := omega) only [mm_up_ne, mm_row_ne]
theorem k_become2_c2 {a b : Nat} (h : a + 12 ≤ b ∨ b + 12 ≤ a) : ∀ (d i f : Nat) (g g0 : Mm), i + d = 8 → d < f → (∀ k, k < i → ∀ s, s < 8 → g (a + 2 + k) s = g0 (b + 2 + k) s) → (∀ x, (x < a + 2 ∨ a + 10 ≤ x) → g x = g0 x) → ∃ g', f_X2_become_c2 a b f (nI i) g = some g' ∧ (∀ k, k < 8 → ∀ s, s < 8 → g' (a + 2 + k) s = g0 (b + 2 + k) s) ∧ ∀ x, (x < a + 2 ∨ a + 10 ≤ x) → g' x = g0 x := by
  intro d
  induction d with
  | zero =>
    intro i f g g0 hi hf h1 h2
    obtain ⟨f, rfl⟩ := Nat.exists_eq_succ_of_ne_zero (show f ≠ 0 by omega)
    have e : i = 8 := by omega
    subst e
    rw [f_X2_become_c2, if_pos (by decide)]
    exact ⟨g, rfl, h1, h2⟩
  | succ d ih =>
    intro i f g g0 hi hf h1 h2
    obtain ⟨f, rfl⟩ := Nat.exists_eq_succ_of_ne_zero (show f ≠ 0 by omega)
    rw [f_X2_become_c2, if_neg (show ¬ (8 : Int32) ≤ nI i from nI_ge (b := 8) (a := i) (by omega) (by omega)), og_in _ (by omega) (by omega), og_in _ (by omega) (by omega), mr_v, mv_v, nI_1, nI_clamp (by omega)]
    refine ih (i + 1) f _ g0 (by omega) (by omega) (fun k hk s hs => ?_) (fun x hx => ?_)
    · by_cases e : k = i
      · subst e
        rw [mm_row_at, show (0 : Int32).toNatClampNeg = 0 from rfl, show (8 : Int32).toNatClampNeg = 8 from rfl, cp0_lt hs, h2 _ (by omega)]
      · rw [mm_row_ne _ _ (by omega)]
        exact h1 k (by omega) s hs
    · rw [mm_row_ne _ _ (by omega)]
      exact h2 x hx
theorem w_all0 : ((List.range 193).all fun j => decide ((wP j = 0 ∧ (wL j = 0 ∨ wL j = 3)) ∨ ((wP j = 1 ∨ wP j = 2) ∧ wL j < 5) ∨ (4 ≤ wP j ∧ wP j < 20 ∧ wL j < 5) ∨ (wP j = 20 ∧ (wL j = 1 ∨ wL j = 2)) ∨ (wP j = 21 ∧ wL j < 4) ∨ ((wP j = 23 ∨ wP j = 24) ∧ wL j < 9) ∨ (27 ≤ wP j ∧ wP j < 35 ∧ wL j < 8) ∨ (wP j = 37 ∧ wL j = 2) ∨ ((wP j = 38 ∨ wP j = 39) ∧ wL j < 6))) = true := by decide +kernel
/-- after World.become: the world at p is that at q -/
theorem k_become10_end {p q : Nat} (h : p + 41 ≤ q ∨ q + 41 ≤ p) : ∀ (d i f : Nat) (g g0 : Mm), i + d = 16 → d < f → (∀ k, k < 16 → mm_01 (g0 (q + 4 + k) 4) = true) → g p 0 = g0 q 0 → g p 3 = g0 q 3 → (∀ s, s < 5 → g (p + 1) s = g0 (q + 1) s) → (∀ s, s < 5 → g (p + 2) s = g0 (q + 2) s) → (∀ k, k < i → ∀ s, s < 5 → g (p + 4 + k) s = g0 (q + 4 + k) s) → (∀ x, (x < p ∨ p + 41 ≤ x) → g x = g0 x) →
    ∃ g', f_X10_become_c46 p q f (nI i) g = some g' ∧ (∀ j, j < 193 → g' (p + wP j) (wL j) = g0 (q + wP j) (wL j)) ∧ ∀ x, (x < p ∨ p + 41 ≤ x) → g' x = g0 x := by
  intro d
  induction d with
  | zero =>
    intro i f g g0 hi hf h01 a1 a2 a3 a4 a5 a6
    obtain ⟨f, rfl⟩ := Nat.exists_eq_succ_of_ne_zero (show f ≠ 0 by omega)
    have e : i = 16 := by omega
    subst e
    rw [f_X10_become_c46, if_pos (by decide)]
    obtain ⟨g1, b1, b2, b3, b4, b5⟩ := k_become7 (g := g) (a := p + 20) (b := q + 20) (by omega)
    obtain ⟨g2, c1, c2, c3, c4⟩ := k_become3 (g := g1) (a := p + 22) (b := q + 22) (by omega)
    obtain ⟨g3, d1, d2, d3⟩ := k_become2_c2 (a := p + 25) (b := q + 25) (by omega) 8 0 FU g2 g2 (by omega) (fu_lt (by omega)) (fun k hk => by omega) (fun _ _ => rfl)
    obtain ⟨g4, e1, e2, e3, e4, e5⟩ := k_become1 (g := g3) (a := p + 37) (b := q + 37) (by omega)
    have d1' : f_X2_become (p + 25) (q + 25) g2 = some g3 := d1
    rw [b1, op_v, c1, op_v, d1', op_v, e1, op_v]
    have src : ∀ x, (x < p ∨ p + 41 ≤ x) → g4 x = g0 x := fun x hx => by
      rw [e5 x (by omega) (by omega) (by omega), d3 x (by omega), c4 x (by omega) (by omega), b5 x (by omega) (by omega)]
      exact a6 x hx
    refine ⟨g4, rfl, fun j hj => ?_, src⟩
    have hw := of_decide_eq_true (List.all_eq_true.mp w_all0 j (List.mem_range.mpr hj))
    generalize wP j = P at hw ⊢
    generalize wL j = S at hw ⊢
    rcases hw with ⟨rfl, hw⟩ | ⟨hw, hs⟩ | ⟨h1, h2, hs⟩ | ⟨rfl, hs⟩ | ⟨rfl, hs⟩ | ⟨hw, hs⟩ | ⟨h1, h2, hs⟩ | ⟨rfl, rfl⟩ | ⟨hw, hs⟩
    · rw [e5 _ (by omega) (by omega) (by omega), d3 _ (by omega), c4 _ (by omega) (by omega), b5 _ (by omega) (by omega)]
      rcases hw with rfl | rfl
      · exact a1
      · exact a2
    · rw [e5 _ (by omega) (by omega) (by omega), d3 _ (by omega), c4 _ (by omega) (by omega), b5 _ (by omega) (by omega)]
      rcases hw with rfl | rfl
      · exact a3 S hs
      · exact a4 S hs
    · rw [e5 _ (by omega) (by omega) (by omega), d3 _ (by omega), c4 _ (by omega) (by omega), b5 _ (by omega) (by omega)]
      obtain ⟨k, rfl⟩ := Nat.exists_eq_add_of_le h1
      have := a5 k (by omega) S hs
      rw [Nat.add_assoc, Nat.add_assoc] at this
      exact this
    · rw [e5 _ (by omega) (by omega) (by omega), d3 _ (by omega), c4 _ (by omega) (by omega)]
      rcases hs with rfl | rfl
      · rw [b3, a6 _ (by omega)]
      · rw [b4, a6 _ (by omega)]
    · rw [e5 _ (by omega) (by omega) (by omega), d3 _ (by omega), c4 _ (by omega) (by omega)]
      have := b2 S hs
      rw [a6 (q + 20 + 1) (by omega)] at this
      exact this
    · rw [e5 _ (by omega) (by omega) (by omega), d3 _ (by omega)]
      rcases hw with rfl | rfl
      · have := c2 S hs
        rw [b5 (q + 22 + 1) (by omega) (by omega), a6 (q + 22 + 1) (by omega)] at this
        exact this
      · have := c3 S hs
        rw [b5 (q + 22 + 2) (by omega) (by omega), a6 (q + 22 + 2) (by omega)] at this
        exact this
    · rw [e5 _ (by omega) (by omega) (by omega)]
      obtain ⟨k, rfl⟩ := Nat.exists_eq_add_of_le h1
      have := d2 k (by omega) S hs
      rw [c4 (q + 25 + 2 + k) (by omega) (by omega), b5 (q + 25 + 2 + k) (by omega) (by omega), a6 (q + 25 + 2 + k) (by omega)] at this
      rw [show p + (27 + k) = p + 25 + 2 + k by omega, show q + (27 + k) = q + 25 + 2 + k by omega]
      exact this
    · rw [e4, d3 _ (by omega), c4 _ (by omega) (by omega), b5 _ (by omega) (by omega), a6 _ (by omega)]
    · rcases hw with rfl | rfl
      · have := e2 S hs
        rw [d3 (q + 37 + 1) (by omega), c4 (q + 37 + 1) (by omega) (by omega), b5 (q + 37 + 1) (by omega) (by omega), a6 (q + 37 + 1) (by omega)] at this
        exact this
      · have := e3 S hs
        rw [d3 (q + 37 + 2) (by omega), c4 (q + 37 + 2) (by omega) (by omega), b5 (q + 37 + 2) (by omega) (by omega), a6 (q + 37 + 2) (by omega)] at this
        exact this
  | succ d ih =>
    intro i f g g0 hi hf h01 a1 a2 a3 a4 a5 a6
    obtain ⟨f, rfl⟩ := Nat.exists_eq_succ_of_ne_zero (show f ≠ 0 by omega)
    rw [f_X10_become_c46, if_neg (show ¬ (16 : Int32) ≤ nI i from nI_ge (b := 16) (a := i) (by omega) (by omega)), og_in _ (by omega) (by omega), og_in _ (by omega) (by omega), nI_clamp (by omega)]
    obtain ⟨g1, b1, b2, b3⟩ := k_become5 (g := g) (a := p + 4 + i) (b := q + 4 + i) (by omega) (by rw [a6 _ (by omega)]; exact h01 i (by omega))
    rw [b1, op_v, mv_v, nI_1]
    refine ih (i + 1) f g1 g0 (by omega) (by omega) h01 ?_ ?_ ?_ ?_ ?_ ?_
    · rw [b3 _ (by omega)]; exact a1
    · rw [b3 _ (by omega)]; exact a2
    · rw [b3 _ (by omega)]; exact a3
    · rw [b3 _ (by omega)]; exact a4
    · intro k hk s hs
      by_cases e : k = i
      · subst e
        rw [b2 s hs, a6 _ (by omega)]
      · rw [b3 _ (by omega)]
        exact a5 k (by omega) s hs
    · intro x hx
      rw [b3 _ (by omega)]
      exact a6 x hx
theorem k_become10 {g : Mm} {N : Nat → Int32} {p q : Nat} (h : p + 41 ≤ q ∨ q + 41 ≤ p) (hW : WR g q N) (hF : WF N) : ∃ g', f_X10_become p q g = some g' ∧ WR g' p N ∧ ∀ x, (x < p ∨ p + 41 ≤ x) → g' x = g x := by
  have h01 : ∀ k, k < 16 → mm_01 (g (q + 4 + k) 4) = true := by
    intro k hk
    obtain ⟨v, hv, ev⟩ := wf_stamp hF hk
    have e := (show ∀ k, k < 16 → wP (79 + k) = 4 + k ∧ wL (79 + k) = 4 by decide +kernel) k hk
    have := hW (79 + k) (by omega)
    rw [e.1, e.2, ← Nat.add_assoc, ev] at this
    rw [this]
    rcases (show v = 0 ∨ v = 1 by omega) with rfl | rfl <;> decide
  unfold f_X10_become
  simp only [mw_v, mr_v, show (0 : Int32).toNatClampNeg = 0 from rfl, show (5 : Int32).toNatClampNeg = 5 from rfl]
  obtain ⟨g', e1, e2, e3⟩ := k_become10_end (p := p) (q := q) h 16 0 FU
    (mm_up (mm_row (mm_row (mm_up g p 0 (g q 0)) (p + 1) (va_cpy ((mm_up g p 0 (g q 0)) (q + 1)) ((mm_up g p 0 (g q 0)) (p + 1)) 0 0 5)) (p + 2) (va_cpy ((mm_row (mm_up g p 0 (g q 0)) (p + 1) (va_cpy ((mm_up g p 0 (g q 0)) (q + 1)) ((mm_up g p 0 (g q 0)) (p + 1)) 0 0 5)) (q + 2)) ((mm_row (mm_up g p 0 (g q 0)) (p + 1) (va_cpy ((mm_up g p 0 (g q 0)) (q + 1)) ((mm_up g p 0 (g q 0)) (p + 1)) 0 0 5)) (p + 2)) 0 0 5)) p 3 ((mm_row (mm_row (mm_up g p 0 (g q 0)) (p + 1) (va_cpy ((mm_up g p 0 (g q 0)) (q + 1)) ((mm_up g p 0 (g q 0)) (p + 1)) 0 0 5)) (p + 2) (va_cpy ((mm_row (mm_up g p 0 (g q 0)) (p + 1) (va_cpy ((mm_up g p 0 (g q 0)) (q + 1)) ((mm_up g p 0 (g q 0)) (p + 1)) 0 0 5)) (q + 2)) ((mm_row (mm_up g p 0 (g q 0)) (p + 1) (va_cpy ((mm_up g p 0 (g q 0)) (q + 1)) ((mm_up g p 0 (g q 0)) (p + 1)) 0 0 5)) (p + 2)) 0 0 5)) q 3)) g (by omega) (fu_lt (by omega)) h01
    (by simp (disch := omega) only [mm_up_eq, upd_ne, mm_row_ne, upd_eq])
    (by simp (disch := omega) only [mm_up_eq, mm_up_ne, upd_ne, mm_row_ne, upd_eq])
    (fun s hs => by simp (disch := omega) only [mm_up_eq, mm_up_ne, upd_ne, mm_row_ne, mm_row_at, upd_eq, cp0_lt hs])
    (fun s hs => by simp (disch := omega) only [mm_up_eq, mm_up_ne, upd_ne, mm_row_ne, mm_row_at, upd_eq, cp0_lt hs])
    (fun k hk => by omega)
    (fun x hx => by simp (disch := omega) only [mm_up_ne, mm_row_ne])
  exact ⟨g', e1, fun j hj => by rw [e2 j hj]; exact hW j hj, e3⟩
theorem m_image_c2 (m : Mm) : ∀ (d i f : Nat) (g : Mm), i + d = 193 → d < f → (∀ x, x ≠ 2 → g x = m x) → (∀ k, k < i → g 2 k = m 1 k) → ∃ g', f_X12_image_c2 f (nI i) g = some (1, mm_up g' 0 2 1) ∧ (∀ x, x ≠ 2 → g' x = m x) ∧ ∀ k, k < 193 → g' 2 k = m 1 k := by
  intro d
  induction d with
  | zero =>
    intro i f g hi hf h1 h2
    obtain ⟨f, rfl⟩ := Nat.exists_eq_succ_of_ne_zero (show f ≠ 0 by omega)
    have e : i = 193 := by omega
    subst e
    rw [f_X12_image_c2, if_pos (by decide)]
    exact ⟨g, rfl, h1, h2⟩
  | succ d ih =>
    intro i f g hi hf h1 h2
    obtain ⟨f, rfl⟩ := Nat.exists_eq_succ_of_ne_zero (show f ≠ 0 by omega)
    rw [f_X12_image_c2, if_neg (show ¬ (193 : Int32) ≤ nI i from nI_ge (b := 193) (a := i) (by omega) (by omega)), og_in _ (by omega) (by omega), og_in _ (by omega) (by omega), mw_v, mv_v, nI_1, nI_clamp (by omega)]
    refine ih (i + 1) f _ (by omega) (by omega) (fun x hx => by rw [mm_up_ne _ _ _ hx]; exact h1 x hx) (fun k hk => ?_)
    rw [mm_up_eq]
    by_cases e : k = i
    · subst e
      rw [upd_eq, h1 1 (by omega)]
    · rw [upd_ne _ _ e]
      exact h2 k (by omega)
theorem m_restore_c12 (m : Mm) : ∀ (d i f : Nat) (g : Mm), i + d = 193 → d < f → (∀ x, x ≠ 1 → g x = m x) → (∀ k, k < i → g 1 k = m 2 k) → ∃ g', f_X12_restore_c12 f (nI i) g = some (1, g') ∧ (∀ x, x ≠ 1 → g' x = m x) ∧ ∀ k, k < 193 → g' 1 k = m 2 k := by
  intro d
  induction d with
  | zero =>
    intro i f g hi hf h1 h2
    obtain ⟨f, rfl⟩ := Nat.exists_eq_succ_of_ne_zero (show f ≠ 0 by omega)
    have e : i = 193 := by omega
    subst e
    rw [f_X12_restore_c12, if_pos (by decide)]
    exact ⟨g, rfl, h1, h2⟩
  | succ d ih =>
    intro i f g hi hf h1 h2
    obtain ⟨f, rfl⟩ := Nat.exists_eq_succ_of_ne_zero (show f ≠ 0 by omega)
    rw [f_X12_restore_c12, if_neg (show ¬ (193 : Int32) ≤ nI i from nI_ge (b := 193) (a := i) (by omega) (by omega)), og_in _ (by omega) (by omega), og_in _ (by omega) (by omega), mw_v, mv_v, nI_1, nI_clamp (by omega)]
    refine ih (i + 1) f _ (by omega) (by omega) (fun x hx => by rw [mm_up_ne _ _ _ hx]; exact h1 x hx) (fun k hk => ?_)
    rw [mm_up_eq]
    by_cases e : k = i
    · subst e
      rw [upd_eq, h1 2 (by omega)]
    · rw [upd_ne _ _ e]
      exact h2 k (by omega)
theorem WR.congr {c : Mm} {p : Nat} {N N' : Nat → Int32} (h : WR c p N) (e : ∀ k, k < 193 → N' k = N k) : WR c p N' := fun j hj => by rw [e j hj]; exact h j hj
theorem WF.congr {N N' : Nat → Int32} (h : WF N) (e : ∀ k, k < 193 → N' k = N k) : WF N' := by
  refine ⟨fun j hj hb => by rw [e j hj]; exact h.1 j hj hb, fun a b ha hb => ?_⟩
  rw [e _ (by omega), e _ (by omega)]
  exact h.2 a b ha hb
theorem sim_image {n : Nat} {c m : Mm} (h : Rel n c m) : Sim n (f_X11_image c) (f_X12_image m) := by
  have hW := h.1
  have hF := h.2.1
  unfold f_X11_image f_X12_image
  obtain ⟨g', a1, a2, a3⟩ := k_become10 (p := 42) (q := 1) (by omega) hW hF
  obtain ⟨m', b1, b2, b3⟩ := m_image_c2 m 193 0 FU m (by omega) (fu_lt (by omega)) (fun _ _ => rfl) (fun k hk => by omega)
  rw [a1, op_v, mw_v, show f_X12_image_c2 FU 0 m = _ from b1]
  refine Sim.ret rfl ⟨?_, ?_, ?_, ?_, ?_, ?_⟩
  · rw [mm_up_ne _ _ _ (by omega), b2 1 (by omega)]
    exact hW.kept' (fun a h1 h2 => by rw [mm_up_ne _ _ _ (by omega), a3 a (by omega)])
  · rw [mm_up_ne _ _ _ (by omega), b2 1 (by omega)]
    exact hF
  · refine ⟨by rw [mm_up_eq, mm_up_eq, upd_eq, upd_eq], Or.inr ⟨by rw [mm_up_eq, upd_eq], ?_, ?_⟩⟩
    · rw [mm_up_ne _ _ _ (show 2 ≠ 0 by omega)]
      exact (a2.congr b3).kept' (fun a h1 h2 => by rw [mm_up_ne _ _ _ (by omega)])
    · rw [mm_up_ne _ _ _ (show 2 ≠ 0 by omega)]
      exact hF.congr b3
  · refine h.2.2.2.1.kept ?_ ?_ ?_ ?_
    · rw [mm_up_eq, upd_ne _ _ (by omega), b2 0 (by omega)]
    · rw [mm_up_ne _ _ _ (by omega), a3 _ (by omega)]
    · rw [mm_up_ne _ _ _ (by omega), a3 _ (by omega)]
    · rw [mm_up_ne _ _ _ (by omega), b2 3 (by omega)]
  · refine h.2.2.2.2.1.kept (fun a h1 h2 => ?_) ?_ ?_ ?_
    · rw [mm_up_ne _ _ _ (by omega), a3 _ (by omega)]
    · rw [mm_up_ne _ _ _ (by omega), b2 _ (by omega)]
    · rw [mm_up_ne _ _ _ (by omega), b2 _ (by omega)]
    · rw [mm_up_ne _ _ _ (by omega), b2 _ (by omega)]
  · refine h.2.2.2.2.2.mono (by omega) ?_ ?_ (fun a h1 h2 => ?_) (fun a h1 h2 => ?_)
    · rw [mm_up_ne _ _ _ (by omega), a3 _ (by omega)]
    · rw [mm_up_ne _ _ _ (by omega), a3 _ (by omega)]
    · rw [mm_up_ne _ _ _ (by omega), a3 _ (by omega)]
    · rw [mm_up_ne _ _ _ (by omega), b2 _ (by omega)]
theorem sim_restore {n : Nat} {c m : Mm} (h : Rel n c m) : Sim n (f_X11_restore c) (f_X12_restore m) := by
  obtain ⟨hk, hk2⟩ := h.2.2.1
  unfold f_X11_restore f_X12_restore
  rw [hk]
  rcases hk2 with e | ⟨e, hW, hF⟩
  · rw [if_pos e, if_pos e]
    exact Sim.ret rfl h.next
  rw [if_neg (by rw [e]; decide), if_neg (by rw [e]; decide)]
  obtain ⟨g', a1, a2, a3⟩ := k_become10 (p := 1) (q := 42) (by omega) hW hF
  obtain ⟨m', b1, b2, b3⟩ := m_restore_c12 m 193 0 FU m (by omega) (fu_lt (by omega)) (fun _ _ => rfl) (fun k hk => by omega)
  rw [a1, op_v, show f_X12_restore_c12 FU 0 m = _ from b1]
  exact Sim.ret rfl (h.now (fun a ha => a3 a (by omega)) (fun a ha => b2 a ha) (a2.congr b3) (hF.congr b3))
