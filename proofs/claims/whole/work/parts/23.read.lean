/-! reading the tape: the same signs at the same place -/
def skd (S : Nat → Int32) : Nat → Nat → Nat
  | p, 0 => p
  | p, d + 1 => if S p = 32 then skd S (p + 1) d else p
def sk (S : Nat → Int32) (t p : Nat) : Nat := skd S p (t - p)
def sg (S : Nat → Int32) (t q : Nat) : Int32 := if t ≤ q then -1 else S q
theorem skd_le (S : Nat → Int32) : ∀ d p, p ≤ skd S p d ∧ skd S p d ≤ p + d
  | 0, p => ⟨Nat.le_refl _, Nat.le_refl _⟩
  | d + 1, p => by
    rw [skd]
    have := skd_le S d (p + 1)
    split <;> omega
theorem skd_spec (S : Nat → Int32) : ∀ d p, skd S p d = p + d ∨ ¬ S (skd S p d) = 32
  | 0, p => Or.inl rfl
  | d + 1, p => by
    rw [skd]
    by_cases h : S p = 32
    · rw [if_pos h]
      rcases skd_spec S d (p + 1) with q | q
      · exact Or.inl (by omega)
      · exact Or.inr q
    · rw [if_neg h]
      exact Or.inr h
theorem skd_stop {S : Nat → Int32} {p : Nat} (h : ¬ S p = 32) : ∀ d, skd S p d = p
  | 0 => rfl
  | d + 1 => by rw [skd, if_neg h]
theorem sk_ge {S : Nat → Int32} {t p : Nat} (h : p ≤ t) : p ≤ sk S t p ∧ sk S t p ≤ t := by
  have := skd_le S (t - p) p
  unfold sk
  omega
theorem sk_spec {S : Nat → Int32} {t p : Nat} (h : p ≤ t) : sk S t p = t ∨ ¬ S (sk S t p) = 32 := by
  unfold sk
  rcases skd_spec S (t - p) p with q | q
  · exact Or.inl (by omega)
  · exact Or.inr q
theorem sk_stop {S : Nat → Int32} {t p : Nat} (h : p = t ∨ ¬ S p = 32) : sk S t p = p := by
  unfold sk
  rcases h with h | h
  · subst h
    rw [Nat.sub_self]
    rfl
  · exact skd_stop h _
theorem sk_sk {S : Nat → Int32} {t p : Nat} (h : p ≤ t) : sk S t (sk S t p) = sk S t p := sk_stop (sk_spec h)
theorem mm_up_self {g : Mm} {k j : Nat} {x : Int32} (h : g k j = x) : mm_up g k j x = g := by
  funext a b
  rw [mm_up_ap]
  split
  · rename_i e1
    split
    · rename_i e2
      rw [e1, e2, h]
    · rfl
  · rfl
theorem mm_up_up (g : Mm) (k j : Nat) (x y : Int32) : mm_up (mm_up g k j x) k j y = mm_up g k j y := by
  funext a b
  rw [mm_up_ap, mm_up_ap, mm_up_ap]
  by_cases e1 : a = k
  · subst e1
    by_cases e2 : b = j
    · simp only [if_true, if_pos e2]
    · simp only [if_true, if_neg e2]
  · simp only [if_neg e1]
def RC (S : Nat → Int32) (t p : Nat) (g : Mm) : Prop := g 83 1 = nI t ∧ g 83 2 = nI p ∧ ∀ k, k < 60 → g 84 k = S k
def RM (S : Nat → Int32) (t p : Nat) (h : Mm) : Prop := h 0 4 = nI t ∧ h 0 8 = nI p ∧ ∀ k, k < 60 → h 3 k = S k
theorem RC.to {S : Nat → Int32} {t p : Nat} {g : Mm} (h : RC S t p g) (q : Nat) : RC S t q (mm_up g 83 2 (nI q)) := by
  refine ⟨?_, ?_, fun k hk => ?_⟩
  · rw [mm_up_eq, upd_ne _ _ (by omega)]; exact h.1
  · rw [mm_up_eq, upd_eq]
  · rw [mm_up_ne _ _ _ (by omega)]; exact h.2.2 k hk
theorem RM.to {S : Nat → Int32} {t p : Nat} {g : Mm} (h : RM S t p g) (q : Nat) : RM S t q (mm_up g 0 8 (nI q)) := by
  refine ⟨?_, ?_, fun k hk => ?_⟩
  · rw [mm_up_eq, upd_ne _ _ (by omega)]; exact h.1
  · rw [mm_up_eq, upd_eq]
  · rw [mm_up_ne _ _ _ (by omega)]; exact h.2.2 k hk
theorem k_look38 {S : Nat → Int32} {t p : Nat} {g : Mm} (h : RC S t p g) (ht : t ≤ 60) (hp : p ≤ t) : f_X6_look_c38 83 g = some (sg S t p, g) := by
  unfold f_X6_look_c38 sg
  rw [h.1, h.2.1]
  by_cases e : t ≤ p
  · rw [if_pos (nI_le e (by omega)), if_pos e]
  · rw [if_neg (nI_ge (by omega) (by omega)), if_neg e, og_in _ (by omega) (by omega), nI_clamp (by omega), h.2.2 p (by omega)]
theorem m_next38 {S : Nat → Int32} {t p : Nat} {g : Mm} (h : RM S t p g) (ht : t ≤ 60) (hp : p ≤ t) : f_X12_next_c38 g = some (sg S t p, g) := by
  unfold f_X12_next_c38 sg
  rw [h.1, h.2.1]
  by_cases e : t ≤ p
  · rw [if_pos (nI_le e (by omega)), if_pos e]
  · rw [if_neg (nI_ge (by omega) (by omega)), if_neg e, og_in _ (by omega) (by omega), nI_clamp (by omega), h.2.2 p (by omega)]
theorem k_look_c0 {S : Nat → Int32} {t : Nat} (ht : t ≤ 60) : ∀ (d p f : Nat) (g : Mm), p + d = t → d < f → RC S t p g → f_X6_look_c0 83 f g = some (sg S t (skd S p d), mm_up g 83 2 (nI (skd S p d))) := by
  intro d
  induction d with
  | zero =>
    intro p f g hp hf h
    obtain ⟨f, rfl⟩ := Nat.exists_eq_succ_of_ne_zero (show f ≠ 0 by omega)
    rw [f_X6_look_c0, if_pos (by rw [h.1, h.2.1]; exact nI_le (by omega) (by omega)), k_look38 h ht (by omega), skd, mm_up_self h.2.1]
  | succ d ih =>
    intro p f g hp hf h
    obtain ⟨f, rfl⟩ := Nat.exists_eq_succ_of_ne_zero (show f ≠ 0 by omega)
    rw [f_X6_look_c0, if_neg (by rw [h.1, h.2.1]; exact nI_ge (by omega) (by omega)), h.2.1, og_in _ (by omega) (by omega), nI_clamp (by omega), show g (83 + 1) p = S p from h.2.2 p (by omega), skd]
    by_cases e : S p = 32
    · rw [if_pos e, if_pos e, mw_v, nI_1, ih (p + 1) f _ (by omega) (by omega) (h.to (p + 1)), mm_up_up]
    · rw [if_neg e, if_neg e, k_look38 h ht (by omega), mm_up_self h.2.1]
theorem m_next_c0 {S : Nat → Int32} {t : Nat} (ht : t ≤ 60) : ∀ (d p f : Nat) (g : Mm), p + d = t → d < f → RM S t p g → f_X12_next_c0 f g = some (sg S t (skd S p d), mm_up g 0 8 (nI (skd S p d))) := by
  intro d
  induction d with
  | zero =>
    intro p f g hp hf h
    obtain ⟨f, rfl⟩ := Nat.exists_eq_succ_of_ne_zero (show f ≠ 0 by omega)
    rw [f_X12_next_c0, if_pos (by rw [h.1, h.2.1]; exact nI_le (by omega) (by omega)), m_next38 h ht (by omega), skd, mm_up_self h.2.1]
  | succ d ih =>
    intro p f g hp hf h
    obtain ⟨f, rfl⟩ := Nat.exists_eq_succ_of_ne_zero (show f ≠ 0 by omega)
    rw [f_X12_next_c0, if_neg (by rw [h.1, h.2.1]; exact nI_ge (by omega) (by omega)), h.2.1, og_in _ (by omega) (by omega), nI_clamp (by omega), h.2.2 p (by omega), skd]
    by_cases e : S p = 32
    · rw [if_pos e, if_pos e, mw_v, nI_1, ih (p + 1) f _ (by omega) (by omega) (h.to (p + 1)), mm_up_up]
    · rw [if_neg e, if_neg e, m_next38 h ht (by omega), mm_up_self h.2.1]
theorem k_look {S : Nat → Int32} {t p : Nat} {g : Mm} (h : RC S t p g) (ht : t ≤ 60) (hp : p ≤ t) : f_X6_look 83 g = some (sg S t (sk S t p), mm_up g 83 2 (nI (sk S t p))) := k_look_c0 ht (t - p) p FU g (by omega) (fu_lt (by omega)) h
theorem m_next {S : Nat → Int32} {t p : Nat} {g : Mm} (h : RM S t p g) (ht : t ≤ 60) (hp : p ≤ t) : f_X12_next g = some (sg S t (sk S t p), mm_up g 0 8 (nI (sk S t p))) := m_next_c0 ht (t - p) p FU g (by omega) (fu_lt (by omega)) h
theorem k_isDigit (x : Int32) : f_X6_isDigit x = some (wi x 48 57) := by unfold f_X6_isDigit; rw [isWithin_eq, op_v, og_wi]
theorem m_isFigure (x : Int32) : f_X12_isFigure x = some (wi x 48 57) := by unfold f_X12_isFigure; rw [in_48_57, op_v, og_wi]
def SI (S : Nat → Int32) (t : Nat) : Prop := ∀ k, k < t → ∃ b, 32 ≤ b ∧ b ≤ 126 ∧ S k = nI b
/-- a digit: a number below ten, and not the end -/
theorem wi_dig {S : Nat → Int32} {t q : Nat} (hS : SI S t) (h : ¬ wi (sg S t q) 48 57 = 0) : q < t ∧ ∃ v, v ≤ 9 ∧ S q = nI (48 + v) ∧ sg S t q = nI (48 + v) ∧ sg S t q - 48 = nI v := by
  unfold sg at h ⊢
  by_cases e : t ≤ q
  · rw [if_pos e] at h
    exact absurd (by decide) h
  · rw [if_neg e] at h ⊢
    obtain ⟨b, b1, b2, b3⟩ := hS q (by omega)
    rw [b3] at h ⊢
    unfold wi at h
    by_cases h1 : nI b < 48
    · rw [if_pos h1] at h; exact absurd rfl h
    rw [if_neg h1] at h
    by_cases h2 : 57 < nI b
    · rw [if_pos h2] at h; exact absurd rfl h
    have g1 : 48 ≤ b := by
      rcases Nat.lt_or_ge b 48 with w | w
      · exact absurd (nI_lt (a := b) (b := 48) w (by omega)) h1
      · exact w
    have g2 : b ≤ 57 := by
      rcases Nat.lt_or_ge 57 b with w | w
      · exact absurd (nI_lt (a := 57) (b := b) w (by omega)) h2
      · exact w
    obtain ⟨v, rfl⟩ := Nat.exists_eq_add_of_le g1
    refine ⟨by omega, v, by omega, rfl, rfl, ?_⟩
    have := (show ∀ v, v < 10 → nI (48 + v) - 48 = nI v by decide +kernel) v (by omega)
    exact this
theorem dig_sg {S : Nat → Int32} {t q : Nat} (h : q < t) : sg S t q = S q := if_neg (by omega)
/-! the class's number is cut at one above the limit, the model's stops growing there -/
def nvI (lim a b : Nat) : Prop := (a = b ∧ b ≤ lim) ∨ (a = lim + 1 ∧ lim < b ∧ b ≤ 1009)
theorem both_number_loop {S : Nat → Int32} {t : Nat} (ht : t ≤ 60) (hS : SI S t) {lim : Nat} (hl : lim ≤ 99) (slot : Int32) (s0 : Int32) : ∀ (d p f f' a b : Nat) (g h h0 : Mm), p + d = t → d < f → d < f' → g 83 1 = nI t → (∀ k, k < 60 → g 84 k = S k) → RM S t p h → (∃ x, h = mm_up h0 0 8 x) → nvI lim a b →
    ∃ q a' b', p ≤ q ∧ q ≤ t ∧ nvI lim a' b' ∧ (p < t → ¬ wi (S p) 48 57 = 0 → p < q) ∧ (wi (sg S t p) 48 57 = 0 → q = p) ∧ f_X6_readNumber_c12 83 (nI lim) f (nI a) (nI p) g = f_X6_readNumber_c59 83 (nI lim) (nI a') (nI q) g ∧ f_X12_takesNumber_c20 slot (nI lim) f' s0 (nI b) h = f_X12_takesNumber_c90 slot (nI lim) s0 (nI b') (mm_up h0 0 8 (nI q)) := by
  intro d
  induction d with
  | zero =>
    intro p f f' a b g h h0 hp hf hf' g1 g2 hm hx hab
    obtain ⟨f, rfl⟩ := Nat.exists_eq_succ_of_ne_zero (show f ≠ 0 by omega)
    obtain ⟨f', rfl⟩ := Nat.exists_eq_succ_of_ne_zero (show f' ≠ 0 by omega)
    obtain ⟨x, rfl⟩ := hx
    have e : x = nI p := by have := hm.2.1; rw [mm_up_eq, upd_eq] at this; exact this
    rw [e] at hm ⊢
    rw [f_X6_readNumber_c12, f_X12_takesNumber_c20, if_pos (by rw [g1]; exact nI_le (by omega) (by omega)), if_pos (by rw [hm.1, hm.2.1]; exact nI_le (by omega) (by omega))]
    exact ⟨p, a, b, Nat.le_refl _, by omega, hab, fun h => by omega, fun _ => rfl, rfl, rfl⟩
  | succ d ih =>
    intro p f f' a b g h h0 hp hf hf' g1 g2 hm hx hab
    obtain ⟨f, rfl⟩ := Nat.exists_eq_succ_of_ne_zero (show f ≠ 0 by omega)
    obtain ⟨f', rfl⟩ := Nat.exists_eq_succ_of_ne_zero (show f' ≠ 0 by omega)
    obtain ⟨x, rfl⟩ := hx
    have e : x = nI p := by have := hm.2.1; rw [mm_up_eq, upd_eq] at this; exact this
    rw [e] at hm ⊢
    rw [f_X6_readNumber_c12, f_X12_takesNumber_c20, g1, hm.1, hm.2.1, if_neg (show ¬ nI t ≤ nI p from nI_ge (by omega) (by omega)), if_neg (show ¬ nI t ≤ nI p from nI_ge (by omega) (by omega))]
    simp only [og_in _ (show p < 60 by omega) (show 60 < 2 ^ 31 by omega), nI_clamp (show p < 2 ^ 31 by omega), show g (83 + 1) p = S p from g2 p (by omega), hm.2.2 p (by omega), k_isDigit, m_isFigure, op_v]
    by_cases hd : wi (S p) 48 57 = 0
    · rw [if_pos hd, if_pos hd]
      exact ⟨p, a, b, Nat.le_refl _, by omega, hab, fun _ h => absurd hd h, fun _ => rfl, rfl, rfl⟩
    · rw [if_neg hd, if_neg hd]
      have hsg : ¬ wi (sg S t p) 48 57 = 0 := by rw [dig_sg (by omega)]; exact hd
      obtain ⟨_, v, v1, v2, _, _⟩ := wi_dig hS hsg
      rw [v2]
      simp only [mv_v]
      have ec : (if (nI lim + 1) < (((10 * nI a) + nI (48 + v)) - 48) then (nI lim + 1) else (((10 * nI a) + nI (48 + v)) - 48)) = nI (min (lim + 1) (10 * a + v)) := by
        have e1 : ((10 * nI a) + nI (48 + v)) - 48 = nI (10 * a + v) := by
          rw [show (10 : Int32) = nI 10 from rfl, show (48 : Int32) = nI 48 from rfl, pk_mul, nI_add, pk_sub (by omega)]
          congr 1
          omega
        have la : a ≤ 100 := by rcases hab with ⟨_, _⟩ | ⟨_, _⟩ <;> omega
        rw [e1, nI_1]
        by_cases c1 : lim + 1 < 10 * a + v
        · rw [if_pos (nI_lt c1 (by omega))]
          congr 1
          omega
        · rw [if_neg (nI_nlt (by omega) (by omega))]
          congr 1
          omega
      rw [ec, nI_1]
      have step : ∀ (b1 : Nat), nvI lim (min (lim + 1) (10 * a + v)) b1 → ∃ q a' b', p ≤ q ∧ q ≤ t ∧ nvI lim a' b' ∧ (p < t → ¬ wi (S p) 48 57 = 0 → p < q) ∧ (wi (sg S t p) 48 57 = 0 → q = p) ∧ f_X6_readNumber_c12 83 (nI lim) f (nI (min (lim + 1) (10 * a + v))) (nI (p + 1)) g = f_X6_readNumber_c59 83 (nI lim) (nI a') (nI q) g ∧ f_X12_takesNumber_c75 (f_X12_takesNumber_c20 slot (nI lim) f') slot (nI lim) s0 (nI b1) (mm_up h0 0 8 (nI p)) = f_X12_takesNumber_c90 slot (nI lim) s0 (nI b') (mm_up h0 0 8 (nI q)) := by
        intro b1 hb1
        unfold f_X12_takesNumber_c75
        rw [mw_v, mm_up_eq, upd_eq, nI_1]
        obtain ⟨q, a', b', r1, r2, r3, r4, r5, r6, r7⟩ := ih (p + 1) f f' (min (lim + 1) (10 * a + v)) b1 g _ h0 (by omega) (by omega) (by omega) g1 g2 (hm.to (p + 1)) ⟨_, mm_up_up _ _ _ _ _⟩ hb1
        exact ⟨q, a', b', by omega, r2, r3, fun _ _ => by omega, fun h => absurd h hsg, r6, r7⟩
      rcases hab with ⟨h1, h2⟩ | ⟨h1, h2, h3⟩
      · subst h1
        rw [if_pos (nI_le h2 (by omega))]
        have e1 : ((10 * nI a) + nI (48 + v)) - 48 = nI (10 * a + v) := by
          rw [show (10 : Int32) = nI 10 from rfl, show (48 : Int32) = nI 48 from rfl, pk_mul, nI_add, pk_sub (by omega)]
          congr 1
          omega
        rw [e1]
        rw [← v2]
        refine step (10 * a + v) ?_
        unfold nvI
        omega
      · rw [if_neg (nI_ge h2 (by omega))]
        rw [← v2]
        refine step b ?_
        unfold nvI
        omega
/-- a number: both take it, or both refuse it at the same place -/
theorem both_number {S : Nat → Int32} {t p : Nat} (ht : t ≤ 60) (hp : p ≤ t) (hS : SI S t) {lim : Nat} (hl : lim ≤ 99) {slot : Nat} (hs : slot < 18) {g h : Mm} (hc : RC S t p g) (hm : RM S t p h) :
    (f_X6_readNumber 83 (nI lim) g = some (-1, mm_up g 83 2 (nI (sk S t p))) ∧ f_X12_takesNumber (nI slot) (nI lim) h = some (0, mm_up h 0 8 (nI (sk S t p)))) ∨ ∃ q v, q ≤ t ∧ v ≤ lim ∧ f_X6_readNumber 83 (nI lim) g = some (nI v, mm_up g 83 2 (nI q)) ∧ f_X12_takesNumber (nI slot) (nI lim) h = some (1, mm_up (mm_up h 0 8 (nI q)) 7 slot (nI v)) := by
  unfold f_X6_readNumber f_X12_takesNumber
  have s1 := sk_ge (S := S) hp
  rw [k_look hc ht hp, m_next hm ht hp, ob_v, ob_v, mv_v, m_isFigure, op_v]
  have hc1 := hc.to (sk S t p)
  have hm1 := hm.to (sk S t p)
  generalize sk S t p = r at *
  obtain ⟨q, a', b', r1, r2, r3, r4, r5, r6, r7⟩ := both_number_loop ht hS hl (nI slot) (nI r) (t - r) r FU FU 0 0 (mm_up g 83 2 (nI r)) (mm_up h 0 8 (nI r)) h (by omega) (fu_lt (by omega)) (fu_lt (by omega)) hc1.1 hc1.2.2 hm1 ⟨_, rfl⟩ (Or.inl ⟨rfl, by omega⟩)
  rw [hc1.2.1, show f_X6_readNumber_c12 83 (nI lim) FU 0 (nI r) (mm_up g 83 2 (nI r)) = _ from r6]
  by_cases hd : wi (sg S t r) 48 57 = 0
  · rw [if_pos hd]
    left
    refine ⟨?_, rfl⟩
    unfold f_X6_readNumber_c59
    rw [hc1.2.1, r5 hd, if_pos rfl]
  · rw [if_neg hd, mv_v, hm1.2.1, show f_X12_takesNumber_c20 (nI slot) (nI lim) FU (nI r) 0 (mm_up h 0 8 (nI r)) = _ from r7]
    obtain ⟨w1, v0, w2, w3, w4, w5⟩ := wi_dig hS hd
    have hq := r4 w1 (by rw [dig_sg w1] at hd; exact hd)
    unfold f_X6_readNumber_c59 f_X12_takesNumber_c90
    rw [hc1.2.1, if_neg (fun e => by have := nI_inj (by omega) (by omega) e; omega)]
    rcases r3 with ⟨h1, h2⟩ | ⟨h1, h2, h3⟩
    · subst h1
      rw [if_pos (show nI a' ≤ nI lim from nI_le h2 (by omega)), if_pos (show nI a' ≤ nI lim from nI_le h2 (by omega)), og_in _ hs (by omega), nI_clamp (by omega), mw_v, mw_v, mm_up_up]
      exact Or.inr ⟨q, a', r2, h2, rfl, rfl⟩
    · subst h1
      rw [if_neg (nI_ge (by omega) (by omega)), if_neg (nI_ge h2 (by omega)), mw_v, mm_up_up]
      exact Or.inl ⟨rfl, rfl⟩
/-- a digit: both take it, or both refuse it at the same place -/
theorem both_digit {S : Nat → Int32} {t p : Nat} (ht : t ≤ 60) (hp : p ≤ t) (hS : SI S t) {slot : Nat} (hs : slot < 18) {g h : Mm} (hc : RC S t p g) (hm : RM S t p h) :
    (f_X6_readDigit 83 g = some (-1, mm_up g 83 2 (nI (sk S t p))) ∧ f_X12_takesFigure (nI slot) h = some (0, mm_up h 0 8 (nI (sk S t p)))) ∨ ∃ q v, q ≤ t ∧ v ≤ 9 ∧ f_X6_readDigit 83 g = some (nI v, mm_up g 83 2 (nI q)) ∧ f_X12_takesFigure (nI slot) h = some (1, mm_up (mm_up h 0 8 (nI q)) 7 slot (nI v)) := by
  unfold f_X6_readDigit f_X12_takesFigure
  have s1 := sk_ge (S := S) hp
  rw [k_look hc ht hp, m_next hm ht hp, ob_v, ob_v, m_isFigure, k_isDigit, op_v, op_v]
  have hc1 := hc.to (sk S t p)
  have hm1 := hm.to (sk S t p)
  generalize sk S t p = r at *
  by_cases hd : wi (sg S t r) 48 57 = 0
  · rw [if_pos hd, if_pos hd]
    exact Or.inl ⟨rfl, rfl⟩
  · rw [if_neg hd, if_neg hd]
    obtain ⟨w1, v0, w2, w3, w4, w5⟩ := wi_dig hS hd
    rw [og_in _ hs (by omega), nI_clamp (by omega), hc1.2.1]
    simp only [mw_v]
    rw [mm_up_ne (mm_up h 0 8 (nI r)) _ _ (show 0 ≠ 7 by omega), hm1.2.1, nI_1, w5, mm_up_up]
    refine Or.inr ⟨r + 1, v0, by omega, w2, rfl, ?_⟩
    congr 2
    funext a b
    simp only [mm_up_ap]
    by_cases e1 : a = 0
    · subst e1
      by_cases e2 : b = 8 <;> simp [e2]
    · by_cases e2 : a = 7
      · subst e2
        simp
      · simp [e1, e2]
