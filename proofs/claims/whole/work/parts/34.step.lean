theorem k_step_c119 {i k : Nat} (hi : i < 9) (hk : k < 4) (x1 x2 : Nat → Nat) (hx : ∀ s, s < 3 → x1 s ≤ x2 s) : ∀ (d s f : Nat) (g : Mm), s + d = 3 → d < f → (∀ r, r < 3 → g (125 + i) r = nI (x2 r)) → (∀ r, r < 3 → g (104 + k) r = nI (x1 r)) → (∀ r, r < s → g (125 + (i + 1)) r = nI (x2 r - x1 r)) →
    ∃ g', f_X9_step_c119 90 (nI i) (nI k) f (nI s) g = some g' ∧ (∀ r, r < 3 → g' (125 + (i + 1)) r = nI (x2 r - x1 r)) ∧ ∀ x, x ≠ 125 + (i + 1) → g' x = g x := by
  intro d
  induction d with
  | zero =>
    intro s f g hs hf h1 h2 h3
    obtain ⟨f, rfl⟩ := Nat.exists_eq_succ_of_ne_zero (show f ≠ 0 by omega)
    rw [f_X9_step_c119, if_pos (show (3 : Int32) ≤ nI s from nI_le (a := 3) (by omega) (by omega))]
    exact ⟨g, rfl, fun r hr => h3 r (by omega), fun _ _ => rfl⟩
  | succ d ih =>
    intro s f g hs hf h1 h2 h3
    obtain ⟨f, rfl⟩ := Nat.exists_eq_succ_of_ne_zero (show f ≠ 0 by omega)
    rw [f_X9_step_c119, if_neg (show ¬ (3 : Int32) ≤ nI s from nI_ge (b := 3) (by omega) (by omega)), nI_1, og_in _ (show i + 1 < 10 by omega) (by omega), og_in _ (show i < 10 by omega) (by omega), og_in _ (show s < 3 by omega) (by omega), og_in _ (show k < 4 by omega) (by omega), og_in _ (show s < 3 by omega) (by omega), og_in _ (show s < 3 by omega) (by omega), nI_clamp (show i + 1 < 2 ^ 31 by omega), nI_clamp (show i < 2 ^ 31 by omega), nI_clamp (show s < 2 ^ 31 by omega), nI_clamp (show k < 2 ^ 31 by omega), mw_v, mv_v, nI_1, show g (90 + 35 + i) s = nI (x2 s) from h1 s (by omega), show g (90 + 14 + k) s = nI (x1 s) from h2 s (by omega), pk_sub (hx s (by omega))]
    obtain ⟨g', r1, r2, r3⟩ := ih (s + 1) f (mm_up g (90 + 35 + (i + 1)) s (nI (x2 s - x1 s))) (by omega) (by omega) (fun r hr => by rw [mm_up_ne _ _ _ (by omega)]; exact h1 r hr) (fun r hr => by rw [mm_up_ne _ _ _ (by omega)]; exact h2 r hr) (fun r hr => by
      rw [show 125 + (i + 1) = 90 + 35 + (i + 1) by omega, mm_up_eq]
      by_cases e : r = s
      · subst e; rw [upd_eq]
      · rw [upd_ne _ _ e]; exact h3 r (by omega))
    exact ⟨g', r1, r2, fun x hx => by rw [r3 x hx, mm_up_ne _ _ _ (by omega)]⟩
theorem k_step_c116 {i k : Nat} (hi : i < 9) (hk : k < 4) (x1 x2 : Nat → Nat) (hx : ∀ s, s < 3 → x1 s ≤ x2 s) (v : Int32) (g : Mm) (h1 : ∀ r, r < 3 → g (125 + i) r = nI (x2 r)) (h2 : ∀ r, r < 3 → g (104 + k) r = nI (x1 r)) :
    ∃ g', f_X9_step_c116 90 (nI i) (nI k) (90 + 33) (nI i + 1) v g = some g' ∧ (∀ r, r < 3 → g' (125 + (i + 1)) r = nI (x2 r - x1 r)) ∧ g' 123 (i + 1) = v ∧ (∀ j, j ≠ i + 1 → g' 123 j = g 123 j) ∧ ∀ x, x ≠ 123 → x ≠ 125 + (i + 1) → g' x = g x := by
  unfold f_X9_step_c116
  rw [nI_1, og_in _ (show i + 1 < 10 by omega) (by omega), nI_clamp (show i + 1 < 2 ^ 31 by omega), mw_v]
  obtain ⟨g', r1, r2, r3⟩ := k_step_c119 hi hk x1 x2 hx 3 0 FU (mm_up g (90 + 33) (i + 1) v) (by omega) (fu_lt (by omega)) (fun r hr => by rw [mm_up_ne _ _ _ (by omega)]; exact h1 r hr) (fun r hr => by rw [mm_up_ne _ _ _ (by omega)]; exact h2 r hr) (fun r hr => absurd hr (Nat.not_lt_zero r))
  refine ⟨g', r1, r2, ?_, fun j hj => ?_, fun x a b => ?_⟩
  · rw [r3 123 (by omega)]
    show mm_up g 123 (i + 1) v 123 (i + 1) = v
    rw [mm_up_eq, upd_eq]
  · rw [r3 123 (by omega)]
    show mm_up g 123 (i + 1) v 123 j = _
    rw [mm_up_eq, upd_ne _ _ hj]
  · rw [r3 x b, mm_up_ne _ _ _ a]
theorem k_step_c48 {i k : Nat} (hi : i < 9) (hk : k < 4) (x1 x2 nn : Nat → Nat) (hh : Nat) (bh : hh ≤ 2) (hx : ∀ s, s < 3 → x1 s ≤ x2 s) : ∀ (d s f : Nat) (g : Mm), s + d = 4 → d < f → (∀ r, r < 3 → g (125 + i) r = nI (x2 r)) → (∀ r, r < 3 → g (104 + k) r = nI (x1 r)) → g 123 i = nI hh → (∀ r, r < 4 → g (113 + i) r = nI (nn r)) → (∀ r, r < s → g (113 + (i + 1)) r = nI (nn r + if k = r then 1 else 0)) →
    ∃ g', f_X9_step_c48 90 (nI i) (nI k) f (nI s) g = some g' ∧ (∀ r, r < 3 → g' (125 + (i + 1)) r = nI (x2 r - x1 r)) ∧ g' 123 (i + 1) = nI (if k = 2 then min (hh + 1) 2 else 0) ∧ (∀ j, j ≠ i + 1 → g' 123 j = g 123 j) ∧ (∀ r, r < 4 → g' (113 + (i + 1)) r = nI (nn r + if k = r then 1 else 0)) ∧ ∀ x, x ≠ 123 → x ≠ 125 + (i + 1) → x ≠ 113 + (i + 1) → g' x = g x := by
  intro d
  induction d with
  | zero =>
    intro s f g hs hf h1 h2 h3 h4 h5
    obtain ⟨f, rfl⟩ := Nat.exists_eq_succ_of_ne_zero (show f ≠ 0 by omega)
    rw [f_X9_step_c48, if_pos (show (4 : Int32) ≤ nI s from nI_le (a := 4) (by omega) (by omega))]
    have fin : ∀ v : Int32, v = nI (if k = 2 then min (hh + 1) 2 else 0) → ∃ g', f_X9_step_c116 90 (nI i) (nI k) (90 + 33) (nI i + 1) v g = some g' ∧ (∀ r, r < 3 → g' (125 + (i + 1)) r = nI (x2 r - x1 r)) ∧ g' 123 (i + 1) = nI (if k = 2 then min (hh + 1) 2 else 0) ∧ (∀ j, j ≠ i + 1 → g' 123 j = g 123 j) ∧ (∀ r, r < 4 → g' (113 + (i + 1)) r = nI (nn r + if k = r then 1 else 0)) ∧ ∀ x, x ≠ 123 → x ≠ 125 + (i + 1) → x ≠ 113 + (i + 1) → g' x = g x := fun v hv => by
      obtain ⟨g', r1, r2, r3, r4, r5⟩ := k_step_c116 hi hk x1 x2 hx v g h1 h2
      exact ⟨g', r1, r2, by rw [r3, hv], r4, fun r hr => by rw [r5 _ (by omega) (by omega)]; exact h5 r (by omega), fun x a b c => r5 x a b⟩
    by_cases e : k = 2
    · rw [if_pos (show nI k = (2 : Int32) by rw [e]; rfl), og_in _ (show i < 10 by omega) (by omega), nI_clamp (show i < 2 ^ 31 by omega), show g (90 + 33) i = nI hh from h3]
      refine fin _ ?_
      rw [if_pos e, nI_1]
      by_cases c : 2 < hh + 1
      · rw [if_pos (show (2 : Int32) < nI (hh + 1) from nI_lt (a := 2) c (by omega)), show min (hh + 1) 2 = 2 by omega]
        rfl
      · rw [if_neg (show ¬ (2 : Int32) < nI (hh + 1) from nI_nlt (b := hh + 1) (a := 2) (by omega) (by omega)), show min (hh + 1) 2 = hh + 1 by omega]
    · rw [if_neg (show ¬ nI k = (2 : Int32) from fun w => e ((n_d k 2 hk (by omega)).mp w))]
      exact fin 0 (by rw [if_neg e]; rfl)
  | succ d ih =>
    intro s f g hs hf h1 h2 h3 h4 h5
    obtain ⟨f, rfl⟩ := Nat.exists_eq_succ_of_ne_zero (show f ≠ 0 by omega)
    rw [f_X9_step_c48, if_neg (show ¬ (4 : Int32) ≤ nI s from nI_ge (b := 4) (by omega) (by omega)), nI_1, og_in _ (show i + 1 < 10 by omega) (by omega), og_in _ (show i < 10 by omega) (by omega), og_in _ (show s < 4 by omega) (by omega), nI_clamp (show i + 1 < 2 ^ 31 by omega), nI_clamp (show i < 2 ^ 31 by omega), nI_clamp (show s < 2 ^ 31 by omega), show g (90 + 23 + i) s = nI (nn s) from h4 s (by omega)]
    have go : ∀ v : Nat, v = (if k = s then 1 else 0) → ∃ g', f_X9_step_c80 (f_X9_step_c48 90 (nI i) (nI k) f) 90 (nI i) (nI k) (nI s) (90 + 23 + (i + 1)) (nI s) (nI (nn s)) (nI v) g = some g' ∧ (∀ r, r < 3 → g' (125 + (i + 1)) r = nI (x2 r - x1 r)) ∧ g' 123 (i + 1) = nI (if k = 2 then min (hh + 1) 2 else 0) ∧ (∀ j, j ≠ i + 1 → g' 123 j = g 123 j) ∧ (∀ r, r < 4 → g' (113 + (i + 1)) r = nI (nn r + if k = r then 1 else 0)) ∧ ∀ x, x ≠ 123 → x ≠ 125 + (i + 1) → x ≠ 113 + (i + 1) → g' x = g x := fun v hv => by
      unfold f_X9_step_c80
      rw [og_in _ (show s < 4 by omega) (by omega), nI_clamp (show s < 2 ^ 31 by omega), nI_add, mw_v, mv_v, nI_1]
      obtain ⟨g', r1, r2, r3, r4, r5, r6⟩ := ih (s + 1) f (mm_up g (90 + 23 + (i + 1)) s (nI (nn s + v))) (by omega) (by omega) (fun r hr => by rw [mm_up_ne _ _ _ (by omega)]; exact h1 r hr) (fun r hr => by rw [mm_up_ne _ _ _ (by omega)]; exact h2 r hr) (by rw [mm_up_ne _ _ _ (by omega)]; exact h3) (fun r hr => by rw [mm_up_ne _ _ _ (by omega)]; exact h4 r hr) (fun r hr => by
        rw [show 113 + (i + 1) = 90 + 23 + (i + 1) by omega, mm_up_eq]
        by_cases e : r = s
        · subst e; rw [upd_eq, hv]
        · rw [upd_ne _ _ e]; exact h5 r (by omega))
      exact ⟨g', r1, r2, r3, fun j hj => by rw [r4 j hj, mm_up_ne _ _ _ (by omega)], r5, fun x a b c => by rw [r6 x a b c, mm_up_ne _ _ _ (by omega)]⟩
    by_cases e : k = s
    · rw [if_pos (by rw [e])]
      exact go 1 (by rw [if_pos e])
    · rw [if_neg (fun w => e ((nI_eq (by omega) (by omega)).mp w))]
      exact go 0 (by rw [if_neg e])
/-- a step: what stands ahead of the next mile -/
theorem k_step {i k : Nat} (hi : i < 9) (hk : k < 4) (x1 x2 nn : Nat → Nat) (hh t c dm dc : Nat) (bh : hh ≤ 2) (hx : ∀ s, s < 3 → x1 s ≤ x2 s) {g : Mm} (h1 : ∀ r, r < 3 → g (125 + i) r = nI (x2 r)) (h2 : ∀ r, r < 3 → g (104 + k) r = nI (x1 r)) (h3 : g 123 i = nI hh) (h4 : ∀ r, r < 4 → g (113 + i) r = nI (nn r)) (e1 : g 110 i = nI t) (e2 : g 111 i = nI c) (e3 : g (94 + k) i = nI dm) (e4 : g (99 + k) i = nI dc) :
    ∃ g', f_X9_step 90 (nI i) (nI k) g = some g' ∧ (∀ r, r < 3 → g' (125 + (i + 1)) r = nI (x2 r - x1 r)) ∧ g' 123 (i + 1) = nI (if k = 2 then min (hh + 1) 2 else 0) ∧ (∀ r, r < 4 → g' (113 + (i + 1)) r = nI (nn r + if k = r then 1 else 0)) ∧ g' 110 (i + 1) = nI (t + dm) ∧ g' 111 (i + 1) = nI (c + dc) ∧ (∀ x j, j ≠ i + 1 → x = 110 ∨ x = 111 ∨ x = 123 → g' x j = g x j) ∧ ∀ x, x ≠ 110 → x ≠ 111 → x ≠ 123 → x ≠ 125 + (i + 1) → x ≠ 113 + (i + 1) → g' x = g x := by
  unfold f_X9_step
  rw [nI_1, og_in _ (show i < 10 by omega) (by omega), og_in _ (show k < 4 by omega) (by omega), og_in _ (show i < 9 by omega) (by omega), og_in _ (show i + 1 < 10 by omega) (by omega), nI_clamp (show i + 1 < 2 ^ 31 by omega), nI_clamp (show i < 2 ^ 31 by omega), nI_clamp (show k < 2 ^ 31 by omega), mw_v, og_in _ (show i < 10 by omega) (by omega), og_in _ (show k < 4 by omega) (by omega), og_in _ (show i < 9 by omega) (by omega), og_in _ (show i + 1 < 10 by omega) (by omega), mw_v, mm_up_ne g _ _ (show 90 + 21 ≠ 90 + 20 by omega), mm_up_ne g _ _ (show 90 + 9 + k ≠ 90 + 20 by omega), show g (90 + 20) i = nI t from e1, show g (90 + 4 + k) i = nI dm from e3, show g (90 + 21) i = nI c from e2, show g (90 + 9 + k) i = nI dc from e4, nI_add, nI_add]
  obtain ⟨g', r1, r2, r3, r4, r5, r6⟩ := k_step_c48 hi hk x1 x2 nn hh bh hx 4 0 FU (mm_up (mm_up g (90 + 20) (i + 1) (nI (t + dm))) (90 + 21) (i + 1) (nI (c + dc))) (by omega) (fu_lt (by omega)) (fun r hr => by rw [mm_up_ne _ _ _ (by omega), mm_up_ne _ _ _ (by omega)]; exact h1 r hr) (fun r hr => by rw [mm_up_ne _ _ _ (by omega), mm_up_ne _ _ _ (by omega)]; exact h2 r hr) (by rw [mm_up_ne _ _ _ (by omega), mm_up_ne _ _ _ (by omega)]; exact h3) (fun r hr => by rw [mm_up_ne _ _ _ (by omega), mm_up_ne _ _ _ (by omega)]; exact h4 r hr) (fun r hr => absurd hr (Nat.not_lt_zero r))
  have w : ∀ x, x ≠ 110 → x ≠ 111 → mm_up (mm_up g (90 + 20) (i + 1) (nI (t + dm))) (90 + 21) (i + 1) (nI (c + dc)) x = g x := fun x a b => by rw [mm_up_ne _ _ _ (by omega), mm_up_ne _ _ _ (by omega)]
  have w0 : mm_up (mm_up g (90 + 20) (i + 1) (nI (t + dm))) (90 + 21) (i + 1) (nI (c + dc)) 110 = upd (g 110) (i + 1) (nI (t + dm)) := by
    rw [mm_up_ne _ _ _ (by omega)]
    exact mm_up_eq g 110 _ _
  have w1 : mm_up (mm_up g (90 + 20) (i + 1) (nI (t + dm))) (90 + 21) (i + 1) (nI (c + dc)) 111 = upd (g 111) (i + 1) (nI (c + dc)) := by
    refine (mm_up_eq (mm_up g (90 + 20) (i + 1) (nI (t + dm))) 111 _ _).trans ?_
    rw [mm_up_ne _ _ _ (by omega)]
  refine ⟨g', r1, r2, r3, r5, ?_, ?_, fun x j hj hx => ?_, fun x a b c d e => ?_⟩
  · rw [r6 110 (by omega) (by omega) (by omega), w0, upd_eq]
  · rw [r6 111 (by omega) (by omega) (by omega), w1, upd_eq]
  · rcases hx with rfl | rfl | rfl
    · rw [r6 110 (by omega) (by omega) (by omega), w0, upd_ne _ _ hj]
    · rw [r6 111 (by omega) (by omega) (by omega), w1, upd_ne _ _ hj]
    · rw [r4 j hj, w 123 (by omega) (by omega)]
  · rw [r6 x c d e, w x a b]
