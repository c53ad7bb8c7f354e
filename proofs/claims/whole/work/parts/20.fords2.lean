theorem m_c69 {m g0 : Mm} {N : Nat → Int32} (hm : g0 1 = N) (hF : WF N) {n fr v : Nat} (hn : n ≤ 6) (hv : v < 8) (K41 : Int32 → Int32 → Mm → Option Mm) (K51 : Int32 → Int32 → Int32 → Mm → Option Mm) (x2 x3 x4 : Int32) (hr : ∀ u, u < 8 → g0 17 u = nI (come N fr n u)) : ∀ (d u f : Nat) (g : Mm), u + d = 8 → d < f → (∀ a, a ≠ 18 → g a = g0 a) → (∀ k, k ≠ v → g 18 k = g0 18 k) → g 18 v = nI (mxN (fun u => come N fr n u * eN N u v) u) →
    ∃ g', f_X12_wander_c69 K41 K51 x2 f x3 x4 (nI v) (nI u) g = K51 x3 x4 (nI (v + 1)) g' ∧ (∀ a, a ≠ 18 → g' a = g0 a) ∧ (∀ k, k ≠ v → g' 18 k = g0 18 k) ∧ g' 18 v = nI (come N fr (n + 1) v) := by
  intro d
  induction d with
  | zero =>
    intro u f g hi hf h1 h2 h3
    obtain ⟨f, rfl⟩ := Nat.exists_eq_succ_of_ne_zero (show f ≠ 0 by omega)
    have e : u = 8 := by omega
    subst e
    rw [f_X12_wander_c69, if_pos (by decide), mv_v, nI_1]
    exact ⟨g, rfl, h1, h2, h3⟩
  | succ d ih =>
    intro u f g hi hf h1 h2 h3
    obtain ⟨f, rfl⟩ := Nat.exists_eq_succ_of_ne_zero (show f ≠ 0 by omega)
    have hu : u < 8 := by omega
    have e5 : (117 : Int32) + 8 * nI u + nI v = nI (117 + 8 * u + v) := by
      rw [show (117 : Int32) = nI 117 from rfl, show (8 : Int32) = nI 8 from rfl, pk_mul, nI_add, nI_add]
    have hpw : (16 : Nat) ^ n ≤ 16 ^ 6 := Nat.pow_le_pow_right (by omega) hn
    have hb0 := come_le N fr n
    have hbe := fun u => eN_le N u v
    have hbig : ∀ u, come N fr n u * eN N u v ≤ 16 ^ 6 * 16 := fun u => Nat.mul_le_mul (Nat.le_trans (hb0 u) hpw) (hbe u)
    have hmx := mxN_le (f := fun u => come N fr n u * eN N u v) u (fun k _ => hbig k)
    rw [f_X12_wander_c69, if_neg (show ¬ (8 : Int32) ≤ nI u from nI_ge (b := 8) (a := u) hu (by omega)), e5, og_in _ (by omega) (by omega), mv_v, nI_clamp (by omega), h1 1 (by omega), hm, og_in _ hu (by omega), nI_clamp (by omega), h1 17 (by omega), hr u hu]
    have key : ∀ X : Nat, X = come N fr n u * eN N u v → ∃ g', f_X12_wander_c116 K41 K51 (f_X12_wander_c69 K41 K51 x2 f) x2 x3 x4 (nI v) (nI u) (nI X) g = K51 x3 x4 (nI (v + 1)) g' ∧ (∀ a, a ≠ 18 → g' a = g0 a) ∧ (∀ k, k ≠ v → g' 18 k = g0 18 k) ∧ g' 18 v = nI (come N fr (n + 1) v) := by
      intro X hX
      have hX2 := hbig u
      rw [← hX] at hX2
      have nxt : ∀ Y : Nat, Y = mxN (fun u => come N fr n u * eN N u v) (u + 1) → ∃ g', f_X12_wander_c148 K41 K51 (f_X12_wander_c69 K41 K51 x2 f) x2 x3 x4 (nI v) (nI u) 18 (nI v) (nI Y) g = K51 x3 x4 (nI (v + 1)) g' ∧ (∀ a, a ≠ 18 → g' a = g0 a) ∧ (∀ k, k ≠ v → g' 18 k = g0 18 k) ∧ g' 18 v = nI (come N fr (n + 1) v) := by
        intro Y hY
        unfold f_X12_wander_c148
        rw [og_in _ hv (by omega), mw_v, mv_v, nI_1, nI_clamp (by omega)]
        refine ih (u + 1) f _ (by omega) (by omega) (fun a ha => by rw [mm_up_ne _ _ _ ha]; exact h1 a ha) (fun k hk => ?_) ?_
        · rw [mm_up_eq, upd_ne _ _ hk]
          exact h2 k hk
        · rw [mm_up_eq, upd_eq, hY]
      unfold f_X12_wander_c116
      rw [og_in _ hv (by omega), og_in _ hv (by omega), nI_clamp (by omega), h3]
      simp (disch := omega) only [nI_leI]
      have un : mxN (fun u => come N fr n u * eN N u v) (u + 1) = if mxN (fun u => come N fr n u * eN N u v) u < come N fr n u * eN N u v then come N fr n u * eN N u v else mxN (fun u => come N fr n u * eN N u v) u := rfl
      by_cases h6 : X ≤ mxN (fun u => come N fr n u * eN N u v) u
      · rw [if_pos h6]
        exact nxt _ (by rw [un, if_neg (by omega)])
      · rw [if_neg h6]
        exact nxt X (by rw [un, if_pos (by omega), hX])
    rcases (wf_path hF hu hv).1 with e | ⟨s, hs, e, -⟩
    · rw [e, if_neg (show ¬ (0 : Int32) ≤ -1 by decide)]
      exact key 0 (by rw [show eN N u v = 0 from if_pos e, Nat.mul_zero])
    · rw [e, if_pos (show (0 : Int32) ≤ nI s from nI_pos' (by omega)), show (16 : Int32) - nI s = nI (16 - s) from pk_sub (a := 16) (by omega), pk_mul]
      refine key _ ?_
      unfold eN
      rw [e, if_neg (nI_nm1 (by omega)), nI_clamp (by omega)]
theorem m_c51 {g0 : Mm} {N : Nat → Int32} (hm : g0 1 = N) (hF : WF N) {n fr : Nat} (hn : n ≤ 6) (K41 : Int32 → Int32 → Mm → Option Mm) (x2 x3 x4 : Int32) (hr : ∀ u, u < 8 → g0 17 u = nI (come N fr n u)) : ∀ (d v f : Nat) (g : Mm), v + d = 8 → d < f → (∀ a, a ≠ 18 → g a = g0 a) → (∀ k, k < v → g 18 k = nI (come N fr (n + 1) k)) →
    ∃ g', f_X12_wander_c51 K41 x2 f x3 x4 (nI v) g = f_X12_wander_c164 K41 x2 FU x3 x4 0 g' ∧ (∀ a, a ≠ 18 → g' a = g0 a) ∧ ∀ k, k < 8 → g' 18 k = nI (come N fr (n + 1) k) := by
  intro d
  induction d with
  | zero =>
    intro v f g hi hf h1 h2
    obtain ⟨f, rfl⟩ := Nat.exists_eq_succ_of_ne_zero (show f ≠ 0 by omega)
    have e : v = 8 := by omega
    subst e
    rw [f_X12_wander_c51, if_pos (by decide)]
    exact ⟨g, rfl, h1, h2⟩
  | succ d ih =>
    intro v f g hi hf h1 h2
    obtain ⟨f, rfl⟩ := Nat.exists_eq_succ_of_ne_zero (show f ≠ 0 by omega)
    have hv : v < 8 := by omega
    rw [f_X12_wander_c51, if_neg (show ¬ (8 : Int32) ≤ nI v from nI_ge (b := 8) (a := v) hv (by omega)), og_in _ hv (by omega), mw_v, nI_clamp (by omega)]
    obtain ⟨g1, a1, a2, a3, a4⟩ := m_c69 (m := g0) (g0 := mm_up g 18 v 0) (N := N) (by rw [mm_up_ne _ _ _ (by omega), h1 1 (by omega)]; exact hm) hF hn hv K41 (f_X12_wander_c51 K41 x2 f) x2 x3 x4 (fr := fr) (fun u hu => by rw [mm_up_ne _ _ _ (by omega), h1 17 (by omega)]; exact hr u hu) 8 0 FU (mm_up g 18 v 0) (by omega) (fu_lt (by omega)) (fun _ _ => rfl) (fun _ _ => rfl) (by rw [mm_up_eq, upd_eq]; rfl)
    rw [show (0 : Int32) = nI 0 from rfl]
    rw [show (0 : Int32) = nI 0 from rfl] at a1
    rw [a1]
    refine ih (v + 1) f g1 (by omega) (by omega) (fun a ha => by rw [a2 a ha, mm_up_ne _ _ _ ha]; exact h1 a ha) (fun k hk => ?_)
    by_cases e : k = v
    · subst e
      exact a4
    · rw [a3 k e, mm_up_eq, upd_ne _ _ e]
      exact h2 k (by omega)
theorem m_c164 (K41 : Int32 → Int32 → Mm → Option Mm) {to : Nat} (hto : to < 8) (x3 x4 : Int32) (g0 : Mm) : ∀ (d k f : Nat) (g : Mm), k + d = 8 → d < f → (∀ a, a ≠ 17 → g a = g0 a) → (∀ j, j < k → g 17 j = g0 18 j) →
    ∃ g', f_X12_wander_c164 K41 (nI to) f x3 x4 (nI k) g = K41 (x3 / 16) (x4 + 1) (if (g0 18 to * x3) ≤ g0 0 23 then g' else mm_up (mm_up g' 0 23 (g0 18 to * x3)) 0 24 x4) ∧ (∀ a, a ≠ 17 → g' a = g0 a) ∧ ∀ j, j < 8 → g' 17 j = g0 18 j := by
  intro d
  induction d with
  | zero =>
    intro k f g hi hf h1 h2
    obtain ⟨f, rfl⟩ := Nat.exists_eq_succ_of_ne_zero (show f ≠ 0 by omega)
    have e : k = 8 := by omega
    subst e
    rw [f_X12_wander_c164, if_pos (by decide), og_in _ hto (by omega), og_in _ hto (by omega), nI_clamp (by omega), h2 to hto, h1 0 (by omega)]
    refine ⟨g, ?_, h1, h2⟩
    by_cases h6 : (g0 18 to * x3) ≤ g0 0 23
    · rw [if_pos h6, if_pos h6]
      rfl
    · rw [if_neg h6, if_neg h6]
      rfl
  | succ d ih =>
    intro k f g hi hf h1 h2
    obtain ⟨f, rfl⟩ := Nat.exists_eq_succ_of_ne_zero (show f ≠ 0 by omega)
    rw [f_X12_wander_c164, if_neg (show ¬ (8 : Int32) ≤ nI k from nI_ge (b := 8) (a := k) (by omega) (by omega)), og_in _ (by omega) (by omega), og_in _ (by omega) (by omega), mw_v, mv_v, nI_1, nI_clamp (by omega)]
    refine ih (k + 1) f _ (by omega) (by omega) (fun a ha => by rw [mm_up_ne _ _ _ ha]; exact h1 a ha) (fun j hj => ?_)
    rw [mm_up_eq]
    by_cases e : j = k
    · subst e
      rw [upd_eq, h1 18 (by omega)]
    · rw [upd_ne _ _ e]
      exact h2 j (by omega)
theorem m_c41 {g0 : Mm} {N : Nat → Int32} (hm : g0 1 = N) (hF : WF N) {fr to : Nat} (hto : to < 8) : ∀ (d n f : Nat) (g : Mm), n + d = 7 → d < f → (∀ a, a ≠ 0 → a ≠ 17 → a ≠ 18 → g a = g0 a) → (∀ k, k ≠ 23 → k ≠ 24 → g 0 k = g0 0 k) → (∀ u, u < 8 → g 17 u = nI (come N fr n u)) → g 0 23 = nI (ufN N fr to n).1 → ((ufN N fr to n).1 ≠ 0 → g 0 24 = nI (ufN N fr to n).2) →
    ∃ g', f_X12_wander_c41 (nI to) f (nI (16 ^ (6 - n))) (nI (n + 1)) g = some g' ∧ (∀ a, a ≠ 0 → a ≠ 17 → a ≠ 18 → g' a = g0 a) ∧ (∀ k, k ≠ 23 → k ≠ 24 → g' 0 k = g0 0 k) ∧ g' 0 23 = nI (ufN N fr to 7).1 ∧ ((ufN N fr to 7).1 ≠ 0 → g' 0 24 = nI (ufN N fr to 7).2) := by
  intro d
  induction d with
  | zero =>
    intro n f g hi hf h1 h2 h3 h4 h5
    obtain ⟨f, rfl⟩ := Nat.exists_eq_succ_of_ne_zero (show f ≠ 0 by omega)
    have e : n = 7 := by omega
    subst e
    rw [f_X12_wander_c41, if_pos (by decide)]
    exact ⟨g, rfl, h1, h2, h4, h5⟩
  | succ d ih =>
    intro n f g hi hf h1 h2 h3 h4 h5
    obtain ⟨f, rfl⟩ := Nat.exists_eq_succ_of_ne_zero (show f ≠ 0 by omega)
    rw [f_X12_wander_c41, if_neg (show ¬ (8 : Int32) ≤ nI (n + 1) from nI_ge (b := 8) (a := n + 1) (by omega) (by omega))]
    obtain ⟨g1, a1, a2, a3⟩ := m_c51 (g0 := g) (N := N) (by rw [h1 1 (by omega) (by omega) (by omega)]; exact hm) hF (show n ≤ 6 by omega) (f_X12_wander_c41 (nI to) f) (nI to) (nI (16 ^ (6 - n))) (nI (n + 1)) h3 8 0 FU g (by omega) (fu_lt (by omega)) (fun _ _ => rfl) (fun k hk => by omega)
    obtain ⟨g2, b1, b2, b3⟩ := m_c164 (f_X12_wander_c41 (nI to) f) hto (nI (16 ^ (6 - n))) (nI (n + 1)) g1 8 0 FU g1 (by omega) (fu_lt (by omega)) (fun _ _ => rfl) (fun k hk => by omega)
    rw [show (0 : Int32) = nI 0 from rfl, a1, show (0 : Int32) = nI 0 from rfl, b1]
    have hp6 : (16 : Nat) ^ (6 - n) ≤ 16 ^ 6 := Nat.pow_le_pow_right (by omega) (by omega)
    have hb := come_b N fr (show n + 1 ≤ 7 by omega) to
    rw [show 7 - (n + 1) = 6 - n by omega] at hb
    have hb2 := (ufN_b N fr to n (by omega)).1
    have un : ufN N fr to (n + 1) = if (ufN N fr to n).1 < come N fr (n + 1) to * 16 ^ (6 - n) then (come N fr (n + 1) to * 16 ^ (6 - n), n + 1) else ufN N fr to n := rfl
    rw [a3 to hto, a2 0 (by omega), h4, pk_mul, nI_1]
    simp (disch := omega) only [nI_leI]
    have hsc : n ≤ 5 → nI (16 ^ (6 - n)) / 16 = nI (16 ^ (6 - (n + 1))) := fun hn => by
      rw [show nI (16 ^ (6 - n)) / 16 = nI (16 ^ (6 - n) / 16) from pk_div (d := 16) (by omega) (by omega) (by omega), show 6 - n = (6 - (n + 1)) + 1 by omega, Nat.pow_succ, Nat.mul_div_cancel _ (by omega)]
    have g2f : ∀ a, a ≠ 0 → a ≠ 17 → a ≠ 18 → g2 a = g0 a := fun a ha hb hc => by rw [b2 a hb, a2 a hc]; exact h1 a ha hb hc
    have g20 : g2 0 = g 0 := by rw [b2 0 (by omega), a2 0 (by omega)]
    have g217 : ∀ u, u < 8 → g2 17 u = nI (come N fr (n + 1) u) := fun u hu => by rw [b3 u hu, a3 u hu]
    have last : ∀ gx : Mm, (∀ a, a ≠ 0 → a ≠ 17 → a ≠ 18 → gx a = g0 a) → (∀ k, k ≠ 23 → k ≠ 24 → gx 0 k = g0 0 k) → (∀ u, u < 8 → gx 17 u = nI (come N fr (n + 1) u)) → gx 0 23 = nI (ufN N fr to (n + 1)).1 → ((ufN N fr to (n + 1)).1 ≠ 0 → gx 0 24 = nI (ufN N fr to (n + 1)).2) → ∃ g', f_X12_wander_c41 (nI to) f (nI (16 ^ (6 - n)) / 16) (nI (n + 1 + 1)) gx = some g' ∧ (∀ a, a ≠ 0 → a ≠ 17 → a ≠ 18 → g' a = g0 a) ∧ (∀ k, k ≠ 23 → k ≠ 24 → g' 0 k = g0 0 k) ∧ g' 0 23 = nI (ufN N fr to 7).1 ∧ ((ufN N fr to 7).1 ≠ 0 → g' 0 24 = nI (ufN N fr to 7).2) := by
      intro gx q1 q2 q3 q4 q5
      by_cases hn : n ≤ 5
      · rw [hsc hn]
        exact ih (n + 1) f gx (by omega) (by omega) q1 q2 q3 q4 q5
      · have e : n = 6 := by omega
        subst e
        obtain ⟨f, rfl⟩ := Nat.exists_eq_succ_of_ne_zero (show f ≠ 0 by omega)
        rw [f_X12_wander_c41, if_pos (by decide)]
        exact ⟨gx, rfl, q1, q2, q4, q5⟩
    by_cases h6 : come N fr (n + 1) to * 16 ^ (6 - n) ≤ (ufN N fr to n).1
    · rw [if_pos h6]
      rw [if_neg (by omega)] at un
      refine last g2 g2f (fun k hk hk2 => by rw [g20]; exact h2 k hk hk2) g217 (by rw [g20, un]; exact h4) (fun hz => by rw [g20, un]; rw [un] at hz; exact h5 hz)
    · rw [if_neg h6]
      rw [if_pos (by omega)] at un
      refine last _ (fun a ha hb hc => by rw [mm_up_ne _ _ _ ha, mm_up_ne _ _ _ ha]; exact g2f a ha hb hc) (fun k hk hk2 => ?_) (fun u hu => by rw [mm_up_ne _ _ _ (by omega), mm_up_ne _ _ _ (by omega)]; exact g217 u hu) ?_ (fun _ => ?_)
      · rw [mm_up_eq, upd_ne _ _ hk2, mm_up_eq, upd_ne _ _ hk, g20]
        exact h2 k hk hk2
      · rw [mm_up_eq, upd_ne _ _ (by omega), mm_up_eq, upd_eq, un]
      · rw [mm_up_eq, upd_eq, un]
theorem m_c7 {g0 : Mm} {fr : Nat} (hfr : fr < 8) (x2 : Int32) (N : Nat → Int32) : ∀ (d k f : Nat) (g : Mm), k + d = 8 → d < f → (∀ a, a ≠ 17 → g a = g0 a) → (∀ j, j < k → g 17 j = nI (come N fr 0 j)) → ∃ g', f_X12_wander_c7 (nI fr) x2 f (nI k) g = f_X12_wander_c41 x2 FU 16777216 1 g' ∧ (∀ a, a ≠ 17 → g' a = g0 a) ∧ ∀ j, j < 8 → g' 17 j = nI (come N fr 0 j) := by
  intro d
  induction d with
  | zero =>
    intro k f g hi hf h1 h2
    obtain ⟨f, rfl⟩ := Nat.exists_eq_succ_of_ne_zero (show f ≠ 0 by omega)
    have e : k = 8 := by omega
    subst e
    rw [f_X12_wander_c7, if_pos (by decide)]
    exact ⟨g, rfl, h1, h2⟩
  | succ d ih =>
    intro k f g hi hf h1 h2
    obtain ⟨f, rfl⟩ := Nat.exists_eq_succ_of_ne_zero (show f ≠ 0 by omega)
    have nxt : ∀ x : Nat, x = come N fr 0 k → ∃ g', f_X12_wander_c28 (f_X12_wander_c7 (nI fr) x2 f) (nI fr) x2 (nI k) 17 (nI k) (nI x) g = f_X12_wander_c41 x2 FU 16777216 1 g' ∧ (∀ a, a ≠ 17 → g' a = g0 a) ∧ ∀ j, j < 8 → g' 17 j = nI (come N fr 0 j) := by
      intro x hx
      unfold f_X12_wander_c28
      rw [og_in _ (by omega) (by omega), mw_v, mv_v, nI_1, nI_clamp (by omega)]
      refine ih (k + 1) f _ (by omega) (by omega) (fun a ha => by rw [mm_up_ne _ _ _ ha]; exact h1 a ha) (fun j hj => ?_)
      rw [mm_up_eq]
      by_cases e : j = k
      · subst e
        rw [upd_eq, hx]
      · rw [upd_ne _ _ e]
        exact h2 j (by omega)
    rw [f_X12_wander_c7, if_neg (show ¬ (8 : Int32) ≤ nI k from nI_ge (b := 8) (a := k) (by omega) (by omega))]
    by_cases e : k = fr
    · subst e
      rw [if_pos rfl]
      exact nxt 1 (if_pos rfl).symm
    · rw [if_neg (fun q => e (nI_inj (by omega) (by omega) q))]
      exact nxt 0 (if_neg e).symm
theorem m_wander {m : Mm} (hF : WF (m 1)) {fr to : Nat} (hfr : fr < 8) (hto : to < 8) : ∃ g', f_X12_wander (nI fr) (nI to) m = some g' ∧ (∀ a, a ≠ 0 → a ≠ 17 → a ≠ 18 → g' a = m a) ∧ (∀ k, k ≠ 23 → k ≠ 24 → g' 0 k = m 0 k) ∧ g' 0 23 = nI (ufN (m 1) fr to 7).1 ∧ ((ufN (m 1) fr to 7).1 ≠ 0 → g' 0 24 = nI (ufN (m 1) fr to 7).2) := by
  unfold f_X12_wander
  rw [mw_v]
  obtain ⟨g1, a1, a2, a3⟩ := m_c7 (g0 := mm_up m 0 23 0) hfr (nI to) (m 1) 8 0 FU (mm_up m 0 23 0) (by omega) (fu_lt (by omega)) (fun _ _ => rfl) (fun j hj => by omega)
  rw [show f_X12_wander_c7 (nI fr) (nI to) FU 0 (mm_up m 0 23 0) = _ from a1]
  refine m_c41 (g0 := m) (N := m 1) rfl hF hto 7 0 FU g1 (by omega) (fu_lt (by omega)) (fun a ha hb hc => by rw [a2 a hb, mm_up_ne _ _ _ ha]) (fun k hk hk2 => by rw [a2 0 (by omega), mm_up_eq, upd_ne _ _ hk]) a3 ?_ (fun hz => absurd rfl hz)
  rw [a2 0 (by omega), mm_up_eq, upd_eq]
  rfl
/-- scratch of both sides changed -/
theorem Rel.scr2 {n : Nat} {c m c' m' : Mm} (h : Rel n c m) (hc : ∀ a, a ≠ 26 → a ≠ 36 → a ≠ 37 → c' a = c a) (hm : ∀ a, a ≠ 0 → a ≠ 17 → a ≠ 18 → m' a = m a) (hm0 : ∀ k, k ≠ 23 → k ≠ 24 → m' 0 k = m 0 k) : Rel (n + 1) c' m' := by
  have m1 := hm 1 (by omega) (by omega) (by omega)
  exact ⟨by rw [m1]; exact wr_scr2 h.1 hc, by rw [m1]; exact h.2.1, h.2.2.1.kept (by rw [hc 0 (by omega) (by omega) (by omega)]) (hm0 2 (by omega) (by omega)) (hm 2 (by omega) (by omega) (by omega)) (fun a _ h1 => hc a (by omega) (by omega) (by omega)), h.2.2.2.1.kept (hm0 4 (by omega) (by omega)) (by rw [hc 83 (by omega) (by omega) (by omega)]) (hc 84 (by omega) (by omega) (by omega)) (hm 3 (by omega) (by omega) (by omega)), h.2.2.2.2.1.kept (fun a h1 _ => hc a (by omega) (by omega) (by omega)) (hm 4 (by omega) (by omega) (by omega)) (hm 5 (by omega) (by omega) (by omega)) (hm 6 (by omega) (by omega) (by omega)), h.2.2.2.2.2.mono (by omega) (by rw [hc 135 (by omega) (by omega) (by omega)]) (hc 138 (by omega) (by omega) (by omega)) (fun a _ _ => hc a (by omega) (by omega) (by omega)) (fun a _ _ => hm a (by omega) (by omega) (by omega))⟩
theorem gcd_odd {u : Nat} (h : u % 2 = 1) : ∀ k, Nat.gcd u (2 ^ k) = 1
  | 0 => Nat.gcd_one_right u
  | k + 1 => by
    have h2 : Nat.gcd u 2 = 1 := by rw [Nat.gcd_comm, Nat.gcd_rec, h]; rfl
    exact Nat.Coprime.pow_right (k + 1) h2
theorem m_unseen_c46 (g : Mm) (x3 : Int32) : ∀ (k u f : Nat), k ≤ 28 → 0 < u → u < 2 ^ 31 → k < f → f_X12_unseen_c46 x3 f (nI u) (nI (2 ^ k)) g = some (if x3 = 0 then nI (u / Nat.gcd u (2 ^ k)) else nI (2 ^ k / Nat.gcd u (2 ^ k)), g) := by
  intro k
  induction k with
  | zero =>
    intro u f hk hu hu2 hf
    obtain ⟨f, rfl⟩ := Nat.exists_eq_succ_of_ne_zero (show f ≠ 0 by omega)
    rw [f_X12_unseen_c46]
    unfold f_X12_unseen_c74
    rw [Nat.pow_zero, Nat.gcd_one_right, Nat.div_one, Nat.div_one]
    have fin : (if x3 = 0 then some (nI u, g) else some (nI 1, g)) = some (if x3 = 0 then nI u else nI 1, g) := by split <;> rfl
    split
    · rw [if_pos (by decide)]
      exact fin
    · exact fin
  | succ k ih =>
    intro u f hk hu hu2 hf
    obtain ⟨f, rfl⟩ := Nat.exists_eq_succ_of_ne_zero (show f ≠ 0 by omega)
    have hp : (2 : Nat) ^ (k + 1) ≤ 2 ^ 28 := Nat.pow_le_pow_right (by omega) hk
    have hp2 : 1 < (2 : Nat) ^ (k + 1) := Nat.one_lt_two_pow (by omega)
    rw [f_X12_unseen_c46, show (2 : Int32) = nI 2 from rfl, pk_rem hu2 (by omega) (by omega)]
    by_cases h2 : u % 2 = 0
    · rw [h2, if_pos (show nI 0 = (0 : Int32) from rfl), if_neg (show ¬ nI (2 ^ (k + 1)) ≤ 1 from nI_ge (b := 2 ^ (k + 1)) (a := 1) hp2 (by omega)), mv_v, mv_v, pk_div hu2 (by omega) (by omega), pk_div (by omega) (by omega) (by omega), show 2 ^ (k + 1) / 2 = 2 ^ k by rw [Nat.pow_succ, Nat.mul_div_cancel _ (by omega)], ih (u / 2) f (by omega) (by omega) (by omega) (by omega)]
      have e1 : u = 2 * (u / 2) := by omega
      have e2 : Nat.gcd u (2 ^ (k + 1)) = 2 * Nat.gcd (u / 2) (2 ^ k) := by
        rw [Nat.pow_succ', ← Nat.gcd_mul_left, ← e1]
      rw [e2, show u / (2 * Nat.gcd (u / 2) (2 ^ k)) = u / 2 / Nat.gcd (u / 2) (2 ^ k) by rw [Nat.div_div_eq_div_mul], Nat.pow_succ', Nat.mul_div_mul_left _ _ (by omega)]
    · rw [if_neg (nI_ne0 (by omega) (by omega)), gcd_odd (show u % 2 = 1 by omega), Nat.div_one, Nat.div_one]
      unfold f_X12_unseen_c74
      split <;> rfl
theorem sim_unseen {n : Nat} {c m : Mm} (h : Rel n c m) (x1 x2 x3 : Int32) : Sim n (f_X11_unseen x1 x2 x3 c) (f_X12_unseen x1 x2 x3 m) := by
  have hW := h.1
  have hF := h.2.1
  unfold f_X11_unseen f_X12_unseen
  rcases points_both x1 x2 with ⟨e1, e2⟩ | ⟨a, b, ha, hb, hab, rfl, rfl, e1, e2⟩
  · rw [e1, e2]
    exact Sim.ret rfl h.next
  rw [e1, e2, op_v, op_v, if_neg (show ¬ (1 : Int32) = 0 by decide), if_neg (show ¬ (1 : Int32) = 0 by decide), isWithin_eq, in_0_1, op_v, op_v]
  by_cases h3 : wi x3 0 1 = 0
  · rw [if_pos h3, if_pos h3]; exact Sim.ret rfl h.next
  rw [if_neg h3, if_neg h3]
  obtain ⟨c', k1, k2, k3, k4⟩ := k_search hW hF ha hb
  obtain ⟨m', w1, w2, w3, w4, w5⟩ := m_wander hF ha hb
  rw [k1, w1, ob_v, op_v, k3, w4]
  have hb3 := (ufN_b (m 1) a b 7 (by omega)).1
  have hR := h.scr2 k2 w2 w3
  generalize (ufN (m 1) a b 7).1 = U at hb3 ⊢
  by_cases e : U = 0
  · subst e
    exact Sim.ret rfl hR
  · rw [if_neg e, if_neg (show ¬ (1 : Int32) = 0 by decide), if_neg (nI_ne0 (by omega) (by omega)), mv_v, show (268435456 : Int32) = nI (2 ^ 28) from rfl, k_partOf (by omega) (by omega) (by omega), op_v, m_unseen_c46 m' x3 28 U FU (by omega) (by omega) (by omega) (fu_lt (by omega))]
    exact Sim.ret rfl hR
theorem sim_paths {n : Nat} {c m : Mm} (h : Rel n c m) (x1 x2 : Int32) : Sim n (f_X11_paths x1 x2 c) (f_X12_paths x1 x2 m) := by
  have hW := h.1
  have hF := h.2.1
  unfold f_X11_paths f_X12_paths
  rcases points_both x1 x2 with ⟨e1, e2⟩ | ⟨a, b, ha, hb, hab, rfl, rfl, e1, e2⟩
  · rw [e1, e2]
    exact Sim.ret rfl h.next
  rw [e1, e2, op_v, op_v, if_neg (show ¬ (1 : Int32) = 0 by decide), if_neg (show ¬ (1 : Int32) = 0 by decide)]
  obtain ⟨c', k1, k2, k3, k4⟩ := k_search hW hF ha hb
  obtain ⟨m', w1, w2, w3, w4, w5⟩ := m_wander hF ha hb
  rw [k1, w1, ob_v, op_v, w4, k4]
  have hb3 := (ufN_b (m 1) a b 7 (by omega)).1
  have hR := h.scr2 k2 w2 w3
  by_cases e : (ufN (m 1) a b 7).1 = 0
  · rw [e]
    exact Sim.ret rfl hR
  · rw [if_neg e, if_neg (show ¬ (1 : Int32) = 0 by decide), if_neg (nI_ne0 (by omega) (by omega)), w5 e]
    exact Sim.ret rfl hR
