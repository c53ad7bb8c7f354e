theorem gcd_step (a b : Nat) : Nat.gcd a b = Nat.gcd b (a % b) := by
  rw [Nat.gcd_comm a b, Nat.gcd_rec b a, Nat.gcd_comm]
theorem mod_half {a b : Nat} (hb : 0 < b) (h : b ≤ a) : 2 * (a % b) < a + 1 ∧ 2 * (a % b) < a := by
  have h1 := Nat.mod_lt a hb
  have h2 := Nat.div_add_mod a b
  have h3 : 1 ≤ a / b := Nat.div_pos h hb
  have h4 : b ≤ b * (a / b) := Nat.le_mul_of_pos_right b h3
  omega
theorem k_gcd : ∀ (k a b i f : Nat), a < 2 ^ 31 → b < 2 ^ 31 → b < 2 ^ k → i + 2 * k < 64 → 2 * k < f → f_X11_greatestDivisor_c7 f (nI a) (nI b) (nI i) = some (nI (Nat.gcd a b)) := by
  intro k
  induction k with
  | zero =>
    intro a b i f ha hb2 hb hi hf
    obtain ⟨f, rfl⟩ := Nat.exists_eq_succ_of_ne_zero (show f ≠ 0 by omega)
    have e : b = 0 := by omega
    subst e
    rw [f_X11_greatestDivisor_c7, Nat.gcd_zero_right]
    split
    · rfl
    · exact if_pos rfl
  | succ k ih =>
    intro a b i f ha hb2 hb hi hf
    obtain ⟨f, rfl⟩ := Nat.exists_eq_succ_of_ne_zero (show f ≠ 0 by omega)
    rw [f_X11_greatestDivisor_c7]
    by_cases h0 : b = 0
    · subst h0
      rw [Nat.gcd_zero_right]
      split
      · rfl
      · exact if_pos rfl
    have e0 : decide (¬ nI b = 0) = true := decide_eq_true (nI_ne0 (by omega) hb2)
    simp (disch := omega) only [show (64 : Int32) = nI 64 from rfl, nI_leI, if_neg (show ¬ 64 ≤ i by omega), if_neg (nI_ne0 (show 0 < b by omega) hb2), e0, og_t, mv_v, pk_rem, nI_1]
    rw [gcd_step a b]
    have hr : a % b < b := Nat.mod_lt a (by omega)
    obtain ⟨f, rfl⟩ := Nat.exists_eq_succ_of_ne_zero (show f ≠ 0 by omega)
    rw [f_X11_greatestDivisor_c7]
    by_cases h1 : a % b = 0
    · rw [h1, Nat.gcd_zero_right]
      split
      · rfl
      · exact if_pos rfl
    have e1 : decide (¬ nI (a % b) = 0) = true := decide_eq_true (nI_ne0 (by omega) (by omega))
    simp (disch := omega) only [show (64 : Int32) = nI 64 from rfl, nI_leI, if_neg (show ¬ 64 ≤ i + 1 by omega), if_neg (nI_ne0 (show 0 < a % b by omega) (by omega)), e1, og_t, mv_v, pk_rem, nI_1]
    rw [gcd_step b (a % b)]
    have hr2 : b % (a % b) < a % b := Nat.mod_lt b (by omega)
    have hh := (mod_half (a := b) (b := a % b) (by omega) (by omega)).2
    have hp : 2 ^ (k + 1) = 2 * 2 ^ k := Nat.pow_succ'
    exact ih (a % b) (b % (a % b)) (i + 1 + 1) f (by omega) (by omega) (by omega) (by omega) (by omega)
theorem k_partOf {a b : Nat} (ha : a < 2 ^ 31) (hb : b < 2 ^ 29) (h0 : 0 < b) (x : Int32) : f_X11_partOf (nI a) (nI b) x = some (if x = 0 then nI (a / Nat.gcd a b) else nI (b / Nat.gcd a b)) := by
  have hg : 0 < Nat.gcd a b := Nat.gcd_pos_of_pos_right a h0
  have hg2 : Nat.gcd a b ≤ b := Nat.gcd_le_right a h0
  unfold f_X11_partOf f_X11_greatestDivisor
  rw [show (0 : Int32) = nI 0 from rfl, k_gcd 29 a b 0 FU ha (by omega) hb (by omega) (fu_lt (by omega)), op_v]
  have e0 : decide (¬ nI (Nat.gcd a b) = nI 0) = true := decide_eq_true (nI_ne0 hg (by omega))
  rw [if_neg (show ¬ nI (Nat.gcd a b) = nI 0 from nI_ne0 hg (by omega)), e0, og_t, og_t, pk_div ha hg (by omega), pk_div (by omega) hg (by omega)]
  split <;> rfl
theorem m_odds_c108 (m : Mm) (x6 u v : Int32) : ∀ (b a f : Nat), a < 2 ^ 31 → b < 2 ^ 31 → 0 < Nat.gcd a b → b < f → f_X12_odds_c108 x6 f u v (nI a) (nI b) m = some (if x6 = 0 then u / nI (Nat.gcd a b) else v / nI (Nat.gcd a b)) := by
  intro b
  induction b using Nat.strongRecOn with
  | _ b ih =>
    intro a f ha hb hg hf
    obtain ⟨f, rfl⟩ := Nat.exists_eq_succ_of_ne_zero (show f ≠ 0 by omega)
    rw [f_X12_odds_c108]
    by_cases h0 : b = 0
    · subst h0
      rw [Nat.gcd_zero_right] at hg ⊢
      have e0 : decide (¬ nI a = 0) = true := decide_eq_true (nI_ne0 hg ha)
      rw [if_pos (show nI 0 = (0 : Int32) from rfl), e0, og_t, og_t]
      split <;> rfl
    · have e0 : decide (¬ nI b = 0) = true := decide_eq_true (nI_ne0 (by omega) hb)
      rw [if_neg (nI_ne0 (by omega) hb), e0, og_t, mv_v, pk_rem ha (by omega) hb, gcd_step a b]
      have hr : a % b < b := Nat.mod_lt a (by omega)
      rw [gcd_step a b] at hg
      exact ih (a % b) hr b f hb (by omega) hg (by omega)
theorem sim_odds {n : Nat} {c m : Mm} (h : Rel n c m) (x1 x2 x3 x4 x5 x6 : Int32) : SimC n (f_X11_odds x1 x2 x3 x4 x5 x6 c) (f_X12_odds x1 x2 x3 x4 x5 x6 m) m := by
  have hW := h.1
  have hF := h.2.1
  have bad : ∀ (Y : Option Int32), Y = some (-1) → (f_X11_odds x1 x2 x3 x4 x5 x6 c = some (-1, c)) → SimC n (f_X11_odds x1 x2 x3 x4 x5 x6 c) Y m := fun Y e1 e2 => ⟨-1, c, e2, e1, h.next⟩
  unfold f_X12_odds f_X12_isSheet
  simp only [in_0_3, in_0_2, in_1_12, in_0_1, m_isPerson, op_v]
  by_cases h1 : wi x1 0 3 = 0
  · refine bad _ (by simp only [if_pos h1, op_v, if_true]) ?_
    unfold f_X11_odds f_X11_readTrail
    simp only [isWithin_eq, k_isSheet, op_v, if_pos h1, ob_v]
    split <;> rfl
  by_cases h2 : wi x2 0 2 = 0
  · refine bad _ (by simp only [if_neg h1, if_pos h2, op_v, if_true]) ?_
    unfold f_X11_odds f_X11_readTrail
    simp only [isWithin_eq, k_isSheet, k_isLane, op_v, if_neg h1, if_pos h2, ob_v]
    split <;> rfl
  simp only [if_neg h1, if_neg h2, op_v]
  rw [if_neg (show ¬ (1 : Int32) = 0 by decide)]
  by_cases h4 : wi x4 1 12 = 0
  · refine bad _ (by simp only [if_pos h4]) ?_
    unfold f_X11_odds f_X11_readTrail
    simp only [isWithin_eq, k_isSheet, k_isLane, op_v, if_neg h1, if_neg h2, if_pos h4, ob_v]
    split <;> rfl
  rw [if_neg h4]
  by_cases h5 : wi x5 0 (m 1 0 - 1) = 0
  · refine bad _ (by simp only [if_pos h5]) ?_
    unfold f_X11_odds f_X11_readTrail
    simp only [isWithin_eq, k_isSheet, k_isLane, k_isPerson hW, op_v, if_neg h1, if_neg h2, if_neg h4, if_pos h5, ob_v]
    split <;> rfl
  rw [if_neg h5]
  by_cases h6 : wi x6 0 1 = 0
  · refine bad _ (by simp only [if_pos h6]) ?_
    unfold f_X11_odds
    simp only [isWithin_eq, op_v, if_pos h6]
  rw [if_neg h6]
  unfold f_X11_odds
  rw [isWithin_eq, op_v, if_neg h6]
  obtain ⟨s, l1, rfl⟩ := wi_nz (b := 3) (by omega) h1
  obtain ⟨q, -, l4, rfl⟩ := wi_1 (b := 12) (by omega) h4
  obtain ⟨np, l0, e0⟩ := wf_np hF
  obtain ⟨ns, l8, e8⟩ := wf_ns hF
  obtain ⟨j, l5, rfl⟩ := wi_pr (n := np) (by omega) (by rw [e0] at h5; exact h5)
  rcases trail_read h l1 h1 h2 x3 l4 h4 h5 with ⟨r, c', r1, r2, r3, r4⟩ | ⟨c', i0, rfl, r0, r2, r3, r4, r5, r6⟩
  · rw [r2, r3, ob_v, op_v, if_neg r1, if_neg r1]
    exact SimC.ret rfl (h.trail r4)
  · rw [r2, r3, ob_v, op_v]
    simp only [if_pos (show (0 : Int32) ≤ 0 by decide)]
    have hW' : WR c' 1 (m 1) := hW.kept' (fun a _ h2 => r4 a (by omega) (by omega))
    have e24 : (24 : Int32) * nI s + nI i0 = nI (24 * s + i0) := by
      rw [show (24 : Int32) = nI 24 from rfl, pk_mul, nI_add]
    rw [e24, k_waysOf hW' l8 e8 l4 r5 (by omega), k_waysOfAll hW' l0 e0 l8 e8 l4 r5, m_waysOf hF r0 l8 e8 (by omega), m_waysOfAll hF r0 l0 e0 l8 e8, op_v, op_v, op_v, op_v]
    have ec : ∀ j, ways (m 1) (c' 141) q ns j = ways (m 1) (fun k => m 6 (24 * s + i0 + k)) q ns j := fun j => ways_congr r6 ns j
    rw [ec j, sumN_congr np (fun k _ => ec k)]
    have b1 := ways_le (m 1) (fun k => m 6 (24 * s + i0 + k)) q l8 j
    have b2' : sumN (ways (m 1) (fun k => m 6 (24 * s + i0 + k)) q ns) np ≤ np * 257 := sumN_le np (fun k _ => ways_le (m 1) _ q l8 k)
    have b3 : np * 257 ≤ 5 * 257 := Nat.mul_le_mul_right 257 l0
    generalize ways (m 1) (fun k => m 6 (24 * s + i0 + k)) q ns j = up at b1 ⊢
    generalize sumN (ways (m 1) (fun k => m 6 (24 * s + i0 + k)) q ns) np = dn at b2' ⊢
    by_cases h9 : dn = 0
    · subst h9
      exact SimC.ret rfl (h.trail r4)
    · have e9 : ¬ nI dn = 0 := nI_ne0 (by omega) (by omega)
      have hg : 0 < Nat.gcd up dn := Nat.gcd_pos_of_pos_right up (by omega)
      have hg2 : Nat.gcd up dn ≤ dn := Nat.gcd_le_right up (by omega)
      rw [if_neg e9, if_neg e9, k_partOf (by omega) (by omega) (by omega), op_v, m_odds_c108 m x6 _ _ dn up FU (by omega) (by omega) hg (fu_lt (by omega)), pk_div (by omega) hg (by omega), pk_div (by omega) hg (by omega)]
      exact SimC.ret rfl (h.trail r4)
