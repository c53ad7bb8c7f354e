/-- the end of a tax text: 'fine' and nothing after -/
theorem both_c109 {S : Nat → Int32} {t : Nat} (ht : t ≤ 60) {c m : Mm} (c1 : c 83 1 = nI t) (c2 : ∀ k, k < 60 → c 84 k = S k) (m1 : m 0 4 = nI t) (m2 : ∀ k, k < 60 → m 3 k = S k) (hS : SI S t) (fi fo : Int32) (R V : Nat → Int32) {p k : Nat} (hp : p ≤ t) (hk0 : 0 < k) (hk : k ≤ 4) :
    ((f_X6_readTax_c109 83 (nI k) (cT c (nI p) fi fo R) = some (-20 - nI (sk S t p), cT c (nI (sk S t p)) fi fo R) ∧ f_X12_takesTax_c136 (nI k) (mT m (nI p) V) = some (-1, mT m (nI (sk S t p)) V)) ∨
     (f_X6_readTax_c109 83 (nI k) (cT c (nI p) fi fo R) = some (nI k, cT c (nI (sk S t p)) fi fo R) ∧ f_X12_takesTax_c136 (nI k) (mT m (nI p) V) = some (nI k, mT m (nI (sk S t p)) V))) := by
  unfold f_X6_readTax_c109 f_X12_takesTax_c136
  rw [if_neg (nI_nle hk0 (by omega)), k_look (cT_rc c1 c2 p fi fo R) ht hp, m_next (mT_rm m1 m2 p V) ht hp]
  simp only [ob_v, cT_p, mT_p, cT_p']
  generalize sk S t p = q
  unfold sg
  by_cases e : t ≤ q
  · rw [if_pos e, if_pos rfl, if_neg (show ¬ (0 : Int32) ≤ -1 by decide)]
    exact Or.inr ⟨rfl, rfl⟩
  · obtain ⟨b, b1, b2, b3⟩ := hS q (by omega)
    rw [if_neg e, b3, if_neg (nI_nm1 (by omega)), if_pos (nI_pos' (by omega))]
    exact Or.inl ⟨rfl, rfl⟩
/-- what the class has drafted, what the model has read -/
def TF (N : Nat → Int32) (fi fo : Int32) (R V : Nat → Int32) : Prop := (∀ j, j < 4 → (V j = -1 ∧ R j = N (95 + j)) ∨ ∃ v, v ≤ 9 ∧ V j = nI v ∧ R j = nI v) ∧ ((V 4 = -1 ∧ fi = N 2) ∨ ∃ v, v ≤ 99 ∧ V 4 = nI v ∧ fi = nI v) ∧ ((V 5 = -1 ∧ fo = N 3) ∨ ∃ v, v ≤ 1 ∧ V 5 = nI v ∧ fo = nI v)
theorem TI.tf {N R V : Nat → Int32} {mk : Nat} (h : TI N R V mk) : ∀ j, j < 4 → (V j = -1 ∧ R j = N (95 + j)) ∨ ∃ v, v ≤ 9 ∧ V j = nI v ∧ R j = nI v := by
  intro j hj
  cases e : mk.testBit j with
  | false => exact Or.inl ((h j hj).1 e)
  | true => exact Or.inr ((h j hj).2 e)
/-- both refuse at the same place, or both take it -/
def TX (S : Nat → Int32) (t : Nat) (N : Nat → Int32) (c m : Mm) (X Y : Option (Int32 × Mm)) : Prop :=
  (∃ q fi fo R V, q ≤ t ∧ sk S t q = q ∧ X = some (-20 - nI q, cT c (nI q) fi fo R) ∧ Y = some (-1, mT m (nI q) V)) ∨
  ∃ q fi fo R V k, k ≤ 4 ∧ q ≤ t ∧ TF N fi fo R V ∧ X = some (nI k, cT c (nI q) fi fo R) ∧ Y = some (nI k, mT m (nI q) V)
theorem both_tail {S : Nat → Int32} {t : Nat} (ht : t ≤ 60) (hS : SI S t) {c m : Mm} (c1 : c 83 1 = nI t) (c2 : ∀ k, k < 60 → c 84 k = S k) (m1 : m 0 4 = nI t) (m2 : ∀ k, k < 60 → m 3 k = S k) (N : Nat → Int32) {p : Nat} (hp : p ≤ t) (fo : Int32) (R V : Nat → Int32) (hI : TI N R V 0) (h4 : V 4 = -1) (h5 : (V 5 = -1 ∧ fo = N 3) ∨ ∃ v, v ≤ 1 ∧ V 5 = nI v ∧ fo = nI v) :
    TX S t N c m (f_X6_readTax_c47 83 85 (cT c (nI p) (N 2) fo R)) (f_X12_takesTax_c44 (mT m (nI p) V)) := by
  unfold f_X6_readTax_c47 f_X12_takesTax_c44 f_X6_readRates
  obtain ⟨q, R', V', a1, a2, a3⟩ := both_rates ht hS c1 c2 m1 m2 N (N 2) fo 4 p FU FU 0 R V (by omega) rfl (fu_lt (by omega)) (fu_lt (by omega)) hp hI
  rcases a3 with ⟨b1, b2, b3⟩ | ⟨mk, b1, b2, b3, b4, b5⟩
  · rw [show f_X6_readRates_c4 83 85 FU 0 0 (cT c (nI p) (N 2) fo R) = _ from b1, ob_v, if_pos rfl]
    exact Or.inl ⟨q, _, _, _, V', a1, b2, rfl, b3⟩
  · rw [show f_X6_readRates_c4 83 85 FU 0 0 (cT c (nI p) (N 2) fo R) = _ from b4, ob_v]
    rw [show ob (f_X12_next (mT m (nI p) V)) (fun r g => op (f_X12_sortOf r) (fun s => f_X12_takesTax_c54 FU 0 s g)) = _ from b5]
    have hle := (pc_le mk b1).1
    have s1 := sk_ge (S := S) a1
    unfold f_X12_takesTax_c101
    by_cases e0 : pc mk = 0
    · rw [e0, if_pos (show nI 0 = 0 from rfl), if_pos (show nI 0 ≤ 0 by decide)]
      unfold f_X12_takesTax_c136
      rw [if_pos (show nI 0 ≤ 0 by decide), b3 e0]
      exact Or.inl ⟨q, _, _, _, V', a1, b3 e0, rfl, rfl⟩
    · rw [if_neg (show ¬ nI (pc mk) = 0 from nI_ne0 (by omega) (by omega)), if_neg (show ¬ nI (pc mk) ≤ 0 from nI_nle (by omega) (by omega)), k_look (cT_rc c1 c2 q _ _ _) ht a1, m_next (mT_rm m1 m2 _ _) ht s1.2, sk_sk a1]
      simp only [ob_v, cT_p, mT_p]
      have s2 := sk_sk (S := S) a1
      generalize sk S t q = r at *
      have v4 : V' 4 = -1 := by rw [a2 4 (by omega), h4]
      have v5 : (V' 5 = -1 ∧ fo = N 3) ∨ ∃ v, v ≤ 1 ∧ V' 5 = nI v ∧ fo = nI v := by rw [a2 5 (by omega)]; exact h5
      by_cases e1 : sg S t r = 102
      · have hr := sg_lt (S := S) (t := t) (q := r) (by rw [e1]; decide)
        rw [if_pos e1, if_pos e1, mw_v, mw_v, cT_p', mT_p', cT_p, mT_p, nI_1]
        rcases both_number ht (show r + 1 ≤ t by omega) hS (lim := 99) (by omega) (slot := 4) (by omega) (cT_rc c1 c2 (r + 1) (N 2) fo R') (mT_rm m1 m2 (r + 1) V') with ⟨w1, w2⟩ | ⟨u, v, u1, u2, w1, w2⟩
        · rw [show f_X6_readNumber 83 99 (cT c (nI (r + 1)) (N 2) fo R') = _ from w1, show f_X12_takesNumber 4 99 (mT m (nI (r + 1)) V') = _ from w2, ob_v, ob_v, mw_v, if_pos rfl, cT_p, mT_p, cT_fi, cT_fi', if_neg (show ¬ (0 : Int32) ≤ -1 by decide)]
          exact Or.inl ⟨_, _, _, _, V', (sk_ge (by omega)).2, sk_sk (by omega), rfl, rfl⟩
        · rw [show f_X6_readNumber 83 99 (cT c (nI (r + 1)) (N 2) fo R') = _ from w1, show f_X12_takesNumber 4 99 (mT m (nI (r + 1)) V') = _ from w2, ob_v, ob_v, mw_v, if_neg (show ¬ (1 : Int32) = 0 by decide), cT_p, mT_p, cT_fi, cT_fi', if_pos (show 0 ≤ nI v from nI_pos' (by omega)), mT_V]
          have s3 := sk_ge (S := S) u1
          rcases both_c109 ht c1 c2 m1 m2 hS (nI v) fo R' (upd V' 4 (nI v)) u1 (show 0 < pc mk by omega) hle with ⟨z1, z2⟩ | ⟨z1, z2⟩
          · exact Or.inl ⟨_, _, _, _, _, s3.2, sk_sk u1, z1, z2⟩
          · refine Or.inr ⟨_, _, _, _, _, pc mk, hle, s3.2, ⟨fun j hj => ?_, Or.inr ⟨v, u2, upd_eq _ _ _, rfl⟩, ?_⟩, z1, z2⟩
            · rw [upd_ne _ _ (by omega)]
              exact b2.tf j hj
            · rw [upd_ne _ _ (by omega)]
              exact v5
      · rw [if_neg e1, if_neg e1]
        have hr : r ≤ t := s1.2
        rcases both_c109 ht c1 c2 m1 m2 hS (N 2) fo R' V' hr (show 0 < pc mk by omega) hle with ⟨z1, z2⟩ | ⟨z1, z2⟩
        · exact Or.inl ⟨_, _, _, _, _, (sk_ge hr).2, sk_sk hr, z1, z2⟩
        · exact Or.inr ⟨_, _, _, _, _, pc mk, hle, (sk_ge hr).2, ⟨b2.tf, Or.inl ⟨v4, rfl⟩, v5⟩, z1, z2⟩
theorem both_tax {S : Nat → Int32} {t : Nat} (ht : t ≤ 60) (hS : SI S t) {c m : Mm} (c1 : c 83 1 = nI t) (c2 : ∀ k, k < 60 → c 84 k = S k) (m1 : m 0 4 = nI t) (m2 : ∀ k, k < 60 → m 3 k = S k) (N : Nat → Int32) (g1 : c 85 1 = N 2) (g2 : c 85 2 = N 3) (g3 : ∀ j, j < 4 → c 86 j = N (95 + j)) (V : Nat → Int32) (hV : ∀ k, k < 18 → V k = -1) :
    TX S t N c m (f_X6_readTax 83 85 c) (f_X12_takesTax (mT m (nI 0) V)) := by
  have e : mm_up c 83 2 0 = cT c (nI 0) (N 2) (N 3) (c 86) := by
    funext a
    by_cases e : a = 83
    · subst e
      rw [mm_up_eq]
      rfl
    · rw [mm_up_ne _ _ _ e, cT, if_neg e]
      by_cases e2 : a = 85
      · subst e2
        rw [if_pos rfl, ← g1, ← g2]
        funext b
        by_cases q2 : b = 2
        · subst q2; rw [upd_eq]
        · rw [upd_ne _ _ q2]
          by_cases q1 : b = 1
          · subst q1; rw [upd_eq]
          · rw [upd_ne _ _ q1]
      · rw [if_neg e2]
        by_cases e3 : a = 86
        · subst e3
          rw [if_pos rfl]
        · rw [if_neg e3]
  unfold f_X6_readTax f_X12_takesTax
  rw [mw_v, e, k_look (cT_rc c1 c2 0 _ _ _) ht (by omega), m_next (mT_rm m1 m2 0 V) ht (by omega)]
  simp only [ob_v, cT_p, mT_p]
  have s1 := sk_ge (S := S) (show 0 ≤ t by omega)
  generalize sk S t 0 = q at *
  have hI : TI N (c 86) V 0 := fun j hj => ⟨fun _ => ⟨hV j (by omega), g3 j hj⟩, fun h => by rw [Nat.zero_testBit] at h; exact absurd h (by decide)⟩
  have foot : ∀ v : Nat, v ≤ 1 → q < t → TX S t N c m (f_X6_readTax_c34 83 85 85 (nI v) (cT c (nI q) (N 2) (N 3) (c 86))) (f_X12_takesTax_c33 7 (nI 5) (nI v) (mT m (nI q) V)) := by
    intro v hv hq
    unfold f_X6_readTax_c34 f_X12_takesTax_c33
    rw [og_in _ (by omega) (by omega), nI_clamp (by omega)]
    simp only [mw_v]
    rw [cT_fo, mT_V, cT_p', mT_p', cT_p, mT_p, nI_1]
    exact both_tail ht hS c1 c2 m1 m2 N (by omega) _ _ _ (fun j hj => by rw [upd_ne _ _ (by omega)]; exact hI j hj) (by rw [upd_ne _ _ (by omega)]; exact hV 4 (by omega)) (Or.inr ⟨v, hv, upd_eq _ _ _, rfl⟩)
  unfold f_X6_readTax_c22 f_X12_takesTax_c17
  by_cases h1 : sg S t q = 108
  · have hq := sg_lt (S := S) (t := t) (q := q) (by rw [h1]; decide)
    simp only [if_pos h1]
    exact foot 0 (by omega) hq
  · by_cases h2 : sg S t q = 114
    · have hq := sg_lt (S := S) (t := t) (q := q) (by rw [h2]; decide)
      simp only [if_neg h1, if_pos h2]
      exact foot 1 (by omega) hq
    · simp only [if_neg h1, if_neg h2]
      exact both_tail ht hS c1 c2 m1 m2 N s1.2 _ _ _ hI (hV 4 (by omega)) (Or.inl ⟨hV 5 (by omega), rfl⟩)
theorem m20_neg : ∀ q, q ≤ 60 → (-20 - nI q : Int32) < 0 := by decide +kernel
def wv (N V : Nat → Int32) (k j : Nat) : Int32 := if 0 ≤ V k then V k else N j
theorem m_taxes_c38 {h0 : Mm} {N V : Nat → Int32} (hV : h0 7 = V) (r : Int32) : ∀ (d i f : Nat) (N0 : Nat → Int32), i + d = 4 → d < f → (∀ k, k < i → N0 (95 + k) = wv N V k (95 + k)) → (∀ j, j < 95 ∨ 95 + i ≤ j → N0 j = N j) →
    ∃ N1, f_X12_taxes_c38 f r (nI i) (mm_row h0 1 N0) = some (r, mm_row h0 1 N1) ∧ (∀ k, k < 4 → N1 (95 + k) = wv N V k (95 + k)) ∧ N1 2 = wv N V 4 2 ∧ N1 3 = wv N V 5 3 ∧ ∀ j, j ≠ 2 → j ≠ 3 → j < 95 ∨ 99 ≤ j → N1 j = N j := by
  intro d
  have r7 : ∀ N0 : Nat → Int32, mm_row h0 1 N0 7 = V := fun N0 => by rw [mm_row_ne _ _ (by omega), hV]
  induction d with
  | zero =>
    intro i f N0 hi hf h1 h2
    obtain ⟨f, rfl⟩ := Nat.exists_eq_succ_of_ne_zero (show f ≠ 0 by omega)
    have e : i = 4 := by omega
    subst e
    have fin : ∀ N2 : Nat → Int32, (∀ k, k < 4 → N2 (95 + k) = wv N V k (95 + k)) → N2 2 = wv N V 4 2 → (∀ j, j ≠ 2 → j < 95 ∨ 99 ≤ j → N2 j = N j) → ∃ N1, (if 0 ≤ (mm_row h0 1 N2 7 (5 : Int32).toNatClampNeg) then f_X12_taxes_c144 r 1 3 (mm_row h0 1 N2 7 (5 : Int32).toNatClampNeg) (mm_row h0 1 N2) else f_X12_taxes_c144 r 1 3 (mm_row h0 1 N2 1 (3 : Int32).toNatClampNeg) (mm_row h0 1 N2)) = some (r, mm_row h0 1 N1) ∧ (∀ k, k < 4 → N1 (95 + k) = wv N V k (95 + k)) ∧ N1 2 = wv N V 4 2 ∧ N1 3 = wv N V 5 3 ∧ ∀ j, j ≠ 2 → j ≠ 3 → j < 95 ∨ 99 ≤ j → N1 j = N j := by
      intro N2 q1 q2 q3
      have put : ∀ x, x = wv N V 5 3 → f_X12_taxes_c144 r 1 3 x (mm_row h0 1 N2) = some (r, mm_row h0 1 (upd N2 3 x)) := fun x _ => by
        unfold f_X12_taxes_c144
        rw [show (3 : Int32) = nI 3 from rfl, og_in _ (by omega) (by omega), nI_clamp (by omega), mw_v, mm_up_row]
      have put2 : ∀ x, x = wv N V 5 3 → ∃ N1, f_X12_taxes_c144 r 1 3 x (mm_row h0 1 N2) = some (r, mm_row h0 1 N1) ∧ (∀ k, k < 4 → N1 (95 + k) = wv N V k (95 + k)) ∧ N1 2 = wv N V 4 2 ∧ N1 3 = wv N V 5 3 ∧ ∀ j, j ≠ 2 → j ≠ 3 → j < 95 ∨ 99 ≤ j → N1 j = N j := fun x hx =>
        ⟨_, put x hx, fun k hk => by rw [upd_ne _ _ (by omega)]; exact q1 k hk, by rw [upd_ne _ _ (by omega)]; exact q2, by rw [upd_eq]; exact hx, fun j j1 j2 j3 => by rw [upd_ne _ _ j2]; exact q3 j j1 j3⟩
      rw [r7, mm_row_at, show (5 : Int32).toNatClampNeg = 5 from rfl, show (3 : Int32).toNatClampNeg = 3 from rfl]
      by_cases e : 0 ≤ V 5
      · rw [if_pos e]
        exact put2 _ (if_pos e).symm
      · rw [if_neg e]
        exact put2 _ (by rw [q3 3 (by omega) (by omega)]; exact (if_neg e).symm)
    have put : ∀ x, x = wv N V 4 2 → ∃ N1, f_X12_taxes_c114 r 1 2 x (mm_row h0 1 N0) = some (r, mm_row h0 1 N1) ∧ (∀ k, k < 4 → N1 (95 + k) = wv N V k (95 + k)) ∧ N1 2 = wv N V 4 2 ∧ N1 3 = wv N V 5 3 ∧ ∀ j, j ≠ 2 → j ≠ 3 → j < 95 ∨ 99 ≤ j → N1 j = N j := fun x hx => by
      unfold f_X12_taxes_c114
      rw [show (2 : Int32) = nI 2 from rfl, og_in _ (by omega) (by omega), nI_clamp (by omega), mw_v, mm_up_row]
      exact fin (upd N0 2 x) (fun k hk => by rw [upd_ne _ _ (by omega)]; exact h1 k hk) (by rw [upd_eq]; exact hx) (fun j j1 j2 => by rw [upd_ne _ _ j1]; exact h2 j (by omega))
    rw [f_X12_taxes_c38, if_pos (by decide), r7, mm_row_at, show (4 : Int32).toNatClampNeg = 4 from rfl, show (2 : Int32).toNatClampNeg = 2 from rfl]
    by_cases e : 0 ≤ V 4
    · rw [if_pos e]
      exact put _ (if_pos e).symm
    · rw [if_neg e]
      exact put _ (by rw [h2 2 (by omega)]; exact (if_neg e).symm)
  | succ d ih =>
    intro i f N0 hi hf h1 h2
    obtain ⟨f, rfl⟩ := Nat.exists_eq_succ_of_ne_zero (show f ≠ 0 by omega)
    rw [f_X12_taxes_c38, if_neg (show ¬ (4 : Int32) ≤ nI i from nI_ge (b := 4) (by omega) (by omega)), show (95 : Int32) = nI 95 from rfl, nI_add, og_in _ (show i < 18 by omega) (by omega), og_in _ (show i < 18 by omega) (by omega), og_in _ (show 95 + i < 193 by omega) (by omega), nI_clamp (show i < 2 ^ 31 by omega), nI_clamp (show 95 + i < 2 ^ 31 by omega), r7, mm_row_at]
    have go : ∀ x, x = wv N V i (95 + i) → ∃ N1, f_X12_taxes_c78 (f_X12_taxes_c38 f) r (nI i) 1 (nI (95 + i)) x (mm_row h0 1 N0) = some (r, mm_row h0 1 N1) ∧ (∀ k, k < 4 → N1 (95 + k) = wv N V k (95 + k)) ∧ N1 2 = wv N V 4 2 ∧ N1 3 = wv N V 5 3 ∧ ∀ j, j ≠ 2 → j ≠ 3 → j < 95 ∨ 99 ≤ j → N1 j = N j := fun x hx => by
      unfold f_X12_taxes_c78
      rw [og_in _ (show 95 + i < 193 by omega) (by omega), nI_clamp (show 95 + i < 2 ^ 31 by omega), mw_v, mv_v, nI_1, mm_up_row]
      refine ih (i + 1) f (upd N0 (95 + i) x) (by omega) (by omega) (fun k hk => ?_) (fun j hj => ?_)
      · by_cases e : k = i
        · subst e
          rw [upd_eq]
          exact hx
        · rw [upd_ne _ _ (by omega)]
          exact h1 k (by omega)
      · rw [upd_ne _ _ (by omega)]
        exact h2 j (by omega)
    by_cases e : 0 ≤ V i
    · rw [if_pos e]
      exact go _ (if_pos e).symm
    · rw [if_neg e]
      exact go _ (by rw [h2 (95 + i) (by omega)]; exact (if_neg e).symm)
theorem w_tax0 : ((List.range 193).all fun j => decide ((j = 2 ∧ wP j = 20 ∧ wL j = 1) ∨ (j = 3 ∧ wP j = 20 ∧ wL j = 2) ∨ (95 ≤ j ∧ j < 99 ∧ wP j = 21 ∧ wL j = j - 95) ∨ ((j ≠ 2 ∧ j ≠ 3 ∧ (j < 95 ∨ 99 ≤ j)) ∧ wP j ≠ 20 ∧ wP j ≠ 21))) = true := by decide +kernel
theorem WF.gen {N N1 : Nat → Int32} (h : WF N) (P : Nat → Prop) (h1 : ∀ j, j < 193 → (j < 117 ∨ 181 ≤ j) → P j → ∃ v, v ≤ ub j ∧ N1 j = nI v) (h2 : ∀ j, j < 193 → ¬ P j → N1 j = N j) (h3 : ∀ j, 117 ≤ j → j < 181 → ¬ P j) : WF N1 := by
  refine ⟨fun j hj hb => ?_, fun a b ha hb => ?_⟩
  · by_cases e : P j
    · exact h1 j hj hb e
    · rw [h2 j hj e]
      exact h.1 j hj hb
  · rw [h2 (117 + 8 * a + b) (by omega) (h3 _ (by omega) (by omega)), h2 (117 + 8 * b + a) (by omega) (h3 _ (by omega) (by omega))]
    exact h.2 a b ha hb
theorem wv_of {N V : Nat → Int32} {k j : Nat} {R : Int32} {B : Nat} (hB : B < 1000) (h : (V k = -1 ∧ R = N j) ∨ ∃ v, v ≤ B ∧ V k = nI v ∧ R = nI v) : wv N V k j = R := by
  unfold wv
  rcases h with ⟨h1, h2⟩ | ⟨v, h1, h2, h3⟩
  · rw [h1, if_neg (by decide), h2]
  · rw [h2, if_pos (nI_pos' (by omega)), h3]
theorem taxes_no {n : Nat} {c m g : Mm} (h : Rel n c m) {t : Nat} (t4 : ∀ k, k < 60 → c 84 k = m 3 k) (b5 : ∀ x, x ≠ 85 → x ≠ 85 + 1 → g x = c x) {q : Nat} {fi fo : Int32} {R V' : Nat → Int32} {r : Int32} (hr : r = -20 - nI q) : Sim n (some (-20 - nI q, mm_up (cT g (nI q) fi fo R) 83 1 0)) (some (r, mm_up (mT m (nI q) V') 0 4 0)) := by
  have hW := h.1
  have hF := h.2.1
  have gc2 : ∀ k, k < 60 → g 84 k = m 3 k := by rw [b5 84 (by omega) (by omega)]; exact t4
  refine Sim.ret hr.symm (h.tapeW (fun a h1 h2 h3 h4 => ?_) (fun a h1 h2 h3 => ?_) ?_ (TP0 ?_ ?_ ?_) ?_ ?_)
  · rw [mm_up_ne _ _ _ h2, cT_at _ _ _ _ _ h2 (by omega) (by omega), b5 a (by omega) (by omega)]
  · rw [mm_up_ne _ _ _ (by omega), mT_at _ _ _ (by omega) (by omega)]
  · rw [mm_up_eq, upd_ne _ _ (by omega)]
    rfl
  · rw [mm_up_eq, upd_eq]
  · rw [mm_up_eq, upd_eq]
  · intro k hk
    rw [mm_up_ne _ _ _ (by omega), mm_up_ne _ _ _ (by omega), mT_at _ _ _ (by omega) (by omega), cT_at _ _ _ _ _ (by omega) (by omega) (by omega)]
    exact gc2 k hk
  · rw [mm_up_ne _ _ _ (by omega), mT_at _ _ _ (by omega) (by omega)]
    refine hW.kept' (fun a h1 h2 => ?_)
    rw [mm_up_ne _ _ _ (by omega), cT_at _ _ _ _ _ (by omega) (by omega) (by omega), b5 a (by omega) (by omega)]
  · rw [mm_up_ne _ _ _ (by omega), mT_at _ _ _ (by omega) (by omega)]
    exact hF
theorem taxes_yes {n : Nat} {c m g g' : Mm} (h : Rel n c m) (t4 : ∀ k, k < 60 → c 84 k = m 3 k) (b5 : ∀ x, x ≠ 85 → x ≠ 85 + 1 → g x = c x) {q k : Nat} {fi fo : Int32} {R V' N1 : Nat → Int32} (q2 : TF (m 1) fi fo R V')
    (d2 : ∀ s, s < 4 → g' (21 + 1) s = mm_up (cT g (nI q) fi fo R) 83 1 0 (85 + 1) s) (d3 : g' 21 1 = mm_up (cT g (nI q) fi fo R) 83 1 0 85 1) (d4 : g' 21 2 = mm_up (cT g (nI q) fi fo R) 83 1 0 85 2) (d5 : ∀ x, x ≠ 21 → x ≠ 21 + 1 → g' x = mm_up (cT g (nI q) fi fo R) 83 1 0 x)
    (n2 : ∀ k, k < 4 → N1 (95 + k) = wv (m 1) V' k (95 + k)) (n3 : N1 2 = wv (m 1) V' 4 2) (n4 : N1 3 = wv (m 1) V' 5 3) (n5 : ∀ j, j ≠ 2 → j ≠ 3 → j < 95 ∨ 99 ≤ j → N1 j = m 1 j) :
    Sim n (some (nI k, g')) (some (nI k, mm_row (mm_up (mT m (nI q) V') 0 4 0) 1 N1)) := by
  have hW := h.1
  have hF := h.2.1
  have old : ∀ a, a ≠ 83 → a ≠ 85 → a ≠ 86 → a ≠ 21 → a ≠ 22 → g' a = c a := fun a h1 h2 h3 h4 h5 => by
    rw [d5 a h4 h5, mm_up_ne _ _ _ h1, cT_at _ _ _ _ _ h1 h2 h3, b5 a h2 h3]
  have r1 : ∀ k, k < 4 → N1 (95 + k) = R k := fun k hk => by rw [n2 k hk]; exact wv_of (B := 9) (by omega) (q2.1 k hk)
  have r2 : N1 2 = fi := by rw [n3]; exact wv_of (B := 99) (by omega) q2.2.1
  have r3 : N1 3 = fo := by rw [n4]; exact wv_of (B := 1) (by omega) q2.2.2
  have e1 : ∀ s, s < 4 → g' 22 s = R s := fun s hs => by
    rw [show g' 22 s = _ from d2 s hs, mm_up_ne _ _ _ (by omega)]
    rfl
  have e2 : g' 21 1 = fi := by
    rw [d3, mm_up_ne _ _ _ (by omega)]
    rfl
  have e3 : g' 21 2 = fo := by
    rw [d4, mm_up_ne _ _ _ (by omega)]
    rfl
  refine Sim.ret rfl (h.tapeW (fun a h1 h2 h3 h4 => old a h2 (by omega) (by omega) (by omega) (by omega)) (fun a h1 h2 h3 => ?_) ?_ (TP0 ?_ ?_ ?_) ?_ ?_)
  · rw [mm_row_ne _ _ (by omega), mm_up_ne _ _ _ (by omega), mT_at _ _ _ (by omega) (by omega)]
  · rw [mm_row_ne _ _ (by omega), mm_up_eq, upd_ne _ _ (by omega)]
    rfl
  · rw [mm_row_ne _ _ (by omega), mm_up_eq, upd_eq]
  · rw [d5 83 (by omega) (by omega), mm_up_eq, upd_eq]
  · intro k hk
    rw [old 84 (by omega) (by omega) (by omega) (by omega) (by omega), mm_row_ne _ _ (by omega), mm_up_ne _ _ _ (by omega), mT_at _ _ _ (by omega) (by omega)]
    exact t4 k hk
  · rw [mm_row_at]
    intro j hj
    rcases of_decide_eq_true (List.all_eq_true.mp w_tax0 j (List.mem_range.mpr hj)) with ⟨rfl, w1, w2⟩ | ⟨rfl, w1, w2⟩ | ⟨w0, w00, w1, w2⟩ | ⟨⟨u1, u2, u3⟩, w1, w2⟩
    · rw [w1, w2, r2]
      exact e2
    · rw [w1, w2, r3]
      exact e3
    · rw [w1, w2]
      obtain ⟨s, rfl⟩ := Nat.exists_eq_add_of_le w0
      rw [r1 s (by omega), show 95 + s - 95 = s by omega]
      exact e1 s (by omega)
    · rw [n5 j u1 u2 u3, ← hW j hj]
      have := w_low j hj
      exact congrFun (old _ (by omega) (by omega) (by omega) (by omega) (by omega)) _
  · rw [mm_row_at]
    refine hF.gen (fun j => j = 2 ∨ j = 3 ∨ (95 ≤ j ∧ j < 99)) (fun j hj hb hP => ?_) (fun j hj hP => ?_) (fun j h1 h2 hP => by omega)
    · rcases hP with rfl | rfl | ⟨w0, w1⟩
      · rw [r2]
        rcases q2.2.1 with ⟨_, z⟩ | ⟨v, z1, _, z2⟩
        · rw [z]
          exact wf_fine hF
        · exact ⟨v, z1, z2⟩
      · rw [r3]
        rcases q2.2.2 with ⟨_, z⟩ | ⟨v, z1, _, z2⟩
        · rw [z]
          exact wf_taxed hF
        · exact ⟨v, z1, z2⟩
      · obtain ⟨s, rfl⟩ := Nat.exists_eq_add_of_le w0
        rw [r1 s (by omega), show ub (95 + s) = 9 from (show ∀ k, k < 4 → ub (95 + k) = 9 by decide +kernel) s (by omega)]
        rcases q2.1 s (by omega) with ⟨_, z⟩ | ⟨v, z1, _, z2⟩
        · rw [z]
          exact wf_rate hF (by omega)
        · exact ⟨v, z1, z2⟩
    · exact n5 j (by omega) (by omega) (by omega)
theorem sim_taxes {n : Nat} {c m : Mm} (h : Rel n c m) : Sim n (f_X11_taxes c) (f_X12_taxes m) := by
  have hW := h.1
  have hF := h.2.1
  obtain ⟨t, t1, t2, t3, t4, t5⟩ := h.2.2.2.1
  unfold f_X11_taxes f_X12_taxes
  obtain ⟨g, b1, b2, b3, b4, b5⟩ := k_become7 (g := c) (a := 85) (b := 21) (by omega)
  obtain ⟨V, v1, v2⟩ := m_begin m
  rw [b1, v1, op_v, op_v]
  have g83 := b5 83 (by omega) (by omega)
  have g84 := b5 84 (by omega) (by omega)
  have gc1 : g 83 1 = nI t := by rw [g83]; exact t3
  have gc2 : ∀ k, k < 60 → g 84 k = m 3 k := by rw [g84]; exact t4
  rcases both_tax t1 t5 gc1 gc2 t2 (fun _ _ => rfl) (m 1) (by rw [b3]; exact wr_fine hW) (by rw [b4]; exact wr_taxed hW) (fun j hj => by rw [b2 j hj]; exact wr_rate hW hj) V v2 with ⟨q, fi, fo, R, V', q1, q2, q3, q4⟩ | ⟨q, fi, fo, R, V', k, hk, q1, q2, q3, q4⟩
  · rw [q3, q4, ob_v, ob_v, if_neg (show ¬ (0 : Int32) ≤ -1 by decide), m_next (mT_rm t2 (fun _ _ => rfl) q V') t1 q1, q2]
    unfold f_X6_clear
    rw [mw_v, op_v, ob_v, mw_v, if_pos (m20_neg q (by omega)), mT_p]
    exact taxes_no (t := t) h t4 b5 (by rw [mm_up_eq, upd_ne _ _ (by omega), mT_p'])
  · rw [q3, q4, ob_v, ob_v, if_pos (show (0 : Int32) ≤ nI k from nI_pos' (by omega))]
    unfold f_X6_clear
    rw [mw_v, op_v, mw_v]
    rw [if_neg (show ¬ nI k < 0 from nI_pos (by omega))]
    obtain ⟨g', d1, d2, d3, d4, d5⟩ := k_become7 (g := mm_up (cT g (nI q) fi fo R) 83 1 0) (a := 21) (b := 85) (by omega)
    rw [d1, op_v]
    have hM : mm_up (mT m (nI q) V') 0 4 0 = mm_row (mm_up (mT m (nI q) V') 0 4 0) 1 (m 1) := by
      funext a
      by_cases e : a = 1
      · subst e
        rw [mm_row_at, mm_up_ne _ _ _ (by omega)]
        rfl
      · rw [mm_row_ne _ _ e]
    rw [hM]
    obtain ⟨N1, n1, n2, n3, n4, n5⟩ := m_taxes_c38 (h0 := mm_up (mT m (nI q) V') 0 4 0) (N := m 1) (V := V') (by rw [mm_up_ne _ _ _ (by omega)]; rfl) (nI k) 4 0 FU (m 1) (by omega) (fu_lt (by omega)) (fun k hk => by omega) (fun _ _ => rfl)
    rw [show f_X12_taxes_c38 FU (nI k) 0 (mm_row (mm_up (mT m (nI q) V') 0 4 0) 1 (m 1)) = _ from n1]
    exact taxes_yes h t4 b5 q2 d2 d3 d4 d5 n2 n3 n4 n5
