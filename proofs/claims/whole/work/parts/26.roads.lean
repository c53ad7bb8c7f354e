/-- where a draft of the road stands -/
def cR (c : Mm) (p : Int32) (M W : Nat → Int32) : Mm := fun a => if a = 83 then upd (c 83) 2 p else if a = 88 then M else if a = 89 then W else c a
theorem cR_p (c : Mm) (p : Int32) (M W : Nat → Int32) (x : Int32) : mm_up (cR c p M W) 83 2 x = cR c x M W := by
  funext a
  by_cases e : a = 83
  · subst e
    rw [mm_up_eq]
    exact upd_upd _ _ _ _
  · rw [mm_up_ne _ _ _ e, cR, cR, if_neg e, if_neg e]
theorem cR_M (c : Mm) (p : Int32) (M W : Nat → Int32) (j : Nat) (x : Int32) : mm_up (cR c p M W) 88 j x = cR c p (upd M j x) W := by
  funext a
  by_cases e : a = 88
  · subst e
    rw [mm_up_eq]
    rfl
  · rw [mm_up_ne _ _ _ e]
    show (if a = 83 then _ else if a = 88 then _ else _) = (if a = 83 then _ else if a = 88 then _ else _)
    rw [if_neg e, if_neg e]
theorem cR_W (c : Mm) (p : Int32) (M W : Nat → Int32) (j : Nat) (x : Int32) : mm_up (cR c p M W) 89 j x = cR c p M (upd W j x) := by
  funext a
  by_cases e : a = 89
  · subst e
    rw [mm_up_eq]
    rfl
  · rw [mm_up_ne _ _ _ e]
    show (if a = 83 then _ else if a = 88 then _ else if a = 89 then _ else _) = (if a = 83 then _ else if a = 88 then _ else if a = 89 then _ else _)
    rw [if_neg e, if_neg e]
theorem cR_at (c : Mm) (p : Int32) (M W : Nat → Int32) {a : Nat} (h1 : a ≠ 83) (h2 : a ≠ 88) (h3 : a ≠ 89) : cR c p M W a = c a := by rw [cR, if_neg h1, if_neg h2, if_neg h3]
theorem cR_p' (c : Mm) (p : Int32) (M W : Nat → Int32) : cR c p M W 83 2 = p := rfl
theorem cR_M' (c : Mm) (p : Int32) (M W : Nat → Int32) : cR c p M W 88 = M := rfl
theorem cR_W' (c : Mm) (p : Int32) (M W : Nat → Int32) : cR c p M W 89 = W := rfl
theorem cR_rc {c : Mm} {S : Nat → Int32} {t : Nat} (h1 : c 83 1 = nI t) (h2 : ∀ k, k < 60 → c 84 k = S k) (p : Nat) (M W : Nat → Int32) : RC S t p (cR c (nI p) M W) := ⟨h1, rfl, h2⟩
theorem both_mile {S : Nat → Int32} {t : Nat} (ht : t ≤ 60) (hS : SI S t) {c m : Mm} (c1 : c 83 1 = nI t) (c2 : ∀ k, k < 60 → c 84 k = S k) (m1 : m 0 4 = nI t) (m2 : ∀ k, k < 60 → m 3 k = S k) {p i : Nat} (hp : p ≤ t) (hi : i < 9) (M W V : Nat → Int32) (K : Int32 → Mm → Option (Int32 × Mm)) :
    (∃ q M' W' V', q ≤ t ∧ sk S t q = q ∧ f_X6_readMile 83 87 (nI i) (cR c (nI p) M W) = some (0, cR c (nI q) M' W') ∧ f_X12_takesRoad_c33 K (nI i) (mT m (nI p) V) = some (0, mT m (nI q) V')) ∨
    ∃ q u w V', q ≤ t ∧ u ≤ 9 ∧ w ≤ 16 ∧ V' i = nI u ∧ (V' (9 + i) = nI w ∨ V' (9 + i) = V (9 + i) ∧ w = 0) ∧ (∀ k, k ≠ i → k ≠ 9 + i → V' k = V k) ∧ f_X6_readMile 83 87 (nI i) (cR c (nI p) M W) = some (1, cR c (nI q) (upd M i (nI u)) (upd W i (nI w))) ∧ f_X12_takesRoad_c33 K (nI i) (mT m (nI p) V) = K (nI (i + 1)) (mT m (nI q) V') := by
  unfold f_X6_readMile f_X12_takesRoad_c33
  rcases both_digit ht hp hS (slot := i) (by omega) (cR_rc c1 c2 p M W) (mT_rm m1 m2 p V) with ⟨r1, r2⟩ | ⟨r, v, l1, l2, r1, r2⟩
  · rw [r1, r2, ob_v, ob_v, if_pos rfl, og_in _ (show i < 9 by omega) (by omega), nI_clamp (by omega), mw_v, cR_p, mT_p]
    rw [show mm_up (cR c (nI (sk S t p)) M W) (87 + 1) i (-1) = _ from cR_M _ _ _ _ _ _, og_in _ (show i < 9 by omega) (by omega), mw_v]
    rw [show mm_up (cR c (nI (sk S t p)) (upd M i (-1)) W) (87 + 2) i 0 = _ from cR_W _ _ _ _ _ _, og_in _ (show i < 9 by omega) (by omega)]
    rw [show cR c (nI (sk S t p)) (upd M i (-1)) (upd W i 0) (87 + 1) i = -1 from upd_eq _ _ _, if_neg (show ¬ (0 : Int32) ≤ -1 by decide)]
    exact Or.inl ⟨_, _, _, _, (sk_ge hp).2, sk_sk hp, rfl, rfl⟩
  · rw [r1, r2, ob_v, ob_v, if_neg (show ¬ (1 : Int32) = 0 by decide), og_in _ (show i < 9 by omega) (by omega), nI_clamp (by omega), mw_v, cR_p, mT_p, mT_V]
    rw [show mm_up (cR c (nI r) M W) (87 + 1) i (nI v) = _ from cR_M _ _ _ _ _ _, og_in _ (show i < 9 by omega) (by omega), mw_v]
    rw [show mm_up (cR c (nI r) (upd M i (nI v)) W) (87 + 2) i 0 = _ from cR_W _ _ _ _ _ _, og_in _ (show i < 9 by omega) (by omega)]
    rw [show cR c (nI r) (upd M i (nI v)) (upd W i 0) (87 + 1) i = nI v from upd_eq _ _ _, if_pos (show 0 ≤ nI v from nI_pos' (by omega))]
    rw [k_look (cR_rc c1 c2 r _ _) ht l1, m_next (mT_rm m1 m2 r _) ht l1, ob_v, ob_v, cR_p, mT_p]
    have s1 := sk_ge (S := S) l1
    have s2 := sk_sk (S := S) l1
    generalize sk S t r = q at *
    by_cases e : sg S t q = 119
    · have hq := sg_lt (S := S) (t := t) (q := q) (by rw [e]; decide)
      rw [if_pos e, if_pos e, mw_v, mw_v, cR_p', mT_p', cR_p, mT_p, nI_1]
      rw [show (9 : Int32) = nI 9 from rfl, nI_add]
      rcases both_number ht (show q + 1 ≤ t by omega) hS (lim := 16) (by omega) (slot := 9 + i) (by omega) (cR_rc c1 c2 (q + 1) (upd M i (nI v)) (upd W i 0)) (mT_rm m1 m2 (q + 1) (upd V i (nI v))) with ⟨w1, w2⟩ | ⟨u, w, u1, u2, w1, w2⟩
      · rw [show f_X6_readNumber 83 16 (cR c (nI (q + 1)) (upd M i (nI v)) (upd W i 0)) = _ from w1, show f_X12_takesNumber (nI (9 + i)) 16 (mT m (nI (q + 1)) (upd V i (nI v))) = _ from w2, ob_v, ob_v, if_pos rfl, og_in _ (show i < 9 by omega) (by omega), mw_v, cR_p, mT_p]
        rw [show mm_up (cR c (nI (sk S t (q + 1))) (upd M i (nI v)) (upd W i 0)) (87 + 2) i (-1) = _ from cR_W _ _ _ _ _ _]
        unfold f_X6_readMile_c59
        rw [og_in _ (show i < 9 by omega) (by omega), nI_clamp (by omega)]
        rw [show cR c (nI (sk S t (q + 1))) (upd M i (nI v)) (upd (upd W i 0) i (-1)) (87 + 2) i = -1 from upd_eq _ _ _, if_pos (show (-1 : Int32) < 0 by decide)]
        exact Or.inl ⟨_, _, _, _, (sk_ge (by omega)).2, sk_sk (by omega), rfl, rfl⟩
      · rw [show f_X6_readNumber 83 16 (cR c (nI (q + 1)) (upd M i (nI v)) (upd W i 0)) = _ from w1, show f_X12_takesNumber (nI (9 + i)) 16 (mT m (nI (q + 1)) (upd V i (nI v))) = _ from w2, ob_v, ob_v, if_neg (show ¬ (1 : Int32) = 0 by decide), og_in _ (show i < 9 by omega) (by omega), mw_v, mv_v, cR_p, mT_p, mT_V, nI_1]
        rw [show mm_up (cR c (nI u) (upd M i (nI v)) (upd W i 0)) (87 + 2) i (nI w) = _ from cR_W _ _ _ _ _ _]
        unfold f_X6_readMile_c59
        rw [og_in _ (show i < 9 by omega) (by omega), nI_clamp (by omega)]
        rw [show cR c (nI u) (upd M i (nI v)) (upd (upd W i 0) i (nI w)) (87 + 2) i = nI w from upd_eq _ _ _, if_neg (show ¬ nI w < 0 from nI_pos (by omega)), upd_upd]
        refine Or.inr ⟨u, v, w, _, u1, l2, u2, ?_, Or.inl ?_, fun k h1 h2 => ?_, rfl, rfl⟩
        · rw [upd_ne _ _ (by omega), upd_eq]
        · rw [upd_eq]
        · rw [upd_ne _ _ h2, upd_ne _ _ h1]
    · rw [if_neg e, if_neg e, mv_v, nI_1]
      unfold f_X6_readMile_c59
      rw [og_in _ (show i < 9 by omega) (by omega), nI_clamp (by omega)]
      rw [show cR c (nI q) (upd M i (nI v)) (upd W i 0) (87 + 2) i = 0 from upd_eq _ _ _, if_neg (show ¬ (0 : Int32) < 0 by decide)]
      refine Or.inr ⟨q, v, 0, _, s1.2, l2, by omega, ?_, Or.inr ⟨?_, rfl⟩, fun k h1 h2 => ?_, rfl, rfl⟩
      · rw [upd_eq]
      · rw [upd_ne _ _ (by omega)]
      · rw [upd_ne _ _ h1]
def sm (M : Nat → Int32) : Nat → Int32
  | 0 => 0
  | k + 1 => sm M k + M k
theorem sm_nat {M : Nat → Int32} : ∀ k, k ≤ 9 → (∀ j, j < k → ∃ u, u ≤ 9 ∧ M j = nI u) → ∃ s, s ≤ 9 * k ∧ sm M k = nI s
  | 0, _, _ => ⟨0, by omega, rfl⟩
  | k + 1, hk, h => by
    obtain ⟨s, s1, s2⟩ := sm_nat k (by omega) (fun j hj => h j (by omega))
    obtain ⟨u, u1, u2⟩ := h k (by omega)
    exact ⟨s + u, by omega, by rw [sm, s2, u2, nI_add]⟩
theorem k_allMud_c4 (g : Mm) (p : Nat) : ∀ (d i f : Nat), i + d = 9 → d < f → f_X3_allMud_c4 p f (sm (g (p + 1)) i) (nI i) g = some (sm (g (p + 1)) 9) := by
  intro d
  induction d with
  | zero =>
    intro i f hi hf
    obtain ⟨f, rfl⟩ := Nat.exists_eq_succ_of_ne_zero (show f ≠ 0 by omega)
    have e : i = 9 := by omega
    subst e
    rw [f_X3_allMud_c4, if_pos (by decide)]
  | succ d ih =>
    intro i f hi hf
    obtain ⟨f, rfl⟩ := Nat.exists_eq_succ_of_ne_zero (show f ≠ 0 by omega)
    rw [f_X3_allMud_c4, if_neg (show ¬ (9 : Int32) ≤ nI i from nI_ge (b := 9) (by omega) (by omega)), og_in _ (by omega) (by omega), nI_clamp (by omega), mv_v, mv_v, nI_1]
    exact ih (i + 1) f (by omega) (by omega)
theorem k_allMud (g : Mm) (p : Nat) : f_X3_allMud p g = some (sm (g (p + 1)) 9) := k_allMud_c4 g p 9 0 FU (by omega) (fu_lt (by omega))
/-- the miles so far -/
def RI (M W V : Nat → Int32) (i : Nat) : Prop := (∀ k, k < i → ∃ u w, u ≤ 9 ∧ w ≤ 16 ∧ V k = nI u ∧ M k = nI u ∧ W k = nI w ∧ (V (9 + k) = nI w ∨ V (9 + k) = -1 ∧ w = 0)) ∧ ∀ k, i ≤ k → k < 9 → V (9 + k) = -1
theorem both_road {S : Nat → Int32} {t : Nat} (ht : t ≤ 60) (hS : SI S t) {c m : Mm} (c1 : c 83 1 = nI t) (c2 : ∀ k, k < 60 → c 84 k = S k) (m1 : m 0 4 = nI t) (m2 : ∀ k, k < 60 → m 3 k = S k) : ∀ (d p i f f' : Nat) (M W V : Nat → Int32), i + d = 9 → d < f → d < f' → p ≤ t → RI M W V i →
    (∃ q M' W' V', q ≤ t ∧ sk S t q = q ∧ f_X6_readRoad_c7 83 87 f (nI i) (cR c (nI p) M W) = some (-20 - nI q, cR c (nI q) M' W') ∧ f_X12_takesRoad_c2 f' (nI i) (mT m (nI p) V) = some (0, mT m (nI q) V')) ∨
    ∃ q M' W' V', q ≤ t ∧ RI M' W' V' 9 ∧ f_X6_readRoad_c7 83 87 f (nI i) (cR c (nI p) M W) = some (sm M' 9, cR c (nI q) M' W') ∧ f_X12_takesRoad_c2 f' (nI i) (mT m (nI p) V) = some (1, mT m (nI q) V') := by
  intro d
  induction d with
  | zero =>
    intro p i f f' M W V hi hf hf' hp hI
    obtain ⟨f, rfl⟩ := Nat.exists_eq_succ_of_ne_zero (show f ≠ 0 by omega)
    obtain ⟨f', rfl⟩ := Nat.exists_eq_succ_of_ne_zero (show f' ≠ 0 by omega)
    have e : i = 9 := by omega
    subst e
    rw [f_X6_readRoad_c7, f_X12_takesRoad_c2, if_pos (show (9 : Int32) ≤ nI 9 by decide), if_pos (show (9 : Int32) ≤ nI 9 by decide), k_look (cR_rc c1 c2 p M W) ht hp, m_next (mT_rm m1 m2 p V) ht hp, ob_v, ob_v, cR_p, mT_p]
    have s1 := sk_ge (S := S) hp
    have s2 := sk_sk (S := S) hp
    generalize sk S t p = q at *
    unfold sg
    by_cases e : t ≤ q
    · rw [if_pos e, if_pos rfl, if_neg (show ¬ (0 : Int32) ≤ -1 by decide), k_allMud, op_v]
      exact Or.inr ⟨q, M, W, V, s1.2, hI, rfl, rfl⟩
    · obtain ⟨b, b1, b2, b3⟩ := hS q (by omega)
      rw [if_neg e, b3, if_neg (nI_nm1 (by omega)), if_pos (nI_pos' (by omega)), cR_p']
      exact Or.inl ⟨q, M, W, V, s1.2, s2, rfl, rfl⟩
  | succ d ih =>
    intro p i f f' M W V hi hf hf' hp hI
    obtain ⟨f, rfl⟩ := Nat.exists_eq_succ_of_ne_zero (show f ≠ 0 by omega)
    obtain ⟨f', rfl⟩ := Nat.exists_eq_succ_of_ne_zero (show f' ≠ 0 by omega)
    have mile : ∀ p, p ≤ t → (∃ q M' W' V', q ≤ t ∧ sk S t q = q ∧ f_X6_readRoad_c44 (f_X6_readRoad_c7 83 87 f) 83 87 (nI i) (cR c (nI p) M W) = some (-20 - nI q, cR c (nI q) M' W') ∧ f_X12_takesRoad_c33 (f_X12_takesRoad_c2 f') (nI i) (mT m (nI p) V) = some (0, mT m (nI q) V')) ∨
        ∃ q M' W' V', q ≤ t ∧ RI M' W' V' 9 ∧ f_X6_readRoad_c44 (f_X6_readRoad_c7 83 87 f) 83 87 (nI i) (cR c (nI p) M W) = some (sm M' 9, cR c (nI q) M' W') ∧ f_X12_takesRoad_c33 (f_X12_takesRoad_c2 f') (nI i) (mT m (nI p) V) = some (1, mT m (nI q) V') := by
      intro p hp
      unfold f_X6_readRoad_c44
      rcases both_mile ht hS c1 c2 m1 m2 hp (show i < 9 by omega) M W V (f_X12_takesRoad_c2 f') with ⟨q, M', W', V', a1, a2, a3, a4⟩ | ⟨q, u, w, V', a1, a2, a3, a4, a5, a6, a7, a8⟩
      · rw [a3, a4, ob_v, if_pos rfl, cR_p']
        exact Or.inl ⟨q, M', W', V', a1, a2, rfl, rfl⟩
      · rw [a7, a8, ob_v, if_neg (show ¬ (1 : Int32) = 0 by decide), mv_v, nI_1]
        refine ih q (i + 1) f f' _ _ V' (by omega) (by omega) (by omega) a1 ⟨fun k hk => ?_, fun k h1 h2 => ?_⟩
        · by_cases e : k = i
          · subst e
            refine ⟨u, w, a2, a3, a4, upd_eq _ _ _, upd_eq _ _ _, ?_⟩
            rcases a5 with a5 | ⟨a5, a55⟩
            · exact Or.inl a5
            · exact Or.inr ⟨by rw [a5]; exact hI.2 k (Nat.le_refl _) (by omega), a55⟩
          · obtain ⟨u', w', z1, z2, z3, z4, z5, z6⟩ := hI.1 k (by omega)
            rw [a6 k e (by omega), a6 (9 + k) (by omega) (by omega), upd_ne _ _ e, upd_ne _ _ e]
            exact ⟨u', w', z1, z2, z3, z4, z5, z6⟩
        · rw [a6 (9 + k) (by omega) (by omega)]
          exact hI.2 k (by omega) h2
    rw [f_X6_readRoad_c7, f_X12_takesRoad_c2, if_neg (show ¬ (9 : Int32) ≤ nI i from nI_ge (b := 9) (by omega) (by omega)), if_neg (show ¬ (9 : Int32) ≤ nI i from nI_ge (b := 9) (by omega) (by omega))]
    by_cases e : nI i ≤ 0
    · rw [if_pos e, if_pos e]
      exact mile p hp
    · rw [if_neg e, if_neg e, k_look (cR_rc c1 c2 p M W) ht hp, m_next (mT_rm m1 m2 p V) ht hp, ob_v, ob_v, cR_p, mT_p]
      have s1 := sk_ge (S := S) hp
      have s2 := sk_sk (S := S) hp
      generalize sk S t p = q at *
      by_cases e1 : sg S t q = 44
      · have hq := sg_lt (S := S) (t := t) (q := q) (by rw [e1]; decide)
        rw [if_pos e1, if_pos e1, mw_v, mw_v, cR_p', mT_p', cR_p, mT_p, nI_1]
        exact mile (q + 1) (by omega)
      · rw [if_neg e1, if_neg e1, cR_p']
        exact Or.inl ⟨q, M, W, V, s1.2, s2, rfl, rfl⟩
theorem m_roads_c38 {h0 : Mm} {N V : Nat → Int32} (hV : h0 7 = V) : ∀ (d i f : Nat) (N0 : Nat → Int32), i + d = 9 → d < f → (∀ k, k < i → N0 (99 + k) = V k ∧ N0 (108 + k) = if 0 ≤ V (9 + k) then V (9 + k) else 0) → (∀ j, j < 99 ∨ 117 ≤ j → N0 j = N j) →
    ∃ N1, f_X12_roads_c38 f (sm V i) (nI i) (mm_row h0 1 N0) = some (sm V 9, mm_row h0 1 N1) ∧ (∀ k, k < 9 → N1 (99 + k) = V k ∧ N1 (108 + k) = if 0 ≤ V (9 + k) then V (9 + k) else 0) ∧ ∀ j, j < 99 ∨ 117 ≤ j → N1 j = N j := by
  intro d
  have r7 : ∀ N0 : Nat → Int32, mm_row h0 1 N0 7 = V := fun N0 => by rw [mm_row_ne _ _ (by omega), hV]
  induction d with
  | zero =>
    intro i f N0 hi hf h1 h2
    obtain ⟨f, rfl⟩ := Nat.exists_eq_succ_of_ne_zero (show f ≠ 0 by omega)
    have e : i = 9 := by omega
    subst e
    rw [f_X12_roads_c38, if_pos (by decide)]
    exact ⟨N0, rfl, h1, h2⟩
  | succ d ih =>
    intro i f N0 hi hf h1 h2
    obtain ⟨f, rfl⟩ := Nat.exists_eq_succ_of_ne_zero (show f ≠ 0 by omega)
    rw [f_X12_roads_c38, if_neg (show ¬ (9 : Int32) ≤ nI i from nI_ge (b := 9) (by omega) (by omega)), show (99 : Int32) = nI 99 from rfl, show (9 : Int32) = nI 9 from rfl, show (108 : Int32) = nI 108 from rfl]
    simp only [nI_add]
    rw [og_in _ (show i < 18 by omega) (by omega), og_in _ (show 99 + i < 193 by omega) (by omega), nI_clamp (show i < 2 ^ 31 by omega), nI_clamp (show 99 + i < 2 ^ 31 by omega), nI_clamp (show 9 + i < 2 ^ 31 by omega), mw_v, mm_up_row, og_in _ (show 9 + i < 18 by omega) (by omega), og_in _ (show 9 + i < 18 by omega) (by omega), r7, r7]
    have go : ∀ x, x = (if 0 ≤ V (9 + i) then V (9 + i) else 0) → ∃ N1, f_X12_roads_c92 (f_X12_roads_c38 f) (sm V i) (nI i) 1 (nI (108 + i)) x (mm_row h0 1 (upd N0 (99 + i) (V i))) = some (sm V 9, mm_row h0 1 N1) ∧ (∀ k, k < 9 → N1 (99 + k) = V k ∧ N1 (108 + k) = if 0 ≤ V (9 + k) then V (9 + k) else 0) ∧ ∀ j, j < 99 ∨ 117 ≤ j → N1 j = N j := fun x hx => by
      unfold f_X12_roads_c92
      rw [og_in _ (show 108 + i < 193 by omega) (by omega), nI_clamp (show 108 + i < 2 ^ 31 by omega), mw_v, mm_up_row, og_in _ (show i < 18 by omega) (by omega), nI_clamp (show i < 2 ^ 31 by omega), r7, mv_v, mv_v, nI_1]
      refine ih (i + 1) f _ (by omega) (by omega) (fun k hk => ?_) (fun j hj => ?_)
      · by_cases e : k = i
        · subst e
          exact ⟨by rw [upd_ne _ _ (by omega), upd_eq], by rw [upd_eq]; exact hx⟩
        · rw [upd_ne _ _ (by omega), upd_ne _ _ (by omega), upd_ne _ _ (by omega), upd_ne _ _ (by omega)]
          exact h1 k (by omega)
      · rw [upd_ne _ _ (by omega), upd_ne _ _ (by omega)]
        exact h2 j hj
    by_cases e : 0 ≤ V (9 + i)
    · rw [if_pos e]
      exact go _ (if_pos e).symm
    · rw [if_neg e]
      exact go _ (if_neg e).symm
theorem w_road0 : ((List.range 193).all fun j => decide ((99 ≤ j ∧ j < 108 ∧ wP j = 23 ∧ wL j = j - 99) ∨ (108 ≤ j ∧ j < 117 ∧ wP j = 24 ∧ wL j = j - 108) ∨ ((j < 99 ∨ 117 ≤ j) ∧ wP j ≠ 23 ∧ wP j ≠ 24))) = true := by decide +kernel
theorem ub_mud : ∀ k, k < 9 → ub (99 + k) = 9 ∧ ub (108 + k) = 16 := by decide +kernel
theorem roads_no {n : Nat} {c m : Mm} (h : Rel n c m) {t : Nat} (t4 : ∀ k, k < 60 → c 84 k = m 3 k) {q : Nat} {M W V' : Nat → Int32} {r : Int32} (hr : r = -20 - nI q) : Sim n (some (-20 - nI q, mm_up (cR c (nI q) M W) 83 1 0)) (some (r, mm_up (mT m (nI q) V') 0 4 0)) := by
  have hW := h.1
  have hF := h.2.1
  refine Sim.ret hr.symm (h.tapeW (fun a h1 h2 h3 h4 => ?_) (fun a h1 h2 h3 => ?_) ?_ (TP0 ?_ ?_ ?_) ?_ ?_)
  · rw [mm_up_ne _ _ _ h2, cR_at _ _ _ _ h2 (by omega) (by omega)]
  · rw [mm_up_ne _ _ _ (by omega), mT_at _ _ _ (by omega) (by omega)]
  · rw [mm_up_eq, upd_ne _ _ (by omega)]
    rfl
  · rw [mm_up_eq, upd_eq]
  · rw [mm_up_eq, upd_eq]
  · intro k hk
    rw [mm_up_ne _ _ _ (by omega), mm_up_ne _ _ _ (by omega), mT_at _ _ _ (by omega) (by omega), cR_at _ _ _ _ (by omega) (by omega) (by omega)]
    exact t4 k hk
  · rw [mm_up_ne _ _ _ (by omega), mT_at _ _ _ (by omega) (by omega)]
    refine hW.kept' (fun a h1 h2 => ?_)
    rw [mm_up_ne _ _ _ (by omega), cR_at _ _ _ _ (by omega) (by omega) (by omega)]
  · rw [mm_up_ne _ _ _ (by omega), mT_at _ _ _ (by omega) (by omega)]
    exact hF
theorem roads_yes {n : Nat} {c m g' : Mm} (h : Rel n c m) (t4 : ∀ k, k < 60 → c 84 k = m 3 k) {q : Nat} {M W V' N1 : Nat → Int32} (q2 : RI M W V' 9) {r r' : Int32} (hr : r = r')
    (d2 : ∀ s, s < 9 → g' (23 + 1) s = mm_up (cR c (nI q) M W) 83 1 0 (87 + 1) s) (d3 : ∀ s, s < 9 → g' (23 + 2) s = mm_up (cR c (nI q) M W) 83 1 0 (87 + 2) s) (d5 : ∀ x, x ≠ 23 + 1 → x ≠ 23 + 2 → g' x = mm_up (cR c (nI q) M W) 83 1 0 x)
    (n2 : ∀ k, k < 9 → N1 (99 + k) = V' k ∧ N1 (108 + k) = if 0 ≤ V' (9 + k) then V' (9 + k) else 0) (n5 : ∀ j, j < 99 ∨ 117 ≤ j → N1 j = m 1 j) :
    Sim n (some (r, g')) (some (r', mm_row (mm_up (mT m (nI q) V') 0 4 0) 1 N1)) := by
  have hW := h.1
  have hF := h.2.1
  have old : ∀ a, a ≠ 83 → a ≠ 88 → a ≠ 89 → a ≠ 24 → a ≠ 25 → g' a = c a := fun a h1 h2 h3 h4 h5 => by
    rw [d5 a h4 h5, mm_up_ne _ _ _ h1, cR_at _ _ _ _ h1 h2 h3]
  have r12 : ∀ k, k < 9 → N1 (99 + k) = M k ∧ N1 (108 + k) = W k ∧ (∃ u, u ≤ 9 ∧ M k = nI u) ∧ ∃ w, w ≤ 16 ∧ W k = nI w := fun k hk => by
    obtain ⟨u, w, z1, z2, z3, z4, z5, z6⟩ := q2.1 k hk
    obtain ⟨n21, n22⟩ := n2 k hk
    refine ⟨by rw [n21, z3, z4], ?_, ⟨u, z1, z4⟩, ⟨w, z2, z5⟩⟩
    rw [n22, z5]
    rcases z6 with z6 | ⟨z6, z7⟩
    · rw [z6, if_pos (nI_pos' (by omega))]
    · rw [z6, if_neg (by decide), z7]
      rfl
  have e1 : ∀ s, s < 9 → g' 24 s = M s := fun s hs => by
    rw [show g' 24 s = _ from d2 s hs, mm_up_ne _ _ _ (by omega)]
    rfl
  have e2 : ∀ s, s < 9 → g' 25 s = W s := fun s hs => by
    rw [show g' 25 s = _ from d3 s hs, mm_up_ne _ _ _ (by omega)]
    rfl
  refine Sim.ret hr (h.tapeW (fun a h1 h2 h3 h4 => old a h2 (by omega) (by omega) (by omega) (by omega)) (fun a h1 h2 h3 => ?_) ?_ (TP0 ?_ ?_ ?_) ?_ ?_)
  · rw [mm_row_ne _ _ (by omega), mm_up_ne _ _ _ (by omega), mT_at _ _ _ (by omega) (by omega)]
  · rw [mm_row_ne _ _ (by omega), mm_up_eq, upd_ne _ _ (by omega)]
    rfl
  · rw [mm_row_ne _ _ (by omega), mm_up_eq, upd_eq]
  · rw [d5 83 (by omega) (by omega), mm_up_eq, upd_eq]
  · intro k hk
    rw [old 84 (by omega) (by omega) (by omega) (by omega) (by omega), mm_row_ne _ _ (by omega), mm_up_ne _ _ _ (by omega), mT_at _ _ _ (by omega) (by omega)]
    exact t4 k hk
  · rw [mm_row_at]
    intro j hj
    rcases of_decide_eq_true (List.all_eq_true.mp w_road0 j (List.mem_range.mpr hj)) with ⟨w0, w00, w1, w2⟩ | ⟨w0, w00, w1, w2⟩ | ⟨u3, w1, w2⟩
    · rw [w1, w2]
      obtain ⟨s, rfl⟩ := Nat.exists_eq_add_of_le w0
      rw [(r12 s (by omega)).1, show 99 + s - 99 = s by omega]
      exact e1 s (by omega)
    · rw [w1, w2]
      obtain ⟨s, rfl⟩ := Nat.exists_eq_add_of_le w0
      rw [(r12 s (by omega)).2.1, show 108 + s - 108 = s by omega]
      exact e2 s (by omega)
    · rw [n5 j u3, ← hW j hj]
      have := w_low j hj
      exact congrFun (old _ (by omega) (by omega) (by omega) (by omega) (by omega)) _
  · rw [mm_row_at]
    refine hF.gen (fun j => 99 ≤ j ∧ j < 117) (fun j hj hb hP => ?_) (fun j hj hP => ?_) (fun j h1 h2 hP => by omega)
    · by_cases e : j < 108
      · obtain ⟨s, rfl⟩ := Nat.exists_eq_add_of_le hP.1
        rw [(r12 s (by omega)).1, (ub_mud s (by omega)).1]
        exact (r12 s (by omega)).2.2.1
      · obtain ⟨s, rfl⟩ := Nat.exists_eq_add_of_le (show 108 ≤ j by omega)
        rw [(r12 s (by omega)).2.1, (ub_mud s (by omega)).2]
        exact (r12 s (by omega)).2.2.2
    · exact n5 j (by omega)
theorem sm_eq {M V : Nat → Int32} : ∀ k, (∀ j, j < k → M j = V j) → sm M k = sm V k
  | 0, _ => rfl
  | k + 1, h => by rw [sm, sm, sm_eq k (fun j hj => h j (by omega)), h k (by omega)]
theorem sim_roads {n : Nat} {c m : Mm} (h : Rel n c m) : Sim n (f_X11_roads c) (f_X12_roads m) := by
  obtain ⟨t, t1, t2, t3, t4, t5⟩ := h.2.2.2.1
  unfold f_X11_roads f_X12_roads f_X6_readRoad f_X12_takesRoad
  obtain ⟨V, v1, v2⟩ := m_begin m
  have e : mm_up c 83 2 0 = cR c (nI 0) (c 88) (c 89) := by
    funext a
    by_cases e : a = 83
    · subst e
      rw [mm_up_eq]
      rfl
    · rw [mm_up_ne _ _ _ e, cR, if_neg e]
      by_cases e2 : a = 88
      · subst e2
        rw [if_pos rfl]
      · rw [if_neg e2]
        by_cases e3 : a = 89
        · subst e3
          rw [if_pos rfl]
        · rw [if_neg e3]
  rw [v1, op_v, mw_v, e]
  rcases both_road t1 t5 t3 t4 t2 (fun _ _ => rfl) 9 0 0 FU FU (c 88) (c 89) V (by omega) (fu_lt (by omega)) (fu_lt (by omega)) (by omega) ⟨fun k hk => by omega, fun k _ hk => v2 (9 + k) (by omega)⟩ with ⟨q, M, W, V', q1, q2, q3, q4⟩ | ⟨q, M, W, V', q1, q2, q3, q4⟩
  · rw [show f_X6_readRoad_c7 83 87 FU 0 (cR c (nI 0) (c 88) (c 89)) = _ from q3, show f_X12_takesRoad_c2 FU 0 (mT m (nI 0) V) = _ from q4, ob_v, ob_v, if_pos rfl, m_next (mT_rm t2 (fun _ _ => rfl) q V') t1 q1, q2]
    unfold f_X6_clear
    rw [mw_v, op_v, ob_v, mw_v, if_pos (m20_neg q (by omega)), mT_p]
    exact roads_no (t := t) h t4 (by rw [mm_up_eq, upd_ne _ _ (by omega), mT_p'])
  · obtain ⟨s, s1, s2⟩ := sm_nat (M := M) 9 (by omega) (fun j hj => by
      obtain ⟨u, w, z1, z2, z3, z4, z5, z6⟩ := q2.1 j hj
      exact ⟨u, z1, z4⟩)
    have se : sm M 9 = sm V' 9 := sm_eq 9 (fun j hj => by
      obtain ⟨u, w, z1, z2, z3, z4, z5, z6⟩ := q2.1 j hj
      rw [z3, z4])
    rw [show f_X6_readRoad_c7 83 87 FU 0 (cR c (nI 0) (c 88) (c 89)) = _ from q3, show f_X12_takesRoad_c2 FU 0 (mT m (nI 0) V) = _ from q4, ob_v, ob_v, if_neg (show ¬ (1 : Int32) = 0 by decide)]
    unfold f_X6_clear
    rw [mw_v, op_v, mw_v, if_neg (show ¬ sm M 9 < 0 by rw [s2]; exact nI_pos (by omega))]
    obtain ⟨g', d1, d2, d3, d5⟩ := k_become3 (g := mm_up (cR c (nI q) M W) 83 1 0) (a := 23) (b := 87) (by omega)
    rw [d1, op_v]
    have hM : mm_up (mT m (nI q) V') 0 4 0 = mm_row (mm_up (mT m (nI q) V') 0 4 0) 1 (m 1) := by
      funext a
      by_cases e : a = 1
      · subst e
        rw [mm_row_at, mm_up_ne _ _ _ (by omega)]
        rfl
      · rw [mm_row_ne _ _ e]
    rw [hM]
    obtain ⟨N1, n1, n2, n5⟩ := m_roads_c38 (h0 := mm_up (mT m (nI q) V') 0 4 0) (N := m 1) (V := V') (by rw [mm_up_ne _ _ _ (by omega)]; rfl) 9 0 FU (m 1) (by omega) (fu_lt (by omega)) (fun k hk => by omega) (fun _ _ => rfl)
    rw [show f_X12_roads_c38 FU 0 0 (mm_row (mm_up (mT m (nI q) V') 0 4 0) 1 (m 1)) = _ from n1]
    exact roads_yes h t4 q2 se d2 d3 d5 n2 n5
