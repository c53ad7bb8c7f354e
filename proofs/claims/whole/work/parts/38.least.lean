/-! the least minutes from a mile on -/
def lw (lim : Nat) (op : Nat → Bool) (mi : Nat → Nat → Nat) (i : Nat) : Nat → Nat
  | 0 => lim + 1
  | k + 1 => if op k = true then min (lw lim op mi i k) (mi k i) else lw lim op mi i k
def lsd (lim : Nat) (op : Nat → Bool) (mi : Nat → Nat → Nat) : Nat → Nat
  | 0 => 0
  | d + 1 => lsd lim op mi d + lw lim op mi (8 - d) 4
def lsN (lim : Nat) (op : Nat → Bool) (mi : Nat → Nat → Nat) (j : Nat) : Nat := lsd lim op mi (9 - j)
theorem lw_le (lim : Nat) (op : Nat → Bool) (mi : Nat → Nat → Nat) (i : Nat) : ∀ k, lw lim op mi i k ≤ lim + 1
  | 0 => Nat.le_refl _
  | k + 1 => by
    rw [lw]
    have := lw_le lim op mi i k
    split <;> omega
theorem lw_min (lim : Nat) (op : Nat → Bool) (mi : Nat → Nat → Nat) (i : Nat) : ∀ k g, g < k → op g = true → lw lim op mi i k ≤ mi g i
  | 0, g, h, _ => by omega
  | k + 1, g, h, ho => by
    rw [lw]
    by_cases e : g = k
    · subst e
      rw [if_pos ho]
      omega
    · have := lw_min lim op mi i k g (by omega) ho
      split <;> omega
theorem lsd_le (lim : Nat) (op : Nat → Bool) (mi : Nat → Nat → Nat) : ∀ d, lsd lim op mi d ≤ d * (lim + 1)
  | 0 => Nat.zero_le _
  | d + 1 => by
    rw [lsd, Nat.add_mul, Nat.one_mul]
    have := lsd_le lim op mi d
    have := lw_le lim op mi (8 - d) 4
    omega
theorem lsd_sa {Q : Type} {ok : Q → Nat → Bool} {nq : Q → Nat → Q} {mi : Nat → Nat → Nat} {op : Nat → Bool} {lim : Nat} (hop : ∀ q g, ok q g = true → op g = true) {z : Nat → Nat} : ∀ (d : Nat) (q : Q), d ≤ 9 → okr ok nq d (9 - d) q z → lsd lim op mi d ≤ sa mi d (9 - d) z
  | 0, _, _, _ => Nat.le_refl _
  | d + 1, q, hd, h => by
    rw [okr] at h
    obtain ⟨h1, h2, h3⟩ := h
    rw [lsd, sa]
    rw [show 9 - (d + 1) + 1 = 9 - d by omega] at h3 ⊢
    have := lsd_sa (lim := lim) (mi := mi) hop d _ (by omega) h3
    have := lw_min lim op mi (8 - d) 4 _ h1 (hop _ _ h2)
    rw [show 9 - (d + 1) = 8 - d by omega] at *
    omega
theorem k_least_c24 {g : Mm} {lim i : Nat} {op : Nat → Bool} {mi : Nat → Nat → Nat} (hi : i < 9) (hl : lim ≤ 999) (K : Int32 → Mm → Option Mm) (h1 : ∀ k, k < 4 → g 92 k = nI (b01 (op k))) (h2 : ∀ k j, k < 4 → j < 9 → g (94 + k) j = nI (mi k j)) (hm : ∀ k j, j < 9 → mi k j ≤ 60) : ∀ (d k f : Nat), k + d = 4 → d < f → f_X9_prepareLeast_c24 K 90 f (nI i) (nI (lw lim op mi i k)) (nI k) g = K (nI i + -1) (mm_up g 108 i (g 108 (i + 1) + nI (lw lim op mi i 4))) := by
  intro d
  induction d with
  | zero =>
    intro k f hk hf
    obtain ⟨f, rfl⟩ := Nat.exists_eq_succ_of_ne_zero (show f ≠ 0 by omega)
    have e : k = 4 := by omega
    subst e
    rw [f_X9_prepareLeast_c24, if_pos (show (4 : Int32) ≤ nI 4 by decide), nI_1, og_in _ (show i + 1 < 10 by omega) (by omega), og_in _ (show i < 10 by omega) (by omega), nI_clamp (show i + 1 < 2 ^ 31 by omega), nI_clamp (show i < 2 ^ 31 by omega), mw_v, mv_v]
  | succ d ih =>
    intro k f hk hf
    obtain ⟨f, rfl⟩ := Nat.exists_eq_succ_of_ne_zero (show f ≠ 0 by omega)
    rw [f_X9_prepareLeast_c24, if_neg (show ¬ (4 : Int32) ≤ nI k from nI_ge (b := 4) (by omega) (by omega)), og_in _ (show k < 4 by omega) (by omega), nI_clamp (show k < 2 ^ 31 by omega), nI_clamp (show i < 2 ^ 31 by omega), show g (90 + 2) k = nI (b01 (op k)) from h1 k (by omega), show g (90 + 4 + k) i = nI (mi k i) from h2 k i (by omega) hi]
    have hs := ih (k + 1) f (by omega) (by omega)
    rw [lw] at hs
    cases ho : op k with
    | false =>
      rw [ho, if_neg (by decide)] at hs
      rw [if_pos (show nI (b01 false) = 0 from rfl), mv_v, nI_1]
      exact hs
    | true =>
      rw [ho, if_pos rfl] at hs
      have lb := lw_le lim op mi i k
      have mb := hm k i hi
      rw [if_neg (show ¬ nI (b01 true) = 0 by decide), og_in _ (show k < 4 by omega) (by omega), og_in _ (show i < 9 by omega) (by omega), mv_v, mv_v, nI_1]
      by_cases c : mi k i < lw lim op mi i k
      · rw [if_pos (nI_lt c (by omega))]
        rw [show min (lw lim op mi i k) (mi k i) = mi k i by omega] at hs
        exact hs
      · rw [if_neg (nI_nlt (by omega) (by omega))]
        rw [show min (lw lim op mi i k) (mi k i) = lw lim op mi i k by omega] at hs
        exact hs
theorem k_least {lim : Nat} {op : Nat → Bool} {mi : Nat → Nat → Nat} (hl : lim ≤ 999) (hm : ∀ k j, j < 9 → mi k j ≤ 60) : ∀ (i f : Nat) (g : Mm), i ≤ 9 → i < f → g 90 2 = nI lim → (∀ k, k < 4 → g 92 k = nI (b01 (op k))) → (∀ k j, k < 4 → j < 9 → g (94 + k) j = nI (mi k j)) → (∀ j, i ≤ j → j ≤ 9 → g 108 j = nI (lsN lim op mi j)) →
    ∃ g', f_X9_prepareLeast_c11 90 f (nI i - 1) g = some g' ∧ (∀ j, j ≤ 9 → g' 108 j = nI (lsN lim op mi j)) ∧ ∀ x, x ≠ 108 → g' x = g x := by
  intro i
  induction i with
  | zero =>
    intro f g hi hf e h1 h2 h3
    obtain ⟨f, rfl⟩ := Nat.exists_eq_succ_of_ne_zero (show f ≠ 0 by omega)
    rw [f_X9_prepareLeast_c11, if_pos (show nI 0 - 1 < 0 by decide)]
    exact ⟨g, rfl, fun j hj => h3 j (by omega) hj, fun _ _ => rfl⟩
  | succ i ih =>
    intro f g hi hf e h1 h2 h3
    obtain ⟨f, rfl⟩ := Nat.exists_eq_succ_of_ne_zero (show f ≠ 0 by omega)
    rw [nI_pred, f_X9_prepareLeast_c11, if_neg (show ¬ nI i < 0 from nI_pos (by omega)), e, nI_1, mv_v]
    rw [show f_X9_prepareLeast_c24 (f_X9_prepareLeast_c11 90 f) 90 FU (nI i) (nI (lim + 1)) 0 g = _ from k_least_c24 (lim := lim) (show i < 9 by omega) hl (f_X9_prepareLeast_c11 90 f) h1 h2 hm 4 0 FU (by omega) (fu_lt (by omega))]
    have e1 : nI i + -1 = nI i - 1 := by rw [Int32.sub_eq_add_neg]
    rw [e1, h3 (i + 1) (by omega) (by omega), nI_add]
    obtain ⟨g', r1, r2, r3⟩ := ih f (mm_up g 108 i (nI (lsN lim op mi (i + 1) + lw lim op mi i 4))) (by omega) (by omega) (by rw [mm_up_ne _ _ _ (by omega)]; exact e) (fun k hk => by rw [mm_up_ne _ _ _ (by omega)]; exact h1 k hk) (fun k j hk hj => by rw [mm_up_ne _ _ _ (by omega)]; exact h2 k j hk hj) (fun j q1 q2 => by
      rw [mm_up_eq]
      by_cases ej : j = i
      · subst ej
        rw [upd_eq]
        unfold lsN
        rw [show 9 - j = 9 - (j + 1) + 1 by omega, lsd, show 8 - (9 - (j + 1)) = j by omega]
      · rw [upd_ne _ _ ej]
        exact h3 j (by omega) q2)
    exact ⟨g', r1, r2, fun x hx => by rw [r3 x hx, mm_up_ne _ _ _ hx]⟩
