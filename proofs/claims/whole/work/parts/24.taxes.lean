theorem Rel.tapeW {n : Nat} {c m c' m' : Mm} (h : Rel n c m) (hc : ∀ a, a = 0 ∨ 42 ≤ a → a ≠ 83 → a ≠ 84 → a < 85 ∨ 90 ≤ a → c' a = c a) (hm : ∀ a, 2 ≤ a → a < 7 ∨ 9 ≤ a → a ≠ 3 → m' a = m a) (h2 : m' 0 2 = m 0 2) (hT : TP c' m') (hW : WR c' 1 (m' 1)) (hF : WF (m' 1)) : Rel (n + 1) c' m' :=
  ⟨hW, hF, h.2.2.1.kept (by rw [hc 0 (by omega) (by omega) (by omega) (by omega)]) h2 (hm 2 (by omega) (by omega) (by omega)) (fun a _ h1 => hc a (by omega) (by omega) (by omega) (by omega)), hT, h.2.2.2.2.1.kept (fun a h1 _ => hc a (by omega) (by omega) (by omega) (by omega)) (hm 4 (by omega) (by omega) (by omega)) (hm 5 (by omega) (by omega) (by omega)) (hm 6 (by omega) (by omega) (by omega)), h.2.2.2.2.2.mono (by omega) (by rw [hc 135 (by omega) (by omega) (by omega) (by omega)]) (hc 138 (by omega) (by omega) (by omega) (by omega)) (fun a _ _ => hc a (by omega) (by omega) (by omega) (by omega)) (fun a _ _ => hm a (by omega) (by omega) (by omega))⟩
theorem TP0 {c m : Mm} (h1 : m 0 4 = 0) (h2 : c 83 1 = 0) (h3 : ∀ k, k < 60 → c 84 k = m 3 k) : TP c m := ⟨0, by omega, h1, h2, h3, fun k hk => absurd hk (Nat.not_lt_zero k)⟩
/-- where a draft of the taxes stands -/
def cT (c : Mm) (p fi fo : Int32) (R : Nat → Int32) : Mm := fun a => if a = 83 then upd (c 83) 2 p else if a = 85 then upd (upd (c 85) 1 fi) 2 fo else if a = 86 then R else c a
def mT (m : Mm) (p : Int32) (V : Nat → Int32) : Mm := fun a => if a = 0 then upd (m 0) 8 p else if a = 7 then V else m a
theorem upd_upd (f : Nat → Int32) (j : Nat) (x y : Int32) : upd (upd f j x) j y = upd f j y := by
  funext b
  by_cases e : b = j
  · subst e; rw [upd_eq, upd_eq]
  · rw [upd_ne _ _ e, upd_ne _ _ e, upd_ne _ _ e]
theorem cT_p (c : Mm) (p fi fo : Int32) (R : Nat → Int32) (x : Int32) : mm_up (cT c p fi fo R) 83 2 x = cT c x fi fo R := by
  funext a
  by_cases e : a = 83
  · subst e
    rw [mm_up_eq]
    exact upd_upd _ _ _ _
  · rw [mm_up_ne _ _ _ e, cT, cT, if_neg e, if_neg e]
theorem cT_fi (c : Mm) (p fi fo : Int32) (R : Nat → Int32) (x : Int32) : mm_up (cT c p fi fo R) 85 1 x = cT c p x fo R := by
  funext a
  by_cases e : a = 85
  · subst e
    rw [mm_up_eq]
    show upd (upd (upd (c 85) 1 fi) 2 fo) 1 x = upd (upd (c 85) 1 x) 2 fo
    funext b
    by_cases e1 : b = 1
    · subst e1; rw [upd_eq, upd_ne _ _ (by omega), upd_eq]
    · rw [upd_ne _ _ e1]
      by_cases e2 : b = 2
      · subst e2; rw [upd_eq, upd_eq]
      · rw [upd_ne _ _ e2, upd_ne _ _ e2, upd_ne _ _ e1, upd_ne _ _ e1]
  · rw [mm_up_ne _ _ _ e, cT, cT, if_neg e, if_neg e]
theorem cT_fo (c : Mm) (p fi fo : Int32) (R : Nat → Int32) (x : Int32) : mm_up (cT c p fi fo R) 85 2 x = cT c p fi x R := by
  funext a
  by_cases e : a = 85
  · subst e
    rw [mm_up_eq]
    exact upd_upd _ _ _ _
  · rw [mm_up_ne _ _ _ e, cT, cT, if_neg e, if_neg e]
theorem cT_R (c : Mm) (p fi fo : Int32) (R : Nat → Int32) (j : Nat) (x : Int32) : mm_up (cT c p fi fo R) 86 j x = cT c p fi fo (upd R j x) := by
  funext a
  by_cases e : a = 86
  · subst e
    rw [mm_up_eq]
    rfl
  · rw [mm_up_ne _ _ _ e]
    show (if a = 83 then _ else if a = 85 then _ else if a = 86 then _ else _) = (if a = 83 then _ else if a = 85 then _ else if a = 86 then _ else _)
    rw [if_neg e, if_neg e]
theorem mT_p (m : Mm) (p : Int32) (V : Nat → Int32) (x : Int32) : mm_up (mT m p V) 0 8 x = mT m x V := by
  funext a
  by_cases e : a = 0
  · subst e
    rw [mm_up_eq]
    exact upd_upd _ _ _ _
  · rw [mm_up_ne _ _ _ e, mT, mT, if_neg e, if_neg e]
theorem mT_V (m : Mm) (p : Int32) (V : Nat → Int32) (j : Nat) (x : Int32) : mm_up (mT m p V) 7 j x = mT m p (upd V j x) := by
  funext a
  by_cases e : a = 7
  · subst e
    rw [mm_up_eq]
    rfl
  · rw [mm_up_ne _ _ _ e]
    show (if a = 0 then _ else if a = 7 then _ else _) = (if a = 0 then _ else if a = 7 then _ else _)
    rw [if_neg e, if_neg e]
theorem cT_at (c : Mm) (p fi fo : Int32) (R : Nat → Int32) {a : Nat} (h1 : a ≠ 83) (h2 : a ≠ 85) (h3 : a ≠ 86) : cT c p fi fo R a = c a := by rw [cT, if_neg h1, if_neg h2, if_neg h3]
theorem mT_at (m : Mm) (p : Int32) (V : Nat → Int32) {a : Nat} (h1 : a ≠ 0) (h2 : a ≠ 7) : mT m p V a = m a := by rw [mT, if_neg h1, if_neg h2]
theorem mT_V' (m : Mm) (p : Int32) (V : Nat → Int32) : mT m p V 7 = V := rfl
theorem cT_p' (c : Mm) (p fi fo : Int32) (R : Nat → Int32) : cT c p fi fo R 83 2 = p := rfl
theorem cT_fi' (c : Mm) (p fi fo : Int32) (R : Nat → Int32) : cT c p fi fo R 85 1 = fi := rfl
theorem mT_p' (m : Mm) (p : Int32) (V : Nat → Int32) : mT m p V 0 8 = p := rfl
theorem cT_rc {c : Mm} {S : Nat → Int32} {t : Nat} (h1 : c 83 1 = nI t) (h2 : ∀ k, k < 60 → c 84 k = S k) (p : Nat) (fi fo : Int32) (R : Nat → Int32) : RC S t p (cT c (nI p) fi fo R) := ⟨h1, rfl, h2⟩
theorem mT_rm {m : Mm} {S : Nat → Int32} {t : Nat} (h1 : m 0 4 = nI t) (h2 : ∀ k, k < 60 → m 3 k = S k) (p : Nat) (V : Nat → Int32) : RM S t p (mT m (nI p) V) := ⟨h1, rfl, h2⟩
theorem m_begin_c7 (m : Mm) : ∀ (d i f : Nat) (V : Nat → Int32), i + d = 18 → d < f → (∀ k, k < i → V k = -1) → ∃ V', f_X12_begin_c7 f (nI i) (mT m 0 V) = some (mT m 0 V') ∧ ∀ k, k < 18 → V' k = -1 := by
  intro d
  induction d with
  | zero =>
    intro i f V hi hf hV
    obtain ⟨f, rfl⟩ := Nat.exists_eq_succ_of_ne_zero (show f ≠ 0 by omega)
    rw [f_X12_begin_c7, if_pos (show (18 : Int32) ≤ nI i from nI_le (a := 18) (by omega) (by omega))]
    exact ⟨V, rfl, fun k hk => hV k (by omega)⟩
  | succ d ih =>
    intro i f V hi hf hV
    obtain ⟨f, rfl⟩ := Nat.exists_eq_succ_of_ne_zero (show f ≠ 0 by omega)
    rw [f_X12_begin_c7, if_neg (show ¬ (18 : Int32) ≤ nI i from nI_ge (b := 18) (by omega) (by omega)), og_in _ (by omega) (by omega), nI_clamp (by omega), mw_v, mv_v, nI_1, mT_V]
    refine ih (i + 1) f _ (by omega) (by omega) (fun k hk => ?_)
    by_cases e : k = i
    · subst e
      rw [upd_eq]
    · rw [upd_ne _ _ e]
      exact hV k (by omega)
theorem m_begin (m : Mm) : ∃ V, f_X12_begin m = some (mT m (nI 0) V) ∧ ∀ k, k < 18 → V k = -1 := by
  unfold f_X12_begin
  have e : mm_up m 0 8 0 = mT m 0 (m 7) := by
    funext a
    by_cases e : a = 0
    · subst e
      rw [mm_up_eq]
      rfl
    · rw [mm_up_ne _ _ _ e, mT, if_neg e]
      by_cases e2 : a = 7
      · subst e2
        rw [if_pos rfl]
      · rw [if_neg e2]
  rw [mw_v, e]
  exact m_begin_c7 m 18 0 FU (m 7) (by omega) (fu_lt (by omega)) (fun k hk => by omega)
def so (x : Int32) : Int32 := if x = 112 then 0 else if x = 115 then 1 else if x = 99 then 2 else if x = 107 then 3 else -1
theorem m_sortOf (x : Int32) : f_X12_sortOf x = some (so x) := by
  unfold f_X12_sortOf so
  split
  · rfl
  · split
    · rfl
    · split
      · rfl
      · split <;> rfl
theorem k_sortOf (x : Int32) : f_X6_sortOf x = some (so x) := by
  unfold f_X6_sortOf so
  by_cases h1 : x = 112
  · subst h1; rfl
  by_cases h2 : x = 115
  · subst h2; rfl
  by_cases h3 : x = 99
  · subst h3; rfl
  by_cases h4 : x = 107
  · subst h4; rfl
  simp only [if_neg h1, if_neg h2, if_neg h3, if_neg h4]
theorem so_cases (x : Int32) : so x = -1 ∨ ∃ j, j < 4 ∧ so x = nI j ∧ x ≠ -1 := by
  unfold so
  by_cases h1 : x = 112
  · subst h1; exact Or.inr ⟨0, by omega, rfl, by decide⟩
  by_cases h2 : x = 115
  · subst h2; exact Or.inr ⟨1, by omega, rfl, by decide⟩
  by_cases h3 : x = 99
  · subst h3; exact Or.inr ⟨2, by omega, rfl, by decide⟩
  by_cases h4 : x = 107
  · subst h4; exact Or.inr ⟨3, by omega, rfl, by decide⟩
  rw [if_neg h1, if_neg h2, if_neg h3, if_neg h4]
  exact Or.inl rfl
theorem sg_lt {S : Nat → Int32} {t q : Nat} (h : sg S t q ≠ -1) : q < t := by
  rcases Nat.lt_or_ge q t with w | w
  · exact w
  · exact absurd (if_pos w) h
/-- how many of the four lowest bits are set -/
def pc (k : Nat) : Nat := (if k.testBit 0 then 1 else 0) + (if k.testBit 1 then 1 else 0) + (if k.testBit 2 then 1 else 0) + (if k.testBit 3 then 1 else 0)
theorem pc_bit : ∀ mk, mk < 16 → ∀ j, j < 4 → (((nI mk >>> (nI j &&& 31)) &&& 1 = 1) ↔ mk.testBit j = true) ∧ (mk.testBit j = false → pc (mk ||| 2 ^ j) = pc mk + 1) ∧ mk ||| 2 ^ j < 16 ∧ nI mk ||| ((1 : Int32) <<< (nI j &&& 31)) = nI (mk ||| 2 ^ j) := by decide +kernel
theorem pc_or : ∀ mk, mk < 16 → ∀ j, j < 4 → ∀ i, i < 4 → (mk ||| 2 ^ j).testBit i = (mk.testBit i || decide (i = j)) := by decide +kernel
theorem pc_le : ∀ mk, mk < 16 → pc mk ≤ 4 ∧ (pc mk = 4 → ∀ j, j < 4 → mk.testBit j = true) := by decide +kernel
/-- the rates so far -/
def TI (N R V : Nat → Int32) (mk : Nat) : Prop := ∀ j, j < 4 → (mk.testBit j = false → V j = -1 ∧ R j = N (95 + j)) ∧ (mk.testBit j = true → ∃ v, v ≤ 9 ∧ V j = nI v ∧ R j = nI v)
theorem ob_id {α : Type} (X : Option (Int32 × Mm)) (k : Int32 → Mm → Option α) (Y : Option (Int32 × Mm)) (h : X = Y) : ob X k = ob Y k := by rw [h]
theorem both_rates {S : Nat → Int32} {t : Nat} (ht : t ≤ 60) (hS : SI S t) {c m : Mm} (c1 : c 83 1 = nI t) (c2 : ∀ k, k < 60 → c 84 k = S k) (m1 : m 0 4 = nI t) (m2 : ∀ k, k < 60 → m 3 k = S k) (N : Nat → Int32) (fi fo : Int32) : ∀ (d p f f' mk : Nat) (R V : Nat → Int32), mk < 16 → pc mk + d = 4 → d < f → d < f' → p ≤ t → TI N R V mk →
    ∃ q R' V', q ≤ t ∧ (∀ j, 4 ≤ j → V' j = V j) ∧
      ((f_X6_readRates_c4 83 85 f (nI mk) (nI (pc mk)) (cT c (nI p) fi fo R) = some (0, cT c (nI q) fi fo R') ∧ sk S t q = q ∧ ob (f_X12_next (mT m (nI p) V)) (fun r g => op (f_X12_sortOf r) (fun s => f_X12_takesTax_c54 f' (nI (pc mk)) s g)) = some (-1, mT m (nI q) V')) ∨
       ∃ mk', mk' < 16 ∧ TI N R' V' mk' ∧ (pc mk' = 0 → sk S t q = q) ∧ f_X6_readRates_c4 83 85 f (nI mk) (nI (pc mk)) (cT c (nI p) fi fo R) = some (nI (pc mk'), cT c (nI q) fi fo R') ∧ ob (f_X12_next (mT m (nI p) V)) (fun r g => op (f_X12_sortOf r) (fun s => f_X12_takesTax_c54 f' (nI (pc mk)) s g)) = f_X12_takesTax_c101 (nI (pc mk')) (mT m (nI (sk S t q)) V')) := by
  intro d
  induction d with
  | zero =>
    intro p f f' mk R V hmk hd hf hf' hp hI
    obtain ⟨f, rfl⟩ := Nat.exists_eq_succ_of_ne_zero (show f ≠ 0 by omega)
    obtain ⟨f', rfl⟩ := Nat.exists_eq_succ_of_ne_zero (show f' ≠ 0 by omega)
    have e4 : pc mk = 4 := by omega
    refine ⟨p, R, V, hp, fun _ _ => rfl, Or.inr ⟨mk, hmk, hI, fun h => by omega, ?_, ?_⟩⟩
    · rw [f_X6_readRates_c4, e4, if_pos (by decide)]
      rfl
    · rw [m_next (mT_rm m1 m2 p V) ht hp, ob_v, m_sortOf, op_v, mT_p, f_X12_takesTax_c54]
      rcases so_cases (sg S t (sk S t p)) with e | ⟨j, j1, e, _⟩
      · rw [e, if_pos (by decide)]
      · rw [e, if_neg (nI_pos (by omega)), og_in _ (by omega) (by omega), nI_clamp (by omega), mT_V']
        obtain ⟨v, v1, v2, v3⟩ := (hI j j1).2 ((pc_le mk hmk).2 e4 j j1)
        rw [v2, if_pos (nI_pos' (by omega))]
  | succ d ih =>
    intro p f f' mk R V hmk hd hf hf' hp hI
    obtain ⟨f, rfl⟩ := Nat.exists_eq_succ_of_ne_zero (show f ≠ 0 by omega)
    obtain ⟨f', rfl⟩ := Nat.exists_eq_succ_of_ne_zero (show f' ≠ 0 by omega)
    rw [f_X6_readRates_c4, if_neg (show ¬ (4 : Int32) ≤ nI (pc mk) from nI_ge (b := 4) (by omega) (by omega)), k_look (cT_rc c1 c2 p fi fo R) ht hp, m_next (mT_rm m1 m2 p V) ht hp]
    simp only [ob_v, m_sortOf, k_sortOf, op_v, cT_p, mT_p]
    rw [f_X12_takesTax_c54]
    have s1 := sk_ge (S := S) hp
    have s2 := sk_sk (S := S) hp
    generalize hq : sk S t p = q at *
    rcases so_cases (sg S t q) with e | ⟨j, j1, e, ne⟩
    · rw [e, if_pos (show (-1 : Int32) < 0 by decide), if_pos (show (-1 : Int32) < 0 by decide)]
      exact ⟨q, R, V, by omega, fun _ _ => rfl, Or.inr ⟨mk, hmk, hI, fun _ => s2, rfl, by rw [s2]⟩⟩
    · have hqt := sg_lt ne
      rw [e, if_neg (show ¬ nI j < 0 from nI_pos (by omega)), if_neg (show ¬ nI j < 0 from nI_pos (by omega)), og_in _ (show j < 18 by omega) (by omega), nI_clamp (show j < 2 ^ 31 by omega), mT_V']
      obtain ⟨b1, b2, b3, b4⟩ := pc_bit mk hmk j j1
      cases hb : mk.testBit j with
      | true =>
        obtain ⟨v, v1, v2, v3⟩ := (hI j j1).2 hb
        rw [if_pos (b1.mpr hb), v2, if_pos (show 0 ≤ nI v from nI_pos' (by omega))]
        exact ⟨q, R, V, by omega, fun _ _ => rfl, Or.inr ⟨mk, hmk, hI, fun _ => s2, rfl, by rw [s2]⟩⟩
      | false =>
        obtain ⟨v1, v2⟩ := (hI j j1).1 hb
        rw [if_neg (fun h => by have := b1.mp h; rw [hb] at this; exact absurd this (by decide)), v1, if_neg (show ¬ (0 : Int32) ≤ -1 by decide)]
        simp only [mw_v, mv_v]
        rw [b4, cT_p, mT_p, cT_p', mT_p', nI_1]
        rcases both_digit ht (show q + 1 ≤ t by omega) hS (slot := j) (by omega) (cT_rc c1 c2 (q + 1) fi fo R) (mT_rm m1 m2 (q + 1) V) with ⟨r1, r2⟩ | ⟨r, v, r1, r2, r3, r4⟩
        · rw [r1, r2, ob_v, ob_v, if_neg (show ¬ (0 : Int32) ≤ -1 by decide), if_pos rfl, cT_p, mT_p]
          have s3 := sk_ge (S := S) (show q + 1 ≤ t by omega)
          exact ⟨sk S t (q + 1), R, V, by omega, fun _ _ => rfl, Or.inl ⟨rfl, sk_sk (by omega), rfl⟩⟩
        · rw [r3, r4, ob_v, ob_v, if_pos (show (0 : Int32) ≤ nI v from nI_pos' (by omega)), if_neg (show ¬ (1 : Int32) = 0 by decide), cT_p, mT_p, mT_V, og_in _ (show j < 4 by omega) (by omega)]
          rw [show mm_up (cT c (nI r) fi fo R) (85 + 1) j (nI v) = cT c (nI r) fi fo (upd R j (nI v)) from cT_R _ _ _ _ _ _ _, nI_1, ← b2 hb]
          obtain ⟨q', R', V', a1, a2, a3⟩ := ih r f f' (mk ||| 2 ^ j) (upd R j (nI v)) (upd V j (nI v)) b3 (by rw [b2 hb]; omega) (by omega) (by omega) r1 (fun i hi => by
            rw [pc_or mk hmk j j1 i hi]
            by_cases ei : i = j
            · subst ei
              rw [decide_eq_true rfl, Bool.or_true, upd_eq, upd_eq]
              exact ⟨fun h => absurd h (by decide), fun _ => ⟨v, r2, rfl, rfl⟩⟩
            · rw [decide_eq_false ei, Bool.or_false, upd_ne _ _ ei, upd_ne _ _ ei]
              exact hI i hi)
          exact ⟨q', R', V', a1, fun i hi => by rw [a2 i hi, upd_ne _ _ (by omega)], a3⟩
