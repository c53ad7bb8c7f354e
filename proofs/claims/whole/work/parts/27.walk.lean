/-! walks: rows of nine goings; what both searches have in common -/
section
def okr {Q : Type} (ok : Q → Nat → Bool) (nq : Q → Nat → Q) : Nat → Nat → Q → (Nat → Nat) → Prop
  | 0, _, _, _ => True
  | d + 1, i, q, r => r i < 4 ∧ ok q (r i) = true ∧ okr ok nq d (i + 1) (nq q (r i)) r
def qa {Q : Type} (nq : Q → Nat → Q) : Nat → Nat → Q → (Nat → Nat) → Q
  | 0, _, q, _ => q
  | d + 1, i, q, r => qa nq d (i + 1) (nq q (r i)) r
def sa (mi : Nat → Nat → Nat) : Nat → Nat → (Nat → Nat) → Nat
  | 0, _, _ => 0
  | d + 1, i, r => mi (r i) i + sa mi d (i + 1) r
theorem sa_add (mi : Nat → Nat → Nat) (r : Nat → Nat) : ∀ d e i, sa mi (d + e) i r = sa mi d i r + sa mi e (i + d) r
  | 0, e, i => by rw [Nat.zero_add, Nat.add_zero, sa, Nat.zero_add]
  | d + 1, e, i => by rw [show d + 1 + e = d + e + 1 by omega, sa, sa, sa_add mi r d e (i + 1), show i + 1 + d = i + (d + 1) by omega, Nat.add_assoc]
theorem sa_s (mi : Nat → Nat → Nat) (r : Nat → Nat) (i : Nat) : sa mi (i + 1) 0 r = sa mi i 0 r + mi (r i) i := by rw [sa_add mi r i 1 0, Nat.zero_add]; rfl
theorem qa_add {Q : Type} (nq : Q → Nat → Q) (r : Nat → Nat) : ∀ d e i q, qa nq (d + e) i q r = qa nq e (i + d) (qa nq d i q r) r
  | 0, e, i, q => by rw [Nat.zero_add, Nat.add_zero, qa]
  | d + 1, e, i, q => by rw [show d + 1 + e = d + e + 1 by omega, qa, qa, qa_add nq r d e (i + 1), show i + 1 + d = i + (d + 1) by omega]
theorem okr_add {Q : Type} (ok : Q → Nat → Bool) (nq : Q → Nat → Q) (r : Nat → Nat) : ∀ d e i q, okr ok nq (d + e) i q r ↔ okr ok nq d i q r ∧ okr ok nq e (i + d) (qa nq d i q r) r
  | 0, e, i, q => by rw [Nat.zero_add, Nat.add_zero, qa, okr, true_and]
  | d + 1, e, i, q => by rw [show d + 1 + e = d + e + 1 by omega, okr, okr, qa, okr_add ok nq r d e (i + 1), show i + 1 + d = i + (d + 1) by omega, and_assoc, and_assoc]
theorem sa_congr (mi : Nat → Nat → Nat) {r s : Nat → Nat} : ∀ d i, (∀ j, i ≤ j → j < i + d → r j = s j) → sa mi d i r = sa mi d i s
  | 0, _, _ => rfl
  | d + 1, i, h => by rw [sa, sa, h i (by omega) (by omega), sa_congr mi d (i + 1) (fun j h1 h2 => h j (by omega) (by omega))]
theorem qa_congr {Q : Type} (nq : Q → Nat → Q) {r s : Nat → Nat} : ∀ d i q, (∀ j, i ≤ j → j < i + d → r j = s j) → qa nq d i q r = qa nq d i q s
  | 0, _, _, _ => rfl
  | d + 1, i, q, h => by rw [qa, qa, h i (by omega) (by omega), qa_congr nq d (i + 1) _ (fun j h1 h2 => h j (by omega) (by omega))]
theorem okr_congr {Q : Type} (ok : Q → Nat → Bool) (nq : Q → Nat → Q) {r s : Nat → Nat} : ∀ d i q, (∀ j, i ≤ j → j < i + d → r j = s j) → (okr ok nq d i q r ↔ okr ok nq d i q s)
  | 0, _, _, _ => Iff.rfl
  | d + 1, i, q, h => by rw [okr, okr, h i (by omega) (by omega), okr_congr ok nq d (i + 1) _ (fun j h1 h2 => h j (by omega) (by omega))]
theorem okr_lt {Q : Type} {ok : Q → Nat → Bool} {nq : Q → Nat → Q} {r : Nat → Nat} : ∀ {d i : Nat} {q : Q}, okr ok nq d i q r → ∀ j, i ≤ j → j < i + d → r j < 4
  | 0, i, q, _, j, h1, h2 => by omega
  | d + 1, i, q, h, j, h1, h2 => by
    rw [okr] at h
    by_cases e : j = i
    · subst e; exact h.1
    · exact okr_lt h.2.2 j (by omega) (by omega)
/-- the rest of a walk takes at least what the miles take at least -/
theorem sa_least {Q : Type} {ok : Q → Nat → Bool} {nq : Q → Nat → Q} {mi : Nat → Nat → Nat} {op : Nat → Bool} {lw : Nat → Nat} (hop : ∀ q g, ok q g = true → op g = true) (hlw : ∀ g i, g < 4 → op g = true → lw i ≤ mi g i) {r : Nat → Nat} : ∀ (d i : Nat) (q : Q), okr ok nq d i q r → sa (fun _ => lw) d i r ≤ sa mi d i r
  | 0, _, _, _ => Nat.le_refl _
  | d + 1, i, q, h => by
    rw [okr] at h
    rw [sa, sa]
    have h1 := sa_least hop hlw d (i + 1) _ h.2.2
    have h2 := hlw (r i) i h.1 (hop _ _ h.2.1)
    omega
/-- what is done: no worse than this -/
def dom (f : Bool) (bc bt c t : Nat) : Prop := f = true ∧ (bc < c ∨ bc = c ∧ bt ≤ t)
theorem dom.mono {f : Bool} {bc bt c t c' t' : Nat} (h : dom f bc bt c t) (h1 : c ≤ c') (h2 : t ≤ t') : dom f bc bt c' t' := ⟨h.1, by have := h.2; omega⟩
theorem dom.better {f : Bool} {bc bt c t bc' bt' : Nat} (h : dom f bc bt c t) (hb : bc' < bc ∨ bc' = bc ∧ bt' < bt) : dom true bc' bt' c t := ⟨rfl, by have := h.2; omega⟩
def ua (a : Nat → Nat) (i x : Nat) : Nat → Nat := fun j => if j = i then x else a j
theorem ua_eq (a : Nat → Nat) (i x : Nat) : ua a i x i = x := if_pos rfl
theorem ua_ne (a : Nat → Nat) {i j : Nat} (x : Nat) (h : j ≠ i) : ua a i x j = a j := if_neg h
/-- the path of a place in the search: a j goings of mile j have been begun -/
def pth (a : Nat → Nat) : Nat → Nat := fun j => a j - 1
/-- the rows ahead of a place in the search -/
def inX (i : Nat) (a y : Nat → Nat) : Prop := ∃ j, j ≤ i ∧ (∀ k, k < j → y k = pth a k) ∧ (j < i → y j + 1 < a j) ∧ (j = i → y i < a i)
def Vd {Q : Type} (ok : Q → Nat → Bool) (nq : Q → Nat → Q) (mi : Nat → Nat → Nat) (lim : Nat) (q0 : Q) (y : Nat → Nat) : Prop := okr ok nq 9 0 q0 y ∧ sa mi 9 0 y ≤ lim
def lexlt (y z : Nat → Nat) : Prop := ∃ j, j < 9 ∧ (∀ k, k < j → y k = z k) ∧ y j < z j
/-- what the search has found so far -/
def B1 {Q : Type} (ok : Q → Nat → Bool) (nq : Q → Nat → Q) (mi co : Nat → Nat → Nat) (lim : Nat) (q0 : Q) (f : Bool) (br : Nat → Nat) (bc bt : Nat) : Prop :=
  f = true → Vd ok nq mi lim q0 br ∧ bc = sa co 9 0 br ∧ bt = sa mi 9 0 br ∧ ∀ y, Vd ok nq mi lim q0 y → lexlt y br → bc < sa co 9 0 y ∨ bc = sa co 9 0 y ∧ bt < sa mi 9 0 y
def CI {Q : Type} (ok : Q → Nat → Bool) (nq : Q → Nat → Q) (mi co : Nat → Nat → Nat) (lim : Nat) (q0 : Q) (i : Nat) (a : Nat → Nat) (f : Bool) (br : Nat → Nat) (bc bt : Nat) : Prop :=
  i ≤ 8 ∧ (∀ j, j < i → 1 ≤ a j ∧ a j ≤ 4) ∧ a i ≤ 4 ∧ okr ok nq i 0 q0 (pth a) ∧ B1 ok nq mi co lim q0 f br bc bt ∧ ∀ y, Vd ok nq mi lim q0 y → inX i a y → dom f bc bt (sa co 9 0 y) (sa mi 9 0 y)
variable {Q : Type} {ok : Q → Nat → Bool} {nq : Q → Nat → Q} {mi co : Nat → Nat → Nat} {lim : Nat} {q0 : Q}
theorem Vd.lt {y : Nat → Nat} (h : Vd ok nq mi lim q0 y) {j : Nat} (hj : j < 9) : y j < 4 := okr_lt h.1 j (by omega) (by omega)
theorem pth_ua {a : Nat → Nat} {i x j : Nat} (h : j ≠ i) : pth (ua a i x) j = pth a j := by rw [pth, pth, ua_ne _ _ h]
theorem CI.skip {i : Nat} {a : Nat → Nat} {f : Bool} {br : Nat → Nat} {bc bt : Nat} (h : CI ok nq mi co lim q0 i a f br bc bt) (h4 : a i < 4) (hs : ∀ y, Vd ok nq mi lim q0 y → (∀ j, j < i → y j = pth a j) → y i = a i → dom f bc bt (sa co 9 0 y) (sa mi 9 0 y)) : CI ok nq mi co lim q0 i (ua a i (a i + 1)) f br bc bt := by
  obtain ⟨h1, h2, h3, h5, h6, h7⟩ := h
  refine ⟨h1, fun j hj => by rw [ua_ne _ _ (by omega)]; exact h2 j hj, by rw [ua_eq]; omega, ?_, h6, fun y hy hx => ?_⟩
  · rw [okr_congr ok nq i 0 q0 (s := pth a) (fun j _ hj => pth_ua (by omega))]
    exact h5
  · obtain ⟨j, j1, j2, j3, j4⟩ := hx
    have e : ∀ k, k < j → y k = pth a k := fun k hk => by rw [j2 k hk, pth_ua (by omega)]
    by_cases ej : j = i
    · subst ej
      have := j4 rfl
      rw [ua_eq] at this
      by_cases e1 : y j = a j
      · exact hs y hy e e1
      · exact h7 y hy ⟨j, j1, e, fun h => by omega, fun _ => by omega⟩
    · have := j3 (by omega)
      rw [ua_ne _ _ ej] at this
      exact h7 y hy ⟨j, j1, e, fun _ => this, fun h => absurd h ej⟩
theorem CI.down {i : Nat} {a : Nat → Nat} {f : Bool} {br : Nat → Nat} {bc bt : Nat} (h : CI ok nq mi co lim q0 i a f br bc bt) (h4 : a i < 4) (h8 : i < 8) (hok : ok (qa nq i 0 q0 (pth a)) (a i) = true) : CI ok nq mi co lim q0 (i + 1) (ua (ua a i (a i + 1)) (i + 1) 0) f br bc bt := by
  obtain ⟨h1, h2, h3, h5, h6, h7⟩ := h
  have pe : ∀ j, j < i → pth (ua (ua a i (a i + 1)) (i + 1) 0) j = pth a j := fun j hj => by rw [pth_ua (by omega), pth_ua (by omega)]
  have pi : pth (ua (ua a i (a i + 1)) (i + 1) 0) i = a i := by rw [pth_ua (by omega), pth, ua_eq]; omega
  refine ⟨by omega, fun j hj => ?_, by rw [ua_eq]; omega, ?_, h6, fun y hy hx => ?_⟩
  · rw [ua_ne _ _ (by omega)]
    by_cases e : j = i
    · subst e
      rw [ua_eq]
      omega
    · rw [ua_ne _ _ e]
      exact h2 j (by omega)
  · rw [okr_add]
    refine ⟨(okr_congr ok nq i 0 q0 (fun j _ hj => pe j (by omega))).mpr h5, ?_⟩
    rw [okr, Nat.zero_add, pi, qa_congr nq i 0 q0 (fun j _ hj => pe j (by omega))]
    exact ⟨h4, hok, trivial⟩
  · obtain ⟨j, j1, j2, j3, j4⟩ := hx
    by_cases ej : j = i + 1
    · subst ej
      have := j4 rfl
      rw [ua_eq] at this
      omega
    · have j3 := j3 (by omega)
      rw [ua_ne _ _ ej] at j3
      have e : ∀ k, k < j → y k = pth a k := fun k hk => by rw [j2 k hk, pe k (by omega)]
      by_cases e2 : j = i
      · subst e2
        rw [ua_eq] at j3
        exact h7 y hy ⟨j, by omega, e, fun h => by omega, fun _ => by omega⟩
      · rw [ua_ne _ _ e2] at j3
        exact h7 y hy ⟨j, by omega, e, fun _ => j3, fun h => absurd h e2⟩
theorem CI.up {i : Nat} {a : Nat → Nat} {f : Bool} {br : Nat → Nat} {bc bt : Nat} (h : CI ok nq mi co lim q0 (i + 1) a f br bc bt) (h4 : a (i + 1) = 4) : CI ok nq mi co lim q0 i a f br bc bt := by
  obtain ⟨h1, h2, h3, h5, h6, h7⟩ := h
  refine ⟨by omega, fun j hj => h2 j (by omega), (h2 i (by omega)).2, ((okr_add ok nq (pth a) i 1 0 q0).mp h5).1, h6, fun y hy hx => ?_⟩
  obtain ⟨j, j1, j2, j3, j4⟩ := hx
  by_cases ej : j = i
  · subst ej
    have j4 := j4 rfl
    by_cases e : y j + 1 < a j
    · exact h7 y hy ⟨j, by omega, j2, fun _ => e, fun h => by omega⟩
    · refine h7 y hy ⟨j + 1, by omega, fun k hk => ?_, fun h => by omega, fun _ => by rw [h4]; exact hy.lt (by omega)⟩
      by_cases e2 : k = j
      · subst e2
        rw [pth]
        omega
      · exact j2 k (by omega)
  · exact h7 y hy ⟨j, by omega, j2, fun _ => j3 (by omega), fun h => by omega⟩
theorem CI.done {a : Nat → Nat} {f : Bool} {br : Nat → Nat} {bc bt : Nat} (h : CI ok nq mi co lim q0 0 a f br bc bt) (h4 : a 0 = 4) : ∀ y, Vd ok nq mi lim q0 y → dom f bc bt (sa co 9 0 y) (sa mi 9 0 y) :=
  fun y hy => h.2.2.2.2.2 y hy ⟨0, by omega, fun k hk => by omega, fun h => by omega, fun _ => by rw [h4]; exact hy.lt (by omega)⟩
theorem CI.leaf {a : Nat → Nat} {f : Bool} {br br' : Nat → Nat} {bc bt bc' bt' : Nat} (h : CI ok nq mi co lim q0 8 a f br bc bt) (h4 : a 8 < 4) (hok : ok (qa nq 8 0 q0 (pth a)) (a 8) = true) (hr : ∀ j, j < 8 → br' j = pth a j) (hr8 : br' 8 = a 8) (hc : bc' = sa co 8 0 (pth a) + co (a 8) 8) (ht : bt' = sa mi 8 0 (pth a) + mi (a 8) 8) (hl : bt' ≤ lim) (hb : f = true → bc' < bc ∨ bc' = bc ∧ bt' < bt) : CI ok nq mi co lim q0 8 (ua a 8 (a 8 + 1)) true br' bc' bt' := by
  have H := h
  obtain ⟨h1, h2, h3, h5, h6, h7⟩ := h
  have s8 : ∀ (g : Nat → Nat → Nat), sa g 9 0 br' = sa g 8 0 (pth a) + g (a 8) 8 := fun g => by
    rw [sa_s g br' 8, hr8, sa_congr g 8 0 (fun j _ hj => hr j (by omega))]
  have v : Vd ok nq mi lim q0 br' := by
    refine ⟨(okr_add ok nq br' 8 1 0 q0).mpr ⟨(okr_congr ok nq 8 0 q0 (fun j _ hj => hr j (by omega))).mpr h5, ?_⟩, by rw [s8, ← ht]; exact hl⟩
    rw [okr, Nat.zero_add, hr8, qa_congr nq 8 0 q0 (fun j _ hj => hr j (by omega))]
    exact ⟨h4, hok, trivial⟩
  have old : ∀ y, Vd ok nq mi lim q0 y → inX 8 a y → bc' < sa co 9 0 y ∨ bc' = sa co 9 0 y ∧ bt' < sa mi 9 0 y := fun y hy hx => by
    obtain ⟨d1, d2⟩ := h7 y hy hx
    have := hb d1
    omega
  refine ⟨h1, fun j hj => by rw [ua_ne _ _ (by omega)]; exact h2 j hj, by rw [ua_eq]; omega, ?_, fun _ => ⟨v, by rw [s8]; exact hc, by rw [s8]; exact ht, fun y hy hlt => ?_⟩, fun y hy hx => ?_⟩
  · rw [okr_congr ok nq 8 0 q0 (s := pth a) (fun j _ hj => pth_ua (by omega))]
    exact h5
  · obtain ⟨j, j1, j2, j3⟩ := hlt
    refine old y hy ⟨j, by omega, fun k hk => by rw [j2 k hk, hr k (by omega)], fun h => ?_, fun h => ?_⟩
    · rw [hr j h, pth] at j3
      omega
    · subst h
      rw [hr8] at j3
      exact j3
  · obtain ⟨j, j1, j2, j3, j4⟩ := hx
    have e : ∀ k, k < j → y k = pth a k := fun k hk => by rw [j2 k hk, pth_ua (by omega)]
    by_cases ej : j = 8
    · subst ej
      have := j4 rfl
      rw [ua_eq] at this
      by_cases e1 : y 8 = a 8
      · have e9 : ∀ j, 0 ≤ j → j < 0 + 9 → y j = br' j := fun j _ hj => by
          by_cases e2 : j = 8
          · subst e2; rw [e1, hr8]
          · rw [e j (by omega), hr j (by omega)]
        rw [sa_congr co 9 0 e9, sa_congr mi 9 0 e9, s8, s8, ← hc, ← ht]
        exact ⟨rfl, by omega⟩
      · have := old y hy ⟨8, j1, e, fun h => by omega, fun _ => by omega⟩
        exact ⟨rfl, by omega⟩
    · have j3 := j3 (by omega)
      rw [ua_ne _ _ ej] at j3
      have := old y hy ⟨j, j1, e, fun _ => j3, fun h => absurd h ej⟩
      exact ⟨rfl, by omega⟩
/-- a place in the search where nothing is found yet -/
theorem CI.start (br : Nat → Nat) (bc bt : Nat) {a : Nat → Nat} (h : a 0 = 0) : CI ok nq mi co lim q0 0 a false br bc bt :=
  ⟨by omega, fun j hj => by omega, by omega, trivial, fun h => absurd h (by decide), fun y _ hx => by
    obtain ⟨j, j1, j2, j3, j4⟩ := hx
    have := j4 (by omega)
    omega⟩
theorem lex_or {y z : Nat → Nat} (h : ¬ ∀ j, j < 9 → y j = z j) : lexlt y z ∨ lexlt z y := by
  have key : ∀ n, (∀ j, j < n → y j = z j) ∨ ∃ j, j < n ∧ (∀ k, k < j → y k = z k) ∧ y j ≠ z j := by
    intro n
    induction n with
    | zero => exact Or.inl (fun j hj => by omega)
    | succ n ih =>
      rcases ih with ih | ⟨j, j1, j2, j3⟩
      · by_cases e : y n = z n
        · refine Or.inl (fun j hj => ?_)
          by_cases ej : j = n
          · subst ej; exact e
          · exact ih j (by omega)
        · exact Or.inr ⟨n, by omega, ih, e⟩
      · exact Or.inr ⟨j, by omega, j2, j3⟩
  rcases key 9 with k | ⟨j, j1, j2, j3⟩
  · exact absurd k h
  · rcases Nat.lt_or_ge (y j) (z j) with w | w
    · exact Or.inl ⟨j, j1, j2, w⟩
    · exact Or.inr ⟨j, j1, fun k hk => (j2 k hk).symm, by omega⟩
/-- two searches that are done have found the same -/
theorem both_found {f f' : Bool} {br br' : Nat → Nat} {bc bt bc' bt' : Nat} (h : B1 ok nq mi co lim q0 f br bc bt) (h' : B1 ok nq mi co lim q0 f' br' bc' bt') (a : ∀ y, Vd ok nq mi lim q0 y → dom f bc bt (sa co 9 0 y) (sa mi 9 0 y)) (a' : ∀ y, Vd ok nq mi lim q0 y → dom f' bc' bt' (sa co 9 0 y) (sa mi 9 0 y)) : f = f' ∧ (f = true → bc = bc' ∧ bt = bt' ∧ ∀ j, j < 9 → br j = br' j) := by
  have e : f = f' := by
    cases ef : f with
    | true => exact ((a' br (h ef).1).1).symm
    | false =>
      cases ef' : f' with
      | false => rfl
      | true =>
        have := (a br' (h' ef').1).1
        rw [ef] at this
        exact this
  subst e
  refine ⟨rfl, fun hf => ?_⟩
  obtain ⟨v, v1, v2, v3⟩ := h hf
  obtain ⟨v', v1', v2', v3'⟩ := h' hf
  have d1 := (a br' v').2
  have d2 := (a' br v).2
  have e1 : bc = bc' := by omega
  have e2 : bt = bt' := by omega
  refine ⟨e1, e2, ?_⟩
  rcases Classical.em (∀ j, j < 9 → br j = br' j) with w | w
  · exact w
  · rcases lex_or w with q | q
    · have := v3' br v q
      omega
    · have := v3 br' v' q
      omega
/-- the tries that are left -/
def tT : Nat → Nat
  | 0 => 0
  | k + 1 => 5 + 4 * tT k
def rm (a : Nat → Nat) : Nat → Nat
  | 0 => 0
  | l + 1 => rm a l + ((4 - a l) * (1 + tT (8 - l)) + 1)
theorem rm_congr {a b : Nat → Nat} : ∀ l, (∀ j, j < l → a j = b j) → rm a l = rm b l
  | 0, _ => rfl
  | l + 1, h => by rw [rm, rm, h l (by omega), rm_congr l (fun j hj => h j (by omega))]
theorem rm_skip {a : Nat → Nat} {i : Nat} (h : a i < 4) : rm (ua a i (a i + 1)) (i + 1) + 1 + tT (8 - i) = rm a (i + 1) := by
  rw [rm, rm, ua_eq, rm_congr i (b := a) (fun j hj => ua_ne _ _ (by omega))]
  obtain ⟨k, hk⟩ := Nat.exists_eq_add_of_le (show a i + 1 ≤ 4 by omega)
  rw [show 4 - (a i + 1) = k by omega, show 4 - a i = k + 1 by omega, Nat.add_mul, Nat.one_mul]
  omega
theorem rm_down {a : Nat → Nat} {i : Nat} (h : a i < 4) (h8 : i < 8) : rm (ua (ua a i (a i + 1)) (i + 1) 0) (i + 2) + 1 = rm a (i + 1) := by
  rw [rm, ua_eq, rm_congr (i + 1) (b := ua a i (a i + 1)) (fun j hj => ua_ne _ _ (by omega)), ← rm_skip h]
  obtain ⟨k, hk⟩ := Nat.exists_eq_add_of_le (show 1 ≤ 8 - i by omega)
  rw [show 8 - i = k + 1 by omega, show 8 - (i + 1) = k by omega, tT]
  omega
theorem rm_up {a : Nat → Nat} {i : Nat} (h : a i = 4) : rm a i + 1 = rm a (i + 1) := by
  rw [rm, h, Nat.sub_self, Nat.zero_mul, Nat.zero_add]
theorem rm_0 {a : Nat → Nat} (h : a 0 = 0) : rm a 1 = 436905 := by
  rw [rm, rm, h]
  decide
/-- arrivals: of each, either it is the path's own, or all that comes of it is done -/
def AI (ok : Q → Nat → Bool) (nq : Q → Nat → Q) (mi co : Nat → Nat → Nat) (lim : Nat) (q0 : Q) (E : Nat → Q → Nat → Nat → Prop) (i : Nat) (a : Nat → Nat) (f : Bool) (bc bt : Nat) : Prop :=
  ∀ d q c0 t0, E d q c0 t0 → d ≤ 9 ∧ ((d ≤ i ∧ q = qa nq d 0 q0 (pth a) ∧ c0 = sa co d 0 (pth a) ∧ t0 = sa mi d 0 (pth a)) ∨ ∀ z, okr ok nq (9 - d) d q z → t0 + sa mi (9 - d) d z ≤ lim → dom f bc bt (c0 + sa co (9 - d) d z) (t0 + sa mi (9 - d) d z))
theorem AI.skip {E : Nat → Q → Nat → Nat → Prop} {i : Nat} {a : Nat → Nat} {f : Bool} {bc bt : Nat} (h : AI ok nq mi co lim q0 E i a f bc bt) (x : Nat) : AI ok nq mi co lim q0 E i (ua a i x) f bc bt := by
  intro d q c0 t0 hE
  obtain ⟨h1, h2⟩ := h d q c0 t0 hE
  refine ⟨h1, ?_⟩
  rcases h2 with ⟨g1, g2, g3, g4⟩ | h2
  · have e : ∀ j, 0 ≤ j → j < 0 + d → pth (ua a i x) j = pth a j := fun j _ hj => pth_ua (by omega)
    rw [qa_congr nq d 0 q0 e, sa_congr co d 0 e, sa_congr mi d 0 e]
    exact Or.inl ⟨g1, g2, g3, g4⟩
  · exact Or.inr h2
theorem AI.better {E : Nat → Q → Nat → Nat → Prop} {i : Nat} {a : Nat → Nat} {f : Bool} {bc bt bc' bt' : Nat} (h : AI ok nq mi co lim q0 E i a f bc bt) (hb : f = true → bc' < bc ∨ bc' = bc ∧ bt' < bt) : AI ok nq mi co lim q0 E i a true bc' bt' := by
  intro d q c0 t0 hE
  obtain ⟨h1, h2⟩ := h d q c0 t0 hE
  refine ⟨h1, ?_⟩
  rcases h2 with h2 | h2
  · exact Or.inl h2
  · refine Or.inr (fun z z1 z2 => ?_)
    have := h2 z z1 z2
    exact this.better (hb this.1)
theorem AI.down {E E' : Nat → Q → Nat → Nat → Prop} {i : Nat} {a : Nat → Nat} {f : Bool} {bc bt : Nat} (h : AI ok nq mi co lim q0 E i a f bc bt) (h8 : i < 8) (hE : ∀ d q c0 t0, E' d q c0 t0 → E d q c0 t0 ∨ (d = i + 1 ∧ q = nq (qa nq i 0 q0 (pth a)) (a i) ∧ c0 = sa co i 0 (pth a) + co (a i) i ∧ t0 = sa mi i 0 (pth a) + mi (a i) i)) : AI ok nq mi co lim q0 E' (i + 1) (ua (ua a i (a i + 1)) (i + 1) 0) f bc bt := by
  have pe : ∀ j, j < i → pth (ua (ua a i (a i + 1)) (i + 1) 0) j = pth a j := fun j hj => by rw [pth_ua (by omega), pth_ua (by omega)]
  have pi : pth (ua (ua a i (a i + 1)) (i + 1) 0) i = a i := by rw [pth_ua (by omega), pth, ua_eq]; omega
  intro d q c0 t0 hE'
  rcases hE d q c0 t0 hE' with hE' | ⟨rfl, rfl, rfl, rfl⟩
  · obtain ⟨h1, h2⟩ := h d q c0 t0 hE'
    refine ⟨h1, ?_⟩
    rcases h2 with ⟨g1, g2, g3, g4⟩ | h2
    · have e : ∀ j, 0 ≤ j → j < 0 + d → pth (ua (ua a i (a i + 1)) (i + 1) 0) j = pth a j := fun j _ hj => pe j (by omega)
      rw [qa_congr nq d 0 q0 e, sa_congr co d 0 e, sa_congr mi d 0 e]
      exact Or.inl ⟨by omega, g2, g3, g4⟩
    · exact Or.inr h2
  · refine ⟨by omega, Or.inl ⟨Nat.le_refl _, ?_, ?_, ?_⟩⟩
    · rw [qa_add, qa, qa, Nat.zero_add, pi, qa_congr nq i 0 q0 (fun j _ hj => pe j (by omega))]
    · rw [sa_s, pi, sa_congr co i 0 (fun j _ hj => pe j (by omega))]
    · rw [sa_s, pi, sa_congr mi i 0 (fun j _ hj => pe j (by omega))]
theorem AI.up {E : Nat → Q → Nat → Nat → Prop} {i : Nat} {a : Nat → Nat} {f : Bool} {br : Nat → Nat} {bc bt : Nat} (h : AI ok nq mi co lim q0 E (i + 1) a f bc bt) (hC : CI ok nq mi co lim q0 (i + 1) a f br bc bt) (h4 : a (i + 1) = 4) : AI ok nq mi co lim q0 E i a f bc bt := by
  intro d q c0 t0 hE
  obtain ⟨h1, h2⟩ := h d q c0 t0 hE
  refine ⟨h1, ?_⟩
  rcases h2 with ⟨g1, g2, g3, g4⟩ | h2
  · by_cases e : d ≤ i
    · exact Or.inl ⟨e, g2, g3, g4⟩
    · have e : d = i + 1 := by omega
      subst e
      refine Or.inr (fun z z1 z2 => ?_)
      obtain ⟨c1, c2, c3, c5, c6, c7⟩ := hC
      have ep : ∀ j, 0 ≤ j → j < 0 + (i + 1) → (fun j => if j < i + 1 then pth a j else z j) j = pth a j := fun j _ hj => if_pos (by omega)
      have ez : ∀ j, 0 + (i + 1) ≤ j → j < 0 + (i + 1) + (9 - (i + 1)) → (fun j => if j < i + 1 then pth a j else z j) j = z j := fun j hj _ => if_neg (by omega)
      have n9 : i + 1 + (9 - (i + 1)) = 9 := by omega
      have ss : ∀ g : Nat → Nat → Nat, sa g 9 0 (fun j => if j < i + 1 then pth a j else z j) = sa g (i + 1) 0 (pth a) + sa g (9 - (i + 1)) (i + 1) z := fun g => by
        have := sa_add g (fun j => if j < i + 1 then pth a j else z j) (i + 1) (9 - (i + 1)) 0
        rw [n9, sa_congr g (i + 1) 0 ep, sa_congr g (9 - (i + 1)) (0 + (i + 1)) ez, Nat.zero_add] at this
        exact this
      have hv : Vd ok nq mi lim q0 (fun j => if j < i + 1 then pth a j else z j) := by
        refine ⟨?_, ?_⟩
        · have := okr_add ok nq (fun j => if j < i + 1 then pth a j else z j) (i + 1) (9 - (i + 1)) 0 q0
          rw [n9, okr_congr ok nq (i + 1) 0 q0 ep, okr_congr ok nq (9 - (i + 1)) (0 + (i + 1)) _ ez, qa_congr nq (i + 1) 0 q0 ep, Nat.zero_add, ← g2] at this
          exact this.mpr ⟨c5, z1⟩
        · rw [ss, ← g4]
          exact z2
      have := c7 _ hv ⟨i + 1, Nat.le_refl _, fun k hk => if_pos hk, fun h => by omega, fun _ => by rw [h4]; exact hv.lt (by omega)⟩
      rw [ss, ss, ← g3, ← g4] at this
      exact this
  · exact Or.inr h2
/-- an arrival that is outdone: all that comes of it is done -/
theorem AI.out {E : Nat → Q → Nat → Nat → Prop} {i : Nat} {a : Nat → Nat} {f : Bool} {bc bt : Nat} (h : AI ok nq mi co lim q0 E i a f bc bt) (h8 : i < 8) {c0 t0 : Nat} (hE : E (i + 1) (nq (qa nq i 0 q0 (pth a)) (a i)) c0 t0) (hc : c0 ≤ sa co i 0 (pth a) + co (a i) i) (ht : t0 ≤ sa mi i 0 (pth a) + mi (a i) i) : ∀ y, Vd ok nq mi lim q0 y → (∀ j, j < i → y j = pth a j) → y i = a i → dom f bc bt (sa co 9 0 y) (sa mi 9 0 y) := by
  intro y hy y1 y2
  obtain ⟨h1, h2⟩ := h _ _ _ _ hE
  rcases h2 with ⟨g1, _⟩ | h2
  · omega
  · have n9 : i + 1 + (9 - (i + 1)) = 9 := by omega
    have ep : ∀ j, 0 ≤ j → j < 0 + i → y j = pth a j := fun j _ hj => y1 j (by omega)
    have ss : ∀ g : Nat → Nat → Nat, sa g 9 0 y = sa g i 0 (pth a) + g (a i) i + sa g (9 - (i + 1)) (i + 1) y := fun g => by
      have := sa_add g y (i + 1) (9 - (i + 1)) 0
      rw [n9, Nat.zero_add, sa_s g y i, y2, sa_congr g i 0 ep] at this
      exact this
    have hq : qa nq (i + 1) 0 q0 y = nq (qa nq i 0 q0 (pth a)) (a i) := by rw [qa_add, qa, qa, Nat.zero_add, y2, qa_congr nq i 0 q0 ep]
    have ho := hy.1
    have hk := okr_add ok nq y (i + 1) (9 - (i + 1)) 0 q0
    rw [n9, Nat.zero_add, hq] at hk
    have hl := hy.2
    rw [ss] at hl
    have := h2 y (hk.mp ho).2 (by omega)
    rw [ss, ss]
    exact this.mono (by omega) (by omega)
end
