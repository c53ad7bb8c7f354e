def SimC (n : Nat) (X : Option (Int32 × Mm)) (Y : Option Int32) (m : Mm) : Prop := ∃ r c', X = some (r, c') ∧ Y = some r ∧ Rel (n + 1) c' m
def SimM (n : Nat) (X : Option Int32) (Y : Option (Int32 × Mm)) (c : Mm) : Prop := ∃ r m', X = some r ∧ Y = some (r, m') ∧ Rel (n + 1) c m'
theorem SimC.ret {n : Nat} {r r' : Int32} {c m : Mm} (e : r = r') (h : Rel (n + 1) c m) : SimC n (some (r, c)) (some r') m := by
  subst e
  exact ⟨r, c, rfl, rfl, h⟩
theorem SimM.ret {n : Nat} {r r' : Int32} {c m : Mm} (e : r = r') (h : Rel (n + 1) c m) : SimM n (some r) (some (r', m)) c := by
  subst e
  exact ⟨r, m, rfl, rfl, h⟩
/-- only the trail's places changed -/
theorem Rel.trail {n : Nat} {c m c' : Mm} (h : Rel n c m) (hc : ∀ a, a ≠ 140 → a ≠ 141 → c' a = c a) : Rel (n + 1) c' m :=
  ⟨h.1.kept' (fun a _ h2 => hc a (by omega) (by omega)), h.2.1, h.2.2.1.kept (by rw [hc 0 (by omega) (by omega)]) rfl rfl (fun a _ h1 => hc a (by omega) (by omega)), h.2.2.2.1.kept rfl (by rw [hc 83 (by omega) (by omega)]) (hc 84 (by omega) (by omega)) rfl, h.2.2.2.2.1.kept (fun a h1 _ => hc a (by omega) (by omega)) rfl rfl rfl, h.2.2.2.2.2.mono (by omega) (by rw [hc 135 (by omega) (by omega)]) (hc 138 (by omega) (by omega)) (fun a _ _ => hc a (by omega) (by omega)) (fun _ _ _ => rfl)⟩
def b2 (b : Bool) : Nat := if b then 1 else 0
def tnb (f : Nat → Int32) (a b : Int32) : Nat → Bool
  | 0 => true
  | n + 1 => tnb f a b n && decide (f n = if n % 2 = 0 then a else b)
theorem tnb_congr {f g : Nat → Int32} {a b : Int32} : ∀ n, (∀ k, k < n → f k = g k) → tnb f a b n = tnb g a b n
  | 0, _ => rfl
  | n + 1, h => by
    unfold tnb
    rw [tnb_congr n (fun k hk => h k (by omega)), h n (by omega)]
theorem tnb_false {f : Nat → Int32} {a b : Int32} {i : Nat} (h : tnb f a b i = false) : ∀ d, tnb f a b (i + d) = false
  | 0 => h
  | d + 1 => by
    rw [show i + (d + 1) = (i + d) + 1 from rfl]
    unfold tnb
    rw [tnb_false h d]
    rfl
theorem k_isOf_c2 {g : Mm} {n : Nat} (hn : n ≤ 12) (e : g 140 1 = nI n) (a b : Int32) : ∀ (d i f : Nat), i + d = n → d < f → tnb (g 141) a b i = true → f_X8_isOf_c2 140 a b f (nI i) g = some (nI (b2 (tnb (g 141) a b n))) := by
  intro d
  induction d with
  | zero =>
    intro i f hi hf ht
    obtain ⟨f, rfl⟩ := Nat.exists_eq_succ_of_ne_zero (show f ≠ 0 by omega)
    rw [f_X8_isOf_c2, e]
    have e : i = n := by omega
    subst e
    rw [if_pos (Int32.le_refl _), ht]
    rfl
  | succ d ih =>
    intro i f hi hf ht
    obtain ⟨f, rfl⟩ := Nat.exists_eq_succ_of_ne_zero (show f ≠ 0 by omega)
    rw [f_X8_isOf_c2]
    unfold f_X8_isOf_c27
    simp (disch := omega) only [op_v, ob_v, mv_v, mw_v, mr_v, og_t, fa_lit, nI_add, pk_mul, nI_ltI, nI_leI, nI_eq, nI_clamp, og_in, pk_sub, Nat.add_zero, Nat.zero_add, Nat.reduceAdd, Nat.reduceMul, Nat.reduceSub, e, if_neg (show ¬ n ≤ i by omega), pk_rem]
    have fin : ∀ w : Int32, (w = if i % 2 = 0 then a else b) → (if g 141 i = w then f_X8_isOf_c2 140 a b f (nI (i + 1)) g else some (nI 0)) = some (nI (b2 (tnb (g 141) a b n))) := by
      intro w hw
      by_cases h1 : g 141 i = w
      · rw [if_pos h1]
        refine ih (i + 1) f (by omega) (by omega) ?_
        unfold tnb
        rw [ht, ← hw, decide_eq_true h1]
        rfl
      · rw [if_neg h1]
        have h2 : tnb (g 141) a b (i + 1) = false := by
          unfold tnb
          rw [ht, ← hw, decide_eq_false h1]
          rfl
        rw [show n = (i + 1) + d by omega, tnb_false h2 d]
        rfl
    by_cases h2 : i % 2 = 0
    · rw [if_pos h2]
      exact fin a (by rw [if_pos h2])
    · rw [if_neg h2]
      exact fin b (by rw [if_neg h2])
theorem k_isOf {g : Mm} {n : Nat} (hn : n ≤ 12) (e : g 140 1 = nI n) (a b : Int32) : f_X8_isOf 140 a b g = some (nI (b2 (tnb (g 141) a b n))) := k_isOf_c2 hn e a b n 0 FU (by omega) (fu_lt (by omega)) rfl
theorem b2_01 (b : Bool) : mm_01 (nI (b2 b)) = true := by cases b <;> decide
theorem b2_0 (b : Bool) : nI (b2 b) = 0 ↔ b = false := by cases b <;> decide
theorem m_turns_c6 {m : Mm} {s n : Nat} (hn : s + n ≤ 96) (a b : Int32) : ∀ (d i f : Nat), i + d = n → d < f → f_X12_turns_c6 (nI s) (nI n) a b f (nI (b2 (tnb (fun k => m 6 (s + k)) a b i))) (nI i) m = some (nI (b2 (tnb (fun k => m 6 (s + k)) a b n))) := by
  intro d
  induction d with
  | zero =>
    intro i f hi hf
    obtain ⟨f, rfl⟩ := Nat.exists_eq_succ_of_ne_zero (show f ≠ 0 by omega)
    rw [f_X12_turns_c6]
    have e : i = n := by omega
    subst e
    rw [if_pos (Int32.le_refl _), b2_01]
    rfl
  | succ d ih =>
    intro i f hi hf
    obtain ⟨f, rfl⟩ := Nat.exists_eq_succ_of_ne_zero (show f ≠ 0 by omega)
    rw [f_X12_turns_c6]
    unfold f_X12_turns_c39
    have ih := ih (i + 1) f (by omega) (by omega)
    cases ht : tnb (fun k => m 6 (s + k)) a b i with
    | false =>
      rw [show tnb (fun k => m 6 (s + k)) a b (i + 1) = false from tnb_false ht 1] at ih
      rw [← ih]
      simp (disch := omega) only [op_v, ob_v, mv_v, mw_v, mr_v, og_t, fa_lit, nI_add, pk_mul, nI_ltI, nI_leI, nI_eq, nI_clamp, og_in, pk_sub, Nat.add_zero, Nat.zero_add, Nat.reduceAdd, Nat.reduceMul, Nat.reduceSub, if_neg (show ¬ n ≤ i by omega)]
      rfl
    | true =>
      rw [if_neg (show ¬ nI (b2 true) = 0 by decide)]
      simp (disch := omega) only [op_v, ob_v, mv_v, mw_v, mr_v, og_t, fa_lit, nI_add, pk_mul, nI_ltI, nI_leI, nI_eq, nI_clamp, og_in, pk_sub, Nat.add_zero, Nat.zero_add, Nat.reduceAdd, Nat.reduceMul, Nat.reduceSub, if_neg (show ¬ n ≤ i by omega), pk_rem]
      have fin : ∀ w : Int32, (w = if i % 2 = 0 then a else b) → (if m 6 (s + i) = w then f_X12_turns_c6 (nI s) (nI n) a b f (nI 1) (nI (i + 1)) m else f_X12_turns_c6 (nI s) (nI n) a b f (nI 0) (nI (i + 1)) m) = some (nI (b2 (tnb (fun k => m 6 (s + k)) a b n))) := by
        intro w hw
        rw [← ih]
        by_cases h1 : m 6 (s + i) = w
        · rw [if_pos h1]
          unfold tnb
          rw [ht, ← hw, decide_eq_true h1]
          rfl
        · rw [if_neg h1]
          unfold tnb
          rw [ht, ← hw, decide_eq_false h1]
          rfl
      by_cases h2 : i % 2 = 0
      · rw [if_pos h2]
        exact fin a (by rw [if_pos h2])
      · rw [if_neg h2]
        exact fin b (by rw [if_neg h2])
theorem m_turns {m : Mm} {s n : Nat} (hn : s + n ≤ 96) (a b : Int32) : f_X12_turns (nI s) (nI n) a b m = some (nI (b2 (tnb (fun k => m 6 (s + k)) a b n))) := m_turns_c6 hn a b n 0 FU (by omega) (fu_lt (by omega))
/-! sums -/
def sumN (f : Nat → Nat) : Nat → Nat
  | 0 => 0
  | n + 1 => sumN f n + f n
theorem sumN_s (f : Nat → Nat) (n : Nat) : sumN f (n + 1) = sumN f n + f n := rfl
theorem sumN_congr {f g : Nat → Nat} : ∀ n, (∀ k, k < n → f k = g k) → sumN f n = sumN g n
  | 0, _ => rfl
  | n + 1, h => by
    unfold sumN
    rw [sumN_congr n (fun k hk => h k (by omega)), h n (by omega)]
theorem sumN_add (f g : Nat → Nat) : ∀ n, sumN (fun k => f k + g k) n = sumN f n + sumN g n
  | 0 => rfl
  | n + 1 => by
    unfold sumN
    rw [sumN_add f g n]
    omega
theorem sumN_le {f : Nat → Nat} {B : Nat} : ∀ n, (∀ k, k < n → f k ≤ B) → sumN f n ≤ n * B
  | 0, _ => Nat.zero_le _
  | n + 1, h => by
    unfold sumN
    have h1 := sumN_le n (fun k hk => h k (by omega))
    have h2 := h n (by omega)
    rw [Nat.succ_mul]
    omega
/-- a square of ordered pairs is its diagonal and the unordered ones, both ways round -/
theorem sumN_square (t : Nat → Nat → Nat) : ∀ n, sumN (fun x => sumN (t x) n) n = sumN (fun x => t x x + sumN (fun y => t x y + t y x) x) n
  | 0 => rfl
  | n + 1 => by
    have h1 : sumN (fun x => sumN (t x) (n + 1)) n = sumN (fun x => sumN (t x) n) n + sumN (fun x => t x n) n := by
      rw [← sumN_add]
      exact sumN_congr n (fun k _ => rfl)
    show sumN (fun x => sumN (t x) (n + 1)) n + sumN (t n) (n + 1) = _
    rw [h1, sumN_square t n]
    show _ + sumN (fun x => t x n) n + (sumN (t n) n + t n n) = _ + (t n n + sumN (fun y => t n y + t y n) n)
    rw [show sumN (fun y => t n y + t y n) n = sumN (t n) n + sumN (fun y => t y n) n from sumN_add (t n) (fun y => t y n) n]
    omega
def mk (N : Nat → Int32) (x : Nat) : Int32 := (2 * (1 + N (47 + x))) + N (31 + x)
def tw (N : Nat → Int32) (f : Nat → Int32) (n : Nat) (p : Int32) (x y : Nat) : Nat := if N (15 + x) = p ∧ N (15 + y) = p then b2 (tnb f (mk N x) (mk N y) n) else 0
def ow (N : Nat → Int32) (f : Nat → Int32) (n : Nat) (p ft : Int32) (x : Nat) : Nat := if N (15 + x) = p ∧ N (31 + x) = ft then b2 (tnb f (mk N x) (mk N x) n) else 0
def ways (N : Nat → Int32) (f : Nat → Int32) (n ns j : Nat) : Nat := if N (10 + j) = 0 then b2 (tnb f 0 1 n || tnb f 1 0 n) + sumN (fun x => sumN (tw N f n (nI j) x) ns) ns else b2 (tnb f (N (10 + j) - 1) (N (10 + j) - 1) n) + sumN (ow N f n (nI j) (N (10 + j) - 1)) ns
theorem k_mark {c : Mm} {N : Nat → Int32} (hW : WR c 1 N) {x : Nat} (hx : x < 16) : f_X5_mark (5 + x) c = some (mk N x) := by
  unfold f_X5_mark mk
  rw [wr_sort hW hx, wr_foot hW hx]
theorem k_both_c39 {g : Mm} {N : Nat → Int32} (hW : WR g 1 N) {ns n : Nat} (hns : ns ≤ 16) (ens : N 1 = nI ns) (hn : n ≤ 12) (e : g 140 1 = nI n) (K : Int32 → Int32 → Mm → Option Int32) (p : Int32) {x : Nat} (hx : x < ns) (a : Nat) : ∀ (d y f : Nat), y + d = ns → d < f → f_X8_waysOnBoth_c39 K 140 1 p f (nI (a + sumN (tw N (g 141) n p x) y)) (nI x) (nI y) g = K (nI (a + sumN (tw N (g 141) n p x) ns)) (nI (x + 1)) g := by
  intro d
  induction d with
  | zero =>
    intro y f hi hf
    obtain ⟨f, rfl⟩ := Nat.exists_eq_succ_of_ne_zero (show f ≠ 0 by omega)
    rw [f_X8_waysOnBoth_c39, wr_ns hW, ens]
    have e : y = ns := by omega
    subst e
    rw [if_pos (Int32.le_refl _)]
    simp only [op_v, ob_v, mv_v, mw_v, mr_v, og_t]
    rw [nI_1]
  | succ d ih =>
    intro y f hi hf
    obtain ⟨f, rfl⟩ := Nat.exists_eq_succ_of_ne_zero (show f ≠ 0 by omega)
    rw [f_X8_waysOnBoth_c39]
    simp (disch := omega) only [op_v, mv_v, og_in, nI_clamp, Nat.reduceAdd, wr_ns hW, ens, nI_leI, if_neg (show ¬ ns ≤ y by omega), wr_own hW, k_mark hW, k_isOf hn e, nI_1]
    have ih := ih (y + 1) f (by omega) (by omega)
    rw [← ih, sumN_s]
    by_cases h1 : N (15 + x) = p
    · rw [if_pos h1]
      by_cases h2 : N (15 + y) = p
      · rw [if_pos h2]
        have e3 : tw N (g 141) n p x y = b2 (tnb (g 141) (mk N x) (mk N y) n) := if_pos ⟨h1, h2⟩
        rw [e3]
        cases tnb (g 141) (mk N x) (mk N y) n with
        | false => rw [if_pos (by decide)]; rfl
        | true => rw [if_neg (by decide)]; rfl
      · rw [if_neg h2]
        have e3 : tw N (g 141) n p x y = 0 := if_neg (fun q => h2 q.2)
        rw [e3]
        rfl
    · rw [if_neg h1]
      have e3 : tw N (g 141) n p x y = 0 := if_neg (fun q => h1 q.1)
      rw [e3]
      rfl
theorem k_both_c27 {g : Mm} {N : Nat → Int32} (hW : WR g 1 N) {ns n : Nat} (hns : ns ≤ 16) (ens : N 1 = nI ns) (hn : n ≤ 12) (e : g 140 1 = nI n) (p : Int32) (a : Nat) : ∀ (d x f : Nat), x + d = ns → d < f → f_X8_waysOnBoth_c27 140 1 p f (nI (a + sumN (fun x => sumN (tw N (g 141) n p x) ns) x)) (nI x) g = some (nI (a + sumN (fun x => sumN (tw N (g 141) n p x) ns) ns)) := by
  intro d
  induction d with
  | zero =>
    intro x f hi hf
    obtain ⟨f, rfl⟩ := Nat.exists_eq_succ_of_ne_zero (show f ≠ 0 by omega)
    rw [f_X8_waysOnBoth_c27, wr_ns hW, ens]
    have e : x = ns := by omega
    subst e
    rw [if_pos (Int32.le_refl _)]
  | succ d ih =>
    intro x f hi hf
    obtain ⟨f, rfl⟩ := Nat.exists_eq_succ_of_ne_zero (show f ≠ 0 by omega)
    rw [f_X8_waysOnBoth_c27]
    simp (disch := omega) only [wr_ns hW, ens, nI_leI, if_neg (show ¬ ns ≤ x by omega)]
    have h1 := k_both_c39 hW hns ens hn e (f_X8_waysOnBoth_c27 140 1 p f) p (x := x) (by omega) (a + sumN (fun x => sumN (tw N (g 141) n p x) ns) x) ns 0 FU (by omega) (fu_lt (by omega))
    rw [show (0 : Int32) = nI 0 from rfl]
    refine h1.trans ?_
    have ih := ih (x + 1) f (by omega) (by omega)
    rw [← ih]
    show _ = f_X8_waysOnBoth_c27 140 1 p f (nI (a + (_ + _))) _ g
    rw [Nat.add_assoc]
theorem k_both {g : Mm} {N : Nat → Int32} (hW : WR g 1 N) {ns n : Nat} (hns : ns ≤ 16) (ens : N 1 = nI ns) (hn : n ≤ 12) (e : g 140 1 = nI n) (p : Int32) : f_X8_waysOnBoth 140 1 p g = some (nI (b2 (tnb (g 141) 0 1 n || tnb (g 141) 1 0 n) + sumN (fun x => sumN (tw N (g 141) n p x) ns) ns)) := by
  unfold f_X8_waysOnBoth
  rw [k_isOf hn e, k_isOf hn e, op_v, op_v]
  have key : ∀ b : Nat, f_X8_waysOnBoth_c27 140 1 p FU (nI b) (nI 0) g = some (nI (b + sumN (fun x => sumN (tw N (g 141) n p x) ns) ns)) := fun b => k_both_c27 hW hns ens hn e p b ns 0 FU (by omega) (fu_lt (by omega))
  cases tnb (g 141) 0 1 n with
  | true => exact key 1
  | false =>
    cases tnb (g 141) 1 0 n with
    | true => exact key 1
    | false => exact key 0
theorem k_one_c28 {g : Mm} {N : Nat → Int32} (hW : WR g 1 N) {ns n : Nat} (hns : ns ≤ 16) (ens : N 1 = nI ns) (hn : n ≤ 12) (e : g 140 1 = nI n) (p ft : Int32) (a : Nat) : ∀ (d x f : Nat), x + d = ns → d < f → f_X8_waysOnOne_c28 140 1 p f ft (nI (a + sumN (ow N (g 141) n p ft) x)) (nI x) g = some (nI (a + sumN (ow N (g 141) n p ft) ns)) := by
  intro d
  induction d with
  | zero =>
    intro y f hi hf
    obtain ⟨f, rfl⟩ := Nat.exists_eq_succ_of_ne_zero (show f ≠ 0 by omega)
    rw [f_X8_waysOnOne_c28, wr_ns hW, ens]
    have e : y = ns := by omega
    subst e
    rw [if_pos (Int32.le_refl _)]
  | succ d ih =>
    intro y f hi hf
    obtain ⟨f, rfl⟩ := Nat.exists_eq_succ_of_ne_zero (show f ≠ 0 by omega)
    rw [f_X8_waysOnOne_c28]
    simp (disch := omega) only [op_v, mv_v, og_in, nI_clamp, Nat.reduceAdd, wr_ns hW, ens, nI_leI, if_neg (show ¬ ns ≤ y by omega), wr_own hW, wr_foot hW, k_mark hW, k_isOf hn e, nI_1]
    have ih := ih (y + 1) f (by omega) (by omega)
    rw [← ih, sumN_s]
    by_cases h1 : N (15 + y) = p
    · rw [if_pos h1]
      by_cases h2 : N (31 + y) = ft
      · rw [if_pos h2]
        have e3 : ow N (g 141) n p ft y = b2 (tnb (g 141) (mk N y) (mk N y) n) := if_pos ⟨h1, h2⟩
        rw [e3]
        cases tnb (g 141) (mk N y) (mk N y) n with
        | false => rw [if_pos (by decide)]; rfl
        | true => rw [if_neg (by decide)]; rfl
      · rw [if_neg h2]
        have e3 : ow N (g 141) n p ft y = 0 := if_neg (fun q => h2 q.2)
        rw [e3]
        rfl
    · rw [if_neg h1]
      have e3 : ow N (g 141) n p ft y = 0 := if_neg (fun q => h1 q.1)
      rw [e3]
      rfl
theorem k_waysOf {g : Mm} {N : Nat → Int32} (hW : WR g 1 N) {ns n j : Nat} (hns : ns ≤ 16) (ens : N 1 = nI ns) (hn : n ≤ 12) (e : g 140 1 = nI n) (hj : j < 5) : f_X8_waysOf 140 1 (nI j) g = some (nI (ways N (g 141) n ns j)) := by
  unfold f_X8_waysOf ways
  simp (disch := omega) only [og_in, nI_clamp, Nat.reduceAdd, wr_feet hW, k_both hW hns ens hn e, op_v]
  by_cases h1 : N (10 + j) = 0
  · rw [if_pos h1, if_pos h1]
  · rw [if_neg h1, if_neg h1]
    unfold f_X8_waysOnOne
    simp (disch := omega) only [og_in, nI_clamp, Nat.reduceAdd, wr_feet hW, k_isOf hn e, op_v, mv_v]
    have key : ∀ b : Nat, f_X8_waysOnOne_c28 140 1 (nI j) FU (N (10 + j) - 1) (nI b) (nI 0) g = some (nI (b + sumN (ow N (g 141) n (nI j) (N (10 + j) - 1)) ns)) := fun b => k_one_c28 hW hns ens hn e _ _ b ns 0 FU (by omega) (fu_lt (by omega))
    cases tnb (g 141) (N (10 + j) - 1) (N (10 + j) - 1) n with
    | true => rw [if_neg (by decide)]; exact congrArg (fun o => op o fun r => some r) (key 1)
    | false => rw [if_pos (by decide)]; exact congrArg (fun o => op o fun r => some r) (key 0)
theorem k_waysOfAll_c4 {g : Mm} {N : Nat → Int32} (hW : WR g 1 N) {np ns n : Nat} (hnp : np ≤ 5) (enp : N 0 = nI np) (hns : ns ≤ 16) (ens : N 1 = nI ns) (hn : n ≤ 12) (e : g 140 1 = nI n) : ∀ (d j f : Nat), j + d = np → d < f → f_X8_waysOfAll_c4 140 1 f (nI (sumN (ways N (g 141) n ns) j)) (nI j) g = some (nI (sumN (ways N (g 141) n ns) np)) := by
  intro d
  induction d with
  | zero =>
    intro y f hi hf
    obtain ⟨f, rfl⟩ := Nat.exists_eq_succ_of_ne_zero (show f ≠ 0 by omega)
    rw [f_X8_waysOfAll_c4, wr_np hW, enp]
    have e : y = np := by omega
    subst e
    rw [if_pos (Int32.le_refl _)]
  | succ d ih =>
    intro y f hi hf
    obtain ⟨f, rfl⟩ := Nat.exists_eq_succ_of_ne_zero (show f ≠ 0 by omega)
    rw [f_X8_waysOfAll_c4]
    simp (disch := omega) only [op_v, mv_v, wr_np hW, enp, nI_leI, if_neg (show ¬ np ≤ y by omega), k_waysOf hW hns ens hn e, nI_1, nI_add]
    exact ih (y + 1) f (by omega) (by omega)
theorem k_waysOfAll {g : Mm} {N : Nat → Int32} (hW : WR g 1 N) {np ns n : Nat} (hnp : np ≤ 5) (enp : N 0 = nI np) (hns : ns ≤ 16) (ens : N 1 = nI ns) (hn : n ≤ 12) (e : g 140 1 = nI n) : f_X8_waysOfAll 140 1 g = some (nI (sumN (ways N (g 141) n ns) np)) := k_waysOfAll_c4 hW hnp enp hns ens hn e np 0 FU (by omega) (fu_lt (by omega))
