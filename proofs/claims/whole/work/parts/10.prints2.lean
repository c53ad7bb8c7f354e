theorem m_printOf (m : Mm) {x : Nat} (hx : x < 16) : f_X12_printOf (nI x) m = some (mk (m 1) x) := by
  unfold f_X12_printOf mk
  simp (disch := omega) only [fa_lit, nI_add, og_in, nI_clamp]
theorem b2_if {α : Type} (b : Bool) (p q : α) : (if nI (b2 b) = 0 then p else q) = if b then q else p := by cases b <;> rfl
theorem nI_p0 (S : Nat) : nI S + 0 = nI (S + 0) := nI_add S 0
theorem m_byTwo {m : Mm} {s n x y : Nat} (hn : s + n ≤ 96) (hx : x < 16) (hy : y < 16) : f_X12_byTwo (nI s) (nI n) (nI x) (nI y) m = some (nI (b2 (tnb (fun k => m 6 (s + k)) (mk (m 1) x) (mk (m 1) y) n) + b2 (tnb (fun k => m 6 (s + k)) (mk (m 1) y) (mk (m 1) x) n))) := by
  unfold f_X12_byTwo f_X12_byTwo_c25
  simp only [m_printOf m hx, m_printOf m hy, op_v, m_turns hn]
  cases tnb (fun k => m 6 (s + k)) (mk (m 1) x) (mk (m 1) y) n <;> cases tnb (fun k => m 6 (s + k)) (mk (m 1) y) (mk (m 1) x) n <;> rfl
theorem sumN_zero {f : Nat → Nat} : ∀ n, (∀ k, k < n → f k = 0) → sumN f n = 0
  | 0, _ => rfl
  | n + 1, h => by rw [sumN_s, sumN_zero n (fun k hk => h k (by omega)), h n (by omega)]
def pairN (N f : Nat → Int32) (n : Nat) (p : Int32) (x y : Nat) : Nat := tw N f n p x y + tw N f n p y x
theorem m_c101 {m : Mm} {s n x : Nat} (hn : s + n ≤ 96) (hx : x < 16) (K : Int32 → Int32 → Int32 → Mm → Option Int32) (p : Int32) (hp : m 1 (15 + x) = p) (a : Nat) : ∀ (d y f : Nat), y + d = x → d < f → f_X12_waysOf_c101 K p (nI s) (nI n) f (nI 0) (nI (a + sumN (pairN (m 1) (fun k => m 6 (s + k)) n p x) y)) (nI x) (nI y) m = K (nI 0) (nI (a + sumN (pairN (m 1) (fun k => m 6 (s + k)) n p x) x)) (nI (x + 1)) m := by
  intro d
  induction d with
  | zero =>
    intro y f hi hf
    obtain ⟨f, rfl⟩ := Nat.exists_eq_succ_of_ne_zero (show f ≠ 0 by omega)
    rw [f_X12_waysOf_c101]
    have e : y = x := by omega
    subst e
    rw [if_pos (Int32.le_refl _), mv_v, nI_1]
  | succ d ih =>
    intro y f hi hf
    obtain ⟨f, rfl⟩ := Nat.exists_eq_succ_of_ne_zero (show f ≠ 0 by omega)
    rw [f_X12_waysOf_c101]
    have ih := ih (y + 1) f (by omega) (by omega)
    rw [← ih, sumN_s]
    simp (disch := omega) only [op_v, mv_v, fa_lit, nI_add, og_in, nI_clamp, nI_leI, if_neg (show ¬ x ≤ y by omega), m_byTwo hn hx, nI_1, if_true]
    unfold pairN
    by_cases h2 : m 1 (15 + y) = p
    · rw [if_pos h2]
      have e3 : tw (m 1) (fun k => m 6 (s + k)) n p x y = b2 (tnb (fun k => m 6 (s + k)) (mk (m 1) x) (mk (m 1) y) n) := if_pos ⟨hp, h2⟩
      have e4 : tw (m 1) (fun k => m 6 (s + k)) n p y x = b2 (tnb (fun k => m 6 (s + k)) (mk (m 1) y) (mk (m 1) x) n) := if_pos ⟨h2, hp⟩
      rw [e3, e4, Nat.add_assoc]
    · rw [if_neg h2]
      have e3 : tw (m 1) (fun k => m 6 (s + k)) n p x y = 0 := if_neg (fun q => h2 q.2)
      have e4 : tw (m 1) (fun k => m 6 (s + k)) n p y x = 0 := if_neg (fun q => h2 q.1)
      rw [e3, e4]
      rfl
theorem m_c101' {m : Mm} {v x : Nat} (hv : v ≠ 0) (hv2 : v ≤ 2) (hx : x < 16) (K : Int32 → Int32 → Int32 → Mm → Option Int32) (p S n a : Int32) {f : Nat} (hf : 0 < f) : f_X12_waysOf_c101 K p S n f (nI v) a (nI x) (nI 0) m = K (nI v) a (nI (x + 1)) m := by
  obtain ⟨f, rfl⟩ := Nat.exists_eq_succ_of_ne_zero (show f ≠ 0 by omega)
  rw [f_X12_waysOf_c101, mv_v, mv_v, if_neg (nI_ne0 (by omega) (by omega)), nI_1]
  split <;> rfl
theorem m_c17_0 {m : Mm} {s n ns : Nat} (hn : s + n ≤ 96) (hns : ns ≤ 16) (ens : m 1 1 = nI ns) (p : Int32) : ∀ (d x f : Nat), x + d = ns → d < f → f_X12_waysOf_c17 p (nI s) (nI n) f (nI 0) (nI (sumN (fun x => tw (m 1) (fun k => m 6 (s + k)) n p x x + sumN (pairN (m 1) (fun k => m 6 (s + k)) n p x) x) x)) (nI x) m = some (nI (sumN (fun x => tw (m 1) (fun k => m 6 (s + k)) n p x x + sumN (pairN (m 1) (fun k => m 6 (s + k)) n p x) x) ns + b2 (tnb (fun k => m 6 (s + k)) 0 1 n || tnb (fun k => m 6 (s + k)) 1 0 n))) := by
  intro d
  induction d with
  | zero =>
    intro x f hi hf
    obtain ⟨f, rfl⟩ := Nat.exists_eq_succ_of_ne_zero (show f ≠ 0 by omega)
    rw [f_X12_waysOf_c17]
    have e : x = ns := by omega
    subst e
    rw [if_pos (show m 1 (1 : Int32).toNatClampNeg ≤ nI x by rw [show (1 : Int32).toNatClampNeg = 1 from rfl, ens]; exact Int32.le_refl _), if_pos (show nI 0 ≤ 0 by decide), m_turns hn, m_turns hn, op_v, op_v]
    rw [nI_p0, nI_1]
    cases tnb (fun k => m 6 (s + k)) 0 1 n <;> cases tnb (fun k => m 6 (s + k)) 1 0 n <;> rfl
  | succ d ih =>
    intro x f hi hf
    obtain ⟨f, rfl⟩ := Nat.exists_eq_succ_of_ne_zero (show f ≠ 0 by omega)
    rw [f_X12_waysOf_c17]
    have ih := ih (x + 1) f (by omega) (by omega)
    rw [← ih, sumN_s]
    unfold f_X12_waysOf_c67
    simp only [if_pos (show nI 0 ≤ (0 : Int32) by decide)]
    simp (disch := omega) only [op_v, mv_v, fa_lit, nI_add, og_in, nI_clamp, ens, nI_leI, if_neg (show ¬ ns ≤ x by omega), m_printOf, m_turns hn]
    by_cases h1 : m 1 (15 + x) = p
    · rw [if_pos h1]
      have e3 : tw (m 1) (fun k => m 6 (s + k)) n p x x = b2 (tnb (fun k => m 6 (s + k)) (mk (m 1) x) (mk (m 1) x) n) := if_pos ⟨h1, h1⟩
      rw [e3]
      have key := fun a : Nat => m_c101 (m := m) hn (x := x) (by omega) (f_X12_waysOf_c17 p (nI s) (nI n) f) p h1 a x 0 FU (by omega) (fu_lt (by omega))
      cases tnb (fun k => m 6 (s + k)) (mk (m 1) x) (mk (m 1) x) n with
      | false =>
        rw [if_pos (by decide)]
        refine (key _).trans ?_
        rw [Nat.add_zero, show b2 false = 0 from rfl, Nat.zero_add]
      | true =>
        rw [if_neg (by decide)]
        exact (key _).trans (congrArg (fun z => f_X12_waysOf_c17 p (nI s) (nI n) f (nI 0) (nI z) (nI (x + 1)) m) (Nat.add_assoc _ 1 _))
    · rw [if_neg h1]
      have e3 : tw (m 1) (fun k => m 6 (s + k)) n p x x = 0 := if_neg (fun q => h1 q.1)
      rw [e3, show sumN (pairN (m 1) (fun k => m 6 (s + k)) n p x) x = 0 from sumN_zero x (fun k _ => by
        unfold pairN
        rw [show tw (m 1) (fun k => m 6 (s + k)) n p x k = 0 from if_neg (fun q => h1 q.1), show tw (m 1) (fun k => m 6 (s + k)) n p k x = 0 from if_neg (fun q => h1 q.2)])]
      rfl
theorem m_c17_1 {m : Mm} {s n ns v : Nat} (hn : s + n ≤ 96) (hns : ns ≤ 16) (ens : m 1 1 = nI ns) (hv : v ≠ 0) (hv2 : v ≤ 2) (p : Int32) : ∀ (d x f : Nat), x + d = ns → d < f → f_X12_waysOf_c17 p (nI s) (nI n) f (nI v) (nI (sumN (ow (m 1) (fun k => m 6 (s + k)) n p (nI v - 1)) x)) (nI x) m = some (nI (sumN (ow (m 1) (fun k => m 6 (s + k)) n p (nI v - 1)) ns + b2 (tnb (fun k => m 6 (s + k)) (nI v - 1) (nI v - 1) n))) := by
  intro d
  induction d with
  | zero =>
    intro x f hi hf
    obtain ⟨f, rfl⟩ := Nat.exists_eq_succ_of_ne_zero (show f ≠ 0 by omega)
    rw [f_X12_waysOf_c17]
    have e : x = ns := by omega
    subst e
    rw [if_pos (show m 1 (1 : Int32).toNatClampNeg ≤ nI x by rw [show (1 : Int32).toNatClampNeg = 1 from rfl, ens]; exact Int32.le_refl _), if_neg (nI_nle (by omega) (by omega)), m_turns hn, op_v]
    rw [nI_p0, nI_1]
    cases tnb (fun k => m 6 (s + k)) (nI v - 1) (nI v - 1) n <;> rfl
  | succ d ih =>
    intro x f hi hf
    obtain ⟨f, rfl⟩ := Nat.exists_eq_succ_of_ne_zero (show f ≠ 0 by omega)
    rw [f_X12_waysOf_c17]
    have ih := ih (x + 1) f (by omega) (by omega)
    rw [← ih, sumN_s]
    unfold f_X12_waysOf_c67
    simp only [if_neg (nI_nle (n := v) (by omega) (by omega))]
    simp (disch := omega) only [op_v, mv_v, show (1 : Int32).toNatClampNeg = 1 from rfl, show (15 : Int32) = nI 15 from rfl, show (31 : Int32) = nI 31 from rfl, nI_add, nI_1, og_in, nI_clamp, ens, nI_leI, if_neg (show ¬ ns ≤ x by omega), m_printOf, m_turns hn]
    by_cases h1 : m 1 (15 + x) = p
    · rw [if_pos h1]
      by_cases h2 : m 1 (31 + x) = nI v - 1
      · rw [if_pos h2]
        have e3 : ow (m 1) (fun k => m 6 (s + k)) n p (nI v - 1) x = b2 (tnb (fun k => m 6 (s + k)) (mk (m 1) x) (mk (m 1) x) n) := if_pos ⟨h1, h2⟩
        rw [e3]
        cases tnb (fun k => m 6 (s + k)) (mk (m 1) x) (mk (m 1) x) n with
        | false =>
          rw [if_pos (by decide), nI_p0]
          exact m_c101' (x := x) hv hv2 (by omega) _ _ _ _ _ (fu_lt (by omega))
        | true =>
          rw [if_neg (by decide)]
          exact m_c101' (x := x) hv hv2 (by omega) _ _ _ _ _ (fu_lt (by omega))
      · rw [if_neg h2]
        have e3 : ow (m 1) (fun k => m 6 (s + k)) n p (nI v - 1) x = 0 := if_neg (fun q => h2 q.2)
        rw [e3]
        rfl
    · rw [if_neg h1]
      have e3 : ow (m 1) (fun k => m 6 (s + k)) n p (nI v - 1) x = 0 := if_neg (fun q => h1 q.1)
      rw [e3]
      rfl
theorem m_waysOf {m : Mm} (hF : WF (m 1)) {s n ns j : Nat} (hn : s + n ≤ 96) (hns : ns ≤ 16) (ens : m 1 1 = nI ns) (hj : j < 5) : f_X12_waysOf (nI j) (nI s) (nI n) m = some (nI (ways (m 1) (fun k => m 6 (s + k)) n ns j)) := by
  obtain ⟨v, hv, ev⟩ := wf_feet hF hj
  unfold f_X12_waysOf ways
  simp (disch := omega) only [fa_lit, nI_add, og_in, nI_clamp, mv_v, ev]
  by_cases h0 : v = 0
  · subst h0
    rw [if_pos rfl]
    refine (m_c17_0 hn hns ens (nI j) ns 0 FU (by omega) (fu_lt (by omega))).trans ?_
    rw [Nat.add_comm]
    have e := sumN_square (tw (m 1) (fun k => m 6 (s + k)) n (nI j)) ns
    exact congrArg (fun z => some (nI (_ + z))) e.symm
  · rw [if_neg (by intro q; exact h0 ((nI_eq (by omega) (by omega)).mp q))]
    refine (m_c17_1 hn hns ens h0 hv (nI j) ns 0 FU (by omega) (fu_lt (by omega))).trans ?_
    rw [Nat.add_comm]
    rfl
theorem m_waysOfAll_c5 {m : Mm} (hF : WF (m 1)) {s n np ns : Nat} (hn : s + n ≤ 96) (hnp : np ≤ 5) (enp : m 1 0 = nI np) (hns : ns ≤ 16) (ens : m 1 1 = nI ns) : ∀ (d j f : Nat), j + d = np → d < f → f_X12_waysOfAll_c5 (nI s) (nI n) f (nI (sumN (ways (m 1) (fun k => m 6 (s + k)) n ns) j)) (nI j) m = some (nI (sumN (ways (m 1) (fun k => m 6 (s + k)) n ns) np)) := by
  intro d
  induction d with
  | zero =>
    intro y f hi hf
    obtain ⟨f, rfl⟩ := Nat.exists_eq_succ_of_ne_zero (show f ≠ 0 by omega)
    rw [f_X12_waysOfAll_c5]
    have e : y = np := by omega
    subst e
    rw [show (0 : Int32).toNatClampNeg = 0 from rfl, enp, if_pos (Int32.le_refl _)]
  | succ d ih =>
    intro y f hi hf
    obtain ⟨f, rfl⟩ := Nat.exists_eq_succ_of_ne_zero (show f ≠ 0 by omega)
    rw [f_X12_waysOfAll_c5, show (0 : Int32).toNatClampNeg = 0 from rfl]
    simp (disch := omega) only [op_v, mv_v, enp, nI_leI, if_neg (show ¬ np ≤ y by omega), m_waysOf hF hn hns ens, nI_1, nI_add]
    exact ih (y + 1) f (by omega) (by omega)
theorem m_waysOfAll {m : Mm} (hF : WF (m 1)) {s n np ns : Nat} (hn : s + n ≤ 96) (hnp : np ≤ 5) (enp : m 1 0 = nI np) (hns : ns ≤ 16) (ens : m 1 1 = nI ns) : f_X12_waysOfAll (nI s) (nI n) m = some (nI (sumN (ways (m 1) (fun k => m 6 (s + k)) n ns) np)) := m_waysOfAll_c5 hF hn hnp enp hns ens np 0 FU (by omega) (fu_lt (by omega))
theorem b2_le (b : Bool) : b2 b ≤ 1 := by cases b <;> decide
theorem ways_le (N f : Nat → Int32) (n : Nat) {ns : Nat} (hns : ns ≤ 16) (j : Nat) : ways N f n ns j ≤ 257 := by
  unfold ways
  split
  · have h1 := b2_le (tnb f 0 1 n || tnb f 1 0 n)
    have h2 : sumN (fun x => sumN (tw N f n (nI j) x) ns) ns ≤ ns * (ns * 1) := sumN_le ns (fun k _ => sumN_le ns (fun i _ => by
      unfold tw
      split
      · exact b2_le _
      · omega))
    have h3 : ns * (ns * 1) ≤ 16 * 16 := Nat.mul_le_mul hns (by omega)
    omega
  · have h1 := b2_le (tnb f (N (10 + j) - 1) (N (10 + j) - 1) n)
    have h2 : sumN (ow N f n (nI j) (N (10 + j) - 1)) ns ≤ ns * 1 := sumN_le ns (fun k _ => by
      unfold ow
      split
      · exact b2_le _
      · omega)
    omega
theorem tw_congr {N f g : Nat → Int32} {n : Nat} (h : ∀ k, k < n → f k = g k) (p : Int32) (x y : Nat) : tw N f n p x y = tw N g n p x y := by
  unfold tw
  rw [tnb_congr n h]
theorem ow_congr {N f g : Nat → Int32} {n : Nat} (h : ∀ k, k < n → f k = g k) (p ft : Int32) (x : Nat) : ow N f n p ft x = ow N g n p ft x := by
  unfold ow
  rw [tnb_congr n h]
theorem ways_congr {N f g : Nat → Int32} {n : Nat} (h : ∀ k, k < n → f k = g k) (ns j : Nat) : ways N f n ns j = ways N g n ns j := by
  unfold ways
  rw [tnb_congr n h, tnb_congr n h, tnb_congr n h, sumN_congr ns (fun x _ => sumN_congr ns (fun y _ => tw_congr h (nI j) x y)), sumN_congr ns (fun x _ => ow_congr h (nI j) _ x)]
