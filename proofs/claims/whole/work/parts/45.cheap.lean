/-- a search behind: the rest stands as it was -/
theorem Rel.walk {n : Nat} {c m c' m' : Mm} (h : Rel n c m) (hc : ∀ x, x = 0 ∨ (42 ≤ x ∧ x < 90) ∨ 140 ≤ x → c' x = c x) (hm : ∀ x, 2 ≤ x → x < 8 ∨ 17 ≤ x → m' x = m x) (h0 : ∀ s, s ≠ 19 → s ≠ 20 → m' 0 s = m 0 s) (hW : WR c' 1 (m' 1)) (hF : WF (m' 1)) (hA : AR (n + 1) c' m') : Rel (n + 1) c' m' :=
  ⟨hW, hF, h.2.2.1.kept (by rw [hc 0 (by omega)]) (h0 2 (by omega) (by omega)) (hm 2 (by omega) (by omega)) (fun a h1 _ => hc a (by omega)), h.2.2.2.1.kept (h0 4 (by omega) (by omega)) (by rw [hc 83 (by omega)]) (hc 84 (by omega)) (hm 3 (by omega) (by omega)), h.2.2.2.2.1.kept (fun a h1 _ => hc a (by omega)) (hm 4 (by omega) (by omega)) (hm 5 (by omega) (by omega)) (hm 6 (by omega) (by omega)), hA⟩
/-- both search: they find the same -/
theorem both_search {n : Nat} {c m : Mm} (h : Rel n c m) (hn : n < 999999) {p ns lim : Nat} {lone : Bool} {oa ob oc : Option Nat} (hp5 : p < 5) (hns : ns ≤ 16) (ens : m 1 1 = nI ns) (hl : lim ≤ 999) (T : TRI (m 1) p ns lone oa ob oc) :
    ∃ f br bc bt c' m', f_X9_search 90 1 (nI (b01 lone)) (numI oa) (numI ob) (numI oc) (nI lim) c = some (nI (b01 f), c') ∧ f_X12_finds (nI p) (numI oa) (numI ob) (numI oc) (nI lim) m = some (nI (b01 f), m') ∧ (f = true → c' 90 17 = nI bc ∧ c' 90 18 = nI bt ∧ (∀ j, j < 9 → c' 139 j = nI (br j)) ∧ m' 0 19 = nI bc ∧ m' 0 20 = nI bt ∧ (∀ j, j < 9 → m' 16 j = nI (br j)) ∧ okr (okQ (m 1) lone oa ob oc) nQ 9 0 q00 br) ∧ bc ≤ 20000 ∧ RF oa ob oc c' ∧ (∀ k, k < 4 → c' (104 + k) 0 = nI (aA (m 1) oa k) ∧ c' (104 + k) 1 = nI (aB (m 1) ob k) ∧ c' (104 + k) 2 = nI (aC (m 1) oc k)) ∧ (∀ x, x < 90 ∨ 140 ≤ x → c' x = c x) ∧ MK m m' ∧ AR (n + 1) c' m' := by
  obtain ⟨hW, hF, hK, hT, hS, ⟨z0, z1, z2, z3, z4⟩, q, q1, q2, q3⟩ := h
  obtain ⟨t1, t2, t3, t4, t5, t6, t7, t8⟩ := T
  obtain ⟨f, br, bc, bt, c', r1, b1, b2, b3, b4, b5, b6, b7, b8, b9, b10, b11, b12, b13, b14⟩ := k_searchW hW hF hns ens t2 t3 t4 t5 t6 hl (show q < 1000000 by omega) q2 q3 z1 z2 z3 z4
  have l16 : ∀ {o : Option Nat}, (∀ x, o = some x → x < ns) → ∀ x, o = some x → x < 16 := fun h x e => by have := h x e; omega
  obtain ⟨f', br', bc', bt', m', s1, d1, d2, d3, d4, d5, d6, d7⟩ := m_finds rfl hF z0 hp5 (l16 t2) (l16 t3) (l16 t4) t1 hl
  obtain ⟨ef, ev⟩ := both_found b1 d1 b2 d2
  subst ef
  refine ⟨f, br, bc, bt, c', m', r1, ?_, fun hf => ?_, b4, b6, b7, b8, d3, ⟨d5, b11, b12, b13, b14⟩, q + 1, by omega, b9, b10⟩
  · rw [s1]
    cases f <;> rfl
  · obtain ⟨v1, v2, v3⟩ := ev hf
    obtain ⟨w1, w2, w3⟩ := b3.2 hf
    refine ⟨w1, w2, w3, ?_, ?_, ?_, (b1 hf).1.1⟩
    · rcases d4 with ⟨d4, _⟩ | ⟨_, d4, d41, d42⟩
      · rw [hf] at d4
        exact absurd d4 (by decide)
      · rw [v1]; exact d4
    · rcases d4 with ⟨d4, _⟩ | ⟨_, d4, d41, d42⟩
      · rw [hf] at d4
        exact absurd d4 (by decide)
      · rw [v2]; exact d41
    · rcases d4 with ⟨d4, _⟩ | ⟨_, d4, d41, d42⟩
      · rw [hf] at d4
        exact absurd d4 (by decide)
      · intro j hj
        rw [v3 j hj]
        exact d42 j hj
theorem wi_m2 {x : Int32} (h : ¬ wi x (-2) 8 = 0) (h1 : ¬ x = -1) (h2 : ¬ x = -2) : ∃ j, j < 9 ∧ x = nI j := by
  unfold wi at h
  split at h
  · exact absurd rfl h
  · rename_i g1
    split at h
    · exact absurd rfl h
    · rename_i g2
      have e1 : x.toInt ≠ -1 := fun e => h1 (Int32.toInt_inj.mp (e.trans (show (-1 : Int) = (-1 : Int32).toInt by decide)))
      have e2 : x.toInt ≠ -2 := fun e => h2 (Int32.toInt_inj.mp (e.trans (show (-2 : Int) = (-2 : Int32).toInt by decide)))
      rw [Int32.lt_iff_toInt_lt] at g1 g2
      rw [show (-2 : Int32).toInt = -2 by decide] at g1
      rw [show (8 : Int32).toInt = 8 by decide] at g2
      obtain ⟨j, j1, j2⟩ := nI_of2 (x := x) (M := nI 8) (n := 8) (nI_toInt (by omega)) (by rw [Int32.lt_iff_toInt_lt, show (0 : Int32).toInt = 0 by decide]; omega) (by rw [Int32.le_iff_toInt_le, nI_toInt (by omega)]; omega)
      exact ⟨j, by omega, j2⟩
theorem lone_if {n : Nat} {c m : Mm} (h : Rel n c m) {p ns : Nat} (hp : p < 5) {lone : Bool} {oa ob oc : Option Nat} (T : TRI (m 1) p ns lone oa ob oc) (X : Int32 → Option (Int32 × Mm)) : (og (mm_in (nI p) 5) (if c 3 (nI p).toNatClampNeg = 0 then X 0 else X 1)) = X (nI (b01 lone)) := by
  rw [og_in _ hp (by omega), nI_clamp (show p < 2 ^ 31 by omega), wr_feet h.1 hp, T.1]
  rcases feet_0 h.2.1 hp with ⟨f1, f2⟩ | ⟨f1, f2⟩
  · rw [if_pos f1, decide_eq_false (fun h => h f2)]
    rfl
  · rw [if_neg f1, decide_eq_true f2]
    rfl
theorem sim_cheapest {n : Nat} {c m : Mm} (h : Rel n c m) (hn : n < 999999) (x1 x2 x3 x4 x5 x6 : Int32) : Sim n (f_X11_cheapest x1 x2 x3 x4 x5 x6 c) (f_X12_cheapest x1 x2 x3 x4 x5 x6 m) := by
  have nh : ¬ (1 : Int32) = 0 := by decide
  rcases both_walk h x1 x2 x3 x4 x5 with ⟨a1, r, a2, a3⟩ | ⟨p, ns, lim, lone, oa, ob, oc, hp5, hns, ens, hl, rfl, rfl, rfl, rfl, rfl, T, a1, a2, a3⟩
  · have e1 : f_X11_cheapest x1 x2 x3 x4 x5 x6 c = some (-1, c) := by
      unfold f_X11_cheapest
      rw [isWithin_eq, op_v]
      by_cases w : wi x6 (-2) 8 = 0
      · rw [if_pos w]
      · rw [if_neg w, a1, op_v, if_pos rfl]
    have e2 : f_X12_cheapest x1 x2 x3 x4 x5 x6 m = some (-1, m) := by
      unfold f_X12_cheapest
      rw [a2, op_v]
      by_cases w : r = 0
      · rw [if_pos w]
      · rw [if_neg w, in_1_999, op_v, if_pos (show wi x5 1 999 = 0 from a3.resolve_left w)]
    rw [e1, e2]
    exact Sim.ret rfl h.next
  · unfold f_X11_cheapest f_X12_cheapest
    rw [isWithin_eq, op_v, a2, op_v, if_neg nh, in_1_999, op_v, if_neg (show ¬ wi (nI lim) 1 999 = 0 from a3), in_m2_8, op_v]
    by_cases w : wi x6 (-2) 8 = 0
    · rw [if_pos w, if_pos w]
      exact Sim.ret rfl h.next
    · rw [if_neg w, if_neg w, a1, op_v, if_neg nh]
      obtain ⟨f, br, bc, bt, c', m', s1, s2, s3, s4, s5, s6, s7, s8, s9⟩ := both_search h hn hp5 hns ens hl T
      have e := lone_if h hp5 T (fun v => f_X11_cheapest_c53 (numI oa) (numI ob) (numI oc) (nI lim) x6 90 1 v c)
      have R : Rel (n + 1) c' m' := h.walk (fun x hx => s7 x (by omega)) (fun x q1 q2 => s8.1 x (by omega) q2) s8.2 (by rw [s8.1 1 (by omega) (by omega)]; exact h.1.kept' (fun a _ _ => s7 a (by omega))) (by rw [s8.1 1 (by omega) (by omega)]; exact h.2.1) s9
      refine Eq.mpr (congrArg (fun X => Sim n X _) e) ?_
      show Sim n (f_X11_cheapest_c53 (numI oa) (numI ob) (numI oc) (nI lim) x6 90 1 (nI (b01 lone)) c) _
      unfold f_X11_cheapest_c53
      rw [s1, ob_v, s2, ob_v]
      cases f with
      | false =>
        rw [if_pos (show nI (b01 false) = 0 from rfl), if_pos (show nI (b01 false) = 0 from rfl)]
        exact Sim.ret rfl R
      | true =>
        obtain ⟨v1, v2, v3, v4, v5, v6, v7⟩ := s3 rfl
        rw [if_neg (show ¬ nI (b01 true) = 0 by decide), if_neg (show ¬ nI (b01 true) = 0 by decide)]
        by_cases g1 : x6 = -1
        · rw [if_pos g1, if_pos g1]
          exact Sim.ret (v1.trans v4.symm) R
        · rw [if_neg g1, if_neg g1]
          by_cases g2 : x6 = -2
          · rw [if_pos g2, if_pos g2]
            exact Sim.ret (v2.trans v5.symm) R
          · rw [if_neg g2, if_neg g2]
            obtain ⟨j, hj, rfl⟩ := wi_m2 w g1 g2
            rw [og_in _ hj (by omega), og_in _ hj (by omega), nI_clamp (show j < 2 ^ 31 by omega)]
            exact Sim.ret ((v3 j hj).trans (v6 j hj).symm) R
