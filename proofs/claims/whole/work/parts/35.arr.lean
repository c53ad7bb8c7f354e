/-! arrivals in the class's memory -/
def qOk (d : Nat) (q : Qc) : Prop := q.1 + q.2.1 + q.2.2.1 + q.2.2.2.1 = d ∧ d ≤ 8 ∧ q.2.2.2.1 ≤ 4 ∧ q.2.2.2.2 ≤ 2
def ix (d : Nat) (q : Qc) : Nat := (((d * 9 + q.1) * 9 + q.2.1) * 5 + q.2.2.2.1) * 3 + q.2.2.2.2
theorem ix_lt {d : Nat} {q : Qc} (h : qOk d q) : ix d q < 10935 := by
  unfold qOk at h
  unfold ix
  omega
theorem ix_inj {d d' : Nat} {q q' : Qc} (h : qOk d q) (h' : qOk d' q') (e : ix d q = ix d' q') : d = d' ∧ q = q' := by
  obtain ⟨a, b, c, x, y⟩ := q
  obtain ⟨a', b', c', x', y'⟩ := q'
  unfold qOk at h h'
  unfold ix at e
  simp only at h h' e
  have e1 : y = y' := by omega
  have e2 : x = x' := by omega
  have e3 : b = b' := by omega
  have e4 : a = a' := by omega
  have e5 : d = d' := by omega
  have e6 : c = c' := by omega
  subst e1 e2 e3 e4 e5 e6
  exact ⟨rfl, rfl⟩
def EE (g : Mm) (sn : Nat) (d : Nat) (q : Qc) (c0 t0 : Nat) : Prop := qOk d q ∧ g 138 (ix d q) = nI sn ∧ g 136 (ix d q) = nI c0 ∧ g 137 (ix d q) = nI t0 ∧ c0 < 100000 ∧ t0 < 100000
/-- what stands at a place of this search was put there by it -/
def EX (g : Mm) (sn : Nat) : Prop := g 135 3 = nI sn ∧ (∀ k, k < 10935 → g 138 k = nI sn → ∃ c0 t0, c0 < 100000 ∧ t0 < 100000 ∧ g 136 k = nI c0 ∧ g 137 k = nI t0) ∧ ∀ k, k < 10935 → ∃ v, v ≤ sn ∧ g 138 k = nI v
theorem k_betters_c48 {g : Mm} {sn k c t : Nat} (hX : EX g sn) (hk : k < 10935) (bc : c < 100000) (bt : t < 100000) : ∃ g', f_X0_betters_c48 135 (nI k) (nI c) (nI t) g = some (1, g') ∧ EX g' sn ∧ (∀ x, x ≠ 136 → x ≠ 137 → x ≠ 138 → g' x = g x) ∧ (∀ x j, j ≠ k → g' x j = g x j) ∧ g' 138 k = nI sn ∧ g' 136 k = nI c ∧ g' 137 k = nI t := by
  unfold f_X0_betters_c48
  rw [og_in _ hk (by omega), nI_clamp (show k < 2 ^ 31 by omega), mw_v, og_in _ hk (by omega), mw_v, og_in _ hk (by omega), mw_v, hX.1]
  have v : ∀ x j, mm_up (mm_up (mm_up g (135 + 3) k (nI sn)) (135 + 1) k (nI c)) (135 + 2) k (nI t) x j = if j = k then (if x = 137 then nI t else if x = 136 then nI c else if x = 138 then nI sn else g x j) else g x j := fun x j => by
    rw [mm_up_ap, mm_up_ap, mm_up_ap]
    by_cases e : j = k
    · simp only [if_pos e]
    · simp only [if_neg e, ite_self]
  have old : ∀ x, x ≠ 136 → x ≠ 137 → x ≠ 138 → mm_up (mm_up (mm_up g (135 + 3) k (nI sn)) (135 + 1) k (nI c)) (135 + 2) k (nI t) x = g x := fun x a b d => by
    rw [mm_up_ne _ _ _ (by omega), mm_up_ne _ _ _ (by omega), mm_up_ne _ _ _ (by omega)]
  refine ⟨_, rfl, ⟨?_, fun j hj h => ?_, fun j hj => ?_⟩, old, fun x j hj => by rw [v, if_neg hj], ?_, ?_, ?_⟩
  · rw [old 135 (by omega) (by omega) (by omega)]
    exact hX.1
  · by_cases e : j = k
    · refine ⟨c, t, bc, bt, ?_, ?_⟩
      · rw [v, if_pos e, if_neg (by omega), if_pos rfl]
      · rw [v, if_pos e, if_pos rfl]
    · rw [v, if_neg e] at h
      rw [v, if_neg e, v, if_neg e]
      exact hX.2.1 j hj h
  · rw [v]
    by_cases e : j = k
    · rw [if_pos e, if_neg (by omega), if_neg (by omega), if_pos rfl]
      exact ⟨sn, Nat.le_refl _, rfl⟩
    · rw [if_neg e]
      exact hX.2.2 j hj
  · rw [v, if_pos rfl, if_neg (by omega), if_neg (by omega), if_pos rfl]
  · rw [v, if_pos rfl, if_neg (by omega), if_pos rfl]
  · rw [v, if_pos rfl, if_pos rfl]
theorem k_betters {g : Mm} {sn k c t : Nat} (hX : EX g sn) (hk : k < 10935) (bc : c < 100000) (bt : t < 100000) :
    (f_X0_betters 135 (nI k) (nI c) (nI t) g = some (0, g) ∧ g 138 k = nI sn ∧ ∃ c0 t0, c0 < 100000 ∧ t0 < 100000 ∧ g 136 k = nI c0 ∧ g 137 k = nI t0 ∧ c0 ≤ c ∧ t0 ≤ t) ∨
    ∃ g', f_X0_betters 135 (nI k) (nI c) (nI t) g = some (1, g') ∧ EX g' sn ∧ (∀ x, x ≠ 136 → x ≠ 137 → x ≠ 138 → g' x = g x) ∧ (∀ x j, j ≠ k → g' x j = g x j) ∧ g' 138 k = nI sn ∧ g' 136 k = nI c ∧ g' 137 k = nI t := by
  have put := k_betters_c48 hX hk bc bt
  unfold f_X0_betters
  rw [isWithin_eq, op_v, show wi (nI k) 0 10934 = 1 from wi_in (b := 10934) (by omega) (by omega), if_neg (show ¬ (1 : Int32) = 0 by decide), og_in _ hk (by omega), nI_clamp (show k < 2 ^ 31 by omega), show g (135 + 3) k = g 138 k from rfl, hX.1]
  by_cases e : g 138 k = nI sn
  · obtain ⟨c0, t0, b1, b2, e1, e2⟩ := hX.2.1 k hk e
    rw [if_pos e, og_in _ hk (by omega), show g (135 + 1) k = nI c0 from e1]
    by_cases h1 : c < c0
    · rw [if_pos (nI_lt h1 (by omega))]
      exact Or.inr put
    · rw [if_neg (nI_nlt (by omega) (by omega)), og_in _ hk (by omega), show g (135 + 2) k = nI t0 from e2]
      by_cases h2 : t < t0
      · rw [if_pos (nI_lt h2 (by omega))]
        exact Or.inr put
      · rw [if_neg (nI_nlt (by omega) (by omega))]
        exact Or.inl ⟨rfl, e, c0, t0, b1, b2, by first | rfl | exact e1, by first | rfl | exact e2, by omega, by omega⟩
  · rw [if_neg e]
    exact Or.inr put
/-- an arrival: outdone by one that stands there, or put there -/
theorem k_isOutdone {g : Mm} {sn d c t : Nat} {q : Qc} (hX : EX g sn) (hq : qOk d q) (bc : c < 100000) (bt : t < 100000) (e0 : g (113 + d) 0 = nI q.1) (e1 : g (113 + d) 1 = nI q.2.1) (e3 : g (113 + d) 3 = nI q.2.2.2.1) (e4 : g 123 d = nI q.2.2.2.2) (ec : g 111 d = nI c) (et : g 110 d = nI t) :
    (f_X9_isOutdone 90 (nI d) g = some (1, g) ∧ ∃ c0 t0, EE g sn d q c0 t0 ∧ c0 ≤ c ∧ t0 ≤ t) ∨
    ∃ g', f_X9_isOutdone 90 (nI d) g = some (0, g') ∧ EX g' sn ∧ (∀ x, x ≠ 136 → x ≠ 137 → x ≠ 138 → g' x = g x) ∧ ∀ d' q' c0 t0, EE g' sn d' q' c0 t0 → EE g sn d' q' c0 t0 ∨ (d' = d ∧ q' = q ∧ c0 = c ∧ t0 = t) := by
  have hd := hq.2.1
  unfold f_X9_isOutdone
  rw [og_in _ (show d < 10 by omega) (by omega), nI_clamp (show d < 2 ^ 31 by omega), show (0 : Int32).toNatClampNeg = 0 from rfl, show (1 : Int32).toNatClampNeg = 1 from rfl, show (3 : Int32).toNatClampNeg = 3 from rfl, mv_v, og_in _ (show d < 10 by omega) (by omega), mv_v, og_in _ (show d < 10 by omega) (by omega), og_in _ (show d < 10 by omega) (by omega), show g (90 + 23 + d) 0 = nI q.1 from e0, show g (90 + 23 + d) 1 = nI q.2.1 from e1, show g (90 + 23 + d) 3 = nI q.2.2.2.1 from e3, show g (90 + 33) d = nI q.2.2.2.2 from e4, show g (90 + 21) d = nI c from ec, show g (90 + 20) d = nI t from et]
  rw [show (9 : Int32) = nI 9 from rfl, show (5 : Int32) = nI 5 from rfl, show (3 : Int32) = nI 3 from rfl, pk_mul, nI_add, pk_mul, nI_add, pk_mul, nI_add, pk_mul, nI_add]
  rcases k_betters hX (ix_lt hq) bc bt with ⟨r1, r2, c0, t0, b1, b2, r3, r4, r5, r6⟩ | ⟨g', r1, r2, r3, r4, r5, r6, r7⟩
  · rw [show f_X0_betters (90 + 45) (nI ((((d * 9 + q.1) * 9 + q.2.1) * 5 + q.2.2.2.1) * 3 + q.2.2.2.2)) (nI c) (nI t) g = _ from r1, ob_v, if_pos rfl]
    exact Or.inl ⟨rfl, c0, t0, ⟨hq, r2, r3, r4, b1, b2⟩, r5, r6⟩
  · rw [show f_X0_betters (90 + 45) (nI ((((d * 9 + q.1) * 9 + q.2.1) * 5 + q.2.2.2.1) * 3 + q.2.2.2.2)) (nI c) (nI t) g = _ from r1, ob_v, if_neg (show ¬ (1 : Int32) = 0 by decide)]
    refine Or.inr ⟨g', rfl, r2, r3, fun d' q' c0 t0 hE => ?_⟩
    obtain ⟨x1, x2, x3, x4, x5, x6⟩ := hE
    by_cases e : ix d' q' = ix d q
    · obtain ⟨y1, y2⟩ := ix_inj x1 hq e
      refine Or.inr ⟨y1, y2, ?_, ?_⟩
      · rw [e, r6] at x3
        exact (nI_inj (by omega) (by omega) x3).symm
      · rw [e, r7] at x4
        exact (nI_inj (by omega) (by omega) x4).symm
    · rw [r4 _ _ e] at x2 x3 x4
      exact Or.inl ⟨x1, x2, x3, x4, x5, x6⟩
