theorem sh_and (x : Int64) {y : Int64} {z : UInt64} {s : Nat} (hs : s ≤ 56) (hy : (y.toBitVec.smod 64).toNat = s) (hz : (z.toBitVec % 64).toNat = s) : (x.toUInt64 >>> z).toInt64 &&& 255 = (x >>> y) &&& 255 := by
  apply Int64.toBitVec_inj.mp
  show (x.toBitVec >>> (z.toBitVec % 64).toNat) &&& 255#64 = (x.toBitVec.sshiftRight (y.toBitVec.smod 64).toNat) &&& 255#64
  rw [hy, hz]
  apply BitVec.eq_of_getLsbD_eq
  intro i hi
  rw [BitVec.getLsbD_and, BitVec.getLsbD_and, BitVec.getLsbD_ushiftRight, BitVec.getLsbD_sshiftRight]
  by_cases h : i < 8
  · have h1 : s + i < 64 := by omega
    have h2 : ¬ 64 ≤ i := by omega
    simp [h1, h2]
  · have h3 : (255#64).getLsbD i = false := by
      rw [BitVec.getLsbD_ofNat, show 255 = 2 ^ 8 - 1 from rfl, Nat.testBit_two_pow_sub_one, decide_eq_false h, Bool.and_false]
    rw [h3, Bool.and_false, Bool.and_false]
def byN (x : Int64) (k : Nat) : Nat := ((x >>> ((8 * nI k).toInt64 &&& 63)) &&& 255).toBitVec.toNat
theorem byN_lt (x : Int64) (k : Nat) : byN x k < 256 := by
  unfold byN
  show ((x >>> ((8 * nI k).toInt64 &&& 63)).toBitVec &&& 255#64).toNat < 256
  rw [BitVec.toNat_and]
  have := @Nat.and_le_right ((x >>> ((8 * nI k).toInt64 &&& 63)).toBitVec.toNat) (255#64).toNat
  have e : (255#64).toNat = 255 := rfl
  omega
theorem byN_l (x : Int64) (k : Nat) : (x >>> ((8 * nI k).toInt64 &&& 63)) &&& 255 = lN (byN x k) := by
  apply Int64.toBitVec_inj.mp
  unfold byN
  show _ = BitVec.ofNat 64 _
  rw [BitVec.ofNat_toNat, BitVec.setWidth_eq]
theorem by_sh : ∀ k, k < 8 → (((8 * nI k).toInt64 &&& 63).toBitVec.smod 64).toNat = 8 * k ∧ (((8 * nI k).toInt64.toUInt64 &&& Int64.toUInt64 63).toBitVec % 64).toNat = 8 * k := by decide +kernel
theorem k_byteOf (x : Int64) {k : Nat} (hk : k < 8) : f_X6_byteOf x (nI k) = some (nI (byN x k)) := by
  unfold f_X6_byteOf
  obtain ⟨h1, h2⟩ := by_sh k hk
  rw [sh_and x (s := 8 * k) (by omega) h1 h2, byN_l, lN_i]
theorem m_in_by (x : Int64) (k : Nat) : f_X12_in ((x >>> ((8 * nI k).toInt64 &&& 63)) &&& 255) 32 126 = some (wi (nI (byN x k)) 32 126) := by
  have := byN_lt x k
  rw [byN_l, ← nI_l (by omega)]
  exact in_eq _ 32 126 (by decide) (by decide)
def clN (x : Int64) : Nat → Bool
  | 0 => true
  | n + 1 => clN x n && decide (¬ wi (nI (byN x n)) 32 126 = 0)
theorem clN_false {x : Int64} {i : Nat} (h : clN x i = false) : ∀ d, clN x (i + d) = false
  | 0 => h
  | d + 1 => by
    rw [show i + (d + 1) = (i + d) + 1 from rfl]
    unfold clN
    rw [clN_false h d]
    rfl
theorem k_clean_c2 (x : Int64) {n : Nat} (hn : n ≤ 8) : ∀ (d i f : Nat), i + d = n → d < f → clN x i = true → f_X6_isClean_c2 x (nI n) f (nI i) = some (nI (b2 (clN x n))) := by
  intro d
  induction d with
  | zero =>
    intro i f hi hf ht
    obtain ⟨f, rfl⟩ := Nat.exists_eq_succ_of_ne_zero (show f ≠ 0 by omega)
    rw [f_X6_isClean_c2]
    have e : i = n := by omega
    subst e
    rw [if_pos (Int32.le_refl _), ht]
    rfl
  | succ d ih =>
    intro i f hi hf ht
    obtain ⟨f, rfl⟩ := Nat.exists_eq_succ_of_ne_zero (show f ≠ 0 by omega)
    rw [f_X6_isClean_c2, k_byteOf x (by omega), op_v, isWithin_eq, op_v, mv_v, nI_1, if_neg (show ¬ nI n ≤ nI i from nI_ge (by omega) (by omega))]
    by_cases h1 : wi (nI (byN x i)) 32 126 = 0
    · rw [if_pos h1]
      have h2 : clN x (i + 1) = false := by
        unfold clN
        rw [ht, h1]
        rfl
      rw [show n = (i + 1) + d by omega, clN_false h2 d]
      rfl
    · rw [if_neg h1]
      refine ih (i + 1) f (by omega) (by omega) ?_
      unfold clN
      rw [ht, decide_eq_true h1]
      rfl
theorem m_type_c20 (m : Mm) (x : Int64) {n : Nat} (hn : n ≤ 8) : ∀ (d i f : Nat), i + d = n → d < f → f_X12_type_c20 x (nI n) f (nI (b2 (clN x i))) (nI i) m = if clN x n = true then (if (m 0 4 + nI n) ≤ 60 then f_X12_type_c93 x FU (nI n - 1) m else some (-3, m)) else some (-1, m) := by
  intro d
  induction d with
  | zero =>
    intro i f hi hf
    obtain ⟨f, rfl⟩ := Nat.exists_eq_succ_of_ne_zero (show f ≠ 0 by omega)
    rw [f_X12_type_c20]
    have e : i = n := by omega
    subst e
    rw [if_pos (Int32.le_refl _)]
    cases clN x i with
    | false => rfl
    | true =>
      rw [if_neg (show ¬ nI (b2 true) = 0 by decide), if_pos rfl]
      rfl
  | succ d ih =>
    intro i f hi hf
    obtain ⟨f, rfl⟩ := Nat.exists_eq_succ_of_ne_zero (show f ≠ 0 by omega)
    have ih := ih (i + 1) f (by omega) (by omega)
    rw [f_X12_type_c20, if_neg (show ¬ nI n ≤ nI i from nI_ge (by omega) (by omega)), m_in_by]
    simp only [op_v, mv_v, nI_1]
    rw [← ih]
    cases ht : clN x i with
    | false =>
      rw [show clN x (i + 1) = false from clN_false ht 1]
      rfl
    | true =>
      rw [if_neg (show ¬ nI (b2 true) = 0 by decide)]
      by_cases h1 : wi (nI (byN x i)) 32 126 = 0
      · have h2 : clN x (i + 1) = false := by
          unfold clN
          rw [ht, h1]
          rfl
        rw [if_pos h1, h2]
        rfl
      · have h2 : clN x (i + 1) = true := by
          unfold clN
          rw [ht, decide_eq_true h1]
          rfl
        rw [if_neg h1, h2]
        rfl
theorem clN_at {x : Int64} : ∀ {n : Nat}, clN x n = true → ∀ k, k < n → ¬ wi (nI (byN x k)) 32 126 = 0
  | 0, _, k, hk => absurd hk (Nat.not_lt_zero k)
  | n + 1, h, k, hk => by
    unfold clN at h
    rw [Bool.and_eq_true] at h
    by_cases e : k = n
    · subst e
      exact of_decide_eq_true h.2
    · exact clN_at h.1 k (by omega)
theorem wi_32 {b : Nat} (hb : b < 256) (h : ¬ wi (nI b) 32 126 = 0) : 32 ≤ b ∧ b ≤ 126 := by
  unfold wi at h
  by_cases h1 : nI b < 32
  · rw [if_pos h1] at h; exact absurd rfl h
  rw [if_neg h1] at h
  by_cases h2 : 126 < nI b
  · rw [if_pos h2] at h; exact absurd rfl h
  constructor
  · rcases Nat.lt_or_ge b 32 with q | q
    · exact absurd (nI_lt (a := b) (b := 32) q (by omega)) h1
    · exact q
  · rcases Nat.lt_or_ge 126 b with q | q
    · exact absurd (nI_lt (a := 126) (b := b) q (by omega)) h2
    · omega
theorem Rel.tape {n : Nat} {c m c' m' : Mm} (h : Rel n c m) (hc : ∀ a, a ≠ 83 → a ≠ 84 → c' a = c a) (hm : ∀ a, 1 ≤ a → a < 7 ∨ 9 ≤ a → a ≠ 3 → m' a = m a) (h2 : m' 0 2 = m 0 2) (hT : TP c' m') : Rel (n + 1) c' m' := by
  have m1 := hm 1 (by omega) (by omega) (by omega)
  exact ⟨by rw [m1]; exact h.1.kept' (fun a _ q => hc a (by omega) (by omega)), by rw [m1]; exact h.2.1, h.2.2.1.kept (by rw [hc 0 (by omega) (by omega)]) h2 (hm 2 (by omega) (by omega) (by omega)) (fun a _ h1 => hc a (by omega) (by omega)), hT, h.2.2.2.2.1.kept (fun a h1 _ => hc a (by omega) (by omega)) (hm 4 (by omega) (by omega) (by omega)) (hm 5 (by omega) (by omega) (by omega)) (hm 6 (by omega) (by omega) (by omega)), h.2.2.2.2.2.mono (by omega) (by rw [hc 135 (by omega) (by omega)]) (hc 138 (by omega) (by omega)) (fun a _ _ => hc a (by omega) (by omega)) (fun a _ _ => hm a (by omega) (by omega) (by omega))⟩
theorem type_both (x : Int64) {n : Nat} (hn : n ≤ 8) (hcl : clN x n = true) : ∀ (j t f f' : Nat) (c m : Mm), j ≤ n → t + j ≤ 60 → j < f → j < f' → c 83 1 = nI t → m 0 4 = nI t → (∀ k, k < 60 → c 84 k = m 3 k) → (∀ k, k < t → ∃ b, 32 ≤ b ∧ b ≤ 126 ∧ m 3 k = nI b) →
    ∃ c' m', f_X6_append_c19 83 x f (nI j - 1) c = some (nI (t + j), c') ∧ f_X12_type_c93 x f' (nI j - 1) m = some (nI (t + j), m') ∧ (∀ a, a ≠ 83 → a ≠ 84 → c' a = c a) ∧ (∀ a, a ≠ 0 → a ≠ 3 → m' a = m a) ∧ m' 0 2 = m 0 2 ∧ TP c' m' := by
  intro j
  induction j with
  | zero =>
    intro t f f' c m hj ht hf hf' c1 m1 h1 h2
    obtain ⟨f, rfl⟩ := Nat.exists_eq_succ_of_ne_zero (show f ≠ 0 by omega)
    obtain ⟨f', rfl⟩ := Nat.exists_eq_succ_of_ne_zero (show f' ≠ 0 by omega)
    rw [f_X6_append_c19, f_X12_type_c93, if_pos (show nI 0 - 1 < 0 by decide), if_pos (show nI 0 - 1 < 0 by decide), c1, m1]
    exact ⟨c, m, rfl, rfl, fun _ _ _ => rfl, fun _ _ _ => rfl, rfl, t, by omega, m1, c1, h1, h2⟩
  | succ j ih =>
    intro t f f' c m hj ht hf hf' c1 m1 h1 h2
    obtain ⟨f, rfl⟩ := Nat.exists_eq_succ_of_ne_zero (show f ≠ 0 by omega)
    obtain ⟨f', rfl⟩ := Nat.exists_eq_succ_of_ne_zero (show f' ≠ 0 by omega)
    rw [nI_pred, f_X6_append_c19, f_X12_type_c93, if_neg (show ¬ nI j < 0 from nI_pos (by omega)), if_neg (show ¬ nI j < 0 from nI_pos (by omega)), k_byteOf x (by omega), op_v, c1, m1, og_in _ (by omega) (by omega), og_in _ (by omega) (by omega), byN_l, lN_i, nI_clamp (by omega)]
    simp only [mw_v, mv_v]
    have e1 : nI j + -1 = nI j - 1 := by rw [Int32.sub_eq_add_neg]
    rw [e1, mm_up_ne c _ _ (show 83 ≠ 83 + 1 by omega), c1, mm_up_ne m _ _ (show 0 ≠ 3 by omega), m1, nI_1]
    obtain ⟨c', m', a1, a2, a3, a4, a5, a6⟩ := ih (t + 1) f f' (mm_up (mm_up c (83 + 1) t (nI (byN x j))) 83 1 (nI (t + 1))) (mm_up (mm_up m 3 t (nI (byN x j))) 0 4 (nI (t + 1))) (by omega) (by omega) (by omega) (by omega) (by rw [mm_up_eq, upd_eq]) (by rw [mm_up_eq, upd_eq])
      (fun k hk => by
        rw [mm_up_ne _ _ _ (show 84 ≠ 83 by omega), mm_up_eq, mm_up_ne _ _ _ (show 3 ≠ 0 by omega), mm_up_eq]
        by_cases e : k = t
        · subst e
          rw [upd_eq, upd_eq]
        · rw [upd_ne _ _ e, upd_ne _ _ e]
          exact h1 k hk)
      (fun k hk => by
        rw [mm_up_ne _ _ _ (show 3 ≠ 0 by omega), mm_up_eq]
        by_cases e : k = t
        · subst e
          obtain ⟨q1, q2⟩ := wi_32 (byN_lt x j) (clN_at hcl j (by omega))
          exact ⟨byN x j, q1, q2, upd_eq _ _ _⟩
        · rw [upd_ne _ _ e]
          exact h2 k (by omega))
    refine ⟨c', m', ?_, ?_, fun a ha hb => ?_, fun a ha hb => ?_, ?_, a6⟩
    · rw [show t + (j + 1) = t + 1 + j by omega]
      exact a1
    · rw [show t + (j + 1) = t + 1 + j by omega]
      exact a2
    · rw [a3 a ha hb, mm_up_ne _ _ _ ha, mm_up_ne _ _ _ hb]
    · rw [a4 a ha hb, mm_up_ne _ _ _ ha, mm_up_ne _ _ _ hb]
    · rw [a5, mm_up_eq, upd_ne _ _ (by omega), mm_up_ne _ _ _ (by omega)]
theorem sim_type {n : Nat} {c m : Mm} (h : Rel n c m) (x1 : Int64) (x3 : Int32) : Sim n (f_X11_type x1 x3 c) (f_X12_type x1 x3 m) := by
  unfold f_X11_type f_X12_type
  rw [isWithin_eq, in_1_8, op_v, op_v]
  by_cases h1 : wi x3 1 8 = 0
  · rw [if_pos h1, if_pos h1]; exact Sim.ret rfl h.next
  rw [if_neg h1, if_neg h1]
  obtain ⟨q, q1, q2, rfl⟩ := wi_1 (b := 8) (by omega) h1
  obtain ⟨t, t1, t2, t3, t4, t5⟩ := h.2.2.2.1
  unfold f_X6_isClean f_X6_append
  rw [show f_X12_type_c20 x1 (nI q) FU 1 0 m = _ from m_type_c20 m x1 q2 q 0 FU (by omega) (fu_lt (by omega)), show f_X6_isClean_c2 x1 (nI q) FU 0 = _ from k_clean_c2 x1 q2 q 0 FU (by omega) (fu_lt (by omega)) rfl, op_v]
  cases hcl : clN x1 q with
  | false => exact Sim.ret rfl h.next
  | true =>
    rw [if_neg (show ¬ nI (b2 true) = 0 by decide), if_pos rfl, t2, t3, nI_add]
    by_cases h2 : t + q ≤ 60
    · have e : nI (t + q) ≤ 60 := nI_le (b := 60) h2 (by omega)
      rw [if_pos e, if_pos e, mv_v]
      obtain ⟨c', m', a1, a2, a3, a4, a5, a6⟩ := type_both x1 q2 hcl q t FU FU c m (Nat.le_refl _) h2 (fu_lt (by omega)) (fu_lt (by omega)) t3 t2 t4 t5
      rw [a1, a2, ob_v]
      exact Sim.ret rfl (h.tape a3 (fun a h1 _ h3 => a4 a (by omega) h3) a5 a6)
    · have e : ¬ nI (t + q) ≤ 60 := nI_ge (b := t + q) (a := 60) (by omega) (by omega)
      rw [if_neg e, if_neg e, ob_v]
      exact Sim.ret rfl h.next
