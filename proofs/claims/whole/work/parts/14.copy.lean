/-- n numbers of F from a on stand from b on; those t of them that are told -/
def cpy (F : Nat → Int32) (a b n : Nat) (p : Nat → Bool) : Nat → Int32 := fun k => if b ≤ k ∧ k < b + n ∧ p (k - b) = true then F (a + (k - b)) else F k
theorem cpy_all (F : Nat → Int32) (a b n : Nat) {p q : Nat → Bool} (h : ∀ k, k < n → p k = q k) : cpy F a b n p = cpy F a b n q := by
  funext k
  unfold cpy
  by_cases h1 : b ≤ k ∧ k < b + n
  · rw [h (k - b) (by omega)]
  · rw [if_neg (fun z => h1 ⟨z.1, z.2.1⟩), if_neg (fun z => h1 ⟨z.1, z.2.1⟩)]
theorem cpy_none (F : Nat → Int32) (a b n : Nat) {p : Nat → Bool} (h : ∀ k, k < n → p k = false) : cpy F a b n p = F := by
  funext k
  unfold cpy
  rw [if_neg]
  rintro ⟨h1, h2, h3⟩
  rw [h (k - b) (by omega)] at h3
  cases h3
theorem cpy_put (F : Nat → Int32) {a b n t : Nat} {p : Nat → Bool} (ht : t < n) : upd (cpy F a b n p) (b + t) (F (a + t)) = cpy F a b n (fun k => p k || decide (k = t)) := by
  funext k
  unfold upd cpy
  by_cases h : k = b + t
  · subst h
    rw [if_pos rfl, if_pos ⟨by omega, by omega, by simp⟩]
    congr 1
    omega
  · rw [if_neg h]
    by_cases h1 : b ≤ k ∧ k < b + n
    · have e : decide (k - b = t) = false := decide_eq_false (by omega)
      simp only [e, Bool.or_false]
    · rw [if_neg (fun z => h1 ⟨z.1, z.2.1⟩), if_neg (fun z => h1 ⟨z.1, z.2.1⟩)]
theorem m_copy_c111 (g : Mm) (F : Nat → Int32) {s t i j n : Nat} (hs : s < 4) (ht : t < 4) (hi : i + n ≤ 24) (hj : j + n ≤ 24) : ∀ (d u f : Nat), u + d = n → d < f →
    f_X12_copy_c111 (nI s) (nI i) (nI t) (nI j) (nI n) f (nI u) (mm_row g 6 (cpy F (24 * s + i) (24 * t + j) n (fun k => if j ≤ i then decide (k < u) else decide (n - u ≤ k)))) = some (nI n, mm_row g 6 (cpy F (24 * s + i) (24 * t + j) n (fun _ => true))) := by
  intro d
  induction d with
  | zero =>
    intro u f hu hf
    obtain ⟨f, rfl⟩ := Nat.exists_eq_succ_of_ne_zero (show f ≠ 0 by omega)
    rw [f_X12_copy_c111]
    have e : u = n := by omega
    subst e
    rw [if_pos (Int32.le_refl _), cpy_all F _ _ u (q := fun _ => true) (fun k hk => by
      split
      · exact decide_eq_true hk
      · exact decide_eq_true (by omega))]
  | succ d ih =>
    intro u f hu hf
    obtain ⟨f, rfl⟩ := Nat.exists_eq_succ_of_ne_zero (show f ≠ 0 by omega)
    rw [f_X12_copy_c111]
    have ih := ih (u + 1) f (by omega) (by omega)
    unfold f_X12_copy_c136
    simp (disch := omega) only [show (24 : Int32) = nI 24 from rfl, show (1 : Int32) = nI 1 from rfl, pk_mul, nI_add, nI_leI, if_neg (show ¬ n ≤ u by omega), pk_sub]
    by_cases h1 : j ≤ i
    · rw [if_pos h1]
      simp (disch := omega) only [og_in, nI_clamp, mw_v, mv_v, mm_up_row, nI_add, mm_row_at]
      rw [← ih]
      have e1 : cpy F (24 * s + i) (24 * t + j) n (fun k => if j ≤ i then decide (k < u) else decide (n - u ≤ k)) (24 * s + i + u) = F (24 * s + i + u) := by
        unfold cpy
        rw [if_neg]
        rintro ⟨h2, h3, h4⟩
        simp only [if_pos h1] at h4
        have := of_decide_eq_true h4
        omega
      rw [e1, cpy_put F (show u < n by omega), cpy_all F _ _ n (q := fun k => if j ≤ i then decide (k < u + 1) else decide (n - (u + 1) ≤ k)) (fun k hk => by
        simp only [if_pos h1]
        by_cases e2 : k < u
        · rw [decide_eq_true e2, decide_eq_true (show k < u + 1 by omega)]
          rfl
        · rw [decide_eq_false e2, Bool.false_or]
          by_cases e3 : k = u
          · rw [decide_eq_true e3, decide_eq_true (by omega)]
          · rw [decide_eq_false e3, decide_eq_false (by omega)])]
    · rw [if_neg h1]
      simp (disch := omega) only [og_in, nI_clamp, mw_v, mv_v, mm_up_row, nI_add, mm_row_at]
      rw [← ih]
      have e1 : cpy F (24 * s + i) (24 * t + j) n (fun k => if j ≤ i then decide (k < u) else decide (n - u ≤ k)) (24 * s + i + (n - 1 - u)) = F (24 * s + i + (n - 1 - u)) := by
        unfold cpy
        rw [if_neg]
        rintro ⟨h2, h3, h4⟩
        simp only [if_neg h1] at h4
        have := of_decide_eq_true h4
        omega
      rw [e1, cpy_put F (show n - 1 - u < n by omega), cpy_all F _ _ n (q := fun k => if j ≤ i then decide (k < u + 1) else decide (n - (u + 1) ≤ k)) (fun k hk => by
        simp only [if_neg h1]
        by_cases e2 : n - u ≤ k
        · rw [decide_eq_true e2, decide_eq_true (show n - (u + 1) ≤ k by omega)]
          rfl
        · rw [decide_eq_false e2, Bool.false_or]
          by_cases e3 : k = n - 1 - u
          · rw [decide_eq_true e3, decide_eq_true (by omega)]
          · rw [decide_eq_false e3, decide_eq_false (by omega)])]
theorem k_holds_neg {c : Mm} {p z : Nat} (hz : z ≤ 24) (h : c p 2 = nI z) (i x : Int32) (hx : x < 0) : f_X4_holds p i x c = some 0 := by
  unfold f_X4_holds
  by_cases h2 : i < 0
  · rw [if_pos h2]
  · rw [if_neg h2, if_pos hx]
theorem nI_inj {a b : Nat} (ha : a < 2 ^ 31) (hb : b < 2 ^ 31) (h : nI a = nI b) : a = b := (nI_eq ha hb).mp h
/-- more than 24 items are never there -/
theorem k_holds_big {c : Mm} {p z : Nat} (hz : z ≤ 24) (h : c p 2 = nI z) (i : Int32) {q : Nat} (hq : 24 < q) (hq2 : q < 2 ^ 31) : f_X4_holds p i (nI q) c = some 0 := by
  unfold f_X4_holds
  rw [h]
  by_cases h2 : i < 0
  · rw [if_pos h2]
  · rw [if_neg h2, if_neg (nI_pos hq2)]
    obtain ⟨j, l1, rfl⟩ := nI_of h2
    simp (disch := omega) only [nI_ltI]
    by_cases h3 : z < j
    · rw [if_pos h3]
    · rw [if_neg h3]
      simp (disch := omega) only [pk_sub, nI_ltI]
      rw [if_pos (by omega)]
theorem m_found_big {m : Mm} {s z l : Nat} (hs : s < 4) (hz : z ≤ 24) (h : m 4 s = nI z) (hl : m 5 s = nI l) (i : Int32) {q : Nat} (hq : 24 < q) (hq2 : q < 2 ^ 31) : f_X12_found (nI s) (nI l) i (nI q) m = some (-13) := by
  unfold f_X12_found
  simp (disch := omega) only [og_in, nI_clamp, h, hl]
  rw [if_pos (show (0 : Int32) ≤ nI z from nI_pos' (by omega)), if_pos trivial]
  by_cases h2 : i < 0
  · rw [if_pos h2]
  · rw [if_neg h2]
    obtain ⟨j, l1, rfl⟩ := nI_of h2
    simp (disch := omega) only [lg_cmp_le, nI_l, lN_add, pk_lLE]
    rw [if_neg (by omega)]
theorem sim_copy {n : Nat} {c m : Mm} (h : Rel n c m) (x1 x2 x3 x4 x5 : Int32) : Sim n (f_X11_copy x1 x2 x3 x4 x5 c) (f_X12_copy x1 x2 x3 x4 x5 m) := by
  unfold f_X11_copy f_X12_copy
  simp only [k_isSheet, in_0_3, op_v]
  by_cases h1 : wi x1 0 3 = 0
  · rw [if_pos h1, if_pos h1]; exact Sim.ret rfl h.next
  rw [if_neg h1, if_neg h1]
  by_cases h2 : wi x3 0 3 = 0
  · rw [if_pos h2, if_pos h2]; exact Sim.ret rfl h.next
  rw [if_neg h2, if_neg h2]
  obtain ⟨s, l1, rfl⟩ := wi_nz (b := 3) (by omega) h1
  obtain ⟨t, l2, rfl⟩ := wi_nz (b := 3) (by omega) h2
  simp (disch := omega) only [og_in, nI_clamp, k_nothing, op_v, add_143_4]
  have hos := h.2.2.2.2.1 s (by omega)
  have hot := h.2.2.2.2.1 t (by omega)
  rcases hos.2 with ⟨s1, s2, s3⟩ | ⟨zs, ls, zs1, ls1, s1, s2, s3, s4⟩
  · rw [s1, s2]
    exact Sim.ret rfl h.next
  rw [s1, s4, if_neg (nI_nm1 (by omega)), if_pos rfl, if_neg (nI_pos (show zs < 2 ^ 31 by omega))]
  rcases hot.2 with ⟨t1, t2, t3⟩ | ⟨zt, lt, zt1, lt1, t1, t2, t3, t4⟩
  · rw [t1, t2]
    exact Sim.ret rfl h.next
  rw [t1, t4, if_neg (nI_nm1 (by omega)), if_pos rfl, if_pos (nI_pos' (show zt < 2 ^ 31 by omega)), s3, t3]
  by_cases h3 : nI ls = nI lt
  rotate_left
  · rw [if_neg h3, if_neg h3]
    exact Sim.ret rfl h.next
  rw [if_pos h3, if_pos h3]
  have hlt := nI_inj (by omega) (by omega) h3
  subst hlt
  by_cases h4 : x5 < 0
  · rw [if_pos h4, k_holds_neg zs1 s2 _ _ h4, op_v]
    exact Sim.ret rfl h.next
  rw [if_neg h4]
  obtain ⟨q, hq, rfl⟩ := nI_of h4
  by_cases h5 : 24 < q
  · rw [k_holds_big zs1 s2 _ h5 hq, op_v, m_found_big (by omega) zs1 s1 s3 _ h5 hq, op_v]
    exact Sim.ret rfl h.next
  rw [k_holds zs1 s2 x2 (by omega), k_holds zt1 t2 x4 (by omega), m_found (by omega) zs1 s1 s3 _ x2 (by omega), m_found (by omega) zt1 t1 t3 _ x4 (by omega), op_v, op_v, op_v, op_v, if_pos rfl, if_pos rfl]
  rcases fd_01 x2 q zs with e1 | e1
  rotate_left
  · rw [e1]
    exact Sim.ret rfl h.next
  rcases fd_01 x4 q zt with e2 | e2
  rotate_left
  · rw [e1, e2]
    exact Sim.ret rfl h.next
  rw [e1, e2]
  obtain ⟨i, rfl, l3⟩ := fd_0 zs1 e1
  obtain ⟨j, rfl, l4⟩ := fd_0 zt1 e2
  have hcp : mm_cp (nI i) (nI j) (nI q) 24 24 = true := by
    unfold mm_cp
    rw [decide_eq_true (nI_pos (show i < 2 ^ 31 by omega)), decide_eq_true (nI_pos (show j < 2 ^ 31 by omega)), decide_eq_true (nI_pos hq), nI_clamp (by omega), nI_clamp (by omega), nI_clamp (by omega), decide_eq_true (show i + q ≤ 24 by omega), decide_eq_true (show j + q ≤ 24 by omega)]
    rfl
  rw [hcp, if_pos (show (0 : Int32) = 0 from rfl), if_neg (show ¬ (1 : Int32) = 0 by decide), if_neg (show ¬ (1 : Int32) = 0 by decide), if_neg (show ¬ (0 : Int32) < 0 by decide), if_pos (show (0 : Int32) ≤ 0 by decide), og_t, mr_v]
  have e6 : m = mm_row m 6 (cpy (m 6) (24 * s + i) (24 * t + j) q (fun k => if j ≤ i then decide (k < 0) else decide (q - 0 ≤ k))) := by
    rw [cpy_none (m 6) _ _ q (fun k hk => by
      split
      · exact decide_eq_false (by omega)
      · exact decide_eq_false (by omega)), mm_row_self]
  rw [show f_X12_copy_c111 (nI s) (nI i) (nI t) (nI j) (nI q) FU 0 m = some (nI q, mm_row m 6 (cpy (m 6) (24 * s + i) (24 * t + j) q (fun _ => true))) from by
    have := m_copy_c111 m (m 6) (s := s) (t := t) (i := i) (j := j) (n := q) (by omega) (by omega) (by omega) (by omega) q 0 FU (by omega) (fu_lt (by omega))
    rw [← e6] at this
    exact this]
  refine Sim.ret rfl (h.sheets (fun a ha => ?_) (fun a ha => ?_) ?_)
  · rw [mm_row_ne _ _ (by omega)]
  · rw [mm_row_ne _ _ (by omega)]
  · intro u hu
    have hou := h.2.2.2.2.1 u hu
    rw [mm_row_ne _ _ (show 143 + u ≠ 147 + t by omega), mm_row_ne m _ (show 4 ≠ 6 by omega), mm_row_ne m _ (show 5 ≠ 6 by omega), mm_row_at]
    refine ⟨fun k hk => ?_, hou.2⟩
    simp (disch := omega) only [nI_clamp]
    by_cases e : u = t
    · subst e
      rw [mm_row_at]
      unfold va_cpy cpy
      by_cases h7 : j ≤ k ∧ k < j + q
      · rw [if_pos h7, if_pos ⟨by omega, by omega, rfl⟩, hos.1 _ (by omega)]
        congr 1
        omega
      · rw [if_neg h7, if_neg (by omega)]
        exact hou.1 k hk
    · rw [mm_row_ne _ _ (show 147 + u ≠ 147 + t by omega)]
      unfold cpy
      rw [if_neg (by omega)]
      exact hou.1 k hk
