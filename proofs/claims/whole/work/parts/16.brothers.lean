def inS (set o : Int32) : Prop := ((set >>> (o &&& 31)) &&& 1) = 1
def wbN (N : Nat → Int32) (set ft srt : Int32) (x : Nat) : Nat := if N (47 + x) = srt ∧ ¬ N (63 + x) ≤ 0 ∧ ((set >>> (N (15 + x) &&& 31)) &&& 1) = 1 ∧ N (31 + x) = ft then 1 else 0
theorem wbN_yes {N : Nat → Int32} {set ft srt : Int32} {x : Nat} (h1 : N (47 + x) = srt) (h2 : ¬ N (63 + x) ≤ 0) (h3 : ((set >>> (N (15 + x) &&& 31)) &&& 1) = 1) (h4 : N (31 + x) = ft) : wbN N set ft srt x = 1 := if_pos ⟨h1, h2, h3, h4⟩
theorem wbN_no {N : Nat → Int32} {set ft srt : Int32} {x : Nat} (h : ¬ (N (47 + x) = srt ∧ ¬ N (63 + x) ≤ 0 ∧ ((set >>> (N (15 + x) &&& 31)) &&& 1) = 1 ∧ N (31 + x) = ft)) : wbN N set ft srt x = 0 := if_neg h
theorem wbN_le (N : Nat → Int32) (set ft srt : Int32) (x : Nat) : wbN N set ft srt x ≤ 1 := by
  unfold wbN
  split <;> omega
theorem k_isIn (a b : Int32) : f_X10_isIn a b = some (if ((a >>> (b &&& 31)) &&& 1) = 1 then 1 else 0) := by
  unfold f_X10_isIn
  split <;> rfl
theorem k_wearable_c6 {c : Mm} {N : Nat → Int32} (hW : WR c 1 N) {ns : Nat} (hns : ns ≤ 16) (ens : N 1 = nI ns) (set ft srt : Int32) : ∀ (d i f : Nat), i + d = ns → d < f → f_X10_wearable_c6 1 set ft srt f (nI (sumN (wbN N set ft srt) i)) (nI i) c = some (nI (sumN (wbN N set ft srt) ns)) := by
  intro d
  induction d with
  | zero =>
    intro i f hi hf
    obtain ⟨f, rfl⟩ := Nat.exists_eq_succ_of_ne_zero (show f ≠ 0 by omega)
    rw [f_X10_wearable_c6, wr_ns hW, ens]
    have e : i = ns := by omega
    subst e
    rw [if_pos (Int32.le_refl _)]
  | succ d ih =>
    intro i f hi hf
    obtain ⟨f, rfl⟩ := Nat.exists_eq_succ_of_ne_zero (show f ≠ 0 by omega)
    rw [f_X10_wearable_c6]
    have ih := ih (i + 1) f (by omega) (by omega)
    rw [← ih, sumN_s]
    simp (disch := omega) only [op_v, mv_v, og_in, nI_clamp, Nat.reduceAdd, wr_ns hW, ens, nI_leI, if_neg (show ¬ ns ≤ i by omega), wr_own hW, wr_foot hW, wr_sort hW, wr_soles hW, nI_1, k_isIn]
    by_cases h1 : ((set >>> (N (15 + i) &&& 31)) &&& 1) = 1
    · rw [if_pos h1, if_neg (show ¬ (1 : Int32) = 0 by decide)]
      by_cases h2 : N (31 + i) = ft
      · rw [if_pos h2]
        by_cases h3 : N (47 + i) = srt
        · rw [if_pos h3]
          by_cases h4 : N (63 + i) ≤ 0
          · rw [if_pos h4, wbN_no (fun q => q.2.1 h4)]
            rfl
          · rw [if_neg h4, wbN_yes h3 h4 h1 h2]
        · rw [if_neg h3, wbN_no (fun q => h3 q.1)]
          rfl
      · rw [if_neg h2, wbN_no (fun q => h2 q.2.2.2)]
        rfl
    · rw [if_neg h1, if_pos rfl, wbN_no (fun q => h1 q.2.2.1)]
      rfl
def prN (N : Nat → Int32) (set : Int32) (ns s : Nat) : Nat := if sumN (wbN N set 1 (nI s)) ns ≤ sumN (wbN N set 0 (nI s)) ns then sumN (wbN N set 1 (nI s)) ns else sumN (wbN N set 0 (nI s)) ns
theorem k_pairsOf_c4 {c : Mm} {N : Nat → Int32} (hW : WR c 1 N) {ns : Nat} (hns : ns ≤ 16) (ens : N 1 = nI ns) (set : Int32) : ∀ (d i f : Nat), i + d = 4 → d < f → f_X10_pairsOf_c4 1 set f (nI (sumN (prN N set ns) i)) (nI i) c = some (nI (sumN (prN N set ns) 4)) := by
  intro d
  induction d with
  | zero =>
    intro i f hi hf
    obtain ⟨f, rfl⟩ := Nat.exists_eq_succ_of_ne_zero (show f ≠ 0 by omega)
    have e : i = 4 := by omega
    subst e
    rw [f_X10_pairsOf_c4, if_pos (by decide)]
  | succ d ih =>
    intro i f hi hf
    obtain ⟨f, rfl⟩ := Nat.exists_eq_succ_of_ne_zero (show f ≠ 0 by omega)
    rw [f_X10_pairsOf_c4]
    have ih := ih (i + 1) f (by omega) (by omega)
    rw [← ih, sumN_s]
    unfold f_X10_wearable
    have w0 : f_X10_wearable_c6 1 set 0 (nI i) FU 0 0 c = _ := k_wearable_c6 hW hns ens set 0 (nI i) ns 0 FU (by omega) (fu_lt (by omega))
    have w1 : f_X10_wearable_c6 1 set 1 (nI i) FU 0 0 c = _ := k_wearable_c6 hW hns ens set 1 (nI i) ns 0 FU (by omega) (fu_lt (by omega))
    rw [w0, w1, op_v, op_v, if_neg (show ¬ (4 : Int32) ≤ nI i from nI_ge (b := 4) (a := i) (by omega) (by omega)), mv_v, mv_v, nI_1]
    have b0 : sumN (wbN N set 0 (nI i)) ns ≤ ns * 1 := sumN_le ns (fun k _ => wbN_le _ _ _ _ _)
    have b1 : sumN (wbN N set 1 (nI i)) ns ≤ ns * 1 := sumN_le ns (fun k _ => wbN_le _ _ _ _ _)
    have e : (if nI (sumN (wbN N set 1 (nI i)) ns) < nI (sumN (wbN N set 0 (nI i)) ns) then nI (sumN (wbN N set 1 (nI i)) ns) else nI (sumN (wbN N set 0 (nI i)) ns)) = nI (prN N set ns i) := by
      unfold prN
      generalize sumN (wbN N set 1 (nI i)) ns = b at b1 ⊢
      generalize sumN (wbN N set 0 (nI i)) ns = a at b0 ⊢
      simp (disch := omega) only [nI_ltI]
      by_cases h : b < a
      · rw [if_pos h, if_pos (by omega)]
      · rw [if_neg h]
        by_cases h2 : b ≤ a
        · rw [if_pos h2, show b = a by omega]
        · rw [if_neg h2]
    rw [e, nI_add]
def tfN (N : Nat → Int32) (set : Int32) (k : Nat) : Nat := if ((set >>> (nI k &&& 31)) &&& 1) = 1 ∧ N (10 + k) = 0 then 1 else 0
theorem k_two_c4 {c : Mm} {N : Nat → Int32} (hW : WR c 1 N) {np : Nat} (hnp : np ≤ 5) (enp : N 0 = nI np) (set : Int32) : ∀ (d i f : Nat), i + d = np → d < f → f_X10_twoFooted_c4 1 set f (nI (sumN (tfN N set) i)) (nI i) c = some (nI (sumN (tfN N set) np)) := by
  intro d
  induction d with
  | zero =>
    intro i f hi hf
    obtain ⟨f, rfl⟩ := Nat.exists_eq_succ_of_ne_zero (show f ≠ 0 by omega)
    have e : i = np := by omega
    subst e
    rw [f_X10_twoFooted_c4, wr_np hW, enp, if_pos (Int32.le_refl _)]
  | succ d ih =>
    intro i f hi hf
    obtain ⟨f, rfl⟩ := Nat.exists_eq_succ_of_ne_zero (show f ≠ 0 by omega)
    rw [f_X10_twoFooted_c4]
    have ih := ih (i + 1) f (by omega) (by omega)
    rw [← ih, sumN_s]
    simp (disch := omega) only [op_v, mv_v, og_in, nI_clamp, Nat.reduceAdd, wr_np hW, enp, nI_leI, if_neg (show ¬ np ≤ i by omega), wr_feet hW, nI_1, k_isIn]
    unfold tfN
    by_cases h1 : ((set >>> (nI i &&& 31)) &&& 1) = 1
    · rw [if_pos h1, if_neg (show ¬ (1 : Int32) = 0 by decide)]
      by_cases h2 : N (10 + i) = 0
      · rw [if_pos h2, if_pos ⟨h1, h2⟩]
      · rw [if_neg h2, if_neg (fun q => h2 q.2)]
        rfl
    · rw [if_neg h1, if_pos rfl, if_neg (fun q => h1 q.1)]
      rfl
theorem m_c52 {m : Mm} (hF : WF (m 1)) {ns : Nat} (hns : ns ≤ 16) (ens : m 1 1 = nI ns) (K : Int32 → Int32 → Mm → Option Int32) (set x2 : Int32) (p s : Nat) : ∀ (d i f : Nat), i + d = ns → d < f → f_X12_brothers_c52 K set x2 f (nI p) (nI s) (nI (sumN (wbN (m 1) set 0 (nI s)) i)) (nI (sumN (wbN (m 1) set 1 (nI s)) i)) (nI i) m = K (nI (p + prN (m 1) set ns s)) (nI (s + 1)) m := by
  intro d
  induction d with
  | zero =>
    intro i f hi hf
    obtain ⟨f, rfl⟩ := Nat.exists_eq_succ_of_ne_zero (show f ≠ 0 by omega)
    have e : i = ns := by omega
    subst e
    rw [f_X12_brothers_c52, show (1 : Int32).toNatClampNeg = 1 from rfl, ens, if_pos (Int32.le_refl _)]
    have b0 : sumN (wbN (m 1) set 0 (nI s)) i ≤ i * 1 := sumN_le i (fun k _ => wbN_le _ _ _ _ _)
    have b1 : sumN (wbN (m 1) set 1 (nI s)) i ≤ i * 1 := sumN_le i (fun k _ => wbN_le _ _ _ _ _)
    unfold prN
    generalize sumN (wbN (m 1) set 1 (nI s)) i = b at b1 ⊢
    generalize sumN (wbN (m 1) set 0 (nI s)) i = a at b0 ⊢
    simp (disch := omega) only [nI_leI, mv_v, nI_1, nI_add]
    split <;> rfl
  | succ d ih =>
    intro i f hi hf
    obtain ⟨f, rfl⟩ := Nat.exists_eq_succ_of_ne_zero (show f ≠ 0 by omega)
    rw [f_X12_brothers_c52]
    unfold f_X12_brothers_c113 f_X12_brothers_c114 f_X12_brothers_c140 f_X12_brothers_c141
    have ih := ih (i + 1) f (by omega) (by omega)
    rw [← ih, sumN_s, sumN_s]
    simp (disch := omega) only [mv_v, show (1 : Int32).toNatClampNeg = 1 from rfl, show (15 : Int32) = nI 15 from rfl, show (31 : Int32) + nI i = nI (31 + i) from nI_add 31 i, show (47 : Int32) = nI 47 from rfl, show (63 : Int32) = nI 63 from rfl, nI_add, og_in, nI_clamp, ens, nI_leI, if_neg (show ¬ ns ≤ i by omega), nI_1, if_true, nI_p0, show ¬ (1 : Int32) = 0 by decide, if_false]
    by_cases h3 : m 1 (47 + i) = nI s
    · rw [if_pos h3]
      by_cases h4 : m 1 (63 + i) ≤ 0
      · rw [if_pos h4, wbN_no (fun q => q.2.1 h4), wbN_no (fun q => q.2.1 h4)]
      · rw [if_neg h4]
        by_cases h1 : ((set >>> (m 1 (15 + i) &&& 31)) &&& 1) = 1
        · rw [if_pos h1]
          obtain ⟨v, hv, ev⟩ := wf_foot hF (show i < 16 by omega)
          rcases (show v = 0 ∨ v = 1 by omega) with rfl | rfl
          · have e0 : m 1 (31 + i) = 0 := ev
            have e1 : ¬ m 1 (31 + i) = 1 := by rw [ev]; decide
            rw [if_pos e0, if_neg e1, wbN_yes h3 h4 h1 e0, wbN_no (fun q => e1 q.2.2.2)]
          · have e0 : ¬ m 1 (31 + i) = 0 := by rw [ev]; decide
            have e1 : m 1 (31 + i) = 1 := ev
            rw [if_neg e0, if_pos e1, wbN_no (fun q => e0 q.2.2.2), wbN_yes h3 h4 h1 e1]
        · rw [if_neg h1, wbN_no (fun q => h1 q.2.2.1), wbN_no (fun q => h1 q.2.2.1)]
    · rw [if_neg h3, wbN_no (fun q => h3 q.1), wbN_no (fun q => h3 q.1)]
theorem m_c37 {m : Mm} (hF : WF (m 1)) {ns : Nat} (hns : ns ≤ 16) (ens : m 1 1 = nI ns) (set x2 : Int32) : ∀ (d s f : Nat), s + d = 4 → d < f → f_X12_brothers_c37 set x2 f (nI (sumN (prN (m 1) set ns) s)) (nI s) m = f_X12_brothers_c208 set x2 FU (nI (sumN (prN (m 1) set ns) 4)) 0 0 m := by
  intro d
  induction d with
  | zero =>
    intro s f hi hf
    obtain ⟨f, rfl⟩ := Nat.exists_eq_succ_of_ne_zero (show f ≠ 0 by omega)
    have e : s = 4 := by omega
    subst e
    rw [f_X12_brothers_c37, if_pos (by decide)]
  | succ d ih =>
    intro s f hi hf
    obtain ⟨f, rfl⟩ := Nat.exists_eq_succ_of_ne_zero (show f ≠ 0 by omega)
    rw [f_X12_brothers_c37, if_neg (show ¬ (4 : Int32) ≤ nI s from nI_ge (b := 4) (a := s) (by omega) (by omega))]
    have ih := ih (s + 1) f (by omega) (by omega)
    rw [← ih, sumN_s]
    exact m_c52 hF hns ens _ set x2 _ s ns 0 FU (by omega) (fu_lt (by omega))
theorem m_c208 {m : Mm} {np : Nat} (hnp : np ≤ 5) (enp : m 1 0 = nI np) (set x2 P : Int32) : ∀ (d i f : Nat), i + d = np → d < f → f_X12_brothers_c208 set x2 f P (nI (sumN (tfN (m 1) set) i)) (nI i) m = some (if x2 = 0 then P else if nI (sumN (tfN (m 1) set) np) ≤ P then nI (sumN (tfN (m 1) set) np) else P) := by
  intro d
  induction d with
  | zero =>
    intro i f hi hf
    obtain ⟨f, rfl⟩ := Nat.exists_eq_succ_of_ne_zero (show f ≠ 0 by omega)
    have e : i = np := by omega
    subst e
    rw [f_X12_brothers_c208, show (0 : Int32).toNatClampNeg = 0 from rfl, enp, if_pos (Int32.le_refl _)]
    split
    · rfl
    · split <;> rfl
  | succ d ih =>
    intro i f hi hf
    obtain ⟨f, rfl⟩ := Nat.exists_eq_succ_of_ne_zero (show f ≠ 0 by omega)
    rw [f_X12_brothers_c208]
    have ih := ih (i + 1) f (by omega) (by omega)
    rw [← ih, sumN_s]
    simp (disch := omega) only [mv_v, show (0 : Int32).toNatClampNeg = 0 from rfl, show (10 : Int32) = nI 10 from rfl, nI_add, og_in, nI_clamp, enp, nI_leI, if_neg (show ¬ np ≤ i by omega), nI_1, nI_p0]
    unfold tfN
    by_cases h1 : ((set >>> (nI i &&& 31)) &&& 1) = 1
    · rw [if_pos h1]
      by_cases h2 : m 1 (10 + i) = 0
      · rw [if_pos h2, if_pos ⟨h1, h2⟩]
      · rw [if_neg h2, if_neg (fun q => h2 q.2)]
    · rw [if_neg h1, if_neg (fun q => h1 q.1)]
theorem set_bits {np : Nat} (h : np ≤ 5) : ((1 : Int32) <<< (nI np &&& 31)) - 1 = nI (2 ^ np - 1) ∧ ∀ j, j < 2 ^ 31 → nI j >>> (nI np &&& 31) = nI (j / 2 ^ np) := by
  rcases (show np = 0 ∨ np = 1 ∨ np = 2 ∨ np = 3 ∨ np = 4 ∨ np = 5 by omega) with rfl | rfl | rfl | rfl | rfl | rfl
  · exact ⟨by decide, fun j hj => pk_shrN hj _ 0 (by decide)⟩
  · exact ⟨by decide, fun j hj => pk_shrN hj _ 1 (by decide)⟩
  · exact ⟨by decide, fun j hj => pk_shrN hj _ 2 (by decide)⟩
  · exact ⟨by decide, fun j hj => pk_shrN hj _ 3 (by decide)⟩
  · exact ⟨by decide, fun j hj => pk_shrN hj _ 4 (by decide)⟩
  · exact ⟨by decide, fun j hj => pk_shrN hj _ 5 (by decide)⟩
theorem sim_brothers {n : Nat} {c m : Mm} (h : Rel n c m) (x1 x2 : Int32) : SimP (f_X11_brothers x1 x2 c) (f_X12_brothers x1 x2 m) := by
  have hW := h.1
  have hF := h.2.1
  obtain ⟨np, hnp, enp⟩ := wf_np hF
  obtain ⟨ns, hns, ens⟩ := wf_ns hF
  obtain ⟨sb1, sb2⟩ := set_bits hnp
  unfold f_X11_brothers f_X12_brothers
  simp only [isWithin_eq, in_0, in_0_1, op_v, wr_np hW, show (0 : Int32).toNatClampNeg = 0 from rfl, enp, sb1]
  have hp : 2 ^ np ≤ 2 ^ 5 := Nat.pow_le_pow_right (by omega) hnp
  have hp0 : 0 < 2 ^ np := Nat.two_pow_pos np
  by_cases h0 : x1 < 0
  · rw [if_pos h0, if_pos (show wi x1 0 (nI (2 ^ np - 1)) = 0 from if_pos h0)]
    exact SimP.ret rfl
  rw [if_neg h0]
  obtain ⟨j, hj, rfl⟩ := nI_of h0
  rw [sb2 j hj]
  have hdv : j / 2 ^ np < 2 ^ 31 := Nat.lt_of_le_of_lt (Nat.div_le_self _ _) hj
  by_cases h1 : j < 2 ^ np
  rotate_left
  · have e1 : ¬ nI (j / 2 ^ np) = 0 := nI_ne0 (Nat.div_pos (by omega) hp0) hdv
    rw [if_neg e1, if_pos]
    · exact SimP.ret rfl
    · unfold wi
      rw [if_neg h0, if_pos (nI_lt (by omega) hj)]
  rw [if_pos (show nI (j / 2 ^ np) = 0 by rw [Nat.div_eq_of_lt h1]; rfl), wi_in (by omega) (by omega), if_neg (show ¬ (1 : Int32) = 0 by decide)]
  by_cases h2 : wi x2 0 1 = 0
  · rw [if_pos h2, if_pos h2]; exact SimP.ret rfl
  rw [if_neg h2, if_neg h2]
  unfold f_X10_pairsOf f_X10_twoFooted
  rw [show f_X10_pairsOf_c4 1 (nI j) FU 0 0 c = _ from k_pairsOf_c4 hW hns ens (nI j) 4 0 FU (by omega) (fu_lt (by omega)), show f_X10_twoFooted_c4 1 (nI j) FU 0 0 c = _ from k_two_c4 hW hnp enp (nI j) np 0 FU (by omega) (fu_lt (by omega)), show f_X12_brothers_c37 (nI j) x2 FU 0 0 m = _ from m_c37 hF hns ens (nI j) x2 4 0 FU (by omega) (fu_lt (by omega)), show f_X12_brothers_c208 (nI j) x2 FU (nI (sumN (prN (m 1) (nI j) ns) 4)) 0 0 m = _ from m_c208 hnp enp (nI j) x2 _ np 0 FU (by omega) (fu_lt (by omega)), op_v, op_v]
  by_cases h3 : x2 = 0
  · rw [if_pos h3, if_pos h3]
    exact SimP.ret rfl
  · rw [if_neg h3, if_neg h3]
    have b0 : sumN (prN (m 1) (nI j) ns) 4 ≤ 4 * 16 := sumN_le 4 (fun k _ => by
      have b0 : sumN (wbN (m 1) (nI j) 0 (nI k)) ns ≤ ns * 1 := sumN_le ns (fun k _ => wbN_le _ _ _ _ _)
      unfold prN
      split <;> omega)
    have b1 : sumN (tfN (m 1) (nI j)) np ≤ np * 1 := sumN_le np (fun k _ => by
      unfold tfN
      split <;> omega)
    generalize sumN (prN (m 1) (nI j) ns) 4 = a at b0 ⊢
    generalize sumN (tfN (m 1) (nI j)) np = b at b1 ⊢
    refine SimP.ret ?_
    simp (disch := omega) only [nI_ltI, nI_leI]
    by_cases h4 : b < a
    · rw [if_pos h4, if_pos (by omega)]
    · rw [if_neg h4]
      by_cases h5 : b ≤ a
      · rw [if_pos h5, show a = b by omega]
      · rw [if_neg h5]
