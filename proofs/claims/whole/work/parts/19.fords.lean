theorem wf_path {N : Nat → Int32} (h : WF N) {a b : Nat} (ha : a < 8) (hb : b < 8) : (N (117 + 8 * a + b) = -1 ∨ ∃ s, s ≤ 15 ∧ N (117 + 8 * a + b) = nI s ∧ a ≠ b) ∧ N (117 + 8 * a + b) = N (117 + 8 * b + a) := by
  obtain ⟨⟨v, hv, ev, hd⟩, e⟩ := h.2 a b ha hb
  refine ⟨?_, e⟩
  cases v with
  | zero => exact Or.inl ev
  | succ s => exact Or.inr ⟨s, by omega, by rw [ev, nI_pred], fun q => by have := hd q; omega⟩
theorem w_path0 : ((List.range 8).all fun a => (List.range 8).all fun b => decide (1 + wP (117 + 8 * a + b) = 28 + min a b ∧ wL (117 + 8 * a + b) = max a b)) = true := by decide +kernel
theorem wr_path {c : Mm} {N : Nat → Int32} (h : WR c 1 N) {a b : Nat} (ha : a < 8) (hb : b < 8) : c (28 + min a b) (max a b) = N (117 + 8 * a + b) :=
  wr_gen h (by omega) (of_decide_eq_true (List.all_eq_true.mp (List.all_eq_true.mp w_path0 a (List.mem_range.mpr ha)) b (List.mem_range.mpr hb)))
theorem nI_min {a b : Nat} (ha : a < 8) (hb : b < 8) : (if nI b < nI a then nI b else nI a) = nI (min a b) := by
  by_cases h : b < a
  · rw [if_pos (nI_lt h (by omega)), Nat.min_eq_right (by omega)]
  · rw [if_neg (nI_nlt (by omega) (by omega)), Nat.min_eq_left (by omega)]
theorem nI_max {a b : Nat} (ha : a < 8) (hb : b < 8) : (if nI a < nI b then nI b else nI a) = nI (max a b) := by
  by_cases h : a < b
  · rw [if_pos (nI_lt h (by omega)), Nat.max_eq_right (by omega)]
  · rw [if_neg (nI_nlt (by omega) (by omega)), Nat.max_eq_left (by omega)]
theorem k_between {c : Mm} {N : Nat → Int32} (hW : WR c 1 N) {a b : Nat} (ha : a < 8) (hb : b < 8) : f_X2_between 26 (nI a) (nI b) c = some (N (117 + 8 * a + b)) := by
  unfold f_X2_between
  rw [nI_min ha hb, nI_max ha hb, og_in _ (by omega) (by omega), og_in _ (by omega) (by omega), nI_clamp (by omega), nI_clamp (by omega)]
  exact congrArg some (wr_path hW ha hb)
theorem w_path1 : ((List.range 193).all fun j => (List.range 8).all fun a => (List.range 8).all fun b => decide (a = b ∨ j = 117 + 8 * a + b ∨ j = 117 + 8 * b + a ∨ ¬ (1 + wP j = 28 + min a b ∧ wL j = max a b))) = true := by decide +kernel
theorem up_path {c : Mm} {N : Nat → Int32} (h : WR c 1 N) {a b : Nat} (ha : a < 8) (hb : b < 8) (hab : a ≠ b) (x : Int32) : WR (mm_up c (28 + min a b) (max a b) x) 1 (upd (upd N (117 + 8 * a + b) x) (117 + 8 * b + a) x) := by
  intro j hj
  have q := of_decide_eq_true (List.all_eq_true.mp (List.all_eq_true.mp (List.all_eq_true.mp w_path1 j (List.mem_range.mpr hj)) a (List.mem_range.mpr ha)) b (List.mem_range.mpr hb))
  have p1 := of_decide_eq_true (List.all_eq_true.mp (List.all_eq_true.mp w_path0 a (List.mem_range.mpr ha)) b (List.mem_range.mpr hb))
  have p2 := of_decide_eq_true (List.all_eq_true.mp (List.all_eq_true.mp w_path0 b (List.mem_range.mpr hb)) a (List.mem_range.mpr ha))
  rw [mm_up_ap]
  by_cases e1 : j = 117 + 8 * b + a
  · subst e1
    rw [upd_eq, p2.1, p2.2, if_pos (by rw [Nat.min_comm]), if_pos (Nat.max_comm b a)]
  rw [upd_ne _ _ e1]
  by_cases e2 : j = 117 + 8 * a + b
  · subst e2
    rw [upd_eq, p1.1, p1.2, if_pos rfl, if_pos rfl]
  rw [upd_ne _ _ e2]
  rcases q with q | q | q | q
  · exact absurd q hab
  · exact absurd q e2
  · exact absurd q e1
  · by_cases e3 : 1 + wP j = 28 + min a b
    · rw [if_pos e3, if_neg (fun z => q ⟨e3, z⟩)]
      exact h j hj
    · rw [if_neg e3]
      exact h j hj
theorem uf_path {N : Nat → Int32} (h : WF N) {a b t : Nat} (ha : a < 8) (hb : b < 8) (hab : a ≠ b) (ht : t ≤ 16) : WF (upd (upd N (117 + 8 * a + b) (nI t - 1)) (117 + 8 * b + a) (nI t - 1)) := by
  refine ⟨fun j hj hj2 => ?_, fun c d hc hd => ?_⟩
  · rw [upd_ne _ _ (by omega), upd_ne _ _ (by omega)]
    exact h.1 j hj hj2
  · obtain ⟨h1, h2⟩ := h.2 c d hc hd
    by_cases e1 : c = b ∧ d = a
    · obtain ⟨rfl, rfl⟩ := e1
      refine ⟨⟨t, ht, upd_eq _ _ _, fun z => absurd z.symm hab⟩, ?_⟩
      rw [upd_eq, upd_ne _ _ (by omega), upd_eq]
    · by_cases e2 : c = a ∧ d = b
      · obtain ⟨rfl, rfl⟩ := e2
        refine ⟨⟨t, ht, ?_, fun z => absurd z hab⟩, ?_⟩
        · rw [upd_ne _ _ (by omega), upd_eq]
        · rw [upd_eq, upd_ne _ _ (by omega), upd_eq]
      · rw [upd_ne _ _ (show 117 + 8 * c + d ≠ 117 + 8 * b + a by omega), upd_ne _ _ (show 117 + 8 * c + d ≠ 117 + 8 * a + b by omega), upd_ne _ _ (show 117 + 8 * d + c ≠ 117 + 8 * b + a by omega), upd_ne _ _ (show 117 + 8 * d + c ≠ 117 + 8 * a + b by omega)]
        exact ⟨h1, h2⟩
/-- the two tests of fords are alike -/
theorem points_both (x1 x2 : Int32) : (f_X11_arePoints x1 x2 = some 0 ∧ f_X12_areFords x1 x2 = some 0) ∨ ∃ a b, a < 8 ∧ b < 8 ∧ a ≠ b ∧ x1 = nI a ∧ x2 = nI b ∧ f_X11_arePoints x1 x2 = some 1 ∧ f_X12_areFords x1 x2 = some 1 := by
  unfold f_X11_arePoints f_X12_areFords
  simp only [isWithin_eq, in_0_7, op_v]
  by_cases h1 : wi x1 0 7 = 0
  · rw [if_pos h1]
    exact Or.inl ⟨rfl, rfl⟩
  rw [if_neg h1]
  by_cases h2 : wi x2 0 7 = 0
  · rw [if_pos h2]
    exact Or.inl ⟨rfl, rfl⟩
  rw [if_neg h2]
  by_cases h3 : x1 = x2
  · rw [if_pos h3]
    exact Or.inl ⟨rfl, rfl⟩
  rw [if_neg h3]
  obtain ⟨a, ha, rfl⟩ := wi_nz (b := 7) (by omega) h1
  obtain ⟨b, hb, rfl⟩ := wi_nz (b := 7) (by omega) h2
  exact Or.inr ⟨a, b, by omega, by omega, fun q => h3 (by rw [q]), rfl, rfl, rfl, rfl⟩
theorem wi_m1_15 {x : Int32} (h : ¬ wi x (-1) 15 = 0) : ∃ t, t ≤ 16 ∧ x = nI t - 1 := by
  unfold wi at h
  by_cases h1 : x < -1
  · rw [if_pos h1] at h; exact absurd rfl h
  rw [if_neg h1] at h
  by_cases h2 : 15 < x
  · rw [if_pos h2] at h; exact absurd rfl h
  by_cases h3 : x < 0
  · refine ⟨0, by omega, ?_⟩
    rw [Int32.lt_iff_toInt_lt] at h1 h3
    have e1 : (0 : Int32).toInt = 0 := rfl
    have e2 : (-1 : Int32).toInt = -1 := by decide
    have e3 : (nI 0 - 1).toInt = -1 := by decide
    exact Int32.toInt_inj.mp (by omega)
  · obtain ⟨j, hj, rfl⟩ := nI_of2 (n := 15) (M := 15) rfl h3 (by rw [Int32.le_iff_toInt_le]; rw [Int32.lt_iff_toInt_lt] at h2; omega)
    exact ⟨j + 1, by omega, (nI_pred j).symm⟩
theorem sim_path {n : Nat} {c m : Mm} (h : Rel n c m) (x1 x2 x3 : Int32) : Sim n (f_X11_path x1 x2 x3 c) (f_X12_path x1 x2 x3 m) := by
  have hW := h.1
  have hF := h.2.1
  unfold f_X11_path f_X12_path
  rcases points_both x1 x2 with ⟨e1, e2⟩ | ⟨a, b, ha, hb, hab, rfl, rfl, e1, e2⟩
  · rw [e1, e2]
    exact Sim.ret rfl h.next
  rw [e1, e2, op_v, op_v, if_neg (show ¬ (1 : Int32) = 0 by decide), if_neg (show ¬ (1 : Int32) = 0 by decide), isWithin_eq, in_m1_15, op_v, op_v]
  by_cases h3 : wi x3 (-1) 15 = 0
  · rw [if_pos h3, if_pos h3]; exact Sim.ret rfl h.next
  rw [if_neg h3, if_neg h3]
  obtain ⟨t, ht, rfl⟩ := wi_m1_15 h3
  unfold f_X2_join
  rw [k_between hW ha hb, op_v, nI_min ha hb, nI_max ha hb, og_in _ (by omega) (by omega), og_in _ (by omega) (by omega), nI_clamp (by omega), nI_clamp (by omega)]
  have e5 : ∀ a b : Nat, (117 : Int32) + 8 * nI a + nI b = nI (117 + 8 * a + b) := fun a b => by
    rw [show (117 : Int32) = nI 117 from rfl, show (8 : Int32) = nI 8 from rfl, pk_mul, nI_add, nI_add]
  rw [e5, e5, m_changed m (j := 117 + 8 * a + b) (by omega), ob_v, og_in _ (by omega) (by omega), nI_clamp (by omega), mw_v, mw_v, ob_v]
  refine Sim.ret rfl (h.now (fun d hd => ?_) (fun d hd => ?_) ?_ ?_)
  · rw [mm_up_ne _ _ _ (by omega)]
  · rw [mm_up_ne _ _ _ hd, mm_up_ne _ _ _ hd]
  · rw [mm_up_eq, mm_up_eq]
    exact up_path hW ha hb hab _
  · rw [mm_up_eq, mm_up_eq]
    exact uf_path hF ha hb hab ht
/-! ways unseen, counted up -/
def eN (N : Nat → Int32) (u v : Nat) : Nat := if N (117 + 8 * u + v) = -1 then 0 else 16 - (N (117 + 8 * u + v)).toNatClampNeg
def mxN (f : Nat → Nat) : Nat → Nat
  | 0 => 0
  | n + 1 => if mxN f n < f n then f n else mxN f n
theorem mxN_le {f : Nat → Nat} {B : Nat} : ∀ n, (∀ k, k < n → f k ≤ B) → mxN f n ≤ B
  | 0, _ => Nat.zero_le _
  | n + 1, h => by
    unfold mxN
    have h1 := mxN_le n (fun k hk => h k (by omega))
    have h2 := h n (by omega)
    split <;> omega
theorem mxN_mul (f : Nat → Nat) {s : Nat} (hs : 0 < s) : ∀ n, mxN (fun k => f k * s) n = mxN f n * s
  | 0 => (Nat.zero_mul s).symm
  | n + 1 => by
    unfold mxN
    rw [mxN_mul f hs n]
    by_cases h : mxN f n < f n
    · rw [if_pos h, if_pos (Nat.mul_lt_mul_of_pos_right h hs)]
    · rw [if_neg h, if_neg (by
        intro q
        exact h (Nat.lt_of_mul_lt_mul_right q))]
theorem mxN_congr {f g : Nat → Nat} : ∀ n, (∀ k, k < n → f k = g k) → mxN f n = mxN g n
  | 0, _ => rfl
  | n + 1, h => by
    unfold mxN
    rw [mxN_congr n (fun k hk => h k (by omega)), h n (by omega)]
def come (N : Nat → Int32) (fr : Nat) : Nat → Nat → Nat
  | 0, v => if v = fr then 1 else 0
  | n + 1, v => mxN (fun u => come N fr n u * eN N u v) 8
theorem eN_le (N : Nat → Int32) (u v : Nat) : eN N u v ≤ 16 := by
  unfold eN
  split <;> omega
theorem come_le (N : Nat → Int32) (fr : Nat) : ∀ n v, come N fr n v ≤ 16 ^ n
  | 0, v => by
    unfold come
    split <;> omega
  | n + 1, v => by
    unfold come
    refine mxN_le 8 (fun u _ => ?_)
    rw [Nat.pow_succ]
    exact Nat.mul_le_mul (come_le N fr n u) (eN_le N u v)
def ufN (N : Nat → Int32) (fr to : Nat) : Nat → Nat × Nat
  | 0 => (0, 0)
  | n + 1 => if (ufN N fr to n).1 < come N fr (n + 1) to * 16 ^ (6 - n) then (come N fr (n + 1) to * 16 ^ (6 - n), n + 1) else ufN N fr to n
theorem p16 {n : Nat} (h : n ≤ 7) : 16 ^ n * 16 ^ (7 - n) = 268435456 := by
  rw [← Nat.pow_add, show n + (7 - n) = 7 by omega]
theorem come_b (N : Nat → Int32) (fr : Nat) {n : Nat} (h : n ≤ 7) (v : Nat) : come N fr n v * 16 ^ (7 - n) ≤ 268435456 := by
  rw [← p16 h]
  exact Nat.mul_le_mul_right _ (come_le N fr n v)
theorem ufN_b (N : Nat → Int32) (fr to : Nat) : ∀ n, n ≤ 7 → (ufN N fr to n).1 ≤ 268435456 ∧ (ufN N fr to n).2 ≤ n
  | 0, _ => ⟨Nat.zero_le _, Nat.le_refl _⟩
  | n + 1, h => by
    obtain ⟨h1, h2⟩ := ufN_b N fr to n (by omega)
    have h3 := come_b N fr h to
    unfold ufN
    rw [show 7 - (n + 1) = 6 - n by omega] at h3
    split
    · exact ⟨h3, Nat.le_refl _⟩
    · exact ⟨h1, by omega⟩
theorem k_best_c4 {g : Mm} {N : Nat → Int32} (hW : WR g 1 N) (hF : WF N) {n fr v : Nat} (hn : n ≤ 6) (hv : v < 8) (hr : ∀ u, u < 8 → g 36 u = nI (come N fr n u * 16 ^ (7 - n))) : ∀ (d u f : Nat), u + d = 8 → d < f → f_X2_bestInto_c4 26 (nI v) f (nI (mxN (fun u => come N fr n u * eN N u v * 16 ^ (6 - n)) u)) (nI u) g = some (nI (mxN (fun u => come N fr n u * eN N u v * 16 ^ (6 - n)) 8)) := by
  intro d
  induction d with
  | zero =>
    intro u f hi hf
    obtain ⟨f, rfl⟩ := Nat.exists_eq_succ_of_ne_zero (show f ≠ 0 by omega)
    have e : u = 8 := by omega
    subst e
    rw [f_X2_bestInto_c4, if_pos (by decide)]
  | succ d ih =>
    intro u f hi hf
    obtain ⟨f, rfl⟩ := Nat.exists_eq_succ_of_ne_zero (show f ≠ 0 by omega)
    have hu : u < 8 := by omega
    rw [f_X2_bestInto_c4, if_neg (show ¬ (8 : Int32) ≤ nI u from nI_ge (b := 8) (a := u) hu (by omega)), k_between hW hu hv, op_v]
    have ih := ih (u + 1) f (by omega) (by omega)
    rw [← ih]
    have hbig : ∀ u, come N fr n u * eN N u v * 16 ^ (6 - n) ≤ 268435456 := fun u => by
      have h1 := come_b N fr (show n ≤ 7 by omega) u
      have h2 := eN_le N u v
      have h3 : come N fr n u * eN N u v * 16 ^ (6 - n) ≤ come N fr n u * 16 * 16 ^ (6 - n) := Nat.mul_le_mul_right _ (Nat.mul_le_mul_left _ h2)
      have h4 : come N fr n u * 16 * 16 ^ (6 - n) = come N fr n u * 16 ^ (7 - n) := by
        rw [Nat.mul_assoc, ← Nat.pow_succ', show (6 - n).succ = 7 - n by omega]
      omega
    have hmx := mxN_le (f := fun u => come N fr n u * eN N u v * 16 ^ (6 - n)) u (fun k _ => hbig k)
    show _ = f_X2_bestInto_c4 26 (nI v) f (nI (if mxN (fun u => come N fr n u * eN N u v * 16 ^ (6 - n)) u < come N fr n u * eN N u v * 16 ^ (6 - n) then _ else _)) (nI (u + 1)) g
    rcases (wf_path hF hu hv).1 with e | ⟨s, hs, e, -⟩
    · have e0 : eN N u v = 0 := if_pos e
      rw [e, if_pos rfl, mv_v, nI_1, e0, Nat.mul_zero, Nat.zero_mul, if_neg (by omega)]
    · have e0 : eN N u v = 16 - s := by
        unfold eN
        rw [e, if_neg (nI_nm1 (by omega)), nI_clamp (by omega)]
      have hb := come_b N fr (show n ≤ 7 by omega) u
      rw [e, if_neg (nI_nm1 (by omega)), og_in _ (by omega) (by omega), mv_v, mv_v, nI_1, nI_clamp (by omega), show g (26 + 10) u = g 36 u from rfl, hr u hu, show (16 : Int32) - nI s = nI (16 - s) from pk_sub (a := 16) (by omega), show nI (come N fr n u * 16 ^ (7 - n)) / 16 = nI (come N fr n u * 16 ^ (7 - n) / 16) from pk_div (d := 16) (by omega) (by omega) (by omega)]
      have e1 : come N fr n u * 16 ^ (7 - n) / 16 * (16 - s) = come N fr n u * eN N u v * 16 ^ (6 - n) := by
        rw [e0, show 7 - n = (6 - n) + 1 by omega, Nat.pow_succ, ← Nat.mul_assoc, Nat.mul_div_cancel _ (by omega), Nat.mul_assoc, Nat.mul_assoc, Nat.mul_comm (16 ^ (6 - n))]
      rw [pk_mul, e1]
      have hb2 := hbig u
      simp (disch := omega) only [nI_ltI]
      by_cases h : mxN (fun u => come N fr n u * eN N u v * 16 ^ (6 - n)) u < come N fr n u * eN N u v * 16 ^ (6 - n)
      · rw [if_pos h, if_pos h]
      · rw [if_neg h, if_neg h]
theorem k_best {g : Mm} {N : Nat → Int32} (hW : WR g 1 N) (hF : WF N) {n fr v : Nat} (hn : n ≤ 6) (hv : v < 8) (hr : ∀ u, u < 8 → g 36 u = nI (come N fr n u * 16 ^ (7 - n))) : f_X2_bestInto 26 (nI v) g = some (nI (come N fr (n + 1) v * 16 ^ (6 - n))) := by
  unfold f_X2_bestInto
  refine (k_best_c4 hW hF hn hv hr 8 0 FU (by omega) (fu_lt (by omega))).trans ?_
  have := mxN_mul (fun u => come N fr n u * eN N u v) (s := 16 ^ (6 - n)) (Nat.pow_pos (by omega)) 8
  exact congrArg (fun z => some (nI z)) this
theorem wr_scr2 {g g' : Mm} {N : Nat → Int32} (hW : WR g 1 N) (h1 : ∀ a, a ≠ 26 → a ≠ 36 → a ≠ 37 → g' a = g a) : WR g' 1 N := by
  refine hW.kept (fun j hj => ?_)
  have hw := of_decide_eq_true (List.all_eq_true.mp w_all0 j (List.mem_range.mpr hj))
  generalize wP j = P at hw ⊢
  generalize wL j = S at hw ⊢
  rw [h1 _ (by omega) (by omega) (by omega)]
theorem k_search_c37 {N : Nat → Int32} (hF : WF N) {n fr to : Nat} (hn : n ≤ 6) (hto : to < 8) (K : Int32 → Mm → Option (Int32 × Mm)) (g0 : Mm) (hW : WR g0 1 N) : ∀ (d v f : Nat) (g : Mm), v + d = 8 → d < f → (∀ a, a ≠ 26 → a ≠ 36 → a ≠ 37 → g a = g0 a) → (∀ u, u < 8 → g 36 u = nI (come N fr n u * 16 ^ (7 - n))) → (∀ u, u < v → g 37 u = nI (come N fr (n + 1) u * 16 ^ (6 - n))) → g 26 3 = nI (ufN N fr to n).1 → g 26 4 = nI (ufN N fr to n).2 →
    ∃ g', f_X2_search_c37 K 26 (nI to) f (nI (n + 1)) (nI v) g = K (nI (n + 2)) g' ∧ (∀ a, a ≠ 26 → a ≠ 36 → a ≠ 37 → g' a = g0 a) ∧ (∀ u, u < 8 → g' 36 u = nI (come N fr (n + 1) u * 16 ^ (6 - n))) ∧ g' 26 3 = nI (ufN N fr to (n + 1)).1 ∧ g' 26 4 = nI (ufN N fr to (n + 1)).2 := by
  intro d
  induction d with
  | zero =>
    intro v f g hi hf h1 h2 h3 h4 h5
    obtain ⟨f, rfl⟩ := Nat.exists_eq_succ_of_ne_zero (show f ≠ 0 by omega)
    have e : v = 8 := by omega
    subst e
    rw [f_X2_search_c37, if_pos (by decide), mr_v, show (0 : Int32).toNatClampNeg = 0 from rfl, show (8 : Int32).toNatClampNeg = 8 from rfl, og_in _ hto (by omega), nI_clamp (by omega)]
    have r36 : ∀ u, u < 8 → mm_row g (26 + 10) (va_cpy (g (26 + 11)) (g (26 + 10)) 0 0 8) 36 u = nI (come N fr (n + 1) u * 16 ^ (6 - n)) := fun u hu => by
      rw [mm_row_at, cp0_lt hu]
      exact h3 u hu
    have r26 : mm_row g (26 + 10) (va_cpy (g (26 + 11)) (g (26 + 10)) 0 0 8) 26 = g 26 := mm_row_ne _ _ (by omega)
    have hb := come_b N fr (show n + 1 ≤ 7 by omega) to
    rw [show 7 - (n + 1) = 6 - n by omega] at hb
    have hb2 := (ufN_b N fr to n (by omega)).1
    rw [show (26 + 10 : Nat) = 36 from rfl] at r36 ⊢
    rw [r36 to hto, show (26 + 11 : Nat) = 37 from rfl]
    rw [show mm_row g 36 (va_cpy (g 37) (g 36) 0 0 8) 26 = g 26 from r26, h4]
    simp (disch := omega) only [nI_leI, mv_v, mw_v, og_in, nI_1]
    have un : ufN N fr to (n + 1) = if (ufN N fr to n).1 < come N fr (n + 1) to * 16 ^ (6 - n) then (come N fr (n + 1) to * 16 ^ (6 - n), n + 1) else ufN N fr to n := rfl
    by_cases h6 : come N fr (n + 1) to * 16 ^ (6 - n) ≤ (ufN N fr to n).1
    · rw [if_pos h6]
      rw [if_neg (by omega)] at un
      refine ⟨_, rfl, fun a ha hb hc => ?_, r36, ?_, ?_⟩
      · rw [mm_row_ne _ _ hb]
        exact h1 a ha hb hc
      · rw [un]
        exact (congrFun r26 3).trans h4
      · rw [un]
        exact (congrFun r26 4).trans h5
    · rw [if_neg h6]
      rw [if_pos (by omega)] at un
      refine ⟨_, rfl, fun a ha hb hc => ?_, fun u hu => ?_, ?_, ?_⟩
      · rw [mm_up_ne _ _ _ ha, mm_up_ne _ _ _ ha, mm_row_ne _ _ hb]
        exact h1 a ha hb hc
      · rw [mm_up_ne _ _ _ (by omega), mm_up_ne _ _ _ (by omega)]
        exact r36 u hu
      · rw [mm_up_eq, upd_ne _ _ (by omega), mm_up_eq, upd_eq, un]
      · rw [mm_up_eq, upd_eq, un]
  | succ d ih =>
    intro v f g hi hf h1 h2 h3 h4 h5
    obtain ⟨f, rfl⟩ := Nat.exists_eq_succ_of_ne_zero (show f ≠ 0 by omega)
    rw [f_X2_search_c37, if_neg (show ¬ (8 : Int32) ≤ nI v from nI_ge (b := 8) (a := v) (by omega) (by omega)), k_best (wr_scr2 hW h1) hF hn (by omega) h2, op_v, og_in _ (by omega) (by omega), mw_v, mv_v, nI_1, nI_clamp (by omega)]
    refine ih (v + 1) f _ (by omega) (by omega) (fun a ha hb hc => by rw [mm_up_ne _ _ _ hc]; exact h1 a ha hb hc) (fun u hu => by rw [mm_up_ne _ _ _ (by omega)]; exact h2 u hu) (fun u hu => ?_) (by rw [mm_up_ne _ _ _ (by omega)]; exact h4) (by rw [mm_up_ne _ _ _ (by omega)]; exact h5)
    rw [show (26 + 11 : Nat) = 37 from rfl, mm_up_eq]
    by_cases e : u = v
    · subst e
      rw [upd_eq]
    · rw [upd_ne _ _ e]
      exact h3 u (by omega)
theorem k_search_c28 {N : Nat → Int32} (hF : WF N) {fr to : Nat} (hto : to < 8) (g0 : Mm) (hW : WR g0 1 N) : ∀ (d n f : Nat) (g : Mm), n + d = 7 → d < f → (∀ a, a ≠ 26 → a ≠ 36 → a ≠ 37 → g a = g0 a) → (∀ u, u < 8 → g 36 u = nI (come N fr n u * 16 ^ (7 - n))) → g 26 3 = nI (ufN N fr to n).1 → g 26 4 = nI (ufN N fr to n).2 →
    ∃ g', f_X2_search_c28 26 (nI to) f (nI (n + 1)) g = some (if (ufN N fr to 7).1 = 0 then 0 else 1, g') ∧ (∀ a, a ≠ 26 → a ≠ 36 → a ≠ 37 → g' a = g0 a) ∧ g' 26 3 = nI (ufN N fr to 7).1 ∧ g' 26 4 = nI (ufN N fr to 7).2 := by
  intro d
  induction d with
  | zero =>
    intro n f g hi hf h1 h2 h4 h5
    obtain ⟨f, rfl⟩ := Nat.exists_eq_succ_of_ne_zero (show f ≠ 0 by omega)
    have e : n = 7 := by omega
    subst e
    have hb2 := (ufN_b N fr to 7 (by omega)).1
    rw [f_X2_search_c28, if_pos (by decide), h4]
    refine ⟨g, ?_, h1, h4, h5⟩
    by_cases e : (ufN N fr to 7).1 = 0
    · rw [e]; rfl
    · rw [if_neg e, if_neg (nI_nle (by omega) (by omega))]
  | succ d ih =>
    intro n f g hi hf h1 h2 h4 h5
    obtain ⟨f, rfl⟩ := Nat.exists_eq_succ_of_ne_zero (show f ≠ 0 by omega)
    rw [f_X2_search_c28, if_neg (show ¬ (7 : Int32) < nI (n + 1) from nI_nlt (a := 7) (b := n + 1) (by omega) (by omega))]
    obtain ⟨g1, a1, a2, a3, a4, a5⟩ := k_search_c37 hF (show n ≤ 6 by omega) hto (f_X2_search_c28 26 (nI to) f) g0 hW 8 0 FU g (by omega) (fu_lt (by omega)) h1 h2 (fun u hu => by omega) h4 h5
    rw [show (0 : Int32) = nI 0 from rfl, a1]
    exact ih (n + 1) f g1 (by omega) (by omega) a2 (fun u hu => by rw [show 7 - (n + 1) = 6 - n by omega]; exact a3 u hu) a4 a5
theorem k_search {c : Mm} {N : Nat → Int32} (hW : WR c 1 N) (hF : WF N) {fr to : Nat} (hfr : fr < 8) (hto : to < 8) : ∃ g', f_X2_search 26 (nI fr) (nI to) c = some (if (ufN N fr to 7).1 = 0 then 0 else 1, g') ∧ (∀ a, a ≠ 26 → a ≠ 36 → a ≠ 37 → g' a = c a) ∧ g' 26 3 = nI (ufN N fr to 7).1 ∧ g' 26 4 = nI (ufN N fr to 7).2 := by
  unfold f_X2_search
  rw [mw_v, mw_v, mr_v, og_in _ hfr (by omega), mw_v, nI_clamp (by omega)]
  have hc : ∀ a, a ≠ 26 → a ≠ 36 → a ≠ 37 → mm_up (mm_row (mm_up (mm_up c 26 3 0) 26 4 0) (26 + 10) (mm_fl 0 (mm_up (mm_up c 26 3 0) 26 4 0 (26 + 10)) 8)) (26 + 10) fr 268435456 a = c a := fun a ha hb hc => by
    rw [mm_up_ne _ _ _ hb, mm_row_ne _ _ hb, mm_up_ne _ _ _ ha, mm_up_ne _ _ _ ha]
  refine k_search_c28 hF hto c hW 7 0 FU _ (by omega) (fu_lt (by omega)) hc (fun u hu => ?_) ?_ ?_
  · rw [show (26 + 10 : Nat) = 36 from rfl, mm_up_eq]
    unfold come
    by_cases e : u = fr
    · subst e
      rw [upd_eq, if_pos rfl]
      rfl
    · rw [upd_ne _ _ e, mm_row_at, if_neg e, Nat.zero_mul]
      exact if_pos hu
  · rw [mm_up_ne _ _ _ (by omega), mm_row_ne _ _ (by omega), mm_up_eq, upd_ne _ _ (by omega), mm_up_eq, upd_eq]
    rfl
  · rw [mm_up_ne _ _ _ (by omega), mm_row_ne _ _ (by omega), mm_up_eq, upd_eq]
    rfl
