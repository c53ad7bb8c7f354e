
def tP (N : Nat → Int32) (a b : Nat) : Nat := if N (117 + 8 * a + b) = -1 then 0 else 1
def rowP (N : Nat → Int32) (a b : Nat) : Nat := if a < b then tP N a b else 0
def tK (N : Nat → Int32) (k : Nat) : Nat := if 0 ≤ N (117 + k) then 1 else 0
theorem tK_eq {N : Nat → Int32} (hF : WF N) {a b : Nat} (ha : a < 8) (hb : b < 8) : tK N (8 * a + b) = tP N a b := by
  unfold tK tP
  rw [← Nat.add_assoc]
  rcases (wf_path hF ha hb).1 with e | ⟨s, hs, e, -⟩
  · rw [e, if_pos rfl, if_neg (by decide)]
  · rw [e, if_neg (nI_nm1 (by omega)), if_pos (nI_pos' (by omega))]
set_option maxRecDepth 10000 in
theorem pairs_sum (t : Nat → Nat → Nat) (u : Nat → Nat) (hu : ∀ a b, a < 8 → b < 8 → u (8 * a + b) = t a b) (hs : ∀ a b, a < 8 → b < 8 → t a b = t b a) (hd : ∀ a, a < 8 → t a a = 0) : sumN u 64 = 2 * sumN (fun a => sumN (fun b => if a < b then t a b else 0) 8) 8 := by
  have s01 := hs 0 1 (by omega) (by omega)
  have s02 := hs 0 2 (by omega) (by omega)
  have s03 := hs 0 3 (by omega) (by omega)
  have s04 := hs 0 4 (by omega) (by omega)
  have s05 := hs 0 5 (by omega) (by omega)
  have s06 := hs 0 6 (by omega) (by omega)
  have s07 := hs 0 7 (by omega) (by omega)
  have s12 := hs 1 2 (by omega) (by omega)
  have s13 := hs 1 3 (by omega) (by omega)
  have s14 := hs 1 4 (by omega) (by omega)
  have s15 := hs 1 5 (by omega) (by omega)
  have s16 := hs 1 6 (by omega) (by omega)
  have s17 := hs 1 7 (by omega) (by omega)
  have s23 := hs 2 3 (by omega) (by omega)
  have s24 := hs 2 4 (by omega) (by omega)
  have s25 := hs 2 5 (by omega) (by omega)
  have s26 := hs 2 6 (by omega) (by omega)
  have s27 := hs 2 7 (by omega) (by omega)
  have s34 := hs 3 4 (by omega) (by omega)
  have s35 := hs 3 5 (by omega) (by omega)
  have s36 := hs 3 6 (by omega) (by omega)
  have s37 := hs 3 7 (by omega) (by omega)
  have s45 := hs 4 5 (by omega) (by omega)
  have s46 := hs 4 6 (by omega) (by omega)
  have s47 := hs 4 7 (by omega) (by omega)
  have s56 := hs 5 6 (by omega) (by omega)
  have s57 := hs 5 7 (by omega) (by omega)
  have s67 := hs 6 7 (by omega) (by omega)
  have d0 := hd 0 (by omega)
  have d1 := hd 1 (by omega)
  have d2 := hd 2 (by omega)
  have d3 := hd 3 (by omega)
  have d4 := hd 4 (by omega)
  have d5 := hd 5 (by omega)
  have d6 := hd 6 (by omega)
  have d7 := hd 7 (by omega)
  have u00 : u 0 = t 0 0 := hu 0 0 (by omega) (by omega)
  have u01 : u 1 = t 0 1 := hu 0 1 (by omega) (by omega)
  have u02 : u 2 = t 0 2 := hu 0 2 (by omega) (by omega)
  have u03 : u 3 = t 0 3 := hu 0 3 (by omega) (by omega)
  have u04 : u 4 = t 0 4 := hu 0 4 (by omega) (by omega)
  have u05 : u 5 = t 0 5 := hu 0 5 (by omega) (by omega)
  have u06 : u 6 = t 0 6 := hu 0 6 (by omega) (by omega)
  have u07 : u 7 = t 0 7 := hu 0 7 (by omega) (by omega)
  have u10 : u 8 = t 1 0 := hu 1 0 (by omega) (by omega)
  have u11 : u 9 = t 1 1 := hu 1 1 (by omega) (by omega)
  have u12 : u 10 = t 1 2 := hu 1 2 (by omega) (by omega)
  have u13 : u 11 = t 1 3 := hu 1 3 (by omega) (by omega)
  have u14 : u 12 = t 1 4 := hu 1 4 (by omega) (by omega)
  have u15 : u 13 = t 1 5 := hu 1 5 (by omega) (by omega)
  have u16 : u 14 = t 1 6 := hu 1 6 (by omega) (by omega)
  have u17 : u 15 = t 1 7 := hu 1 7 (by omega) (by omega)
  have u20 : u 16 = t 2 0 := hu 2 0 (by omega) (by omega)
  have u21 : u 17 = t 2 1 := hu 2 1 (by omega) (by omega)
  have u22 : u 18 = t 2 2 := hu 2 2 (by omega) (by omega)
  have u23 : u 19 = t 2 3 := hu 2 3 (by omega) (by omega)
  have u24 : u 20 = t 2 4 := hu 2 4 (by omega) (by omega)
  have u25 : u 21 = t 2 5 := hu 2 5 (by omega) (by omega)
  have u26 : u 22 = t 2 6 := hu 2 6 (by omega) (by omega)
  have u27 : u 23 = t 2 7 := hu 2 7 (by omega) (by omega)
  have u30 : u 24 = t 3 0 := hu 3 0 (by omega) (by omega)
  have u31 : u 25 = t 3 1 := hu 3 1 (by omega) (by omega)
  have u32 : u 26 = t 3 2 := hu 3 2 (by omega) (by omega)
  have u33 : u 27 = t 3 3 := hu 3 3 (by omega) (by omega)
  have u34 : u 28 = t 3 4 := hu 3 4 (by omega) (by omega)
  have u35 : u 29 = t 3 5 := hu 3 5 (by omega) (by omega)
  have u36 : u 30 = t 3 6 := hu 3 6 (by omega) (by omega)
  have u37 : u 31 = t 3 7 := hu 3 7 (by omega) (by omega)
  have u40 : u 32 = t 4 0 := hu 4 0 (by omega) (by omega)
  have u41 : u 33 = t 4 1 := hu 4 1 (by omega) (by omega)
  have u42 : u 34 = t 4 2 := hu 4 2 (by omega) (by omega)
  have u43 : u 35 = t 4 3 := hu 4 3 (by omega) (by omega)
  have u44 : u 36 = t 4 4 := hu 4 4 (by omega) (by omega)
  have u45 : u 37 = t 4 5 := hu 4 5 (by omega) (by omega)
  have u46 : u 38 = t 4 6 := hu 4 6 (by omega) (by omega)
  have u47 : u 39 = t 4 7 := hu 4 7 (by omega) (by omega)
  have u50 : u 40 = t 5 0 := hu 5 0 (by omega) (by omega)
  have u51 : u 41 = t 5 1 := hu 5 1 (by omega) (by omega)
  have u52 : u 42 = t 5 2 := hu 5 2 (by omega) (by omega)
  have u53 : u 43 = t 5 3 := hu 5 3 (by omega) (by omega)
  have u54 : u 44 = t 5 4 := hu 5 4 (by omega) (by omega)
  have u55 : u 45 = t 5 5 := hu 5 5 (by omega) (by omega)
  have u56 : u 46 = t 5 6 := hu 5 6 (by omega) (by omega)
  have u57 : u 47 = t 5 7 := hu 5 7 (by omega) (by omega)
  have u60 : u 48 = t 6 0 := hu 6 0 (by omega) (by omega)
  have u61 : u 49 = t 6 1 := hu 6 1 (by omega) (by omega)
  have u62 : u 50 = t 6 2 := hu 6 2 (by omega) (by omega)
  have u63 : u 51 = t 6 3 := hu 6 3 (by omega) (by omega)
  have u64 : u 52 = t 6 4 := hu 6 4 (by omega) (by omega)
  have u65 : u 53 = t 6 5 := hu 6 5 (by omega) (by omega)
  have u66 : u 54 = t 6 6 := hu 6 6 (by omega) (by omega)
  have u67 : u 55 = t 6 7 := hu 6 7 (by omega) (by omega)
  have u70 : u 56 = t 7 0 := hu 7 0 (by omega) (by omega)
  have u71 : u 57 = t 7 1 := hu 7 1 (by omega) (by omega)
  have u72 : u 58 = t 7 2 := hu 7 2 (by omega) (by omega)
  have u73 : u 59 = t 7 3 := hu 7 3 (by omega) (by omega)
  have u74 : u 60 = t 7 4 := hu 7 4 (by omega) (by omega)
  have u75 : u 61 = t 7 5 := hu 7 5 (by omega) (by omega)
  have u76 : u 62 = t 7 6 := hu 7 6 (by omega) (by omega)
  have u77 : u 63 = t 7 7 := hu 7 7 (by omega) (by omega)
  have e1 : sumN u 64 = u 0 + u 1 + u 2 + u 3 + u 4 + u 5 + u 6 + u 7 + u 8 + u 9 + u 10 + u 11 + u 12 + u 13 + u 14 + u 15 + u 16 + u 17 + u 18 + u 19 + u 20 + u 21 + u 22 + u 23 + u 24 + u 25 + u 26 + u 27 + u 28 + u 29 + u 30 + u 31 + u 32 + u 33 + u 34 + u 35 + u 36 + u 37 + u 38 + u 39 + u 40 + u 41 + u 42 + u 43 + u 44 + u 45 + u 46 + u 47 + u 48 + u 49 + u 50 + u 51 + u 52 + u 53 + u 54 + u 55 + u 56 + u 57 + u 58 + u 59 + u 60 + u 61 + u 62 + u 63 := by
    simp only [sumN, Nat.zero_add]
  have e2 : sumN (fun a => sumN (fun b => if a < b then t a b else 0) 8) 8 = t 0 1 + t 0 2 + t 0 3 + t 0 4 + t 0 5 + t 0 6 + t 0 7 + t 1 2 + t 1 3 + t 1 4 + t 1 5 + t 1 6 + t 1 7 + t 2 3 + t 2 4 + t 2 5 + t 2 6 + t 2 7 + t 3 4 + t 3 5 + t 3 6 + t 3 7 + t 4 5 + t 4 6 + t 4 7 + t 5 6 + t 5 7 + t 6 7 := by
    simp [sumN]
    omega
  omega
def stN (N : Nat → Int32) (x : Nat) : Nat := (N (79 + x)).toNatClampNeg
def slN (N : Nat → Int32) (x : Nat) : Nat := (N (63 + x)).toNatClampNeg
theorem k_stamped_c4 {c : Mm} {N : Nat → Int32} (hW : WR c 1 N) (hF : WF N) {ns : Nat} (hns : ns ≤ 16) (ens : N 1 = nI ns) : ∀ (d i f : Nat), i + d = ns → d < f → f_X10_stampedShoes_c4 1 f (nI (sumN (stN N) i)) (nI i) c = some (nI (sumN (stN N) ns)) := by
  intro d
  induction d with
  | zero =>
    intro i f hi hf
    obtain ⟨f, rfl⟩ := Nat.exists_eq_succ_of_ne_zero (show f ≠ 0 by omega)
    have e : i = ns := by omega
    subst e
    rw [f_X10_stampedShoes_c4, wr_ns hW, ens, if_pos (Int32.le_refl _)]
  | succ d ih =>
    intro i f hi hf
    obtain ⟨f, rfl⟩ := Nat.exists_eq_succ_of_ne_zero (show f ≠ 0 by omega)
    rw [f_X10_stampedShoes_c4]
    have ih := ih (i + 1) f (by omega) (by omega)
    rw [← ih, sumN_s]
    obtain ⟨v, hv, ev⟩ := wf_stamp hF (show i < 16 by omega)
    have e : stN N i = v := by
      unfold stN
      rw [ev, nI_clamp (by omega)]
    rw [e]
    simp (disch := omega) only [mv_v, og_in, nI_clamp, Nat.reduceAdd, wr_ns hW, ens, nI_leI, if_neg (show ¬ ns ≤ i by omega), wr_stamp hW, ev, nI_1]
    rcases (show v = 0 ∨ v = 1 by omega) with rfl | rfl
    · rw [if_pos (show nI 0 = (0 : Int32) from rfl)]
      rfl
    · rw [if_neg (show ¬ nI 1 = (0 : Int32) by decide)]
theorem k_soles_c4 {c : Mm} {N : Nat → Int32} (hW : WR c 1 N) (hF : WF N) {ns : Nat} (hns : ns ≤ 16) (ens : N 1 = nI ns) : ∀ (d i f : Nat), i + d = ns → d < f → f_X10_solesOfAll_c4 1 f (nI (sumN (slN N) i)) (nI i) c = some (nI (sumN (slN N) ns)) := by
  intro d
  induction d with
  | zero =>
    intro i f hi hf
    obtain ⟨f, rfl⟩ := Nat.exists_eq_succ_of_ne_zero (show f ≠ 0 by omega)
    have e : i = ns := by omega
    subst e
    rw [f_X10_solesOfAll_c4, wr_ns hW, ens, if_pos (Int32.le_refl _)]
  | succ d ih =>
    intro i f hi hf
    obtain ⟨f, rfl⟩ := Nat.exists_eq_succ_of_ne_zero (show f ≠ 0 by omega)
    rw [f_X10_solesOfAll_c4]
    have ih := ih (i + 1) f (by omega) (by omega)
    rw [← ih, sumN_s]
    obtain ⟨v, hv, ev⟩ := wf_soles hF (show i < 16 by omega)
    have e : slN N i = v := by
      unfold slN
      rw [ev, nI_clamp (by omega)]
    rw [e]
    simp (disch := omega) only [mv_v, og_in, nI_clamp, Nat.reduceAdd, wr_ns hW, ens, nI_leI, if_neg (show ¬ ns ≤ i by omega), wr_soles hW, ev, nI_1, nI_add]
theorem rowP_low (N : Nat → Int32) (a : Nat) : sumN (rowP N a) (a + 1) = 0 := sumN_zero _ (fun k hk => if_neg (by omega))
theorem k_joined_c14 {c : Mm} {N : Nat → Int32} (hW : WR c 1 N) (K : Int32 → Int32 → Mm → Option Int32) {a : Nat} (ha : a < 8) (s : Nat) : ∀ (d b f : Nat), b + d = 8 → a < b → d < f → f_X2_joined_c14 K 26 f (nI (s + sumN (rowP N a) b)) (nI a) (nI b) c = K (nI (s + sumN (rowP N a) 8)) (nI (a + 1)) c := by
  intro d
  induction d with
  | zero =>
    intro b f hi _ hf
    obtain ⟨f, rfl⟩ := Nat.exists_eq_succ_of_ne_zero (show f ≠ 0 by omega)
    have e : b = 8 := by omega
    subst e
    rw [f_X2_joined_c14, if_pos (by decide), mv_v, nI_1]
  | succ d ih =>
    intro b f hi hab hf
    obtain ⟨f, rfl⟩ := Nat.exists_eq_succ_of_ne_zero (show f ≠ 0 by omega)
    rw [f_X2_joined_c14, if_neg (show ¬ (8 : Int32) ≤ nI b from nI_ge (b := 8) (a := b) (by omega) (by omega)), k_between hW ha (by omega), op_v]
    have ih := ih (b + 1) f (by omega) (by omega) (by omega)
    rw [← ih, sumN_s, mv_v, mv_v, mv_v, nI_1, nI_1]
    have e : rowP N a b = tP N a b := if_pos hab
    rw [e]
    unfold tP
    split
    · rfl
    · rfl
theorem k_joined_c4 {c : Mm} {N : Nat → Int32} (hW : WR c 1 N) : ∀ (d a f : Nat), a + d = 8 → d < f → f_X2_joined_c4 26 f (nI (sumN (fun a => sumN (rowP N a) 8) a)) (nI a) c = some (nI (sumN (fun a => sumN (rowP N a) 8) 8)) := by
  intro d
  induction d with
  | zero =>
    intro i f hi hf
    obtain ⟨f, rfl⟩ := Nat.exists_eq_succ_of_ne_zero (show f ≠ 0 by omega)
    have e : i = 8 := by omega
    subst e
    rw [f_X2_joined_c4, if_pos (by decide)]
  | succ d ih =>
    intro a f hi hf
    obtain ⟨f, rfl⟩ := Nat.exists_eq_succ_of_ne_zero (show f ≠ 0 by omega)
    rw [f_X2_joined_c4, if_neg (show ¬ (8 : Int32) ≤ nI a from nI_ge (b := 8) (a := a) (by omega) (by omega)), mv_v, nI_1]
    have ih := ih (a + 1) f (by omega) (by omega)
    rw [← ih, sumN_s]
    have h0 := k_joined_c14 hW (f_X2_joined_c4 26 f) (a := a) (by omega) (sumN (fun a => sumN (rowP N a) 8) a) (7 - a) (a + 1) FU (by omega) (by omega) (fu_lt (by omega))
    rw [rowP_low, Nat.add_zero] at h0
    exact h0
theorem m_count_c70 {m : Mm} (x1 s t : Int32) : ∀ (d k f : Nat), k + d = 64 → d < f → f_X12_count_c70 x1 f s t (nI (sumN (tK (m 1)) k)) (nI k) m = some (if x1 = 0 then m 1 0 else if x1 = 1 then m 1 1 else if x1 = 2 then s else if x1 = 3 then t else if x1 = 4 then m 1 4 else nI (sumN (tK (m 1)) 64) / 2) := by
  intro d
  induction d with
  | zero =>
    intro i f hi hf
    obtain ⟨f, rfl⟩ := Nat.exists_eq_succ_of_ne_zero (show f ≠ 0 by omega)
    have e : i = 64 := by omega
    subst e
    rw [f_X12_count_c70, if_pos (by decide)]
    show _ = _
    split
    · rfl
    split
    · rfl
    split
    · rfl
    split
    · rfl
    split
    · rfl
    · rfl
  | succ d ih =>
    intro i f hi hf
    obtain ⟨f, rfl⟩ := Nat.exists_eq_succ_of_ne_zero (show f ≠ 0 by omega)
    rw [f_X12_count_c70, if_neg (show ¬ (64 : Int32) ≤ nI i from nI_ge (b := 64) (a := i) (by omega) (by omega)), show (117 : Int32) + nI i = nI (117 + i) from nI_add 117 i, og_in _ (by omega) (by omega), nI_clamp (by omega)]
    have ih := ih (i + 1) f (by omega) (by omega)
    rw [← ih, sumN_s]
    simp only [mv_v, nI_1, nI_p0]
    unfold tK
    by_cases h : 0 ≤ m 1 (117 + i)
    · rw [if_pos h, if_pos h]
    · rw [if_neg h, if_neg h]
theorem m_count_c21 {m : Mm} (hF : WF (m 1)) {ns : Nat} (hns : ns ≤ 16) (ens : m 1 1 = nI ns) (x1 : Int32) : ∀ (d i f : Nat), i + d = ns → d < f → f_X12_count_c21 x1 f (nI (sumN (stN (m 1)) i)) (nI (sumN (slN (m 1)) i)) (nI i) m = f_X12_count_c70 x1 FU (nI (sumN (stN (m 1)) ns)) (nI (sumN (slN (m 1)) ns)) 0 0 m := by
  intro d
  induction d with
  | zero =>
    intro i f hi hf
    obtain ⟨f, rfl⟩ := Nat.exists_eq_succ_of_ne_zero (show f ≠ 0 by omega)
    have e : i = ns := by omega
    subst e
    rw [f_X12_count_c21, show (1 : Int32).toNatClampNeg = 1 from rfl, ens, if_pos (Int32.le_refl _)]
  | succ d ih =>
    intro i f hi hf
    obtain ⟨f, rfl⟩ := Nat.exists_eq_succ_of_ne_zero (show f ≠ 0 by omega)
    rw [f_X12_count_c21, show (1 : Int32).toNatClampNeg = 1 from rfl, ens]
    have ih := ih (i + 1) f (by omega) (by omega)
    rw [← ih, sumN_s, sumN_s]
    obtain ⟨v, hv, ev⟩ := wf_soles hF (show i < 16 by omega)
    obtain ⟨w, hw, ew⟩ := wf_stamp hF (show i < 16 by omega)
    have e : slN (m 1) i = v := by
      unfold slN
      rw [ev, nI_clamp (by omega)]
    have e' : stN (m 1) i = w := by
      unfold stN
      rw [ew, nI_clamp (by omega)]
    rw [e, e']
    simp (disch := omega) only [mv_v, show (63 : Int32) = nI 63 from rfl, show (79 : Int32) = nI 79 from rfl, nI_add, og_in, nI_clamp, nI_leI, if_neg (show ¬ ns ≤ i by omega), ev, ew, nI_1]
theorem sim_count {n : Nat} {c m : Mm} (h : Rel n c m) (x1 : Int32) : SimP (f_X11_count x1 c) (f_X12_count x1 m) := by
  have hW := h.1
  have hF := h.2.1
  obtain ⟨ns, hns, ens⟩ := wf_ns hF
  unfold f_X11_count f_X12_count f_X10_stampedShoes f_X10_solesOfAll f_X2_joined
  rw [in_0_5, op_v, show f_X10_stampedShoes_c4 1 FU 0 0 c = _ from k_stamped_c4 hW hF hns ens ns 0 FU (by omega) (fu_lt (by omega)), show f_X10_solesOfAll_c4 1 FU 0 0 c = _ from k_soles_c4 hW hF hns ens ns 0 FU (by omega) (fu_lt (by omega)), show f_X2_joined_c4 26 FU 0 0 c = _ from k_joined_c4 hW 8 0 FU (by omega) (fu_lt (by omega)), op_v, op_v, op_v]
  by_cases h2 : wi x1 0 5 = 0
  · rw [if_pos h2, if_neg (show ¬ x1 = 0 from wi_out (b := 5) h2 (by omega) 0 (by omega)), if_neg (show ¬ x1 = 1 from wi_out (b := 5) h2 (by omega) 1 (by omega)), if_neg (show ¬ x1 = 2 from wi_out (b := 5) h2 (by omega) 2 (by omega)), if_neg (show ¬ x1 = 3 from wi_out (b := 5) h2 (by omega) 3 (by omega)), if_neg (show ¬ x1 = 4 from wi_out (b := 5) h2 (by omega) 4 (by omega)), if_neg (show ¬ x1 = 5 from wi_out (b := 5) h2 (by omega) 5 (by omega))]
    exact SimP.ret rfl
  rw [if_neg h2]
  obtain ⟨j, hj, rfl⟩ := wi_nz (b := 5) (by omega) h2
  rw [show f_X12_count_c21 (nI j) FU 0 0 0 m = _ from m_count_c21 hF hns ens (nI j) ns 0 FU (by omega) (fu_lt (by omega)), show f_X12_count_c70 (nI j) FU (nI (sumN (stN (m 1)) ns)) (nI (sumN (slN (m 1)) ns)) 0 0 m = _ from m_count_c70 (nI j) _ _ 64 0 FU (by omega) (fu_lt (by omega))]
  have hp : nI (sumN (tK (m 1)) 64) / 2 = nI (sumN (fun a => sumN (rowP (m 1) a) 8) 8) := by
    have e := pairs_sum (tP (m 1)) (tK (m 1)) (fun a b ha hb => tK_eq hF ha hb) (fun a b ha hb => by
      unfold tP
      rw [(wf_path hF ha hb).2]) (fun a ha => by
      unfold tP
      rcases (wf_path hF ha ha).1 with e | ⟨s, hs, e, q⟩
      · exact if_pos e
      · exact absurd rfl q)
    have e2 : sumN (tK (m 1)) 64 = 2 * sumN (fun a => sumN (rowP (m 1) a) 8) 8 := e
    have b1 : sumN (tK (m 1)) 64 ≤ 64 * 1 := sumN_le 64 (fun k _ => by
      unfold tK
      split <;> omega)
    rw [show (2 : Int32) = nI 2 from rfl, pk_div (by omega) (by omega) (by omega), e2, Nat.mul_div_cancel_left _ (by omega)]
  rw [hp]
  rcases (show j = 0 ∨ j = 1 ∨ j = 2 ∨ j = 3 ∨ j = 4 ∨ j = 5 by omega) with rfl | rfl | rfl | rfl | rfl | rfl
  · exact SimP.ret (wr_np hW)
  · exact SimP.ret (wr_ns hW)
  · exact SimP.ret rfl
  · exact SimP.ret rfl
  · exact SimP.ret (wr_nb hW)
  · exact SimP.ret rfl
