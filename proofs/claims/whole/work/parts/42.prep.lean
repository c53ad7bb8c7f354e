/-! a search's tables are laid -/
def w3 (oa ob oc : Option Nat) (j : Nat) : Option Nat := if j = 0 then oa else if j = 1 then ob else oc
/-- the shoes worn, as the class keeps them -/
def RF (oa ob oc : Option Nat) (g : Mm) : Prop := ∀ j, j < 3 → g 91 j = mm_num ((w3 oa ob oc j).map (fun x => 5 + x))
theorem w3_lt {oa ob oc : Option Nat} (ha : ∀ x, oa = some x → x < 16) (hb : ∀ x, ob = some x → x < 16) (hc : ∀ x, oc = some x → x < 16) (j : Nat) : ∀ x, w3 oa ob oc j = some x → x < 16 := fun x => by
  unfold w3
  split
  · exact ha x
  · split
    · exact hb x
    · exact hc x
theorem fst_lt {oa ob : Option Nat} (ha : ∀ x, oa = some x → x < 16) (hb : ∀ x, ob = some x → x < 16) (g : Nat) : ∀ x, fst oa ob g = some x → x < 16 := fun x => by
  unfold fst
  split
  · exact ha x
  · split
    · intro q; exact absurd q (by simp)
    · exact hb x
theorem snd_lt {ob oc : Option Nat} (hb : ∀ x, ob = some x → x < 16) (hc : ∀ x, oc = some x → x < 16) (g : Nat) : ∀ x, snd ob oc g = some x → x < 16 := fun x => by
  unfold snd
  split
  · exact hb x
  · split
    · exact hc x
    · intro q; exact absurd q (by simp)
theorem code_num {o : Option Nat} (ho : ∀ x, o = some x → x < 16) : mm_code (mm_num (o.map (fun x => 5 + x))) = o.map (fun x => 5 + x) := by
  cases o with
  | none => exact mm_code_0
  | some x =>
    have := ho x rfl
    exact mm_code_nI (q := 5 + x) (by omega) (by omega)
theorem os_num {o : Option Nat} (ho : ∀ x, o = some x → x < 16) : mm_os TC sX5 (o.map (fun x => 5 + x)) = true := by
  cases o with
  | none => rfl
  | some x => exact os_shoe (ho x rfl)
theorem k_wear9 {c : Mm} {N : Nat → Int32} (hW : WR c 1 N) {o : Option Nat} (ho : ∀ x, o = some x → x < 16) {j : Nat} (hj : j < 3) (h : c 91 j = mm_num (o.map (fun x => 5 + x))) : f_X9_wear 90 (nI j) c = some (nI (oW N o)) := by
  unfold f_X9_wear
  rw [og_in _ hj (by omega), nI_clamp (show j < 2 ^ 31 by omega), show c (90 + 1) j = _ from h, code_num ho, mv_v, os_num ho, og_t]
  cases o with
  | none => rfl
  | some x =>
    have hx := ho x rfl
    show og (mm_in (nI j) 3) (mv (some (5 + x)) (fun o_6 => og (mm_os TC sX5 o_6) (on o_6 none (fun q_8 => op (f_X5_wear q_8 c) (fun r_9 => some r_9))))) = some (nI (if N (47 + x) = 3 then 2 else 1))
    rw [og_in _ hj (by omega), mv_v, os_shoe hx, og_t]
    show op (f_X5_wear (5 + x) c) (fun r_9 => some r_9) = _
    unfold f_X5_wear
    rw [wr_sort hW hx]
    by_cases h3 : N (47 + x) = 3
    · rw [if_pos h3, if_pos h3]
      rfl
    · rw [if_neg h3, if_neg h3]
      rfl
theorem k_isOpenWith {c : Mm} {lone : Bool} {oa ob oc : Option Nat} (h1 : c 90 1 = nI (b01 lone)) {k : Nat} (hk : k < 4) : f_X9_isOpenWith 90 (nI k) ((fst oa ob k).map (fun x => 5 + x)) ((snd ob oc k).map (fun x => 5 + x)) c = some (nI (b01 (gOpen lone oa ob oc k))) := by
  unfold f_X9_isOpenWith
  rw [h1]
  rcases (show k = 0 ∨ k = 1 ∨ k = 2 ∨ k = 3 by omega) with rfl | rfl | rfl | rfl
  · rw [if_neg (show ¬ nI 0 = (2 : Int32) by decide)]
    cases lone with
    | true =>
      rw [if_neg (show ¬ nI (b01 true) = 0 by decide)]
      rfl
    | false =>
      rw [if_pos (show nI (b01 false) = 0 from rfl), if_neg (show ¬ nI 0 = (3 : Int32) by decide)]
      cases oa <;> cases ob <;> rfl
  · rw [if_neg (show ¬ nI 1 = (2 : Int32) by decide)]
    cases lone with
    | true =>
      rw [if_neg (show ¬ nI (b01 true) = 0 by decide)]
      rfl
    | false =>
      rw [if_pos (show nI (b01 false) = 0 from rfl), if_neg (show ¬ nI 1 = (3 : Int32) by decide)]
      cases ob <;> cases oc <;> rfl
  · rw [if_pos (show nI 2 = (2 : Int32) from rfl)]
    cases ob <;> cases lone <;> rfl
  · rw [if_neg (show ¬ nI 3 = (2 : Int32) by decide)]
    cases lone with
    | true =>
      rw [if_neg (show ¬ nI (b01 true) = 0 by decide)]
      rfl
    | false =>
      rw [if_pos (show nI (b01 false) = 0 from rfl), if_pos (show nI 3 = (3 : Int32) from rfl)]
      rfl
theorem tA_mul (N : Nat → Int32) (oa : Option Nat) {k : Nat} (hk : k < 4) : mm_tab mm_tA k * nI (oW N oa) = nI (aA N oa k) := by
  rw [show mm_tab mm_tA k = nI (if k = 0 then 1 else 0) by rcases (show k = 0 ∨ k = 1 ∨ k = 2 ∨ k = 3 by omega) with rfl | rfl | rfl | rfl <;> rfl, pk_mul]
  unfold aA
  split
  · rw [Nat.one_mul]
  · rw [Nat.zero_mul]
theorem tB_mul (N : Nat → Int32) (ob : Option Nat) {k : Nat} (hk : k < 4) : mm_tab mm_tB k * nI (oW N ob) = nI (aB N ob k) := by
  rw [show mm_tab mm_tB k = nI (if k = 3 then 0 else if k = 2 then 2 else 1) by rcases (show k = 0 ∨ k = 1 ∨ k = 2 ∨ k = 3 by omega) with rfl | rfl | rfl | rfl <;> rfl, pk_mul]
  unfold aB
  split
  · rw [Nat.zero_mul]
  · split
    · rfl
    · rw [Nat.one_mul]
theorem tC_mul (N : Nat → Int32) (oc : Option Nat) {k : Nat} (hk : k < 4) : mm_tab mm_tC k * nI (oW N oc) = nI (aC N oc k) := by
  rw [show mm_tab mm_tC k = nI (if k = 1 then 1 else 0) by rcases (show k = 0 ∨ k = 1 ∨ k = 2 ∨ k = 3 by omega) with rfl | rfl | rfl | rfl <;> rfl, pk_mul]
  unfold aC
  split
  · rw [Nat.one_mul]
  · rw [Nat.zero_mul]
/-- a going's tables but for whether it is open -/
def TM1 (N : Nat → Int32) (oa ob oc : Option Nat) (k : Nat) (g : Mm) : Prop := (∀ i, i < 9 → g (94 + k) i = nI (mQ N oa ob oc k i) ∧ g (99 + k) i = nI (fC N (fst oa ob k) i + fC N (snd ob oc k) i)) ∧ g (104 + k) 0 = nI (aA N oa k) ∧ g (104 + k) 1 = nI (aB N ob k) ∧ g (104 + k) 2 = nI (aC N oc k)
theorem k_miles {N : Nat → Int32} (hF : WF N) {oa ob oc : Option Nat} (ha : ∀ x, oa = some x → x < 16) (hb : ∀ x, ob = some x → x < 16) (hc : ∀ x, oc = some x → x < 16) {k : Nat} (hk : k < 4) (K : Int32 → Mm → Option Mm) : ∀ (d j f : Nat) (g : Mm), j + d = 9 → d < f → WR g 1 N → RF oa ob oc g → (∀ i, i < j → g (94 + k) i = nI (mQ N oa ob oc k i) ∧ g (99 + k) i = nI (fC N (fst oa ob k) i + fC N (snd ob oc k) i)) →
    ∃ g', f_X9_prepareGoings_c83 K 90 1 f (nI k) ((fst oa ob k).map (fun x => 5 + x)) ((snd ob oc k).map (fun x => 5 + x)) (nI j) g = K (nI (k + 1)) g' ∧ TM1 N oa ob oc k g' ∧ ∀ x, x ≠ 94 + k → x ≠ 99 + k → x ≠ 104 + k → g' x = g x := by
  intro d
  induction d with
  | zero =>
    intro j f g hj hf hW hR ht
    obtain ⟨f, rfl⟩ := Nat.exists_eq_succ_of_ne_zero (show f ≠ 0 by omega)
    have e : j = 9 := by omega
    subst e
    have w : ∀ (h : Mm) (j : Nat), (∀ x, x ≤ 91 → h x = g x) → j < 3 → f_X9_wear 90 (nI j) h = some (nI (oW N (w3 oa ob oc j))) := fun h j e hj => k_wear9 (hW.kept' (fun a _ _ => e a (by omega))) (w3_lt ha hb hc j) hj (by rw [e 91 (by omega)]; exact hR j hj)
    rw [f_X9_prepareGoings_c83, if_pos (show (9 : Int32) ≤ nI 9 by decide), og_in _ hk (by omega), og_in _ hk (by omega), show f_X9_wear 90 0 g = some (nI (oW N oa)) from w g 0 (fun _ _ => rfl) (by omega), op_v, nI_clamp (show k < 2 ^ 31 by omega), tA_mul N oa hk, mw_v]
    have o1 : ∀ x, x ≠ 104 + k → mm_up g (90 + 14 + k) (0 : Int32).toNatClampNeg (nI (aA N oa k)) x = g x := fun x hx => mm_up_ne _ _ _ (by omega)
    rw [og_in _ hk (by omega), og_in _ hk (by omega), show f_X9_wear 90 1 (mm_up g (90 + 14 + k) (0 : Int32).toNatClampNeg (nI (aA N oa k))) = some (nI (oW N ob)) from w _ 1 (fun x hx => o1 x (by omega)) (by omega), op_v, tB_mul N ob hk, mw_v]
    have o2 : ∀ x, x ≠ 104 + k → mm_up (mm_up g (90 + 14 + k) (0 : Int32).toNatClampNeg (nI (aA N oa k))) (90 + 14 + k) (1 : Int32).toNatClampNeg (nI (aB N ob k)) x = g x := fun x hx => by rw [mm_up_ne _ _ _ (by omega)]; exact o1 x hx
    rw [og_in _ hk (by omega), og_in _ hk (by omega), show f_X9_wear 90 2 (mm_up (mm_up g (90 + 14 + k) (0 : Int32).toNatClampNeg (nI (aA N oa k))) (90 + 14 + k) (1 : Int32).toNatClampNeg (nI (aB N ob k))) = some (nI (oW N oc)) from w _ 2 (fun x hx => o2 x (by omega)) (by omega), op_v, tC_mul N oc hk, mw_v, mv_v, nI_1]
    refine ⟨_, rfl, ⟨fun i hi => ?_, ?_, ?_, ?_⟩, fun x _ _ h3 => ?_⟩
    · rw [mm_up_ne _ _ _ (show 94 + k ≠ 90 + 14 + k by omega), mm_up_ne _ _ _ (show 99 + k ≠ 90 + 14 + k by omega), o2 (94 + k) (by omega), o2 (99 + k) (by omega)]
      exact ht i hi
    · rw [show 104 + k = 90 + 14 + k by omega, mm_up_eq, mm_up_eq, mm_up_eq]
      rfl
    · rw [show 104 + k = 90 + 14 + k by omega, mm_up_eq, mm_up_eq, mm_up_eq]
      rfl
    · rw [show 104 + k = 90 + 14 + k by omega, mm_up_eq, mm_up_eq, mm_up_eq]
      rfl
    · rw [mm_up_ne _ _ _ (by omega), o2 _ h3]
  | succ d ih =>
    intro j f g hj hf hW hR ht
    obtain ⟨f, rfl⟩ := Nat.exists_eq_succ_of_ne_zero (show f ≠ 0 by omega)
    have h1 := fst_lt ha hb k
    have h2 := snd_lt hb hc k
    have hj9 : j < 9 := by omega
    rw [f_X9_prepareGoings_c83, if_neg (show ¬ (9 : Int32) ≤ nI j from nI_ge (b := 9) (by omega) (by omega)), og_in _ hk (by omega), show f_X10_minutesOf 1 (nI k) (nI j) ((fst oa ob k).map (fun x => 5 + x)) ((snd ob oc k).map (fun x => 5 + x)) g = some (nI (mQ N oa ob oc k j)) from k_minutesOf hW hF hk hj9 h1 h2, op_v, og_in _ hj9 (by omega), nI_clamp (show k < 2 ^ 31 by omega), nI_clamp (show j < 2 ^ 31 by omega), mw_v, og_in _ hk (by omega)]
    have W1 : WR (mm_up g (90 + 4 + k) j (nI (mQ N oa ob oc k j))) 1 N := hW.kept' (fun a _ _ => mm_up_ne _ _ _ (by omega))
    rw [k_costOf10 W1 hF h1 h2 hj9, op_v, og_in _ hj9 (by omega), mw_v, mv_v, nI_1]
    obtain ⟨g', r1, r2, r3⟩ := ih (j + 1) f (mm_up (mm_up g (90 + 4 + k) j (nI (mQ N oa ob oc k j))) (90 + 9 + k) j (nI (fC N (fst oa ob k) j + fC N (snd ob oc k) j))) (by omega) (by omega) (W1.kept' (fun a _ _ => mm_up_ne _ _ _ (by omega))) (fun i hi => by rw [mm_up_ne _ _ _ (by omega), mm_up_ne _ _ _ (by omega)]; exact hR i hi) (fun i hi => by
      rw [show 94 + k = 90 + 4 + k by omega, show 99 + k = 90 + 9 + k by omega, mm_up_ne _ _ _ (show 90 + 4 + k ≠ 90 + 9 + k by omega), mm_up_eq, mm_up_eq, mm_up_ne _ _ _ (show 90 + 9 + k ≠ 90 + 4 + k by omega)]
      by_cases ei : i = j
      · subst ei
        rw [upd_eq, upd_eq]
        exact ⟨rfl, rfl⟩
      · rw [upd_ne _ _ ei, upd_ne _ _ ei]
        have := ht i (by omega)
        rw [show 94 + k = 90 + 4 + k by omega, show 99 + k = 90 + 9 + k by omega] at this
        exact this)
    exact ⟨g', r1, r2, fun x q1 q2 q3 => by rw [r3 x q1 q2 q3, mm_up_ne _ _ _ (by omega), mm_up_ne _ _ _ (by omega)]⟩
/-- the goings -/
theorem k_goings {N : Nat → Int32} (hF : WF N) {oa ob oc : Option Nat} (ha : ∀ x, oa = some x → x < 16) (hb : ∀ x, ob = some x → x < 16) (hc : ∀ x, oc = some x → x < 16) {lone : Bool} : ∀ (d k f : Nat) (g : Mm), k + d = 4 → d < f → WR g 1 N → RF oa ob oc g → g 90 1 = nI (b01 lone) → (∀ i, i < k → g 92 i = nI (b01 (gOpen lone oa ob oc i)) ∧ TM1 N oa ob oc i g) →
    ∃ g', f_X9_prepareGoings_c2 90 1 f (nI k) g = f_X9_prepareGoings_c198 90 FU 0 g' ∧ (∀ i, i < 4 → g' 92 i = nI (b01 (gOpen lone oa ob oc i)) ∧ TM1 N oa ob oc i g') ∧ ∀ x, x < 92 ∨ 108 ≤ x → g' x = g x := by
  intro d
  induction d with
  | zero =>
    intro k f g hk hf hW hR hl ht
    obtain ⟨f, rfl⟩ := Nat.exists_eq_succ_of_ne_zero (show f ≠ 0 by omega)
    have e : k = 4 := by omega
    subst e
    rw [f_X9_prepareGoings_c2, if_pos (show (4 : Int32) ≤ nI 4 by decide)]
    exact ⟨g, rfl, ht, fun _ _ => rfl⟩
  | succ d ih =>
    intro k f g hk hf hW hR hl ht
    obtain ⟨f, rfl⟩ := Nat.exists_eq_succ_of_ne_zero (show f ≠ 0 by omega)
    have hk4 : k < 4 := by omega
    have ge : ∀ j : Nat, j < 4 → k ≠ j → ¬ nI k = nI j := fun j hj e w => e ((n_d k j hk4 hj).mp w)
    have s1 : f_X9_prepareGoings_c2 90 1 (f + 1) (nI k) g = f_X9_prepareGoings_c35 (f_X9_prepareGoings_c2 90 1 f) 90 1 (nI k) ((fst oa ob k).map (fun x => 5 + x)) g := by
      rw [f_X9_prepareGoings_c2, if_neg (show ¬ (4 : Int32) ≤ nI k from nI_ge (b := 4) hk4 (by omega))]
      by_cases k0 : k = 0
      · rw [if_pos (show nI k = (0 : Int32) by rw [k0]; rfl), show g (90 + 1) (0 : Int32).toNatClampNeg = _ from hR 0 (by omega), code_num (w3_lt ha hb hc 0), mv_v, os_num (w3_lt ha hb hc 0), og_t, show fst oa ob k = w3 oa ob oc 0 by unfold fst w3; rw [if_pos k0, if_pos rfl]]
      · rw [if_neg (show ¬ nI k = (0 : Int32) from ge 0 (by omega) k0)]
        by_cases k3 : k = 3
        · rw [if_pos (show nI k = (3 : Int32) by rw [k3]; rfl), show fst oa ob k = none by unfold fst; rw [if_neg k0, if_pos k3]]
          rfl
        · rw [if_neg (show ¬ nI k = (3 : Int32) from ge 3 (by omega) k3), show g (90 + 1) (1 : Int32).toNatClampNeg = _ from hR 1 (by omega), code_num (w3_lt ha hb hc 1), mv_v, os_num (w3_lt ha hb hc 1), og_t, show fst oa ob k = w3 oa ob oc 1 by unfold fst w3; rw [if_neg k0, if_neg k3, if_neg (by decide), if_pos rfl]]
    have s2 : f_X9_prepareGoings_c35 (f_X9_prepareGoings_c2 90 1 f) 90 1 (nI k) ((fst oa ob k).map (fun x => 5 + x)) g = f_X9_prepareGoings_c64 (f_X9_prepareGoings_c2 90 1 f) 90 1 (nI k) ((fst oa ob k).map (fun x => 5 + x)) ((snd ob oc k).map (fun x => 5 + x)) g := by
      unfold f_X9_prepareGoings_c35
      by_cases k0 : k = 0
      · rw [if_pos (show nI k = (0 : Int32) by rw [k0]; rfl), show g (90 + 1) (1 : Int32).toNatClampNeg = _ from hR 1 (by omega), code_num (w3_lt ha hb hc 1), mv_v, os_num (w3_lt ha hb hc 1), og_t, show snd ob oc k = w3 oa ob oc 1 by unfold snd w3; rw [if_pos k0, if_neg (by decide), if_pos rfl]]
      · rw [if_neg (show ¬ nI k = (0 : Int32) from ge 0 (by omega) k0)]
        by_cases k1 : k = 1
        · rw [if_pos (show nI k = (1 : Int32) by rw [k1]; rfl), show g (90 + 1) (2 : Int32).toNatClampNeg = _ from hR 2 (by omega), code_num (w3_lt ha hb hc 2), mv_v, os_num (w3_lt ha hb hc 2), og_t, show snd ob oc k = w3 oa ob oc 2 by unfold snd w3; rw [if_neg k0, if_pos k1, if_neg (by decide), if_neg (by decide)]]
        · rw [if_neg (show ¬ nI k = (1 : Int32) from ge 1 (by omega) k1), show snd ob oc k = none by unfold snd; rw [if_neg k0, if_neg k1]]
          rfl
    rw [s1, s2]
    unfold f_X9_prepareGoings_c64
    rw [k_isOpenWith hl hk4, op_v, og_in _ hk4 (by omega), nI_clamp (show k < 2 ^ 31 by omega), show mm_01 (nI (b01 (gOpen lone oa ob oc k))) = true by cases gOpen lone oa ob oc k <;> rfl, og_t, mw_v]
    have o1 : ∀ x, x ≠ 92 → mm_up g (90 + 2) k (nI (b01 (gOpen lone oa ob oc k))) x = g x := fun x hx => mm_up_ne _ _ _ (by omega)
    obtain ⟨g1, r1, r2, r3⟩ := k_miles hF ha hb hc hk4 (f_X9_prepareGoings_c2 90 1 f) 9 0 FU (mm_up g (90 + 2) k (nI (b01 (gOpen lone oa ob oc k)))) (by omega) (fu_lt (by omega)) (hW.kept' (fun a _ _ => o1 a (by omega))) (fun i hi => by rw [o1 _ (by omega)]; exact hR i hi) (fun i hi => by omega)
    rw [show f_X9_prepareGoings_c83 (f_X9_prepareGoings_c2 90 1 f) 90 1 FU (nI k) ((fst oa ob k).map (fun x => 5 + x)) ((snd ob oc k).map (fun x => 5 + x)) 0 (mm_up g (90 + 2) k (nI (b01 (gOpen lone oa ob oc k)))) = _ from r1]
    have fr : ∀ x, x ≠ 92 → x ≠ 94 + k → x ≠ 99 + k → x ≠ 104 + k → g1 x = g x := fun x q0 q1 q2 q3 => by rw [r3 x q1 q2 q3, o1 x q0]
    obtain ⟨g', t1, t2, t3⟩ := ih (k + 1) f g1 (by omega) (by omega) (hW.kept' (fun a _ _ => fr a (by omega) (by omega) (by omega) (by omega))) (fun i hi => by rw [fr _ (by omega) (by omega) (by omega) (by omega)]; exact hR i hi) (by rw [fr _ (by omega) (by omega) (by omega) (by omega)]; exact hl) (fun i hi => by
      rw [r3 92 (by omega) (by omega) (by omega), show (92 : Nat) = 90 + 2 from rfl, mm_up_eq]
      by_cases ei : i = k
      · subst ei
        rw [upd_eq]
        exact ⟨rfl, r2⟩
      · rw [upd_ne _ _ ei]
        obtain ⟨a1, a2, a3, a4, a5⟩ := ht i (by omega)
        exact ⟨a1, fun j hj => by
          rw [fr (94 + i) (by omega) (by omega) (by omega) (by omega), fr (99 + i) (by omega) (by omega) (by omega) (by omega)]
          exact a2 j hj, by rw [fr (104 + i) (by omega) (by omega) (by omega) (by omega)]; exact a3, by rw [fr (104 + i) (by omega) (by omega) (by omega) (by omega)]; exact a4, by rw [fr (104 + i) (by omega) (by omega) (by omega) (by omega)]; exact a5⟩)
    exact ⟨g', t1, t2, fun x hx => by rw [t3 x hx, fr x (by omega) (by omega) (by omega) (by omega)]⟩
/-- the soles ahead of the first mile -/
theorem k_firsts {N : Nat → Int32} (hF : WF N) {oa ob oc : Option Nat} (ha : ∀ x, oa = some x → x < 16) (hb : ∀ x, ob = some x → x < 16) (hc : ∀ x, oc = some x → x < 16) : ∀ (d j f : Nat) (g : Mm), j + d = 3 → d < f → WR g 1 N → RF oa ob oc g → (∀ i, i < j → g 125 i = nI (oL N (w3 oa ob oc i))) →
    ∃ g', f_X9_prepareGoings_c198 90 f (nI j) g = some g' ∧ (∀ i, i < 3 → g' 125 i = nI (oL N (w3 oa ob oc i))) ∧ ∀ x, x ≠ 125 → g' x = g x := by
  intro d
  induction d with
  | zero =>
    intro j f g hj hf hW hR ht
    obtain ⟨f, rfl⟩ := Nat.exists_eq_succ_of_ne_zero (show f ≠ 0 by omega)
    have e : j = 3 := by omega
    subst e
    rw [f_X9_prepareGoings_c198, if_pos (show (3 : Int32) ≤ nI 3 by decide)]
    exact ⟨g, rfl, ht, fun _ _ => rfl⟩
  | succ d ih =>
    intro j f g hj hf hW hR ht
    obtain ⟨f, rfl⟩ := Nat.exists_eq_succ_of_ne_zero (show f ≠ 0 by omega)
    have hj3 : j < 3 := by omega
    have ho := w3_lt ha hb hc j
    have fin : ∀ v : Int32, v = nI (oL N (w3 oa ob oc j)) → ∃ g', f_X9_prepareGoings_c232 (f_X9_prepareGoings_c198 90 f) 90 (nI j) (90 + 35 + (0 : Int32).toNatClampNeg) (nI j) v g = some g' ∧ (∀ i, i < 3 → g' 125 i = nI (oL N (w3 oa ob oc i))) ∧ ∀ x, x ≠ 125 → g' x = g x := fun v hv => by
      subst hv
      unfold f_X9_prepareGoings_c232
      rw [og_in _ hj3 (by omega), nI_clamp (show j < 2 ^ 31 by omega), mw_v, mv_v, nI_1, show 90 + 35 + (0 : Int32).toNatClampNeg = 125 from rfl]
      obtain ⟨g', r1, r2, r3⟩ := ih (j + 1) f (mm_up g 125 j (nI (oL N (w3 oa ob oc j)))) (by omega) (by omega) (hW.kept' (fun a _ _ => mm_up_ne _ _ _ (by omega))) (fun i hi => by rw [mm_up_ne _ _ _ (by omega)]; exact hR i hi) (fun i hi => by
        rw [mm_up_eq]
        by_cases ei : i = j
        · subst ei
          rw [upd_eq]
        · rw [upd_ne _ _ ei]
          exact ht i (by omega))
      exact ⟨g', r1, r2, fun x hx => by rw [r3 x hx, mm_up_ne _ _ _ hx]⟩
    rw [f_X9_prepareGoings_c198, if_neg (show ¬ (3 : Int32) ≤ nI j from nI_ge (b := 3) hj3 (by omega)), og_in _ hj3 (by omega), nI_clamp (show j < 2 ^ 31 by omega), show g (90 + 1) j = _ from hR j hj3, code_num ho, mv_v, os_num ho, og_t]
    cases ew : w3 oa ob oc j with
    | none =>
      show ∃ g', f_X9_prepareGoings_c232 (f_X9_prepareGoings_c198 90 f) 90 (nI j) (90 + 35 + (0 : Int32).toNatClampNeg) (nI j) 0 g = some g' ∧ _
      exact fin 0 (by rw [ew]; rfl)
    | some x =>
      have hx := ho x ew
      show ∃ g', og (mm_in (nI j) 3) (mv (some (5 + x)) (fun o_11 => og (mm_os TC sX5 o_11) (on o_11 none (fun q_13 => f_X9_prepareGoings_c232 (f_X9_prepareGoings_c198 90 f) 90 (nI j) (90 + 35 + (0 : Int32).toNatClampNeg) (nI j) (g q_13 2) g)))) = some g' ∧ _
      rw [og_in _ hj3 (by omega), mv_v, os_shoe hx, og_t]
      show ∃ g', f_X9_prepareGoings_c232 (f_X9_prepareGoings_c198 90 f) 90 (nI j) (90 + 35 + (0 : Int32).toNatClampNeg) (nI j) (g (5 + x) 2) g = some g' ∧ _
      refine fin _ ?_
      rw [ew, wr_soles hW hx]
      exact (vN_of (by omega) (wf_soles hF hx)).1
