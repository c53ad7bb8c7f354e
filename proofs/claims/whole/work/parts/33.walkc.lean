/-! the class's walk: its tables, and the tests of a mile -/
def b01 (b : Bool) : Nat := if b = true then 1 else 0
/-- the tables that a search lays: of goings that are open -/
def WT (N : Nat → Int32) (lone : Bool) (oa ob oc : Option Nat) (lim : Nat) (ls : Nat → Nat) (g : Mm) : Prop :=
  g 90 1 = nI (b01 lone) ∧ g 90 2 = nI lim ∧ (∀ k, k < 4 → g 92 k = nI (b01 (gOpen lone oa ob oc k))) ∧
  (∀ k j, k < 4 → j < 9 → g (94 + k) j = nI (mQ N oa ob oc k j)) ∧ (∀ k j, k < 4 → j < 9 → gOpen lone oa ob oc k = true → g (99 + k) j = nI (cQ N lone oa ob k j)) ∧
  (∀ k, k < 4 → g (104 + k) 0 = nI (aA N oa k) ∧ g (104 + k) 1 = nI (aB N ob k) ∧ g (104 + k) 2 = nI (aC N oc k)) ∧ ∀ j, j ≤ 9 → g 108 j = nI (ls j)
def oL (N : Nat → Int32) (o : Option Nat) : Nat := match o with
  | none => 0
  | some x => vN N (63 + x)
/-- what stands ahead of mile d -/
def CVd (N : Nat → Int32) (lone : Bool) (oa ob oc : Option Nat) (a : Nat → Nat) (g : Mm) (d : Nat) : Prop :=
  g 110 d = nI (sa (mQ N oa ob oc) d 0 (pth a)) ∧ g 111 d = nI (sa (cQ N lone oa ob) d 0 (pth a)) ∧ g (113 + d) 0 = nI (qa nQ d 0 q00 (pth a)).1 ∧ g (113 + d) 1 = nI (qa nQ d 0 q00 (pth a)).2.1 ∧ g (113 + d) 2 = nI (qa nQ d 0 q00 (pth a)).2.2.1 ∧ g (113 + d) 3 = nI (qa nQ d 0 q00 (pth a)).2.2.2.1 ∧ g 123 d = nI (qa nQ d 0 q00 (pth a)).2.2.2.2 ∧
  g (125 + d) 0 = nI (oL N oa - uA N oa (qa nQ d 0 q00 (pth a))) ∧ g (125 + d) 1 = nI (oL N ob - uB N ob (qa nQ d 0 q00 (pth a))) ∧ g (125 + d) 2 = nI (oL N oc - uC N oc (qa nQ d 0 q00 (pth a)))
theorem oS_oL {N : Nat → Int32} (o : Option Nat) {u : Nat} (hu : o = none → u = 0) : oS N o u = decide (u ≤ oL N o) := by
  cases o with
  | none =>
    rw [hu rfl]
    exact (decide_eq_true (Nat.le_refl 0)).symm
  | some x => rfl
theorem b01_le (b : Bool) : b01 b ≤ 1 := by unfold b01; split <;> omega
/-- whether a going is allowed -/
theorem k_isAllowed {N : Nat → Int32} {lone : Bool} {oa ob oc : Option Nat} {lim : Nat} {ls : Nat → Nat} {g : Mm} (hT : WT N lone oa ob oc lim ls g) {i k : Nat} (hi : i < 9) (hk : k < 4) {q : Qc} (e3 : g (113 + i) 3 = nI q.2.2.2.1) (e4 : g 123 i = nI q.2.2.2.2) (b3 : q.2.2.2.1 ≤ 9) (b4 : q.2.2.2.2 ≤ 9) : f_X9_isAllowed 90 (nI i) (nI k) g = some (nI (b01 (canQ lone oa ob oc q k))) := by
  have ge : ∀ j : Nat, j < 4 → k ≠ j → ¬ nI k = nI j := fun j hj e w => e ((n_d k j hk hj).mp w)
  have T : ∀ (b : Bool) (X : Option Int32), X = some (nI (b01 b)) → b = canQ lone oa ob oc q k → X = some (nI (b01 (canQ lone oa ob oc q k))) := fun b X h1 h2 => by rw [h1, h2]
  unfold f_X9_isAllowed
  rw [og_in _ (show k < 4 by omega) (by omega), nI_clamp (show k < 2 ^ 31 by omega), show g (90 + 2) k = nI (b01 (gOpen lone oa ob oc k)) from hT.2.2.1 k hk, show g 90 1 = nI (b01 lone) from hT.1]
  cases ho : gOpen lone oa ob oc k with
  | false =>
    rw [if_pos (show nI (b01 false) = 0 from rfl)]
    refine T false _ rfl ?_
    unfold canQ
    rw [ho, Bool.false_and]
  | true =>
    rw [if_neg (show ¬ nI (b01 true) = 0 by decide)]
    by_cases k3 : k = 3
    · rw [if_pos (show nI k = (3 : Int32) by rw [k3]; rfl), og_in _ (show i < 10 by omega) (by omega), nI_clamp (show i < 2 ^ 31 by omega), show (3 : Int32).toNatClampNeg = 3 from rfl, show g (90 + 23 + i) 3 = nI q.2.2.2.1 from e3]
      refine T (decide (q.2.2.2.1 < 4)) _ ?_ ?_
      · by_cases w : q.2.2.2.1 < 4
        · rw [if_neg (show ¬ (4 : Int32) ≤ nI q.2.2.2.1 from nI_ge (b := 4) w (by omega)), decide_eq_true w]
          rfl
        · rw [if_pos (show (4 : Int32) ≤ nI q.2.2.2.1 from nI_le (a := 4) (by omega) (by omega)), decide_eq_false w]
          rfl
      · unfold canQ
        rw [ho, k3]
        simp
    · rw [if_neg (show ¬ nI k = (3 : Int32) from ge 3 (by omega) k3)]
      by_cases k2 : k = 2
      · rw [if_pos (show nI k = (2 : Int32) by rw [k2]; rfl)]
        rcases Bool.eq_false_or_eq_true lone with hlo | hlo
        · rw [if_neg (show ¬ nI (b01 lone) = 0 by rw [hlo]; decide)]
          refine T true _ rfl ?_
          unfold canQ
          rw [ho, k2, hlo]
          simp
        · rw [if_pos (show nI (b01 lone) = 0 by rw [hlo]; rfl), og_in _ (show i < 10 by omega) (by omega), nI_clamp (show i < 2 ^ 31 by omega), show g (90 + 33) i = nI q.2.2.2.2 from e4]
          refine T (decide (q.2.2.2.2 < 2)) _ ?_ ?_
          · by_cases w : q.2.2.2.2 < 2
            · rw [if_neg (show ¬ (2 : Int32) ≤ nI q.2.2.2.2 from nI_ge (b := 2) w (by omega)), decide_eq_true w]
              rfl
            · rw [if_pos (show (2 : Int32) ≤ nI q.2.2.2.2 from nI_le (a := 2) (by omega) (by omega)), decide_eq_false w]
              rfl
          · unfold canQ
            rw [ho, k2, hlo]
            simp
      · rw [if_neg (show ¬ nI k = (2 : Int32) from ge 2 (by omega) k2)]
        refine T true _ rfl ?_
        unfold canQ
        rw [ho]
        simp [k2, k3]
/-- whether the shoes have the soles for a going -/
theorem k_hasSoles {g : Mm} {i k x0 x1 x2 y0 y1 y2 : Nat} (hi : i < 9) (hk : k < 4) (w0 : g (104 + k) 0 = nI x0) (w1 : g (104 + k) 1 = nI x1) (w2 : g (104 + k) 2 = nI x2) (s0 : g (125 + i) 0 = nI y0) (s1 : g (125 + i) 1 = nI y1) (s2 : g (125 + i) 2 = nI y2) (bx : x0 < 1000 ∧ x1 < 1000 ∧ x2 < 1000) (by' : y0 < 1000 ∧ y1 < 1000 ∧ y2 < 1000) : f_X9_hasSoles 90 (nI i) (nI k) g = some (nI (b01 (decide (x0 ≤ y0) && (decide (x1 ≤ y1) && decide (x2 ≤ y2))))) := by
  have st : ∀ (j n : Nat), j < 3 → f_X9_hasSoles_c2 90 (nI i) (nI k) (n + 1) (nI j) g = if g (104 + k) j ≤ g (125 + i) j then f_X9_hasSoles_c2 90 (nI i) (nI k) n (nI (j + 1)) g else some 0 := fun j n hj => by
    rw [f_X9_hasSoles_c2, if_neg (show ¬ (3 : Int32) ≤ nI j from nI_ge (b := 3) (by omega) (by omega)), og_in _ (show i < 10 by omega) (by omega), og_in _ (show j < 3 by omega) (by omega), og_in _ (show k < 4 by omega) (by omega), og_in _ (show j < 3 by omega) (by omega), nI_clamp (show i < 2 ^ 31 by omega), nI_clamp (show j < 2 ^ 31 by omega), nI_clamp (show k < 2 ^ 31 by omega), mv_v, nI_1]
  have le : ∀ {x y : Nat}, x < 1000 → y < 1000 → (nI x ≤ nI y ↔ x ≤ y) := fun h1 h2 => nI_leI (by omega) (by omega)
  have main : ∀ n, f_X9_hasSoles_c2 90 (nI i) (nI k) (n + 4) (nI 0) g = some (nI (b01 (decide (x0 ≤ y0) && (decide (x1 ≤ y1) && decide (x2 ≤ y2))))) := fun n => by
    rw [st 0 (n + 3) (by omega), w0, s0]
    by_cases c0 : x0 ≤ y0
    · rw [if_pos ((le bx.1 by'.1).mpr c0), decide_eq_true c0, Bool.true_and, st 1 (n + 2) (by omega), w1, s1]
      by_cases c1 : x1 ≤ y1
      · rw [if_pos ((le bx.2.1 by'.2.1).mpr c1), decide_eq_true c1, Bool.true_and, st 2 (n + 1) (by omega), w2, s2]
        by_cases c2 : x2 ≤ y2
        · rw [if_pos ((le bx.2.2 by'.2.2).mpr c2), decide_eq_true c2, f_X9_hasSoles_c2, if_pos (show (3 : Int32) ≤ nI (2 + 1) by decide)]
          rfl
        · rw [if_neg (fun w => c2 ((le bx.2.2 by'.2.2).mp w)), decide_eq_false c2]
          rfl
      · rw [if_neg (fun w => c1 ((le bx.2.1 by'.2.1).mp w)), decide_eq_false c1, Bool.false_and]
        rfl
    · rw [if_neg (fun w => c0 ((le bx.1 by'.1).mp w)), decide_eq_false c0, Bool.false_and]
      rfl
  exact main 3999996
/-- the class's best so far -/
def CB (f : Bool) (br : Nat → Nat) (bc bt : Nat) (g : Mm) : Prop := g 90 15 = nI (b01 f) ∧ (f = true → g 90 17 = nI bc ∧ g 90 18 = nI bt ∧ ∀ j, j < 9 → g 139 j = nI (br j))
/-- a mile is too late, or no better than what was found; or it is better at least by its least -/
theorem k_isBetter {N : Nat → Int32} {lone : Bool} {oa ob oc : Option Nat} {lim : Nat} {ls : Nat → Nat} {g : Mm} (hT : WT N lone oa ob oc lim ls g) {i k : Nat} (hi : i < 9) (hk : k < 4) (ho : gOpen lone oa ob oc k = true) {f : Bool} {br : Nat → Nat} {bc bt c t : Nat} (hB : CB f br bc bt g) (e1 : g 110 i = nI t) (e2 : g 111 i = nI c) (bl : lim ≤ 999) (b1 : t + mQ N oa ob oc k i + ls (i + 1) < 100000) (b2 : c + cQ N lone oa ob k i < 100000) (b3 : bc < 100000) (b4 : bt < 100000) :
    (f_X9_isBetter 90 (nI i) (nI k) g = some 0 ∧ (lim < t + mQ N oa ob oc k i + ls (i + 1) ∨ dom f bc bt (c + cQ N lone oa ob k i) (t + mQ N oa ob oc k i + ls (i + 1)))) ∨
    (f_X9_isBetter 90 (nI i) (nI k) g = some 1 ∧ t + mQ N oa ob oc k i + ls (i + 1) ≤ lim ∧ (f = true → c + cQ N lone oa ob k i < bc ∨ c + cQ N lone oa ob k i = bc ∧ t + mQ N oa ob oc k i + ls (i + 1) < bt)) := by
  obtain ⟨t1, t2, t3, t4, t5, t6, t7⟩ := hT
  obtain ⟨f1, f2⟩ := hB
  unfold f_X9_isBetter
  rw [og_in _ (show i < 10 by omega) (by omega), og_in _ (show k < 4 by omega) (by omega), og_in _ (show i < 9 by omega) (by omega), nI_1, og_in _ (show i + 1 < 10 by omega) (by omega), nI_clamp (show i < 2 ^ 31 by omega), nI_clamp (show k < 2 ^ 31 by omega), nI_clamp (show i + 1 < 2 ^ 31 by omega), show g (90 + 20) i = nI t from e1, show g (90 + 4 + k) i = nI (mQ N oa ob oc k i) from t4 k i hk (by omega), show g (90 + 18) (i + 1) = nI (ls (i + 1)) from t7 (i + 1) (by omega), nI_add, nI_add, mv_v, t2]
  generalize t + mQ N oa ob oc k i + ls (i + 1) = T at *
  by_cases h1 : T ≤ lim
  · rw [if_pos (nI_le h1 (by omega)), og_in _ (show i < 10 by omega) (by omega), og_in _ (show k < 4 by omega) (by omega), og_in _ (show i < 9 by omega) (by omega), show g (90 + 21) i = nI c from e2, show g (90 + 9 + k) i = nI (cQ N lone oa ob k i) from t5 k i hk (by omega) ho, nI_add, mv_v, f1]
    generalize c + cQ N lone oa ob k i = C at *
    cases hf : f with
    | false =>
      rw [if_pos (show nI (b01 false) = 0 from rfl)]
      exact Or.inr ⟨rfl, h1, fun h => absurd h (by decide)⟩
    | true =>
      obtain ⟨g1, g2, _⟩ := f2 hf
      rw [if_neg (show ¬ nI (b01 true) = 0 by decide), g1, g2]
      by_cases h2 : C < bc
      · rw [if_pos (nI_lt h2 (by omega))]
        exact Or.inr ⟨rfl, h1, fun _ => Or.inl h2⟩
      · rw [if_neg (nI_nlt (by omega) (by omega))]
        by_cases h3 : C = bc
        · rw [if_pos (by rw [h3])]
          by_cases h4 : bt ≤ T
          · rw [if_pos (nI_le h4 (by omega))]
            exact Or.inl ⟨rfl, Or.inr ⟨rfl, Or.inr ⟨h3.symm, h4⟩⟩⟩
          · rw [if_neg (nI_ge (by omega) (by omega))]
            exact Or.inr ⟨rfl, h1, fun _ => Or.inr ⟨h3, by omega⟩⟩
        · rw [if_neg (fun w => h3 (nI_inj (by omega) (by omega) w))]
          exact Or.inl ⟨rfl, Or.inr ⟨rfl, Or.inl (by omega)⟩⟩
  · rw [if_neg (nI_ge (by omega) (by omega))]
    exact Or.inl ⟨rfl, Or.inl (by omega)⟩
