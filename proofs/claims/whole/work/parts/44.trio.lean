/-! who may walk in which shoes: both say the same -/
/-- what holds of three shoes worn -/
def TRI (N : Nat → Int32) (p ns : Nat) (lone : Bool) (oa ob oc : Option Nat) : Prop :=
  lone = decide (¬ N (10 + p) ≤ 0) ∧ (∀ x, oa = some x → x < ns) ∧ (∀ x, ob = some x → x < ns) ∧ (∀ x, oc = some x → x < ns) ∧ (lone = false → ∀ x, oa = some x → N (31 + x) = N 3) ∧ (lone = false → ∀ x, ob = some x ∨ oc = some x → ¬ N (31 + x) = N 3) ∧ (∀ x, ob = some x → oc = some x → False) ∧ (lone = true → oa = none ∧ oc = none)
theorem foot_ne {N : Nat → Int32} (hF : WF N) {x : Int32} (h : x = 1 - N 3) : ¬ x = N 3 := by
  obtain ⟨v, v1, v2⟩ := wf_taxed hF
  rw [h, v2]
  rcases (show v = 0 ∨ v = 1 by omega) with rfl | rfl <;> decide
theorem feet_0 {N : Nat → Int32} (hF : WF N) {p : Nat} (hp : p < 5) : (N (10 + p) = 0 ∧ N (10 + p) ≤ 0) ∨ (¬ N (10 + p) = 0 ∧ ¬ N (10 + p) ≤ 0) := by
  obtain ⟨v, v1, v2⟩ := wf_feet hF hp
  rw [v2]
  rcases (show v = 0 ∨ v = 1 ∨ v = 2 by omega) with rfl | rfl | rfl
  · exact Or.inl (by decide)
  · exact Or.inr (by decide)
  · exact Or.inr (by decide)
theorem numI_m1 {o : Option Nat} (ho : ∀ x, o = some x → x < 16) (h : numI o = -1) : o = none := by
  cases o with
  | none => rfl
  | some x => exact absurd h (nI_nm1 (by have := ho x rfl; omega))
/-- of one of those that are there -/
theorem both_trio {c m : Mm} {N : Nat → Int32} (hW : WR c 1 N) (hF : WF N) (hm : m 1 = N) {ns : Nat} (hns : ns ≤ 16) (ens : N 1 = nI ns) {p : Nat} (hp : p < 5) (hper : f_X12_isPerson (nI p) m = some 1) (x2 x3 x4 : Int32) :
    (f_X10_areWorn 1 (nI p) x2 x3 x4 c = some 0 ∧ f_X12_isTrio (nI p) x2 x3 x4 m = some 0) ∨ ∃ lone oa ob oc, x2 = numI oa ∧ x3 = numI ob ∧ x4 = numI oc ∧ TRI N p ns lone oa ob oc ∧ f_X10_areWorn 1 (nI p) x2 x3 x4 c = some 1 ∧ f_X12_isTrio (nI p) x2 x3 x4 m = some 1 := by
  have lt16 : ∀ o : Option Nat, (∀ x, o = some x → x < ns ∧ True) → ∀ x, o = some x → x < 16 := fun o h x e => by have := (h x e).1; omega
  unfold f_X10_areWorn f_X12_isTrio
  rw [hper, op_v, if_neg (show ¬ (1 : Int32) = 0 by decide), show (10 : Int32) = nI 10 from rfl, nI_add, og_in _ (show 10 + p < 193 by omega) (by omega), nI_clamp (show 10 + p < 2 ^ 31 by omega), hm, mv_v, og_in _ hp (by omega), nI_clamp (show p < 2 ^ 31 by omega), show c (1 + 2) p = N (10 + p) from wr_feet hW hp, show N (3 : Int32).toNatClampNeg = N 3 from rfl]
  rcases feet_0 hF hp with ⟨f1, f2⟩ | ⟨f1, f2⟩
  · rw [if_pos f1, if_pos f2, mv_v]
    have lo : false = decide (¬ N (10 + p) ≤ 0) := (decide_eq_false (fun h => h f2)).symm
    have yes : ∀ X Y : Option Int32, (¬ x3 = -1 → x3 = x4 → X = some 0) → ((x3 = -1 ∨ ¬ x3 = x4) → X = f_X10_areWorn_c58 1 (nI p) x2 x3 x4 c) → (¬ x3 = -1 → x3 = x4 → Y = some 0) → ((x3 = -1 ∨ ¬ x3 = x4) → Y = some 1) →
        (X = some 0 ∧ op (f_X12_isHis (nI p) x2 (N 3) m) (fun r_8 => if r_8 = 0 then some 0 else op (f_X12_isHis (nI p) x3 (1 - N 3) m) (fun r_11 => if r_11 = 0 then some 0 else op (f_X12_isHis (nI p) x4 (1 - N 3) m) (fun r_14 => if r_14 = 0 then some 0 else Y))) = some 0) ∨ ∃ lone oa ob oc, x2 = numI oa ∧ x3 = numI ob ∧ x4 = numI oc ∧ TRI N p ns lone oa ob oc ∧ X = some 1 ∧ op (f_X12_isHis (nI p) x2 (N 3) m) (fun r_8 => if r_8 = 0 then some 0 else op (f_X12_isHis (nI p) x3 (1 - N 3) m) (fun r_11 => if r_11 = 0 then some 0 else op (f_X12_isHis (nI p) x4 (1 - N 3) m) (fun r_14 => if r_14 = 0 then some 0 else Y))) = some 1 := by
      intro X Y hX0 hX1 hY0 hY1
      have dec : (¬ x3 = -1 ∧ x3 = x4) ∨ (x3 = -1 ∨ ¬ x3 = x4) := by
        by_cases e1 : x3 = -1
        · exact Or.inr (Or.inl e1)
        · by_cases e2 : x3 = x4
          · exact Or.inl ⟨e1, e2⟩
          · exact Or.inr (Or.inr e2)
      have cX : (x3 = -1 ∨ ¬ x3 = x4) → X = op (f_X10_isNoneOrHis 1 x2 (nI p) (N 3) c) (fun r_5 => if r_5 = 0 then some 0 else op (f_X10_isNoneOrHis 1 x3 (nI p) (1 - N 3) c) (fun r_8 => if r_8 = 0 then some 0 else op (f_X10_isNoneOrHis 1 x4 (nI p) (1 - N 3) c) (fun r_11 => if r_11 = 0 then some 0 else some 1))) := fun h => by
        rw [hX1 h]
        unfold f_X10_areWorn_c58 f_X10_areWorn_c59
        rw [if_pos rfl, show c (1 + 20) 2 = N 3 from wr_taxed hW]
      rcases both_his hW hns ens x2 (nI p) (N 3) with ⟨a1, a2⟩ | ⟨oa, a1, a2, a3, a4⟩
      · refine Or.inl ⟨?_, by rw [a2 m hm, op_v, if_pos rfl]⟩
        rcases dec with ⟨d1, d2⟩ | d
        · exact hX0 d1 d2
        · rw [cX d, a1, op_v, if_pos rfl]
      · rw [a4 m hm, op_v, if_neg (show ¬ (1 : Int32) = 0 by decide)]
        rcases both_his hW hns ens x3 (nI p) (1 - N 3) with ⟨b1, b2⟩ | ⟨ob, b1, b2, b3, b4⟩
        · refine Or.inl ⟨?_, by rw [b2 m hm, op_v, if_pos rfl]⟩
          rcases dec with ⟨d1, d2⟩ | d
          · exact hX0 d1 d2
          · rw [cX d, a3, op_v, if_neg (show ¬ (1 : Int32) = 0 by decide), b1, op_v, if_pos rfl]
        · rw [b4 m hm, op_v, if_neg (show ¬ (1 : Int32) = 0 by decide)]
          rcases both_his hW hns ens x4 (nI p) (1 - N 3) with ⟨c1, c2⟩ | ⟨oc, c1, c2, c3, c4⟩
          · refine Or.inl ⟨?_, by rw [c2 m hm, op_v, if_pos rfl]⟩
            rcases dec with ⟨d1, d2⟩ | d
            · exact hX0 d1 d2
            · rw [cX d, a3, op_v, if_neg (show ¬ (1 : Int32) = 0 by decide), b3, op_v, if_neg (show ¬ (1 : Int32) = 0 by decide), c1, op_v, if_pos rfl]
          · rw [c4 m hm, op_v, if_neg (show ¬ (1 : Int32) = 0 by decide)]
            rcases dec with ⟨d1, d2⟩ | d
            · exact Or.inl ⟨hX0 d1 d2, hY0 d1 d2⟩
            · refine Or.inr ⟨false, oa, ob, oc, a1, b1, c1, ⟨lo, fun x e => (a2 x e).1, fun x e => (b2 x e).1, fun x e => (c2 x e).1, fun _ x e => (a2 x e).2.1, fun _ x e => ?_, fun x e1 e2 => ?_, fun h => absurd h (by decide)⟩, ?_, hY1 d⟩
              · rcases e with e | e
                · exact foot_ne hF (b2 x e).2.1
                · exact foot_ne hF (c2 x e).2.1
              · have hx := (b2 x e1).1
                rcases d with d | d
                · rw [numI_m1 (o := ob) (fun x e => by have := (b2 x e).1; omega) (b1.symm.trans d)] at e1
                  exact absurd e1 (by simp)
                · exact d (by rw [b1, c1, e1, e2])
              · rw [cX d, a3, op_v, if_neg (show ¬ (1 : Int32) = 0 by decide), b3, op_v, if_neg (show ¬ (1 : Int32) = 0 by decide), c3, op_v, if_neg (show ¬ (1 : Int32) = 0 by decide)]
    refine yes _ _ (fun h1 h2 => ?_) (fun h => ?_) (fun h1 h2 => ?_) (fun h => ?_)
    · rw [if_neg h1, if_pos h2]
      unfold f_X10_areWorn_c59
      rw [if_neg (show ¬ (1 : Int32) = 0 by decide)]
    · by_cases e1 : x3 = -1
      · rw [if_pos e1]
      · rw [if_neg e1, if_neg (h.resolve_left e1)]
    · rw [if_neg h1, if_pos h2]
    · by_cases e1 : x3 = -1
      · rw [if_pos e1]
      · rw [if_neg e1, if_neg (h.resolve_left e1)]
  · rw [if_neg f1, if_neg f2]
    have lo : true = decide (¬ N (10 + p) ≤ 0) := (decide_eq_true f2).symm
    by_cases e2 : x2 = -1
    · rw [if_pos e2, if_pos e2]
      by_cases e4 : x4 = -1
      · rw [if_pos e4, if_pos e4, og_in _ hp (by omega)]
        rcases both_his hW hns ens x3 (nI p) (N (10 + p) - 1) with ⟨b1, b2⟩ | ⟨ob, b1, b2, b3, b4⟩
        · exact Or.inl ⟨by rw [b1, op_v, if_pos rfl], by rw [b2 m hm, op_v, if_pos rfl]⟩
        · refine Or.inr ⟨true, none, ob, none, e2, b1, e4, ⟨lo, fun x e => (by cases e), fun x e => (b2 x e).1, fun x e => (by cases e), fun h => absurd h (by decide), fun h => absurd h (by decide), fun x _ e => (by cases e), fun _ => ⟨rfl, rfl⟩⟩, by rw [b3, op_v, if_neg (show ¬ (1 : Int32) = 0 by decide)], by rw [b4 m hm, op_v, if_neg (show ¬ (1 : Int32) = 0 by decide)]⟩
      · rw [if_neg e4, if_neg e4]
        exact Or.inl ⟨rfl, rfl⟩
    · rw [if_neg e2, if_neg e2]
      exact Or.inl ⟨rfl, rfl⟩
/-- a walk as told: both say so, or both don't -/
theorem both_walk {n : Nat} {c m : Mm} (h : Rel n c m) (x1 x2 x3 x4 x5 : Int32) :
    (f_X11_isWalk x1 x2 x3 x4 x5 c = some 0 ∧ ∃ r, f_X12_isTrio x1 x2 x3 x4 m = some r ∧ (r = 0 ∨ wi x5 1 (nI 999) = 0)) ∨ ∃ p ns lim lone oa ob oc, p < 5 ∧ ns ≤ 16 ∧ m 1 1 = nI ns ∧ lim ≤ 999 ∧ x1 = nI p ∧ x2 = numI oa ∧ x3 = numI ob ∧ x4 = numI oc ∧ x5 = nI lim ∧ TRI (m 1) p ns lone oa ob oc ∧ f_X11_isWalk x1 x2 x3 x4 x5 c = some 1 ∧ f_X12_isTrio x1 x2 x3 x4 m = some 1 ∧ ¬ wi x5 1 (nI 999) = 0 := by
  have hW := h.1
  have hF := h.2.1
  obtain ⟨np, hnp, enp⟩ := wf_np hF
  obtain ⟨ns, hns, ens⟩ := wf_ns hF
  have hk : ∀ y, f_X10_isPerson 1 x1 c = some y → ¬ wi x5 1 (nI 999) = 0 → f_X11_isWalk x1 x2 x3 x4 x5 c = if y = 0 then some 0 else op (f_X10_areWorn 1 x1 x2 x3 x4 c) (fun r_7 => if r_7 = 0 then some 0 else some 1) := fun y hy hw => by
    unfold f_X11_isWalk
    rw [show f_X11_isWithin x5 1 999 = some (wi x5 1 (nI 999)) from isWithin_eq x5 1 999, op_v, if_neg hw, hy, op_v]
  by_cases hp : wi x1 0 (m 1 0 - 1) = 0
  · refine Or.inl ⟨?_, 0, ?_, Or.inl rfl⟩
    · by_cases hw : wi x5 1 (nI 999) = 0
      · unfold f_X11_isWalk
        rw [show f_X11_isWithin x5 1 999 = some (wi x5 1 (nI 999)) from isWithin_eq x5 1 999, op_v, if_pos hw]
      · rw [hk _ (k_isPerson hW x1) hw, if_pos hp]
    · unfold f_X12_isTrio
      rw [m_isPerson, op_v, if_pos hp]
  · have hp' := hp
    rw [enp] at hp'
    obtain ⟨p, p1, rfl⟩ := wi_pr (by omega) hp'
    have p5 : p < 5 := by omega
    have hone : wi (nI p) 0 (m 1 0 - 1) = 1 := by
      have := wi_01 (nI p) 0 (m 1 0 - 1)
      simp only [mm_01, Bool.or_eq_true, decide_eq_true_eq] at this
      exact this.resolve_left hp
    have hper : f_X12_isPerson (nI p) m = some 1 := by rw [m_isPerson, hone]
    have hpk : f_X10_isPerson 1 (nI p) c = some 1 := by rw [k_isPerson hW, hone]
    have nh : ¬ (1 : Int32) = 0 := by decide
    rcases both_trio hW hF rfl hns ens p5 hper x2 x3 x4 with ⟨t1, t2⟩ | ⟨lone, oa, ob, oc, e2, e3, e4, T, t1, t2⟩
    · refine Or.inl ⟨?_, 0, t2, Or.inl rfl⟩
      by_cases hw : wi x5 1 (nI 999) = 0
      · unfold f_X11_isWalk
        rw [show f_X11_isWithin x5 1 999 = some (wi x5 1 (nI 999)) from isWithin_eq x5 1 999, op_v, if_pos hw]
      · rw [hk _ hpk hw, if_neg nh, t1, op_v, if_pos rfl]
    · by_cases hw : wi x5 1 (nI 999) = 0
      · refine Or.inl ⟨?_, 1, t2, Or.inr hw⟩
        unfold f_X11_isWalk
        rw [show f_X11_isWithin x5 1 999 = some (wi x5 1 (nI 999)) from isWithin_eq x5 1 999, op_v, if_pos hw]
      · obtain ⟨lim, l1, l2, rfl⟩ := wi_1 (by omega) hw
        exact Or.inr ⟨p, ns, lim, lone, oa, ob, oc, p5, hns, ens, l2, rfl, e2, e3, e4, rfl, T, by rw [hk _ hpk hw, if_neg nh, t1, op_v, if_neg nh], t2, hw⟩
