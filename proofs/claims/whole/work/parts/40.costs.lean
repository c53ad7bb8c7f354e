/-- what the class says that one shoe costs: nothing where it isn't for the taxed foot -/
def fC (N : Nat → Int32) (o : Option Nat) (k : Nat) : Nat := match o with
  | none => 0
  | some x => if N (31 + x) = N 3 then oC N (some x) k else 0
theorem k_costOf7 {c : Mm} {N : Nat → Int32} (hW : WR c 1 N) (hF : WF N) {o : Option Nat} (ho : ∀ x, o = some x → x < 16) {k : Nat} (hk : k < 9) : f_X7_costOf 21 (o.map (fun x => 5 + x)) (c 25 k) c = some (nI (fC N o k)) := by
  unfold f_X7_costOf
  cases o with
  | none => rfl
  | some x =>
    have hx := ho x rfl
    show (if c (5 + x) 0 = c 21 2 then (if c (5 + x) 4 = 0 then some (c 21 1 * c 25 k) else og (mm_in (c (5 + x) 1) 4) (some (16 * c 22 (c (5 + x) 1).toNatClampNeg))) else some 0) = some (nI (if N (31 + x) = N 3 then oC N (some x) k else 0))
    have h1 := vN_of (by omega) (wf_sort hF hx)
    have h2 := vN_of (by omega) (wf_rate hF (show vN N (47 + x) < 4 by omega))
    have h3 := vN_of (by omega) (wf_fine hF)
    have h4 := vN_of (by omega) (wf_watch hF hk)
    obtain ⟨v, v1, v2⟩ := wf_stamp hF hx
    rw [wr_foot hW hx, wr_taxed hW, wr_stamp hW hx, wr_fine hW, wr_watch hW hk, wr_sort hW hx]
    by_cases e : N (31 + x) = N 3
    · rw [if_pos e, if_pos e]
      show _ = some (nI (if N (79 + x) = 1 then 16 * vN N (95 + vN N (47 + x)) else vN N 2 * vN N (108 + k)))
      by_cases e1 : v = 0
      · subst e1
        rw [if_pos (show N (79 + x) = 0 by rw [v2]; rfl), if_neg (show ¬ N (79 + x) = 1 by rw [v2]; decide), h3.1, h4.1, pk_mul]
      · have e2 : v = 1 := by omega
        subst e2
        rw [if_neg (show ¬ N (79 + x) = 0 by rw [v2]; decide), if_pos (show N (79 + x) = 1 by rw [v2]; rfl), h1.1, og_in _ (show vN N (47 + x) < 4 by omega) (by omega), nI_clamp (by omega), wr_rate hW (show vN N (47 + x) < 4 by omega), h2.1, show (16 : Int32) = nI 16 from rfl, pk_mul]
    · rw [if_neg e, if_neg e]
      rfl
theorem k_costOf10 {c : Mm} {N : Nat → Int32} (hW : WR c 1 N) (hF : WF N) {o1 o2 : Option Nat} (h1 : ∀ x, o1 = some x → x < 16) (h2 : ∀ x, o2 = some x → x < 16) {k : Nat} (hk : k < 9) : f_X10_costOf 1 (nI k) (o1.map (fun x => 5 + x)) (o2.map (fun x => 5 + x)) c = some (nI (fC N o1 k + fC N o2 k)) := by
  unfold f_X10_costOf
  rw [og_in _ (show k < 9 by omega) (by omega), nI_clamp (show k < 2 ^ 31 by omega), show f_X7_costOf (1 + 20) (o1.map (fun x => 5 + x)) (c (1 + 24) k) c = _ from k_costOf7 hW hF h1 hk, op_v, og_in _ (show k < 9 by omega) (by omega), show f_X7_costOf (1 + 20) (o2.map (fun x => 5 + x)) (c (1 + 24) k) c = _ from k_costOf7 hW hF h2 hk, op_v, nI_add]
/-- of a going that is open, the two costs are the model's one -/
theorem cost_cQ {N : Nat → Int32} {lone : Bool} {oa ob oc : Option Nat} (h1 : lone = false → ∀ x, oa = some x → N (31 + x) = N 3) (h2 : lone = false → ∀ x, ob = some x ∨ oc = some x → ¬ N (31 + x) = N 3) {g : Nat} (hg : g < 4) (ho : gOpen lone oa ob oc g = true) (k : Nat) : fC N (fst oa ob g) k + fC N (snd ob oc g) k = cQ N lone oa ob g k := by
  have z : ∀ o : Option Nat, (∀ x, o = some x → ¬ N (31 + x) = N 3) → fC N o k = 0 := fun o h => by
    cases o with
    | none => rfl
    | some x => exact if_neg (h x rfl)
  unfold gOpen at ho
  unfold fst snd cQ pays
  cases hlo : lone with
  | true =>
    rw [hlo, if_pos rfl, Bool.and_eq_true] at ho
    have e2 := of_decide_eq_true ho.1
    subst e2
    cases ob with
    | none => exact absurd ho.2 (by decide)
    | some x =>
      show (if N (31 + x) = N 3 then oC N (some x) k else 0) + 0 = if (true && decide (N (31 + x) = N 3)) = true then oC N (some x) k else 0
      by_cases e : N (31 + x) = N 3
      · rw [if_pos e, decide_eq_true e]
        rfl
      · rw [if_neg e, decide_eq_false e]
        rfl
  | false =>
    have zb := z ob (fun x hx => h2 hlo x (Or.inl hx))
    have zc := z oc (fun x hx => h2 hlo x (Or.inr hx))
    rcases (show g = 0 ∨ g = 1 ∨ g = 2 ∨ g = 3 by omega) with rfl | rfl | rfl | rfl
    · show fC N oa k + fC N ob k = oC N oa k
      rw [zb, Nat.add_zero]
      cases oa with
      | none => rfl
      | some x => exact if_pos (h1 hlo x rfl)
    · show fC N ob k + fC N oc k = 0
      rw [zb, zc]
    · show fC N ob k + 0 = 0
      rw [zb]
    · rfl
