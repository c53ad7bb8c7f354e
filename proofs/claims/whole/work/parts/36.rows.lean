theorem WT.of {N : Nat → Int32} {lone : Bool} {oa ob oc : Option Nat} {lim : Nat} {ls : Nat → Nat} {g g' : Mm} (h : WT N lone oa ob oc lim ls g) (h1 : ∀ s, s < 3 → g' 90 s = g 90 s) (h2 : ∀ x, 92 ≤ x → x < 109 → g' x = g x) : WT N lone oa ob oc lim ls g' := by
  obtain ⟨t1, t2, t3, t4, t5, t6, t7⟩ := h
  exact ⟨by rw [h1 1 (by omega)]; exact t1, by rw [h1 2 (by omega)]; exact t2, fun k hk => by rw [h2 92 (by omega) (by omega)]; exact t3 k hk, fun k j hk hj => by rw [h2 _ (by omega) (by omega)]; exact t4 k j hk hj, fun k j hk hj => by rw [h2 _ (by omega) (by omega)]; exact t5 k j hk hj, fun k hk => by rw [h2 _ (by omega) (by omega)]; exact t6 k hk, fun j hj => by rw [h2 108 (by omega) (by omega)]; exact t7 j hj⟩
theorem CVd.of {N : Nat → Int32} {lone : Bool} {oa ob oc : Option Nat} {a a' : Nat → Nat} {g g' : Mm} {d : Nat} (h : CVd N lone oa ob oc a g d) (ha : ∀ j, j < d → pth a' j = pth a j) (h1 : g' 110 d = g 110 d) (h2 : g' 111 d = g 111 d) (h3 : g' (113 + d) = g (113 + d)) (h4 : g' 123 d = g 123 d) (h5 : g' (125 + d) = g (125 + d)) : CVd N lone oa ob oc a' g' d := by
  have e : ∀ j, 0 ≤ j → j < 0 + d → pth a' j = pth a j := fun j _ hj => ha j (by omega)
  unfold CVd at h ⊢
  rw [sa_congr _ d 0 e, sa_congr _ d 0 e, qa_congr nQ d 0 q00 e, h1, h2, h3, h4, h5]
  exact h
theorem ok_soles {N : Nat → Int32} {lone : Bool} {oa ob oc : Option Nat} {q : Qc} {k : Nat} (h : okQ N lone oa ob oc q k = true) : uA N oa (nQ q k) ≤ oL N oa ∧ uB N ob (nQ q k) ≤ oL N ob ∧ uC N oc (nQ q k) ≤ oL N oc := by
  unfold okQ at h
  rw [Bool.and_eq_true, Bool.and_eq_true, Bool.and_eq_true] at h
  obtain ⟨_, h1, h2, h3⟩ := h
  rw [oS_oL oa (fun e => by subst e; unfold uA oW; exact Nat.mul_zero _)] at h1
  rw [oS_oL ob (fun e => by subst e; unfold uB oW; exact Nat.mul_zero _)] at h2
  rw [oS_oL oc (fun e => by subst e; unfold uC oW; exact Nat.mul_zero _)] at h3
  exact ⟨of_decide_eq_true h1, of_decide_eq_true h2, of_decide_eq_true h3⟩
theorem path_soles {N : Nat → Int32} {lone : Bool} {oa ob oc : Option Nat} {r : Nat → Nat} : ∀ d, okr (okQ N lone oa ob oc) nQ d 0 q00 r → uA N oa (qa nQ d 0 q00 r) ≤ oL N oa ∧ uB N ob (qa nQ d 0 q00 r) ≤ oL N ob ∧ uC N oc (qa nQ d 0 q00 r) ≤ oL N oc
  | 0, _ => by
    unfold uA uB uC q00
    rw [qa]
    simp
  | d + 1, h => by
    rw [qa_s]
    have := ((okr_add _ nQ r d 1 0 q00).mp h).2
    rw [okr, Nat.zero_add] at this
    exact ok_soles this.2.1
/-- the class's test of the soles is the model's -/
theorem soles_eq {N : Nat → Int32} {lone : Bool} {oa ob oc : Option Nat} {q : Qc} {k : Nat} (hk : k < 4) (h : uA N oa q ≤ oL N oa ∧ uB N ob q ≤ oL N ob ∧ uC N oc q ≤ oL N oc) : (decide (aA N oa k ≤ oL N oa - uA N oa q) && (decide (aB N ob k ≤ oL N ob - uB N ob q) && decide (aC N oc k ≤ oL N oc - uC N oc q))) = (oS N oa (uA N oa (nQ q k)) && (oS N ob (uB N ob (nQ q k)) && oS N oc (uC N oc (nQ q k)))) := by
  rw [oS_oL oa (fun e => by subst e; unfold uA oW; exact Nat.mul_zero _), oS_oL ob (fun e => by subst e; unfold uB oW; exact Nat.mul_zero _), oS_oL oc (fun e => by subst e; unfold uC oW; exact Nat.mul_zero _), uA_s, uB_s N ob q hk, uC_s]
  congr 1
  · exact decide_eq_decide.mpr (by omega)
  · congr 1
    · exact decide_eq_decide.mpr (by omega)
    · exact decide_eq_decide.mpr (by omega)
theorem canQ_open {lone : Bool} {oa ob oc : Option Nat} {q : Qc} {k : Nat} (h : canQ lone oa ob oc q k = true) : gOpen lone oa ob oc k = true := by
  unfold canQ at h
  rw [Bool.and_eq_true] at h
  exact h.1
theorem qn_bare {N : Nat → Int32} {lone : Bool} {oa ob oc : Option Nat} {r : Nat → Nat} : ∀ d, okr (okQ N lone oa ob oc) nQ d 0 q00 r → (qa nQ d 0 q00 r).2.2.2.1 ≤ 4 ∧ (qa nQ d 0 q00 r).1 + (qa nQ d 0 q00 r).2.1 + (qa nQ d 0 q00 r).2.2.1 + (qa nQ d 0 q00 r).2.2.2.1 = d
  | 0, _ => ⟨by rw [qa]; exact Nat.zero_le _, rfl⟩
  | d + 1, h => by
    have hs := (okr_add _ nQ r d 1 0 q00).mp h
    have := hs.2
    rw [okr, Nat.zero_add] at this
    obtain ⟨h1, h2⟩ := qn_bare d hs.1
    rw [qa_s]
    obtain ⟨g4, hok, _⟩ := this
    unfold okQ at hok
    rw [Bool.and_eq_true] at hok
    have hc := hok.1
    unfold canQ at hc
    rw [Bool.and_eq_true, Bool.and_eq_true] at hc
    have h3 := of_decide_eq_true hc.2.1
    generalize qa nQ d 0 q00 r = q at *
    show q.2.2.2.1 + (if r d = 3 then 1 else 0) ≤ 4 ∧ (q.1 + (if r d = 0 then 1 else 0)) + (q.2.1 + (if r d = 1 then 1 else 0)) + (q.2.2.1 + (if r d = 2 then 1 else 0)) + (q.2.2.2.1 + (if r d = 3 then 1 else 0)) = d + 1
    rcases (show r d = 0 ∨ r d = 1 ∨ r d = 2 ∨ r d = 3 by omega) with e | e | e | e
    · rw [e]; simp; omega
    · rw [e]; simp; omega
    · rw [e]; simp; omega
    · have := h3 e
      rw [e]; simp; omega
/-- the best is kept -/
theorem k_keep {g : Mm} {c t : Nat} {r : Nat → Nat} (e1 : g 111 9 = nI c) (e2 : g 110 9 = nI t) (hr : ∀ j, j < 9 → g 109 j = nI (r j)) : ∃ g', f_X9_keep 90 g = some g' ∧ CB true r c t g' ∧ (∀ s, s < 3 → g' 90 s = g 90 s) ∧ ∀ x, x ≠ 90 → x ≠ 139 → g' x = g x := by
  unfold f_X9_keep
  rw [mw_v, mr_v, mw_v, mw_v, show (0 : Int32).toNatClampNeg = 0 from rfl, show (9 : Int32).toNatClampNeg = 9 from rfl]
  have o : ∀ x, x ≠ 90 → x ≠ 139 → mm_row (mm_up g 90 15 1) (90 + 49) (va_cpy (mm_up g 90 15 1 (90 + 19)) (mm_up g 90 15 1 (90 + 49)) 0 0 9) x = g x := fun x a b => by
    rw [mm_row_ne _ _ (by omega), mm_up_ne _ _ _ a]
  refine ⟨_, rfl, ⟨?_, fun _ => ⟨?_, ?_, fun j hj => ?_⟩⟩, fun s hs => ?_, fun x a b => ?_⟩
  · rw [mm_up_eq, upd_ne _ _ (by omega), mm_up_eq, upd_ne _ _ (by omega), mm_row_ne _ _ (by omega), mm_up_eq, upd_eq]
    rfl
  · rw [mm_up_eq, upd_ne _ _ (by omega), mm_up_eq, upd_eq, show (90 + 21) = 111 from rfl, o 111 (by omega) (by omega), e1]
  · rw [mm_up_eq, upd_eq, mm_up_ne _ _ _ (by omega), show (90 + 20) = 110 from rfl, o 110 (by omega) (by omega), e2]
  · rw [mm_up_ne _ _ _ (by omega), mm_up_ne _ _ _ (by omega), show (139 : Nat) = 90 + 49 from rfl, mm_row_at, cp0_lt hj, mm_up_ne _ _ _ (by omega)]
    exact hr j hj
  · rw [mm_up_eq, upd_ne _ _ (by omega), mm_up_eq, upd_ne _ _ (by omega), mm_row_ne _ _ (by omega), mm_up_eq, upd_ne _ _ (by omega)]
  · rw [mm_up_ne _ _ _ a, mm_up_ne _ _ _ a]
    exact o x a b
