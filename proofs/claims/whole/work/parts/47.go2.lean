/-- the model takes soles off a shoe -/
theorem m_take {N0 N1 : Nat → Int32} {oa ob oc : Option Nat} (D : DJ oa ob oc) {v : Nat → Nat} {h : Mm} (h1 : h 1 = S3 N1 oa ob oc v) {j x u : Nat} (hj : j < 3) (hw : w3 oa ob oc j = some x) (hu : u ≤ v j) : mm_up h 1 (63 + x) (h 1 (63 + x) - nI u) 1 = S3 N1 oa ob oc (ua v j (v j - u)) := by
  rw [mm_up_eq, h1, S3_hit D v hj hw, pk_sub hu, S3_upd D v hj hw]
theorem m_wearS {N0 N1 : Nat → Int32} {oa ob oc : Option Nat} (h16 : ∀ j x, j < 3 → w3 oa ob oc j = some x → x < 16) (hs : ∀ x, x < 16 → N1 (47 + x) = N0 (47 + x)) {v : Nat → Nat} {h : Mm} (h1 : h 1 = S3 N1 oa ob oc v) {x : Nat} (hx : x < 16) : f_X12_wear (nI x) h = some (nI (oW N0 (some x))) := by
  rw [m_wear h1 hx]
  show some (nI (if S3 N1 oa ob oc v (47 + x) = 3 then 2 else 1)) = some (nI (if N0 (47 + x) = 3 then 2 else 1))
  rw [S3_miss v (k := 47 + x) (fun j y h1 h2 => by have := h16 j y h1 h2; omega), hs x hx]
theorem ua_self (v : Nat → Nat) (j : Nat) : ua v j (v j) = v := by
  funext k
  unfold ua
  split
  · rename_i e; rw [e]
  · rfl
theorem m_goC {N0 N1 : Nat → Int32} {oa ob oc : Option Nat} (D : DJ oa ob oc) (h16 : ∀ j x, j < 3 → w3 oa ob oc j = some x → x < 16) (hs : ∀ x, x < 16 → N1 (47 + x) = N0 (47 + x)) (K : Int32 → Int32 → Mm → Option (Int32 × Mm)) (x2 x3 x6 : Int32) {gk : Nat} (hg : gk < 4) (i : Nat) {v : Nat → Nat} {h : Mm} (h1 : h 1 = S3 N1 oa ob oc v) (hc : gk = 1 → oc.isSome = true) (hv : am N0 oa ob oc gk 2 ≤ v 2) :
    ∃ h', f_X12_go_c162 K x2 x3 (numI oc) x6 (nI i) (nI gk) h = K x6 (nI (i + 1)) h' ∧ h' 1 = S3 N1 oa ob oc (ua v 2 (v 2 - am N0 oa ob oc gk 2)) ∧ ∀ x, x ≠ 1 → h' x = h x := by
  unfold f_X12_go_c162
  by_cases e : gk = 1
  · obtain ⟨x, hoc⟩ := Option.isSome_iff_exists.mp (hc e)
    have hx := h16 2 x (by omega) hoc
    have en : numI oc = nI x := by rw [hoc]; rfl
    rw [en, if_pos (show nI gk = (1 : Int32) by rw [e]; rfl), show (63 : Int32) = nI 63 from rfl, nI_add, og_in _ (show 63 + x < 193 by omega) (by omega), m_wearS h16 hs h1 hx, op_v, og_in _ (show 63 + x < 193 by omega) (by omega), nI_clamp (show 63 + x < 2 ^ 31 by omega), mw_v, mv_v, nI_1]
    have ea : am N0 oa ob oc gk 2 = oW N0 (some x) := by
      unfold am aC
      rw [if_neg (by decide), if_neg (by decide), if_pos e, hoc]
    refine ⟨_, rfl, ?_, fun y hy => mm_up_ne _ _ _ hy⟩
    rw [ea] at hv ⊢
    exact m_take (N0 := N0) D h1 (j := 2) (by omega) hoc hv
  · rw [if_neg (show ¬ nI gk = (1 : Int32) from fun w => e ((n_d gk 1 hg (by omega)).mp w)), mv_v, nI_1]
    refine ⟨h, rfl, ?_, fun _ _ => rfl⟩
    rw [show am N0 oa ob oc gk 2 = 0 by unfold am aC; rw [if_neg (by decide), if_neg (by decide), if_neg e], Nat.sub_zero, ua_self]
    exact h1
theorem m_goB {N0 N1 : Nat → Int32} {oa ob oc : Option Nat} (D : DJ oa ob oc) (h16 : ∀ j x, j < 3 → w3 oa ob oc j = some x → x < 16) (hs : ∀ x, x < 16 → N1 (47 + x) = N0 (47 + x)) (K : Int32 → Int32 → Mm → Option (Int32 × Mm)) (x2 x6 : Int32) {gk : Nat} (hg : gk < 4) (i : Nat) {v : Nat → Nat} {h : Mm} (h1 : h 1 = S3 N1 oa ob oc v) (hb : gk ≠ 3 → ob.isSome = true) (hc : gk = 1 → oc.isSome = true) (hvb : am N0 oa ob oc gk 1 ≤ v 1) (hvc : am N0 oa ob oc gk 2 ≤ v 2) :
    ∃ h', f_X12_go_c123 K x2 (numI ob) (numI oc) x6 (nI i) (nI gk) h = K x6 (nI (i + 1)) h' ∧ h' 1 = S3 N1 oa ob oc (ua (ua v 1 (v 1 - am N0 oa ob oc gk 1)) 2 (v 2 - am N0 oa ob oc gk 2)) ∧ ∀ x, x ≠ 1 → h' x = h x := by
  have go : ∀ h2 : Mm, h2 1 = S3 N1 oa ob oc (ua v 1 (v 1 - am N0 oa ob oc gk 1)) → (∀ x, x ≠ 1 → h2 x = h x) → ∃ h', f_X12_go_c162 K x2 (numI ob) (numI oc) x6 (nI i) (nI gk) h2 = K x6 (nI (i + 1)) h' ∧ h' 1 = S3 N1 oa ob oc (ua (ua v 1 (v 1 - am N0 oa ob oc gk 1)) 2 (v 2 - am N0 oa ob oc gk 2)) ∧ ∀ x, x ≠ 1 → h' x = h x := fun h2 e2 o2 => by
    have e : ua v 1 (v 1 - am N0 oa ob oc gk 1) 2 = v 2 := ua_ne _ _ (by omega)
    obtain ⟨h', r1, r2, r3⟩ := m_goC D h16 hs K x2 (numI ob) x6 hg i e2 hc (by rw [e]; exact hvc)
    rw [e] at r2
    exact ⟨h', r1, r2, fun x hx => by rw [r3 x hx, o2 x hx]⟩
  unfold f_X12_go_c123
  by_cases e3 : gk = 3
  · rw [if_pos (show nI gk = (3 : Int32) by rw [e3]; rfl)]
    refine go h ?_ (fun _ _ => rfl)
    rw [show am N0 oa ob oc gk 1 = 0 by unfold am aB; rw [if_neg (by decide), if_pos rfl, if_pos e3], Nat.sub_zero, ua_self]
    exact h1
  · rw [if_neg (show ¬ nI gk = (3 : Int32) from fun w => e3 ((n_d gk 3 hg (by omega)).mp w))]
    obtain ⟨x, hob⟩ := Option.isSome_iff_exists.mp (hb e3)
    have hx := h16 1 x (by omega) hob
    have en : numI ob = nI x := by rw [hob]; rfl
    have st : ∀ u, am N0 oa ob oc gk 1 = u → ∃ h', f_X12_go_c160 K x2 (numI ob) (numI oc) x6 (nI i) (nI gk) 1 (nI (63 + x)) (h 1 (63 + x)) (nI u) h = K x6 (nI (i + 1)) h' ∧ h' 1 = S3 N1 oa ob oc (ua (ua v 1 (v 1 - am N0 oa ob oc gk 1)) 2 (v 2 - am N0 oa ob oc gk 2)) ∧ ∀ x, x ≠ 1 → h' x = h x := fun u hu => by
      unfold f_X12_go_c160
      rw [og_in _ (show 63 + x < 193 by omega) (by omega), nI_clamp (show 63 + x < 2 ^ 31 by omega), mw_v]
      refine go _ ?_ (fun y hy => mm_up_ne _ _ _ hy)
      rw [hu] at hvb ⊢
      exact m_take (N0 := N0) D h1 (j := 1) (by omega) hob hvb
    rw [en] at st ⊢
    rw [show (63 : Int32) = nI 63 from rfl, nI_add, og_in _ (show 63 + x < 193 by omega) (by omega), nI_clamp (show 63 + x < 2 ^ 31 by omega), m_wearS h16 hs h1 hx, op_v, op_v]
    by_cases e2 : gk = 2
    · rw [if_pos (show nI gk = (2 : Int32) by rw [e2]; rfl), show (2 : Int32) = nI 2 from rfl, pk_mul]
      exact st _ (by unfold am aB; rw [if_neg (by decide), if_pos rfl, if_neg e3, if_pos e2, hob])
    · rw [if_neg (show ¬ nI gk = (2 : Int32) from fun w => e2 ((n_d gk 2 hg (by omega)).mp w))]
      exact st _ (by unfold am aB; rw [if_neg (by decide), if_pos rfl, if_neg e3, if_neg e2, hob])
theorem open_all {lone : Bool} {oa ob oc : Option Nat} {g : Nat} (hg : g < 4) (ho : gOpen lone oa ob oc g = true) : (g = 0 → oa.isSome = true) ∧ (g ≠ 3 → ob.isSome = true) ∧ (g = 1 → oc.isSome = true) := by
  unfold gOpen at ho
  cases hlo : lone with
  | true =>
    rw [hlo, if_pos rfl, Bool.and_eq_true] at ho
    have e2 := of_decide_eq_true ho.1
    exact ⟨fun h => by omega, fun _ => ho.2, fun h => by omega⟩
  | false =>
    rw [hlo, if_neg (by decide)] at ho
    refine ⟨fun h => ?_, fun h => ?_, fun h => ?_⟩
    · rw [if_pos h, Bool.and_eq_true] at ho
      exact ho.1
    · by_cases e0 : g = 0
      · rw [if_pos e0, Bool.and_eq_true] at ho
        exact ho.2
      · rw [if_neg e0] at ho
        by_cases e1 : g = 1
        · rw [if_pos e1, Bool.and_eq_true] at ho
          exact ho.1
        · rw [if_neg e1, if_pos (by omega)] at ho
          exact ho
    · rw [if_neg (by omega), if_pos h, Bool.and_eq_true] at ho
      exact ho.2
/-- all nine, of the model -/
theorem m_goes {N0 N1 : Nat → Int32} {lone : Bool} {oa ob oc : Option Nat} (D : DJ oa ob oc) (h16 : ∀ j x, j < 3 → w3 oa ob oc j = some x → x < 16) (hs : ∀ x, x < 16 → N1 (47 + x) = N0 (47 + x)) {br : Nat → Nat} (hbr : okr (okQ N0 lone oa ob oc) nQ 9 0 q00 br) (x6 : Int32) : ∀ (d i f : Nat) (h : Mm), i + d = 9 → d < f → h 1 = S3 N1 oa ob oc (vS N0 oa ob oc br i) → (∀ j, j < 9 → h 16 j = nI (br j)) →
    ∃ h', f_X12_go_c85 (numI oa) (numI ob) (numI oc) f x6 (nI i) h = some (x6, h') ∧ h' 1 = S3 N1 oa ob oc (vS N0 oa ob oc br 9) ∧ ∀ x, x ≠ 1 → h' x = h x := by
  intro d
  induction d with
  | zero =>
    intro i f h hi hf h1 h9
    obtain ⟨f, rfl⟩ := Nat.exists_eq_succ_of_ne_zero (show f ≠ 0 by omega)
    have e : i = 9 := by omega
    subst e
    rw [f_X12_go_c85, if_pos (show (9 : Int32) ≤ nI 9 by decide)]
    exact ⟨h, rfl, h1, fun _ _ => rfl⟩
  | succ d ih =>
    intro i f h hi hf h1 h9
    obtain ⟨f, rfl⟩ := Nat.exists_eq_succ_of_ne_zero (show f ≠ 0 by omega)
    have hi9 : i < 9 := by omega
    obtain ⟨hg, hok⟩ := okr_at hbr hi9
    obtain ⟨oA, oB, oC⟩ := open_all hg (okQ_open hok)
    have s0 := vS_s hbr hi9 (j := 0) (by omega)
    have s1 := vS_s hbr hi9 (j := 1) (by omega)
    have s2 := vS_s hbr hi9 (j := 2) (by omega)
    have go : ∀ h2 : Mm, h2 1 = S3 N1 oa ob oc (ua (vS N0 oa ob oc br i) 0 (vS N0 oa ob oc br i 0 - am N0 oa ob oc (br i) 0)) → (∀ x, x ≠ 1 → h2 x = h x) → ∃ h', f_X12_go_c123 (f_X12_go_c85 (numI oa) (numI ob) (numI oc) f) (numI oa) (numI ob) (numI oc) x6 (nI i) (nI (br i)) h2 = some (x6, h') ∧ h' 1 = S3 N1 oa ob oc (vS N0 oa ob oc br 9) ∧ ∀ x, x ≠ 1 → h' x = h x := fun h2 e2 o2 => by
      have n1 : ua (vS N0 oa ob oc br i) 0 (vS N0 oa ob oc br i 0 - am N0 oa ob oc (br i) 0) 1 = vS N0 oa ob oc br i 1 := ua_ne _ _ (by omega)
      have n2 : ua (vS N0 oa ob oc br i) 0 (vS N0 oa ob oc br i 0 - am N0 oa ob oc (br i) 0) 2 = vS N0 oa ob oc br i 2 := ua_ne _ _ (by omega)
      obtain ⟨h3, r1, r2, r3⟩ := m_goB D h16 hs (f_X12_go_c85 (numI oa) (numI ob) (numI oc) f) (numI oa) x6 hg i e2 oB oC (by rw [n1]; exact s1.1) (by rw [n2]; exact s2.1)
      rw [n1, n2] at r2
      rw [r1]
      obtain ⟨h', t1, t2, t3⟩ := ih (i + 1) f h3 (by omega) (by omega) (by
        rw [r2]
        refine S3_congr (fun j hj => ?_)
        rcases (show j = 0 ∨ j = 1 ∨ j = 2 by omega) with rfl | rfl | rfl
        · rw [ua_ne _ _ (by omega), ua_ne _ _ (by omega), ua_eq, s0.2]
        · rw [ua_ne _ _ (by omega), ua_eq, s1.2]
        · rw [ua_eq, s2.2]) (fun j hj => by rw [r3 _ (by omega), o2 _ (by omega)]; exact h9 j hj)
      exact ⟨h', t1, t2, fun x hx => by rw [t3 x hx, r3 x hx, o2 x hx]⟩
    rw [f_X12_go_c85, if_neg (show ¬ (9 : Int32) ≤ nI i from nI_ge (b := 9) hi9 (by omega)), og_in _ hi9 (by omega), nI_clamp (show i < 2 ^ 31 by omega), h9 i hi9, mv_v]
    by_cases e0 : br i = 0
    · rw [if_pos (show nI (br i) = (0 : Int32) by rw [e0]; rfl)]
      obtain ⟨x, hoa⟩ := Option.isSome_iff_exists.mp (oA e0)
      have hx := h16 0 x (by omega) hoa
      have en : numI oa = nI x := by rw [hoa]; rfl
      have ea : am N0 oa ob oc (br i) 0 = oW N0 (some x) := by
        unfold am aA
        rw [if_pos rfl, if_pos e0, hoa]
      have s01 := s0.1
      rw [ea] at go s01
      rw [en] at go ⊢
      rw [show (63 : Int32) = nI 63 from rfl, nI_add, og_in _ (show 63 + x < 193 by omega) (by omega), m_wearS h16 hs h1 hx, op_v, og_in _ (show 63 + x < 193 by omega) (by omega), nI_clamp (show 63 + x < 2 ^ 31 by omega), mw_v]
      refine go _ ?_ (fun y hy => mm_up_ne _ _ _ hy)
      exact m_take (N0 := N0) D h1 (j := 0) (by omega) hoa s01
    · rw [if_neg (show ¬ nI (br i) = (0 : Int32) from fun w => e0 ((n_d (br i) 0 hg (by omega)).mp w))]
      refine go h ?_ (fun _ _ => rfl)
      rw [show am N0 oa ob oc (br i) 0 = 0 by unfold am aA; rw [if_pos rfl, if_neg e0], Nat.sub_zero, ua_self]
      exact h1
