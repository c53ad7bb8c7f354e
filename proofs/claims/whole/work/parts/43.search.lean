theorem k_prepareGoings {g : Mm} {N : Nat → Int32} (hW : WR g 1 N) (hF : WF N) {oa ob oc : Option Nat} (ha : ∀ x, oa = some x → x < 16) (hb : ∀ x, ob = some x → x < 16) (hc : ∀ x, oc = some x → x < 16) {lone : Bool} (hR : RF oa ob oc g) (hl : g 90 1 = nI (b01 lone)) :
    ∃ g', f_X9_prepareGoings 90 1 g = some g' ∧ (∀ i, i < 4 → g' 92 i = nI (b01 (gOpen lone oa ob oc i)) ∧ TM1 N oa ob oc i g') ∧ (∀ i, i < 3 → g' 125 i = nI (oL N (w3 oa ob oc i))) ∧ ∀ x, x < 92 ∨ 108 ≤ x → x ≠ 125 → g' x = g x := by
  obtain ⟨g1, r1, r2, r3⟩ := k_goings hF ha hb hc (lone := lone) 4 0 FU g (by omega) (fu_lt (by omega)) hW hR hl (fun i hi => by omega)
  obtain ⟨g2, t1, t2, t3⟩ := k_firsts hF ha hb hc 3 0 FU g1 (by omega) (fu_lt (by omega)) (hW.kept' (fun a _ _ => r3 a (by omega))) (fun i hi => by rw [r3 _ (by omega)]; exact hR i hi) (fun i hi => by omega)
  refine ⟨g2, ?_, fun i hi => ?_, t2, fun x hx h125 => by rw [t3 x h125, r3 x hx]⟩
  · unfold f_X9_prepareGoings
    exact Eq.trans r1 t1
  · obtain ⟨a1, a2, a3, a4, a5⟩ := r2 i hi
    exact ⟨by rw [t3 _ (by omega)]; exact a1, fun j hj => by rw [t3 _ (by omega), t3 _ (by omega)]; exact a2 j hj, by rw [t3 _ (by omega)]; exact a3, by rw [t3 _ (by omega)]; exact a4, by rw [t3 _ (by omega)]; exact a5⟩
theorem k_prepareLeast {g : Mm} {lim : Nat} {op : Nat → Bool} {mi : Nat → Nat → Nat} (hl : lim ≤ 999) (hm : ∀ k j, j < 9 → mi k j ≤ 60) (e : g 90 2 = nI lim) (h1 : ∀ k, k < 4 → g 92 k = nI (b01 (op k))) (h2 : ∀ k j, k < 4 → j < 9 → g (94 + k) j = nI (mi k j)) : ∃ g', f_X9_prepareLeast 90 g = some g' ∧ (∀ j, j ≤ 9 → g' 108 j = nI (lsN lim op mi j)) ∧ ∀ x, x ≠ 108 → g' x = g x := by
  unfold f_X9_prepareLeast
  rw [mw_v]
  have o : ∀ x, x ≠ 108 → mm_up g (90 + 18) (9 : Int32).toNatClampNeg 0 x = g x := fun x hx => mm_up_ne _ _ _ hx
  obtain ⟨g', r1, r2, r3⟩ := k_least hl hm 9 FU (mm_up g (90 + 18) (9 : Int32).toNatClampNeg 0) (by omega) (fu_lt (by omega)) (by rw [o _ (by omega)]; exact e) (fun k hk => by rw [o _ (by omega)]; exact h1 k hk) (fun k j hk hj => by rw [o _ (by omega)]; exact h2 k j hk hj) (fun j q1 q2 => by
    have : j = 9 := by omega
    subst this
    rw [show (108 : Nat) = 90 + 18 from rfl, mm_up_eq]
    rfl)
  exact ⟨g', r1, r2, fun x hx => by rw [r3 x hx, o x hx]⟩
theorem k_shoeOr {N : Nat → Int32} {ns : Nat} (hns : ns ≤ 16) (ens : N 1 = nI ns) {o : Option Nat} (h : ∀ x, o = some x → x < ns) {g : Mm} (hW : WR g 1 N) : f_X10_shoeOrNull 1 (numI o) g = some (o.map (fun x => 5 + x)) := by
  cases o with
  | none => exact k_shoeOrNull_no hW hns ens
  | some x => exact k_shoeOrNull hW hns ens (h x rfl)
theorem k_searchW {c : Mm} {N : Nat → Int32} (hW : WR c 1 N) (hF : WF N) {ns : Nat} (hns : ns ≤ 16) (ens : N 1 = nI ns) {oa ob oc : Option Nat} (ha : ∀ x, oa = some x → x < ns) (hb : ∀ x, ob = some x → x < ns) (hc : ∀ x, oc = some x → x < ns) {lone : Bool} (h1 : lone = false → ∀ x, oa = some x → N (31 + x) = N 3) (h2 : lone = false → ∀ x, ob = some x ∨ oc = some x → ¬ N (31 + x) = N 3) {lim : Nat} (hlim : lim ≤ 999) {q : Nat} (hq : q < 1000000) (e3 : c 135 3 = nI q) (hs : ∀ k, k < 10935 → ∃ v, v ≤ q ∧ c 138 k = nI v) (z1 : c 110 0 = 0) (z2 : c 111 0 = 0) (z3 : ∀ s, s < 4 → c 113 s = 0) (z4 : c 123 0 = 0) :
    ∃ f br bc bt c', f_X9_search 90 1 (nI (b01 lone)) (numI oa) (numI ob) (numI oc) (nI lim) c = some (nI (b01 f), c') ∧ B1 (okQ N lone oa ob oc) nQ (mQ N oa ob oc) (cQ N lone oa ob) lim q00 f br bc bt ∧ (∀ y, Vd (okQ N lone oa ob oc) nQ (mQ N oa ob oc) lim q00 y → dom f bc bt (sa (cQ N lone oa ob) 9 0 y) (sa (mQ N oa ob oc) 9 0 y)) ∧ CB f br bc bt c' ∧ bc ≤ 20000 ∧ bt ≤ 20000 ∧ RF oa ob oc c' ∧ (∀ k, k < 4 → c' (104 + k) 0 = nI (aA N oa k) ∧ c' (104 + k) 1 = nI (aB N ob k) ∧ c' (104 + k) 2 = nI (aC N oc k)) ∧ (∀ x, x < 90 ∨ 140 ≤ x → c' x = c x) ∧ c' 135 3 = nI (q + 1) ∧ (∀ k, k < 10935 → ∃ v, v ≤ q + 1 ∧ c' 138 k = nI v) ∧ c' 110 0 = 0 ∧ c' 111 0 = 0 ∧ (∀ s, s < 4 → c' 113 s = 0) ∧ c' 123 0 = 0 := by
  have ha' : ∀ x, oa = some x → x < 16 := fun x e => by have := ha x e; omega
  have hb' : ∀ x, ob = some x → x < 16 := fun x e => by have := hb x e; omega
  have hc' : ∀ x, oc = some x → x < 16 := fun x e => by have := hc x e; omega
  unfold f_X9_search
  rw [k_shoeOr hns ens ha hW, op_v, os_num ha', og_t, mw_v]
  obtain ⟨g1, e1⟩ : ∃ g1, g1 = mm_up c (90 + 1) (0 : Int32).toNatClampNeg (mm_num (oa.map (fun x => 5 + x))) := ⟨_, rfl⟩
  have o1 : ∀ x, x ≠ 91 → g1 x = c x := fun x hx => by rw [e1]; exact mm_up_ne _ _ _ hx
  rw [← e1, k_shoeOr hns ens hb (hW.kept' (fun a _ _ => o1 a (by omega))), op_v, os_num hb', og_t, mw_v]
  obtain ⟨g2, e2⟩ : ∃ g2, g2 = mm_up g1 (90 + 1) (1 : Int32).toNatClampNeg (mm_num (ob.map (fun x => 5 + x))) := ⟨_, rfl⟩
  have o2 : ∀ x, x ≠ 91 → g2 x = c x := fun x hx => by rw [e2, mm_up_ne _ _ _ hx]; exact o1 x hx
  rw [← e2, k_shoeOr hns ens hc (hW.kept' (fun a _ _ => o2 a (by omega))), op_v, os_num hc', og_t, mw_v]
  obtain ⟨g3, e4⟩ : ∃ g3, g3 = mm_up g2 (90 + 1) (2 : Int32).toNatClampNeg (mm_num (oc.map (fun x => 5 + x))) := ⟨_, rfl⟩
  have o3 : ∀ x, x ≠ 91 → g3 x = c x := fun x hx => by rw [e4, mm_up_ne _ _ _ hx]; exact o2 x hx
  have R3 : RF oa ob oc g3 := fun j hj => by
    rw [e4, show (91 : Nat) = 90 + 1 from rfl, mm_up_eq, e2, mm_up_eq, e1, mm_up_eq]
    rcases (show j = 0 ∨ j = 1 ∨ j = 2 by omega) with rfl | rfl | rfl <;> rfl
  rw [← e4, show mm_01 (nI (b01 lone)) = true by cases lone <;> rfl, og_t, mw_v, mw_v]
  unfold f_X0_forget
  rw [mw_v, op_v]
  obtain ⟨g6, e6⟩ : ∃ g6, g6 = mm_up (mm_up (mm_up g3 90 1 (nI (b01 lone))) 90 2 (nI lim)) (90 + 45) 3 (mm_up (mm_up g3 90 1 (nI (b01 lone))) 90 2 (nI lim) (90 + 45) 3 + 1) := ⟨_, rfl⟩
  rw [← e6]
  have o6 : ∀ x, x ≠ 90 → x ≠ 91 → x ≠ 135 → g6 x = c x := fun x q1 q2 q3 => by rw [e6, mm_up_ne _ _ _ q3, mm_up_ne _ _ _ q1, mm_up_ne _ _ _ q1]; exact o3 x q2
  have R6 : RF oa ob oc g6 := fun j hj => by
    rw [e6, mm_up_ne _ _ _ (by omega), mm_up_ne _ _ _ (by omega), mm_up_ne _ _ _ (by omega)]
    exact R3 j hj
  have l6 : g6 90 1 = nI (b01 lone) := by
    rw [e6, mm_up_ne _ _ _ (show 90 ≠ 90 + 45 by omega), mm_up_eq, upd_ne _ _ (by omega), mm_up_eq, upd_eq]
  have m6 : g6 90 2 = nI lim := by
    rw [e6, mm_up_ne _ _ _ (show 90 ≠ 90 + 45 by omega), mm_up_eq, upd_eq]
  have q6 : g6 135 3 = nI (q + 1) := by
    rw [e6, show (135 : Nat) = 90 + 45 from rfl, mm_up_eq, upd_eq, mm_up_ne _ _ _ (show 90 + 45 ≠ 90 by omega), mm_up_ne _ _ _ (show 90 + 45 ≠ 90 by omega), o3 _ (show 90 + 45 ≠ 91 by omega), show c (90 + 45) 3 = nI q from e3, nI_1]
  obtain ⟨g7, r7, t7, s7, o7⟩ := k_prepareGoings (hW.kept' (fun a _ _ => o6 a (by omega) (by omega) (by omega))) hF ha' hb' hc' R6 l6
  rw [r7, op_v]
  obtain ⟨g8, r8, t8, o8⟩ := k_prepareLeast (op := gOpen lone oa ob oc) (mi := mQ N oa ob oc) hlim (fun k j hj => mQ_le hF oa ob oc k j hj) (by rw [o7 90 (by omega) (by omega)]; exact m6) (fun k hk => (t7 k hk).1) (fun k j hk hj => ((t7 k hk).2.1 j hj).1)
  rw [r8, op_v, mw_v, mw_v, mw_v]
  obtain ⟨g9, e9⟩ : ∃ g9, g9 = mm_up (mm_up (mm_up g8 90 15 0) 90 17 0) 90 18 0 := ⟨_, rfl⟩
  rw [← e9]
  have o9 : ∀ x, x ≠ 90 → g9 x = g8 x := fun x hx => by rw [e9, mm_up_ne _ _ _ hx, mm_up_ne _ _ _ hx, mm_up_ne _ _ _ hx]
  have f9 : ∀ x, x < 90 ∨ x = 91 ∨ 109 ≤ x → x ≠ 125 → g9 x = g6 x := fun x q1 q2 => by rw [o9 x (by omega), o8 x (by omega), o7 x (by omega) q2]
  have w9 : ∀ s, s < 3 → g9 90 s = g6 90 s := fun s hs => by
    rw [e9, mm_up_eq, upd_ne _ _ (by omega), mm_up_eq, upd_ne _ _ (by omega), mm_up_eq, upd_ne _ _ (by omega), o8 _ (by omega), o7 _ (by omega) (by omega)]
  have X9 : EX g9 (q + 1) := by
    refine ⟨by rw [f9 135 (by omega) (by omega)]; exact q6, fun k hk h => ?_, fun k hk => ?_⟩
    · obtain ⟨v, v1, v2⟩ := hs k hk
      rw [f9 138 (by omega) (by omega), o6 _ (by omega) (by omega) (by omega), v2, nI_eq (by omega) (by omega)] at h
      omega
    · obtain ⟨v, v1, v2⟩ := hs k hk
      exact ⟨v, by omega, by rw [f9 138 (by omega) (by omega), o6 _ (by omega) (by omega) (by omega)]; exact v2⟩
  have T9 : WT N lone oa ob oc lim (lsN lim (gOpen lone oa ob oc) (mQ N oa ob oc)) g9 := by
    refine ⟨by rw [w9 1 (by omega)]; exact l6, by rw [w9 2 (by omega)]; exact m6, fun k hk => ?_, fun k j hk hj => ?_, fun k j hk hj ho => ?_, fun k hk => ?_, fun j hj => ?_⟩
    · rw [o9 _ (by omega), o8 _ (by omega)]
      exact (t7 k hk).1
    · rw [o9 _ (by omega), o8 _ (by omega)]
      exact ((t7 k hk).2.1 j hj).1
    · rw [o9 _ (by omega), o8 _ (by omega), ← cost_cQ h1 h2 hk ho j]
      exact ((t7 k hk).2.1 j hj).2
    · rw [o9 _ (by omega), o8 _ (by omega)]
      exact (t7 k hk).2.2
    · rw [o9 _ (by omega)]
      exact t8 j hj
  have V9 : CVd N lone oa ob oc (fun _ => 0) g9 0 := by
    have s9 : ∀ i, i < 3 → g9 125 i = nI (oL N (w3 oa ob oc i)) := fun i hi => by rw [o9 _ (by omega), o8 _ (by omega)]; exact s7 i hi
    have k9 : ∀ x, x ≠ 90 → x ≠ 91 → x ≠ 125 → x ≠ 135 → 109 ≤ x → g9 x = c x := fun x q1 q2 q3 q4 q5 => by rw [f9 x (by omega) q3, o6 x q1 q2 q4]
    refine ⟨?_, ?_, ?_, ?_, ?_, ?_, ?_, ?_, ?_, ?_⟩
    · rw [k9 _ (by omega) (by omega) (by omega) (by omega) (by omega)]; exact z1
    · rw [k9 _ (by omega) (by omega) (by omega) (by omega) (by omega)]; exact z2
    · rw [k9 _ (by omega) (by omega) (by omega) (by omega) (by omega)]; exact z3 0 (by omega)
    · rw [k9 _ (by omega) (by omega) (by omega) (by omega) (by omega)]; exact z3 1 (by omega)
    · rw [k9 _ (by omega) (by omega) (by omega) (by omega) (by omega)]; exact z3 2 (by omega)
    · rw [k9 _ (by omega) (by omega) (by omega) (by omega) (by omega)]; exact z3 3 (by omega)
    · rw [k9 _ (by omega) (by omega) (by omega) (by omega) (by omega)]; exact z4
    · rw [s9 0 (by omega), show uA N oa (qa nQ 0 0 q00 (pth (fun _ => 0))) = 0 by unfold uA q00; rw [qa, Nat.zero_mul]]; rfl
    · rw [s9 1 (by omega), show uB N ob (qa nQ 0 0 q00 (pth (fun _ => 0))) = 0 by unfold uB q00; rw [qa]; simp]; rfl
    · rw [s9 2 (by omega), show uC N oc (qa nQ 0 0 q00 (pth (fun _ => 0))) = 0 by unfold uC q00; rw [qa, Nat.zero_mul]]; rfl
  obtain ⟨f, br, bc, bt, a, g10, r10, b1, b2, b3, b4, b5, b6, b7, b8, b9⟩ := k_tryRows (lim := lim) hF ha' hb' hc' hlim (lsN_9 _ _ _) (lsN_sa lim) (fun i _ => lsN_le hlim _ _ i) X9 (fun k hk h => by
    obtain ⟨v, v1, v2⟩ := hs k hk
    rw [f9 138 (by omega) (by omega), o6 _ (by omega) (by omega) (by omega), v2, nI_eq (by omega) (by omega)] at h
    omega) T9 V9 (by rw [e9, mm_up_eq, upd_ne _ _ (by omega), mm_up_eq, upd_ne _ _ (by omega), mm_up_eq, upd_eq])
  rw [r10, op_v, b3.1, show mm_01 (nI (b01 f)) = true by cases f <;> rfl, og_t]
  refine ⟨f, br, bc, bt, g10, rfl, b1, b2, b3, b8, b9, fun j hj => ?_, b5.2.2.2.2.2.1, fun x hx => ?_, b4.1, b4.2.2, b6.1, b6.2.1, fun s hs => ?_, b6.2.2.2.2.2.2.1⟩
  · rw [b7 91 (by omega), f9 91 (by omega) (by omega)]
    exact R6 j hj
  · rw [b7 x (by omega), f9 x (by omega) (by omega), o6 x (by omega) (by omega) (by omega)]
  · rcases (show s = 0 ∨ s = 1 ∨ s = 2 ∨ s = 3 by omega) with rfl | rfl | rfl | rfl
    · exact b6.2.2.1
    · exact b6.2.2.2.1
    · exact b6.2.2.2.2.1
    · exact b6.2.2.2.2.2.1
