theorem op_q {α β : Type} (v : α) (k : α → Option β) : op (some v) k = k v := id (op_v v k)
theorem ob_q {α β : Type} (v : α) (g : Mm) (k : α → Mm → Option β) : ob (some (v, g)) k = k v g := id (ob_v v g k)
theorem mv_q {α β : Type} (v : α) (k : α → Option β) : mv v k = k v := id (mv_v v k)
theorem mw_q {β : Type} (g : Mm) (a b : Nat) (x : Int32) (k : Mm → Option β) : mw g a b x k = k (mm_up g a b x) := id (mw_v g a b x k)
/-! a walk's numbers, of a world's row N; oa, ob, oc: the shoes worn -/
def vN (N : Nat → Int32) (j : Nat) : Nat := (N j).toNatClampNeg
def oW (N : Nat → Int32) (o : Option Nat) : Nat := match o with
  | none => 0
  | some x => if N (47 + x) = 3 then 2 else 1
def oS (N : Nat → Int32) (o : Option Nat) (u : Nat) : Bool := match o with
  | none => true
  | some x => decide (u ≤ vN N (63 + x))
def oC (N : Nat → Int32) (o : Option Nat) (k : Nat) : Nat := match o with
  | none => 0
  | some x => if N (79 + x) = 1 then 16 * vN N (95 + vN N (47 + x)) else vN N 2 * vN N (108 + k)
theorem vN_of {N : Nat → Int32} {j B : Nat} (hB : B < 2 ^ 31) (h : ∃ v, v ≤ B ∧ N j = nI v) : N j = nI (vN N j) ∧ vN N j ≤ B := by
  obtain ⟨v, v1, v2⟩ := h
  unfold vN
  rw [v2, nI_clamp (by omega)]
  exact ⟨rfl, v1⟩
theorem oW_le (N : Nat → Int32) (o : Option Nat) : oW N o ≤ 2 := by
  unfold oW
  split
  · omega
  · split <;> omega
theorem oC_le {N : Nat → Int32} (hF : WF N) (o : Option Nat) (ho : ∀ x, o = some x → x < 16) {k : Nat} (hk : k < 9) : oC N o k ≤ 1584 := by
  unfold oC
  split
  · omega
  · rename_i x
    have hx := ho x rfl
    have h1 := (vN_of (by omega) (wf_sort hF hx)).2
    have h2 := (vN_of (by omega) (wf_rate hF (show vN N (47 + x) < 4 by omega))).2
    have h3 := (vN_of (by omega) (wf_fine hF)).2
    have h4 := (vN_of (by omega) (wf_watch hF hk)).2
    split
    · omega
    · calc vN N 2 * vN N (108 + k) ≤ 99 * 16 := Nat.mul_le_mul h3 h4
        _ ≤ 1584 := by omega
theorem m_wear {m : Mm} {N : Nat → Int32} (hN : m 1 = N) {x : Nat} (hx : x < 16) : f_X12_wear (nI x) m = some (nI (oW N (some x))) := by
  unfold f_X12_wear oW
  rw [show (47 : Int32) = nI 47 from rfl, nI_add, og_in _ (show 47 + x < 193 by omega) (by omega), nI_clamp (by omega), hN]
  by_cases h : N (47 + x) = 3
  · rw [if_pos h]
    show _ = some (nI (if N (47 + x) = 3 then 2 else 1))
    rw [if_pos h]
    rfl
  · rw [if_neg h]
    show _ = some (nI (if N (47 + x) = 3 then 2 else 1))
    rw [if_neg h]
    rfl
theorem m_lasts {m : Mm} {N : Nat → Int32} (hN : m 1 = N) (hF : WF N) {o : Option Nat} (ho : ∀ x, o = some x → x < 16) {u : Nat} (hu : u < 2 ^ 31) : f_X12_lasts (numI o) (nI u) m = some (if oS N o u = true then 1 else 0) := by
  unfold f_X12_lasts oS numI
  cases o with
  | none => rw [if_pos (show (-1 : Int32) < 0 by decide), if_pos rfl]
  | some x =>
    have hx := ho x rfl
    obtain ⟨e, le⟩ := vN_of (by omega) (wf_soles hF hx)
    show (if nI x < 0 then _ else _) = some (if decide (u ≤ vN N (63 + x)) = true then 1 else 0)
    rw [if_neg (show ¬ nI x < 0 from nI_pos (by omega)), show (63 : Int32) = nI 63 from rfl, nI_add, og_in _ (show 63 + x < 193 by omega) (by omega), nI_clamp (by omega), hN, e]
    by_cases h : u ≤ vN N (63 + x)
    · rw [if_neg (nI_nlt h (by omega)), decide_eq_true h, if_pos rfl]
    · rw [if_pos (nI_lt (by omega) (by omega)), decide_eq_false h, if_neg (by decide)]
theorem m_costOf {m : Mm} {N : Nat → Int32} (hN : m 1 = N) (hF : WF N) {x k : Nat} (hx : x < 16) (hk : k < 9) : f_X12_costOf (nI x) (nI k) m = some (nI (oC N (some x) k)) := by
  have h1 := vN_of (by omega) (wf_sort hF hx)
  have h2 := vN_of (by omega) (wf_rate hF (show vN N (47 + x) < 4 by omega))
  have h3 := vN_of (by omega) (wf_fine hF)
  have h4 := vN_of (by omega) (wf_watch hF hk)
  unfold f_X12_costOf
  show _ = some (nI (if N (79 + x) = 1 then 16 * vN N (95 + vN N (47 + x)) else vN N 2 * vN N (108 + k)))
  rw [show (79 : Int32) = nI 79 from rfl, show (47 : Int32) = nI 47 from rfl, show (95 : Int32) = nI 95 from rfl, show (108 : Int32) = nI 108 from rfl, show (16 : Int32) = nI 16 from rfl, nI_add, nI_add, nI_add, og_in _ (show 79 + x < 193 by omega) (by omega), nI_clamp (show 79 + x < 2 ^ 31 by omega), nI_clamp (show 47 + x < 2 ^ 31 by omega), nI_clamp (show 108 + k < 2 ^ 31 by omega), hN]
  by_cases h : N (79 + x) = 1
  · rw [if_pos h, if_pos h, og_in _ (show 47 + x < 193 by omega) (by omega), h1.1, nI_add, og_in _ (show 95 + vN N (47 + x) < 193 by omega) (by omega), nI_clamp (show 95 + vN N (47 + x) < 2 ^ 31 by omega), h2.1, pk_mul]
  · rw [if_neg h, if_neg h, og_in _ (show 108 + k < 193 by omega) (by omega), h4.1, show (2 : Int32).toNatClampNeg = 2 from rfl, h3.1, pk_mul]
def gOpen (lone : Bool) (oa ob oc : Option Nat) (g : Nat) : Bool := if lone = true then decide (g = 2) && ob.isSome else if g = 0 then oa.isSome && ob.isSome else if g = 1 then ob.isSome && oc.isSome else if g = 2 then ob.isSome else true
def fst (oa ob : Option Nat) (g : Nat) : Option Nat := if g = 0 then oa else if g = 3 then none else ob
def snd (ob oc : Option Nat) (g : Nat) : Option Nat := if g = 0 then ob else if g = 1 then oc else none
def pays (N : Nat → Int32) (lone : Bool) (ob : Option Nat) : Bool := lone && match ob with
  | none => false
  | some x => decide (N (31 + x) = N 3)
def cQ (N : Nat → Int32) (lone : Bool) (oa ob : Option Nat) (g k : Nat) : Nat := if g = 0 then oC N oa k else if pays N lone ob = true then oC N ob k else 0
def mQ (N : Nat → Int32) (oa ob oc : Option Nat) (g k : Nat) : Nat := mnt N g k (fst oa ob g) (snd ob oc g)
/-- what is added behind a mile: three shoes' soles, and a mile gone bare -/
def aA (N : Nat → Int32) (oa : Option Nat) (g : Nat) : Nat := if g = 0 then oW N oa else 0
def aB (N : Nat → Int32) (ob : Option Nat) (g : Nat) : Nat := if g = 3 then 0 else if g = 2 then 2 * oW N ob else oW N ob
def aC (N : Nat → Int32) (oc : Option Nat) (g : Nat) : Nat := if g = 1 then oW N oc else 0
theorem n_d : ∀ g k : Nat, g < 4 → k < 4 → (nI g = nI k ↔ g = k) := fun g k h1 h2 => nI_eq (by omega) (by omega)
/-- a sum's writes -/
def sumW (h : Mm) (j : Nat) (v9 v10 v11 v12 v13 v14 v15 : Int32) : Mm := mm_up (mm_up (mm_up (mm_up (mm_up (mm_up (mm_up h 9 j v9) 10 j v10) 11 j v11) 12 j v12) 13 j v13) 14 j v14) 15 j v15
theorem m_sum_c281 {h : Mm} {i g : Nat} (hi : i < 9) (hg : g < 4) {uc nb hp : Nat} {dc : Nat} (e13 : h 13 i = nI uc) (e14 : h 14 i = nI nb) (e15 : h 15 i = nI hp) : f_X12_sum_c281 (nI i) (nI g) 13 (nI i + 1) (h 13 i) (nI dc) h = some (mm_up (mm_up (mm_up h 13 (i + 1) (nI (uc + dc))) 14 (i + 1) (nI (nb + if g = 3 then 1 else 0))) 15 (i + 1) (nI (if g = 2 then hp + 1 else 0))) := by
  have k38 : ∀ (x : Int32) (h : Mm), f_X12_sum_c338 15 (nI (i + 1)) x h = some (mm_up h 15 (i + 1) x) := fun x h => by
    unfold f_X12_sum_c338
    rw [og_in _ (show i + 1 < 10 by omega) (by omega), nI_clamp (by omega), mw_v]
  have k09 : ∀ (v : Nat) (h : Mm), h 15 i = nI hp → f_X12_sum_c309 (nI i) (nI g) 14 (nI (i + 1)) (nI nb) (nI v) h = some (mm_up (mm_up h 14 (i + 1) (nI (nb + v))) 15 (i + 1) (nI (if g = 2 then hp + 1 else 0))) := fun v h hh => by
    unfold f_X12_sum_c309
    rw [og_in _ (show i + 1 < 10 by omega) (by omega), nI_clamp (show i + 1 < 2 ^ 31 by omega), mw_v, nI_add, nI_1]
    by_cases e : g = 2
    · subst e
      rw [if_pos (show nI 2 = (2 : Int32) from rfl), if_pos rfl, og_in _ (show i < 10 by omega) (by omega), nI_clamp (show i < 2 ^ 31 by omega), mm_up_ne _ _ _ (by omega), hh, nI_1, k38]
    · rw [if_neg (show ¬ nI g = (2 : Int32) from fun w => e ((n_d g 2 hg (by omega)).mp w)), if_neg e, k38]
      rfl
  unfold f_X12_sum_c281
  rw [nI_1, og_in _ (show i + 1 < 10 by omega) (by omega), nI_clamp (show i + 1 < 2 ^ 31 by omega), mw_v, og_in _ (show i < 10 by omega) (by omega), nI_clamp (show i < 2 ^ 31 by omega), mm_up_ne h _ _ (show 14 ≠ 13 by omega), e13, e14, nI_add]
  by_cases e : g = 3
  · subst e
    rw [if_pos (show nI 3 = (3 : Int32) from rfl), if_pos rfl, show (1 : Int32) = nI 1 from rfl, k09 1 _ (by rw [mm_up_ne _ _ _ (by omega)]; exact e15)]
  · rw [if_neg (show ¬ nI g = (3 : Int32) from fun w => e ((n_d g 3 hg (by omega)).mp w)), if_neg e, show (0 : Int32) = nI 0 from rfl, k09 0 _ (by rw [mm_up_ne _ _ _ (by omega)]; exact e15)]
theorem m_sum_c248 {h : Mm} {N : Nat → Int32} (hN : h 1 = N) {i g : Nat} (hi : i < 9) (hg : g < 4) {oc : Option Nat} (hc : ∀ x, oc = some x → x < 16) (ho : g = 1 → oc.isSome = true) {ub uc nb hp db : Nat} (e12 : h 12 i = nI ub) (e13 : h 13 i = nI uc) (e14 : h 14 i = nI nb) (e15 : h 15 i = nI hp) : f_X12_sum_c248 (numI oc) (nI i) (nI g) 12 (nI i + 1) (h 12 i) (nI db) h = some (mm_up (mm_up (mm_up (mm_up h 12 (i + 1) (nI (ub + db))) 13 (i + 1) (nI (uc + aC N oc g))) 14 (i + 1) (nI (nb + if g = 3 then 1 else 0))) 15 (i + 1) (nI (if g = 2 then hp + 1 else 0))) := by
  have go : ∀ dc : Nat, f_X12_sum_c281 (nI i) (nI g) 13 (nI i + 1) (mm_up h 12 (i + 1) (nI (ub + db)) 13 i) (nI dc) (mm_up h 12 (i + 1) (nI (ub + db))) = some (mm_up (mm_up (mm_up (mm_up h 12 (i + 1) (nI (ub + db))) 13 (i + 1) (nI (uc + dc))) 14 (i + 1) (nI (nb + if g = 3 then 1 else 0))) 15 (i + 1) (nI (if g = 2 then hp + 1 else 0))) := fun dc =>
    m_sum_c281 hi hg (by rw [mm_up_ne _ _ _ (by omega)]; exact e13) (by rw [mm_up_ne _ _ _ (by omega)]; exact e14) (by rw [mm_up_ne _ _ _ (by omega)]; exact e15)
  unfold f_X12_sum_c248
  rw [show nI i + 1 = nI (i + 1) from nI_1 i, og_in _ (show i + 1 < 10 by omega) (by omega), nI_clamp (show i + 1 < 2 ^ 31 by omega), mw_v, og_in _ (show i < 10 by omega) (by omega), nI_clamp (show i < 2 ^ 31 by omega), e12, nI_add, ← nI_1 i]
  unfold aC
  by_cases e : g = 1
  · subst e
    cases oc with
    | none => exact absurd (ho rfl) (by decide)
    | some x =>
      rw [if_pos (show nI 1 = (1 : Int32) from rfl), if_pos rfl, show numI (some x) = nI x from rfl, m_wear (m := mm_up h 12 (i + 1) (nI (ub + db))) (N := N) (by rw [mm_up_ne _ _ _ (by omega)]; exact hN) (hc x rfl), op_v]
      exact go _
  · rw [if_neg (show ¬ nI g = (1 : Int32) from fun w => e ((n_d g 1 hg (by omega)).mp w)), if_neg e]
    exact go 0
theorem m_sum_c200 {h : Mm} {N : Nat → Int32} (hN : h 1 = N) {i g : Nat} (hi : i < 9) (hg : g < 4) {ob oc : Option Nat} (hb : ∀ x, ob = some x → x < 16) (hc : ∀ x, oc = some x → x < 16) (hob : g ≠ 3 → ob.isSome = true) (ho : g = 1 → oc.isSome = true) {ua ub uc nb hp da : Nat} (e11 : h 11 i = nI ua) (e12 : h 12 i = nI ub) (e13 : h 13 i = nI uc) (e14 : h 14 i = nI nb) (e15 : h 15 i = nI hp) : f_X12_sum_c200 (numI ob) (numI oc) (nI i) (nI g) 11 (nI i + 1) (h 11 i) (nI da) h = some (mm_up (mm_up (mm_up (mm_up (mm_up h 11 (i + 1) (nI (ua + da))) 12 (i + 1) (nI (ub + aB N ob g))) 13 (i + 1) (nI (uc + aC N oc g))) 14 (i + 1) (nI (nb + if g = 3 then 1 else 0))) 15 (i + 1) (nI (if g = 2 then hp + 1 else 0))) := by
  have go : ∀ db : Nat, f_X12_sum_c248 (numI oc) (nI i) (nI g) 12 (nI i + 1) (mm_up h 11 (i + 1) (nI (ua + da)) 12 i) (nI db) (mm_up h 11 (i + 1) (nI (ua + da))) = some (mm_up (mm_up (mm_up (mm_up (mm_up h 11 (i + 1) (nI (ua + da))) 12 (i + 1) (nI (ub + db))) 13 (i + 1) (nI (uc + aC N oc g))) 14 (i + 1) (nI (nb + if g = 3 then 1 else 0))) 15 (i + 1) (nI (if g = 2 then hp + 1 else 0))) := fun db =>
    m_sum_c248 (by rw [mm_up_ne _ _ _ (by omega)]; exact hN) hi hg hc ho (by rw [mm_up_ne _ _ _ (by omega)]; exact e12) (by rw [mm_up_ne _ _ _ (by omega)]; exact e13) (by rw [mm_up_ne _ _ _ (by omega)]; exact e14) (by rw [mm_up_ne _ _ _ (by omega)]; exact e15)
  unfold f_X12_sum_c200
  rw [show nI i + 1 = nI (i + 1) from nI_1 i, og_in _ (show i + 1 < 10 by omega) (by omega), nI_clamp (show i + 1 < 2 ^ 31 by omega), mw_v, og_in _ (show i < 10 by omega) (by omega), nI_clamp (show i < 2 ^ 31 by omega), e11, nI_add, ← nI_1 i]
  unfold aB
  by_cases e3 : g = 3
  · subst e3
    rw [if_pos (show nI 3 = (3 : Int32) from rfl), if_pos rfl]
    exact go 0
  · rw [if_neg (show ¬ nI g = (3 : Int32) from fun w => e3 ((n_d g 3 hg (by omega)).mp w)), if_neg e3]
    cases ob with
    | none => exact absurd (hob e3) (by decide)
    | some x =>
      rw [show numI (some x) = nI x from rfl, m_wear (m := mm_up h 11 (i + 1) (nI (ua + da))) (N := N) (by rw [mm_up_ne _ _ _ (by omega)]; exact hN) (hb x rfl), op_v, op_v]
      by_cases e2 : g = 2
      · subst e2
        rw [if_pos (show nI 2 = (2 : Int32) from rfl), if_pos rfl, show (2 : Int32) = nI 2 from rfl, pk_mul]
        exact go _
      · rw [if_neg (show ¬ nI g = (2 : Int32) from fun w => e2 ((n_d g 2 hg (by omega)).mp w)), if_neg e2]
        exact go _
theorem m_sum_c103 {h : Mm} {N : Nat → Int32} (hN : h 1 = N) (hF : WF N) {i g : Nat} (hi : i < 9) (hg : g < 4) {oa ob oc : Option Nat} (ha : ∀ x, oa = some x → x < 16) (hb : ∀ x, ob = some x → x < 16) (hc : ∀ x, oc = some x → x < 16) (hoa : g = 0 → oa.isSome = true) (hob : g ≠ 3 → ob.isSome = true) (ho : g = 1 → oc.isSome = true) {c t ua ub uc nb hp dc : Nat} (e9 : h 9 i = nI c) (e10 : h 10 i = nI t) (e11 : h 11 i = nI ua) (e12 : h 12 i = nI ub) (e13 : h 13 i = nI uc) (e14 : h 14 i = nI nb) (e15 : h 15 i = nI hp) : f_X12_sum_c103 (numI oa) (numI ob) (numI oc) (nI i) (nI g) 9 (nI i + 1) (h 9 i) (nI dc) h = some (sumW h (i + 1) (nI (c + dc)) (nI (t + mQ N oa ob oc g i)) (nI (ua + aA N oa g)) (nI (ub + aB N ob g)) (nI (uc + aC N oc g)) (nI (nb + if g = 3 then 1 else 0)) (nI (if g = 2 then hp + 1 else 0))) := by
  have fin : f_X12_sum_c166 (numI oa) (numI ob) (numI oc) (nI i) (nI g) 10 (nI i + 1) (nI t) (nI g) (nI i) (numI (fst oa ob g)) (numI (snd ob oc g)) (mm_up h 9 (i + 1) (nI (c + dc))) = some (sumW h (i + 1) (nI (c + dc)) (nI (t + mQ N oa ob oc g i)) (nI (ua + aA N oa g)) (nI (ub + aB N ob g)) (nI (uc + aC N oc g)) (nI (nb + if g = 3 then 1 else 0)) (nI (if g = 2 then hp + 1 else 0))) := by
    have hN1 : mm_up h 9 (i + 1) (nI (c + dc)) 1 = N := by rw [mm_up_ne _ _ _ (by omega)]; exact hN
    have go : ∀ da : Nat, f_X12_sum_c200 (numI ob) (numI oc) (nI i) (nI g) 11 (nI i + 1) (mm_up (mm_up h 9 (i + 1) (nI (c + dc))) 10 (i + 1) (nI (t + mQ N oa ob oc g i)) 11 i) (nI da) (mm_up (mm_up h 9 (i + 1) (nI (c + dc))) 10 (i + 1) (nI (t + mQ N oa ob oc g i))) = some (sumW h (i + 1) (nI (c + dc)) (nI (t + mQ N oa ob oc g i)) (nI (ua + da)) (nI (ub + aB N ob g)) (nI (uc + aC N oc g)) (nI (nb + if g = 3 then 1 else 0)) (nI (if g = 2 then hp + 1 else 0))) := fun da =>
      m_sum_c200 (by rw [mm_up_ne _ _ _ (by omega)]; exact hN1) hi hg hb hc hob ho (by rw [mm_up_ne _ _ _ (by omega), mm_up_ne _ _ _ (by omega)]; exact e11) (by rw [mm_up_ne _ _ _ (by omega), mm_up_ne _ _ _ (by omega)]; exact e12) (by rw [mm_up_ne _ _ _ (by omega), mm_up_ne _ _ _ (by omega)]; exact e13) (by rw [mm_up_ne _ _ _ (by omega), mm_up_ne _ _ _ (by omega)]; exact e14) (by rw [mm_up_ne _ _ _ (by omega), mm_up_ne _ _ _ (by omega)]; exact e15)
    unfold f_X12_sum_c166
    have hmn : f_X12_minutesOf (nI g) (nI i) (numI (fst oa ob g)) (numI (snd ob oc g)) (mm_up h 9 (i + 1) (nI (c + dc))) = some (nI (mQ N oa ob oc g i)) := by
      have h1 : ∀ x, fst oa ob g = some x → x < 16 := fun x => by
        unfold fst
        split
        · exact ha x
        · split
          · intro q; exact absurd q (by simp)
          · exact hb x
      have h2 : ∀ x, snd ob oc g = some x → x < 16 := fun x => by
        unfold snd
        split
        · exact hb x
        · split
          · exact hc x
          · intro q; exact absurd q (by simp)
      have := m_minutesOf (m := mm_up h 9 (i + 1) (nI (c + dc))) (by rw [hN1]; exact hF) hg hi h1 h2
      rw [hN1] at this
      exact this
    rw [hmn, op_v, show nI i + 1 = nI (i + 1) from nI_1 i, og_in _ (show i + 1 < 10 by omega) (by omega), nI_clamp (show i + 1 < 2 ^ 31 by omega), mw_v, og_in _ (show i < 10 by omega) (by omega), nI_clamp (show i < 2 ^ 31 by omega), nI_add, ← nI_1 i]
    unfold aA
    by_cases e : g = 0
    · subst e
      cases oa with
      | none => exact absurd (hoa rfl) (by decide)
      | some x =>
        rw [if_pos (show nI 0 = (0 : Int32) from rfl), if_pos rfl, show numI (some x) = nI x from rfl, m_wear (N := N) (by rw [mm_up_ne _ _ _ (by omega)]; exact hN1) (ha x rfl), op_v]
        exact go _
    · rw [if_neg (show ¬ nI g = (0 : Int32) from fun w => e ((n_d g 0 hg (by omega)).mp w)), if_neg e]
      exact go 0
  have mid : ∀ o1, o1 = numI (fst oa ob g) → f_X12_sum_c145 (numI oa) (numI ob) (numI oc) (nI i) (nI g) 10 (nI i + 1) (nI t) (nI g) (nI i) o1 (mm_up h 9 (i + 1) (nI (c + dc))) = some (sumW h (i + 1) (nI (c + dc)) (nI (t + mQ N oa ob oc g i)) (nI (ua + aA N oa g)) (nI (ub + aB N ob g)) (nI (uc + aC N oc g)) (nI (nb + if g = 3 then 1 else 0)) (nI (if g = 2 then hp + 1 else 0))) := fun o1 h1 => by
    subst h1
    unfold f_X12_sum_c145
    rw [← fin]
    unfold snd
    by_cases e : g = 0
    · rw [if_pos (show nI g = (0 : Int32) by rw [e]; rfl), if_pos e]
    · rw [if_neg (show ¬ nI g = (0 : Int32) from fun w => e ((n_d g 0 hg (by omega)).mp w)), if_neg e]
      by_cases e1 : g = 1
      · rw [if_pos (show nI g = (1 : Int32) by rw [e1]; rfl), if_pos e1]
      · rw [if_neg (show ¬ nI g = (1 : Int32) from fun w => e1 ((n_d g 1 hg (by omega)).mp w)), if_neg e1]
        rfl
  unfold f_X12_sum_c103
  rw [show nI i + 1 = nI (i + 1) from nI_1 i, og_in _ (show i + 1 < 10 by omega) (by omega), nI_clamp (show i + 1 < 2 ^ 31 by omega), mw_v, og_in _ (show i < 10 by omega) (by omega), nI_clamp (show i < 2 ^ 31 by omega), e9, nI_add, mm_up_ne _ _ _ (show 10 ≠ 9 by omega), e10, ← nI_1 i]
  by_cases e : g = 0
  · rw [if_pos (show nI g = (0 : Int32) by rw [e]; rfl)]
    exact mid _ (by unfold fst; rw [if_pos e])
  · rw [if_neg (show ¬ nI g = (0 : Int32) from fun w => e ((n_d g 0 hg (by omega)).mp w))]
    by_cases e3 : g = 3
    · rw [if_pos (show nI g = (3 : Int32) by rw [e3]; rfl)]
      exact mid _ (by unfold fst; rw [if_neg e, if_pos e3]; rfl)
    · rw [if_neg (show ¬ nI g = (3 : Int32) from fun w => e3 ((n_d g 3 hg (by omega)).mp w))]
      exact mid _ (by unfold fst; rw [if_neg e, if_neg e3])
theorem m_sum {h : Mm} {N : Nat → Int32} (hN : h 1 = N) (hF : WF N) {p i g : Nat} (hp5 : p < 5) (hi : i < 9) (hg : g < 4) (h8 : h 8 i = nI g) {oa ob oc : Option Nat} (ha : ∀ x, oa = some x → x < 16) (hb : ∀ x, ob = some x → x < 16) (hc : ∀ x, oc = some x → x < 16) {lone : Bool} (hl : lone = decide (¬ N (10 + p) ≤ 0)) (ho : gOpen lone oa ob oc g = true) {c t ua ub uc nb hp : Nat} (e9 : h 9 i = nI c) (e10 : h 10 i = nI t) (e11 : h 11 i = nI ua) (e12 : h 12 i = nI ub) (e13 : h 13 i = nI uc) (e14 : h 14 i = nI nb) (e15 : h 15 i = nI hp) : f_X12_sum (nI p) (numI oa) (numI ob) (numI oc) (nI i) h = some (sumW h (i + 1) (nI (c + cQ N lone oa ob g i)) (nI (t + mQ N oa ob oc g i)) (nI (ua + aA N oa g)) (nI (ub + aB N ob g)) (nI (uc + aC N oc g)) (nI (nb + if g = 3 then 1 else 0)) (nI (if g = 2 then hp + 1 else 0))) := by
  have opn : (lone = true → g = 2) ∧ (g = 0 → oa.isSome = true) ∧ (g ≠ 3 → ob.isSome = true) ∧ (g = 1 → oc.isSome = true) := by
    unfold gOpen at ho
    cases hlo : lone with
    | true =>
      rw [hlo, if_pos rfl, Bool.and_eq_true] at ho
      have e2 := of_decide_eq_true ho.1
      exact ⟨fun _ => e2, fun h => by omega, fun _ => ho.2, fun h => by omega⟩
    | false =>
      rw [hlo, if_neg (by decide)] at ho
      refine ⟨fun h => absurd h (by decide), fun h => ?_, fun h => ?_, fun h => ?_⟩
      · rw [if_pos h, Bool.and_eq_true] at ho
        exact ho.1
      · by_cases e0 : g = 0
        · rw [if_pos e0, Bool.and_eq_true] at ho
          exact ho.2
        · rw [if_neg e0] at ho
          by_cases e1 : g = 1
          · rw [if_pos e1, Bool.and_eq_true] at ho
            exact ho.1
          · rw [if_neg e1, if_pos (by omega)] at ho
            exact ho
      · rw [if_neg (by omega), if_pos h, Bool.and_eq_true] at ho
        exact ho.2
  obtain ⟨o1, o2, o3, o4⟩ := opn
  have go : ∀ dc : Nat, dc = cQ N lone oa ob g i → f_X12_sum_c103 (numI oa) (numI ob) (numI oc) (nI i) (nI g) 9 (nI i + 1) (h 9 i) (nI dc) h = some (sumW h (i + 1) (nI (c + cQ N lone oa ob g i)) (nI (t + mQ N oa ob oc g i)) (nI (ua + aA N oa g)) (nI (ub + aB N ob g)) (nI (uc + aC N oc g)) (nI (nb + if g = 3 then 1 else 0)) (nI (if g = 2 then hp + 1 else 0))) := fun dc e => by
    rw [← e]
    exact m_sum_c103 hN hF hi hg ha hb hc o2 o3 o4 e9 e10 e11 e12 e13 e14 e15
  have ge : ∀ k : Nat, k < 4 → g ≠ k → ¬ nI g = nI k := fun k hk e w => e ((n_d g k hg hk).mp w)
  have yes : (g = 0 ∨ g ≠ 0 ∧ pays N lone ob = true) → f_X12_sum_c56 (numI oa) (numI ob) (numI oc) (nI i) (nI g) h = some (sumW h (i + 1) (nI (c + cQ N lone oa ob g i)) (nI (t + mQ N oa ob oc g i)) (nI (ua + aA N oa g)) (nI (ub + aB N ob g)) (nI (uc + aC N oc g)) (nI (nb + if g = 3 then 1 else 0)) (nI (if g = 2 then hp + 1 else 0))) := by
    intro hp
    unfold f_X12_sum_c56 f_X12_sum_c61 f_X12_sum_c94
    rw [og_in _ (show i < 10 by omega) (by omega), nI_clamp (show i < 2 ^ 31 by omega), if_neg (show ¬ (1 : Int32) = 0 by decide)]
    rcases hp with e | ⟨e, e1⟩
    · rw [if_pos (show nI g = (0 : Int32) by rw [e]; rfl)]
      cases oa with
      | none => exact absurd (o2 e) (by decide)
      | some x =>
        rw [show numI (some x) = nI x from rfl, m_costOf hN hF (ha x rfl) hi, op_v]
        exact go _ (by unfold cQ; rw [if_pos e])
    · rw [if_neg (show ¬ nI g = (0 : Int32) from ge 0 (by omega) e)]
      cases ob with
      | none =>
        unfold pays at e1
        rw [Bool.and_eq_true] at e1
        exact absurd e1.2 Bool.false_ne_true
      | some x =>
        rw [show numI (some x) = nI x from rfl, m_costOf hN hF (hb x rfl) hi, op_v]
        exact go _ (by unfold cQ; rw [if_neg e, if_pos e1])
  have no : g ≠ 0 → pays N lone ob = false → f_X12_sum_c60 (numI oa) (numI ob) (numI oc) (nI i) (nI g) h = some (sumW h (i + 1) (nI (c + cQ N lone oa ob g i)) (nI (t + mQ N oa ob oc g i)) (nI (ua + aA N oa g)) (nI (ub + aB N ob g)) (nI (uc + aC N oc g)) (nI (nb + if g = 3 then 1 else 0)) (nI (if g = 2 then hp + 1 else 0))) := by
    intro e e1
    unfold f_X12_sum_c60 f_X12_sum_c61
    rw [og_in _ (show i < 10 by omega) (by omega), nI_clamp (show i < 2 ^ 31 by omega), if_pos rfl]
    exact go 0 (by unfold cQ; rw [if_neg e, e1, if_neg (by decide)])
  unfold f_X12_sum f_X12_sum_c26
  rw [og_in _ hi (by omega), nI_clamp (show i < 2 ^ 31 by omega), mv_v, h8, show (10 : Int32) = nI 10 from rfl, nI_add, og_in _ (show 10 + p < 193 by omega) (by omega), nI_clamp (show 10 + p < 2 ^ 31 by omega), hN]
  by_cases e0 : g = 0
  · have : nI g = (0 : Int32) := by rw [e0]; rfl
    rw [if_pos this, if_pos this]
    split <;> exact yes (Or.inl e0)
  · have : ¬ nI g = (0 : Int32) := ge 0 (by omega) e0
    rw [if_neg this, if_neg this, if_pos rfl, if_neg (show ¬ (1 : Int32) = 0 by decide)]
    by_cases el : N (10 + p) ≤ 0
    · rw [if_pos el]
      rw [decide_eq_false (fun h => h el)] at hl
      exact no e0 (by unfold pays; rw [hl, Bool.false_and])
    · rw [if_neg el]
      rw [decide_eq_true el] at hl
      have e2 := o1 hl
      cases hob : ob with
      | none => exact absurd (o3 (by omega)) (by rw [hob]; decide)
      | some x =>
        rw [← hob]
        have hx := hb x hob
        rw [show numI ob = nI x by rw [hob]; rfl, show (31 : Int32) = nI 31 from rfl, nI_add, og_in _ (show 31 + x < 193 by omega) (by omega), nI_clamp (show 31 + x < 2 ^ 31 by omega), show (3 : Int32).toNatClampNeg = 3 from rfl, show nI x = numI ob by rw [hob]; rfl]
        by_cases ef : N (31 + x) = N 3
        · rw [if_pos ef]
          exact yes (Or.inr ⟨e0, by unfold pays; rw [hl, hob]; exact decide_eq_true ef⟩)
        · rw [if_neg ef]
          exact no e0 (by unfold pays; rw [hl, hob]; exact decide_eq_false ef)
