/-! a world's cells, in their places -/
def nomul (T : List Shp) : Bool := (List.range T.length).all (fun k => match T.getD k sh0 with | .inr (_, _, some none) => false | _ => true)
theorem nomul_z {T : List Shp} (h : nomul T = true) {g' : Mm} : ∀ k N t, k < T.length → T.getD k sh0 = .inr (N, t, some none) → ∀ j, g' k j = 0 := by
  intro k N t hk e
  have := List.all_eq_true.mp h k (List.mem_range.mpr hk)
  rw [e] at this
  exact absurd this Bool.false_ne_true
theorem P_mem {D : va_G} {cl : List vw_C} {ws : va_W} {H : Heap} (h : va_P D cl ws H) {q : Nat × va_E} (hq : q ∈ ws) : va_at D cl q H := by
  obtain ⟨k, hk⟩ := List.getElem?_of_mem hq
  exact h k q hk
theorem P_sub {D : va_G} {cl : List vw_C} {ws ws' : va_W} {H : Heap} (h : va_P D cl ws H) (hs : ∀ q, q ∈ ws' → q ∈ ws) : va_P D cl ws' H := fun _ q hk => P_mem h (hs q (List.mem_of_getElem? hk))
def gW : Mm := fun k => if 27 ≤ k ∧ k < 35 then (fun j => if j < 8 then -1 else 0) else fun _ => 0
theorem gW_o {k : Nat} (h : k < 27 ∨ 35 ≤ k) : gW k = fun _ => 0 := if_neg (by omega)
theorem gW_f {k : Nat} (h : k < 12) : gW (25 + k) = gF 8 k := by
  unfold gW gF
  by_cases e : 2 ≤ k ∧ k < 2 + 8
  · rw [if_pos (by omega), if_pos e]
  · rw [if_neg (by omega), if_neg e]
set_option maxRecDepth 100000 in
theorem a_X10 {D : va_G} {A : Nat → Prop} {cy : Nat → ClassId} {H : Heap} {h0 q1 q2 q3 : Nat} {ad7 ad3 ad2 ad1 : Nat → Nat} {L : List Nat} (hL : L.length = 16) (hP : va_P D vwCl (WS cy h0 q1 q2 q3 (ad7 0) (ad3 0) (ad2 0) (ad1 0) (((mm_L T7_ ad7 cy (fun _ _ => 0) ++ mm_L T3_ ad3 cy (fun _ _ => 0)) ++ mm_L T2_ ad2 cy (gF 8)) ++ mm_L T1_ ad1 cy (fun _ _ => 0)) L) H) (hD : va_D A (WS cy h0 q1 q2 q3 (ad7 0) (ad3 0) (ad2 0) (ad1 0) (((mm_L T7_ ad7 cy (fun _ _ => 0) ++ mm_L T3_ ad3 cy (fun _ _ => 0)) ++ mm_L T2_ ad2 cy (gF 8)) ++ mm_L T1_ ad1 cy (fun _ _ => 0)) L)) : CP D cy T10_ gW h0 A H := by
  obtain ⟨AL, eAL⟩ : ∃ AL : List Nat, AL = h0 :: q1 :: q2 :: q3 :: (L ++ ((List.range 2).map ad7 ++ ((List.range 3).map ad3 ++ ((List.range 12).map ad2 ++ (List.range 4).map ad1)))) := ⟨_, rfl⟩
  have hAL : AL.length = 41 := by
    rw [eAL]
    simp [hL]
  obtain ⟨AD, eAD⟩ : ∃ AD : Nat → Nat, AD = fun k => AL.getD k 0 := ⟨_, rfl⟩
  have a0 : AD 0 = h0 := by rw [eAD, eAL]; rfl
  have a1 : AD 1 = q1 := by rw [eAD, eAL]; rfl
  have a2 : AD 2 = q2 := by rw [eAD, eAL]; rfl
  have a3 : AD 3 = q3 := by rw [eAD, eAL]; rfl
  have s4 : ∀ k, k < 16 → AD (4 + k) = L.getD k 0 := fun k hk => by
    rw [eAD, eAL]
    exact getD_seg [h0, q1, q2, q3] L _ rfl (by omega)
  have s20 : ∀ k, k < 2 → AD (20 + k) = ad7 k := fun k hk => by
    rw [eAD, eAL]
    refine (getD_seg (h0 :: q1 :: q2 :: q3 :: L) ((List.range 2).map ad7) _ (by simp [hL]) (by simpa using hk)).trans (getD_range ad7 hk)
  have s22 : ∀ k, k < 3 → AD (22 + k) = ad3 k := fun k hk => by
    rw [eAD, eAL]
    have := getD_seg (h0 :: q1 :: q2 :: q3 :: (L ++ (List.range 2).map ad7)) ((List.range 3).map ad3) ((List.range 12).map ad2 ++ (List.range 4).map ad1) (o := 22) (k := k) (by simp [hL]) (by simpa using hk)
    rw [← getD_range ad3 hk, ← this]
    simp only [List.cons_append, List.append_assoc]
  have s25 : ∀ k, k < 12 → AD (25 + k) = ad2 k := fun k hk => by
    rw [eAD, eAL]
    have := getD_seg (h0 :: q1 :: q2 :: q3 :: (L ++ ((List.range 2).map ad7 ++ (List.range 3).map ad3))) ((List.range 12).map ad2) ((List.range 4).map ad1) (o := 25) (k := k) (by simp [hL]) (by simpa using hk)
    rw [← getD_range ad2 hk, ← this]
    simp only [List.cons_append, List.append_assoc]
  have s37 : ∀ k, k < 4 → AD (37 + k) = ad1 k := fun k hk => by
    rw [eAD, eAL]
    have := getD_seg (h0 :: q1 :: q2 :: q3 :: (L ++ ((List.range 2).map ad7 ++ ((List.range 3).map ad3 ++ (List.range 12).map ad2)))) ((List.range 4).map ad1) [] (o := 37) (k := k) (by simp [hL]) (by simpa using hk)
    rw [← getD_range ad1 hk, ← this]
    simp only [List.cons_append, List.append_assoc, List.append_nil]
  refine ⟨AD, a0, mm_P_of (fun k hk => ?_), D_of ?_⟩
  · have hk : k < 41 := hk
    by_cases k0 : k = 0
    · subst k0
      show va_at D vwCl (AD 0, .inr (10, [.int 0, .ref (AD 1), .ref (AD 2), .int 0, .ref (AD 3), .ref (AD (20 + 0)), .ref (AD (22 + 0)), .ref (AD (25 + 0)), .ref (AD (37 + 0))])) H
      rw [a0, a1, a2, a3, s20 0 (by omega), s22 0 (by omega), s25 0 (by omega), s37 0 (by omega)]
      exact hP 0 _ rfl
    by_cases k1 : k = 1
    · subst k1
      show va_at D vwCl (AD 1, .inl (cy 0, 5, .inl (gW 1))) H
      rw [a1, gW_o (by omega)]
      exact hP 1 _ rfl
    by_cases k2 : k = 2
    · subst k2
      show va_at D vwCl (AD 2, .inl (cy 0, 5, .inl (gW 2))) H
      rw [a2, gW_o (by omega)]
      exact hP 2 _ rfl
    by_cases k3 : k = 3
    · subst k3
      show va_at D vwCl (AD 3, .inl (cy 2, 16, .inr (.inr (.inr (.inr (fun j => some (AD (3 + 1 + j)))))))) H
      rw [a3]
      exact outer_cg (fun j hj => by
        show L[j]? = some (AD (4 + j))
        rw [s4 j hj, List.getD_eq_getElem?_getD, List.getElem?_eq_getElem (by omega)]
        rfl) (hP 3 _ rfl)
    by_cases k20 : k < 20
    · obtain ⟨j, rfl⟩ := Nat.exists_eq_add_of_le (show 4 ≤ k by omega)
      have hj : j < 16 := by omega
      have ej : T10_.getD (4 + j) sh0 = sX5 := by
        revert hj
        revert j
        intro j _ _ _ _ _ _ _ hj
        exact (show ∀ j, j < 16 → T10_.getD (4 + j) sh0 = sX5 by decide +kernel) j hj
      unfold mm_one
      rw [ej, s4 j hj, gW_o (by omega)]
      have hm : (L.getD j 0, (.inr (5, [.int 0, .int 0, .int 0, .int 0, .int 0]) : va_E)) ∈ L.map (fun a => (a, (.inr (5, [.int 0, .int 0, .int 0, .int 0, .int 0]) : va_E))) := by
        rw [List.getD_eq_getElem?_getD, List.getElem?_eq_getElem (show j < L.length by omega), Option.getD_some]
        exact List.mem_map.mpr ⟨_, List.getElem_mem _, rfl⟩
      exact P_mem hP (by unfold WS; simp only [List.mem_cons, List.mem_append]; exact Or.inr (Or.inr (Or.inr (Or.inr (Or.inr hm)))))
    by_cases k22 : k < 22
    · obtain ⟨j, rfl⟩ := Nat.exists_eq_add_of_le (show 20 ≤ k by omega)
      exact mm_shift (T' := T7_) (ad' := ad7) (g' := fun _ _ => 0) (show ∀ k, k < 2 → T10_.getD (20 + k) sh0 = T7_.getD k sh0 by decide +kernel) s20 (fun k (hk : k < 2) => gW_o (by omega)) (by decide +kernel) (nomul_z (by decide +kernel)) (P_sub hP (fun q hq => by unfold WS; simp only [List.mem_cons, List.mem_append]; exact Or.inr (Or.inr (Or.inr (Or.inr (Or.inl (Or.inl (Or.inl (Or.inl hq))))))))) j (show j < 2 by omega)
    by_cases k25 : k < 25
    · obtain ⟨j, rfl⟩ := Nat.exists_eq_add_of_le (show 22 ≤ k by omega)
      exact mm_shift (T' := T3_) (ad' := ad3) (g' := fun _ _ => 0) (show ∀ k, k < 3 → T10_.getD (22 + k) sh0 = T3_.getD k sh0 by decide +kernel) s22 (fun k (hk : k < 3) => gW_o (by omega)) (by decide +kernel) (nomul_z (by decide +kernel)) (P_sub hP (fun q hq => by unfold WS; simp only [List.mem_cons, List.mem_append]; exact Or.inr (Or.inr (Or.inr (Or.inr (Or.inl (Or.inl (Or.inl (Or.inr hq))))))))) j (show j < 3 by omega)
    by_cases k37 : k < 37
    · obtain ⟨j, rfl⟩ := Nat.exists_eq_add_of_le (show 25 ≤ k by omega)
      exact mm_shift (T' := T2_) (ad' := ad2) (g' := gF 8) (show ∀ k, k < 12 → T10_.getD (25 + k) sh0 = T2_.getD k sh0 by decide +kernel) s25 (fun k (hk : k < 12) => gW_f hk) (by decide +kernel) (nomul_z (by decide +kernel)) (P_sub hP (fun q hq => by unfold WS; simp only [List.mem_cons, List.mem_append]; exact Or.inr (Or.inr (Or.inr (Or.inr (Or.inl (Or.inl (Or.inr hq)))))))) j (show j < 12 by omega)
    · obtain ⟨j, rfl⟩ := Nat.exists_eq_add_of_le (show 37 ≤ k by omega)
      exact mm_shift (T' := T1_) (ad' := ad1) (g' := fun _ _ => 0) (show ∀ k, k < 4 → T10_.getD (37 + k) sh0 = T1_.getD k sh0 by decide +kernel) s37 (fun k (hk : k < 4) => gW_o (by omega)) (by decide +kernel) (nomul_z (by decide +kernel)) (P_sub hP (fun q hq => by unfold WS; simp only [List.mem_cons, List.mem_append]; exact Or.inr (Or.inr (Or.inr (Or.inr (Or.inl (Or.inr hq))))))) j (show j < 4 by omega)
  · rw [mm_L_fst, show T10_.length = 41 from rfl, eAD, getD_all AL hAL, eAL]
    have h1 := AN_of hD
    unfold WS at h1
    simp only [List.map_cons, List.map_append, mm_L_fst, List.map_map] at h1
    rw [show (L.map (Prod.fst ∘ fun a => ((a, (.inr (5, [.int 0, .int 0, .int 0, .int 0, .int 0]) : va_E)) : Nat × va_E))) = L from List.map_id L] at h1
    refine h1.perm ?_
    refine ((((List.perm_append_comm).cons _).cons _).cons _).cons _ |>.trans ?_
    simp only [List.append_assoc]
    exact List.Perm.refl _
