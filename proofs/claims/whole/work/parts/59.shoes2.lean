/-! the whole object's cells, in their places -/
theorem perm_pairs : ∀ lp : List (Nat × Nat), (lp.flatMap (fun pr => [pr.1, pr.2])).Perm (lp.map Prod.fst ++ lp.map Prod.snd)
  | [] => List.Perm.refl _
  | pr :: lp => by
    show (pr.1 :: pr.2 :: lp.flatMap (fun pr => [pr.1, pr.2])).Perm (pr.1 :: (lp.map Prod.fst ++ pr.2 :: lp.map Prod.snd))
    exact (((perm_pairs lp).cons pr.2).trans List.perm_middle.symm).cons pr.1
def gC : Mm := fun k => if (28 ≤ k ∧ k < 36) ∨ (69 ≤ k ∧ k < 77) then (fun j => if j < 8 then -1 else 0) else if 143 ≤ k ∧ k < 147 then (fun j => if j = 1 then -1 else 0) else fun _ => 0
theorem gC_o {k : Nat} (h : ¬ (28 ≤ k ∧ k < 36) ∧ ¬ (69 ≤ k ∧ k < 77) ∧ ¬ (143 ≤ k ∧ k < 147)) : gC k = fun _ => 0 := by
  unfold gC
  rw [if_neg (by omega), if_neg (by omega)]
theorem gC_N {k : Nat} (h : k < 41) : gC (1 + k) = gW k := by
  unfold gC gW
  by_cases e : 27 ≤ k ∧ k < 35
  · rw [if_pos (by omega), if_pos e]
  · rw [if_neg (by omega), if_neg (by omega), if_neg e]
theorem gC_K {k : Nat} (h : k < 41) : gC (42 + k) = gW k := by
  unfold gC gW
  by_cases e : 27 ≤ k ∧ k < 35
  · rw [if_pos (by omega), if_pos e]
  · rw [if_neg (by omega), if_neg (by omega), if_neg e]
set_option maxRecDepth 100000 in
set_option maxHeartbeats 4000000 in
theorem a_X11 {D : va_G} {A : Nat → Prop} {cy : Nat → ClassId} {H : Heap} {h0 qS s0 s1 s2 s3 i0 i1 i2 i3 : Nat} {adN adK adT adX adR adW adL : Nat → Nat} (hP : va_P D vwCl (WU cy h0 qS [.ref (adN 0), .ref (adK 0), .int 0, .ref (adT 0), .ref (adX 0), .ref (adR 0), .ref (adW 0), .ref (adL 0), .ref qS] ((((((mm_L T10_ adN cy gW ++ mm_L T10_ adK cy gW) ++ mm_L T6_ adT cy (fun _ _ => 0)) ++ mm_L T7_ adX cy (fun _ _ => 0)) ++ mm_L T3_ adR cy (fun _ _ => 0)) ++ mm_L T9_ adW cy (fun _ _ => 0)) ++ mm_L T8_ adL cy (fun _ _ => 0)) [(s0, i0), (s1, i1), (s2, i2), (s3, i3)]) H) (hD : va_D A (WU cy h0 qS [.ref (adN 0), .ref (adK 0), .int 0, .ref (adT 0), .ref (adX 0), .ref (adR 0), .ref (adW 0), .ref (adL 0), .ref qS] ((((((mm_L T10_ adN cy gW ++ mm_L T10_ adK cy gW) ++ mm_L T6_ adT cy (fun _ _ => 0)) ++ mm_L T7_ adX cy (fun _ _ => 0)) ++ mm_L T3_ adR cy (fun _ _ => 0)) ++ mm_L T9_ adW cy (fun _ _ => 0)) ++ mm_L T8_ adL cy (fun _ _ => 0)) [(s0, i0), (s1, i1), (s2, i2), (s3, i3)])) : CP D cy TC gC h0 A H := by
  obtain ⟨AL, eAL⟩ : ∃ AL : List Nat, AL = h0 :: ((List.range 41).map adN ++ ((List.range 41).map adK ++ ((List.range 2).map adT ++ ((List.range 2).map adX ++ ((List.range 3).map adR ++ ((List.range 50).map adW ++ ((List.range 2).map adL ++ [qS, s0, s1, s2, s3, i0, i1, i2, i3]))))))) := ⟨_, rfl⟩
  have hAL : AL.length = 151 := by
    rw [eAL]
    simp
  obtain ⟨AD, eAD⟩ : ∃ AD : Nat → Nat, AD = fun k => AL.getD k 0 := ⟨_, rfl⟩
  have a0 : AD 0 = h0 := by rw [eAD, eAL]; rfl
  have sN : ∀ k, k < 41 → AD (1 + k) = adN k := fun k hk => by
    rw [eAD, eAL]
    have := getD_seg (h0 :: []) ((List.range 41).map adN) (((List.range 41).map adK ++ ((List.range 2).map adT ++ ((List.range 2).map adX ++ ((List.range 3).map adR ++ ((List.range 50).map adW ++ ((List.range 2).map adL ++ [qS, s0, s1, s2, s3, i0, i1, i2, i3]))))))) (o := 1) (k := k) (by simp) (by simpa using hk)
    rw [← getD_range adN hk, ← this]
    simp only [List.cons_append, List.append_assoc, List.nil_append, List.append_nil]
  have sK : ∀ k, k < 41 → AD (42 + k) = adK k := fun k hk => by
    rw [eAD, eAL]
    have := getD_seg (h0 :: ((List.range 41).map adN ++ [])) ((List.range 41).map adK) (((List.range 2).map adT ++ ((List.range 2).map adX ++ ((List.range 3).map adR ++ ((List.range 50).map adW ++ ((List.range 2).map adL ++ [qS, s0, s1, s2, s3, i0, i1, i2, i3])))))) (o := 42) (k := k) (by simp) (by simpa using hk)
    rw [← getD_range adK hk, ← this]
    simp only [List.cons_append, List.append_assoc, List.nil_append, List.append_nil]
  have sT : ∀ k, k < 2 → AD (83 + k) = adT k := fun k hk => by
    rw [eAD, eAL]
    have := getD_seg (h0 :: ((List.range 41).map adN ++ ((List.range 41).map adK ++ []))) ((List.range 2).map adT) (((List.range 2).map adX ++ ((List.range 3).map adR ++ ((List.range 50).map adW ++ ((List.range 2).map adL ++ [qS, s0, s1, s2, s3, i0, i1, i2, i3]))))) (o := 83) (k := k) (by simp) (by simpa using hk)
    rw [← getD_range adT hk, ← this]
    simp only [List.cons_append, List.append_assoc, List.nil_append, List.append_nil]
  have sX : ∀ k, k < 2 → AD (85 + k) = adX k := fun k hk => by
    rw [eAD, eAL]
    have := getD_seg (h0 :: ((List.range 41).map adN ++ ((List.range 41).map adK ++ ((List.range 2).map adT ++ [])))) ((List.range 2).map adX) (((List.range 3).map adR ++ ((List.range 50).map adW ++ ((List.range 2).map adL ++ [qS, s0, s1, s2, s3, i0, i1, i2, i3])))) (o := 85) (k := k) (by simp) (by simpa using hk)
    rw [← getD_range adX hk, ← this]
    simp only [List.cons_append, List.append_assoc, List.nil_append, List.append_nil]
  have sR : ∀ k, k < 3 → AD (87 + k) = adR k := fun k hk => by
    rw [eAD, eAL]
    have := getD_seg (h0 :: ((List.range 41).map adN ++ ((List.range 41).map adK ++ ((List.range 2).map adT ++ ((List.range 2).map adX ++ []))))) ((List.range 3).map adR) (((List.range 50).map adW ++ ((List.range 2).map adL ++ [qS, s0, s1, s2, s3, i0, i1, i2, i3]))) (o := 87) (k := k) (by simp) (by simpa using hk)
    rw [← getD_range adR hk, ← this]
    simp only [List.cons_append, List.append_assoc, List.nil_append, List.append_nil]
  have sW : ∀ k, k < 50 → AD (90 + k) = adW k := fun k hk => by
    rw [eAD, eAL]
    have := getD_seg (h0 :: ((List.range 41).map adN ++ ((List.range 41).map adK ++ ((List.range 2).map adT ++ ((List.range 2).map adX ++ ((List.range 3).map adR ++ [])))))) ((List.range 50).map adW) (((List.range 2).map adL ++ [qS, s0, s1, s2, s3, i0, i1, i2, i3])) (o := 90) (k := k) (by simp) (by simpa using hk)
    rw [← getD_range adW hk, ← this]
    simp only [List.cons_append, List.append_assoc, List.nil_append, List.append_nil]
  have sL : ∀ k, k < 2 → AD (140 + k) = adL k := fun k hk => by
    rw [eAD, eAL]
    have := getD_seg (h0 :: ((List.range 41).map adN ++ ((List.range 41).map adK ++ ((List.range 2).map adT ++ ((List.range 2).map adX ++ ((List.range 3).map adR ++ ((List.range 50).map adW ++ []))))))) ((List.range 2).map adL) ([qS, s0, s1, s2, s3, i0, i1, i2, i3]) (o := 140) (k := k) (by simp) (by simpa using hk)
    rw [← getD_range adL hk, ← this]
    simp only [List.cons_append, List.append_assoc, List.nil_append, List.append_nil]
  have sE : ∀ k, k < 9 → AD (142 + k) = [qS, s0, s1, s2, s3, i0, i1, i2, i3].getD k 0 := fun k hk => by
    rw [eAD, eAL]
    have := getD_seg (h0 :: ((List.range 41).map adN ++ ((List.range 41).map adK ++ ((List.range 2).map adT ++ ((List.range 2).map adX ++ ((List.range 3).map adR ++ ((List.range 50).map adW ++ ((List.range 2).map adL ++ [])))))))) [qS, s0, s1, s2, s3, i0, i1, i2, i3] [] (o := 142) (k := k) (by simp) (by simpa using hk)
    rw [← this]
    simp only [List.cons_append, List.append_assoc, List.nil_append, List.append_nil]
  have a142 : AD 142 = qS := sE 0 (by omega)
  have a143 : AD 143 = s0 := sE 1 (by omega)
  have a144 : AD 144 = s1 := sE 2 (by omega)
  have a145 : AD 145 = s2 := sE 3 (by omega)
  have a146 : AD 146 = s3 := sE 4 (by omega)
  have a147 : AD 147 = i0 := sE 5 (by omega)
  have a148 : AD 148 = i1 := sE 6 (by omega)
  have a149 : AD 149 = i2 := sE 7 (by omega)
  have a150 : AD 150 = i3 := sE 8 (by omega)
  refine ⟨AD, a0, mm_P_of (fun k hk => ?_), D_of ?_⟩
  · have hk : k < 151 := hk
    by_cases k0 : k = 0
    · subst k0
      show va_at D vwCl (AD 0, .inr (11, [.ref (AD (1 + 0)), .ref (AD (42 + 0)), .int 0, .ref (AD (83 + 0)), .ref (AD (85 + 0)), .ref (AD (87 + 0)), .ref (AD (90 + 0)), .ref (AD (140 + 0)), .ref (AD 142)])) H
      rw [a0, a142, sN 0 (by omega), sK 0 (by omega), sT 0 (by omega), sX 0 (by omega), sR 0 (by omega), sW 0 (by omega), sL 0 (by omega)]
      exact hP 0 _ rfl
    by_cases k42 : k < 42
    · obtain ⟨j, rfl⟩ := Nat.exists_eq_add_of_le (show 1 ≤ k by omega)
      exact mm_shift (T' := T10_) (ad' := adN) (g' := gW) (show ∀ k, k < 41 → TC.getD (1 + k) sh0 = T10_.getD k sh0 by decide +kernel) sN (fun k hk => gC_N hk) (by decide +kernel) (nomul_z (by decide +kernel)) (P_sub hP (fun q hq => by unfold WU; simp only [List.mem_cons, List.mem_append]; exact Or.inr (Or.inr (Or.inl (Or.inl (Or.inl (Or.inl (Or.inl (Or.inl (Or.inl (hq))))))))))) j (show j < 41 by omega)
    by_cases k83 : k < 83
    · obtain ⟨j, rfl⟩ := Nat.exists_eq_add_of_le (show 42 ≤ k by omega)
      exact mm_shift (T' := T10_) (ad' := adK) (g' := gW) (show ∀ k, k < 41 → TC.getD (42 + k) sh0 = T10_.getD k sh0 by decide +kernel) sK (fun k hk => gC_K hk) (by decide +kernel) (nomul_z (by decide +kernel)) (P_sub hP (fun q hq => by unfold WU; simp only [List.mem_cons, List.mem_append]; exact Or.inr (Or.inr (Or.inl (Or.inl (Or.inl (Or.inl (Or.inl (Or.inl (Or.inr hq)))))))))) j (show j < 41 by omega)
    by_cases k85 : k < 85
    · obtain ⟨j, rfl⟩ := Nat.exists_eq_add_of_le (show 83 ≤ k by omega)
      exact mm_shift (T' := T6_) (ad' := adT) (g' := (fun _ _ => 0)) (show ∀ k, k < 2 → TC.getD (83 + k) sh0 = T6_.getD k sh0 by decide +kernel) sT (fun k (hk : k < 2) => gC_o (by omega)) (by decide +kernel) (fun _ _ _ _ _ _ => rfl) (P_sub hP (fun q hq => by unfold WU; simp only [List.mem_cons, List.mem_append]; exact Or.inr (Or.inr (Or.inl (Or.inl (Or.inl (Or.inl (Or.inl (Or.inr hq))))))))) j (show j < 2 by omega)
    by_cases k87 : k < 87
    · obtain ⟨j, rfl⟩ := Nat.exists_eq_add_of_le (show 85 ≤ k by omega)
      exact mm_shift (T' := T7_) (ad' := adX) (g' := (fun _ _ => 0)) (show ∀ k, k < 2 → TC.getD (85 + k) sh0 = T7_.getD k sh0 by decide +kernel) sX (fun k (hk : k < 2) => gC_o (by omega)) (by decide +kernel) (fun _ _ _ _ _ _ => rfl) (P_sub hP (fun q hq => by unfold WU; simp only [List.mem_cons, List.mem_append]; exact Or.inr (Or.inr (Or.inl (Or.inl (Or.inl (Or.inl (Or.inr hq)))))))) j (show j < 2 by omega)
    by_cases k90 : k < 90
    · obtain ⟨j, rfl⟩ := Nat.exists_eq_add_of_le (show 87 ≤ k by omega)
      exact mm_shift (T' := T3_) (ad' := adR) (g' := (fun _ _ => 0)) (show ∀ k, k < 3 → TC.getD (87 + k) sh0 = T3_.getD k sh0 by decide +kernel) sR (fun k (hk : k < 3) => gC_o (by omega)) (by decide +kernel) (fun _ _ _ _ _ _ => rfl) (P_sub hP (fun q hq => by unfold WU; simp only [List.mem_cons, List.mem_append]; exact Or.inr (Or.inr (Or.inl (Or.inl (Or.inl (Or.inr hq))))))) j (show j < 3 by omega)
    by_cases k140 : k < 140
    · obtain ⟨j, rfl⟩ := Nat.exists_eq_add_of_le (show 90 ≤ k by omega)
      exact mm_shift (T' := T9_) (ad' := adW) (g' := (fun _ _ => 0)) (show ∀ k, k < 50 → TC.getD (90 + k) sh0 = T9_.getD k sh0 by decide +kernel) sW (fun k (hk : k < 50) => gC_o (by omega)) (by decide +kernel) (fun _ _ _ _ _ _ => rfl) (P_sub hP (fun q hq => by unfold WU; simp only [List.mem_cons, List.mem_append]; exact Or.inr (Or.inr (Or.inl (Or.inl (Or.inr hq)))))) j (show j < 50 by omega)
    by_cases k142 : k < 142
    · obtain ⟨j, rfl⟩ := Nat.exists_eq_add_of_le (show 140 ≤ k by omega)
      exact mm_shift (T' := T8_) (ad' := adL) (g' := (fun _ _ => 0)) (show ∀ k, k < 2 → TC.getD (140 + k) sh0 = T8_.getD k sh0 by decide +kernel) sL (fun k (hk : k < 2) => gC_o (by omega)) (by decide +kernel) (fun _ _ _ _ _ _ => rfl) (P_sub hP (fun q hq => by unfold WU; simp only [List.mem_cons, List.mem_append]; exact Or.inr (Or.inr (Or.inl (Or.inr hq))))) j (show j < 2 by omega)
    by_cases k142 : k = 142
    · subst k142
      show va_at D vwCl (AD 142, .inl (cy 3, 4, .inr (.inr (.inr (.inr (fun j => some (AD (142 + 1 + j)))))))) H
      rw [a142]
      exact outer_cg (fun j hj => by
        rcases (show j = 0 ∨ j = 1 ∨ j = 2 ∨ j = 3 by omega) with rfl | rfl | rfl | rfl
        · exact congrArg some a143.symm
        · exact congrArg some a144.symm
        · exact congrArg some a145.symm
        · exact congrArg some a146.symm) (hP 1 _ rfl)
    have mem : ∀ q : Nat × va_E, q ∈ [(s0, i0), (s1, i1), (s2, i2), (s3, i3)].flatMap (fun pr : Nat × Nat => [((pr.1, .inr (4, [.ref pr.2, .int (-1), .int 0])) : Nat × va_E), (pr.2, .inl (cy 0, 24, .inl (fun _ => 0)))]) → va_at D vwCl q H := fun q hq => P_mem hP (by
      unfold WU
      simp only [List.mem_cons, List.mem_append]
      exact Or.inr (Or.inr (Or.inr hq)))
    rcases (show k = 143 ∨ k = 144 ∨ k = 145 ∨ k = 146 ∨ k = 147 ∨ k = 148 ∨ k = 149 ∨ k = 150 by omega) with rfl | rfl | rfl | rfl | rfl | rfl | rfl | rfl
    · show va_at D vwCl (AD 143, .inr (4, [.ref (AD 147), .int (-1), .int 0])) H
      rw [a143, a147]
      exact mem _ (by simp)
    · show va_at D vwCl (AD 144, .inr (4, [.ref (AD 148), .int (-1), .int 0])) H
      rw [a144, a148]
      exact mem _ (by simp)
    · show va_at D vwCl (AD 145, .inr (4, [.ref (AD 149), .int (-1), .int 0])) H
      rw [a145, a149]
      exact mem _ (by simp)
    · show va_at D vwCl (AD 146, .inr (4, [.ref (AD 150), .int (-1), .int 0])) H
      rw [a146, a150]
      exact mem _ (by simp)
    · show va_at D vwCl (AD 147, .inl (cy 0, 24, .inl (gC 147))) H
      rw [a147, gC_o (by omega)]
      exact mem _ (by simp)
    · show va_at D vwCl (AD 148, .inl (cy 0, 24, .inl (gC 148))) H
      rw [a148, gC_o (by omega)]
      exact mem _ (by simp)
    · show va_at D vwCl (AD 149, .inl (cy 0, 24, .inl (gC 149))) H
      rw [a149, gC_o (by omega)]
      exact mem _ (by simp)
    · show va_at D vwCl (AD 150, .inl (cy 0, 24, .inl (gC 150))) H
      rw [a150, gC_o (by omega)]
      exact mem _ (by simp)
  · rw [mm_L_fst, show TC.length = 151 from rfl, eAD, getD_all AL hAL, eAL]
    have h1 := AN_of hD
    unfold WU at h1
    simp only [List.map_cons, List.map_append, mm_L_fst] at h1
    refine h1.perm ?_
    refine List.Perm.cons _ ?_
    refine List.perm_middle.symm.trans ?_
    simp only [List.append_assoc]
    refine List.Perm.append_left _ ?_
    refine List.Perm.append_left _ ?_
    refine List.Perm.append_left _ ?_
    refine List.Perm.append_left _ ?_
    refine List.Perm.append_left _ ?_
    refine List.Perm.append_left _ ?_
    refine List.Perm.append_left _ ?_
    refine List.Perm.cons _ ?_
    exact perm_pairs [(s0, i0), (s1, i1), (s2, i2), (s3, i3)]
theorem len4 {α : Type} (l : List α) (h : l.length = 4) : ∃ a b c d, l = [a, b, c, d] := by
  match l, h with
  | [a, b, c, d], _ => exact ⟨a, b, c, d, rfl⟩
