/-! to go a walk: what becomes of the soles -/
/-- the row behind some miles: three shoes' soles -/
def S3 (N : Nat → Int32) (oa ob oc : Option Nat) (v : Nat → Nat) : Nat → Int32 := fun k => if oa = some (k - 63) ∧ 63 ≤ k then nI (v 0) else if ob = some (k - 63) ∧ 63 ≤ k then nI (v 1) else if oc = some (k - 63) ∧ 63 ≤ k then nI (v 2) else N k
def DJ (oa ob oc : Option Nat) : Prop := ∀ i j x, i < 3 → j < 3 → w3 oa ob oc i = some x → w3 oa ob oc j = some x → i = j
theorem S3_hit {N : Nat → Int32} {oa ob oc : Option Nat} (D : DJ oa ob oc) (v : Nat → Nat) {j x : Nat} (hj : j < 3) (h : w3 oa ob oc j = some x) : S3 N oa ob oc v (63 + x) = nI (v j) := by
  unfold S3
  rw [show 63 + x - 63 = x by omega]
  have n : ∀ i, i < 3 → i ≠ j → ¬ w3 oa ob oc i = some x := fun i hi hij e => hij (D i j x hi hj e h)
  rcases (show j = 0 ∨ j = 1 ∨ j = 2 by omega) with rfl | rfl | rfl
  · rw [if_pos ⟨h, by omega⟩]
  · rw [if_neg (fun e => n 0 (by omega) (by omega) e.1), if_pos ⟨h, by omega⟩]
  · rw [if_neg (fun e => n 0 (by omega) (by omega) e.1), if_neg (fun e => n 1 (by omega) (by omega) e.1), if_pos ⟨h, by omega⟩]
theorem S3_miss {N : Nat → Int32} {oa ob oc : Option Nat} (v : Nat → Nat) {k : Nat} (h : ∀ j x, j < 3 → w3 oa ob oc j = some x → k ≠ 63 + x) : S3 N oa ob oc v k = N k := by
  unfold S3
  rw [if_neg (fun e => h 0 _ (by omega) e.1 (by omega)), if_neg (fun e => h 1 _ (by omega) e.1 (by omega)), if_neg (fun e => h 2 _ (by omega) e.1 (by omega))]
theorem S3_upd {N : Nat → Int32} {oa ob oc : Option Nat} (D : DJ oa ob oc) (v : Nat → Nat) {j x : Nat} (hj : j < 3) (h : w3 oa ob oc j = some x) (a : Nat) : upd (S3 N oa ob oc v) (63 + x) (nI a) = S3 N oa ob oc (ua v j a) := by
  funext k
  by_cases e : k = 63 + x
  · subst e
    rw [upd_eq, S3_hit D _ hj h, ua_eq]
  · rw [upd_ne _ _ e]
    rcases Classical.em (∃ j' x', j' < 3 ∧ w3 oa ob oc j' = some x' ∧ k = 63 + x') with ⟨j', x', h1, h2, h3⟩ | w
    · subst h3
      rw [S3_hit D _ h1 h2, S3_hit D _ h1 h2, ua_ne _ _ (fun ej => by
        subst ej
        rw [h] at h2
        cases h2
        exact e rfl)]
    · have w' : ∀ j' x', j' < 3 → w3 oa ob oc j' = some x' → k ≠ 63 + x' := fun j' x' h1 h2 h3 => w ⟨j', x', h1, h2, h3⟩
      rw [S3_miss _ w', S3_miss _ w']
theorem S3_congr {N : Nat → Int32} {oa ob oc : Option Nat} {v v' : Nat → Nat} (h : ∀ j, j < 3 → v j = v' j) : S3 N oa ob oc v = S3 N oa ob oc v' := by
  unfold S3
  rw [h 0 (by omega), h 1 (by omega), h 2 (by omega)]
theorem S3_base {N : Nat → Int32} {oa ob oc : Option Nat} (D : DJ oa ob oc) {v : Nat → Nat} (h : ∀ j x, j < 3 → w3 oa ob oc j = some x → N (63 + x) = nI (v j)) : S3 N oa ob oc v = N := by
  funext k
  rcases Classical.em (∃ j' x', j' < 3 ∧ w3 oa ob oc j' = some x' ∧ k = 63 + x') with ⟨j', x', h1, h2, h3⟩ | w
  · subst h3
    rw [S3_hit D _ h1 h2, h j' x' h1 h2]
  · exact S3_miss _ (fun j' x' h1 h2 h3 => w ⟨j', x', h1, h2, h3⟩)
theorem S3_WF {N : Nat → Int32} {oa ob oc : Option Nat} (hF : WF N) (D : DJ oa ob oc) (h16 : ∀ j x, j < 3 → w3 oa ob oc j = some x → x < 16) {v : Nat → Nat} (hv : ∀ j x, j < 3 → w3 oa ob oc j = some x → v j ≤ 99) : WF (S3 N oa ob oc v) := by
  have miss : ∀ k, k < 63 ∨ 79 ≤ k → S3 N oa ob oc v k = N k := fun k hk => S3_miss _ (fun j x h1 h2 h3 => by have := h16 j x h1 h2; omega)
  refine ⟨fun k hk hb => ?_, fun a b ha hb => ?_⟩
  · rcases Classical.em (∃ j' x', j' < 3 ∧ w3 oa ob oc j' = some x' ∧ k = 63 + x') with ⟨j', x', h1, h2, h3⟩ | w
    · subst h3
      exact ⟨v j', by rw [(show ∀ k, k < 16 → ub (63 + k) = 99 by decide +kernel) x' (h16 j' x' h1 h2)]; exact hv j' x' h1 h2, S3_hit D _ h1 h2⟩
    · rw [S3_miss _ (fun j' x' h1 h2 h3 => w ⟨j', x', h1, h2, h3⟩)]
      exact hF.1 k hk hb
  · rw [miss _ (by omega), miss _ (by omega)]
    exact hF.2 a b ha hb
/-- what a going takes of a shoe's soles -/
def am (N : Nat → Int32) (oa ob oc : Option Nat) (g j : Nat) : Nat := if j = 0 then aA N oa g else if j = 1 then aB N ob g else aC N oc g
/-- the soles behind i miles -/
def vS (N : Nat → Int32) (oa ob oc : Option Nat) (br : Nat → Nat) (i j : Nat) : Nat := if j = 0 then oL N oa - uA N oa (qa nQ i 0 q00 br) else if j = 1 then oL N ob - uB N ob (qa nQ i 0 q00 br) else oL N oc - uC N oc (qa nQ i 0 q00 br)
theorem okr_pre {Q : Type} {ok : Q → Nat → Bool} {nq : Q → Nat → Q} {q : Q} {r : Nat → Nat} (h : okr ok nq 9 0 q r) {i : Nat} (hi : i ≤ 9) : okr ok nq i 0 q r := ((okr_add ok nq r i (9 - i) 0 q).mp (by rw [show i + (9 - i) = 9 by omega]; exact h)).1
theorem okr_at {Q : Type} {ok : Q → Nat → Bool} {nq : Q → Nat → Q} {q : Q} {r : Nat → Nat} (h : okr ok nq 9 0 q r) {i : Nat} (hi : i < 9) : r i < 4 ∧ ok (qa nq i 0 q r) (r i) = true := by
  have := ((okr_add ok nq r i 1 0 q).mp (okr_pre h (show i + 1 ≤ 9 by omega))).2
  rw [okr, Nat.zero_add] at this
  exact ⟨this.1, this.2.1⟩
theorem okQ_open {N : Nat → Int32} {lone : Bool} {oa ob oc : Option Nat} {q : Qc} {k : Nat} (h : okQ N lone oa ob oc q k = true) : gOpen lone oa ob oc k = true := by
  unfold okQ at h
  rw [Bool.and_eq_true] at h
  exact canQ_open h.1
theorem vS_s {N : Nat → Int32} {lone : Bool} {oa ob oc : Option Nat} {br : Nat → Nat} (h : okr (okQ N lone oa ob oc) nQ 9 0 q00 br) {i : Nat} (hi : i < 9) {j : Nat} (hj : j < 3) : am N oa ob oc (br i) j ≤ vS N oa ob oc br i j ∧ vS N oa ob oc br (i + 1) j = vS N oa ob oc br i j - am N oa ob oc (br i) j := by
  have h1 := path_soles (i + 1) (okr_pre h (show i + 1 ≤ 9 by omega))
  rw [qa_s, uA_s, uB_s N ob _ (okr_at h hi).1, uC_s] at h1
  unfold vS am
  rw [qa_s, uA_s, uB_s N ob _ (okr_at h hi).1, uC_s]
  rcases (show j = 0 ∨ j = 1 ∨ j = 2 by omega) with rfl | rfl | rfl
  · rw [if_pos rfl, if_pos rfl, if_pos rfl]
    omega
  · simp only [show ¬ (1 : Nat) = 0 by decide, if_false, if_true]
    omega
  · simp only [show ¬ (2 : Nat) = 0 by decide, show ¬ (2 : Nat) = 1 by decide, if_false]
    omega
/-- a mile of the class: each shoe in turn -/
theorem k_wearMile {N0 N1 : Nat → Int32} {oa ob oc : Option Nat} (D : DJ oa ob oc) (h16 : ∀ j x, j < 3 → w3 oa ob oc j = some x → x < 16) {i gk : Nat} (hi : i < 9) (hg : gk < 4) (v : Nat → Nat) (hv : ∀ j, j < 3 → am N0 oa ob oc gk j ≤ v j) (K : Int32 → Mm → Option Mm) : ∀ (d j f : Nat) (g : Mm), j + d = 3 → d < f → WR g 1 (S3 N1 oa ob oc (fun s => if s < j then v s - am N0 oa ob oc gk s else v s)) → RF oa ob oc g → (∀ j, j < 3 → g (104 + gk) j = nI (am N0 oa ob oc gk j)) → g 139 i = nI gk →
    ∃ g', f_X9_wearOut_c10 K 90 f (nI i) (nI j) g = K (nI (i + 1)) g' ∧ WR g' 1 (S3 N1 oa ob oc (fun s => v s - am N0 oa ob oc gk s)) ∧ ∀ x, x < 5 ∨ 21 ≤ x → g' x = g x := by
  intro d
  induction d with
  | zero =>
    intro j f g hj hf hW hR h4 h9
    obtain ⟨f, rfl⟩ := Nat.exists_eq_succ_of_ne_zero (show f ≠ 0 by omega)
    have e : j = 3 := by omega
    subst e
    rw [f_X9_wearOut_c10, if_pos (show (3 : Int32) ≤ nI 3 by decide), mv_v, nI_1]
    exact ⟨g, rfl, by rw [S3_congr (fun s hs => (if_pos hs).symm)]; exact hW, fun _ _ => rfl⟩
  | succ d ih =>
    intro j f g hj hf hW hR h4 h9
    obtain ⟨f, rfl⟩ := Nat.exists_eq_succ_of_ne_zero (show f ≠ 0 by omega)
    have hj3 : j < 3 := by omega
    have ho : ∀ x, w3 oa ob oc j = some x → x < 16 := fun x e => h16 j x hj3 e
    rw [f_X9_wearOut_c10, if_neg (show ¬ (3 : Int32) ≤ nI j from nI_ge (b := 3) hj3 (by omega)), og_in _ hj3 (by omega), nI_clamp (show j < 2 ^ 31 by omega), show g (90 + 1) j = _ from hR j hj3, code_num ho, mv_v, os_num ho, og_t]
    cases ew : w3 oa ob oc j with
    | none =>
      show ∃ g', mv (nI j + 1) (fun x2_8 => f_X9_wearOut_c10 K 90 f (nI i) x2_8 g) = K (nI (i + 1)) g' ∧ _
      rw [mv_v, nI_1]
      refine ih (j + 1) f g (by omega) (by omega) ?_ hR h4 h9
      have e : S3 N1 oa ob oc (fun s => if s < j + 1 then v s - am N0 oa ob oc gk s else v s) = S3 N1 oa ob oc (fun s => if s < j then v s - am N0 oa ob oc gk s else v s) := by
        funext k
        unfold S3
        rcases (show j = 0 ∨ j = 1 ∨ j = 2 by omega) with rfl | rfl | rfl
        · have ew : oa = none := ew
          rw [ew]
          simp
        · have ew : ob = none := ew
          rw [ew]
          simp
        · have ew : oc = none := ew
          rw [ew]
          simp
      rw [e]
      exact hW
    | some x =>
      have hx := ho x ew
      show ∃ g', og (mm_in (nI j) 3) (mv (some (5 + x)) (fun o_10 => og (mm_os TC sX5 o_10) (on o_10 none (fun q_12 => og (mm_in (nI i) 9) (og (mm_in (g (90 + 49) (nI i).toNatClampNeg) 4) (og (mm_in (nI j) 3) (mw g q_12 2 ((g q_12 2) - (g (90 + 14 + (g (90 + 49) (nI i).toNatClampNeg).toNatClampNeg) j)) (fun g_16 => mv (nI j + 1) (fun x2_17 => f_X9_wearOut_c10 K 90 f (nI i) x2_17 g_16))))))))) = K (nI (i + 1)) g' ∧ _
      rw [og_in _ hj3 (by omega), mv_v, os_shoe hx, og_t]
      show ∃ g', og (mm_in (nI i) 9) (og (mm_in (g (90 + 49) (nI i).toNatClampNeg) 4) (og (mm_in (nI j) 3) (mw g (5 + x) 2 ((g (5 + x) 2) - (g (90 + 14 + (g (90 + 49) (nI i).toNatClampNeg).toNatClampNeg) j)) (fun g_16 => mv (nI j + 1) (fun x2_17 => f_X9_wearOut_c10 K 90 f (nI i) x2_17 g_16))))) = K (nI (i + 1)) g' ∧ _
      rw [og_in _ hi (by omega), nI_clamp (show i < 2 ^ 31 by omega), show g (90 + 49) i = nI gk from h9, og_in _ hg (by omega), og_in _ hj3 (by omega), nI_clamp (show gk < 2 ^ 31 by omega), wr_soles hW hx, S3_hit D _ hj3 ew, show (if j < j then v j - am N0 oa ob oc gk j else v j) = v j from if_neg (by omega), show g (90 + 14 + gk) j = nI (am N0 oa ob oc gk j) from h4 j hj3, pk_sub (hv j hj3), mw_v, mv_v, nI_1]
      obtain ⟨g', r1, r2, r3⟩ := ih (j + 1) f (mm_up g (5 + x) 2 (nI (v j - am N0 oa ob oc gk j))) (by omega) (by omega) (by
        have := up_soles hW hx (nI (v j - am N0 oa ob oc gk j))
        rw [S3_upd D _ hj3 ew] at this
        rw [S3_congr (v' := ua (fun s => if s < j then v s - am N0 oa ob oc gk s else v s) j (v j - am N0 oa ob oc gk j)) (fun s hs => by
          by_cases es : s = j
          · subst es
            rw [ua_eq, if_pos (by omega)]
          · rw [ua_ne _ _ es]
            by_cases w : s < j
            · rw [if_pos (by omega), if_pos w]
            · rw [if_neg (by omega), if_neg w])]
        exact this) (fun s hs => by rw [mm_up_ne _ _ _ (by omega)]; exact hR s hs) (fun s hs => by rw [mm_up_ne _ _ _ (by omega)]; exact h4 s hs) (by rw [mm_up_ne _ _ _ (by omega)]; exact h9)
      exact ⟨g', r1, r2, fun y hy => by rw [r3 y hy, mm_up_ne _ _ _ (by omega)]⟩
/-- all nine -/
theorem k_wearOut {N0 N1 : Nat → Int32} {lone : Bool} {oa ob oc : Option Nat} (D : DJ oa ob oc) (h16 : ∀ j x, j < 3 → w3 oa ob oc j = some x → x < 16) {br : Nat → Nat} (hbr : okr (okQ N0 lone oa ob oc) nQ 9 0 q00 br) : ∀ (d i f : Nat) (g : Mm), i + d = 9 → d < f → WR g 1 (S3 N1 oa ob oc (vS N0 oa ob oc br i)) → RF oa ob oc g → (∀ k j, k < 4 → j < 3 → g (104 + k) j = nI (am N0 oa ob oc k j)) → (∀ j, j < 9 → g 139 j = nI (br j)) →
    ∃ g', f_X9_wearOut_c2 90 f (nI i) g = some g' ∧ WR g' 1 (S3 N1 oa ob oc (vS N0 oa ob oc br 9)) ∧ ∀ x, x < 5 ∨ 21 ≤ x → g' x = g x := by
  intro d
  induction d with
  | zero =>
    intro i f g hi hf hW hR h4 h9
    obtain ⟨f, rfl⟩ := Nat.exists_eq_succ_of_ne_zero (show f ≠ 0 by omega)
    have e : i = 9 := by omega
    subst e
    rw [f_X9_wearOut_c2, if_pos (show (9 : Int32) ≤ nI 9 by decide)]
    exact ⟨g, rfl, hW, fun _ _ => rfl⟩
  | succ d ih =>
    intro i f g hi hf hW hR h4 h9
    obtain ⟨f, rfl⟩ := Nat.exists_eq_succ_of_ne_zero (show f ≠ 0 by omega)
    have hi9 : i < 9 := by omega
    have hg := (okr_at hbr hi9).1
    rw [f_X9_wearOut_c2, if_neg (show ¬ (9 : Int32) ≤ nI i from nI_ge (b := 9) hi9 (by omega))]
    obtain ⟨g1, r1, r2, r3⟩ := k_wearMile (N0 := N0) (N1 := N1) D h16 hi9 hg (vS N0 oa ob oc br i) (fun j hj => (vS_s hbr hi9 hj).1) (f_X9_wearOut_c2 90 f) 3 0 FU g (by omega) (fu_lt (by omega)) (by
      rw [S3_congr (v' := vS N0 oa ob oc br i) (fun s hs => if_neg (by omega))]
      exact hW) hR (fun j hj => h4 _ j hg hj) (h9 i hi9)
    rw [show f_X9_wearOut_c10 (f_X9_wearOut_c2 90 f) 90 FU (nI i) 0 g = _ from r1]
    obtain ⟨g', t1, t2, t3⟩ := ih (i + 1) f g1 (by omega) (by omega) (by
      rw [S3_congr (v' := fun s => vS N0 oa ob oc br i s - am N0 oa ob oc (br i) s) (fun s hs => (vS_s hbr hi9 hs).2)]
      exact r2) (fun s hs => by rw [r3 _ (by omega)]; exact hR s hs) (fun k j hk hj => by rw [r3 _ (by omega)]; exact h4 k j hk hj) (fun j hj => by rw [r3 _ (by omega)]; exact h9 j hj)
    exact ⟨g', t1, t2, fun x hx => by rw [t3 x hx, r3 x hx]⟩
