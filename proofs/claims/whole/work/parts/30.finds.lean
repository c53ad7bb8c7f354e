/-! the model's search -/
def MB (f : Bool) (br : Nat → Nat) (bc bt : Nat) (h : Mm) : Prop := (f = false ∧ h 0 19 = -1) ∨ (f = true ∧ h 0 19 = nI bc ∧ h 0 20 = nI bt ∧ ∀ j, j < 9 → h 16 j = nI (br j))
def MK (m h : Mm) : Prop := (∀ x, 1 ≤ x → x < 8 ∨ 17 ≤ x → h x = m x) ∧ (∀ s, s ≠ 19 → s ≠ 20 → h 0 s = m 0 s)
def MVd (N : Nat → Int32) (lone : Bool) (oa ob oc : Option Nat) (a : Nat → Nat) (h : Mm) (d : Nat) : Prop := h 9 d = nI (sa (cQ N lone oa ob) d 0 (pth a)) ∧ h 10 d = nI (sa (mQ N oa ob oc) d 0 (pth a)) ∧ h 11 d = nI (uA N oa (qa nQ d 0 q00 (pth a))) ∧ h 12 d = nI (uB N ob (qa nQ d 0 q00 (pth a))) ∧ h 13 d = nI (uC N oc (qa nQ d 0 q00 (pth a))) ∧ h 14 d = nI (qa nQ d 0 q00 (pth a)).2.2.2.1 ∧ h 15 d = nI (hm (pth a) d)
def MV (N : Nat → Int32) (lone : Bool) (oa ob oc : Option Nat) (i : Nat) (a : Nat → Nat) (h : Mm) : Prop := (∀ j, j ≤ i → h 8 j = nI (a j) - 1) ∧ ∀ d, d ≤ i → MVd N lone oa ob oc a h d
def AG (i : Nat) (h h' : Mm) : Prop := (∀ j, j < i → h' 8 j = h 8 j) ∧ ∀ x d, 9 ≤ x → x < 16 → d ≤ i → h' x d = h x d
theorem MVd.congr {N : Nat → Int32} {lone : Bool} {oa ob oc : Option Nat} {a a' : Nat → Nat} {h h' : Mm} {d : Nat} (hv : MVd N lone oa ob oc a h d) (ha : ∀ j, j < d → pth a' j = pth a j) (hh : ∀ x, 9 ≤ x → x < 16 → h' x d = h x d) : MVd N lone oa ob oc a' h' d := by
  have e : ∀ j, 0 ≤ j → j < 0 + d → pth a' j = pth a j := fun j _ hj => ha j (by omega)
  obtain ⟨h1, h2, h3, h4, h5, h6, h7⟩ := hv
  unfold MVd
  rw [sa_congr _ d 0 e, sa_congr _ d 0 e, qa_congr nQ d 0 q00 e, hm_congr d ha, hh 9 (by omega) (by omega), hh 10 (by omega) (by omega), hh 11 (by omega) (by omega), hh 12 (by omega) (by omega), hh 13 (by omega) (by omega), hh 14 (by omega) (by omega), hh 15 (by omega) (by omega)]
  exact ⟨h1, h2, h3, h4, h5, h6, h7⟩
theorem MV.skip {N : Nat → Int32} {lone : Bool} {oa ob oc : Option Nat} {i : Nat} {a : Nat → Nat} {h h' : Mm} (hv : MV N lone oa ob oc i a h) (hg : AG i h h') (h8 : h' 8 i = nI (a i)) : MV N lone oa ob oc i (ua a i (a i + 1)) h' := by
  refine ⟨fun j hj => ?_, fun d hd => (hv.2 d hd).congr (fun j hj => pth_ua (by omega)) (fun x h1 h2 => hg.2 x d h1 h2 hd)⟩
  by_cases e : j = i
  · subst e
    rw [ua_eq, nI_pred, h8]
  · rw [ua_ne _ _ e, hg.1 j (by omega)]
    exact hv.1 j hj
theorem MV.up {N : Nat → Int32} {lone : Bool} {oa ob oc : Option Nat} {i : Nat} {a : Nat → Nat} {h h' : Mm} (hv : MV N lone oa ob oc (i + 1) a h) (hg : AG (i + 1) h h') : MV N lone oa ob oc i a h' :=
  ⟨fun j hj => by rw [hg.1 j (by omega)]; exact hv.1 j (by omega), fun d hd => (hv.2 d (by omega)).congr (fun _ _ => rfl) (fun x h1 h2 => hg.2 x d h1 h2 (by omega))⟩
theorem MV.down {N : Nat → Int32} {lone : Bool} {oa ob oc : Option Nat} {i : Nat} {a : Nat → Nat} {h h' : Mm} (hv : MV N lone oa ob oc i a h) (h4 : a i < 4) (hg : AG i h h') (h8 : h' 8 i = nI (a i)) (h9 : h' 8 (i + 1) = -1) (hn : MVd N lone oa ob oc (ua a i (a i + 1)) h' (i + 1)) : MV N lone oa ob oc (i + 1) (ua (ua a i (a i + 1)) (i + 1) 0) h' := by
  have hs := hv.skip hg h8
  refine ⟨fun j hj => ?_, fun d hd => ?_⟩
  · by_cases e : j = i + 1
    · subst e
      rw [ua_eq, h9]
      rfl
    · rw [ua_ne _ _ e]
      exact hs.1 j (by omega)
  · by_cases e : d = i + 1
    · subst e
      exact hn.congr (fun j hj => pth_ua (by omega)) (fun _ _ _ => rfl)
    · exact (hs.2 d (by omega)).congr (fun j hj => pth_ua (by omega)) (fun _ _ _ => rfl)
theorem sumW_o (h : Mm) (j : Nat) (v9 v10 v11 v12 v13 v14 v15 : Int32) {x : Nat} (hx : x < 9 ∨ 16 ≤ x) : sumW h j v9 v10 v11 v12 v13 v14 v15 x = h x := by
  unfold sumW
  rw [mm_up_ne _ _ _ (by omega), mm_up_ne _ _ _ (by omega), mm_up_ne _ _ _ (by omega), mm_up_ne _ _ _ (by omega), mm_up_ne _ _ _ (by omega), mm_up_ne _ _ _ (by omega), mm_up_ne _ _ _ (by omega)]
theorem sumW_k (h : Mm) (j : Nat) (v9 v10 v11 v12 v13 v14 v15 : Int32) {x k : Nat} (hk : k ≠ j) : sumW h j v9 v10 v11 v12 v13 v14 v15 x k = h x k := by
  unfold sumW
  simp only [mm_up_ap, if_neg hk, ite_self]
theorem sumW_v (h : Mm) (j : Nat) (v9 v10 v11 v12 v13 v14 v15 : Int32) : sumW h j v9 v10 v11 v12 v13 v14 v15 9 j = v9 ∧ sumW h j v9 v10 v11 v12 v13 v14 v15 10 j = v10 ∧ sumW h j v9 v10 v11 v12 v13 v14 v15 11 j = v11 ∧ sumW h j v9 v10 v11 v12 v13 v14 v15 12 j = v12 ∧ sumW h j v9 v10 v11 v12 v13 v14 v15 13 j = v13 ∧ sumW h j v9 v10 v11 v12 v13 v14 v15 14 j = v14 ∧ sumW h j v9 v10 v11 v12 v13 v14 v15 15 j = v15 := by
  unfold sumW
  refine ⟨?_, ?_, ?_, ?_, ?_, ?_, ?_⟩ <;> simp (disch := omega) only [mm_up_eq, mm_up_ne, upd_eq]
theorem m_c270 (K : Int32 → Mm → Option (Int32 × Mm)) (x1 x2 x3 x4 x5 x6 : Int32) : ∀ (d i f : Nat) (h h0 : Mm), i + d = 9 → d < f → (∀ x, x ≠ 16 → h x = h0 x) → (∀ j, j < i → h 16 j = h0 8 j) → ∃ h', f_X12_finds_c270 K x1 x2 x3 x4 x5 f x6 (nI i) h = K x6 h' ∧ (∀ x, x ≠ 16 → h' x = h0 x) ∧ ∀ j, j < 9 → h' 16 j = h0 8 j := by
  intro d
  induction d with
  | zero =>
    intro i f h h0 hi hf h1 h2
    obtain ⟨f, rfl⟩ := Nat.exists_eq_succ_of_ne_zero (show f ≠ 0 by omega)
    rw [f_X12_finds_c270, if_pos (show (9 : Int32) ≤ nI i from nI_le (a := 9) (by omega) (by omega))]
    exact ⟨h, rfl, h1, fun j hj => h2 j (by omega)⟩
  | succ d ih =>
    intro i f h h0 hi hf h1 h2
    obtain ⟨f, rfl⟩ := Nat.exists_eq_succ_of_ne_zero (show f ≠ 0 by omega)
    rw [f_X12_finds_c270, if_neg (show ¬ (9 : Int32) ≤ nI i from nI_ge (b := 9) (by omega) (by omega)), og_in _ (by omega) (by omega), og_in _ (by omega) (by omega), nI_clamp (by omega), mw_v, mv_v, nI_1]
    refine ih (i + 1) f _ h0 (by omega) (by omega) (fun x hx => by rw [mm_up_ne _ _ _ hx]; exact h1 x hx) (fun j hj => ?_)
    rw [mm_up_eq]
    by_cases e : j = i
    · subst e
      rw [upd_eq, h1 8 (by omega)]
    · rw [upd_ne _ _ e]
      exact h2 j (by omega)
/-- a mile that is no good is left -/
theorem m_c147_no (K : Int32 → Mm → Option (Int32 × Mm)) (x1 x2 x3 x4 x5 : Int32) {i : Nat} (hi : i < 9) (h : Mm) : f_X12_finds_c146 K x1 x2 x3 x4 x5 (nI i) h = K (nI i) h := by
  unfold f_X12_finds_c146 f_X12_finds_c147 f_X12_finds_c204 f_X12_finds_c208 f_X12_finds_c209
  rw [nI_1, og_in _ (show i + 1 < 10 by omega) (by omega), og_in _ (show i + 1 < 10 by omega) (by omega), og_in _ (show i + 1 < 10 by omega) (by omega), if_pos rfl, if_pos rfl]
  split
  · rfl
  · split
    · rfl
    · split
      · split <;> rfl
      · rfl
/-- a mile that is good: it is left, or it betters what was found -/
theorem m_c147_yes (K : Int32 → Mm → Option (Int32 × Mm)) (x1 x2 x3 x4 x5 : Int32) {i : Nat} (hi : i < 9) {h : Mm} {f : Bool} {br : Nat → Nat} {bc bt c t : Nat} (hB : MB f br bc bt h) (b1 : bc < 2 ^ 31) (b2 : bt < 2 ^ 31) (b3 : c < 2 ^ 31) (b4 : t < 2 ^ 31) (e9 : h 9 (i + 1) = nI c) (e10 : h 10 (i + 1) = nI t) :
    (f_X12_finds_c147 K x1 x2 x3 x4 x5 (nI i) 1 h = K (nI i) h ∧ dom f bc bt c t) ∨ (f_X12_finds_c147 K x1 x2 x3 x4 x5 (nI i) 1 h = f_X12_finds_c204 K x1 x2 x3 x4 x5 (nI i) 1 h ∧ (f = true → c < bc ∨ c = bc ∧ t < bt)) := by
  unfold f_X12_finds_c147
  rcases hB with ⟨hf, e⟩ | ⟨hf, e1, e2, e3⟩
  · rw [e, if_pos (show (-1 : Int32) < 0 by decide)]
    exact Or.inr ⟨rfl, fun h => by rw [hf] at h; exact absurd h (by decide)⟩
  · rw [e1, e2, if_neg (show ¬ nI bc < 0 from nI_pos b1), nI_1, og_in _ (show i + 1 < 10 by omega) (by omega), og_in _ (show i + 1 < 10 by omega) (by omega), og_in _ (show i + 1 < 10 by omega) (by omega), nI_clamp (show i + 1 < 2 ^ 31 by omega), e9, e10]
    have no : f_X12_finds_c208 K x1 x2 x3 x4 x5 (nI i) 1 h = K (nI i) h := by
      unfold f_X12_finds_c208 f_X12_finds_c209
      rw [if_neg (show ¬ (1 : Int32) = 0 by decide), if_pos rfl]
    by_cases g1 : c < bc
    · rw [if_pos (nI_lt g1 b1)]
      exact Or.inr ⟨rfl, fun _ => Or.inl g1⟩
    rw [if_neg (nI_nlt (by omega) b3)]
    by_cases g2 : c = bc
    · subst g2
      rw [if_pos rfl]
      by_cases g3 : bt ≤ t
      · rw [if_pos (nI_le g3 b4), no]
        exact Or.inl ⟨rfl, hf, Or.inr ⟨rfl, g3⟩⟩
      · rw [if_neg (nI_ge (by omega) b2)]
        exact Or.inr ⟨rfl, fun _ => Or.inr ⟨rfl, by omega⟩⟩
    · rw [if_neg (fun w => g2 (nI_inj b3 b1 w)), no]
      exact Or.inl ⟨rfl, hf, Or.inl (by omega)⟩
