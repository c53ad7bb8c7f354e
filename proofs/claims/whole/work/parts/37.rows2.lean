theorem AI.sub {Q : Type} {ok : Q → Nat → Bool} {nq : Q → Nat → Q} {mi co : Nat → Nat → Nat} {lim : Nat} {q0 : Q} {E E' : Nat → Q → Nat → Nat → Prop} {i : Nat} {a : Nat → Nat} {f : Bool} {bc bt : Nat} (h : AI ok nq mi co lim q0 E i a f bc bt) (hE : ∀ d q c t, E' d q c t → E d q c t) : AI ok nq mi co lim q0 E' i a f bc bt := fun d q c t he => h d q c t (hE d q c t he)
theorem EE.of {g g' : Mm} {sn : Nat} (h1 : g' 136 = g 136) (h2 : g' 137 = g 137) (h3 : g' 138 = g 138) : ∀ d q c t, EE g' sn d q c t → EE g sn d q c t := by
  intro d q c t h
  unfold EE at h ⊢
  rw [h1, h2, h3] at h
  exact h
theorem EX.of {g g' : Mm} {sn : Nat} (h : EX g sn) (h0 : g' 135 = g 135) (h1 : g' 136 = g 136) (h2 : g' 137 = g 137) (h3 : g' 138 = g 138) : EX g' sn := by
  unfold EX at h ⊢
  rw [h0, h1, h2, h3]
  exact h
theorem CB.of {f : Bool} {br : Nat → Nat} {bc bt : Nat} {g g' : Mm} (h : CB f br bc bt g) (h0 : g' 90 = g 90) (h1 : g' 139 = g 139) : CB f br bc bt g' := by
  unfold CB at h ⊢
  rw [h0, h1]
  exact h
def KF (g0 g : Mm) : Prop := ∀ x, x < 90 ∨ x = 91 ∨ x = 135 ∨ 140 ≤ x → g x = g0 x
theorem k_rows_loop {g0 : Mm} {N : Nat → Int32} (hF : WF N) {oa ob oc : Option Nat} (ha : ∀ x, oa = some x → x < 16) (hb : ∀ x, ob = some x → x < 16) (hc : ∀ x, oc = some x → x < 16) {lone : Bool} {lim sn : Nat} (hlim : lim ≤ 999) {ls : Nat → Nat} (hls9 : ls 9 = 0) (hls : ∀ i q z, i ≤ 9 → okr (okQ N lone oa ob oc) nQ (9 - i) i q z → ls i ≤ sa (mQ N oa ob oc) (9 - i) i z) (hlsb : ∀ i, i ≤ 9 → ls i ≤ 20000) :
    ∀ (n i : Nat) (a : Nat → Nat) (x2 fuel : Nat) (g : Mm) (f : Bool) (br : Nat → Nat) (bc bt : Nat), rm a (i + 1) ≤ n → n < fuel → x2 + n ≤ 999999 → CI (okQ N lone oa ob oc) nQ (mQ N oa ob oc) (cQ N lone oa ob) lim q00 i a f br bc bt → AI (okQ N lone oa ob oc) nQ (mQ N oa ob oc) (cQ N lone oa ob) lim q00 (EE g sn) i a f bc bt → EX g sn → WT N lone oa ob oc lim ls g → (∀ d, d ≤ i → CVd N lone oa ob oc a g d) → (∀ j, j ≤ i → g 109 j = nI (a j) - 1) → CB f br bc bt g → KF g0 g → bc ≤ 20000 → bt ≤ 20000 →
      ∃ f' br' bc' bt' a' g', f_X9_tryRows_c11 90 fuel (nI i) (nI x2) g = some g' ∧ B1 (okQ N lone oa ob oc) nQ (mQ N oa ob oc) (cQ N lone oa ob) lim q00 f' br' bc' bt' ∧ (∀ y, Vd (okQ N lone oa ob oc) nQ (mQ N oa ob oc) lim q00 y → dom f' bc' bt' (sa (cQ N lone oa ob) 9 0 y) (sa (mQ N oa ob oc) 9 0 y)) ∧ CB f' br' bc' bt' g' ∧ EX g' sn ∧ WT N lone oa ob oc lim ls g' ∧ CVd N lone oa ob oc a' g' 0 ∧ KF g0 g' ∧ bc' ≤ 20000 ∧ bt' ≤ 20000 := by
  intro n
  induction n with
  | zero =>
    intro i a x2 fuel g f br bc bt hn
    have := rm_pos a i
    omega
  | succ n ih =>
    intro i a x2 fuel g f br bc bt hn hfu hx2 hC hA hX hT hV hR hB hK hbc hbt
    obtain ⟨k, rfl⟩ := Nat.exists_eq_succ_of_ne_zero (show fuel ≠ 0 by omega)
    have hi8 := hC.1
    rw [f_X9_tryRows_c11, if_neg (show ¬ (1000000 : Int32) ≤ nI x2 from nI_ge (b := 1000000) (by omega) (by omega)), if_neg (show ¬ nI i < 0 from nI_pos (by omega)), og_in _ (show i < 9 by omega) (by omega), og_in _ (show i < 9 by omega) (by omega), nI_clamp (show i < 2 ^ 31 by omega), show g (90 + 19) i = nI (a i) - 1 from hR i (Nat.le_refl _), nI_back, mw_v, og_in _ (show i < 9 by omega) (by omega)]
    have o1 : ∀ x, x ≠ 109 → mm_up g (90 + 19) i (nI (a i)) x = g x := fun x hx => mm_up_ne _ _ _ hx
    have e8 : mm_up g (90 + 19) i (nI (a i)) (90 + 19) i = nI (a i) := by rw [mm_up_eq, upd_eq]
    have e9 : ∀ j, j < i → mm_up g (90 + 19) i (nI (a i)) 109 j = nI (a j) - 1 := fun j hj => by
      rw [show (109 : Nat) = 90 + 19 from rfl, mm_up_eq, upd_ne _ _ (by omega)]
      exact hR j (by omega)
    have T1 : WT N lone oa ob oc lim ls (mm_up g (90 + 19) i (nI (a i))) := hT.of (fun s _ => by rw [o1 _ (by omega)]) (fun x h1 h2 => o1 x (by omega))
    have V1 : ∀ d, d ≤ i → CVd N lone oa ob oc a (mm_up g (90 + 19) i (nI (a i))) d := fun d hd => (hV d hd).of (fun _ _ => rfl) (by rw [o1 _ (by omega)]) (by rw [o1 _ (by omega)]) (o1 _ (by omega)) (by rw [o1 _ (by omega)]) (o1 _ (by omega))
    have B1' : CB f br bc bt (mm_up g (90 + 19) i (nI (a i))) := hB.of (o1 _ (by omega)) (o1 _ (by omega))
    have K1 : KF g0 (mm_up g (90 + 19) i (nI (a i))) := fun x hx => by rw [o1 x (by omega)]; exact hK x hx
    have X1 : EX (mm_up g (90 + 19) i (nI (a i))) sn := hX.of (o1 _ (by omega)) (o1 _ (by omega)) (o1 _ (by omega)) (o1 _ (by omega))
    have A1 : AI (okQ N lone oa ob oc) nQ (mQ N oa ob oc) (cQ N lone oa ob) lim q00 (EE (mm_up g (90 + 19) i (nI (a i))) sn) i a f bc bt := hA.sub (EE.of (o1 _ (by omega)) (o1 _ (by omega)) (o1 _ (by omega)))
    rw [e8]
    generalize mm_up g (90 + 19) i (nI (a i)) = g1 at *
    have e8' : g1 109 i = nI (a i) := e8
    have ai4 := hC.2.2.1
    by_cases h4 : a i < 4
    · rw [if_pos (show nI (a i) < 4 from nI_lt (b := 4) h4 (by omega)), og_in _ (show i < 9 by omega) (by omega)]
      have skip : ∀ g', EX g' sn → AI (okQ N lone oa ob oc) nQ (mQ N oa ob oc) (cQ N lone oa ob) lim q00 (EE g' sn) i a f bc bt → WT N lone oa ob oc lim ls g' → (∀ d, d ≤ i → CVd N lone oa ob oc a g' d) → g' 109 = g1 109 → CB f br bc bt g' → KF g0 g' → (∀ y, Vd (okQ N lone oa ob oc) nQ (mQ N oa ob oc) lim q00 y → (∀ j, j < i → y j = pth a j) → y i = a i → dom f bc bt (sa (cQ N lone oa ob) 9 0 y) (sa (mQ N oa ob oc) 9 0 y)) → ∃ f' br' bc' bt' a' g'', f_X9_tryRows_c11 90 k (nI i) (nI x2 + 1) g' = some g'' ∧ B1 (okQ N lone oa ob oc) nQ (mQ N oa ob oc) (cQ N lone oa ob) lim q00 f' br' bc' bt' ∧ (∀ y, Vd (okQ N lone oa ob oc) nQ (mQ N oa ob oc) lim q00 y → dom f' bc' bt' (sa (cQ N lone oa ob) 9 0 y) (sa (mQ N oa ob oc) 9 0 y)) ∧ CB f' br' bc' bt' g'' ∧ EX g'' sn ∧ WT N lone oa ob oc lim ls g'' ∧ CVd N lone oa ob oc a' g'' 0 ∧ KF g0 g'' ∧ bc' ≤ 20000 ∧ bt' ≤ 20000 := by
        intro g' q1 q2 q3 q4 q5 q6 q7 q8
        have := rm_skip (a := a) (i := i) h4
        rw [nI_1]
        exact ih i (ua a i (a i + 1)) (x2 + 1) k g' f br bc bt (by omega) (by omega) (by omega) (hC.skip h4 q8) (q2.skip _) q1 q3 (fun d hd => (q4 d hd).of (fun j hj => pth_ua (by omega)) rfl rfl rfl rfl rfl) (fun j hj => by
          rw [q5]
          by_cases e : j = i
          · subst e
            rw [ua_eq, nI_pred, e8']
          · rw [ua_ne _ _ e]
            exact e9 j (by omega)) q6 q7 hbc hbt
      have nok : okQ N lone oa ob oc (qa nQ i 0 q00 (pth a)) (a i) = false → ∀ y, Vd (okQ N lone oa ob oc) nQ (mQ N oa ob oc) lim q00 y → (∀ j, j < i → y j = pth a j) → y i = a i → dom f bc bt (sa (cQ N lone oa ob) 9 0 y) (sa (mQ N oa ob oc) 9 0 y) := by
        intro e y hy y1 y2
        have := (pre_ok hy (show i < 9 by omega) y1 y2).1
        rw [e] at this
        exact absurd this (by decide)
      have hP := hC.2.2.2.1
      have W := V1 i (Nat.le_refl _)
      obtain ⟨w110, w111, p0, p1, p2, p3, w123, s0, s1, s2⟩ := W
      obtain ⟨hq1, hq2⟩ := hm_q (pth a) i
      obtain ⟨nb4, nsum⟩ := qn_bare i hP
      have hsol := path_soles i hP
      have sc := sa_bd (cQ_le hF lone ha hb) (pth a) i 0 (by omega)
      have st := sa_bd (mQ_le hF oa ob oc) (pth a) i 0 (by omega)
      have cg := cQ_le hF lone ha hb (a i) i (by omega)
      have mg := mQ_le hF oa ob oc (a i) i (by omega)
      have lsb := hlsb (i + 1) (by omega)
      have okA : okQ N lone oa ob oc (qa nQ i 0 q00 (pth a)) (a i) = (canQ lone oa ob oc (qa nQ i 0 q00 (pth a)) (a i) && (oS N oa (uA N oa (nQ (qa nQ i 0 q00 (pth a)) (a i))) && (oS N ob (uB N ob (nQ (qa nQ i 0 q00 (pth a)) (a i))) && oS N oc (uC N oc (nQ (qa nQ i 0 q00 (pth a)) (a i)))))) := rfl
      rw [← soles_eq (lone := lone) h4 hsol] at okA
      rw [k_isAllowed T1 (show i < 9 by omega) h4 p3 w123 (by omega) (by omega), op_v]
      cases hcan : canQ lone oa ob oc (qa nQ i 0 q00 (pth a)) (a i) with
      | false =>
        rw [if_pos (show nI (b01 false) = 0 from rfl), mv_v]
        rw [hcan, Bool.false_and] at okA
        exact skip g1 X1 A1 T1 V1 rfl B1' K1 (nok okA)
      | true =>
      rw [hcan, Bool.true_and] at okA
      have hop := canQ_open hcan
      rw [if_neg (show ¬ nI (b01 true) = 0 by decide), og_in _ (show i < 9 by omega) (by omega)]
      obtain ⟨t60, t61, t62⟩ := T1.2.2.2.2.2.1 (a i) h4
      have oLl : ∀ (o : Option Nat), (∀ x, o = some x → x < 16) → oL N o < 1000 := fun o ho => by
        cases o with
        | none => exact (by decide : 0 < 1000)
        | some x =>
          have := (vN_of (by omega) (wf_soles hF (ho x rfl))).2
          show vN N (63 + x) < 1000
          omega
      have oa1 := oLl oa ha
      have ob1 := oLl ob hb
      have oc1 := oLl oc hc
      have wa := oW_le N oa
      have wb := oW_le N ob
      have wc := oW_le N oc
      have xa : aA N oa (a i) < 1000 := by unfold aA; split <;> omega
      have xb : aB N ob (a i) < 1000 := by unfold aB; split <;> (try split) <;> omega
      have xc : aC N oc (a i) < 1000 := by unfold aC; split <;> omega
      rw [k_hasSoles (show i < 9 by omega) h4 t60 t61 t62 s0 s1 s2 ⟨xa, xb, xc⟩ ⟨by omega, by omega, by omega⟩, op_v, ← okA]
      cases hok : okQ N lone oa ob oc (qa nQ i 0 q00 (pth a)) (a i) with
      | false =>
        rw [if_pos (show nI (b01 false) = 0 from rfl), mv_v]
        exact skip g1 X1 A1 T1 V1 rfl B1' K1 (nok hok)
      | true =>
      rw [if_neg (show ¬ nI (b01 true) = 0 by decide), og_in _ (show i < 9 by omega) (by omega)]
      have rest : ∀ y, Vd (okQ N lone oa ob oc) nQ (mQ N oa ob oc) lim q00 y → ls (i + 1) ≤ sa (mQ N oa ob oc) (9 - (i + 1)) (i + 1) y := fun y hy => by
        have n9 : i + 1 + (9 - (i + 1)) = 9 := by omega
        have := okr_add (okQ N lone oa ob oc) nQ y (i + 1) (9 - (i + 1)) 0 q00
        rw [n9, Nat.zero_add] at this
        exact hls (i + 1) _ y (by omega) (this.mp hy.1).2
      rcases k_isBetter T1 (show i < 9 by omega) h4 hop B1' w110 w111 hlim (by omega) (by omega) (by omega) (by omega) with ⟨r1, r2⟩ | ⟨r1, r2, r3⟩
      · rw [r1, op_v, if_pos rfl, mv_v]
        refine skip g1 X1 A1 T1 V1 rfl B1' K1 (fun y hy y1 y2 => ?_)
        have e1 := (pre_ok hy (show i < 9 by omega) y1 y2).2
        have e2 := rest y hy
        have e3 := hy.2
        rcases r2 with r2 | r2
        · rw [e1] at e3
          omega
        · rw [e1, e1]
          exact r2.mono (by omega) (by omega)
      · rw [r1, op_v, if_neg (show ¬ (1 : Int32) = 0 by decide), og_in _ (show i < 9 by omega) (by omega)]
        have S3 : ∀ r, r < 3 → g1 (125 + i) r = nI (if r = 0 then oL N oa - uA N oa (qa nQ i 0 q00 (pth a)) else if r = 1 then oL N ob - uB N ob (qa nQ i 0 q00 (pth a)) else oL N oc - uC N oc (qa nQ i 0 q00 (pth a))) := fun r hr => by
          rcases (show r = 0 ∨ r = 1 ∨ r = 2 by omega) with rfl | rfl | rfl
          · exact s0
          · exact s1
          · exact s2
        have W3 : ∀ r, r < 3 → g1 (104 + a i) r = nI (if r = 0 then aA N oa (a i) else if r = 1 then aB N ob (a i) else aC N oc (a i)) := fun r hr => by
          rcases (show r = 0 ∨ r = 1 ∨ r = 2 by omega) with rfl | rfl | rfl
          · exact t60
          · exact t61
          · exact t62
        have P4 : ∀ r, r < 4 → g1 (113 + i) r = nI (if r = 0 then (qa nQ i 0 q00 (pth a)).1 else if r = 1 then (qa nQ i 0 q00 (pth a)).2.1 else if r = 2 then (qa nQ i 0 q00 (pth a)).2.2.1 else (qa nQ i 0 q00 (pth a)).2.2.2.1) := fun r hr => by
          rcases (show r = 0 ∨ r = 1 ∨ r = 2 ∨ r = 3 by omega) with rfl | rfl | rfl | rfl
          · exact p0
          · exact p1
          · exact p2
          · exact p3
        obtain ⟨g2, z1, z2, z3, z4, z5, z6, z7, z8⟩ := k_step (show i < 9 by omega) h4 (fun r => if r = 0 then aA N oa (a i) else if r = 1 then aB N ob (a i) else aC N oc (a i)) (fun r => if r = 0 then oL N oa - uA N oa (qa nQ i 0 q00 (pth a)) else if r = 1 then oL N ob - uB N ob (qa nQ i 0 q00 (pth a)) else oL N oc - uC N oc (qa nQ i 0 q00 (pth a))) (fun r => if r = 0 then (qa nQ i 0 q00 (pth a)).1 else if r = 1 then (qa nQ i 0 q00 (pth a)).2.1 else if r = 2 then (qa nQ i 0 q00 (pth a)).2.2.1 else (qa nQ i 0 q00 (pth a)).2.2.2.1) (qa nQ i 0 q00 (pth a)).2.2.2.2 _ _ (mQ N oa ob oc (a i) i) (cQ N lone oa ob (a i) i) (by omega) (fun s hs => by
            have sA := uA_s N oa (qa nQ i 0 q00 (pth a)) (a i)
            have sB := uB_s N ob (qa nQ i 0 q00 (pth a)) h4
            have sC := uC_s N oc (qa nQ i 0 q00 (pth a)) (a i)
            obtain ⟨m1, m2, m3⟩ := ok_soles hok
            rcases (show s = 0 ∨ s = 1 ∨ s = 2 by omega) with rfl | rfl | rfl
            · show aA N oa (a i) ≤ oL N oa - uA N oa (qa nQ i 0 q00 (pth a)); omega
            · show aB N ob (a i) ≤ oL N ob - uB N ob (qa nQ i 0 q00 (pth a)); omega
            · show aC N oc (a i) ≤ oL N oc - uC N oc (qa nQ i 0 q00 (pth a)); omega)
          (g := g1) S3 W3 w123 P4 w110 w111 (T1.2.2.2.1 (a i) i h4 (by omega)) (T1.2.2.2.2.1 (a i) i h4 (by omega) hop)
        rw [z1, op_v]
        have o2 : ∀ x, x < 110 ∨ x = 112 ∨ x = 124 ∨ 135 ≤ x → g2 x = g1 x := fun x hx => z8 x (by omega) (by omega) (by omega) (by omega) (by omega)
        have T2 : WT N lone oa ob oc lim ls g2 := T1.of (fun s _ => by rw [o2 90 (by omega)]) (fun x q1 q2 => o2 x (by omega))
        have V2 : ∀ d, d ≤ i → CVd N lone oa ob oc a g2 d := fun d hd => (V1 d hd).of (fun _ _ => rfl) (z7 110 d (by omega) (Or.inl rfl)) (z7 111 d (by omega) (Or.inr (Or.inl rfl))) (z8 _ (by omega) (by omega) (by omega) (by omega) (by omega)) (z7 123 d (by omega) (Or.inr (Or.inr rfl))) (z8 _ (by omega) (by omega) (by omega) (by omega) (by omega))
        have B2 : CB f br bc bt g2 := B1'.of (o2 90 (by omega)) (o2 139 (by omega))
        have K2 : KF g0 g2 := fun x hx => by rw [o2 x (by omega)]; exact K1 x hx
        have X2 : EX g2 sn := X1.of (o2 135 (by omega)) (o2 136 (by omega)) (o2 137 (by omega)) (o2 138 (by omega))
        have A2 : AI (okQ N lone oa ob oc) nQ (mQ N oa ob oc) (cQ N lone oa ob) lim q00 (EE g2 sn) i a f bc bt := A1.sub (EE.of (o2 136 (by omega)) (o2 137 (by omega)) (o2 138 (by omega)))
        by_cases i8 : i = 8
        · subst i8
          rw [if_pos (show nI 8 = (8 : Int32) from rfl)]
          obtain ⟨g3, y1, y2, y3, y4⟩ := k_keep (r := fun j => if j < 8 then pth a j else a 8) z6 z5 (fun j hj => by
            rw [o2 109 (by omega)]
            by_cases ej : j < 8
            · rw [if_pos ej, e9 j ej]
              obtain ⟨u, hu⟩ := Nat.exists_eq_add_of_le (hC.2.1 j ej).1
              rw [pth, hu, Nat.add_comm 1 u, nI_pred, Nat.add_sub_cancel]
            · rw [if_neg ej, show j = 8 by omega]
              exact e8')
          rw [y1, op_v, mv_v, nI_1]
          have hr := rm_skip (a := a) (i := 8) h4
          rw [hls9, Nat.add_zero] at r2 r3
          have o3 : ∀ x, x ≠ 90 → x ≠ 139 → g3 x = g2 x := y4
          refine ih 8 (ua a 8 (a 8 + 1)) (x2 + 1) k g3 true (fun j => if j < 8 then pth a j else a 8) _ _ (by omega) (by omega) (by omega) (hC.leaf h4 hok (fun j hj => if_pos hj) (if_neg (by omega)) rfl rfl r2 r3) (((A2.better r3).skip _).sub (EE.of (o3 136 (by omega) (by omega)) (o3 137 (by omega) (by omega)) (o3 138 (by omega) (by omega)))) (X2.of (o3 135 (by omega) (by omega)) (o3 136 (by omega) (by omega)) (o3 137 (by omega) (by omega)) (o3 138 (by omega) (by omega))) (T2.of y3 (fun x q1 q2 => o3 x (by omega) (by omega))) (fun d hd => (V2 d hd).of (fun j hj => pth_ua (by omega)) (by rw [o3 110 (by omega) (by omega)]) (by rw [o3 111 (by omega) (by omega)]) (o3 _ (by omega) (by omega)) (by rw [o3 123 (by omega) (by omega)]) (o3 _ (by omega) (by omega))) (fun j hj => ?_) y2 (fun x hx => by rw [o3 x (by omega) (by omega)]; exact K2 x hx) (by omega) (by omega)
          rw [o3 109 (by omega) (by omega), o2 109 (by omega)]
          by_cases e : j = 8
          · subst e
            rw [ua_eq, nI_pred, e8']
          · rw [ua_ne _ _ e]
            exact e9 j (by omega)
        · have i8' : i < 8 := by omega
          rw [if_neg (show ¬ nI i = (8 : Int32) from fun w => i8 ((nI_eq (a := i) (b := 8) (by omega) (by omega)).mp w)), nI_1]
          have hD := hC.down h4 i8' hok
          have pe : ∀ j, j < i → pth (ua (ua a i (a i + 1)) (i + 1) 0) j = pth a j := fun j hj => by rw [pth_ua (by omega), pth_ua (by omega)]
          have pi : pth (ua (ua a i (a i + 1)) (i + 1) 0) i = a i := by rw [pth_ua (by omega), pth, ua_eq]; omega
          have ec : ∀ j, 0 ≤ j → j < 0 + i → pth (ua (ua a i (a i + 1)) (i + 1) 0) j = pth a j := fun j _ hj => pe j (by omega)
          have hq : qa nQ (i + 1) 0 q00 (pth (ua (ua a i (a i + 1)) (i + 1) 0)) = nQ (qa nQ i 0 q00 (pth a)) (a i) := by rw [qa_s, pi, qa_congr nQ i 0 q00 ec]
          have qb := qn_bare (i + 1) hD.2.2.2.1
          have qh := (hm_q (pth (ua (ua a i (a i + 1)) (i + 1) 0)) (i + 1)).1
          rw [hq] at qb qh
          have hO : qOk (i + 1) (nQ (qa nQ i 0 q00 (pth a)) (a i)) := ⟨qb.2, by omega, qb.1, by omega⟩
          rcases k_isOutdone X2 hO (show sa (cQ N lone oa ob) i 0 (pth a) + cQ N lone oa ob (a i) i < 100000 by omega) (show sa (mQ N oa ob oc) i 0 (pth a) + mQ N oa ob oc (a i) i < 100000 by omega) (z4 0 (by omega)) (z4 1 (by omega)) (z4 3 (by omega)) z3 z6 z5 with ⟨y1, c0, t0, y2, y3, y4⟩ | ⟨g3, y1, y2, y3, y4⟩
          · rw [y1, ob_v, if_neg (show ¬ (1 : Int32) = 0 by decide), mv_v]
            exact skip g2 X2 A2 T2 V2 (o2 109 (by omega)) B2 K2 (A2.out i8' y2 y3 y4)
          · rw [y1, ob_v, if_pos rfl, mv_v, og_in _ (show i + 1 < 9 by omega) (by omega), nI_clamp (show i + 1 < 2 ^ 31 by omega), mw_v, mv_v, nI_1]
            have hr : rm (ua (ua a i (a i + 1)) (i + 1) 0) (i + 1 + 1) + 1 = rm a (i + 1) := rm_down h4 i8'
            have o4 : ∀ x, x ≠ 109 → mm_up g3 (90 + 19) (i + 1) (-1) x = g3 x := fun x hx => mm_up_ne _ _ _ hx
            have o5 : ∀ x, x ≠ 109 → x ≠ 136 → x ≠ 137 → x ≠ 138 → mm_up g3 (90 + 19) (i + 1) (-1) x = g2 x := fun x q1 q2 q3 q4 => by rw [o4 x q1, y3 x q2 q3 q4]
            refine ih (i + 1) (ua (ua a i (a i + 1)) (i + 1) 0) (x2 + 1) k _ f br bc bt (by omega) (by omega) (by omega) hD ((A2.down i8' y4).sub (EE.of (o4 136 (by omega)) (o4 137 (by omega)) (o4 138 (by omega)))) (y2.of (o4 135 (by omega)) (o4 136 (by omega)) (o4 137 (by omega)) (o4 138 (by omega))) (T2.of (fun s _ => by rw [o5 90 (by omega) (by omega) (by omega) (by omega)]) (fun x q1 q2 => o5 x (by omega) (by omega) (by omega) (by omega))) (fun d hd => ?_) (fun j hj => ?_) (B2.of (o5 90 (by omega) (by omega) (by omega) (by omega)) (o5 139 (by omega) (by omega) (by omega) (by omega))) (fun x hx => by rw [o5 x (by omega) (by omega) (by omega) (by omega)]; exact K2 x hx) hbc hbt
            · by_cases e : d = i + 1
              · subst e
                unfold CVd
                rw [o5 110 (by omega) (by omega) (by omega) (by omega), o5 111 (by omega) (by omega) (by omega) (by omega), o5 (113 + (i + 1)) (by omega) (by omega) (by omega) (by omega), o5 123 (by omega) (by omega) (by omega) (by omega), o5 (125 + (i + 1)) (by omega) (by omega) (by omega) (by omega), hq, sa_s, sa_s, pi, sa_congr _ i 0 ec, sa_congr _ i 0 ec, uA_s, uB_s N ob _ h4, uC_s, ← Nat.sub_sub, ← Nat.sub_sub, ← Nat.sub_sub]
                exact ⟨z5, z6, z4 0 (by omega), z4 1 (by omega), z4 2 (by omega), z4 3 (by omega), z3, z2 0 (by omega), z2 1 (by omega), z2 2 (by omega)⟩
              · exact (V2 d (by omega)).of (fun j hj => pe j (by omega)) (by rw [o5 110 (by omega) (by omega) (by omega) (by omega)]) (by rw [o5 111 (by omega) (by omega) (by omega) (by omega)]) (o5 _ (by omega) (by omega) (by omega) (by omega)) (by rw [o5 123 (by omega) (by omega) (by omega) (by omega)]) (o5 _ (by omega) (by omega) (by omega) (by omega))
            · rw [show (109 : Nat) = 90 + 19 from rfl, mm_up_eq]
              by_cases e : j = i + 1
              · subst e
                rw [upd_eq, ua_eq]
                rfl
              · rw [upd_ne _ _ e, ua_ne _ _ e, show (90 + 19 : Nat) = 109 from rfl, y3 109 (by omega) (by omega) (by omega), o2 109 (by omega)]
                by_cases e2 : j = i
                · subst e2
                  rw [ua_eq, nI_pred, e8']
                · rw [ua_ne _ _ e2]
                  exact e9 j (by omega)
    · have e4 : a i = 4 := by omega
      rw [if_neg (show ¬ nI (a i) < 4 from nI_nlt (a := a i) (b := 4) (by omega) (by omega)), mv_v, mv_v, nI_1]
      cases i with
      | zero =>
        obtain ⟨k, rfl⟩ := Nat.exists_eq_succ_of_ne_zero (show k ≠ 0 by omega)
        rw [f_X9_tryRows_c11, if_neg (show ¬ (1000000 : Int32) ≤ nI (x2 + 1) from nI_ge (b := 1000000) (by omega) (by omega)), if_pos (show nI 0 + -1 < 0 by decide)]
        exact ⟨f, br, bc, bt, a, g1, rfl, hC.2.2.2.2.1, hC.done e4, B1', X1, T1, V1 0 (Nat.le_refl _), K1, hbc, hbt⟩
      | succ i =>
        rw [nI_down]
        have hr := rm_up (a := a) e4
        exact ih i a (x2 + 1) k g1 f br bc bt (by omega) (by omega) (by omega) (hC.up e4) (A1.up hC e4) X1 T1 (fun d hd => V1 d (by omega)) (fun j hj => e9 j (by omega)) B1' K1 hbc hbt
