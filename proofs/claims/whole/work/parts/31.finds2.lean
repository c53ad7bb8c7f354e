theorem rm_pos (a : Nat → Nat) (l : Nat) : 1 ≤ rm a (l + 1) := by
  rw [rm]
  omega
theorem nI_back (k : Nat) : nI k - 1 + 1 = nI k := by
  cases k with
  | zero => decide
  | succ k => rw [nI_pred, nI_1]
theorem nI_down (k : Nat) : nI (k + 1) + -1 = nI k := by
  have e1 : nI (k + 1) + -1 = nI (k + 1) - 1 := by rw [Int32.sub_eq_add_neg]
  rw [e1, nI_pred]
theorem MB.of {f : Bool} {br : Nat → Nat} {bc bt : Nat} {h h' : Mm} (hB : MB f br bc bt h) (h0 : h' 0 = h 0) (h16 : h' 16 = h 16) : MB f br bc bt h' := by
  unfold MB
  rw [h0, h16]
  exact hB
theorem MK.of {m h h' : Mm} (hK : MK m h) (hh : ∀ x, x < 8 ∨ 17 ≤ x → h' x = h x) : MK m h' :=
  ⟨fun x h1 h2 => by rw [hh x h2]; exact hK.1 x h1 h2, fun s h1 h2 => by rw [hh 0 (by omega)]; exact hK.2 s h1 h2⟩
theorem m_finds_loop {m : Mm} {N : Nat → Int32} (hN : m 1 = N) (hF : WF N) {p : Nat} (hp5 : p < 5) {oa ob oc : Option Nat} (ha : ∀ x, oa = some x → x < 16) (hb : ∀ x, ob = some x → x < 16) (hc : ∀ x, oc = some x → x < 16) {lone : Bool} (hl : lone = decide (¬ N (10 + p) ≤ 0)) {lim : Nat} (hlim : lim ≤ 999) :
    ∀ (n i : Nat) (a : Nat → Nat) (fuel : Nat) (h : Mm) (f : Bool) (br : Nat → Nat) (bc bt : Nat), rm a (i + 1) ≤ n → n < fuel → CI (okQ N lone oa ob oc) nQ (mQ N oa ob oc) (cQ N lone oa ob) lim q00 i a f br bc bt → MK m h → MV N lone oa ob oc i a h → MB f br bc bt h → bc ≤ 20000 → bt ≤ 20000 →
      ∃ f' br' bc' bt' h', f_X12_finds_c15 (nI p) (numI oa) (numI ob) (numI oc) (nI lim) fuel (nI i) h = some (if f' = true then 1 else 0, h') ∧ B1 (okQ N lone oa ob oc) nQ (mQ N oa ob oc) (cQ N lone oa ob) lim q00 f' br' bc' bt' ∧ (∀ y, Vd (okQ N lone oa ob oc) nQ (mQ N oa ob oc) lim q00 y → dom f' bc' bt' (sa (cQ N lone oa ob) 9 0 y) (sa (mQ N oa ob oc) 9 0 y)) ∧ MK m h' ∧ MB f' br' bc' bt' h' ∧ (∀ x, 9 ≤ x → x < 16 → h' x 0 = 0) ∧ bc' ≤ 20000 ∧ bt' ≤ 20000 := by
  intro n
  induction n with
  | zero =>
    intro i a fuel h f br bc bt hn
    have := rm_pos a i
    omega
  | succ n ih =>
    intro i a fuel h f br bc bt hn hfu hC hK hV hB hbc hbt
    obtain ⟨k, rfl⟩ := Nat.exists_eq_succ_of_ne_zero (show fuel ≠ 0 by omega)
    have hi8 := hC.1
    rw [f_X12_finds_c15, if_neg (show ¬ nI i < 0 from nI_pos (by omega)), og_in _ (show i < 9 by omega) (by omega), og_in _ (show i < 9 by omega) (by omega), nI_clamp (show i < 2 ^ 31 by omega), mw_v, hV.1 i (Nat.le_refl _), nI_back, og_in _ (show i < 9 by omega) (by omega)]
    have k1 : MK m (mm_up h 8 i (nI (a i))) := hK.of (fun x hx => mm_up_ne _ _ _ (by omega))
    have g1 : AG i h (mm_up h 8 i (nI (a i))) := ⟨fun j hj => by rw [mm_up_eq, upd_ne _ _ (by omega)], fun x d h1 h2 _ => by rw [mm_up_ne _ _ _ (by omega)]⟩
    have e8 : mm_up h 8 i (nI (a i)) 8 i = nI (a i) := by rw [mm_up_eq, upd_eq]
    have n1 : mm_up h 8 i (nI (a i)) 1 = N := by rw [k1.1 1 (by omega) (by omega)]; exact hN
    have B1' : MB f br bc bt (mm_up h 8 i (nI (a i))) := hB.of (mm_up_ne _ _ _ (by omega)) (mm_up_ne _ _ _ (by omega))
    rw [e8]
    generalize mm_up h 8 i (nI (a i)) = h1 at *
    have ai4 := hC.2.2.1
    by_cases h4 : a i < 4
    · rw [if_pos (show nI (a i) ≤ 3 from nI_le (b := 3) (by omega) (by omega))]
      have skip : ∀ h', MK m h' → AG i h h' → h' 8 i = nI (a i) → MB f br bc bt h' → (∀ y, Vd (okQ N lone oa ob oc) nQ (mQ N oa ob oc) lim q00 y → (∀ j, j < i → y j = pth a j) → y i = a i → dom f bc bt (sa (cQ N lone oa ob) 9 0 y) (sa (mQ N oa ob oc) 9 0 y)) → ∃ f' br' bc' bt' h'', f_X12_finds_c15 (nI p) (numI oa) (numI ob) (numI oc) (nI lim) k (nI i) h' = some (if f' = true then 1 else 0, h'') ∧ B1 (okQ N lone oa ob oc) nQ (mQ N oa ob oc) (cQ N lone oa ob) lim q00 f' br' bc' bt' ∧ (∀ y, Vd (okQ N lone oa ob oc) nQ (mQ N oa ob oc) lim q00 y → dom f' bc' bt' (sa (cQ N lone oa ob) 9 0 y) (sa (mQ N oa ob oc) 9 0 y)) ∧ MK m h'' ∧ MB f' br' bc' bt' h'' ∧ (∀ x, 9 ≤ x → x < 16 → h'' x 0 = 0) ∧ bc' ≤ 20000 ∧ bt' ≤ 20000 := by
        intro h' q1 q2 q3 q4 q5
        have := rm_skip (a := a) (i := i) h4
        exact ih i (ua a i (a i + 1)) k h' f br bc bt (by omega) (by omega) (hC.skip h4 q5) q1 (hV.skip q2 q3) q4 hbc hbt
      have nok : okQ N lone oa ob oc (qa nQ i 0 q00 (pth a)) (a i) = false → ∀ y, Vd (okQ N lone oa ob oc) nQ (mQ N oa ob oc) lim q00 y → (∀ j, j < i → y j = pth a j) → y i = a i → dom f bc bt (sa (cQ N lone oa ob) 9 0 y) (sa (mQ N oa ob oc) 9 0 y) := by
        intro e y hy y1 y2
        have := (pre_ok hy (show i < 9 by omega) y1 y2).1
        rw [e] at this
        exact absurd this (by decide)
      obtain ⟨w9, w10, w11, w12, w13, w14, w15⟩ := (hV.2 i (Nat.le_refl _)).congr (a' := a) (h' := h1) (fun _ _ => rfl) (fun x x1 x2 => g1.2 x i x1 x2 (Nat.le_refl _))
      obtain ⟨hh1, hh2⟩ := hm_q (pth a) i
      have qn := qn_le (pth a) i
      have ua1 := uA_le N oa (pth a) i
      have ub1 := uB_le N ob (pth a) i
      have uc1 := uC_le N oc (pth a) i
      have sc := sa_bd (cQ_le hF lone ha hb) (pth a) i 0 (by omega)
      have st := sa_bd (mQ_le hF oa ob oc) (pth a) i 0 (by omega)
      have cg := cQ_le hF lone ha hb (a i) i (by omega)
      have mg := mQ_le hF oa ob oc (a i) i (by omega)
      have okd : ∀ q, okQ N lone oa ob oc q (a i) = (canQ lone oa ob oc q (a i) && (oS N oa (uA N oa (nQ q (a i))) && (oS N ob (uB N ob (nQ q (a i))) && oS N oc (uC N oc (nQ q (a i)))))) := fun _ => rfl
      have okA := okd (qa nQ i 0 q00 (pth a))
      have sA := uA_s N oa (qa nQ i 0 q00 (pth a)) (a i)
      have sB := uB_s N ob (qa nQ i 0 q00 (pth a)) h4
      have sC := uC_s N oc (qa nQ i 0 q00 (pth a)) (a i)
      rw [m_can n1 hp5 (by omega) h4 e8 ha hb hc hl w14 w15 hh1 (by omega) (by omega), op_v]
      cases hcan : canQ lone oa ob oc (qa nQ i 0 q00 (pth a)) (a i) with
      | false =>
        rw [if_neg (show ¬ false = true by decide), if_pos rfl]
        rw [hcan, Bool.false_and] at okA
        exact skip h1 k1 g1 e8 B1' (nok okA)
      | true =>
        rw [if_pos rfl, if_neg (show ¬ (1 : Int32) = 0 by decide)]
        have hop : gOpen lone oa ob oc (a i) = true := by
          unfold canQ at hcan
          rw [Bool.and_eq_true] at hcan
          exact hcan.1
        rw [m_sum n1 hF hp5 (by omega) h4 e8 ha hb hc hl hop w9 w10 w11 w12 w13 w14 w15, op_v, nI_1, og_in _ (show i + 1 < 10 by omega) (by omega), nI_clamp (show i + 1 < 2 ^ 31 by omega)]
        obtain ⟨z9, z10, z11, z12, z13, z14, z15⟩ := sumW_v h1 (i + 1) (nI (sa (cQ N lone oa ob) i 0 (pth a) + cQ N lone oa ob (a i) i)) (nI (sa (mQ N oa ob oc) i 0 (pth a) + mQ N oa ob oc (a i) i)) (nI (uA N oa (qa nQ i 0 q00 (pth a)) + aA N oa (a i))) (nI (uB N ob (qa nQ i 0 q00 (pth a)) + aB N ob (a i))) (nI (uC N oc (qa nQ i 0 q00 (pth a)) + aC N oc (a i))) (nI ((qa nQ i 0 q00 (pth a)).2.2.2.1 + if a i = 3 then 1 else 0)) (nI (if a i = 2 then hm (pth a) i + 1 else 0))
        have o2 : ∀ {x : Nat}, x < 9 ∨ 16 ≤ x → _ = h1 x := fun {x} hx => sumW_o h1 (i + 1) (nI (sa (cQ N lone oa ob) i 0 (pth a) + cQ N lone oa ob (a i) i)) (nI (sa (mQ N oa ob oc) i 0 (pth a) + mQ N oa ob oc (a i) i)) (nI (uA N oa (qa nQ i 0 q00 (pth a)) + aA N oa (a i))) (nI (uB N ob (qa nQ i 0 q00 (pth a)) + aB N ob (a i))) (nI (uC N oc (qa nQ i 0 q00 (pth a)) + aC N oc (a i))) (nI ((qa nQ i 0 q00 (pth a)).2.2.2.1 + if a i = 3 then 1 else 0)) (nI (if a i = 2 then hm (pth a) i + 1 else 0)) hx
        have o3 : ∀ {x d : Nat}, d ≠ i + 1 → _ = h1 x d := fun {x d} hd => sumW_k h1 (i + 1) (nI (sa (cQ N lone oa ob) i 0 (pth a) + cQ N lone oa ob (a i) i)) (nI (sa (mQ N oa ob oc) i 0 (pth a) + mQ N oa ob oc (a i) i)) (nI (uA N oa (qa nQ i 0 q00 (pth a)) + aA N oa (a i))) (nI (uB N ob (qa nQ i 0 q00 (pth a)) + aB N ob (a i))) (nI (uC N oc (qa nQ i 0 q00 (pth a)) + aC N oc (a i))) (nI ((qa nQ i 0 q00 (pth a)).2.2.2.1 + if a i = 3 then 1 else 0)) (nI (if a i = 2 then hm (pth a) i + 1 else 0)) (x := x) hd
        generalize sumW h1 (i + 1) (nI (sa (cQ N lone oa ob) i 0 (pth a) + cQ N lone oa ob (a i) i)) (nI (sa (mQ N oa ob oc) i 0 (pth a) + mQ N oa ob oc (a i) i)) (nI (uA N oa (qa nQ i 0 q00 (pth a)) + aA N oa (a i))) (nI (uB N ob (qa nQ i 0 q00 (pth a)) + aB N ob (a i))) (nI (uC N oc (qa nQ i 0 q00 (pth a)) + aC N oc (a i))) (nI ((qa nQ i 0 q00 (pth a)).2.2.2.1 + if a i = 3 then 1 else 0)) (nI (if a i = 2 then hm (pth a) i + 1 else 0)) = h2 at *
        have k2 : MK m h2 := k1.of (fun x hx => o2 (by omega))
        have g2 : AG i h h2 := ⟨fun j hj => by rw [o3 (by omega)]; exact g1.1 j hj, fun x d x1 x2 hd => by rw [o3 (by omega)]; exact g1.2 x d x1 x2 hd⟩
        have e82 : h2 8 i = nI (a i) := by rw [o3 (by omega)]; exact e8
        have n2 : h2 1 = N := by rw [o2 (by omega)]; exact n1
        have B2 : MB f br bc bt h2 := B1'.of (o2 (by omega)) (o2 (by omega))
        rw [z10, z11, z12, z13]
        by_cases ht : lim < sa (mQ N oa ob oc) i 0 (pth a) + mQ N oa ob oc (a i) i
        · rw [if_pos (nI_lt ht (by omega)), m_c147_no _ _ _ _ _ _ (show i < 9 by omega)]
          refine skip h2 k2 g2 e82 B2 (fun y hy y1 y2 => ?_)
          have e1 := (pre_ok hy (show i < 9 by omega) y1 y2).2 (mQ N oa ob oc)
          have e2 := hy.2
          omega
        · rw [if_neg (nI_nlt (by omega) (by omega)), og_in _ (show i + 1 < 10 by omega) (by omega), ← sA, ← sB, ← sC]
          rw [m_lasts n2 hF ha (by rw [sA]; have : aA N oa (a i) ≤ 2 := (by unfold aA; split; exact oW_le _ _; omega); omega), op_v]
          cases eA : oS N oa (uA N oa (nQ (qa nQ i 0 q00 (pth a)) (a i))) with
          | false =>
            rw [if_neg (show ¬ false = true by decide), if_pos rfl, m_c147_no _ _ _ _ _ _ (show i < 9 by omega)]
            rw [eA, Bool.false_and, Bool.and_false] at okA
            exact skip h2 k2 g2 e82 B2 (nok okA)
          | true =>
          rw [if_pos rfl, if_neg (show ¬ (1 : Int32) = 0 by decide), og_in _ (show i + 1 < 10 by omega) (by omega)]
          have aBl : aB N ob (a i) ≤ 4 := by
            have := oW_le N ob
            unfold aB
            split
            · omega
            · split <;> omega
          rw [m_lasts n2 hF hb (by rw [sB]; omega), op_v]
          cases eB : oS N ob (uB N ob (nQ (qa nQ i 0 q00 (pth a)) (a i))) with
          | false =>
            rw [if_neg (show ¬ false = true by decide), if_pos rfl, m_c147_no _ _ _ _ _ _ (show i < 9 by omega)]
            rw [eB, Bool.false_and, Bool.and_false, Bool.and_false] at okA
            exact skip h2 k2 g2 e82 B2 (nok okA)
          | true =>
          rw [if_pos rfl, if_neg (show ¬ (1 : Int32) = 0 by decide), og_in _ (show i + 1 < 10 by omega) (by omega)]
          rw [m_lasts n2 hF hc (by rw [sC]; have : aC N oc (a i) ≤ 2 := (by unfold aC; split; exact oW_le _ _; omega); omega), op_v]
          cases eC : oS N oc (uC N oc (nQ (qa nQ i 0 q00 (pth a)) (a i))) with
          | false =>
            rw [if_neg (show ¬ false = true by decide), if_pos rfl, m_c147_no _ _ _ _ _ _ (show i < 9 by omega)]
            rw [eC, Bool.and_false, Bool.and_false, Bool.and_false] at okA
            exact skip h2 k2 g2 e82 B2 (nok okA)
          | true =>
          rw [if_pos rfl, if_neg (show ¬ (1 : Int32) = 0 by decide)]
          rw [hcan, eA, eB, eC] at okA
          have okT : okQ N lone oa ob oc (qa nQ i 0 q00 (pth a)) (a i) = true := okA
          rcases m_c147_yes (f_X12_finds_c15 (nI p) (numI oa) (numI ob) (numI oc) (nI lim) k) (nI p) (numI oa) (numI ob) (numI oc) (nI lim) (show i < 9 by omega) B2 (by omega) (by omega) (by omega) (by omega) z9 z10 with ⟨r1, r2⟩ | ⟨r1, r2⟩
          · rw [r1]
            refine skip h2 k2 g2 e82 B2 (fun y hy y1 y2 => ?_)
            have e1 := (pre_ok hy (show i < 9 by omega) y1 y2).2
            rw [e1, e1]
            exact r2.mono (by omega) (by omega)
          · rw [r1]
            unfold f_X12_finds_c204 f_X12_finds_c209
            rw [if_neg (show ¬ (1 : Int32) = 0 by decide), if_neg (show ¬ (1 : Int32) = 0 by decide)]
            by_cases i8 : i < 8
            · rw [if_neg (show ¬ (8 : Int32) ≤ nI i from nI_ge (b := 8) i8 (by omega)), mv_v, nI_1, og_in _ (show i + 1 < 9 by omega) (by omega), nI_clamp (show i + 1 < 2 ^ 31 by omega), mw_v]
              have hd : rm (ua (ua a i (a i + 1)) (i + 1) 0) (i + 1 + 1) + 1 = rm a (i + 1) := rm_down h4 i8
              have pe : ∀ j, j < i → pth (ua a i (a i + 1)) j = pth a j := fun j hj => pth_ua (by omega)
              have pi : pth (ua a i (a i + 1)) i = a i := by rw [pth, ua_eq]; omega
              have ec : ∀ j, 0 ≤ j → j < 0 + i → pth (ua a i (a i + 1)) j = pth a j := fun j _ hj => pe j (by omega)
              refine ih (i + 1) (ua (ua a i (a i + 1)) (i + 1) 0) k _ f br bc bt (by omega) (by omega) (hC.down h4 i8 okT) (k2.of (fun x hx => mm_up_ne _ _ _ (by omega))) (hV.down h4 ⟨fun j hj => by rw [mm_up_eq, upd_ne _ _ (by omega)]; exact g2.1 j hj, fun x d x1 x2 hd => by rw [mm_up_ne _ _ _ (by omega)]; exact g2.2 x d x1 x2 hd⟩ (by rw [mm_up_eq, upd_ne _ _ (by omega)]; exact e82) (by rw [mm_up_eq, upd_eq]) ?_) (B2.of (mm_up_ne _ _ _ (by omega)) (mm_up_ne _ _ _ (by omega))) hbc hbt
              unfold MVd
              rw [mm_up_ne _ _ _ (show 9 ≠ 8 by omega), mm_up_ne _ _ _ (show 10 ≠ 8 by omega), mm_up_ne _ _ _ (show 11 ≠ 8 by omega), mm_up_ne _ _ _ (show 12 ≠ 8 by omega), mm_up_ne _ _ _ (show 13 ≠ 8 by omega), mm_up_ne _ _ _ (show 14 ≠ 8 by omega), mm_up_ne _ _ _ (show 15 ≠ 8 by omega)]
              rw [sa_s, sa_s, qa_s, pi, sa_congr _ i 0 ec, sa_congr _ i 0 ec, qa_congr nQ i 0 q00 ec, sA, sB, sC, hm, pi, hm_congr i pe]
              exact ⟨z9, z10, z11, z12, z13, z14, z15⟩
            · have ei : i = 8 := by omega
              subst ei
              rw [if_pos (show (8 : Int32) ≤ nI 8 by decide), show (9 : Int32).toNatClampNeg = 8 + 1 from rfl, mw_v, mw_v, z9, mm_up_ne h2 _ _ (show 10 ≠ 0 by omega), z10]
              obtain ⟨h3, c1, c2, c3⟩ := m_c270 (f_X12_finds_c15 (nI p) (numI oa) (numI ob) (numI oc) (nI lim) k) (nI p) (numI oa) (numI ob) (numI oc) (nI lim) (nI 8) 9 0 FU _ _ (by omega) (fu_lt (by omega)) (fun _ _ => rfl) (fun j hj => absurd hj (Nat.not_lt_zero j))
              rw [show (0 : Int32) = nI 0 from rfl, c1]
              have hr := rm_skip (a := a) (i := 8) h4
              have old : ∀ x, x ≠ 16 → x ≠ 0 → h3 x = h2 x := fun x x1 x2 => by rw [c2 x x1, mm_up_ne _ _ _ x2, mm_up_ne _ _ _ x2]
              have br8 : ∀ j, j < 9 → h3 16 j = nI (if j < 8 then pth a j else a 8) := fun j hj => by
                rw [c3 j hj, mm_up_ne _ _ _ (by omega), mm_up_ne _ _ _ (by omega)]
                by_cases ej : j < 8
                · rw [if_pos ej, g2.1 j ej, hV.1 j (by omega)]
                  have := (hC.2.1 j ej).1
                  obtain ⟨u, hu⟩ := Nat.exists_eq_add_of_le this
                  rw [pth, hu, Nat.add_comm 1 u, nI_pred, Nat.add_sub_cancel]
                · rw [if_neg ej, show j = 8 by omega]
                  exact e82
              refine ih 8 (ua a 8 (a 8 + 1)) k h3 true (fun j => if j < 8 then pth a j else a 8) _ _ (by omega) (by omega) (hC.leaf h4 okT (fun j hj => if_pos hj) (if_neg (by omega)) rfl rfl (by omega) r2) ⟨fun x x1 x2 => by rw [old x (by omega) (by omega)]; exact k2.1 x x1 x2, fun s s1 s2 => by rw [c2 0 (by omega), mm_up_eq, upd_ne _ _ s2, mm_up_eq, upd_ne _ _ s1]; exact k2.2 s s1 s2⟩ (hV.skip ⟨fun j hj => by rw [old 8 (by omega) (by omega)]; exact g2.1 j hj, fun x d x1 x2 hd => by rw [old x (by omega) (by omega)]; exact g2.2 x d x1 x2 hd⟩ (by rw [old 8 (by omega) (by omega)]; exact e82)) (Or.inr ⟨rfl, ?_, ?_, br8⟩) (by omega) (by omega)
              · rw [c2 0 (by omega), mm_up_eq, upd_ne _ _ (by omega), mm_up_eq, upd_eq]
              · rw [c2 0 (by omega), mm_up_eq, upd_eq]
    · have e4 : a i = 4 := by omega
      rw [if_neg (show ¬ nI (a i) ≤ 3 from nI_ge (a := 3) (by omega) (by omega)), mv_v]
      cases i with
      | zero =>
        obtain ⟨k, rfl⟩ := Nat.exists_eq_succ_of_ne_zero (show k ≠ 0 by omega)
        rw [f_X12_finds_c15, if_pos (show nI 0 + -1 < 0 by decide)]
        have z0 : ∀ x, 9 ≤ x → x < 16 → h1 x 0 = 0 := fun x q1 q2 => by
          rw [g1.2 x 0 q1 q2 (Nat.le_refl _)]
          obtain ⟨w9, w10, w11, w12, w13, w14, w15⟩ := hV.2 0 (Nat.le_refl _)
          unfold uA q00 at w11
          unfold uB q00 at w12
          unfold uC q00 at w13
          rw [qa, Nat.zero_mul] at w11 w13
          rw [qa, show ((0, 0, 0, 0, 0) : Qc).1 + ((0, 0, 0, 0, 0) : Qc).2.1 + 2 * ((0, 0, 0, 0, 0) : Qc).2.2.1 = 0 from rfl, Nat.zero_mul] at w12
          rcases (show x = 9 ∨ x = 10 ∨ x = 11 ∨ x = 12 ∨ x = 13 ∨ x = 14 ∨ x = 15 by omega) with rfl | rfl | rfl | rfl | rfl | rfl | rfl
          · exact w9
          · exact w10
          · exact w11
          · exact w12
          · exact w13
          · exact w14
          · exact w15
        refine ⟨f, br, bc, bt, h1, ?_, hC.2.2.2.2.1, hC.done e4, k1, B1', z0, hbc, hbt⟩
        rcases B1' with ⟨q1, q2⟩ | ⟨q1, q2, q3, q4⟩
        · rw [q1, q2, if_pos (by decide)]
          rfl
        · rw [q1, q2, if_neg (nI_pos (by omega))]
          rfl
      | succ i =>
        rw [nI_down]
        have hr := rm_up (a := a) e4
        exact ih i a k h1 f br bc bt (by omega) (by omega) (hC.up e4) k1 (hV.up g1) B1' hbc hbt
