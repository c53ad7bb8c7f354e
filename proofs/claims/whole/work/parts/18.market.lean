def wtN (N : Nat → Int32) (p k : Nat) : Nat := if (N (187 + k)).toNatClampNeg < p then 0 else (N (181 + k)).toNatClampNeg
theorem wtN_le {N : Nat → Int32} (hF : WF N) {p k : Nat} (hk : k < 6) : wtN N p k ≤ 9 := by
  obtain ⟨v, hv, ev⟩ := wf_wants hF hk
  unfold wtN
  rw [ev, nI_clamp (by omega)]
  split <;> omega
theorem k_wanted_c4 {c : Mm} {N : Nat → Int32} (hW : WR c 1 N) (hF : WF N) {nb p : Nat} (hnb : nb ≤ 6) (enb : N 4 = nI nb) (hp : p ≤ 100) : ∀ (d i f : Nat), i + d = nb → d < f → f_X1_wantedAt_c4 38 (nI p) f (nI (sumN (wtN N p) i)) (nI i) c = some (nI (sumN (wtN N p) nb)) := by
  intro d
  induction d with
  | zero =>
    intro i f hi hf
    obtain ⟨f, rfl⟩ := Nat.exists_eq_succ_of_ne_zero (show f ≠ 0 by omega)
    have e : i = nb := by omega
    subst e
    rw [f_X1_wantedAt_c4, wr_nb hW, enb, if_pos (Int32.le_refl _)]
  | succ d ih =>
    intro i f hi hf
    obtain ⟨f, rfl⟩ := Nat.exists_eq_succ_of_ne_zero (show f ≠ 0 by omega)
    rw [f_X1_wantedAt_c4]
    have ih := ih (i + 1) f (by omega) (by omega)
    rw [← ih, sumN_s]
    obtain ⟨v, hv, ev⟩ := wf_worth hF (show i < 6 by omega)
    obtain ⟨u, hu, eu⟩ := wf_wants hF (show i < 6 by omega)
    unfold wtN
    rw [ev, eu]
    simp (disch := omega) only [mv_v, og_in, nI_clamp, Nat.reduceAdd, wr_nb hW, enb, nI_leI, if_neg (show ¬ nb ≤ i by omega), wr_worth hW, wr_wants hW, nI_1, nI_ltI, ev, eu]
    by_cases h1 : v < p
    · rw [if_pos h1, if_pos h1]
      rfl
    · rw [if_neg h1, if_neg h1, nI_add]
theorem m_wanted_c4 {m : Mm} (hF : WF (m 1)) {nb p : Nat} (hnb : nb ≤ 6) (enb : m 1 4 = nI nb) (hp : p ≤ 100) : ∀ (d i f : Nat), i + d = nb → d < f → f_X12_wanted_c4 (nI p) f (nI (sumN (wtN (m 1) p) i)) (nI i) m = some (nI (sumN (wtN (m 1) p) nb)) := by
  intro d
  induction d with
  | zero =>
    intro i f hi hf
    obtain ⟨f, rfl⟩ := Nat.exists_eq_succ_of_ne_zero (show f ≠ 0 by omega)
    have e : i = nb := by omega
    subst e
    rw [f_X12_wanted_c4, show (4 : Int32).toNatClampNeg = 4 from rfl, enb, if_pos (Int32.le_refl _)]
  | succ d ih =>
    intro i f hi hf
    obtain ⟨f, rfl⟩ := Nat.exists_eq_succ_of_ne_zero (show f ≠ 0 by omega)
    rw [f_X12_wanted_c4]
    have ih := ih (i + 1) f (by omega) (by omega)
    rw [← ih, sumN_s]
    obtain ⟨v, hv, ev⟩ := wf_worth hF (show i < 6 by omega)
    obtain ⟨u, hu, eu⟩ := wf_wants hF (show i < 6 by omega)
    have ev' : (wtN (m 1) p i) = if v < p then 0 else u := by
      unfold wtN
      rw [ev, eu, nI_clamp (by omega), nI_clamp (by omega)]
    rw [ev']
    simp (disch := omega) only [mv_v, show (4 : Int32).toNatClampNeg = 4 from rfl, show (187 : Int32) = nI 187 from rfl, show (181 : Int32) = nI 181 from rfl, nI_add, og_in, nI_clamp, enb, nI_leI, if_neg (show ¬ nb ≤ i by omega), nI_1, nI_ltI, ev, eu, nI_p0]
    by_cases h1 : v < p
    · rw [if_pos h1, if_pos h1]
    · rw [if_neg h1, if_neg h1]
def mkI (g : Mm) (p0 p r : Nat) (w : Int32) : Prop :=
  (w = 0 ∧ r = 0 ∧ p = p0 ∧ ∀ k, k < 100 → g 41 k = 0) ∨ (w = 1 ∧ 1 ≤ r ∧ p = p0 + r ∧ ∀ k, k < 100 → g 41 k = if p0 ≤ k ∧ k < p then 1 else 0) ∨ (w = -1 ∧ 1 ≤ r ∧ p + r = p0 ∧ ∀ k, k < 100 → g 41 k = if p < k ∧ k ≤ p0 then 1 else 0)
theorem mkI_new {g : Mm} {p0 p r : Nat} {w : Int32} (hp : p ≤ 99) (h : mkI g p0 p r w) : g 41 p = 0 := by
  rcases h with ⟨-, -, -, h⟩ | ⟨-, -, -, h⟩ | ⟨-, -, -, h⟩
  · exact h p (by omega)
  · rw [h p (by omega), if_neg (by omega)]
  · rw [h p (by omega), if_neg (by omega)]
/-- the class's market once its price is one that it was -/
theorem k_settle_end {g : Mm} {N : Nat → Int32} (hW : WR g 1 N) (hF : WF N) {nb p r : Nat} (hnb : nb ≤ 6) (enb : N 4 = nI nb) (hp : p ≤ 99) (hr : r ≤ 99) (e4 : g 38 4 = nI p) (e5 : g 38 5 = nI r) (hv : g 41 p = 1) (sup : Int32) {f : Nat} (hf : 0 < f) : f_X1_settle_c18 38 sup f g = some (0, g) := by
  obtain ⟨f, rfl⟩ := Nat.exists_eq_succ_of_ne_zero (show f ≠ 0 by omega)
  rw [f_X1_settle_c18, e5, e4]
  unfold f_X1_wantedAt
  rw [show f_X1_wantedAt_c4 38 (nI p) FU 0 0 g = _ from k_wanted_c4 hW hF hnb enb (by omega) nb 0 FU (by omega) (fu_lt (by omega)), op_v, if_neg (show ¬ (99 : Int32) < nI r from nI_nlt (a := 99) (b := r) hr (by omega)), og_in _ (by omega) (by omega), nI_clamp (by omega)]
  rw [if_pos (show g (38 + 3) p = 1 from hv)]
theorem wr_scr {g g' : Mm} {N : Nat → Int32} (hW : WR g 1 N) (h1 : ∀ a, a ≠ 38 → a ≠ 41 → g' a = g a) (h2 : g' 38 2 = g 38 2) : WR g' 1 N := by
  refine hW.kept (fun j hj => ?_)
  have hw := of_decide_eq_true (List.all_eq_true.mp w_all0 j (List.mem_range.mpr hj))
  generalize wP j = P at hw ⊢
  generalize wL j = S at hw ⊢
  by_cases e : P = 37
  · have e2 : S = 2 := by omega
    subst e
    subst e2
    exact h2
  · rw [h1 _ (by omega) (by omega)]
theorem market_both {m : Mm} (hF : WF (m 1)) {nb sup p0 : Nat} (hnb : nb ≤ 6) (enb : m 1 4 = nI nb) (hs : sup ≤ 60) (x3 : Int32) (hp01 : 1 ≤ p0) (hp0 : p0 ≤ 99) : ∀ (d r p f f' : Nat) (w : Int32) (g : Mm), r + d = 99 → d + 1 < f → d < f' → 1 ≤ p → p ≤ 99 → WR g 1 (m 1) → g 38 4 = nI p → g 38 5 = nI r → mkI g p0 p r w →
    ∃ rs g', f_X1_settle_c18 38 (nI sup) f g = some (rs, g') ∧ (∀ a, a ≠ 38 → a ≠ 41 → g' a = g a) ∧ g' 38 2 = g 38 2 ∧ f_X12_market_c45 (nI sup) x3 f' (nI p) w (nI r) m = some (if x3 = 0 then (if rs = 0 then -4 else g' 38 4) else g' 38 5) := by
  intro d
  induction d with
  | zero =>
    intro r p f f' w g hd _ _ h1 h2 _ _ _ hI
    exfalso
    rcases hI with ⟨-, h3, -⟩ | ⟨-, h3, h4, -⟩ | ⟨-, h3, h4, -⟩ <;> omega
  | succ d ih =>
    intro r p f f' w g hd hf hf' h1 h2 hW e4 e5 hI
    obtain ⟨f, rfl⟩ := Nat.exists_eq_succ_of_ne_zero (show f ≠ 0 by omega)
    obtain ⟨f', rfl⟩ := Nat.exists_eq_succ_of_ne_zero (show f' ≠ 0 by omega)
    rw [f_X1_settle_c18, f_X12_market_c45, e5, e4]
    unfold f_X1_wantedAt f_X12_wanted
    have bw : sumN (wtN (m 1) p) nb ≤ nb * 9 := sumN_le nb (fun k hk => wtN_le hF (by omega))
    rw [show f_X1_wantedAt_c4 38 (nI p) FU 0 0 g = _ from k_wanted_c4 hW hF hnb enb (by omega) nb 0 FU (by omega) (fu_lt (by omega)), show f_X12_wanted_c4 (nI p) FU 0 0 m = _ from m_wanted_c4 hF hnb enb (by omega) nb 0 FU (by omega) (fu_lt (by omega)), op_v, op_v]
    generalize sumN (wtN (m 1) p) nb = wd at bw ⊢
    have hnew := mkI_new (by omega) hI
    have hnew' : ¬ g (38 + 3) p = 1 := by rw [show g (38 + 3) p = g 41 p from rfl, hnew]; decide
    simp (disch := omega) only [og_in, nI_clamp, show (99 : Int32) = nI 99 from rfl, show (200 : Int32) = nI 200 from rfl, nI_ltI, nI_leI, nI_eq, if_neg (show ¬ 99 < r by omega), if_neg (show ¬ 200 ≤ r by omega), if_neg hnew', mw_v]
    by_cases hw : wd = sup
    · rw [if_pos hw, if_pos hw]
      refine ⟨1, g, rfl, fun _ _ _ => rfl, rfl, ?_⟩
      rw [e4, e5, if_neg (show ¬ (1 : Int32) = 0 by decide)]
      split <;> rfl
    rw [if_neg hw, if_neg hw]
    -- the class's next memory
    have nxt : ∀ np : Nat, ∃ g2, f_X1_settle_c98 (f_X1_settle_c18 38 (nI sup) f) 38 (nI sup) 38 (nI np) (mm_up g (38 + 3) p 1) = f_X1_settle_c18 38 (nI sup) f g2 ∧ (∀ a, a ≠ 38 → a ≠ 41 → g2 a = g a) ∧ g2 38 2 = g 38 2 ∧ g2 38 4 = nI np ∧ g2 38 5 = nI (r + 1) ∧ g2 41 = upd (g 41) p 1 := by
      intro np
      refine ⟨mm_up (mm_up (mm_up g (38 + 3) p 1) 38 4 (nI np)) 38 5 (nI (r + 1)), ?_, fun a ha hb => ?_, ?_, ?_, ?_, ?_⟩
      · unfold f_X1_settle_c98
        rw [mw_v, mw_v]
        congr 2
        rw [mm_up_eq, upd_ne _ _ (by omega), mm_up_ne _ _ _ (by omega), e5, nI_1]
      · rw [mm_up_ne _ _ _ ha, mm_up_ne _ _ _ ha, mm_up_ne _ _ _ hb]
      · rw [mm_up_eq, upd_ne _ _ (by omega), mm_up_eq, upd_ne _ _ (by omega), mm_up_ne _ _ _ (by omega)]
      · rw [mm_up_eq, upd_ne _ _ (by omega), mm_up_eq, upd_eq]
      · rw [mm_up_eq, upd_eq]
      · rw [mm_up_ne _ _ _ (by omega), mm_up_ne _ _ _ (by omega), mm_up_eq]
    have e4' : mm_up g (38 + 3) p 1 38 4 = nI p := by rw [mm_up_ne _ _ _ (by omega)]; exact e4
    -- it goes round
    have back : ∀ np : Nat, np ≤ 99 → upd (g 41) p 1 np = 1 → (Y : Option Int32) → Y = some (if x3 = 0 then -4 else nI (r + 1)) → ∃ rs g', f_X1_settle_c98 (f_X1_settle_c18 38 (nI sup) f) 38 (nI sup) 38 (nI np) (mm_up g (38 + 3) p 1) = some (rs, g') ∧ (∀ a, a ≠ 38 → a ≠ 41 → g' a = g a) ∧ g' 38 2 = g 38 2 ∧ Y = some (if x3 = 0 then (if rs = 0 then -4 else g' 38 4) else g' 38 5) := by
      intro np hnp hvis Y hY
      obtain ⟨g2, a1, a2, a3, a4, a5, a6⟩ := nxt np
      refine ⟨0, g2, ?_, a2, a3, ?_⟩
      · rw [a1]
        exact k_settle_end (wr_scr hW a2 a3) hF hnb enb hnp (by omega) a4 a5 (by rw [a6]; exact hvis) _ (by omega)
      · rw [hY, a5, if_pos rfl]
    have go : ∀ (np : Nat) (w' : Int32), 1 ≤ np → np ≤ 99 → (∀ g2 : Mm, g2 41 = upd (g 41) p 1 → mkI g2 p0 np (r + 1) w') → (Y : Option Int32) → Y = f_X12_market_c45 (nI sup) x3 f' (nI np) w' (nI (r + 1)) m → ∃ rs g', f_X1_settle_c98 (f_X1_settle_c18 38 (nI sup) f) 38 (nI sup) 38 (nI np) (mm_up g (38 + 3) p 1) = some (rs, g') ∧ (∀ a, a ≠ 38 → a ≠ 41 → g' a = g a) ∧ g' 38 2 = g 38 2 ∧ Y = some (if x3 = 0 then (if rs = 0 then -4 else g' 38 4) else g' 38 5) := by
      intro np w' q1 q2 q3 Y hY
      obtain ⟨g2, a1, a2, a3, a4, a5, a6⟩ := nxt np
      obtain ⟨rs, g', b1, b2, b3, b4⟩ := ih (r + 1) np f f' w' g2 (by omega) (by omega) (by omega) q1 q2 (wr_scr hW a2 a3) a4 a5 (q3 g2 a6)
      exact ⟨rs, g', by rw [a1]; exact b1, fun a ha hb => by rw [b2 a ha hb]; exact a2 a ha hb, by rw [b3]; exact a3, by rw [hY]; exact b4⟩
    unfold f_X12_market_c90 f_X12_market_c104 f_X12_market_c123 f_X12_market_c128
    simp only [if_true, show ¬ (1 : Int32) = 0 by decide, if_false, mv_v, nI_1]
    by_cases hd2 : wd ≤ sup
    · -- down
      rw [if_pos hd2, if_pos hd2, e4', show nI p - 1 = nI (p - 1) from pk_sub (a := p) (b := 1) h1, show nI p + -1 = nI (p - 1) by
        obtain ⟨q, rfl⟩ := Nat.exists_eq_succ_of_ne_zero (show p ≠ 0 by omega)
        exact pk_m1 q]
      have c1 : ¬ (99 : Int32) < nI (p - 1) := nI_nlt (a := 99) (b := p - 1) (by omega) (by omega)
      simp only [if_neg c1]
      by_cases hp1 : p = 1
      · subst hp1
        simp only [if_pos (show nI (1 - 1) < 1 by decide), if_neg (show ¬ (1 : Int32) ≤ nI (1 - 1) by decide)]
        refine back 1 (by omega) (upd_eq _ _ _) _ ?_
        split <;> split <;> first | rfl | split <;> rfl
      · simp only [if_neg (show ¬ nI (p - 1) < 1 from nI_nlt (a := p - 1) (b := 1) (by omega) (by omega)), if_pos (show (1 : Int32) ≤ nI (p - 1) from nI_le (a := 1) (by omega) (by omega))]
        rcases hI with ⟨rfl, i1, i2, i3⟩ | ⟨rfl, i1, i2, i3⟩ | ⟨rfl, i1, i2, i3⟩
        · rw [if_pos rfl]
          refine go (p - 1) (-1) (by omega) (by omega) (fun g2 e => Or.inr (Or.inr ⟨rfl, by omega, by omega, fun k hk => ?_⟩)) _ rfl
          rw [e]
          unfold upd
          by_cases e2 : k = p
          · rw [if_pos e2, if_pos (by omega)]
          · rw [if_neg e2, if_neg (by omega)]
            exact i3 k hk
        · rw [if_neg (show ¬ (1 : Int32) = 0 by decide), if_neg (show ¬ (-1 : Int32) = 1 by decide)]
          refine back (p - 1) (by omega) ?_ _ ?_
          · rw [upd_ne _ _ (by omega), i3 _ (by omega), if_pos (by omega)]
          · split <;> rfl
        · rw [if_neg (show ¬ (-1 : Int32) = 0 by decide), if_pos rfl]
          refine go (p - 1) (-1) (by omega) (by omega) (fun g2 e => Or.inr (Or.inr ⟨rfl, by omega, by omega, fun k hk => ?_⟩)) _ rfl
          rw [e]
          unfold upd
          by_cases e2 : k = p
          · rw [if_pos e2, if_pos (by omega)]
          · rw [if_neg e2, i3 k hk]
            by_cases e3 : p < k ∧ k ≤ p0
            · rw [if_pos e3, if_pos (by omega)]
            · rw [if_neg e3, if_neg (by omega)]
    · -- up
      rw [if_neg hd2, if_neg hd2, e4', nI_1]
      have c1 : (1 : Int32) ≤ nI (p + 1) := nI_le (a := 1) (by omega) (by omega)
      simp only [if_pos c1]
      by_cases hp1 : p = 99
      · subst hp1
        simp only [if_pos (show (99 : Int32) < nI (99 + 1) by decide), if_pos (show nI 99 < nI (99 + 1) by decide)]
        refine back 99 (by omega) (upd_eq _ _ _) _ ?_
        split <;> split <;> first | rfl | split <;> rfl
      · simp only [if_neg (show ¬ nI 99 < nI (p + 1) from nI_nlt (a := 99) (b := p + 1) (by omega) (by omega)), if_neg (show ¬ (99 : Int32) < nI (p + 1) from nI_nlt (a := 99) (b := p + 1) (by omega) (by omega))]
        rcases hI with ⟨rfl, i1, i2, i3⟩ | ⟨rfl, i1, i2, i3⟩ | ⟨rfl, i1, i2, i3⟩
        · rw [if_pos rfl]
          refine go (p + 1) 1 (by omega) (by omega) (fun g2 e => Or.inr (Or.inl ⟨rfl, by omega, by omega, fun k hk => ?_⟩)) _ rfl
          rw [e]
          unfold upd
          by_cases e2 : k = p
          · rw [if_pos e2, if_pos (by omega)]
          · rw [if_neg e2, if_neg (by omega)]
            exact i3 k hk
        · rw [if_neg (show ¬ (1 : Int32) = 0 by decide), if_pos rfl]
          refine go (p + 1) 1 (by omega) (by omega) (fun g2 e => Or.inr (Or.inl ⟨rfl, by omega, by omega, fun k hk => ?_⟩)) _ rfl
          rw [e]
          unfold upd
          by_cases e2 : k = p
          · rw [if_pos e2, if_pos (by omega)]
          · rw [if_neg e2, i3 k hk]
            by_cases e3 : p0 ≤ k ∧ k < p
            · rw [if_pos e3, if_pos (by omega)]
            · rw [if_neg e3, if_neg (by omega)]
        · rw [if_neg (show ¬ (-1 : Int32) = 0 by decide), if_neg (show ¬ (1 : Int32) = -1 by decide)]
          refine back (p + 1) (by omega) ?_ _ ?_
          · rw [upd_ne _ _ (by omega), i3 _ (by omega), if_pos (by omega)]
          · split <;> rfl
/-- only scratch places of the world's market changed -/
theorem Rel.mkt {n : Nat} {c m c' : Mm} (h : Rel n c m) (hc : ∀ a, a ≠ 38 → a ≠ 41 → c' a = c a) (h2 : c' 38 2 = c 38 2) : Rel (n + 1) c' m :=
  ⟨wr_scr h.1 hc h2, h.2.1, h.2.2.1.kept (by rw [hc 0 (by omega) (by omega)]) rfl rfl (fun a _ h1 => hc a (by omega) (by omega)), h.2.2.2.1.kept rfl (by rw [hc 83 (by omega) (by omega)]) (hc 84 (by omega) (by omega)) rfl, h.2.2.2.2.1.kept (fun a h1 _ => hc a (by omega) (by omega)) rfl rfl rfl, h.2.2.2.2.2.mono (by omega) (by rw [hc 135 (by omega) (by omega)]) (hc 138 (by omega) (by omega)) (fun a _ _ => hc a (by omega) (by omega)) (fun _ _ _ => rfl)⟩
theorem sim_market {n : Nat} {c m : Mm} (h : Rel n c m) (x1 x2 x3 : Int32) : SimC n (f_X11_market x1 x2 x3 c) (f_X12_market x1 x2 x3 m) m := by
  have hW := h.1
  have hF := h.2.1
  unfold f_X11_market f_X12_market
  simp only [isWithin_eq, in_1_99, in_0_60, in_0_1, op_v]
  by_cases h1 : wi x1 1 99 = 0
  · rw [if_pos h1, if_pos h1]; exact SimC.ret rfl h.next
  rw [if_neg h1, if_neg h1]
  by_cases h2 : wi x2 0 60 = 0
  · rw [if_pos h2, if_pos h2]; exact SimC.ret rfl h.next
  rw [if_neg h2, if_neg h2]
  by_cases h3 : wi x3 0 1 = 0
  · rw [if_pos h3, if_pos h3]; exact SimC.ret rfl h.next
  rw [if_neg h3, if_neg h3]
  obtain ⟨p, p1, p2, rfl⟩ := wi_1 (b := 99) (by omega) h1
  obtain ⟨sup, s1, rfl⟩ := wi_nz (b := 60) (by omega) h2
  obtain ⟨wh, w1, rfl⟩ := wi_nz (b := 1) (by omega) h3
  obtain ⟨nb, hnb, enb⟩ := wf_nb hF
  unfold f_X1_settle
  rw [mr_v, mw_v, mw_v]
  have hc3 : ∀ a, a ≠ 38 → a ≠ 41 → mm_up (mm_up (mm_row c (38 + 3) (mm_fl 0 (c (38 + 3)) 100)) 38 4 (nI p)) 38 5 0 a = c a := fun a ha hb => by
    rw [mm_up_ne _ _ _ ha, mm_up_ne _ _ _ ha, mm_row_ne _ _ hb]
  have hc2 : mm_up (mm_up (mm_row c (38 + 3) (mm_fl 0 (c (38 + 3)) 100)) 38 4 (nI p)) 38 5 0 38 2 = c 38 2 := by
    rw [mm_up_eq, upd_ne _ _ (by omega), mm_up_eq, upd_ne _ _ (by omega), mm_row_ne _ _ (by omega)]
  obtain ⟨rs, g', a1, a2, a3, a4⟩ := market_both hF (p0 := p) hnb enb s1 (nI wh) p1 p2 99 0 p FU FU 0 (mm_up (mm_up (mm_row c (38 + 3) (mm_fl 0 (c (38 + 3)) 100)) 38 4 (nI p)) 38 5 0) (by omega) (fu_lt (by omega)) (fu_lt (by omega)) p1 p2 (wr_scr hW hc3 hc2)
    (by rw [mm_up_eq, upd_ne _ _ (by omega), mm_up_eq, upd_eq]) (by rw [mm_up_eq, upd_eq]; rfl)
    (Or.inl ⟨rfl, rfl, rfl, fun k hk => by
      rw [mm_up_ne _ _ _ (by omega), mm_up_ne _ _ _ (by omega), mm_row_at]
      exact if_pos hk⟩)
  rw [a1, ob_v, show f_X12_market_c45 (nI sup) (nI wh) FU (nI p) 0 0 m = _ from a4]
  have hR : Rel (n + 1) g' m := h.mkt (fun a ha hb => by rw [a2 a ha hb]; exact hc3 a ha hb) (by rw [a3]; exact hc2)
  rcases (show wh = 0 ∨ wh = 1 by omega) with rfl | rfl
  · rw [if_neg (show ¬ nI 0 = (1 : Int32) by decide), if_pos (show nI 0 = (0 : Int32) by decide)]
    by_cases e : rs = 0
    · rw [if_pos e, if_pos e]
      exact SimC.ret rfl hR
    · rw [if_neg e, if_neg e]
      exact SimC.ret rfl hR
  · rw [if_pos (show nI 1 = (1 : Int32) by decide), if_neg (show ¬ nI 1 = (0 : Int32) by decide)]
    exact SimC.ret rfl hR
