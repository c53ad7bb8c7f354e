theorem TRI_DJ {N : Nat → Int32} {p ns : Nat} {lone : Bool} {oa ob oc : Option Nat} (T : TRI N p ns lone oa ob oc) : DJ oa ob oc := by
  obtain ⟨t1, t2, t3, t4, t5, t6, t7, t8⟩ := T
  have ab : ∀ x, oa = some x → (ob = some x ∨ oc = some x) → False := fun x e1 e2 => by
    cases hl : lone with
    | true =>
      rw [(t8 hl).1] at e1
      cases e1
    | false => exact t6 hl x e2 (t5 hl x e1)
  intro i j x hi hj h1 h2
  rcases (show i = 0 ∨ i = 1 ∨ i = 2 by omega) with rfl | rfl | rfl <;> rcases (show j = 0 ∨ j = 1 ∨ j = 2 by omega) with rfl | rfl | rfl
  · rfl
  · exact absurd (ab x h1 (Or.inl h2)) id
  · exact absurd (ab x h1 (Or.inr h2)) id
  · exact absurd (ab x h2 (Or.inl h1)) id
  · rfl
  · exact absurd (t7 x h1 h2) id
  · exact absurd (ab x h2 (Or.inr h1)) id
  · exact absurd (t7 x h2 h1) id
  · rfl
theorem sim_go {n : Nat} {c m : Mm} (h : Rel n c m) (hn : n < 999999) (x1 x2 x3 x4 x5 : Int32) : Sim n (f_X11_go x1 x2 x3 x4 x5 c) (f_X12_go x1 x2 x3 x4 x5 m) := by
  have nh : ¬ (1 : Int32) = 0 := by decide
  rcases both_walk h x1 x2 x3 x4 x5 with ⟨a1, r, a2, a3⟩ | ⟨p, ns, lim, lone, oa, ob, oc, hp5, hns, ens, hl, rfl, rfl, rfl, rfl, rfl, T, a1, a2, a3⟩
  · have e1 : f_X11_go x1 x2 x3 x4 x5 c = some (-1, c) := by
      unfold f_X11_go
      rw [a1, op_v, if_pos rfl]
    have e2 : f_X12_go x1 x2 x3 x4 x5 m = some (-1, m) := by
      unfold f_X12_go
      rw [a2, op_v]
      by_cases w : r = 0
      · rw [if_pos w]
      · rw [if_neg w, in_1_999, op_v, if_pos (show wi x5 1 999 = 0 from a3.resolve_left w)]
    rw [e1, e2]
    exact Sim.ret rfl h.next
  · unfold f_X11_go f_X12_go
    rw [a2, op_v, if_neg nh, in_1_999, op_v, if_neg (show ¬ wi (nI lim) 1 999 = 0 from a3), a1, op_v, if_neg nh]
    obtain ⟨f, br, bc, bt, c', m', s1, s2, s3, s4, s5, s6, s7, s8, s9⟩ := both_search h hn hp5 hns ens hl T
    have e := lone_if h hp5 T (fun v => f_X11_go_c41 (nI p) (numI oa) (numI ob) (numI oc) (nI lim) 90 1 v c)
    have hW' : WR c' 1 (m 1) := h.1.kept' (fun a _ _ => s7 a (by omega))
    have hm1 : m' 1 = m 1 := s8.1 1 (by omega) (by omega)
    have R : Rel (n + 1) c' m' := h.walk (fun x hx => s7 x (by omega)) (fun x q1 q2 => s8.1 x (by omega) q2) s8.2 (by rw [hm1]; exact hW') (by rw [hm1]; exact h.2.1) s9
    refine Eq.mpr (congrArg (fun X => Sim n X _) e) ?_
    show Sim n (f_X11_go_c41 (nI p) (numI oa) (numI ob) (numI oc) (nI lim) 90 1 (nI (b01 lone)) c) _
    unfold f_X11_go_c41
    rw [s1, ob_v, s2, ob_v]
    cases f with
    | false =>
      rw [if_pos (show nI (b01 false) = 0 from rfl), if_pos (show nI (b01 false) = 0 from rfl)]
      exact Sim.ret rfl R
    | true =>
      obtain ⟨v1, v2, v3, v4, v5, v6, v7⟩ := s3 rfl
      obtain ⟨pv, hpv, epv⟩ := wf_purse h.2.1 hp5
      rw [if_neg (show ¬ nI (b01 true) = 0 by decide), if_neg (show ¬ nI (b01 true) = 0 by decide), v1, v4, show (16 : Int32) = nI 16 from rfl, pk_div (show bc < 2 ^ 31 by omega) (by omega) (by omega), mv_v, mv_v, og_in _ hp5 (by omega), show (5 : Int32) = nI 5 from rfl, nI_add, og_in _ (show 5 + p < 193 by omega) (by omega), nI_clamp (show p < 2 ^ 31 by omega), nI_clamp (show 5 + p < 2 ^ 31 by omega), wr_purse hW' hp5, hm1, epv]
      by_cases w : bc / 16 ≤ pv
      · rw [if_pos (nI_le w (by omega)), if_pos (nI_le w (by omega)), og_in _ hp5 (by omega), og_in _ hp5 (by omega), og_in _ (show 5 + p < 193 by omega) (by omega), og_in _ (show 5 + p < 193 by omega) (by omega), pk_sub w, mw_v, mw_v]
        have D := TRI_DJ T
        have h16 : ∀ j x, j < 3 → w3 oa ob oc j = some x → x < 16 := fun j x _ e => w3_lt (fun x e => by have := T.2.1 x e; omega) (fun x e => by have := T.2.2.1 x e; omega) (fun x e => by have := T.2.2.2.1 x e; omega) j x e
        have F1 : WF (upd (m 1) (5 + p) (nI (pv - bc / 16))) := uf_purse h.2.1 hp5 (by omega)
        have W1 : WR (mm_up c' 2 p (nI (pv - bc / 16))) 1 (upd (m 1) (5 + p) (nI (pv - bc / 16))) := up_purse hW' hp5 _
        have ev : ∀ j x, j < 3 → w3 oa ob oc j = some x → m 1 (63 + x) = nI (vS (m 1) oa ob oc br 0 j) ∧ vS (m 1) oa ob oc br 0 j ≤ 99 := fun j x hj e => by
          have hx := h16 j x hj e
          have ez := vN_of (by omega) (wf_soles h.2.1 hx)
          have e0 : vS (m 1) oa ob oc br 0 j = vN (m 1) (63 + x) := by
            unfold vS uA uB uC q00
            rw [qa]
            rcases (show j = 0 ∨ j = 1 ∨ j = 2 by omega) with rfl | rfl | rfl
            · have e : oa = some x := e
              rw [if_pos rfl, e, Nat.zero_mul, Nat.sub_zero]
              rfl
            · have e : ob = some x := e
              rw [if_neg (by decide), if_pos rfl, e]
              simp [oL]
            · have e : oc = some x := e
              rw [if_neg (by decide), if_neg (by decide), e, Nat.zero_mul, Nat.sub_zero]
              rfl
          rw [e0]
          exact ez
        have le : ∀ i, i ≤ 9 → ∀ j, j < 3 → vS (m 1) oa ob oc br i j ≤ vS (m 1) oa ob oc br 0 j := by
          intro i
          induction i with
          | zero => intro _ j _; exact Nat.le_refl _
          | succ i ih =>
            intro hi j hj
            have := ih (by omega) j hj
            rw [(vS_s v7 (show i < 9 by omega) hj).2]
            omega
        have base : S3 (upd (m 1) (5 + p) (nI (pv - bc / 16))) oa ob oc (vS (m 1) oa ob oc br 0) = upd (m 1) (5 + p) (nI (pv - bc / 16)) := S3_base D (fun j x hj e => by
          rw [upd_ne _ _ (by omega)]
          exact (ev j x hj e).1)
        obtain ⟨c2, k1, k2, k3⟩ := k_wearOut (N0 := m 1) (N1 := upd (m 1) (5 + p) (nI (pv - bc / 16))) D h16 v7 9 0 FU (mm_up c' 2 p (nI (pv - bc / 16))) (by omega) (fu_lt (by omega)) (by rw [base]; exact W1) (fun j hj => by rw [mm_up_ne _ _ _ (by omega)]; exact s5 j hj) (fun k j hk hj => by
          rw [mm_up_ne _ _ _ (by omega)]
          obtain ⟨w1, w2, w3'⟩ := s6 k hk
          rcases (show j = 0 ∨ j = 1 ∨ j = 2 by omega) with rfl | rfl | rfl
          · exact w1
          · exact w2
          · exact w3') (fun j hj => by rw [mm_up_ne _ _ _ (by omega)]; exact v3 j hj)
        obtain ⟨m2, l1, l2, l3⟩ := m_goes (N0 := m 1) (N1 := upd (m 1) (5 + p) (nI (pv - bc / 16))) D h16 (fun x hx => upd_ne _ _ (by omega)) v7 (nI (bc / 16)) 9 0 FU (mm_up m' 1 (5 + p) (nI (pv - bc / 16))) (by omega) (fu_lt (by omega)) (by rw [base, mm_up_eq, hm1]) (fun j hj => by rw [mm_up_ne _ _ _ (by omega)]; exact v6 j hj)
        have kk : f_X9_wearOut 90 (mm_up c' 2 p (nI (pv - bc / 16))) = some c2 := by
          unfold f_X9_wearOut
          exact k1
        rw [kk, op_v]
        rw [show f_X12_go_c85 (numI oa) (numI ob) (numI oc) FU (nI (bc / 16)) 0 (mm_up m' 1 (5 + p) (nI (pv - bc / 16))) = _ from l1]
        have oc2 : ∀ x, x = 0 ∨ 21 ≤ x → c2 x = c' x := fun x hx => by rw [k3 x (by omega), mm_up_ne _ _ _ (by omega)]
        have om2 : ∀ x, x ≠ 1 → m2 x = m' x := fun x hx => by rw [l3 x hx, mm_up_ne _ _ _ hx]
        refine Sim.ret rfl (h.walk (fun x hx => by rw [oc2 x (by omega), s7 x (by omega)]) (fun x q1 q2 => by rw [om2 x (by omega), s8.1 x (by omega) q2]) (fun s q1 q2 => by rw [om2 0 (by omega), s8.2 s q1 q2]) (by rw [l2]; exact k2) (by rw [l2]; exact S3_WF F1 D h16 (fun j x hj e => by have := le 9 (by omega) j hj; have := (ev j x hj e).2; omega)) (AR.mono s9 (Nat.le_refl _) (by rw [oc2 135 (by omega)]) (oc2 138 (by omega)) (fun a _ _ => oc2 a (by omega)) (fun a _ _ => om2 a (by omega))))
      · rw [if_neg (nI_ge (by omega) (by omega)), if_neg (nI_ge (by omega) (by omega))]
        exact Sim.ret rfl R
