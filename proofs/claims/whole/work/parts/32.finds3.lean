/-- what the model's search answers: the best walk, or none -/
theorem m_finds {m : Mm} {N : Nat → Int32} (hN : m 1 = N) (hF : WF N) (hz : ∀ x, 9 ≤ x → x < 16 → m x 0 = 0) {p : Nat} (hp5 : p < 5) {oa ob oc : Option Nat} (ha : ∀ x, oa = some x → x < 16) (hb : ∀ x, ob = some x → x < 16) (hc : ∀ x, oc = some x → x < 16) {lone : Bool} (hl : lone = decide (¬ N (10 + p) ≤ 0)) {lim : Nat} (hlim : lim ≤ 999) :
    ∃ f br bc bt h', f_X12_finds (nI p) (numI oa) (numI ob) (numI oc) (nI lim) m = some (if f = true then 1 else 0, h') ∧ B1 (okQ N lone oa ob oc) nQ (mQ N oa ob oc) (cQ N lone oa ob) lim q00 f br bc bt ∧ (∀ y, Vd (okQ N lone oa ob oc) nQ (mQ N oa ob oc) lim q00 y → dom f bc bt (sa (cQ N lone oa ob) 9 0 y) (sa (mQ N oa ob oc) 9 0 y)) ∧ MK m h' ∧ MB f br bc bt h' ∧ (∀ x, 9 ≤ x → x < 16 → h' x 0 = 0) ∧ bc ≤ 20000 ∧ bt ≤ 20000 := by
  unfold f_X12_finds
  rw [mw_v, mw_v, show (0 : Int32).toNatClampNeg = 0 from rfl]
  have z : ∀ x, 9 ≤ x → x < 16 → mm_up (mm_up m 0 19 (-1)) 8 0 (-1) x 0 = nI 0 := fun x h1 h2 => by
    rw [mm_up_ne _ _ _ (by omega), mm_up_ne _ _ _ (by omega)]
    exact hz x h1 h2
  exact m_finds_loop hN hF hp5 ha hb hc hl hlim 436905 0 (fun _ => 0) FU _ false (fun _ => 0) 0 0 (by rw [rm_0 rfl]; omega) (fu_lt (by omega)) (CI.start _ _ _ rfl) ⟨fun x h1 h2 => by rw [mm_up_ne _ _ _ (by omega), mm_up_ne _ _ _ (by omega)], fun s h1 _ => by rw [mm_up_ne _ _ _ (by omega), mm_up_eq, upd_ne _ _ h1]⟩
    ⟨fun j hj => by
      have : j = 0 := by omega
      subst this
      rw [mm_up_eq, upd_eq]
      rfl, fun d hd => by
      have : d = 0 := by omega
      subst this
      exact ⟨z 9 (by omega) (by omega), z 10 (by omega) (by omega), by rw [z 11 (by omega) (by omega)]; unfold uA q00; rw [qa, Nat.zero_mul], by rw [z 12 (by omega) (by omega)]; unfold uB q00; rw [qa]; simp, by rw [z 13 (by omega) (by omega)]; unfold uC q00; rw [qa, Nat.zero_mul], z 14 (by omega) (by omega), z 15 (by omega) (by omega)⟩⟩
    (Or.inl ⟨rfl, by rw [mm_up_ne _ _ _ (by omega), mm_up_eq, upd_eq]⟩) (by omega) (by omega)
