/-- the rows are tried: the best walk stands, or none -/
theorem k_tryRows {g : Mm} {N : Nat → Int32} (hF : WF N) {oa ob oc : Option Nat} (ha : ∀ x, oa = some x → x < 16) (hb : ∀ x, ob = some x → x < 16) (hc : ∀ x, oc = some x → x < 16) {lone : Bool} {lim sn : Nat} (hlim : lim ≤ 999) {ls : Nat → Nat} (hls9 : ls 9 = 0) (hls : ∀ i q z, i ≤ 9 → okr (okQ N lone oa ob oc) nQ (9 - i) i q z → ls i ≤ sa (mQ N oa ob oc) (9 - i) i z) (hlsb : ∀ i, i ≤ 9 → ls i ≤ 20000)
    (hX : EX g sn) (hno : ∀ k, k < 10935 → ¬ g 138 k = nI sn) (hT : WT N lone oa ob oc lim ls g) (hV : CVd N lone oa ob oc (fun _ => 0) g 0) (h15 : g 90 15 = 0) :
    ∃ f' br' bc' bt' a' g', f_X9_tryRows 90 g = some g' ∧ B1 (okQ N lone oa ob oc) nQ (mQ N oa ob oc) (cQ N lone oa ob) lim q00 f' br' bc' bt' ∧ (∀ y, Vd (okQ N lone oa ob oc) nQ (mQ N oa ob oc) lim q00 y → dom f' bc' bt' (sa (cQ N lone oa ob) 9 0 y) (sa (mQ N oa ob oc) 9 0 y)) ∧ CB f' br' bc' bt' g' ∧ EX g' sn ∧ WT N lone oa ob oc lim ls g' ∧ CVd N lone oa ob oc a' g' 0 ∧ KF g g' ∧ bc' ≤ 20000 ∧ bt' ≤ 20000 := by
  unfold f_X9_tryRows
  rw [mw_v, show (0 : Int32).toNatClampNeg = 0 from rfl]
  have o : ∀ x, x ≠ 109 → mm_up g (90 + 19) 0 (-1) x = g x := fun x hx => mm_up_ne _ _ _ hx
  exact k_rows_loop hF ha hb hc hlim hls9 hls hlsb 436905 0 (fun _ => 0) 0 FU _ false (fun _ => 0) 0 0 (by rw [rm_0 rfl]; omega) (fu_lt (by omega)) (by omega) (CI.start _ _ _ rfl) (fun d q c t hE => by
      obtain ⟨e1, e2, _⟩ := hE
      rw [o 138 (by omega)] at e2
      exact absurd e2 (hno _ (ix_lt e1))) (hX.of (o 135 (by omega)) (o 136 (by omega)) (o 137 (by omega)) (o 138 (by omega))) (hT.of (fun s _ => by rw [o 90 (by omega)]) (fun x q1 q2 => o x (by omega))) (fun d hd => by
      have : d = 0 := by omega
      subst this
      exact hV.of (fun _ _ => rfl) (by rw [o 110 (by omega)]) (by rw [o 111 (by omega)]) (o _ (by omega)) (by rw [o 123 (by omega)]) (o _ (by omega))) (fun j hj => by
      have : j = 0 := by omega
      subst this
      rw [show (109 : Nat) = 90 + 19 from rfl, mm_up_eq, upd_eq]
      rfl) ⟨by rw [o 90 (by omega)]; exact h15, fun h => absurd h (by decide)⟩ (fun x hx => o x (by omega)) (by omega) (by omega)
/-- the two costs of a going that is open are the model's one -/
theorem lsN_9 (lim : Nat) (op : Nat → Bool) (mi : Nat → Nat → Nat) : lsN lim op mi 9 = 0 := rfl
theorem lsN_le {lim : Nat} (hl : lim ≤ 999) (op : Nat → Bool) (mi : Nat → Nat → Nat) (i : Nat) : lsN lim op mi i ≤ 20000 := by
  unfold lsN
  have h1 := lsd_le lim op mi (9 - i)
  have h2 : (9 - i) * (lim + 1) ≤ 9 * 1000 := Nat.mul_le_mul (by omega) (by omega)
  omega
theorem lsN_sa {N : Nat → Int32} {lone : Bool} {oa ob oc : Option Nat} (lim : Nat) : ∀ i q z, i ≤ 9 → okr (okQ N lone oa ob oc) nQ (9 - i) i q z → lsN lim (gOpen lone oa ob oc) (mQ N oa ob oc) i ≤ sa (mQ N oa ob oc) (9 - i) i z := by
  intro i q z hi h
  have hop : ∀ q g, okQ N lone oa ob oc q g = true → gOpen lone oa ob oc g = true := fun q g h => by
    unfold okQ at h
    rw [Bool.and_eq_true] at h
    exact canQ_open h.1
  have := lsd_sa (lim := lim) (mi := mQ N oa ob oc) (z := z) hop (9 - i) q (by omega) (by rw [show 9 - (9 - i) = i by omega]; exact h)
  rw [show 9 - (9 - i) = i by omega] at this
  exact this
