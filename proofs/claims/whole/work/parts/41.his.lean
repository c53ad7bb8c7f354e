/-- none, or a shoe of his for this foot: both say so, or both don't -/
theorem both_his {c : Mm} {N : Nat → Int32} (hW : WR c 1 N) {ns : Nat} (hns : ns ≤ 16) (ens : N 1 = nI ns) (x p ft : Int32) : (f_X10_isNoneOrHis 1 x p ft c = some 0 ∧ ∀ m : Mm, m 1 = N → f_X12_isHis p x ft m = some 0) ∨ ∃ o : Option Nat, x = numI o ∧ (∀ j, o = some j → j < ns ∧ N (31 + j) = ft ∧ N (15 + j) = p) ∧ f_X10_isNoneOrHis 1 x p ft c = some 1 ∧ ∀ m : Mm, m 1 = N → f_X12_isHis p x ft m = some 1 := by
  unfold f_X10_isNoneOrHis f_X12_isHis
  by_cases h1 : x = -1
  · refine Or.inr ⟨none, h1, fun j hj => (by simp at hj), ?_, fun m hm => ?_⟩
    · rw [if_pos h1]
    · rw [if_pos h1]
  · rcases k_isShoeFor hW hns ens x ft with ⟨a1, a2⟩ | ⟨j, j1, rfl, j2, a1, a2⟩
    · refine Or.inl ⟨?_, fun m hm => ?_⟩
      · rw [if_neg h1, a1, op_v, if_pos rfl]
      · rw [if_neg h1, a2 m hm, op_v, if_pos rfl]
    · by_cases h2 : N (15 + j) = p
      · refine Or.inr ⟨some j, rfl, fun k hk => (by
          cases hk
          exact ⟨j1, j2, h2⟩), ?_, fun m hm => ?_⟩
        · rw [if_neg h1, a1, op_v, if_neg (show ¬ (1 : Int32) = 0 by decide), og_in _ (show j < 16 by omega) (by omega), nI_clamp (by omega), show c (1 + 4 + j) 3 = N (15 + j) from wr_own hW (show j < 16 by omega), if_pos h2]
        · rw [if_neg h1, a2 m hm, op_v, if_neg (show ¬ (1 : Int32) = 0 by decide), show (15 : Int32) = nI 15 from rfl, nI_add, og_in _ (show 15 + j < 193 by omega) (by omega), nI_clamp (by omega), hm, if_pos h2]
      · refine Or.inl ⟨?_, fun m hm => ?_⟩
        · rw [if_neg h1, a1, op_v, if_neg (show ¬ (1 : Int32) = 0 by decide), og_in _ (show j < 16 by omega) (by omega), nI_clamp (by omega), show c (1 + 4 + j) 3 = N (15 + j) from wr_own hW (show j < 16 by omega), if_neg h2]
        · rw [if_neg h1, a2 m hm, op_v, if_neg (show ¬ (1 : Int32) = 0 by decide), show (15 : Int32) = nI 15 from rfl, nI_add, og_in _ (show 15 + j < 193 by omega) (by omega), nI_clamp (by omega), hm, if_neg h2]
