theorem wr_np {c : Mm} {N : Nat → Int32} (h : WR c 1 N) : c 1 0 = N 0 := h 0 (by omega)
theorem wr_ns {c : Mm} {N : Nat → Int32} (h : WR c 1 N) : c 1 3 = N 1 := h 1 (by omega)
theorem wr_fine {c : Mm} {N : Nat → Int32} (h : WR c 1 N) : c 21 1 = N 2 := h 2 (by omega)
theorem wr_taxed {c : Mm} {N : Nat → Int32} (h : WR c 1 N) : c 21 2 = N 3 := h 3 (by omega)
theorem wr_nb {c : Mm} {N : Nat → Int32} (h : WR c 1 N) : c 38 2 = N 4 := h 4 (by omega)
theorem wr_gen {c : Mm} {N : Nat → Int32} (h : WR c 1 N) {j P L : Nat} (hj : j < 193) (e : 1 + wP j = P ∧ wL j = L) : c P L = N j := by
  rw [← e.1, ← e.2]
  exact h j hj
theorem wr_purse {c : Mm} {N : Nat → Int32} (h : WR c 1 N) {k : Nat} (hk : k < 5) : c 2 k = N (5 + k) := wr_gen h (by omega) ((show ∀ k, k < 5 → 1 + wP (5 + k) = 2 ∧ wL (5 + k) = k by decide +kernel) k hk)
theorem wr_feet {c : Mm} {N : Nat → Int32} (h : WR c 1 N) {k : Nat} (hk : k < 5) : c 3 k = N (10 + k) := wr_gen h (by omega) ((show ∀ k, k < 5 → 1 + wP (10 + k) = 3 ∧ wL (10 + k) = k by decide +kernel) k hk)
theorem wr_own {c : Mm} {N : Nat → Int32} (h : WR c 1 N) {k : Nat} (hk : k < 16) : c (5 + k) 3 = N (15 + k) := wr_gen h (by omega) ((show ∀ k, k < 16 → 1 + wP (15 + k) = 5 + k ∧ wL (15 + k) = 3 by decide +kernel) k hk)
theorem wr_foot {c : Mm} {N : Nat → Int32} (h : WR c 1 N) {k : Nat} (hk : k < 16) : c (5 + k) 0 = N (31 + k) := wr_gen h (by omega) ((show ∀ k, k < 16 → 1 + wP (31 + k) = 5 + k ∧ wL (31 + k) = 0 by decide +kernel) k hk)
theorem wr_sort {c : Mm} {N : Nat → Int32} (h : WR c 1 N) {k : Nat} (hk : k < 16) : c (5 + k) 1 = N (47 + k) := wr_gen h (by omega) ((show ∀ k, k < 16 → 1 + wP (47 + k) = 5 + k ∧ wL (47 + k) = 1 by decide +kernel) k hk)
theorem wr_soles {c : Mm} {N : Nat → Int32} (h : WR c 1 N) {k : Nat} (hk : k < 16) : c (5 + k) 2 = N (63 + k) := wr_gen h (by omega) ((show ∀ k, k < 16 → 1 + wP (63 + k) = 5 + k ∧ wL (63 + k) = 2 by decide +kernel) k hk)
theorem wr_stamp {c : Mm} {N : Nat → Int32} (h : WR c 1 N) {k : Nat} (hk : k < 16) : c (5 + k) 4 = N (79 + k) := wr_gen h (by omega) ((show ∀ k, k < 16 → 1 + wP (79 + k) = 5 + k ∧ wL (79 + k) = 4 by decide +kernel) k hk)
theorem wr_rate {c : Mm} {N : Nat → Int32} (h : WR c 1 N) {k : Nat} (hk : k < 4) : c 22 k = N (95 + k) := wr_gen h (by omega) ((show ∀ k, k < 4 → 1 + wP (95 + k) = 22 ∧ wL (95 + k) = k by decide +kernel) k hk)
theorem wr_mud {c : Mm} {N : Nat → Int32} (h : WR c 1 N) {k : Nat} (hk : k < 9) : c 24 k = N (99 + k) := wr_gen h (by omega) ((show ∀ k, k < 9 → 1 + wP (99 + k) = 24 ∧ wL (99 + k) = k by decide +kernel) k hk)
theorem wr_watch {c : Mm} {N : Nat → Int32} (h : WR c 1 N) {k : Nat} (hk : k < 9) : c 25 k = N (108 + k) := wr_gen h (by omega) ((show ∀ k, k < 9 → 1 + wP (108 + k) = 25 ∧ wL (108 + k) = k by decide +kernel) k hk)
theorem wr_wants {c : Mm} {N : Nat → Int32} (h : WR c 1 N) {k : Nat} (hk : k < 6) : c 39 k = N (181 + k) := wr_gen h (by omega) ((show ∀ k, k < 6 → 1 + wP (181 + k) = 39 ∧ wL (181 + k) = k by decide +kernel) k hk)
theorem wr_worth {c : Mm} {N : Nat → Int32} (h : WR c 1 N) {k : Nat} (hk : k < 6) : c 40 k = N (187 + k) := wr_gen h (by omega) ((show ∀ k, k < 6 → 1 + wP (187 + k) = 40 ∧ wL (187 + k) = k by decide +kernel) k hk)
theorem wf_np {N : Nat → Int32} (h : WF N) : ∃ v, v ≤ 5 ∧ N 0 = nI v := h.1 0 (by omega) (by omega)
theorem wf_ns {N : Nat → Int32} (h : WF N) : ∃ v, v ≤ 16 ∧ N 1 = nI v := h.1 1 (by omega) (by omega)
theorem wf_fine {N : Nat → Int32} (h : WF N) : ∃ v, v ≤ 99 ∧ N 2 = nI v := h.1 2 (by omega) (by omega)
theorem wf_taxed {N : Nat → Int32} (h : WF N) : ∃ v, v ≤ 1 ∧ N 3 = nI v := h.1 3 (by omega) (by omega)
theorem wf_nb {N : Nat → Int32} (h : WF N) : ∃ v, v ≤ 6 ∧ N 4 = nI v := h.1 4 (by omega) (by omega)
theorem wf_gen {N : Nat → Int32} (h : WF N) {j B : Nat} (hj : j < 193) (hb : j < 117 ∨ 181 ≤ j) (e : ub j = B) : ∃ v, v ≤ B ∧ N j = nI v := by
  subst e
  exact h.1 j hj hb
theorem wf_purse {N : Nat → Int32} (h : WF N) {k : Nat} (hk : k < 5) : ∃ v, v ≤ 9999 ∧ N (5 + k) = nI v := wf_gen h (by omega) (by omega) ((show ∀ k, k < 5 → ub (5 + k) = 9999 by decide +kernel) k hk)
theorem wf_feet {N : Nat → Int32} (h : WF N) {k : Nat} (hk : k < 5) : ∃ v, v ≤ 2 ∧ N (10 + k) = nI v := wf_gen h (by omega) (by omega) ((show ∀ k, k < 5 → ub (10 + k) = 2 by decide +kernel) k hk)
theorem wf_own {N : Nat → Int32} (h : WF N) {k : Nat} (hk : k < 16) : ∃ v, v ≤ 4 ∧ N (15 + k) = nI v := wf_gen h (by omega) (by omega) ((show ∀ k, k < 16 → ub (15 + k) = 4 by decide +kernel) k hk)
theorem wf_foot {N : Nat → Int32} (h : WF N) {k : Nat} (hk : k < 16) : ∃ v, v ≤ 1 ∧ N (31 + k) = nI v := wf_gen h (by omega) (by omega) ((show ∀ k, k < 16 → ub (31 + k) = 1 by decide +kernel) k hk)
theorem wf_sort {N : Nat → Int32} (h : WF N) {k : Nat} (hk : k < 16) : ∃ v, v ≤ 3 ∧ N (47 + k) = nI v := wf_gen h (by omega) (by omega) ((show ∀ k, k < 16 → ub (47 + k) = 3 by decide +kernel) k hk)
theorem wf_soles {N : Nat → Int32} (h : WF N) {k : Nat} (hk : k < 16) : ∃ v, v ≤ 99 ∧ N (63 + k) = nI v := wf_gen h (by omega) (by omega) ((show ∀ k, k < 16 → ub (63 + k) = 99 by decide +kernel) k hk)
theorem wf_stamp {N : Nat → Int32} (h : WF N) {k : Nat} (hk : k < 16) : ∃ v, v ≤ 1 ∧ N (79 + k) = nI v := wf_gen h (by omega) (by omega) ((show ∀ k, k < 16 → ub (79 + k) = 1 by decide +kernel) k hk)
theorem wf_rate {N : Nat → Int32} (h : WF N) {k : Nat} (hk : k < 4) : ∃ v, v ≤ 9 ∧ N (95 + k) = nI v := wf_gen h (by omega) (by omega) ((show ∀ k, k < 4 → ub (95 + k) = 9 by decide +kernel) k hk)
theorem wf_mud {N : Nat → Int32} (h : WF N) {k : Nat} (hk : k < 9) : ∃ v, v ≤ 9 ∧ N (99 + k) = nI v := wf_gen h (by omega) (by omega) ((show ∀ k, k < 9 → ub (99 + k) = 9 by decide +kernel) k hk)
theorem wf_watch {N : Nat → Int32} (h : WF N) {k : Nat} (hk : k < 9) : ∃ v, v ≤ 16 ∧ N (108 + k) = nI v := wf_gen h (by omega) (by omega) ((show ∀ k, k < 9 → ub (108 + k) = 16 by decide +kernel) k hk)
theorem wf_wants {N : Nat → Int32} (h : WF N) {k : Nat} (hk : k < 6) : ∃ v, v ≤ 9 ∧ N (181 + k) = nI v := wf_gen h (by omega) (by omega) ((show ∀ k, k < 6 → ub (181 + k) = 9 by decide +kernel) k hk)
theorem wf_worth {N : Nat → Int32} (h : WF N) {k : Nat} (hk : k < 6) : ∃ v, v ≤ 99 ∧ N (187 + k) = nI v := wf_gen h (by omega) (by omega) ((show ∀ k, k < 6 → ub (187 + k) = 99 by decide +kernel) k hk)
theorem up_purse {c : Mm} {N : Nat → Int32} (h : WR c 1 N) {k : Nat} (hk : k < 5) (x : Int32) : WR (mm_up c 2 k x) 1 (upd N (5 + k) x) := by
  have e := (show ∀ k, k < 5 → 1 + wP (5 + k) = 2 ∧ wL (5 + k) = k by decide +kernel) k hk
  exact h.up (by omega) (by omega) e.1.symm e.2.symm x
theorem uf_purse {N : Nat → Int32} (h : WF N) {k v : Nat} (hk : k < 5) (hv : v ≤ 9999) : WF (upd N (5 + k) (nI v)) := h.up (by omega) (by omega) (by rw [(show ∀ k, k < 5 → ub (5 + k) = 9999 by decide +kernel) k hk]; exact hv)
theorem up_feet {c : Mm} {N : Nat → Int32} (h : WR c 1 N) {k : Nat} (hk : k < 5) (x : Int32) : WR (mm_up c 3 k x) 1 (upd N (10 + k) x) := by
  have e := (show ∀ k, k < 5 → 1 + wP (10 + k) = 3 ∧ wL (10 + k) = k by decide +kernel) k hk
  exact h.up (by omega) (by omega) e.1.symm e.2.symm x
theorem uf_feet {N : Nat → Int32} (h : WF N) {k v : Nat} (hk : k < 5) (hv : v ≤ 2) : WF (upd N (10 + k) (nI v)) := h.up (by omega) (by omega) (by rw [(show ∀ k, k < 5 → ub (10 + k) = 2 by decide +kernel) k hk]; exact hv)
theorem up_own {c : Mm} {N : Nat → Int32} (h : WR c 1 N) {k : Nat} (hk : k < 16) (x : Int32) : WR (mm_up c (5 + k) 3 x) 1 (upd N (15 + k) x) := by
  have e := (show ∀ k, k < 16 → 1 + wP (15 + k) = 5 + k ∧ wL (15 + k) = 3 by decide +kernel) k hk
  exact h.up (by omega) (by omega) e.1.symm e.2.symm x
theorem uf_own {N : Nat → Int32} (h : WF N) {k v : Nat} (hk : k < 16) (hv : v ≤ 4) : WF (upd N (15 + k) (nI v)) := h.up (by omega) (by omega) (by rw [(show ∀ k, k < 16 → ub (15 + k) = 4 by decide +kernel) k hk]; exact hv)
theorem up_foot {c : Mm} {N : Nat → Int32} (h : WR c 1 N) {k : Nat} (hk : k < 16) (x : Int32) : WR (mm_up c (5 + k) 0 x) 1 (upd N (31 + k) x) := by
  have e := (show ∀ k, k < 16 → 1 + wP (31 + k) = 5 + k ∧ wL (31 + k) = 0 by decide +kernel) k hk
  exact h.up (by omega) (by omega) e.1.symm e.2.symm x
theorem uf_foot {N : Nat → Int32} (h : WF N) {k v : Nat} (hk : k < 16) (hv : v ≤ 1) : WF (upd N (31 + k) (nI v)) := h.up (by omega) (by omega) (by rw [(show ∀ k, k < 16 → ub (31 + k) = 1 by decide +kernel) k hk]; exact hv)
theorem up_sort {c : Mm} {N : Nat → Int32} (h : WR c 1 N) {k : Nat} (hk : k < 16) (x : Int32) : WR (mm_up c (5 + k) 1 x) 1 (upd N (47 + k) x) := by
  have e := (show ∀ k, k < 16 → 1 + wP (47 + k) = 5 + k ∧ wL (47 + k) = 1 by decide +kernel) k hk
  exact h.up (by omega) (by omega) e.1.symm e.2.symm x
theorem uf_sort {N : Nat → Int32} (h : WF N) {k v : Nat} (hk : k < 16) (hv : v ≤ 3) : WF (upd N (47 + k) (nI v)) := h.up (by omega) (by omega) (by rw [(show ∀ k, k < 16 → ub (47 + k) = 3 by decide +kernel) k hk]; exact hv)
theorem up_soles {c : Mm} {N : Nat → Int32} (h : WR c 1 N) {k : Nat} (hk : k < 16) (x : Int32) : WR (mm_up c (5 + k) 2 x) 1 (upd N (63 + k) x) := by
  have e := (show ∀ k, k < 16 → 1 + wP (63 + k) = 5 + k ∧ wL (63 + k) = 2 by decide +kernel) k hk
  exact h.up (by omega) (by omega) e.1.symm e.2.symm x
theorem uf_soles {N : Nat → Int32} (h : WF N) {k v : Nat} (hk : k < 16) (hv : v ≤ 99) : WF (upd N (63 + k) (nI v)) := h.up (by omega) (by omega) (by rw [(show ∀ k, k < 16 → ub (63 + k) = 99 by decide +kernel) k hk]; exact hv)
theorem up_stamp {c : Mm} {N : Nat → Int32} (h : WR c 1 N) {k : Nat} (hk : k < 16) (x : Int32) : WR (mm_up c (5 + k) 4 x) 1 (upd N (79 + k) x) := by
  have e := (show ∀ k, k < 16 → 1 + wP (79 + k) = 5 + k ∧ wL (79 + k) = 4 by decide +kernel) k hk
  exact h.up (by omega) (by omega) e.1.symm e.2.symm x
theorem uf_stamp {N : Nat → Int32} (h : WF N) {k v : Nat} (hk : k < 16) (hv : v ≤ 1) : WF (upd N (79 + k) (nI v)) := h.up (by omega) (by omega) (by rw [(show ∀ k, k < 16 → ub (79 + k) = 1 by decide +kernel) k hk]; exact hv)
theorem up_rate {c : Mm} {N : Nat → Int32} (h : WR c 1 N) {k : Nat} (hk : k < 4) (x : Int32) : WR (mm_up c 22 k x) 1 (upd N (95 + k) x) := by
  have e := (show ∀ k, k < 4 → 1 + wP (95 + k) = 22 ∧ wL (95 + k) = k by decide +kernel) k hk
  exact h.up (by omega) (by omega) e.1.symm e.2.symm x
theorem uf_rate {N : Nat → Int32} (h : WF N) {k v : Nat} (hk : k < 4) (hv : v ≤ 9) : WF (upd N (95 + k) (nI v)) := h.up (by omega) (by omega) (by rw [(show ∀ k, k < 4 → ub (95 + k) = 9 by decide +kernel) k hk]; exact hv)
theorem up_mud {c : Mm} {N : Nat → Int32} (h : WR c 1 N) {k : Nat} (hk : k < 9) (x : Int32) : WR (mm_up c 24 k x) 1 (upd N (99 + k) x) := by
  have e := (show ∀ k, k < 9 → 1 + wP (99 + k) = 24 ∧ wL (99 + k) = k by decide +kernel) k hk
  exact h.up (by omega) (by omega) e.1.symm e.2.symm x
theorem uf_mud {N : Nat → Int32} (h : WF N) {k v : Nat} (hk : k < 9) (hv : v ≤ 9) : WF (upd N (99 + k) (nI v)) := h.up (by omega) (by omega) (by rw [(show ∀ k, k < 9 → ub (99 + k) = 9 by decide +kernel) k hk]; exact hv)
theorem up_watch {c : Mm} {N : Nat → Int32} (h : WR c 1 N) {k : Nat} (hk : k < 9) (x : Int32) : WR (mm_up c 25 k x) 1 (upd N (108 + k) x) := by
  have e := (show ∀ k, k < 9 → 1 + wP (108 + k) = 25 ∧ wL (108 + k) = k by decide +kernel) k hk
  exact h.up (by omega) (by omega) e.1.symm e.2.symm x
theorem uf_watch {N : Nat → Int32} (h : WF N) {k v : Nat} (hk : k < 9) (hv : v ≤ 16) : WF (upd N (108 + k) (nI v)) := h.up (by omega) (by omega) (by rw [(show ∀ k, k < 9 → ub (108 + k) = 16 by decide +kernel) k hk]; exact hv)
theorem up_wants {c : Mm} {N : Nat → Int32} (h : WR c 1 N) {k : Nat} (hk : k < 6) (x : Int32) : WR (mm_up c 39 k x) 1 (upd N (181 + k) x) := by
  have e := (show ∀ k, k < 6 → 1 + wP (181 + k) = 39 ∧ wL (181 + k) = k by decide +kernel) k hk
  exact h.up (by omega) (by omega) e.1.symm e.2.symm x
theorem uf_wants {N : Nat → Int32} (h : WF N) {k v : Nat} (hk : k < 6) (hv : v ≤ 9) : WF (upd N (181 + k) (nI v)) := h.up (by omega) (by omega) (by rw [(show ∀ k, k < 6 → ub (181 + k) = 9 by decide +kernel) k hk]; exact hv)
theorem up_worth {c : Mm} {N : Nat → Int32} (h : WR c 1 N) {k : Nat} (hk : k < 6) (x : Int32) : WR (mm_up c 40 k x) 1 (upd N (187 + k) x) := by
  have e := (show ∀ k, k < 6 → 1 + wP (187 + k) = 40 ∧ wL (187 + k) = k by decide +kernel) k hk
  exact h.up (by omega) (by omega) e.1.symm e.2.symm x
theorem uf_worth {N : Nat → Int32} (h : WF N) {k v : Nat} (hk : k < 6) (hv : v ≤ 99) : WF (upd N (187 + k) (nI v)) := h.up (by omega) (by omega) (by rw [(show ∀ k, k < 6 → ub (187 + k) = 99 by decide +kernel) k hk]; exact hv)
theorem up_np {c : Mm} {N : Nat → Int32} (h : WR c 1 N) (x : Int32) : WR (mm_up c 1 0 x) 1 (upd N 0 x) := h.up (j0 := 0) (by omega) (by omega) (by decide +kernel) (by decide +kernel) x
theorem uf_np {N : Nat → Int32} (h : WF N) {v : Nat} (hv : v ≤ 5) : WF (upd N 0 (nI v)) := h.up (j0 := 0) (by omega) (by omega) hv
theorem up_ns {c : Mm} {N : Nat → Int32} (h : WR c 1 N) (x : Int32) : WR (mm_up c 1 3 x) 1 (upd N 1 x) := h.up (j0 := 1) (by omega) (by omega) (by decide +kernel) (by decide +kernel) x
theorem uf_ns {N : Nat → Int32} (h : WF N) {v : Nat} (hv : v ≤ 16) : WF (upd N 1 (nI v)) := h.up (j0 := 1) (by omega) (by omega) hv
theorem up_fine {c : Mm} {N : Nat → Int32} (h : WR c 1 N) (x : Int32) : WR (mm_up c 21 1 x) 1 (upd N 2 x) := h.up (j0 := 2) (by omega) (by omega) (by decide +kernel) (by decide +kernel) x
theorem uf_fine {N : Nat → Int32} (h : WF N) {v : Nat} (hv : v ≤ 99) : WF (upd N 2 (nI v)) := h.up (j0 := 2) (by omega) (by omega) hv
theorem up_taxed {c : Mm} {N : Nat → Int32} (h : WR c 1 N) (x : Int32) : WR (mm_up c 21 2 x) 1 (upd N 3 x) := h.up (j0 := 3) (by omega) (by omega) (by decide +kernel) (by decide +kernel) x
theorem uf_taxed {N : Nat → Int32} (h : WF N) {v : Nat} (hv : v ≤ 1) : WF (upd N 3 (nI v)) := h.up (j0 := 3) (by omega) (by omega) hv
theorem up_nb {c : Mm} {N : Nat → Int32} (h : WR c 1 N) (x : Int32) : WR (mm_up c 38 2 x) 1 (upd N 4 x) := h.up (j0 := 4) (by omega) (by omega) (by decide +kernel) (by decide +kernel) x
theorem uf_nb {N : Nat → Int32} (h : WF N) {v : Nat} (hv : v ≤ 6) : WF (upd N 4 (nI v)) := h.up (j0 := 4) (by omega) (by omega) hv
theorem k_isPerson {c : Mm} {N : Nat → Int32} (h : WR c 1 N) (x : Int32) : f_X10_isPerson 1 x c = some (wi x 0 (N 0 - 1)) := by
  unfold f_X10_isPerson
  rw [wr_np h, isWithin_eq, op_v, og_wi]
theorem k_isShoe {c : Mm} {N : Nat → Int32} (h : WR c 1 N) (x : Int32) : f_X10_isShoe 1 x c = some (wi x 0 (N 1 - 1)) := by
  unfold f_X10_isShoe
  rw [wr_ns h, isWithin_eq, op_v, og_wi]
theorem m_isPerson (m : Mm) (x : Int32) : f_X12_isPerson x m = some (wi x 0 (m 1 0 - 1)) := by
  unfold f_X12_isPerson
  rw [in_0, op_v, og_wi]
  rfl
theorem m_isShoe (m : Mm) (x : Int32) : f_X12_isShoe x m = some (wi x 0 (m 1 1 - 1)) := by
  unfold f_X12_isShoe
  rw [in_0, op_v, og_wi]
  rfl
theorem k_isFoot (x : Int32) : f_X11_isFoot x = some (wi x 0 1) := by unfold f_X11_isFoot; rw [isWithin_eq, op_v, og_wi]
theorem k_isSort (x : Int32) : f_X11_isSort x = some (wi x 0 3) := by unfold f_X11_isSort; rw [isWithin_eq, op_v, og_wi]
theorem k_isMile (x : Int32) : f_X11_isMile x = some (wi x 0 8) := by unfold f_X11_isMile; rw [isWithin_eq, op_v, og_wi]
theorem k_isSheet (x : Int32) : f_X11_isSheet x = some (wi x 0 3) := by unfold f_X11_isSheet; rw [isWithin_eq, op_v, og_wi]
theorem k_isLane (x : Int32) : f_X11_isLane x = some (wi x 0 2) := by unfold f_X11_isLane; rw [isWithin_eq, op_v, og_wi]
/-! both go on: the same answer, and the relation again -/
def Sim (n : Nat) (X Y : Option (Int32 × Mm)) : Prop := ∃ r c' m', X = some (r, c') ∧ Y = some (r, m') ∧ Rel (n + 1) c' m'
def SimP (X Y : Option Int32) : Prop := ∃ r, X = some r ∧ Y = some r
theorem Sim.ret {n : Nat} {r r' : Int32} {c m : Mm} (e : r = r') (h : Rel (n + 1) c m) : Sim n (some (r, c)) (some (r', m)) := by
  subst e
  exact ⟨r, c, m, rfl, rfl, h⟩
theorem SimP.ret {r r' : Int32} (e : r = r') : SimP (some r) (some r') := by
  subst e
  exact ⟨r, rfl, rfl⟩
theorem sim_person {n : Nat} {c m : Mm} (h : Rel n c m) (x1 x2 : Int32) : Sim n (f_X11_person x1 x2 c) (f_X12_person x1 x2 m) := by
  have hW := h.1
  have hF := h.2.1
  unfold f_X11_person f_X12_person
  simp only [isWithin_eq, in_0_9999, in_0_2, op_v]
  by_cases h1 : wi x1 0 9999 = 0
  · rw [if_pos h1, if_pos h1]; exact Sim.ret rfl h.next
  rw [if_neg h1, if_neg h1]
  by_cases h2 : wi x2 0 2 = 0
  · rw [if_pos h2, if_pos h2]; exact Sim.ret rfl h.next
  rw [if_neg h2, if_neg h2]
  obtain ⟨j1, l1, rfl⟩ := wi_nz (b := 9999) (by omega) h1
  obtain ⟨j2, l2, rfl⟩ := wi_nz (b := 2) (by omega) h2
  obtain ⟨np, l3, e3⟩ := wf_np hF
  unfold f_X10_addPerson
  simp (disch := omega) only [op_v, ob_v, mv_v, mw_v, mr_v, og_t, fa_lit, nI_add, pk_mul, nI_ltI, nI_leI, nI_eq, nI_clamp, og_in, pk_sub, Nat.add_zero, Nat.zero_add, Nat.reduceAdd, Nat.reduceMul, Nat.reduceSub, mm_up_eq, mm_up_ne, upd_eq, upd_ne, wr_np hW, e3]
  by_cases h4 : np < 5
  · simp (disch := omega) only [op_v, ob_v, mv_v, mw_v, mr_v, og_t, fa_lit, nI_add, pk_mul, nI_ltI, nI_leI, nI_eq, nI_clamp, og_in, pk_sub, Nat.add_zero, Nat.zero_add, Nat.reduceAdd, Nat.reduceMul, Nat.reduceSub, mm_up_eq, mm_up_ne, upd_eq, upd_ne, wr_np hW, e3, if_pos h4, if_neg (show ¬ np = 5 by omega)]
    refine Sim.ret ?_ (h.now (fun a ha => ?_) (fun a ha => ?_) ?_ ?_)
    · rfl
    · simp (disch := omega) only [mm_up_eq, mm_up_ne, upd_eq, upd_ne]
    · simp (disch := omega) only [mm_up_eq, mm_up_ne, upd_eq, upd_ne]
    · simp (disch := omega) only [mm_up_eq, mm_up_ne, upd_eq, upd_ne]
      exact up_np (up_feet (up_purse hW h4 _) h4 _) _
    · simp (disch := omega) only [mm_up_eq, mm_up_ne, upd_eq, upd_ne]
      exact uf_np (uf_feet (uf_purse hF h4 l1) h4 l2) (by omega)
  · rw [if_neg h4, if_pos (show np = 5 by omega)]
    exact Sim.ret rfl h.next

theorem m_changed (m : Mm) {j : Nat} (hj : j < 193) (x : Int32) : f_X12_changed (nI j) x m = some (m 1 j, mm_up m 1 j x) := by
  unfold f_X12_changed
  simp (disch := omega) only [op_v, ob_v, mv_v, mw_v, mr_v, og_t, fa_lit, nI_add, pk_mul, nI_ltI, nI_leI, nI_eq, nI_clamp, og_in, pk_sub, Nat.add_zero, Nat.zero_add, Nat.reduceAdd, Nat.reduceMul, Nat.reduceSub]
theorem sim_shoe {n : Nat} {c m : Mm} (h : Rel n c m) (x1 x2 x3 x4 : Int32) : Sim n (f_X11_shoe x1 x2 x3 x4 c) (f_X12_shoe x1 x2 x3 x4 m) := by
  have hW := h.1
  have hF := h.2.1
  unfold f_X11_shoe f_X12_shoe
  simp only [k_isPerson hW, k_isFoot, k_isSort, isWithin_eq, m_isPerson, in_0_1, in_0_3, in_0_99, op_v]
  obtain ⟨np, l0, e0⟩ := wf_np hF
  rw [e0]
  by_cases h1 : wi x1 0 (nI np - 1) = 0
  · rw [if_pos h1, if_pos h1]; exact Sim.ret rfl h.next
  rw [if_neg h1, if_neg h1]
  by_cases h2 : wi x2 0 1 = 0
  · rw [if_pos h2, if_pos h2]; exact Sim.ret rfl h.next
  rw [if_neg h2, if_neg h2]
  by_cases h3 : wi x3 0 3 = 0
  · rw [if_pos h3, if_pos h3]; exact Sim.ret rfl h.next
  rw [if_neg h3, if_neg h3]
  by_cases h4 : wi x4 0 99 = 0
  · rw [if_pos h4, if_pos h4]; exact Sim.ret rfl h.next
  rw [if_neg h4, if_neg h4]
  obtain ⟨j1, l1, rfl⟩ := wi_pr (by omega) h1
  obtain ⟨j2, l2, rfl⟩ := wi_nz (b := 1) (by omega) h2
  obtain ⟨j3, l3, rfl⟩ := wi_nz (b := 3) (by omega) h3
  obtain ⟨j4, l4, rfl⟩ := wi_nz (b := 99) (by omega) h4
  obtain ⟨ns, l5, e5⟩ := wf_ns hF
  unfold f_X10_addShoe
  simp (disch := omega) only [op_v, ob_v, mv_v, mw_v, mr_v, og_t, fa_lit, nI_add, pk_mul, nI_ltI, nI_leI, nI_eq, nI_clamp, og_in, pk_sub, Nat.add_zero, Nat.zero_add, Nat.reduceAdd, Nat.reduceMul, Nat.reduceSub, mm_up_eq, mm_up_ne, upd_eq, upd_ne, wr_ns hW, e5]
  by_cases h5 : ns < 16
  · simp (disch := omega) only [op_v, ob_v, mv_v, mw_v, mr_v, og_t, fa_lit, nI_add, pk_mul, nI_ltI, nI_leI, nI_eq, nI_clamp, og_in, pk_sub, Nat.add_zero, Nat.zero_add, Nat.reduceAdd, Nat.reduceMul, Nat.reduceSub, mm_up_eq, mm_up_ne, upd_eq, upd_ne, wr_ns hW, e5, if_pos h5, if_neg (show ¬ ns = 16 by omega)]
    refine Sim.ret ?_ (h.now (fun a ha => ?_) (fun a ha => ?_) ?_ ?_)
    · rfl
    · simp (disch := omega) only [mm_up_eq, mm_up_ne, upd_eq, upd_ne]
    · simp (disch := omega) only [mm_up_eq, mm_up_ne, upd_eq, upd_ne]
    · simp (disch := omega) only [mm_up_eq, mm_up_ne, upd_eq, upd_ne]
      exact up_ns (up_stamp (up_soles (up_sort (up_foot (up_own hW h5 _) h5 _) h5 _) h5 _) h5 _) _
    · simp (disch := omega) only [mm_up_eq, mm_up_ne, upd_eq, upd_ne]
      exact uf_ns (uf_stamp (uf_soles (uf_sort (uf_foot (uf_own hF h5 (by omega)) h5 l2) h5 l3) h5 l4) h5 (Nat.zero_le _)) (by omega)
  · rw [if_neg h5, if_pos (show ns = 16 by omega)]
    exact Sim.ret rfl h.next
theorem sim_told {n : Nat} {c m : Mm} (h : Rel n c m) (x1 x2 : Int32) : SimP (f_X11_told x1 x2 c) (f_X12_told x1 x2 m) := by
  have hW := h.1
  have hF := h.2.1
  unfold f_X11_told f_X12_told f_X12_told_c63
  simp only [k_isShoe hW, m_isShoe, in_0_4, op_v]
  obtain ⟨ns, l0, e0⟩ := wf_ns hF
  rw [e0]
  by_cases h1 : wi x1 0 (nI ns - 1) = 0
  · rw [if_pos h1, if_pos h1]; exact SimP.ret rfl
  rw [if_neg h1, if_neg h1]
  obtain ⟨j1, l1, rfl⟩ := wi_pr (by omega) h1
  obtain ⟨v, lv, ev⟩ := wf_stamp hF (k := j1) (by omega)
  simp (disch := omega) only [og_in, nI_clamp, wr_foot hW, wr_sort hW, wr_soles hW, wr_own hW, wr_stamp hW]
  by_cases h2 : wi x2 0 4 = 0
  · rw [if_pos h2, if_neg (show ¬ x2 = 0 from wi_out (b := 4) h2 (by omega) 0 (by omega)), if_neg (show ¬ x2 = 1 from wi_out (b := 4) h2 (by omega) 1 (by omega)), if_neg (show ¬ x2 = 2 from wi_out (b := 4) h2 (by omega) 2 (by omega)), if_neg (show ¬ x2 = 3 from wi_out (b := 4) h2 (by omega) 3 (by omega)), if_neg (show ¬ x2 = 4 from wi_out (b := 4) h2 (by omega) 4 (by omega))]
    exact SimP.ret rfl
  rw [if_neg h2]
  obtain ⟨j2, l2, rfl⟩ := wi_nz (b := 4) (by omega) h2
  simp (disch := omega) only [op_v, ob_v, mv_v, mw_v, mr_v, og_t, fa_lit, nI_add, pk_mul, nI_ltI, nI_leI, nI_eq, nI_clamp, og_in, pk_sub, Nat.add_zero, Nat.zero_add, Nat.reduceAdd, Nat.reduceMul, Nat.reduceSub, ev]
  rcases (show j2 = 0 ∨ j2 = 1 ∨ j2 = 2 ∨ j2 = 3 ∨ j2 = 4 by omega) with rfl | rfl | rfl | rfl | rfl
  · exact SimP.ret rfl
  · exact SimP.ret rfl
  · exact SimP.ret rfl
  · rcases (show v = 0 ∨ v = 1 by omega) with rfl | rfl
    · exact SimP.ret rfl
    · exact SimP.ret rfl
  · exact SimP.ret rfl
theorem sim_stamp {n : Nat} {c m : Mm} (h : Rel n c m) (x1 x2 : Int32) (h01 : x2 = 0 ∨ x2 = 1) : Sim n (f_X11_stamp x1 x2 c) (f_X12_stamp x1 x2 m) := by
  have hW := h.1
  have hF := h.2.1
  unfold f_X11_stamp f_X12_stamp f_X12_stamp_c24 f_X11_stamp_c35
  simp only [k_isShoe hW, m_isShoe, op_v]
  obtain ⟨ns, l0, e0⟩ := wf_ns hF
  rw [e0]
  by_cases h1 : wi x1 0 (nI ns - 1) = 0
  · rw [if_pos h1, if_pos h1]; exact Sim.ret rfl h.next
  rw [if_neg h1, if_neg h1]
  obtain ⟨j1, l1, rfl⟩ := wi_pr (by omega) h1
  obtain ⟨v, lv, ev⟩ := wf_stamp hF (k := j1) (by omega)
  obtain ⟨j2, l2, rfl⟩ : ∃ j2, j2 ≤ 1 ∧ x2 = nI j2 := by
    rcases h01 with e | e
    · exact ⟨0, by omega, e⟩
    · exact ⟨1, by omega, e⟩
  have g01 : mm_01 (nI j2) = true := by
    rcases (show j2 = 0 ∨ j2 = 1 by omega) with rfl | rfl <;> decide
  simp (disch := omega) only [op_v, ob_v, mv_v, mw_v, mr_v, og_t, fa_lit, nI_add, pk_mul, nI_ltI, nI_leI, nI_eq, nI_clamp, og_in, pk_sub, Nat.add_zero, Nat.zero_add, Nat.reduceAdd, Nat.reduceMul, Nat.reduceSub, m_changed, wr_stamp hW, ev, g01]
  have key : ∀ (w : Nat), w ≤ 1 → Sim n (some (nI v, mm_up c (5 + j1) 4 (nI w))) (some (nI v, mm_up m 1 (79 + j1) (nI w))) := by
    intro w hw
    refine Sim.ret rfl (h.now (fun a ha => ?_) (fun a ha => ?_) ?_ ?_)
    · simp (disch := omega) only [mm_up_eq, mm_up_ne, upd_eq, upd_ne]
    · simp (disch := omega) only [mm_up_eq, mm_up_ne, upd_eq, upd_ne]
    · rw [mm_up_eq]
      exact up_stamp hW (by omega) _
    · rw [mm_up_eq]
      exact uf_stamp hF (by omega) hw
  rcases (show j2 = 0 ∨ j2 = 1 by omega) with rfl | rfl
  · rcases (show v = 0 ∨ v = 1 by omega) with rfl | rfl <;> exact key 0 (by omega)
  · rcases (show v = 0 ∨ v = 1 by omega) with rfl | rfl <;> exact key 1 (by omega)
theorem sim_give {n : Nat} {c m : Mm} (h : Rel n c m) (x1 x2 : Int32) : Sim n (f_X11_give x1 x2 c) (f_X12_give x1 x2 m) := by
  have hW := h.1
  have hF := h.2.1
  unfold f_X11_give f_X12_give
  simp only [k_isShoe hW, m_isShoe, k_isPerson hW, m_isPerson, op_v]
  obtain ⟨ns, l0, e0⟩ := wf_ns hF
  obtain ⟨np, l5, e5⟩ := wf_np hF
  rw [e0, e5]
  by_cases h1 : wi x1 0 (nI ns - 1) = 0
  · rw [if_pos h1, if_pos h1]; exact Sim.ret rfl h.next
  rw [if_neg h1, if_neg h1]
  by_cases h2 : wi x2 0 (nI np - 1) = 0
  · rw [if_pos h2, if_pos h2]; exact Sim.ret rfl h.next
  rw [if_neg h2, if_neg h2]
  obtain ⟨j1, l1, rfl⟩ := wi_pr (by omega) h1
  obtain ⟨j2, l2, rfl⟩ := wi_pr (by omega) h2
  simp (disch := omega) only [op_v, ob_v, mv_v, mw_v, mr_v, og_t, fa_lit, nI_add, pk_mul, nI_ltI, nI_leI, nI_eq, nI_clamp, og_in, pk_sub, Nat.add_zero, Nat.zero_add, Nat.reduceAdd, Nat.reduceMul, Nat.reduceSub, m_changed, wr_own hW]
  refine Sim.ret rfl (h.now (fun a ha => ?_) (fun a ha => ?_) ?_ ?_)
  · simp (disch := omega) only [mm_up_eq, mm_up_ne, upd_eq, upd_ne]
  · simp (disch := omega) only [mm_up_eq, mm_up_ne, upd_eq, upd_ne]
  · rw [mm_up_eq]
    exact up_own hW (by omega) _
  · rw [mm_up_eq]
    exact uf_own hF (by omega) (by omega)

theorem fu_lt {n : Nat} (h : n < 4000000) : n < FU := h
theorem wi_m1 (x : Int32) : wi x 0 (-1) = 0 := by
  unfold wi
  by_cases h : x < 0
  · rw [if_pos h]
  · rw [if_neg h, if_pos]
    rw [Int32.lt_iff_toInt_lt] at h ⊢
    have e1 : (0 : Int32).toInt = 0 := rfl
    have e2 : (-1 : Int32).toInt = -1 := by decide
    omega
/-- how many shoes for a foot are one's -/
def hasN (N : Nat → Int32) (x ft : Int32) : Nat → Nat
  | 0 => 0
  | k + 1 => hasN N x ft k + (if N (15 + k) = x ∧ N (31 + k) = ft then 1 else 0)
theorem hasN_le (N : Nat → Int32) (x ft : Int32) : ∀ k, hasN N x ft k ≤ k
  | 0 => Nat.le_refl 0
  | k + 1 => by
    have := hasN_le N x ft k
    unfold hasN
    split <;> omega
theorem k_shoesOf_c5 {c : Mm} {N : Nat → Int32} (hW : WR c 1 N) {ns : Nat} (hns : ns ≤ 16) (ens : N 1 = nI ns) (x ft : Int32) : ∀ (d i f : Nat), i + d = ns → d < f → f_X10_shoesOf_c5 1 x ft f (nI (hasN N x ft i)) (nI i) c = some (nI (hasN N x ft ns)) := by
  intro d
  induction d with
  | zero =>
    intro i f hi hf
    obtain ⟨f, rfl⟩ := Nat.exists_eq_succ_of_ne_zero (show f ≠ 0 by omega)
    rw [f_X10_shoesOf_c5]
    have e : i = ns := by omega
    subst e
    simp (disch := omega) only [op_v, ob_v, mv_v, mw_v, mr_v, og_t, fa_lit, nI_add, pk_mul, nI_ltI, nI_leI, nI_eq, nI_clamp, og_in, pk_sub, Nat.add_zero, Nat.zero_add, Nat.reduceAdd, Nat.reduceMul, Nat.reduceSub, wr_ns hW, ens, Nat.le_refl, if_true]
  | succ d ih =>
    intro i f hi hf
    obtain ⟨f, rfl⟩ := Nat.exists_eq_succ_of_ne_zero (show f ≠ 0 by omega)
    rw [f_X10_shoesOf_c5]
    have := hasN_le N x ft i
    simp (disch := omega) only [op_v, ob_v, mv_v, mw_v, mr_v, og_t, fa_lit, nI_add, pk_mul, nI_ltI, nI_leI, nI_eq, nI_clamp, og_in, pk_sub, Nat.add_zero, Nat.zero_add, Nat.reduceAdd, Nat.reduceMul, Nat.reduceSub, wr_ns hW, ens, if_neg (show ¬ ns ≤ i by omega), wr_own hW, wr_foot hW]
    have ih := ih (i + 1) f (by omega) (by omega)
    rw [hasN] at ih
    by_cases h1 : N (15 + i) = x
    · rw [if_pos h1]
      by_cases h2 : N (31 + i) = ft
      · rw [if_pos ⟨h1, h2⟩] at ih
        rw [if_pos h2]
        exact ih
      · rw [if_neg (fun q => h2 q.2)] at ih
        rw [if_neg h2]
        exact ih
    · rw [if_neg (fun q => h1 q.1)] at ih
      rw [if_neg h1]
      exact ih
theorem k_shoesOf {c : Mm} {N : Nat → Int32} (hW : WR c 1 N) {ns : Nat} (hns : ns ≤ 16) (ens : N 1 = nI ns) (x ft : Int32) : f_X10_shoesOf 1 x ft c = some (nI (hasN N x ft ns)) := k_shoesOf_c5 hW hns ens x ft ns 0 FU (by omega) (fu_lt (by omega))
theorem m_has_c5 {m : Mm} {ns : Nat} (hns : ns ≤ 16) (ens : m 1 1 = nI ns) (x ft : Int32) : ∀ (d i f : Nat), i + d = ns → d < f → f_X12_has_c5 x ft f (nI (hasN (m 1) x ft i)) (nI i) m = some (nI (hasN (m 1) x ft ns)) := by
  intro d
  induction d with
  | zero =>
    intro i f hi hf
    obtain ⟨f, rfl⟩ := Nat.exists_eq_succ_of_ne_zero (show f ≠ 0 by omega)
    rw [f_X12_has_c5]
    have e : i = ns := by omega
    subst e
    simp (disch := omega) only [op_v, ob_v, mv_v, mw_v, mr_v, og_t, fa_lit, nI_add, pk_mul, nI_ltI, nI_leI, nI_eq, nI_clamp, og_in, pk_sub, Nat.add_zero, Nat.zero_add, Nat.reduceAdd, Nat.reduceMul, Nat.reduceSub, ens, Nat.le_refl, if_true]
  | succ d ih =>
    intro i f hi hf
    obtain ⟨f, rfl⟩ := Nat.exists_eq_succ_of_ne_zero (show f ≠ 0 by omega)
    rw [f_X12_has_c5]
    have := hasN_le (m 1) x ft i
    simp (disch := omega) only [op_v, ob_v, mv_v, mw_v, mr_v, og_t, fa_lit, nI_add, pk_mul, nI_ltI, nI_leI, nI_eq, nI_clamp, og_in, pk_sub, Nat.add_zero, Nat.zero_add, Nat.reduceAdd, Nat.reduceMul, Nat.reduceSub, ens, if_neg (show ¬ ns ≤ i by omega)]
    have ih := ih (i + 1) f (by omega) (by omega)
    rw [hasN] at ih
    by_cases h1 : m 1 (15 + i) = x
    · rw [if_pos h1]
      by_cases h2 : m 1 (31 + i) = ft
      · rw [if_pos ⟨h1, h2⟩] at ih
        rw [if_pos h2]
        exact ih
      · rw [if_neg (fun q => h2 q.2)] at ih
        rw [if_neg h2]
        exact ih
    · rw [if_neg (fun q => h1 q.1)] at ih
      rw [if_neg h1]
      exact ih
theorem m_has {m : Mm} {ns : Nat} (hns : ns ≤ 16) (ens : m 1 1 = nI ns) (x ft : Int32) : f_X12_has x ft m = some (nI (hasN (m 1) x ft ns)) := m_has_c5 hns ens x ft ns 0 FU (by omega) (fu_lt (by omega))
theorem sim_of {n : Nat} {c m : Mm} (h : Rel n c m) (x1 x2 : Int32) : SimP (f_X11_of x1 x2 c) (f_X12_of x1 x2 m) := by
  have hW := h.1
  have hF := h.2.1
  obtain ⟨np, l0, e0⟩ := wf_np hF
  obtain ⟨ns, l1, e1⟩ := wf_ns hF
  unfold f_X11_of f_X12_of
  simp only [k_isPerson hW, m_isPerson, in_0_3, op_v, k_shoesOf hW l1 e1, m_has l1 e1, e0]
  by_cases h1 : wi x1 0 (nI np - 1) = 0
  · rw [if_pos h1, if_pos h1]; exact SimP.ret rfl
  rw [if_neg h1, if_neg h1]
  obtain ⟨j1, l1, rfl⟩ := wi_pr (by omega) h1
  by_cases h2 : wi x2 0 3 = 0
  · rw [if_pos h2, if_neg (show ¬ x2 = 0 from wi_out (b := 3) h2 (by omega) 0 (by omega)), if_neg (show ¬ x2 = 1 from wi_out (b := 3) h2 (by omega) 1 (by omega)), if_neg (show ¬ x2 = 2 from wi_out (b := 3) h2 (by omega) 2 (by omega)), if_neg (show ¬ x2 = 3 from wi_out (b := 3) h2 (by omega) 3 (by omega))]
    exact SimP.ret rfl
  rw [if_neg h2]
  obtain ⟨j2, l2, rfl⟩ := wi_nz (b := 3) (by omega) h2
  simp (disch := omega) only [op_v, ob_v, mv_v, mw_v, mr_v, og_t, fa_lit, nI_add, pk_mul, nI_ltI, nI_leI, nI_eq, nI_clamp, og_in, pk_sub, Nat.add_zero, Nat.zero_add, Nat.reduceAdd, Nat.reduceMul, Nat.reduceSub, wr_purse hW, wr_feet hW]
  rcases (show j2 = 0 ∨ j2 = 1 ∨ j2 = 2 ∨ j2 = 3 by omega) with rfl | rfl | rfl | rfl
  · exact SimP.ret rfl
  · exact SimP.ret rfl
  · exact SimP.ret rfl
  · exact SimP.ret rfl
theorem sim_tax {n : Nat} {c m : Mm} (h : Rel n c m) (x1 x2 : Int32) : Sim n (f_X11_tax x1 x2 c) (f_X12_tax x1 x2 m) := by
  have hW := h.1
  have hF := h.2.1
  unfold f_X11_tax f_X12_tax f_X12_tax_c37 f_X12_tax_c74
  simp only [k_isSort, k_isFoot, isWithin_eq, in_0_3, in_0, op_v]
  by_cases h1 : wi x1 0 3 = 0
  · rw [if_pos h1, if_pos h1]
    by_cases h4 : x1 = 4
    · simp only [if_pos h4]
      by_cases h2 : wi x2 0 99 = 0
      · rw [if_pos h2, if_pos h2]; exact Sim.ret rfl h.next
      rw [if_neg h2, if_neg h2]
      obtain ⟨j2, l2, rfl⟩ := wi_nz (b := 99) (by omega) h2
      unfold f_X7_setFine
      rw [show f_X12_changed 2 (nI j2) m = some (m 1 2, mm_up m 1 2 (nI j2)) from m_changed m (j := 2) (by omega) _]
      simp only [op_v, ob_v, mv_v, mw_v, mr_v, og_t]
      refine Sim.ret (wr_fine hW) (h.now (fun a ha => ?_) (fun a ha => ?_) ?_ ?_)
      · simp (disch := omega) only [mm_up_eq, mm_up_ne, upd_eq, upd_ne]
      · simp (disch := omega) only [mm_up_eq, mm_up_ne, upd_eq, upd_ne]
      · rw [mm_up_eq]
        exact up_fine hW _
      · rw [mm_up_eq]
        exact uf_fine hF l2
    · simp only [if_neg h4]
      by_cases h5 : x1 = 5
      · simp only [if_pos h5]
        by_cases h2 : wi x2 0 1 = 0
        · rw [if_pos h2, if_pos h2]; exact Sim.ret rfl h.next
        rw [if_neg h2, if_neg h2]
        obtain ⟨j2, l2, rfl⟩ := wi_nz (b := 1) (by omega) h2
        unfold f_X7_setFoot
        rw [show f_X12_changed 3 (nI j2) m = some (m 1 3, mm_up m 1 3 (nI j2)) from m_changed m (j := 3) (by omega) _]
        simp only [op_v, ob_v, mv_v, mw_v, mr_v, og_t]
        refine Sim.ret (wr_taxed hW) (h.now (fun a ha => ?_) (fun a ha => ?_) ?_ ?_)
        · simp (disch := omega) only [mm_up_eq, mm_up_ne, upd_eq, upd_ne]
        · simp (disch := omega) only [mm_up_eq, mm_up_ne, upd_eq, upd_ne]
        · rw [mm_up_eq]
          exact up_taxed hW _
        · rw [mm_up_eq]
          exact uf_taxed hF l2
      · simp only [if_neg h5, wi_m1, if_true]
        exact Sim.ret rfl h.next
  · rw [if_neg h1, if_neg h1]
    by_cases h2 : wi x2 0 9 = 0
    · rw [if_pos h2, if_pos h2]; exact Sim.ret rfl h.next
    rw [if_neg h2, if_neg h2]
    obtain ⟨j1, l1, rfl⟩ := wi_nz (b := 3) (by omega) h1
    obtain ⟨j2, l2, rfl⟩ := wi_nz (b := 9) (by omega) h2
    unfold f_X7_setRate
    simp (disch := omega) only [op_v, ob_v, mv_v, mw_v, mr_v, og_t, fa_lit, nI_add, pk_mul, nI_ltI, nI_leI, nI_eq, nI_clamp, og_in, pk_sub, Nat.add_zero, Nat.zero_add, Nat.reduceAdd, Nat.reduceMul, Nat.reduceSub, m_changed, wr_rate hW, if_neg (show ¬ j1 = 4 by omega), if_neg (show ¬ j1 = 5 by omega)]
    refine Sim.ret rfl (h.now (fun a ha => ?_) (fun a ha => ?_) ?_ ?_)
    · simp (disch := omega) only [mm_up_eq, mm_up_ne, upd_eq, upd_ne]
    · simp (disch := omega) only [mm_up_eq, mm_up_ne, upd_eq, upd_ne]
    · rw [mm_up_eq]
      exact up_rate hW (by omega) _
    · rw [mm_up_eq]
      exact uf_rate hF (by omega) l2
theorem sim_road {n : Nat} {c m : Mm} (h : Rel n c m) (x1 x2 x3 : Int32) : Sim n (f_X11_road x1 x2 x3 c) (f_X12_road x1 x2 x3 m) := by
  have hW := h.1
  have hF := h.2.1
  unfold f_X11_road f_X12_road f_X12_road_c20 f_X12_road_c60
  simp only [k_isMile, isWithin_eq, in_0_8, in_0, op_v]
  by_cases h1 : wi x1 0 8 = 0
  · rw [if_pos h1, if_pos h1, if_pos h1, if_pos h1]
    by_cases h2 : x2 = 0
    · rw [if_pos h2]; exact Sim.ret rfl h.next
    · rw [if_neg h2]
      by_cases h3 : x2 = 1
      · rw [if_pos h3]; exact Sim.ret rfl h.next
      · rw [if_neg h3]; exact Sim.ret rfl h.next
  rw [if_neg h1, if_neg h1, if_neg h1, if_neg h1]
  obtain ⟨j1, l1, rfl⟩ := wi_nz (b := 8) (by omega) h1
  by_cases h2 : x2 = 0
  · simp only [if_pos h2]
    by_cases h3 : wi x3 0 9 = 0
    · rw [if_pos h3, if_pos h3]; exact Sim.ret rfl h.next
    rw [if_neg h3, if_neg h3]
    obtain ⟨j2, l2, rfl⟩ := wi_nz (b := 9) (by omega) h3
    unfold f_X3_setMud
    simp (disch := omega) only [op_v, ob_v, mv_v, mw_v, mr_v, og_t, fa_lit, nI_add, pk_mul, nI_ltI, nI_leI, nI_eq, nI_clamp, og_in, pk_sub, Nat.add_zero, Nat.zero_add, Nat.reduceAdd, Nat.reduceMul, Nat.reduceSub, m_changed, wr_mud hW]
    refine Sim.ret rfl (h.now (fun a ha => ?_) (fun a ha => ?_) ?_ ?_)
    · simp (disch := omega) only [mm_up_eq, mm_up_ne, upd_eq, upd_ne]
    · simp (disch := omega) only [mm_up_eq, mm_up_ne, upd_eq, upd_ne]
    · rw [mm_up_eq]
      exact up_mud hW (by omega) _
    · rw [mm_up_eq]
      exact uf_mud hF (by omega) l2
  simp only [if_neg h2]
  by_cases h4 : x2 = 1
  · simp only [if_pos h4]
    by_cases h3 : wi x3 0 16 = 0
    · rw [if_pos h3, if_pos h3]; exact Sim.ret rfl h.next
    rw [if_neg h3, if_neg h3]
    obtain ⟨j2, l2, rfl⟩ := wi_nz (b := 16) (by omega) h3
    unfold f_X3_setWatched
    simp (disch := omega) only [op_v, ob_v, mv_v, mw_v, mr_v, og_t, fa_lit, nI_add, pk_mul, nI_ltI, nI_leI, nI_eq, nI_clamp, og_in, pk_sub, Nat.add_zero, Nat.zero_add, Nat.reduceAdd, Nat.reduceMul, Nat.reduceSub, m_changed, wr_watch hW]
    refine Sim.ret rfl (h.now (fun a ha => ?_) (fun a ha => ?_) ?_ ?_)
    · simp (disch := omega) only [mm_up_eq, mm_up_ne, upd_eq, upd_ne]
    · simp (disch := omega) only [mm_up_eq, mm_up_ne, upd_eq, upd_ne]
    · rw [mm_up_eq]
      exact up_watch hW (by omega) _
    · rw [mm_up_eq]
      exact uf_watch hF (by omega) l2
  · simp only [if_neg h4, wi_m1, if_true]
    exact Sim.ret rfl h.next
theorem wi_1 {x : Int32} {b : Nat} (hb : b < 2 ^ 31) (h : ¬ wi x 1 (nI b) = 0) : ∃ j, 1 ≤ j ∧ j ≤ b ∧ x = nI j := by
  have h0 : ¬ wi x 0 (nI b) = 0 := by
    intro q
    apply h
    unfold wi at q ⊢
    split at q
    · rename_i h1
      rw [if_pos]
      rw [Int32.lt_iff_toInt_lt] at h1 ⊢
      have e1 : (0 : Int32).toInt = 0 := rfl
      have e2 : (1 : Int32).toInt = 1 := rfl
      omega
    · split at q
      · rename_i h1 h2
        rw [if_pos h2]
        split <;> rfl
      · exact absurd q (by decide)
  obtain ⟨j, l, rfl⟩ := wi_nz hb h0
  refine ⟨j, ?_, l, rfl⟩
  rcases Nat.eq_zero_or_pos j with e | e
  · subst e
    exact absurd (show wi (nI 0) 1 (nI b) = 0 from if_pos (by decide)) h
  · exact e
theorem sim_buyer {n : Nat} {c m : Mm} (h : Rel n c m) (x1 x2 : Int32) : Sim n (f_X11_buyer x1 x2 c) (f_X12_buyer x1 x2 m) := by
  have hW := h.1
  have hF := h.2.1
  unfold f_X11_buyer f_X12_buyer
  simp only [isWithin_eq, in_1_9, in_1_99, op_v]
  by_cases h1 : wi x1 1 9 = 0
  · rw [if_pos h1, if_pos h1]; exact Sim.ret rfl h.next
  rw [if_neg h1, if_neg h1]
  by_cases h2 : wi x2 1 99 = 0
  · rw [if_pos h2, if_pos h2]; exact Sim.ret rfl h.next
  rw [if_neg h2, if_neg h2]
  obtain ⟨j1, -, l1, rfl⟩ := wi_1 (b := 9) (by omega) h1
  obtain ⟨j2, -, l2, rfl⟩ := wi_1 (b := 99) (by omega) h2
  obtain ⟨nb, l3, e3⟩ := wf_nb hF
  unfold f_X1_add
  simp (disch := omega) only [op_v, ob_v, mv_v, mw_v, mr_v, og_t, fa_lit, nI_add, pk_mul, nI_ltI, nI_leI, nI_eq, nI_clamp, og_in, pk_sub, Nat.add_zero, Nat.zero_add, Nat.reduceAdd, Nat.reduceMul, Nat.reduceSub, mm_up_eq, mm_up_ne, upd_eq, upd_ne, wr_nb hW, e3]
  by_cases h4 : nb < 6
  · simp (disch := omega) only [op_v, ob_v, mv_v, mw_v, mr_v, og_t, fa_lit, nI_add, pk_mul, nI_ltI, nI_leI, nI_eq, nI_clamp, og_in, pk_sub, Nat.add_zero, Nat.zero_add, Nat.reduceAdd, Nat.reduceMul, Nat.reduceSub, mm_up_eq, mm_up_ne, upd_eq, upd_ne, wr_nb hW, e3, if_pos h4, if_neg (show ¬ nb = 6 by omega)]
    refine Sim.ret ?_ (h.now (fun a ha => ?_) (fun a ha => ?_) ?_ ?_)
    · rfl
    · simp (disch := omega) only [mm_up_eq, mm_up_ne, upd_eq, upd_ne]
    · simp (disch := omega) only [mm_up_eq, mm_up_ne, upd_eq, upd_ne]
    · simp (disch := omega) only [mm_up_eq, mm_up_ne, upd_eq, upd_ne]
      exact up_nb (up_worth (up_wants hW h4 _) h4 _) _
    · simp (disch := omega) only [mm_up_eq, mm_up_ne, upd_eq, upd_ne]
      exact uf_nb (uf_worth (uf_wants hF h4 l1) h4 l2) (by omega)
  · rw [if_neg h4, if_pos (show nb = 6 by omega)]
    exact Sim.ret rfl h.next
theorem sim_fair {n : Nat} {c m : Mm} (h : Rel n c m) : Sim n (f_X11_fair c) (f_X12_fair m) := by
  have hW := h.1
  have hF := h.2.1
  unfold f_X11_fair f_X12_fair
  rw [show f_X12_changed 4 0 m = some (m 1 4, mm_up m 1 4 (nI 0)) from m_changed m (j := 4) (by omega) _]
  simp only [op_v, ob_v, mv_v, mw_v, mr_v, og_t]
  refine Sim.ret (wr_nb hW) (h.now (fun a ha => ?_) (fun a ha => ?_) ?_ ?_)
  · simp (disch := omega) only [mm_up_eq, mm_up_ne, upd_eq, upd_ne]
  · simp (disch := omega) only [mm_up_eq, mm_up_ne, upd_eq, upd_ne]
  · rw [mm_up_eq]
    exact up_nb hW _
  · rw [mm_up_eq]
    exact uf_nb hF (Nat.zero_le _)
