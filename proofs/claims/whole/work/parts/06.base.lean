/-! THE PURE PART: what the translated methods answer -/
theorem op_v {α β : Type} (v : α) (k : α → Option β) : op (some v) k = k v := rfl
theorem ob_v {α β : Type} (v : α) (g : Mm) (k : α → Mm → Option β) : ob (some (v, g)) k = k v g := rfl
theorem mv_v {α β : Type} (v : α) (k : α → Option β) : mv v k = k v := rfl
theorem mw_v {β : Type} (g : Mm) (a b : Nat) (x : Int32) (k : Mm → Option β) : mw g a b x k = k (mm_up g a b x) := rfl
theorem mr_v {β : Type} (g : Mm) (a : Nat) (f : Nat → Int32) (k : Mm → Option β) : mr g a f k = k (mm_row g a f) := rfl
theorem og_t {α : Type} (x : Option α) : og true x = x := rfl
theorem fa_lit (n : Nat) : (OfNat.ofNat n : Int32) = nI n := rfl
theorem mm_in_nI {j N : Nat} (h : j < 2 ^ 31) : mm_in (nI j) N = decide (j < N) := by
  unfold mm_in
  rw [nI_clamp h, decide_eq_true (nI_pos h), Bool.true_and]
theorem og_in {α : Type} {j N : Nat} (x : Option α) (h : j < N) (hN : N < 2 ^ 31) : og (mm_in (nI j) N) x = x := by
  rw [mm_in_nI (by omega), decide_eq_true h]
  rfl
theorem mm_up_eq (g : Mm) (k j : Nat) (x : Int32) : mm_up g k j x k = upd (g k) j x := mm_row_at _ _ _
theorem mm_up_ne (g : Mm) {k a : Nat} (j : Nat) (x : Int32) (h : a ≠ k) : mm_up g k j x a = g a := mm_row_ne _ _ h
theorem upd_eq (f : Nat → Int32) (j : Nat) (x : Int32) : upd f j x j = x := if_pos rfl
theorem upd_ne (f : Nat → Int32) {j b : Nat} (x : Int32) (h : b ≠ j) : upd f j x b = f b := if_neg h
/-- within bounds: 1, or 0 -/
def wi (x a b : Int32) : Int32 := if x < a then 0 else if b < x then 0 else 1
theorem isWithin_eq (x a b : Int32) : f_X11_isWithin x a b = some (wi x a b) := by
  unfold f_X11_isWithin wi
  split
  · rfl
  · split <;> rfl

theorem wide_lt (a b : Int32) : a.toInt64 < b.toInt64 ↔ a < b := by rw [Int64.lt_iff_toInt_lt, Int32.lt_iff_toInt_lt, Int32.toInt_toInt64, Int32.toInt_toInt64]
theorem in_eq (x a b : Int32) {A B : Int64} (hA : A = a.toInt64) (hB : B = b.toInt64) : f_X12_in x.toInt64 A B = some (wi x a b) := by
  subst hA
  subst hB
  unfold f_X12_in wi
  simp only [lg_cmp_lt, lg_cmp_gt, wide_lt]
  split
  · rfl
  · split <;> rfl
theorem in_0 (x b : Int32) : f_X12_in x.toInt64 0 b.toInt64 = some (wi x 0 b) := in_eq x 0 b (by decide) rfl
theorem in_0_1 (x : Int32) : f_X12_in x.toInt64 0 1 = some (wi x 0 1) := in_eq x 0 1 (by decide) (by decide)
theorem in_0_2 (x : Int32) : f_X12_in x.toInt64 0 2 = some (wi x 0 2) := in_eq x 0 2 (by decide) (by decide)
theorem in_0_3 (x : Int32) : f_X12_in x.toInt64 0 3 = some (wi x 0 3) := in_eq x 0 3 (by decide) (by decide)
theorem in_0_4 (x : Int32) : f_X12_in x.toInt64 0 4 = some (wi x 0 4) := in_eq x 0 4 (by decide) (by decide)
theorem in_0_5 (x : Int32) : f_X12_in x.toInt64 0 5 = some (wi x 0 5) := in_eq x 0 5 (by decide) (by decide)
theorem in_0_7 (x : Int32) : f_X12_in x.toInt64 0 7 = some (wi x 0 7) := in_eq x 0 7 (by decide) (by decide)
theorem in_0_8 (x : Int32) : f_X12_in x.toInt64 0 8 = some (wi x 0 8) := in_eq x 0 8 (by decide) (by decide)
theorem in_0_9 (x : Int32) : f_X12_in x.toInt64 0 9 = some (wi x 0 9) := in_eq x 0 9 (by decide) (by decide)
theorem in_0_60 (x : Int32) : f_X12_in x.toInt64 0 60 = some (wi x 0 60) := in_eq x 0 60 (by decide) (by decide)
theorem in_0_99 (x : Int32) : f_X12_in x.toInt64 0 99 = some (wi x 0 99) := in_eq x 0 99 (by decide) (by decide)
theorem in_0_9999 (x : Int32) : f_X12_in x.toInt64 0 9999 = some (wi x 0 9999) := in_eq x 0 9999 (by decide) (by decide)
theorem in_1_8 (x : Int32) : f_X12_in x.toInt64 1 8 = some (wi x 1 8) := in_eq x 1 8 (by decide) (by decide)
theorem in_1_9 (x : Int32) : f_X12_in x.toInt64 1 9 = some (wi x 1 9) := in_eq x 1 9 (by decide) (by decide)
theorem in_1_12 (x : Int32) : f_X12_in x.toInt64 1 12 = some (wi x 1 12) := in_eq x 1 12 (by decide) (by decide)
theorem in_1_99 (x : Int32) : f_X12_in x.toInt64 1 99 = some (wi x 1 99) := in_eq x 1 99 (by decide) (by decide)
theorem in_1_999 (x : Int32) : f_X12_in x.toInt64 1 999 = some (wi x 1 999) := in_eq x 1 999 (by decide) (by decide)
theorem in_m1_15 (x : Int32) : f_X12_in x.toInt64 (-1) 15 = some (wi x (-1) 15) := in_eq x (-1) 15 (by decide) (by decide)
theorem in_m2_8 (x : Int32) : f_X12_in x.toInt64 (-2) 8 = some (wi x (-2) 8) := in_eq x (-2) 8 (by decide) (by decide)
theorem in_48_57 (x : Int32) : f_X12_in x.toInt64 48 57 = some (wi x 48 57) := in_eq x 48 57 (by decide) (by decide)
theorem wi_01 (x a b : Int32) : mm_01 (wi x a b) = true := by
  unfold wi
  split
  · decide
  · split <;> decide
theorem og_wi {α : Type} (x a b : Int32) (y : Option α) : og (mm_01 (wi x a b)) y = y := by rw [wi_01]; rfl
/-- in range: it is a small number -/
theorem wi_nz {x : Int32} {b : Nat} (hb : b < 2 ^ 31) (h : ¬ wi x 0 (nI b) = 0) : ∃ j, j ≤ b ∧ x = nI j := by
  unfold wi at h
  split at h
  · exact absurd rfl h
  · rename_i h1
    split at h
    · exact absurd rfl h
    · rename_i h2
      exact nI_of2 (nI_toInt hb) h1 (by rw [Int32.le_iff_toInt_le]; rw [Int32.lt_iff_toInt_lt] at h2; omega)
theorem wi_pr {x : Int32} {n : Nat} (hn : n < 2 ^ 31) (h : ¬ wi x 0 (nI n - 1) = 0) : ∃ j, j < n ∧ x = nI j := by
  cases n with
  | zero =>
    exfalso
    unfold wi at h
    split at h
    · exact h rfl
    · rename_i h1
      split at h
      · exact h rfl
      · rename_i h2
        rw [Int32.lt_iff_toInt_lt] at h1 h2
        have e1 : (0 : Int32).toInt = 0 := rfl
        have e2 : (nI 0 - 1).toInt = -1 := by decide
        omega
  | succ n =>
    rw [nI_pred] at h
    obtain ⟨j, h1, h2⟩ := wi_nz (by omega) h
    exact ⟨j, by omega, h2⟩
theorem wi_in {j b : Nat} (hb : b < 2 ^ 31) (h : j ≤ b) : wi (nI j) 0 (nI b) = 1 := by
  unfold wi
  rw [if_neg (nI_pos (by omega)), if_neg (nI_nlt h hb)]
theorem wi_out {x : Int32} {b : Nat} (h : wi x 0 (nI b) = 0) (hb : b < 2 ^ 31) : ∀ j, j ≤ b → ¬ x = nI j := by
  intro j hj e
  subst e
  rw [wi_in hb hj] at h
  revert h
  decide
/-! where the model's row of numbers lies in a world -/
def wP (j : Nat) : Nat := if j < 2 then 0 else if j < 4 then 20 else if j < 5 then 37 else if j < 10 then 1 else if j < 15 then 2 else if j < 31 then 4 + (j - 15) else if j < 47 then 4 + (j - 31) else if j < 63 then 4 + (j - 47) else if j < 79 then 4 + (j - 63) else if j < 95 then 4 + (j - 79) else if j < 99 then 21 else if j < 108 then 23 else if j < 117 then 24 else if j < 181 then 27 + min ((j - 117) / 8) ((j - 117) % 8) else if j < 187 then 38 else 39
def wL (j : Nat) : Nat := if j < 1 then 0 else if j < 2 then 3 else if j < 3 then 1 else if j < 5 then 2 else if j < 10 then j - 5 else if j < 15 then j - 10 else if j < 31 then 3 else if j < 47 then 0 else if j < 63 then 1 else if j < 79 then 2 else if j < 95 then 4 else if j < 99 then j - 95 else if j < 108 then j - 99 else if j < 117 then j - 108 else if j < 181 then max ((j - 117) / 8) ((j - 117) % 8) else if j < 187 then j - 181 else j - 187
def ub (j : Nat) : Nat := if j < 1 then 5 else if j < 2 then 16 else if j < 3 then 99 else if j < 4 then 1 else if j < 5 then 6 else if j < 10 then 9999 else if j < 15 then 2 else if j < 31 then 4 else if j < 47 then 1 else if j < 63 then 3 else if j < 79 then 99 else if j < 95 then 1 else if j < 99 then 9 else if j < 108 then 9 else if j < 117 then 16 else if j < 187 then 9 else 99
def WR (c : Mm) (p : Nat) (N : Nat → Int32) : Prop := ∀ j, j < 193 → c (p + wP j) (wL j) = N j
def WF (N : Nat → Int32) : Prop := (∀ j, j < 193 → (j < 117 ∨ 181 ≤ j) → ∃ v, v ≤ ub j ∧ N j = nI v) ∧ ∀ a b, a < 8 → b < 8 → (∃ v, v ≤ 16 ∧ N (117 + 8 * a + b) = nI v - 1 ∧ (a = b → v = 0)) ∧ N (117 + 8 * a + b) = N (117 + 8 * b + a)
theorem w_apart0 : ((List.range 193).all fun i => (List.range 193).all fun j => decide (¬ ((j < 117 ∨ 181 ≤ j) ∧ i ≠ j ∧ wP i = wP j ∧ wL i = wL j))) = true := by decide +kernel
theorem w_apart (i : Nat) (hi : i < 193) (j : Nat) (hj : j < 193) (h1 : j < 117 ∨ 181 ≤ j) (h2 : i ≠ j) (h3 : wP i = wP j) (h4 : wL i = wL j) : False :=
  of_decide_eq_true (List.all_eq_true.mp (List.all_eq_true.mp w_apart0 i (List.mem_range.mpr hi)) j (List.mem_range.mpr hj)) ⟨h1, h2, h3, h4⟩
theorem w_low : ∀ j, j < 193 → wP j ≤ 39 := by decide +kernel
theorem WR.up {c : Mm} {p : Nat} {N : Nat → Int32} (h : WR c p N) {j0 : Nat} (hj : j0 < 193) (hb : j0 < 117 ∨ 181 ≤ j0) {P L : Nat} (hP : P = p + wP j0) (hL : L = wL j0) (x : Int32) : WR (mm_up c P L x) p (upd N j0 x) := by
  intro j hj1
  subst hP
  subst hL
  rw [mm_up_ap]
  by_cases e : j = j0
  · subst e
    rw [if_pos rfl, if_pos rfl, upd_eq]
  · rw [upd_ne _ _ e]
    by_cases e1 : p + wP j = p + wP j0
    · rw [if_pos e1]
      by_cases e2 : wL j = wL j0
      · exact absurd (w_apart j hj1 j0 hj hb e (by omega) e2) id
      · rw [if_neg e2]
        exact h j hj1
    · rw [if_neg e1]
      exact h j hj1
theorem WF.up {N : Nat → Int32} (h : WF N) {j0 v : Nat} (hj : j0 < 193) (hb : j0 < 117 ∨ 181 ≤ j0) (hv : v ≤ ub j0) : WF (upd N j0 (nI v)) := by
  refine ⟨fun j hj1 hb1 => ?_, fun a b ha hb2 => ?_⟩
  · by_cases e : j = j0
    · subst e
      exact ⟨v, hv, upd_eq _ _ _⟩
    · rw [upd_ne _ _ e]
      exact h.1 j hj1 hb1
  · rw [upd_ne _ _ (by omega), upd_ne _ _ (by omega)]
    exact h.2 a b ha hb2
theorem WR.kept {c c' : Mm} {p : Nat} {N : Nat → Int32} (h : WR c p N) (hk : ∀ j, j < 193 → c' (p + wP j) (wL j) = c (p + wP j) (wL j)) : WR c' p N := fun j hj => (hk j hj).trans (h j hj)
theorem WR.kept' {c c' : Mm} {p : Nat} {N : Nat → Int32} (h : WR c p N) (hk : ∀ a, p ≤ a → a < p + 40 → c' a = c a) : WR c' p N := fun j hj => by
  rw [hk (p + wP j) (by omega) (by have := w_low j hj; omega)]
  exact h j hj
/-! the relation of the two memories, after at most n calls -/
def KP (c m : Mm) : Prop := c 0 2 = m 0 2 ∧ (m 0 2 = 0 ∨ (m 0 2 = 1 ∧ WR c 42 (m 2) ∧ WF (m 2)))
def TP (c m : Mm) : Prop := ∃ t, t ≤ 60 ∧ m 0 4 = nI t ∧ c 83 1 = nI t ∧ (∀ k, k < 60 → c 84 k = m 3 k) ∧ ∀ k, k < t → ∃ b, 32 ≤ b ∧ b ≤ 126 ∧ m 3 k = nI b
def SH (c m : Mm) : Prop := ∀ s, s < 4 → (∀ k, k < 24 → c (147 + s) k = m 6 (24 * s + k)) ∧ ((m 4 s = -1 ∧ c (143 + s) 1 = -1 ∧ c (143 + s) 2 = 0) ∨ ∃ n l, n ≤ 24 ∧ l ≤ 2 ∧ m 4 s = nI n ∧ c (143 + s) 2 = nI n ∧ m 5 s = nI l ∧ c (143 + s) 1 = nI l)
/-- what is never written: the sums ahead of the first mile -/
def ZR (c m : Mm) : Prop := (∀ a, 9 ≤ a → a < 16 → m a 0 = 0) ∧ c 110 0 = 0 ∧ c 111 0 = 0 ∧ (∀ s, s < 4 → c 113 s = 0) ∧ c 123 0 = 0
def AR (n : Nat) (c m : Mm) : Prop := ZR c m ∧ ∃ q, q ≤ n ∧ c 135 3 = nI q ∧ ∀ k, k < 10935 → ∃ v, v ≤ q ∧ c 138 k = nI v
def Rel (n : Nat) (c m : Mm) : Prop := WR c 1 (m 1) ∧ WF (m 1) ∧ KP c m ∧ TP c m ∧ SH c m ∧ AR n c m
theorem AR.mono {n n' : Nat} {c c' m m' : Mm} (h : AR n c m) (hn : n ≤ n') (h1 : c' 135 3 = c 135 3) (h2 : c' 138 = c 138) (h3 : ∀ a, 90 ≤ a → a < 135 → c' a = c a) (h4 : ∀ a, 9 ≤ a → a < 16 → m' a = m a) : AR n' c' m' := by
  obtain ⟨⟨z1, z2, z3, z4, z5⟩, q, q1, q2, q3⟩ := h
  refine ⟨⟨fun a a1 a2 => by rw [h4 a a1 a2]; exact z1 a a1 a2, by rw [h3 110 (by omega) (by omega)]; exact z2, by rw [h3 111 (by omega) (by omega)]; exact z3, fun s hs => by rw [h3 113 (by omega) (by omega)]; exact z4 s hs, by rw [h3 123 (by omega) (by omega)]; exact z5⟩, q, by omega, by rw [h1]; exact q2, by rw [h2]; exact q3⟩
theorem KP.kept {c c' m m' : Mm} (h : KP c m) (h1 : c' 0 2 = c 0 2) (h2 : m' 0 2 = m 0 2) (h3 : m' 2 = m 2) (h4 : ∀ a, 42 ≤ a → a < 82 → c' a = c a) : KP c' m' := by
  obtain ⟨k1, k2⟩ := h
  refine ⟨by rw [h1, h2]; exact k1, ?_⟩
  rw [h2, h3]
  rcases k2 with k2 | ⟨k2, k3, k4⟩
  · exact Or.inl k2
  · exact Or.inr ⟨k2, k3.kept' h4, k4⟩
theorem TP.kept {c c' m m' : Mm} (h : TP c m) (h1 : m' 0 4 = m 0 4) (h2 : c' 83 1 = c 83 1) (h3 : c' 84 = c 84) (h4 : m' 3 = m 3) : TP c' m' := by
  obtain ⟨t, t1, t2, t3, t4, t5⟩ := h
  exact ⟨t, t1, by rw [h1]; exact t2, by rw [h2]; exact t3, by rw [h3, h4]; exact t4, by rw [h4]; exact t5⟩
theorem SH.kept {c c' m m' : Mm} (h : SH c m) (h1 : ∀ a, 143 ≤ a → a < 151 → c' a = c a) (h2 : m' 4 = m 4) (h3 : m' 5 = m 5) (h4 : m' 6 = m 6) : SH c' m' := by
  intro s hs
  rw [h1 (147 + s) (by omega) (by omega), h1 (143 + s) (by omega) (by omega), h2, h3, h4]
  exact h s hs
theorem Rel.now {n : Nat} {c m c' m' : Mm} (h : Rel n c m) (hc : ∀ a, a = 0 ∨ 42 ≤ a → c' a = c a) (hm : ∀ a, a ≠ 1 → m' a = m a) (hW : WR c' 1 (m' 1)) (hF : WF (m' 1)) : Rel (n + 1) c' m' :=
  ⟨hW, hF, h.2.2.1.kept (by rw [hc 0 (by omega)]) (by rw [hm 0 (by omega)]) (hm 2 (by omega)) (fun a h1 _ => hc a (by omega)), h.2.2.2.1.kept (by rw [hm 0 (by omega)]) (by rw [hc 83 (by omega)]) (hc 84 (by omega)) (hm 3 (by omega)), h.2.2.2.2.1.kept (fun a h1 _ => hc a (by omega)) (hm 4 (by omega)) (hm 5 (by omega)) (hm 6 (by omega)), h.2.2.2.2.2.mono (by omega) (by rw [hc 135 (by omega)]) (hc 138 (by omega)) (fun a _ _ => hc a (by omega)) (fun a _ _ => hm a (by omega))⟩
theorem Rel.next {n : Nat} {c m : Mm} (h : Rel n c m) : Rel (n + 1) c m := h.now (fun _ _ => rfl) (fun _ _ => rfl) h.1 h.2.1
