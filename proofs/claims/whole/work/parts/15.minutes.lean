/-- what a shoe of a sort takes more, and 2 -/
def dN (srt v : Nat) : Nat := if srt = 1 then 1 else if srt = 2 then (if 5 ≤ v then 0 else 3) else 2
def dO (N : Nat → Int32) (v : Nat) (o : Option Nat) : Nat := match o with
  | none => 2
  | some x => dN (N (47 + x)).toNatClampNeg v
def plN (g v : Nat) : Nat := if g = 0 then 20 + v else if g = 1 then 26 + v else if g = 2 then 40 + 2 * v else 30 + 3 * v
def mnt (N : Nat → Int32) (g k : Nat) (o1 o2 : Option Nat) : Nat := plN g (N (99 + k)).toNatClampNeg + dO N (N (99 + k)).toNatClampNeg o1 + dO N (N (99 + k)).toNatClampNeg o2 - 4
def numI (o : Option Nat) : Int32 := match o with
  | none => -1
  | some x => nI x
theorem dN_le (srt v : Nat) : dN srt v ≤ 3 := by
  unfold dN
  split
  · omega
  · split
    · split <;> omega
    · omega
theorem dO_le (N : Nat → Int32) (v : Nat) (o : Option Nat) : dO N v o ≤ 3 := by
  cases o with
  | none => show 2 ≤ 3; omega
  | some x => exact dN_le _ _
theorem plN_ge (g v : Nat) : 20 ≤ plN g v := by
  unfold plN
  split
  · omega
  · split
    · omega
    · split <;> omega
theorem mnt_ge (N : Nat → Int32) (g k : Nat) (o1 o2 : Option Nat) : 16 ≤ mnt N g k o1 o2 := by
  have := plN_ge g (N (99 + k)).toNatClampNeg
  unfold mnt
  omega
theorem plN_le {g v : Nat} (hv : v ≤ 9) : plN g v ≤ 58 := by
  unfold plN
  split
  · omega
  · split
    · omega
    · split <;> omega
theorem mnt_le {N : Nat → Int32} (hF : WF N) (g : Nat) {k : Nat} (hk : k < 9) (o1 o2 : Option Nat) : mnt N g k o1 o2 ≤ 60 := by
  obtain ⟨v, hv, ev⟩ := wf_mud hF hk
  unfold mnt
  rw [ev, nI_clamp (by omega)]
  have h1 := plN_le (g := g) hv
  have h2 := dO_le N v o1
  have h3 := dO_le N v o2
  omega
theorem nI_dl (p : Nat) {a : Nat} (h : 2 ≤ p + a) : nI p + (nI a - nI 2) = nI (p + a - 2) := by
  rw [Int32.sub_eq_add_neg, ← Int32.add_assoc, ← Int32.sub_eq_add_neg, nI_add, pk_sub h]
theorem dl_val {s v : Nat} (hs : s ≤ 3) (hv : v ≤ 9) : (if nI s = 1 then some (-1) else if nI s = 2 then (if 5 ≤ nI v then some (-2) else some 1) else some (0 : Int32)) = some (nI (dN s v) - nI 2) := by
  rcases (show s = 0 ∨ s = 1 ∨ s = 2 ∨ s = 3 by omega) with rfl | rfl | rfl | rfl
  · rw [if_neg (show ¬ nI 0 = (1 : Int32) by decide), if_neg (show ¬ nI 0 = (2 : Int32) by decide)]
    show some (0 : Int32) = some (nI 2 - nI 2)
    decide
  · rw [if_pos (show nI 1 = (1 : Int32) by decide)]
    show some (-1 : Int32) = some (nI 1 - nI 2)
    decide
  · rw [if_neg (show ¬ nI 2 = (1 : Int32) by decide), if_pos (show nI 2 = (2 : Int32) by decide)]
    show _ = some (nI (if 5 ≤ v then 0 else 3) - nI 2)
    by_cases h : 5 ≤ v
    · rw [if_pos h, if_pos (show (5 : Int32) ≤ nI v from nI_le h (by omega))]
      decide
    · rw [if_neg h, if_neg (show ¬ (5 : Int32) ≤ nI v from nI_ge (a := v) (b := 5) (by omega) (by omega))]
      decide
  · rw [if_neg (show ¬ nI 3 = (1 : Int32) by decide), if_neg (show ¬ nI 3 = (2 : Int32) by decide)]
    show some (0 : Int32) = some (nI 2 - nI 2)
    decide
theorem k_delay {c : Mm} {N : Nat → Int32} (hW : WR c 1 N) (hF : WF N) {x v : Nat} (hx : x < 16) (hv : v ≤ 9) : f_X5_delay (5 + x) (nI v) c = some (nI (dN (N (47 + x)).toNatClampNeg v) - nI 2) := by
  obtain ⟨s, hs, es⟩ := wf_sort hF hx
  unfold f_X5_delay
  rw [wr_sort hW hx, es, nI_clamp (by omega), ← dl_val hs hv]
  have e : (if nI v < 5 then some (1 : Int32) else some (-2)) = if 5 ≤ nI v then some (-2) else some 1 := by
    by_cases h : 5 ≤ v
    · rw [if_neg (show ¬ nI v < (5 : Int32) from nI_nlt (a := v) (b := 5) h (by omega)), if_pos (show (5 : Int32) ≤ nI v from nI_le h (by omega))]
    · rw [if_pos (show nI v < (5 : Int32) from nI_lt (a := v) (b := 5) (by omega) (by omega)), if_neg (show ¬ (5 : Int32) ≤ nI v from nI_ge (a := v) (b := 5) (by omega) (by omega))]
  rw [e]
theorem m_more {m : Mm} (hF : WF (m 1)) {o : Option Nat} (ho : ∀ x, o = some x → x < 16) {v : Nat} (hv : v ≤ 9) : f_X12_more (numI o) (nI v) m = some (nI (dO (m 1) v o) - nI 2) := by
  unfold f_X12_more f_X12_more_c17
  cases o with
  | none =>
    show (if (0 : Int32) ≤ -1 then _ else _) = _
    rw [if_neg (show ¬ (0 : Int32) ≤ -1 by decide)]
    exact dl_val (s := 0) (by omega) hv
  | some x =>
    have hx := ho x rfl
    obtain ⟨s, hs, es⟩ := wf_sort hF hx
    show (if 0 ≤ nI x then _ else _) = some (nI (dN (m 1 (47 + x)).toNatClampNeg v) - nI 2)
    rw [if_pos (nI_pos' (by omega))]
    simp (disch := omega) only [show (47 : Int32) = nI 47 from rfl, nI_add, og_in, nI_clamp, numI, es]
    exact dl_val hs hv
theorem k_minutesOf {c : Mm} {N : Nat → Int32} (hW : WR c 1 N) (hF : WF N) {g k : Nat} (hg : g < 4) (hk : k < 9) {o1 o2 : Option Nat} (h1 : ∀ x, o1 = some x → x < 16) (h2 : ∀ x, o2 = some x → x < 16) : f_X10_minutesOf 1 (nI g) (nI k) (o1.map (fun x => 5 + x)) (o2.map (fun x => 5 + x)) c = some (nI (mnt N g k o1 o2)) := by
  obtain ⟨v, hv, ev⟩ := wf_mud hF hk
  unfold f_X10_minutesOf f_X10_minutesOf_c42 mnt
  simp (disch := omega) only [og_in, nI_clamp, Nat.reduceAdd, wr_mud hW, ev, mv_v]
  have hp : mm_tab mm_base g + mm_tab mm_mudm g * nI v = nI (plN g v) := by
    rcases (show g = 0 ∨ g = 1 ∨ g = 2 ∨ g = 3 by omega) with rfl | rfl | rfl | rfl
    · show nI 20 + nI 1 * nI v = _
      rw [pk_mul, nI_add, Nat.one_mul]; rfl
    · show nI 26 + nI 1 * nI v = _
      rw [pk_mul, nI_add, Nat.one_mul]; rfl
    · show nI 40 + nI 2 * nI v = _
      rw [pk_mul, nI_add]; rfl
    · show nI 30 + nI 3 * nI v = _
      rw [pk_mul, nI_add]; rfl
  rw [hp]
  have hp2 := plN_ge g v
  have key : ∀ p : Nat, 18 ≤ p → on (o2.map (fun x => 5 + x)) (some (nI p)) (fun q => op (f_X5_delay q (nI v) c) fun r => some (nI p + r)) = some (nI (p + dO N v o2 - 2)) := by
    intro p hp3
    cases o2 with
    | none => rfl
    | some y =>
      show op (f_X5_delay (5 + y) (nI v) c) _ = _
      rw [k_delay hW hF (h2 y rfl) hv, op_v, nI_dl p (by omega)]
      rfl
  have fin : ∀ p : Nat, plN g v + dO N v o1 - 2 = p → some (nI (p + dO N v o2 - 2)) = some (nI (plN g v + dO N v o1 + dO N v o2 - 4)) := by
    intro p hp4
    congr 2
    omega
  cases o1 with
  | none =>
    refine (key (plN g v) (by omega)).trans (fin _ ?_)
    show plN g v + 2 - 2 = plN g v
    omega
  | some x =>
    show op (f_X5_delay (5 + x) (nI v) c) _ = _
    rw [k_delay hW hF (h1 x rfl) hv, op_v, nI_dl _ (by omega)]
    exact (key _ (by omega)).trans (fin _ rfl)
theorem m_minutesOf {m : Mm} (hF : WF (m 1)) {g k : Nat} (hg : g < 4) (hk : k < 9) {o1 o2 : Option Nat} (h1 : ∀ x, o1 = some x → x < 16) (h2 : ∀ x, o2 = some x → x < 16) : f_X12_minutesOf (nI g) (nI k) (numI o1) (numI o2) m = some (nI (mnt (m 1) g k o1 o2)) := by
  obtain ⟨v, hv, ev⟩ := wf_mud hF hk
  have hp2 := plN_ge g v
  unfold f_X12_minutesOf f_X12_minutesOf_c58 mnt
  simp (disch := omega) only [show (99 : Int32) = nI 99 from rfl, nI_add, og_in, nI_clamp, ev, mv_v, m_more hF h1 hv, m_more hF h2 hv, op_v]
  have fin : ∀ p : Nat, p = plN g v → some ((nI p + (nI (dO (m 1) v o1) - nI 2)) + (nI (dO (m 1) v o2) - nI 2)) = some (nI (plN g v + dO (m 1) v o1 + dO (m 1) v o2 - 4)) := by
    intro p hp
    subst hp
    rw [nI_dl _ (by omega), nI_dl _ (by omega)]
    congr 2
    omega
  rcases (show g = 0 ∨ g = 1 ∨ g = 2 ∨ g = 3 by omega) with rfl | rfl | rfl | rfl
  · rw [if_pos (show nI 0 = (0 : Int32) from rfl), show (20 : Int32) + nI v = nI (20 + v) from nI_add 20 v]
    exact fin _ rfl
  · rw [if_neg (show ¬ nI 1 = (0 : Int32) by decide), if_pos (show nI 1 = (1 : Int32) from rfl), show (26 : Int32) + nI v = nI (26 + v) from nI_add 26 v]
    exact fin _ rfl
  · rw [if_neg (show ¬ nI 2 = (0 : Int32) by decide), if_neg (show ¬ nI 2 = (1 : Int32) by decide), if_pos (show nI 2 = (2 : Int32) from rfl), show (40 : Int32) + 2 * nI v = nI (40 + 2 * v) from by rw [show (2 : Int32) = nI 2 from rfl, pk_mul]; exact nI_add 40 _]
    exact fin _ rfl
  · rw [if_neg (show ¬ nI 3 = (0 : Int32) by decide), if_neg (show ¬ nI 3 = (1 : Int32) by decide), if_neg (show ¬ nI 3 = (2 : Int32) by decide), show (30 : Int32) + 3 * nI v = nI (30 + 3 * v) from by rw [show (3 : Int32) = nI 3 from rfl, pk_mul]; exact nI_add 30 _]
    exact fin _ rfl
theorem k_shoeOrNull {c : Mm} {N : Nat → Int32} (hW : WR c 1 N) {ns x : Nat} (hns : ns ≤ 16) (ens : N 1 = nI ns) (hx : x < ns) : f_X10_shoeOrNull 1 (nI x) c = some (some (5 + x)) := by
  unfold f_X10_shoeOrNull
  rw [k_isShoe hW, ens, op_v, if_neg, og_in _ (by omega) (by omega), nI_clamp (by omega)]
  obtain ⟨ns, rfl⟩ := Nat.exists_eq_succ_of_ne_zero (show ns ≠ 0 by omega)
  rw [show nI (Nat.succ ns) - 1 = nI ns from nI_pred ns, wi_in (by omega) (by omega)]
  decide
theorem k_shoeOrNull_no {c : Mm} {N : Nat → Int32} (hW : WR c 1 N) {ns : Nat} (hns : ns ≤ 16) (ens : N 1 = nI ns) : f_X10_shoeOrNull 1 (-1) c = some none := by
  unfold f_X10_shoeOrNull
  rw [k_isShoe hW, ens, op_v, if_pos]
  exact if_pos (by decide)
theorem tc_shoe {x : Nat} (hx : x < 16) : TC[5 + x]? = some sX5 := shTC_X10_4i_0 (p := 1) rfl hx
theorem os_shoe {x : Nat} (hx : x < 16) : mm_os TC sX5 (some (5 + x)) = true := mm_os_some (tc_shoe hx)
/-- whether a number is a shoe for a foot -/
theorem k_isShoeFor {c : Mm} {N : Nat → Int32} (hW : WR c 1 N) {ns : Nat} (hns : ns ≤ 16) (ens : N 1 = nI ns) (x ft : Int32) : (f_X10_isShoeFor 1 x ft c = some 0 ∧ ∀ m : Mm, m 1 = N → f_X12_isFor x ft m = some 0) ∨ ∃ j, j < ns ∧ x = nI j ∧ N (31 + j) = ft ∧ f_X10_isShoeFor 1 x ft c = some 1 ∧ ∀ m : Mm, m 1 = N → f_X12_isFor x ft m = some 1 := by
  by_cases h1 : wi x 0 (nI ns - 1) = 0
  · refine Or.inl ⟨?_, fun m hm => ?_⟩
    · unfold f_X10_isShoeFor
      rw [k_isShoe hW, ens, op_v, if_pos h1]
    · unfold f_X12_isFor
      rw [m_isShoe, hm, ens, op_v, if_pos h1]
  · obtain ⟨j, hj, rfl⟩ := wi_pr (by omega) h1
    by_cases h2 : N (31 + j) = ft
    · refine Or.inr ⟨j, hj, rfl, h2, ?_, fun m hm => ?_⟩
      · unfold f_X10_isShoeFor
        rw [k_isShoe hW, ens, op_v, if_neg h1, og_in _ (by omega) (by omega), nI_clamp (by omega)]
        simp only [Nat.reduceAdd]
        rw [wr_foot hW (by omega), if_pos h2]
      · unfold f_X12_isFor
        rw [m_isShoe, hm, ens, op_v, if_neg h1]
        simp (disch := omega) only [show (31 : Int32) = nI 31 from rfl, nI_add, og_in, nI_clamp]
        rw [if_pos h2]
    · refine Or.inl ⟨?_, fun m hm => ?_⟩
      · unfold f_X10_isShoeFor
        rw [k_isShoe hW, ens, op_v, if_neg h1, og_in _ (by omega) (by omega), nI_clamp (by omega)]
        simp only [Nat.reduceAdd]
        rw [wr_foot hW (by omega), if_neg h2]
      · unfold f_X12_isFor
        rw [m_isShoe, hm, ens, op_v, if_neg h1]
        simp (disch := omega) only [show (31 : Int32) = nI 31 from rfl, nI_add, og_in, nI_clamp]
        rw [if_neg h2]
theorem sim_minutes {n : Nat} {c m : Mm} (h : Rel n c m) (x1 x2 x3 x4 : Int32) : SimP (f_X11_minutes x1 x2 x3 x4 c) (f_X12_minutes x1 x2 x3 x4 m) := by
  have hW := h.1
  have hF := h.2.1
  obtain ⟨ns, hns, ens⟩ := wf_ns hF
  unfold f_X11_minutes f_X12_minutes f_X12_minutes_c87 f_X12_minutes_c88 f_X12_minutes_c128 f_X12_minutes_c129 f_X12_minutes_c156 f_X12_minutes_c157 f_X12_minutes_c177 f_X12_minutes_c178 f_X12_minutes_c180 f_X10_isGoingWith
  simp only [k_isMile, in_0_3, in_0_8, op_v, mv_v, Nat.reduceAdd, wr_taxed hW, show (3 : Int32).toNatClampNeg = 3 from rfl, if_true, show ¬ (1 : Int32) = 0 by decide, if_false]
  by_cases h1 : wi x2 0 8 = 0
  · rw [if_pos h1, if_pos h1]
    refine ⟨-1, rfl, ?_⟩
    split <;> rfl
  rw [if_neg h1, if_neg h1]
  by_cases h2 : wi x1 0 3 = 0
  · rw [if_pos h2, if_neg (show ¬ x1 = 0 from wi_out (b := 3) h2 (by omega) 0 (by omega)), if_neg (show ¬ x1 = 1 from wi_out (b := 3) h2 (by omega) 1 (by omega)), if_neg (show ¬ x1 = 2 from wi_out (b := 3) h2 (by omega) 2 (by omega)), if_neg (show ¬ x1 = 3 from wi_out (b := 3) h2 (by omega) 3 (by omega)), op_v, if_pos rfl]
    exact SimP.ret rfl
  rw [if_neg h2]
  obtain ⟨g, hg, rfl⟩ := wi_nz (b := 3) (by omega) h2
  obtain ⟨k, hk, rfl⟩ := wi_nz (b := 8) (by omega) h1
  have two : ∀ (g a b : Nat), g < 4 → a < ns → b < ns → SimP (op (f_X10_shoeOrNull 1 (nI a) c) fun r_7 => og (mm_os TC sX5 r_7) (op (f_X10_shoeOrNull 1 (nI b) c) fun r_10 => og (mm_os TC sX5 r_10) (op (f_X10_minutesOf 1 (nI g) (nI k) r_7 r_10 c) fun r_13 => some r_13))) (op (f_X12_minutesOf (nI g) (nI k) (nI a) (nI b) m) fun r_11 => some r_11) := by
    intro g a b hg ha hb
    rw [k_shoeOrNull hW hns ens ha, k_shoeOrNull hW hns ens hb, op_v, op_v, os_shoe (by omega), os_shoe (by omega), og_t, og_t]
    have e1 := k_minutesOf hW hF hg (k := k) (by omega) (o1 := some a) (o2 := some b) (fun x e => by cases e; omega) (fun x e => by cases e; omega)
    have e2 := m_minutesOf hF hg (k := k) (by omega) (o1 := some a) (o2 := some b) (fun x e => by cases e; omega) (fun x e => by cases e; omega)
    rw [show f_X10_minutesOf 1 (nI g) (nI k) (some (5 + a)) (some (5 + b)) c = _ from e1, show f_X12_minutesOf (nI g) (nI k) (nI a) (nI b) m = _ from e2]
    exact SimP.ret rfl
  rcases (show g = 0 ∨ g = 1 ∨ g = 2 ∨ g = 3 by omega) with rfl | rfl | rfl | rfl
  · simp only [if_pos (show nI 0 = (0 : Int32) from rfl)]
    rcases k_isShoeFor hW hns ens x3 (m 1 3) with ⟨a1, a2⟩ | ⟨a, ha, rfl, -, a1, a2⟩
    · rw [a1, a2 m rfl]
      exact SimP.ret rfl
    rw [a1, a2 m rfl, op_v, op_v, if_neg (show ¬ (1 : Int32) = 0 by decide), if_neg (show ¬ (1 : Int32) = 0 by decide)]
    rcases k_isShoeFor hW hns ens x4 (1 - m 1 3) with ⟨b1, b2⟩ | ⟨b, hb, rfl, -, b1, b2⟩
    · rw [b1, b2 m rfl]
      exact SimP.ret rfl
    rw [b1, b2 m rfl]
    exact two 0 a b (by omega) ha hb
  · simp only [if_neg (show ¬ nI 1 = (0 : Int32) by decide), if_pos (show nI 1 = (1 : Int32) from rfl)]
    rcases k_isShoeFor hW hns ens x3 (1 - m 1 3) with ⟨a1, a2⟩ | ⟨a, ha, rfl, -, a1, a2⟩
    · rw [a1, a2 m rfl]
      split
      · exact SimP.ret rfl
      · exact SimP.ret rfl
    rw [a1, a2 m rfl, op_v, op_v, if_neg (show ¬ (1 : Int32) = 0 by decide), if_neg (show ¬ (1 : Int32) = 0 by decide)]
    rcases k_isShoeFor hW hns ens x4 (1 - m 1 3) with ⟨b1, b2⟩ | ⟨b, hb, rfl, -, b1, b2⟩
    · rw [b1, b2 m rfl]
      split
      · exact SimP.ret rfl
      · exact SimP.ret rfl
    rw [b1, b2 m rfl, op_v, op_v, if_neg (show ¬ (1 : Int32) = 0 by decide), if_neg (show ¬ (1 : Int32) = 0 by decide)]
    by_cases h3 : nI a = nI b
    · rw [if_pos h3, if_pos h3]
      exact SimP.ret rfl
    · rw [if_neg h3, if_neg h3]
      exact two 1 a b (by omega) ha hb
  · simp only [if_neg (show ¬ nI 2 = (0 : Int32) by decide), if_neg (show ¬ nI 2 = (1 : Int32) by decide), if_pos (show nI 2 = (2 : Int32) from rfl)]
    rcases k_isShoeFor hW hns ens x3 (1 - m 1 3) with ⟨a1, a2⟩ | ⟨a, ha, rfl, -, a1, a2⟩
    · rw [a1, a2 m rfl]
      exact SimP.ret rfl
    rw [a1, a2 m rfl, op_v, op_v, if_neg (show ¬ (1 : Int32) = 0 by decide), if_neg (show ¬ (1 : Int32) = 0 by decide)]
    by_cases h3 : x4 = -1
    · subst h3
      rw [if_pos rfl, if_pos rfl, op_v, if_neg (show ¬ (1 : Int32) = 0 by decide), k_shoeOrNull hW hns ens ha, k_shoeOrNull_no hW hns ens, op_v, op_v, os_shoe (by omega), og_t]
      have e1 := k_minutesOf hW hF (show 2 < 4 by omega) (k := k) (by omega) (o1 := some a) (o2 := none) (fun x e => by cases e; omega) (fun x e => by cases e)
      have e2 := m_minutesOf hF (show 2 < 4 by omega) (k := k) (by omega) (o1 := some a) (o2 := none) (fun x e => by cases e; omega) (fun x e => by cases e)
      rw [show f_X10_minutesOf 1 (nI 2) (nI k) (some (5 + a)) none c = _ from e1, show f_X12_minutesOf (nI 2) (nI k) (nI a) (-1) m = _ from e2]
      exact SimP.ret rfl
    · rw [if_neg h3, if_neg h3]
      exact SimP.ret rfl
  · simp only [if_neg (show ¬ nI 3 = (0 : Int32) by decide), if_neg (show ¬ nI 3 = (1 : Int32) by decide), if_neg (show ¬ nI 3 = (2 : Int32) by decide), if_pos (show nI 3 = (3 : Int32) from rfl)]
    by_cases h3 : x3 = -1
    rotate_left
    · rw [if_neg h3, if_neg h3]
      exact SimP.ret rfl
    subst h3
    rw [if_pos rfl, if_pos rfl]
    by_cases h4 : x4 = -1
    rotate_left
    · rw [if_neg h4, if_neg h4]
      exact SimP.ret rfl
    subst h4
    rw [if_pos rfl, if_pos rfl, op_v, if_neg (show ¬ (1 : Int32) = 0 by decide), k_shoeOrNull_no hW hns ens, op_v]
    have e1 := k_minutesOf hW hF (show 3 < 4 by omega) (k := k) (by omega) (o1 := none) (o2 := none) (fun x e => by cases e) (fun x e => by cases e)
    have e2 := m_minutesOf hF (show 3 < 4 by omega) (k := k) (by omega) (o1 := none) (o2 := none) (fun x e => by cases e) (fun x e => by cases e)
    rw [show mm_os TC sX5 none = true from rfl, og_t, op_v, show mm_os TC sX5 none = true from rfl, og_t, show f_X10_minutesOf 1 (nI 3) (nI k) none none c = _ from e1, show f_X12_minutesOf (nI 3) (nI k) (-1) (-1) m = _ from e2]
    exact SimP.ret rfl
