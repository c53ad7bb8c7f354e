/-! what bounds a walk further on: how many miles of each going there were, and the hops at its end -/
abbrev Qc : Type := Nat × Nat × Nat × Nat × Nat
def q00 : Qc := (0, 0, 0, 0, 0)
def nQ (q : Qc) (g : Nat) : Qc := (q.1 + (if g = 0 then 1 else 0), q.2.1 + (if g = 1 then 1 else 0), q.2.2.1 + (if g = 2 then 1 else 0), q.2.2.2.1 + (if g = 3 then 1 else 0), if g = 2 then min (q.2.2.2.2 + 1) 2 else 0)
def uA (N : Nat → Int32) (oa : Option Nat) (q : Qc) : Nat := q.1 * oW N oa
def uB (N : Nat → Int32) (ob : Option Nat) (q : Qc) : Nat := (q.1 + q.2.1 + 2 * q.2.2.1) * oW N ob
def uC (N : Nat → Int32) (oc : Option Nat) (q : Qc) : Nat := q.2.1 * oW N oc
theorem uA_s (N : Nat → Int32) (oa : Option Nat) (q : Qc) (g : Nat) : uA N oa (nQ q g) = uA N oa q + aA N oa g := by
  show (q.1 + (if g = 0 then 1 else 0)) * oW N oa = q.1 * oW N oa + (if g = 0 then oW N oa else 0)
  by_cases e : g = 0
  · rw [if_pos e, if_pos e, Nat.add_mul, Nat.one_mul]
  · rw [if_neg e, if_neg e]
    rfl
theorem uC_s (N : Nat → Int32) (oc : Option Nat) (q : Qc) (g : Nat) : uC N oc (nQ q g) = uC N oc q + aC N oc g := by
  show (q.2.1 + (if g = 1 then 1 else 0)) * oW N oc = q.2.1 * oW N oc + (if g = 1 then oW N oc else 0)
  by_cases e : g = 1
  · rw [if_pos e, if_pos e, Nat.add_mul, Nat.one_mul]
  · rw [if_neg e, if_neg e]
    rfl
theorem uB_s (N : Nat → Int32) (ob : Option Nat) (q : Qc) {g : Nat} (hg : g < 4) : uB N ob (nQ q g) = uB N ob q + aB N ob g := by
  unfold uB aB nQ
  rcases (show g = 0 ∨ g = 1 ∨ g = 2 ∨ g = 3 by omega) with rfl | rfl | rfl | rfl
  · show (q.1 + 1 + q.2.1 + 2 * q.2.2.1) * _ = _ + oW N ob
    rw [show q.1 + 1 + q.2.1 + 2 * q.2.2.1 = q.1 + q.2.1 + 2 * q.2.2.1 + 1 by omega, Nat.add_mul, Nat.one_mul]
  · show (q.1 + (q.2.1 + 1) + 2 * q.2.2.1) * _ = _ + oW N ob
    rw [show q.1 + (q.2.1 + 1) + 2 * q.2.2.1 = q.1 + q.2.1 + 2 * q.2.2.1 + 1 by omega, Nat.add_mul, Nat.one_mul]
  · show (q.1 + q.2.1 + 2 * (q.2.2.1 + 1)) * _ = _ + 2 * oW N ob
    rw [show q.1 + q.2.1 + 2 * (q.2.2.1 + 1) = q.1 + q.2.1 + 2 * q.2.2.1 + 2 by omega, Nat.add_mul]
  · rfl
theorem qa_s (d : Nat) (r : Nat → Nat) : qa nQ (d + 1) 0 q00 r = nQ (qa nQ d 0 q00 r) (r d) := by
  rw [qa_add, qa, qa, Nat.zero_add]
/-- the hops at a row's end, uncapped -/
def hm (r : Nat → Nat) : Nat → Nat
  | 0 => 0
  | d + 1 => if r d = 2 then hm r d + 1 else 0
theorem hm_q (r : Nat → Nat) : ∀ d, (qa nQ d 0 q00 r).2.2.2.2 = min (hm r d) 2 ∧ hm r d ≤ d
  | 0 => ⟨rfl, Nat.le_refl _⟩
  | d + 1 => by
    rw [qa_s, hm]
    obtain ⟨h1, h2⟩ := hm_q r d
    show (if r d = 2 then min ((qa nQ d 0 q00 r).2.2.2.2 + 1) 2 else 0) = _ ∧ _
    rw [h1]
    split
    · exact ⟨by omega, by omega⟩
    · exact ⟨by omega, by omega⟩
theorem hm_congr {r s : Nat → Nat} : ∀ d, (∀ j, j < d → r j = s j) → hm r d = hm s d
  | 0, _ => rfl
  | d + 1, h => by rw [hm, hm, h d (by omega), hm_congr d (fun j hj => h j (by omega))]
theorem qn_le (r : Nat → Nat) : ∀ d, (qa nQ d 0 q00 r).1 + (qa nQ d 0 q00 r).2.1 + (qa nQ d 0 q00 r).2.2.1 + (qa nQ d 0 q00 r).2.2.2.1 ≤ d
  | 0 => Nat.le_refl _
  | d + 1 => by
    rw [qa_s]
    have := qn_le r d
    generalize qa nQ d 0 q00 r = q at *
    show (q.1 + (if r d = 0 then 1 else 0)) + (q.2.1 + (if r d = 1 then 1 else 0)) + (q.2.2.1 + (if r d = 2 then 1 else 0)) + (q.2.2.2.1 + (if r d = 3 then 1 else 0)) ≤ d + 1
    split <;> split <;> split <;> split <;> omega
theorem uA_le (N : Nat → Int32) (o : Option Nat) (r : Nat → Nat) (d : Nat) : uA N o (qa nQ d 0 q00 r) ≤ d * 2 := Nat.mul_le_mul (by have := qn_le r d; omega) (oW_le N o)
theorem uC_le (N : Nat → Int32) (o : Option Nat) (r : Nat → Nat) (d : Nat) : uC N o (qa nQ d 0 q00 r) ≤ d * 2 := Nat.mul_le_mul (by have := qn_le r d; omega) (oW_le N o)
theorem uB_le (N : Nat → Int32) (o : Option Nat) (r : Nat → Nat) (d : Nat) : uB N o (qa nQ d 0 q00 r) ≤ 2 * d * 2 := Nat.mul_le_mul (by have := qn_le r d; omega) (oW_le N o)
def canQ (lone : Bool) (oa ob oc : Option Nat) (q : Qc) (g : Nat) : Bool := gOpen lone oa ob oc g && (decide (g = 3 → q.2.2.2.1 < 4) && decide (g = 2 → lone = true ∨ q.2.2.2.2 < 2))
def okQ (N : Nat → Int32) (lone : Bool) (oa ob oc : Option Nat) (q : Qc) (g : Nat) : Bool := canQ lone oa ob oc q g && (oS N oa (uA N oa (nQ q g)) && (oS N ob (uB N ob (nQ q g)) && oS N oc (uC N oc (nQ q g))))
theorem sa_bd {mi : Nat → Nat → Nat} {B : Nat} (h : ∀ g k, k < 9 → mi g k ≤ B) (r : Nat → Nat) : ∀ d i, i + d ≤ 9 → sa mi d i r ≤ d * B
  | 0, _, _ => Nat.zero_le _
  | d + 1, i, hd => by
    rw [sa, Nat.add_mul, Nat.one_mul]
    have := h (r i) i (by omega)
    have := sa_bd h r d (i + 1) (by omega)
    omega
theorem cQ_le {N : Nat → Int32} (hF : WF N) (lone : Bool) {oa ob : Option Nat} (ha : ∀ x, oa = some x → x < 16) (hb : ∀ x, ob = some x → x < 16) : ∀ g k, k < 9 → cQ N lone oa ob g k ≤ 1584 := by
  intro g k hk
  unfold cQ
  split
  · exact oC_le hF oa ha hk
  · split
    · exact oC_le hF ob hb hk
    · omega
theorem mQ_le {N : Nat → Int32} (hF : WF N) (oa ob oc : Option Nat) : ∀ g k, k < 9 → mQ N oa ob oc g k ≤ 60 := fun g _ hk => mnt_le hF g hk _ _
theorem numI_neg {o : Option Nat} (ho : ∀ x, o = some x → x < 16) : numI o < 0 ↔ o.isSome = false := by
  cases o with
  | none => exact ⟨fun _ => rfl, fun _ => by decide⟩
  | some x =>
    have := ho x rfl
    exact ⟨fun h => absurd h (nI_pos (by omega)), fun h => absurd h (fun w => Bool.noConfusion w)⟩
theorem m_can {h : Mm} {N : Nat → Int32} (hN : h 1 = N) {p i g : Nat} (hp5 : p < 5) (hi : i < 9) (hg : g < 4) (h8 : h 8 i = nI g) {oa ob oc : Option Nat} (ha : ∀ x, oa = some x → x < 16) (hb : ∀ x, ob = some x → x < 16) (hc : ∀ x, oc = some x → x < 16) {lone : Bool} (hl : lone = decide (¬ N (10 + p) ≤ 0)) {q : Qc} {hp : Nat} (e14 : h 14 i = nI q.2.2.2.1) (e15 : h 15 i = nI hp) (hh : q.2.2.2.2 = min hp 2) (b14 : q.2.2.2.1 ≤ 9) (b15 : hp ≤ 9) : f_X12_can (nI p) (numI oa) (numI ob) (numI oc) (nI i) h = some (if canQ lone oa ob oc q g = true then 1 else 0) := by
  have ge : ∀ k : Nat, k < 4 → g ≠ k → ¬ nI g = nI k := fun k hk e w => e ((n_d g k hg hk).mp w)
  have T : ∀ (b : Bool) (X : Option Int32), X = some (if b = true then 1 else 0) → b = canQ lone oa ob oc q g → X = some (if canQ lone oa ob oc q g = true then 1 else 0) := fun b X h1 h2 => by rw [h1, h2]
  have two : ∀ (o o' : Option Nat), (∀ x, o = some x → x < 16) → (∀ x, o' = some x → x < 16) → (if numI o < 0 then some (0 : Int32) else if numI o' < 0 then some 0 else some 1) = some (if (o.isSome && o'.isSome) = true then 1 else 0) := fun o o' h1 h2 => by
    cases e1 : o.isSome with
    | false => rw [if_pos ((numI_neg h1).mpr e1)]; rfl
    | true =>
      rw [if_neg (fun w => by have := (numI_neg h1).mp w; rw [e1] at this; exact absurd this (by decide))]
      cases e2 : o'.isSome with
      | false => rw [if_pos ((numI_neg h2).mpr e2)]; rfl
      | true =>
        rw [if_neg (fun w => by have := (numI_neg h2).mp w; rw [e2] at this; exact absurd this (by decide))]
        rfl
  unfold f_X12_can
  rw [og_in _ hi (by omega), nI_clamp (show i < 2 ^ 31 by omega), mv_v, h8, show (10 : Int32) = nI 10 from rfl, nI_add, og_in _ (show 10 + p < 193 by omega) (by omega), nI_clamp (show 10 + p < 2 ^ 31 by omega), hN]
  by_cases el : N (10 + p) ≤ 0
  · rw [if_pos el]
    rw [decide_eq_false (fun h => h el)] at hl
    by_cases e0 : g = 0
    · rw [if_pos (show nI g = (0 : Int32) by rw [e0]; rfl)]
      refine T _ _ (two oa ob ha hb) ?_
      unfold canQ gOpen
      rw [hl, e0]
      simp
    rw [if_neg (show ¬ nI g = (0 : Int32) from ge 0 (by omega) e0)]
    by_cases e1 : g = 1
    · rw [if_pos (show nI g = (1 : Int32) by rw [e1]; rfl)]
      refine T _ _ (two ob oc hb hc) ?_
      unfold canQ gOpen
      rw [hl, e1]
      simp
    rw [if_neg (show ¬ nI g = (1 : Int32) from ge 1 (by omega) e1)]
    by_cases e2 : g = 2
    · rw [if_pos (show nI g = (2 : Int32) by rw [e2]; rfl)]
      refine T (ob.isSome && decide (hp < 2)) _ ?_ ?_
      · cases eb : ob.isSome with
        | false => rw [if_pos ((numI_neg hb).mpr eb)]; rfl
        | true =>
          rw [if_neg (fun w => by have := (numI_neg hb).mp w; rw [eb] at this; exact absurd this (by decide)), og_in _ (show i < 10 by omega) (by omega), e15]
          by_cases w : hp < 2
          · rw [if_neg (show ¬ (2 : Int32) ≤ nI hp from nI_ge (b := 2) w (by omega)), decide_eq_true w]
            rfl
          · rw [if_pos (show (2 : Int32) ≤ nI hp from nI_le (a := 2) (by omega) (by omega)), decide_eq_false w]
            rfl
      · unfold canQ gOpen
        rw [hl, e2, hh]
        have : (min hp 2 < 2) = (hp < 2) := propext (by omega)
        simp [this]
    rw [if_neg (show ¬ nI g = (2 : Int32) from ge 2 (by omega) e2), og_in _ (show i < 10 by omega) (by omega), e14]
    have e3 : g = 3 := by omega
    refine T (decide (q.2.2.2.1 < 4)) _ ?_ ?_
    · by_cases w : q.2.2.2.1 < 4
      · rw [if_neg (show ¬ (4 : Int32) ≤ nI q.2.2.2.1 from nI_ge (b := 4) w (by omega)), decide_eq_true w]
        rfl
      · rw [if_pos (show (4 : Int32) ≤ nI q.2.2.2.1 from nI_le (a := 4) (by omega) (by omega)), decide_eq_false w]
        rfl
    · unfold canQ gOpen
      rw [hl, e3]
      simp
  · rw [if_neg el]
    rw [decide_eq_true el] at hl
    by_cases e2 : g = 2
    · rw [if_pos (show nI g = (2 : Int32) by rw [e2]; rfl)]
      refine T ob.isSome _ ?_ ?_
      · cases eb : ob.isSome with
        | false => rw [if_pos ((numI_neg hb).mpr eb)]; rfl
        | true =>
          rw [if_neg (fun w => by have := (numI_neg hb).mp w; rw [eb] at this; exact absurd this (by decide))]
          rfl
      · unfold canQ gOpen
        rw [hl, e2]
        simp
    · rw [if_neg (show ¬ nI g = (2 : Int32) from ge 2 (by omega) e2)]
      refine T false _ rfl ?_
      unfold canQ gOpen
      rw [hl]
      simp [e2]
/-- a row with this path and going goes on from its sums -/
theorem pre_ok {Q : Type} {ok : Q → Nat → Bool} {nq : Q → Nat → Q} {mi : Nat → Nat → Nat} {lim : Nat} {q0 : Q} {y a : Nat → Nat} (hy : Vd ok nq mi lim q0 y) {i : Nat} (hi : i < 9) (h1 : ∀ j, j < i → y j = pth a j) (h2 : y i = a i) : ok (qa nq i 0 q0 (pth a)) (a i) = true ∧ ∀ X : Nat → Nat → Nat, sa X 9 0 y = sa X i 0 (pth a) + X (a i) i + sa X (9 - (i + 1)) (i + 1) y := by
  have n9 : i + 1 + (9 - (i + 1)) = 9 := by omega
  have ep : ∀ j, 0 ≤ j → j < 0 + i → y j = pth a j := fun j _ hj => h1 j (by omega)
  refine ⟨?_, fun X => ?_⟩
  · have := (okr_add ok nq y (i + 1) (9 - (i + 1)) 0 q0)
    rw [n9] at this
    have := (okr_add ok nq y i 1 0 q0).mp (this.mp hy.1).1
    rw [okr, Nat.zero_add, h2, qa_congr nq i 0 q0 ep] at this
    exact this.2.2.1
  · have := sa_add X y (i + 1) (9 - (i + 1)) 0
    rw [n9, Nat.zero_add, sa_s X y i, h2, sa_congr X i 0 ep] at this
    exact this
