set_option maxHeartbeats 4000000 in
set_option maxRecDepth 100000 in
/-- the law, from its entry -/
theorem whole_start {p : Program} {e : Env} {s : State} {m : MethodId} {below : List Frame} {meth : Method} {c : Code} (l : Launch) (hflags : l.flags = flags0) {b L : Nat} {xs : Nat → Int32} (hL : L ≤ 3584) (C0 : lw_At p s m meth c b L xs) : W p l e room_1 s m #[Value.ref b] below meth c s.heap [] 0 0 (lw_Z below #[Value.ref b] s) (entryFrame m ([Value.ref b] : List Value).toArray 4) := by
  obtain ⟨hx, hb, hr, hml, hown, hts, hX, hbl, hlocks, hgv⟩ := id C0
  have htl : ∀ w ∈ wsL_law, w.before #[Value.ref b] s = true := fun w h => hts w (wsL_law_in w h)
  have hA : ∀ q : Nat, s.heap.size ≤ q → (fun q : Nat => s.heap.size ≤ q) q := fun _ h => h
  have hs := flat_of_before _ hgv
  obtain ⟨k0, iS0, hKn0⟩ := u_known (C := RX0) (T := TX0) (N := 4) (n := 4) hts wk_wsX00 (hts _ mi_0)
  obtain ⟨k1, iS1, hKn1⟩ := u_known (C := RX1) (T := TX1) (N := 6) (n := 6) hts wk_wsX10 (hts _ mi_1)
  obtain ⟨k2, iS2, hKn2⟩ := u_known (C := RX2) (T := TX2) (N := 5) (n := 5) hts wk_wsX20 (hts _ mi_2)
  obtain ⟨k3, iS3, hKn3⟩ := u_known (C := RX3) (T := TX3) (N := 2) (n := 2) hts wk_wsX30 (hts _ mi_3)
  obtain ⟨k4, iS4, hKn4⟩ := u_known (C := RX4) (T := TX4) (N := 3) (n := 3) hts wk_wsX40 (hts _ mi_4)
  obtain ⟨k5, iS5, hKn5⟩ := u_known (C := RX5) (T := TX5) (N := 5) (n := 5) hts wk_wsX50 (hts _ mi_5)
  obtain ⟨k6, iS6, hKn6⟩ := u_known (C := RX6) (T := TX6) (N := 3) (n := 3) hts wk_wsX60 (hts _ mi_6)
  obtain ⟨k7, iS7, hKn7⟩ := u_known (C := RX7) (T := TX7) (N := 3) (n := 3) hts wk_wsX70 (hts _ mi_7)
  obtain ⟨k8, iS8, hKn8⟩ := u_known (C := RX8) (T := TX8) (N := 2) (n := 2) hts wk_wsX80 (hts _ mi_8)
  obtain ⟨k9, iS9, hKn9⟩ := u_known (C := RX9) (T := TX9) (N := 19) (n := 19) hts wk_wsX90 (hts _ mi_9)
  obtain ⟨k10, iS10, hKn10⟩ := u_known (C := RX10) (T := TX10) (N := 9) (n := 9) hts wk_wsX100 (hts _ mi_10)
  obtain ⟨k11, iS11, hKn11⟩ := u_known (C := RX11) (T := TX11) (N := 9) (n := 9) hts wk_wsX110 (hts _ mi_11)
  obtain ⟨k12, iS12, hKn12⟩ := u_known (C := RX12) (T := TX12) (N := 26) (n := 26) hts wk_wsX120 (hts _ mi_12)
  obtain ⟨dC, dI, hKc⟩ : ∃ (dC : Nat → ClassId) (dI : Nat → Nat → Nat), ∀ (k : Nat) (q : vw_C), vwCl[k]? = some q → u_Kn s q.1 q.2.1 q.2.2 (dC k) (dI k) := by
    refine ⟨fun k => if k = 0 then k0 else if k = 1 then k1 else if k = 2 then k2 else if k = 3 then k3 else if k = 4 then k4 else if k = 5 then k5 else if k = 6 then k6 else if k = 7 then k7 else if k = 8 then k8 else if k = 9 then k9 else if k = 10 then k10 else if k = 11 then k11 else k12, fun k => if k = 0 then iS0 else if k = 1 then iS1 else if k = 2 then iS2 else if k = 3 then iS3 else if k = 4 then iS4 else if k = 5 then iS5 else if k = 6 then iS6 else if k = 7 then iS7 else if k = 8 then iS8 else if k = 9 then iS9 else if k = 10 then iS10 else if k = 11 then iS11 else iS12, ?_⟩
    intro k q hq
    match k, hq with
    | 0, hq => cases hq; exact hKn0
    | 1, hq => cases hq; exact hKn1
    | 2, hq => cases hq; exact hKn2
    | 3, hq => cases hq; exact hKn3
    | 4, hq => cases hq; exact hKn4
    | 5, hq => cases hq; exact hKn5
    | 6, hq => cases hq; exact hKn6
    | 7, hq => cases hq; exact hKn7
    | 8, hq => cases hq; exact hKn8
    | 9, hq => cases hq; exact hKn9
    | 10, hq => cases hq; exact hKn10
    | 11, hq => cases hq; exact hKn11
    | 12, hq => cases hq; exact hKn12
    | k + 13, hq => simp [vwCl] at hq
  obtain ⟨y0, hy0⟩ := cy_p (hts _ ac_i) (Or.inl rfl)
  obtain ⟨y1, hy1⟩ := cy_p (hts _ ac_z) (Or.inr rfl)
  obtain ⟨y2, hy2⟩ := cy_o (hts _ ao_5)
  obtain ⟨y3, hy3⟩ := cy_o (hts _ ao_4)
  obtain ⟨y4, hy4⟩ := cy_a (hts _ ao_a)
  obtain ⟨cy, hcy⟩ : ∃ cy : Nat → ClassId, va_K (dC, dI) vwCl (mm_tys cy) s := by
    refine ⟨fun k => if k = 0 then y0 else if k = 1 then y1 else if k = 2 then y2 else if k = 3 then y3 else y4, hKc, ?_⟩
    intro k q hq
    match k, hq with
    | 0, hq => cases hq; exact hy0
    | 1, hq => cases hq; exact hy1
    | 2, hq => cases hq; exact hy2
    | 3, hq => cases hq; exact hy3
    | 4, hq => cases hq; exact hy4
    | k + 5, hq => simp [mm_tys] at hq
  have hKK := hcy
  have hCZ : CZ s := ⟨⟨va_AO.of (hts _ ao_5), va_AO.of (hts _ ao_4), va_AOA.of (hts _ ao_a)⟩, fun q hq => va_Nw.of rfl (hts _ (cz_in q hq))⟩
  have hZ : mm_Z (fun q => s.heap.size ≤ q) s s.heap := by
    have hO : ∀ a : Nat, a < s.heap.size → ¬ (fun q : Nat => s.heap.size ≤ q) a := fun a h => Nat.not_le.mpr h
    have z0 : mm_Zt "LeftShoes$World" "BASE_MINUTES" [20, 26, 40, 30] (fun q => s.heap.size ≤ q) s s.heap := st_tab (hts _ ls_0) (hts _ in_w) (hs (.arrayOf (.static "LeftShoes$World" "BASE_MINUTES" "[I") .int) (by decide +kernel)) (hs (.eq (.length (.static "LeftShoes$World" "BASE_MINUTES" "[I")) (.int 4)) (by decide +kernel)) (hs (.eq (.elem (.static "LeftShoes$World" "BASE_MINUTES" "[I") (.int 0)) (.int 20)) (by decide +kernel)) (hs (.eq (.elem (.static "LeftShoes$World" "BASE_MINUTES" "[I") (.int 1)) (.int 26)) (by decide +kernel)) (hs (.eq (.elem (.static "LeftShoes$World" "BASE_MINUTES" "[I") (.int 2)) (.int 40)) (by decide +kernel)) (hs (.eq (.elem (.static "LeftShoes$World" "BASE_MINUTES" "[I") (.int 3)) (.int 30)) (by decide +kernel)) hO
    have z1 : mm_Zt "LeftShoes$World" "MUD_MINUTES" [1, 1, 2, 3] (fun q => s.heap.size ≤ q) s s.heap := st_tab (hts _ ls_1) (hts _ in_w) (hs (.arrayOf (.static "LeftShoes$World" "MUD_MINUTES" "[I") .int) (by decide +kernel)) (hs (.eq (.length (.static "LeftShoes$World" "MUD_MINUTES" "[I")) (.int 4)) (by decide +kernel)) (hs (.eq (.elem (.static "LeftShoes$World" "MUD_MINUTES" "[I") (.int 0)) (.int 1)) (by decide +kernel)) (hs (.eq (.elem (.static "LeftShoes$World" "MUD_MINUTES" "[I") (.int 1)) (.int 1)) (by decide +kernel)) (hs (.eq (.elem (.static "LeftShoes$World" "MUD_MINUTES" "[I") (.int 2)) (.int 2)) (by decide +kernel)) (hs (.eq (.elem (.static "LeftShoes$World" "MUD_MINUTES" "[I") (.int 3)) (.int 3)) (by decide +kernel)) hO
    have z2 : mm_Zt "LeftShoes$Walk" "TIMES_A" [1, 0, 0, 0] (fun q => s.heap.size ≤ q) s s.heap := st_tab (hts _ ls_2) (hts _ in_k) (hs (.arrayOf (.static "LeftShoes$Walk" "TIMES_A" "[I") .int) (by decide +kernel)) (hs (.eq (.length (.static "LeftShoes$Walk" "TIMES_A" "[I")) (.int 4)) (by decide +kernel)) (hs (.eq (.elem (.static "LeftShoes$Walk" "TIMES_A" "[I") (.int 0)) (.int 1)) (by decide +kernel)) (hs (.eq (.elem (.static "LeftShoes$Walk" "TIMES_A" "[I") (.int 1)) (.int 0)) (by decide +kernel)) (hs (.eq (.elem (.static "LeftShoes$Walk" "TIMES_A" "[I") (.int 2)) (.int 0)) (by decide +kernel)) (hs (.eq (.elem (.static "LeftShoes$Walk" "TIMES_A" "[I") (.int 3)) (.int 0)) (by decide +kernel)) hO
    have z3 : mm_Zt "LeftShoes$Walk" "TIMES_B" [1, 1, 2, 0] (fun q => s.heap.size ≤ q) s s.heap := st_tab (hts _ ls_3) (hts _ in_k) (hs (.arrayOf (.static "LeftShoes$Walk" "TIMES_B" "[I") .int) (by decide +kernel)) (hs (.eq (.length (.static "LeftShoes$Walk" "TIMES_B" "[I")) (.int 4)) (by decide +kernel)) (hs (.eq (.elem (.static "LeftShoes$Walk" "TIMES_B" "[I") (.int 0)) (.int 1)) (by decide +kernel)) (hs (.eq (.elem (.static "LeftShoes$Walk" "TIMES_B" "[I") (.int 1)) (.int 1)) (by decide +kernel)) (hs (.eq (.elem (.static "LeftShoes$Walk" "TIMES_B" "[I") (.int 2)) (.int 2)) (by decide +kernel)) (hs (.eq (.elem (.static "LeftShoes$Walk" "TIMES_B" "[I") (.int 3)) (.int 0)) (by decide +kernel)) hO
    have z4 : mm_Zt "LeftShoes$Walk" "TIMES_C" [0, 1, 0, 0] (fun q => s.heap.size ≤ q) s s.heap := st_tab (hts _ ls_4) (hts _ in_k) (hs (.arrayOf (.static "LeftShoes$Walk" "TIMES_C" "[I") .int) (by decide +kernel)) (hs (.eq (.length (.static "LeftShoes$Walk" "TIMES_C" "[I")) (.int 4)) (by decide +kernel)) (hs (.eq (.elem (.static "LeftShoes$Walk" "TIMES_C" "[I") (.int 0)) (.int 0)) (by decide +kernel)) (hs (.eq (.elem (.static "LeftShoes$Walk" "TIMES_C" "[I") (.int 1)) (.int 1)) (by decide +kernel)) (hs (.eq (.elem (.static "LeftShoes$Walk" "TIMES_C" "[I") (.int 2)) (.int 0)) (by decide +kernel)) (hs (.eq (.elem (.static "LeftShoes$Walk" "TIMES_C" "[I") (.int 3)) (.int 0)) (by decide +kernel)) hO
    exact ⟨⟨z0, z1, z2, z3, z4⟩, va_Nw.of rfl (hts _ zn_RX0), va_Nw.of rfl (hts _ zn_RX6), va_Nw.of rfl (hts _ zn_RX8), va_Nw.of rfl (hts _ zn_RX10)⟩
  have hS : va_S (fun q : Nat => s.heap.size ≤ q) s.heap s.heap [] := va_S.rf
  have hP : va_P (dC, dI) vwCl [] s.heap := fun k q h => by simp at h
  have hD : va_D (fun q : Nat => s.heap.size ≤ q) [] := ⟨fun i j p q h => by simp at h, fun k q h => by simp at h⟩
  have hl := lv_entry ([.ref b]) (n := 4) (Nat.le_of_ble_eq_true rfl)
  rw [lg_entry_eq]
  generalize (lg_sl ([.ref b]) ++ List.replicate (4 - (lg_sl ([.ref b])).length) Slot.unset).toArray = ls at hl ⊢
  have hl : lv_has ls 4 [(0, .ref b)] := hl
  refine va_new (ci := 11) (fs := [.null, .null, .int 0, .null, .null, .null, .null, .null, .null]) (C := RX11) (T := TX11) (N := 9) hx hb hts wk_wsX110 tyX11 tyX11_ok hown (htl (.classLink RL 7 RX11) (List.mem_of_getElem? (i := 0) (by decide +kernel))) (hts _ mi_11) (htl (.initialized RX11) (List.mem_of_getElem? (i := 2) (by decide +kernel))) hKK hP hD hS hA rfl (fun j hj => by rcases (show j = 0 ∨ j = 1 ∨ j = 2 ∨ j = 3 ∨ j = 4 ∨ j = 5 ∨ j = 6 ∨ j = 7 ∨ j = 8 by omega) with rfl | rfl | rfl | rfl | rfl | rfl | rfl | rfl | rfl <;> rfl) (Nat.le_of_ble_eq_true rfl) (Nat.le_of_ble_eq_true rfl) dL_law_0 (fun q0 H hP hD hS => ?_)
  refine W.widen (k := 1) (n := 9) (Nat.le_of_ble_eq_true rfl) (Nat.le_of_ble_eq_true rfl) ?_
  refine lv_dup hx hb dL_law_3 rfl ?_
  refine cn_after (ws := []) (e0 := (.inr (11, [.null, .null, .int 0, .null, .null, .null, .null, .null, .null]))) (va_runI (As := []) (rest := [.ref q0]) ⟨hx, hb, hml, hown, htl⟩ (c_X11_init l (dC, dI) cy q0 H.size) (cwI 0 htl gL_law_X11_init rfl rfl rfl (htl (.initialized RX11) (List.mem_of_getElem? (i := 2) (by decide +kernel))) (htl (.methodLink RL 9 yX11_init) (List.mem_of_getElem? (i := 7) (by decide +kernel))) (htl (.instanceMethod yX11_init) (List.mem_of_getElem? (i := 8) (by decide +kernel))) rfl (by decide +kernel) ⟨Nat.le_of_ble_eq_true rfl, Nat.le_of_ble_eq_true rfl⟩) (cn_preS hKK hCZ (cn_last (ws := []) hP)) rfl rfl hl.1 rfl (Nat.le_of_ble_eq_true rfl) dL_law_4 ⟨Nat.le_of_ble_eq_true rfl, Nat.le_of_ble_eq_true rfl⟩) hP hD hS hA (fun adC H9 locs9 eC hP9 hD9 hS9 => ?_)
  clear hP hD hS
  subst eC
  have hP : va_P (dC, dI) vwCl (mm_L TC adC cy gC) H9 := hP9
  have hD : va_D (fun q : Nat => s.heap.size ≤ q) (mm_L TC adC cy gC) := hD9
  have hS := hS9
  clear hP9 hD9 hS9
  refine lv_astore_n (lv' := [(1, .ref (adC 0)), (0, .ref b)]) hx hb dL_law_7 rfl hl (by decide) rfl (fun ls hl => ?_)
  refine va_new (ci := 12) (fs := [.null, .null, .int 0, .null, .int 0, .null, .null, .null, .int 0, .null, .null, .null, .null, .null, .null, .null, .null, .null, .null, .int 0, .int 0, .null, .null, .int 0, .int 0, .null]) (C := RX12) (T := TX12) (N := 26) hx hb hts wk_wsX120 tyX12 tyX12_ok hown (htl (.classLink RL 10 RX12) (List.mem_of_getElem? (i := 3) (by decide +kernel))) (hts _ mi_12) (htl (.initialized RX12) (List.mem_of_getElem? (i := 5) (by decide +kernel))) hKK hP hD hS hA rfl (fun j hj => by rcases (show j = 0 ∨ j = 1 ∨ j = 2 ∨ j = 3 ∨ j = 4 ∨ j = 5 ∨ j = 6 ∨ j = 7 ∨ j = 8 ∨ j = 9 ∨ j = 10 ∨ j = 11 ∨ j = 12 ∨ j = 13 ∨ j = 14 ∨ j = 15 ∨ j = 16 ∨ j = 17 ∨ j = 18 ∨ j = 19 ∨ j = 20 ∨ j = 21 ∨ j = 22 ∨ j = 23 ∨ j = 24 ∨ j = 25 by omega) with rfl | rfl | rfl | rfl | rfl | rfl | rfl | rfl | rfl | rfl | rfl | rfl | rfl | rfl | rfl | rfl | rfl | rfl | rfl | rfl | rfl | rfl | rfl | rfl | rfl | rfl <;> rfl) (Nat.le_of_ble_eq_true rfl) (Nat.le_of_ble_eq_true rfl) dL_law_8 (fun q8 H hP hD hS => ?_)
  refine W.widen (k := 152) (n := 34036) (Nat.le_of_ble_eq_true rfl) (Nat.le_of_ble_eq_true rfl) ?_
  refine lv_dup hx hb dL_law_11 rfl ?_
  refine cn_after (ws := mm_L TC adC cy gC) (e0 := (.inr (12, [.null, .null, .int 0, .null, .int 0, .null, .null, .null, .int 0, .null, .null, .null, .null, .null, .null, .null, .null, .null, .null, .int 0, .int 0, .null, .null, .int 0, .int 0, .null]))) (va_runI (As := []) (rest := [.ref q8]) ⟨hx, hb, hml, hown, htl⟩ (c_X12_init l (dC, dI) cy q8 H.size) (cwI 0 htl gL_law_X12_init rfl rfl rfl (htl (.initialized RX12) (List.mem_of_getElem? (i := 5) (by decide +kernel))) (htl (.methodLink RL 12 yX12_init) (List.mem_of_getElem? (i := 138) (by decide +kernel))) (htl (.instanceMethod yX12_init) (List.mem_of_getElem? (i := 139) (by decide +kernel))) rfl (by decide +kernel) ⟨Nat.le_of_ble_eq_true rfl, Nat.le_of_ble_eq_true rfl⟩) (cn_preS hKK hCZ (cn_last (ws := mm_L TC adC cy gC) hP)) rfl rfl hl.1 rfl (Nat.le_of_ble_eq_true rfl) dL_law_12 ⟨Nat.le_of_ble_eq_true rfl, Nat.le_of_ble_eq_true rfl⟩) hP hD hS hA (fun adM H9 locs9 eM hP9 hD9 hS9 => ?_)
  clear hP hD hS
  subst eM
  refine lv_astore_n (lv' := [(2, .ref (adM 0)), (1, .ref (adC 0)), (0, .ref b)]) hx hb dL_law_15 rfl hl (by decide) rfl (fun ls hl => ?_)
  refine lv_iconst (v := 0) hx hb dL_law_16 (by decide) ?_
  refine lv_istore_n (lv' := [(3, .int 0), (2, .ref (adM 0)), (1, .ref (adC 0)), (0, .ref b)]) hx hb dL_law_17 rfl hl (by decide) rfl (fun ls hl => ?_)
  have dl := D_left hD9
  have dr := D_right hD9
  have KK : LK (dC, dI) cy adC adM s := ⟨hKK, mm_I_of dl, mm_I_of dr, mm_A_of dl, mm_A_of dr, fun q h1 h2 => by
    have h3 := AN_of hD9
    rw [List.map_append] at h3
    exact (List.pairwise_append.mp h3.1).2.2 q (mm_A_mem h1) q (mm_A_mem h2) rfl, hZ⟩
  have h0 : LI (dC, dI) cy adC adM gC gM0 s H9 locs9 := ⟨P_sub hP9 (fun q hq => List.mem_append_left _ hq), P_sub hP9 (fun q hq => List.mem_append_right _ hq), hS9⟩
  refine W.widen (k := 600000) (n := 7302250) (Nat.le_of_ble_eq_true rfl) (Nat.le_of_ble_eq_true rfl) ?_
  exact law_loop hL C0 KK (L / 7 + 2) 0 gC gM0 H9 locs9 ls 0 (Nat.zero_le L) (by omega) (by omega) h0 rel_0 (lv_sub hl [3, 2, 1, 0] rfl)
