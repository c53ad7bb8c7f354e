/-- the law's loop -/
theorem RL_law : RL = R_law := rfl
set_option maxHeartbeats 4000000 in
set_option maxRecDepth 100000 in
theorem law_loop {p : Program} {l : Launch} {e : Env} {s : State} {m0 : MethodId} {below : List Frame} {meth : Method} {c0 : Code} {D : va_G} {cy : Nat → ClassId} {adC adM : Nat → Nat} {b L : Nat} {xs : Nat → Int32} (hL : L ≤ 3584) (C0 : lw_At p s m0 meth c0 b L xs) (K : LK D cy adC adM s) :
    ∀ (n i : Nat) (c m : Mm) (H : Heap) (locs : List Loc) (ls : Array Slot) (k : Nat), i ≤ L → L + 7 ≤ i + 7 * n → k + n ≤ 999 → LI D cy adC adM c m s H locs → Rel k c m → lv_has ls 4 [(0, .ref b), (1, .ref (adC 0)), (2, .ref (adM 0)), (3, .int (nI i))] → W p l e room_1 s m0 #[Value.ref b] below meth c0 H locs 600000 7302250 (lw_Z below #[Value.ref b] s) (F0 m0 18 ls []) := by
  obtain ⟨hx, hb, hr, hml, hown, hts, hX, hbl, hlocks, hgv⟩ := C0
  have htl : ∀ w ∈ wsL_law, w.before #[Value.ref b] s = true := fun w h => hts w (wsL_law_in w h)
  intro n
  induction n with
  | zero =>
    intro i c m H locs ls k hi hin
    omega
  | succ n ih =>
    intro i c m H locs ls k hi hin hk h hR hl
    refine lv_iload_n hx hb dL_law_18 rfl (lv_at hl 3 rfl) ?_
    refine lv_aload_n hx hb dL_law_19 rfl (lv_at hl 0 rfl) ?_
    refine va_slen hx hb hX hbl (Nat.not_le.mpr hbl) h.2.2 dL_law_20 ?_
    refine lv_bipush (v := 7) hx hb dL_law_21 (by decide) ?_
    refine lv_isub hx hb dL_law_23 ?_
    refine lv_icmp_gt (tgt := 1443) hx hb dL_law_24 (by decide) (fun c_10 => ?_) (fun c_10 => ?_)
    · refine lv_iconst (v := 1) hx hb dL_law_1443 (by decide) ?_
      refine va_forget (fun q hq => h.2.2.2.2 q hq) ?_
      exact lw_ret hx hb hr hlocks dL_law_1444
    · have hi7 : i + 7 ≤ L := by
        rcases Nat.lt_or_ge L 7 with w | w
        · exact absurd ((show ∀ L, L < 7 → ∀ i, i < 7 → Int32.ofNat L - 7 < nI i by decide +kernel) L w i (by omega)) c_10
        · rcases Nat.lt_or_ge (L - 7) i with w2 | w2
          · exact absurd (show nI L - nI 7 < nI i by rw [pk_sub w]; exact nI_lt w2 (by omega)) c_10
          · omega
      refine lv_aload_n hx hb dL_law_27 rfl (lv_at hl 0 rfl) ?_
      refine lv_iload_n hx hb dL_law_28 rfl (lv_at hl 3 rfl) ?_
      refine lw_ld (i := i) (k := 0) hx hb hX hbl h rfl (by omega) hL dL_law_29 ?_
      refine lv_bipush (v := 31) hx hb dL_law_30 (by decide) ?_
      refine lv_iand hx hb dL_law_32 ?_
      have nxt : ∀ (c' m' : Mm) (H : Heap) (locs : List Loc), LI D cy adC adM c' m' s H locs → Rel (k + 1) c' m' → W p l e room_1 s m0 #[Value.ref b] below meth c0 H locs 600000 7302250 (lw_Z below #[Value.ref b] s) (F0 m0 1437 ls []) := fun c' m' H locs h hR => by
        refine lv_iinc (v := nI (i + 7)) (lv' := [(3, .int (nI (i + 7))), (0, .ref b), (1, .ref (adC 0)), (2, .ref (adM 0))]) hx hb dL_law_1437 hl (k := 3) rfl (nI_add i 7) (by decide) rfl (fun ls hl => ?_)
        refine lv_goto (tgt := 18) hx hb dL_law_1440 (by decide) ?_
        exact ih (i + 7) c' m' H locs ls (k + 1) hi7 (by omega) (by omega) h hR (lv_sub hl [1, 2, 3, 0] rfl)
      obtain ⟨j, hj, ej⟩ := pk_andE (xs (i + 0)) (m := 31) 5 (by decide)
      rw [ej]
      have hj : j < 32 := hj
      rcases (show j = 0 ∨ j = 1 ∨ j = 2 ∨ j = 3 ∨ j = 4 ∨ j = 5 ∨ j = 6 ∨ j = 7 ∨ j = 8 ∨ j = 9 ∨ j = 10 ∨ j = 11 ∨ j = 12 ∨ j = 13 ∨ j = 14 ∨ j = 15 ∨ j = 16 ∨ j = 17 ∨ j = 18 ∨ j = 19 ∨ j = 20 ∨ j = 21 ∨ j = 22 ∨ j = 23 ∨ j = 24 ∨ j = 25 ∨ j = 26 ∨ j = 27 ∨ j = 28 ∨ j = 29 ∨ j = 30 ∨ j = 31 by omega) with rfl | rfl | rfl | rfl | rfl | rfl | rfl | rfl | rfl | rfl | rfl | rfl | rfl | rfl | rfl | rfl | rfl | rfl | rfl | rfl | rfl | rfl | rfl | rfl | rfl | rfl | rfl | rfl | rfl | rfl | rfl | rfl
      · refine lv_tableIn (off := 139) (tgt := 172) hx hb dL_law_33 (by decide) (by decide) rfl (by decide) ?_
        exact case_0 hx hb hml hown htl hX hbl hL K h hR (by omega) (by omega) hl (fun c' m' H locs h hR => nxt c' m' H locs h hR)
      · refine lv_tableIn (off := 172) (tgt := 205) hx hb dL_law_33 (by decide) (by decide) rfl (by decide) ?_
        exact case_1 hx hb hml hown htl hX hbl hL K h hR (by omega) (by omega) hl (fun c' m' H locs h hR => nxt c' m' H locs h hR)
      · refine lv_tableIn (off := 225) (tgt := 258) hx hb dL_law_33 (by decide) (by decide) rfl (by decide) ?_
        exact case_2 hx hb hml hown htl hX hbl hL K h hR (by omega) (by omega) hl (fun c' m' H locs h hR => nxt c' m' H locs h hR)
      · refine lv_tableIn (off := 258) (tgt := 291) hx hb dL_law_33 (by decide) (by decide) rfl (by decide) ?_
        exact case_3 hx hb hml hown htl hX hbl hL K h hR (by omega) (by omega) hl (fun c' m' H locs h hR => nxt c' m' H locs h hR)
      · refine lv_tableIn (off := 307) (tgt := 340) hx hb dL_law_33 (by decide) (by decide) rfl (by decide) ?_
        exact case_4 hx hb hml hown htl hX hbl hL K h hR (by omega) (by omega) hl (fun c' m' H locs h hR => nxt c' m' H locs h hR)
      · refine lv_tableIn (off := 340) (tgt := 373) hx hb dL_law_33 (by decide) (by decide) rfl (by decide) ?_
        exact case_5 hx hb hml hown htl hX hbl hL K h hR (by omega) (by omega) hl (fun c' m' H locs h hR => nxt c' m' H locs h hR)
      · refine lv_tableIn (off := 373) (tgt := 406) hx hb dL_law_33 (by decide) (by decide) rfl (by decide) ?_
        exact case_6 hx hb hml hown htl hX hbl hL K h hR (by omega) (by omega) hl (fun c' m' H locs h hR => nxt c' m' H locs h hR)
      · refine lv_tableIn (off := 406) (tgt := 439) hx hb dL_law_33 (by decide) (by decide) rfl (by decide) ?_
        exact case_7 hx hb hml hown htl hX hbl hL K h hR (by omega) (by omega) hl (fun c' m' H locs h hR => nxt c' m' H locs h hR)
      · refine lv_tableIn (off := 449) (tgt := 482) hx hb dL_law_33 (by decide) (by decide) rfl (by decide) ?_
        exact case_8 hx hb hml hown htl hX hbl hL K h hR (by omega) (by omega) hl (fun c' m' H locs h hR => nxt c' m' H locs h hR)
      · refine lv_tableIn (off := 512) (tgt := 545) hx hb dL_law_33 (by decide) (by decide) rfl (by decide) ?_
        exact case_9 hx hb hml hown htl hX hbl hL K h hR (by omega) (by omega) hl (fun c' m' H locs h hR => nxt c' m' H locs h hR)
      · refine lv_tableIn (off := 525) (tgt := 558) hx hb dL_law_33 (by decide) (by decide) rfl (by decide) ?_
        exact case_10 hx hb hml hown htl hX hbl hL K h hR (by omega) (by omega) hl (fun c' m' H locs h hR => nxt c' m' H locs h hR)
      · refine lv_tableIn (off := 538) (tgt := 571) hx hb dL_law_33 (by decide) (by decide) rfl (by decide) ?_
        exact case_11 hx hb hml hown htl hX hbl hL K h hR (by omega) (by omega) hl (fun c' m' H locs h hR => nxt c' m' H locs h hR)
      · refine lv_tableIn (off := 561) (tgt := 594) hx hb dL_law_33 (by decide) (by decide) rfl (by decide) ?_
        exact case_12 hx hb hml hown htl hX hbl hL K h hR (by omega) (by omega) hl (fun c' m' H locs h hR => nxt c' m' H locs h hR)
      · refine lv_tableIn (off := 614) (tgt := 647) hx hb dL_law_33 (by decide) (by decide) rfl (by decide) ?_
        exact case_13 hx hb hml hown htl hX hbl hL K h hR (by omega) (by omega) hl (fun c' m' H locs h hR => nxt c' m' H locs h hR)
      · refine lv_tableIn (off := 689) (tgt := 722) hx hb dL_law_33 (by decide) (by decide) rfl (by decide) ?_
        exact case_14 hx hb hml hown htl hX hbl hL K h hR (by omega) (by omega) hl (fun c' m' H locs h hR => nxt c' m' H locs h hR)
      · refine lv_tableIn (off := 752) (tgt := 785) hx hb dL_law_33 (by decide) (by decide) rfl (by decide) ?_
        exact case_15 hx hb hml hown htl hX hbl hL K h hR (by omega) (by omega) hl (fun c' m' H locs h hR => nxt c' m' H locs h hR)
      · refine lv_tableIn (off := 795) (tgt := 828) hx hb dL_law_33 (by decide) (by decide) rfl (by decide) ?_
        exact case_16 hx hb hml hown htl hX hbl hL K h hR (by omega) (by omega) hl (fun c' m' H locs h hR => nxt c' m' H locs h hR)
      · refine lv_tableIn (off := 838) (tgt := 871) hx hb dL_law_33 (by decide) (by decide) rfl (by decide) ?_
        exact case_17 hx hb hml hown htl hX hbl hL K h hR (by omega) (by omega) hl (fun c' m' H locs h hR => nxt c' m' H locs h hR)
      · refine lv_tableIn (off := 871) (tgt := 904) hx hb dL_law_33 (by decide) (by decide) rfl (by decide) ?_
        exact case_18 hx hb hml hown htl hX hbl hL K h hR (by omega) (by omega) hl (fun c' m' H locs h hR => nxt c' m' H locs h hR)
      · refine lv_tableIn (off := 904) (tgt := 937) hx hb dL_law_33 (by decide) (by decide) rfl (by decide) ?_
        exact case_19 hx hb hml hown htl hX hbl hL K h hR (by omega) (by omega) hl (fun c' m' H locs h hR => nxt c' m' H locs h hR)
      · refine lv_tableIn (off := 947) (tgt := 980) hx hb dL_law_33 (by decide) (by decide) rfl (by decide) ?_
        exact case_20 hx hb hml hown htl hX hbl hL K h hR (by omega) (by omega) hl (fun c' m' H locs h hR => nxt c' m' H locs h hR)
      · refine lv_tableIn (off := 960) (tgt := 993) hx hb dL_law_33 (by decide) (by decide) rfl (by decide) ?_
        exact case_21 hx hb hml hown htl hX hbl hL K h hR (by omega) (by omega) hl (fun c' m' H locs h hR => nxt c' m' H locs h hR)
      · refine lv_tableIn (off := 993) (tgt := 1026) hx hb dL_law_33 (by decide) (by decide) rfl (by decide) ?_
        exact case_22 hx hb hml hown htl hX hbl hL K h hR (by omega) (by omega) hl (fun c' m' H locs h hR => nxt c' m' H locs h hR)
      · refine lv_tableIn (off := 1006) (tgt := 1039) hx hb dL_law_33 (by decide) (by decide) rfl (by decide) ?_
        exact case_23 hx hb hml hown htl hX hbl hL K h hR (by omega) (by omega) hl (fun c' m' H locs h hR => nxt c' m' H locs h hR)
      · refine lv_tableIn (off := 1019) (tgt := 1052) hx hb dL_law_33 (by decide) (by decide) rfl (by decide) ?_
        exact case_24 hx hb hml hown htl hX hbl hL K h hR (by omega) (by omega) hl (fun c' m' H locs h hR => nxt c' m' H locs h hR)
      · refine lv_tableIn (off := 1094) (tgt := 1127) hx hb dL_law_33 (by decide) (by decide) rfl (by decide) ?_
        exact case_25 hx hb hml hown htl hX hbl hL K h hR (by omega) (by omega) hl (fun c' m' H locs h hR => nxt c' m' H locs h hR)
      · refine lv_tableIn (off := 1169) (tgt := 1202) hx hb dL_law_33 (by decide) (by decide) rfl (by decide) ?_
        exact case_26 hx hb hml hown htl hX hbl hL K h hR (by omega) (by omega) hl (fun c' m' H locs h hR => nxt c' m' H locs h hR)
      · refine lv_tableIn (off := 1222) (tgt := 1255) hx hb dL_law_33 (by decide) (by decide) rfl (by decide) ?_
        exact case_27 hx hb hml hown htl hX hbl hL K h hR (by omega) (by omega) hl (fun c' m' H locs h hR => nxt c' m' H locs h hR)
      · refine lv_tableIn (off := 1265) (tgt := 1298) hx hb dL_law_33 (by decide) (by decide) rfl (by decide) ?_
        exact case_28 hx hb hml hown htl hX hbl hL K h hR (by omega) (by omega) hl (fun c' m' H locs h hR => nxt c' m' H locs h hR)
      · refine lv_tableIn (off := 1288) (tgt := 1321) hx hb dL_law_33 (by decide) (by decide) rfl (by decide) ?_
        exact case_29 hx hb hml hown htl hX hbl hL K h hR (by omega) (by omega) hl (fun c' m' H locs h hR => nxt c' m' H locs h hR)
      · refine lv_tableIn (off := 1341) (tgt := 1374) hx hb dL_law_33 (by decide) (by decide) rfl (by decide) ?_
        exact case_30 hx hb hml hown htl hX hbl hL K h hR (by omega) (by omega) hl (fun c' m' H locs h hR => nxt c' m' H locs h hR)
      · refine lv_tableOut (tgt := 1437) hx hb dL_law_33 (by decide) (by decide) ?_
        exact nxt c m H locs h hR.next
