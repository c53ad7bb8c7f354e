set_option maxHeartbeats 4000000 in
set_option maxRecDepth 100000 in
theorem case_16 {p : Program} {l : Launch} {e : Env} {s : State} {m0 : MethodId} {args : Array Value} {below : List Frame} {meth : Method} {c0 : Code} {H : Heap} {locs : List Loc} {Q : State → Prop} {ls : Array Slot} {D : va_G} {cy : Nat → ClassId} {adC adM : Nat → Nat} {c m : Mm} {b L n i : Nat} {xs : Nat → Int32} (hx : p.tables.exec = Jvm.exec) (hb : c0.code = code) (hml : c0.maxLocals = 4) (hown : s.vm.findClass RL = some m0.cls) (hts : ∀ w ∈ wsL_law, w.before args s = true) (hX : va_X b L xs s s.heap) (hbl : b < s.heap.size) (hL : L ≤ 3584) (K : LK D cy adC adM s) (h : LI D cy adC adM c m s H locs) (hR : Rel n c m) (hn : n < 999999) (hi : i + 6 < L) (hl : lv_has ls 4 [(0, .ref b), (1, .ref (adC 0)), (2, .ref (adM 0)), (3, .int (nI i))])
    (kk : ∀ (c' m' : Mm) (H : Heap) (locs : List Loc), LI D cy adC adM c' m' s H locs → Rel (n + 1) c' m' → W p l e room_1 s m0 args below meth c0 H locs 600000 7302250 Q (F0 m0 1437 ls [])) : W p l e room_1 s m0 args below meth c0 H locs 600000 7302250 Q (F0 m0 828 ls []) := by
  obtain ⟨r, c', m', e1, e2, R1⟩ := sim_unseen hR (xs (i + 1)) (xs (i + 2)) (xs (i + 3))
  refine lv_aload_n hx hb dL_law_828 rfl (lv_at hl 1 rfl) ?_
  refine lv_aload_n hx hb dL_law_829 rfl (lv_at hl 0 rfl) ?_
  refine lv_iload_n hx hb dL_law_830 rfl (lv_at hl 3 rfl) ?_
  refine lv_iconst (v := 1) hx hb dL_law_831 (by decide) ?_
  refine lv_iadd hx hb dL_law_832 ?_
  refine lw_ld (i := i) (k := 1) hx hb hX hbl h (nI_add i 1) (by omega) hL dL_law_833 ?_
  refine lv_aload_n hx hb dL_law_834 rfl (lv_at hl 0 rfl) ?_
  refine lv_iload_n hx hb dL_law_835 rfl (lv_at hl 3 rfl) ?_
  refine lv_iconst (v := 2) hx hb dL_law_836 (by decide) ?_
  refine lv_iadd hx hb dL_law_837 ?_
  refine lw_ld (i := i) (k := 2) hx hb hX hbl h (nI_add i 2) (by omega) hL dL_law_838 ?_
  refine lv_aload_n hx hb dL_law_839 rfl (lv_at hl 0 rfl) ?_
  refine lv_iload_n hx hb dL_law_840 rfl (lv_at hl 3 rfl) ?_
  refine lv_iconst (v := 3) hx hb dL_law_841 (by decide) ?_
  refine lv_iadd hx hb dL_law_842 ?_
  refine lw_ld (i := i) (k := 3) hx hb hX hbl h (nI_add i 3) (by omega) hL dL_law_843 ?_
  refine lc_C (c' := c') K h (va_runV (As := [.int (xs (i + 1)), .int (xs (i + 2)), .int (xs (i + 3))]) (rest := []) ⟨hx, hb, hml, hown, hts⟩ (c_X11_unseen l D adC cy (xs (i + 1)) (xs (i + 2)) (xs (i + 3)) c rfl r c' e1) (cwV 3 hts gL_law_X11_unseen rfl rfl rfl (by decide +kernel) ⟨Nat.le_of_ble_eq_true rfl, Nat.le_of_ble_eq_true rfl⟩) (lp_C K h) rfl rfl hl.1 rfl (lv_room (Nat.le_of_ble_eq_true rfl)) dL_law_844 ⟨Nat.le_of_ble_eq_true rfl, Nat.le_of_ble_eq_true rfl⟩) (fun H locs h => ?_)
  refine lv_aload_n hx hb dL_law_847 rfl (lv_at hl 2 rfl) ?_
  refine lv_aload_n hx hb dL_law_848 rfl (lv_at hl 0 rfl) ?_
  refine lv_iload_n hx hb dL_law_849 rfl (lv_at hl 3 rfl) ?_
  refine lv_iconst (v := 1) hx hb dL_law_850 (by decide) ?_
  refine lv_iadd hx hb dL_law_851 ?_
  refine lw_ld (i := i) (k := 1) hx hb hX hbl h (nI_add i 1) (by omega) hL dL_law_852 ?_
  refine lv_aload_n hx hb dL_law_853 rfl (lv_at hl 0 rfl) ?_
  refine lv_iload_n hx hb dL_law_854 rfl (lv_at hl 3 rfl) ?_
  refine lv_iconst (v := 2) hx hb dL_law_855 (by decide) ?_
  refine lv_iadd hx hb dL_law_856 ?_
  refine lw_ld (i := i) (k := 2) hx hb hX hbl h (nI_add i 2) (by omega) hL dL_law_857 ?_
  refine lv_aload_n hx hb dL_law_858 rfl (lv_at hl 0 rfl) ?_
  refine lv_iload_n hx hb dL_law_859 rfl (lv_at hl 3 rfl) ?_
  refine lv_iconst (v := 3) hx hb dL_law_860 (by decide) ?_
  refine lv_iadd hx hb dL_law_861 ?_
  refine lw_ld (i := i) (k := 3) hx hb hX hbl h (nI_add i 3) (by omega) hL dL_law_862 ?_
  refine lc_M (m' := m') K h (va_runV (As := [.int (xs (i + 1)), .int (xs (i + 2)), .int (xs (i + 3))]) (rest := [.int r]) ⟨hx, hb, hml, hown, hts⟩ (c_X12_unseen l D adM cy (xs (i + 1)) (xs (i + 2)) (xs (i + 3)) m rfl r m' e2) (cwV 3 hts gL_law_X12_unseen rfl rfl rfl (by decide +kernel) ⟨Nat.le_of_ble_eq_true rfl, Nat.le_of_ble_eq_true rfl⟩) (lp_M K h) rfl rfl hl.1 rfl (lv_room (Nat.le_of_ble_eq_true rfl)) dL_law_863 ⟨Nat.le_of_ble_eq_true rfl, Nat.le_of_ble_eq_true rfl⟩) (fun H locs h => ?_)
  refine lv_icmp_eq (tgt := 1437) hx hb dL_law_866 (by decide) (fun c_1 => ?_) (fun c_1 => ?_)
  · exact kk c' m' H locs h R1
  · exact absurd rfl c_1
set_option maxHeartbeats 4000000 in
set_option maxRecDepth 100000 in
theorem case_17 {p : Program} {l : Launch} {e : Env} {s : State} {m0 : MethodId} {args : Array Value} {below : List Frame} {meth : Method} {c0 : Code} {H : Heap} {locs : List Loc} {Q : State → Prop} {ls : Array Slot} {D : va_G} {cy : Nat → ClassId} {adC adM : Nat → Nat} {c m : Mm} {b L n i : Nat} {xs : Nat → Int32} (hx : p.tables.exec = Jvm.exec) (hb : c0.code = code) (hml : c0.maxLocals = 4) (hown : s.vm.findClass RL = some m0.cls) (hts : ∀ w ∈ wsL_law, w.before args s = true) (hX : va_X b L xs s s.heap) (hbl : b < s.heap.size) (hL : L ≤ 3584) (K : LK D cy adC adM s) (h : LI D cy adC adM c m s H locs) (hR : Rel n c m) (hn : n < 999999) (hi : i + 6 < L) (hl : lv_has ls 4 [(0, .ref b), (1, .ref (adC 0)), (2, .ref (adM 0)), (3, .int (nI i))])
    (kk : ∀ (c' m' : Mm) (H : Heap) (locs : List Loc), LI D cy adC adM c' m' s H locs → Rel (n + 1) c' m' → W p l e room_1 s m0 args below meth c0 H locs 600000 7302250 Q (F0 m0 1437 ls [])) : W p l e room_1 s m0 args below meth c0 H locs 600000 7302250 Q (F0 m0 871 ls []) := by
  obtain ⟨r, c', m', e1, e2, R1⟩ := sim_paths hR (xs (i + 1)) (xs (i + 2))
  refine lv_aload_n hx hb dL_law_871 rfl (lv_at hl 1 rfl) ?_
  refine lv_aload_n hx hb dL_law_872 rfl (lv_at hl 0 rfl) ?_
  refine lv_iload_n hx hb dL_law_873 rfl (lv_at hl 3 rfl) ?_
  refine lv_iconst (v := 1) hx hb dL_law_874 (by decide) ?_
  refine lv_iadd hx hb dL_law_875 ?_
  refine lw_ld (i := i) (k := 1) hx hb hX hbl h (nI_add i 1) (by omega) hL dL_law_876 ?_
  refine lv_aload_n hx hb dL_law_877 rfl (lv_at hl 0 rfl) ?_
  refine lv_iload_n hx hb dL_law_878 rfl (lv_at hl 3 rfl) ?_
  refine lv_iconst (v := 2) hx hb dL_law_879 (by decide) ?_
  refine lv_iadd hx hb dL_law_880 ?_
  refine lw_ld (i := i) (k := 2) hx hb hX hbl h (nI_add i 2) (by omega) hL dL_law_881 ?_
  refine lc_C (c' := c') K h (va_runV (As := [.int (xs (i + 1)), .int (xs (i + 2))]) (rest := []) ⟨hx, hb, hml, hown, hts⟩ (c_X11_paths l D adC cy (xs (i + 1)) (xs (i + 2)) c rfl r c' e1) (cwV 2 hts gL_law_X11_paths rfl rfl rfl (by decide +kernel) ⟨Nat.le_of_ble_eq_true rfl, Nat.le_of_ble_eq_true rfl⟩) (lp_C K h) rfl rfl hl.1 rfl (lv_room (Nat.le_of_ble_eq_true rfl)) dL_law_882 ⟨Nat.le_of_ble_eq_true rfl, Nat.le_of_ble_eq_true rfl⟩) (fun H locs h => ?_)
  refine lv_aload_n hx hb dL_law_885 rfl (lv_at hl 2 rfl) ?_
  refine lv_aload_n hx hb dL_law_886 rfl (lv_at hl 0 rfl) ?_
  refine lv_iload_n hx hb dL_law_887 rfl (lv_at hl 3 rfl) ?_
  refine lv_iconst (v := 1) hx hb dL_law_888 (by decide) ?_
  refine lv_iadd hx hb dL_law_889 ?_
  refine lw_ld (i := i) (k := 1) hx hb hX hbl h (nI_add i 1) (by omega) hL dL_law_890 ?_
  refine lv_aload_n hx hb dL_law_891 rfl (lv_at hl 0 rfl) ?_
  refine lv_iload_n hx hb dL_law_892 rfl (lv_at hl 3 rfl) ?_
  refine lv_iconst (v := 2) hx hb dL_law_893 (by decide) ?_
  refine lv_iadd hx hb dL_law_894 ?_
  refine lw_ld (i := i) (k := 2) hx hb hX hbl h (nI_add i 2) (by omega) hL dL_law_895 ?_
  refine lc_M (m' := m') K h (va_runV (As := [.int (xs (i + 1)), .int (xs (i + 2))]) (rest := [.int r]) ⟨hx, hb, hml, hown, hts⟩ (c_X12_paths l D adM cy (xs (i + 1)) (xs (i + 2)) m rfl r m' e2) (cwV 2 hts gL_law_X12_paths rfl rfl rfl (by decide +kernel) ⟨Nat.le_of_ble_eq_true rfl, Nat.le_of_ble_eq_true rfl⟩) (lp_M K h) rfl rfl hl.1 rfl (lv_room (Nat.le_of_ble_eq_true rfl)) dL_law_896 ⟨Nat.le_of_ble_eq_true rfl, Nat.le_of_ble_eq_true rfl⟩) (fun H locs h => ?_)
  refine lv_icmp_eq (tgt := 1437) hx hb dL_law_899 (by decide) (fun c_1 => ?_) (fun c_1 => ?_)
  · exact kk c' m' H locs h R1
  · exact absurd rfl c_1
set_option maxHeartbeats 4000000 in
set_option maxRecDepth 100000 in
theorem case_18 {p : Program} {l : Launch} {e : Env} {s : State} {m0 : MethodId} {args : Array Value} {below : List Frame} {meth : Method} {c0 : Code} {H : Heap} {locs : List Loc} {Q : State → Prop} {ls : Array Slot} {D : va_G} {cy : Nat → ClassId} {adC adM : Nat → Nat} {c m : Mm} {b L n i : Nat} {xs : Nat → Int32} (hx : p.tables.exec = Jvm.exec) (hb : c0.code = code) (hml : c0.maxLocals = 4) (hown : s.vm.findClass RL = some m0.cls) (hts : ∀ w ∈ wsL_law, w.before args s = true) (hX : va_X b L xs s s.heap) (hbl : b < s.heap.size) (hL : L ≤ 3584) (K : LK D cy adC adM s) (h : LI D cy adC adM c m s H locs) (hR : Rel n c m) (hn : n < 999999) (hi : i + 6 < L) (hl : lv_has ls 4 [(0, .ref b), (1, .ref (adC 0)), (2, .ref (adM 0)), (3, .int (nI i))])
    (kk : ∀ (c' m' : Mm) (H : Heap) (locs : List Loc), LI D cy adC adM c' m' s H locs → Rel (n + 1) c' m' → W p l e room_1 s m0 args below meth c0 H locs 600000 7302250 Q (F0 m0 1437 ls [])) : W p l e room_1 s m0 args below meth c0 H locs 600000 7302250 Q (F0 m0 904 ls []) := by
  obtain ⟨r, c', m', e1, e2, R1⟩ := sim_buyer hR (xs (i + 1)) (xs (i + 2))
  refine lv_aload_n hx hb dL_law_904 rfl (lv_at hl 1 rfl) ?_
  refine lv_aload_n hx hb dL_law_905 rfl (lv_at hl 0 rfl) ?_
  refine lv_iload_n hx hb dL_law_906 rfl (lv_at hl 3 rfl) ?_
  refine lv_iconst (v := 1) hx hb dL_law_907 (by decide) ?_
  refine lv_iadd hx hb dL_law_908 ?_
  refine lw_ld (i := i) (k := 1) hx hb hX hbl h (nI_add i 1) (by omega) hL dL_law_909 ?_
  refine lv_aload_n hx hb dL_law_910 rfl (lv_at hl 0 rfl) ?_
  refine lv_iload_n hx hb dL_law_911 rfl (lv_at hl 3 rfl) ?_
  refine lv_iconst (v := 2) hx hb dL_law_912 (by decide) ?_
  refine lv_iadd hx hb dL_law_913 ?_
  refine lw_ld (i := i) (k := 2) hx hb hX hbl h (nI_add i 2) (by omega) hL dL_law_914 ?_
  refine lc_C (c' := c') K h (va_runV (As := [.int (xs (i + 1)), .int (xs (i + 2))]) (rest := []) ⟨hx, hb, hml, hown, hts⟩ (c_X11_buyer l D adC cy (xs (i + 1)) (xs (i + 2)) c rfl r c' e1) (cwV 2 hts gL_law_X11_buyer rfl rfl rfl (by decide +kernel) ⟨Nat.le_of_ble_eq_true rfl, Nat.le_of_ble_eq_true rfl⟩) (lp_C K h) rfl rfl hl.1 rfl (lv_room (Nat.le_of_ble_eq_true rfl)) dL_law_915 ⟨Nat.le_of_ble_eq_true rfl, Nat.le_of_ble_eq_true rfl⟩) (fun H locs h => ?_)
  refine lv_aload_n hx hb dL_law_918 rfl (lv_at hl 2 rfl) ?_
  refine lv_aload_n hx hb dL_law_919 rfl (lv_at hl 0 rfl) ?_
  refine lv_iload_n hx hb dL_law_920 rfl (lv_at hl 3 rfl) ?_
  refine lv_iconst (v := 1) hx hb dL_law_921 (by decide) ?_
  refine lv_iadd hx hb dL_law_922 ?_
  refine lw_ld (i := i) (k := 1) hx hb hX hbl h (nI_add i 1) (by omega) hL dL_law_923 ?_
  refine lv_aload_n hx hb dL_law_924 rfl (lv_at hl 0 rfl) ?_
  refine lv_iload_n hx hb dL_law_925 rfl (lv_at hl 3 rfl) ?_
  refine lv_iconst (v := 2) hx hb dL_law_926 (by decide) ?_
  refine lv_iadd hx hb dL_law_927 ?_
  refine lw_ld (i := i) (k := 2) hx hb hX hbl h (nI_add i 2) (by omega) hL dL_law_928 ?_
  refine lc_M (m' := m') K h (va_runV (As := [.int (xs (i + 1)), .int (xs (i + 2))]) (rest := [.int r]) ⟨hx, hb, hml, hown, hts⟩ (c_X12_buyer l D adM cy (xs (i + 1)) (xs (i + 2)) m rfl r m' e2) (cwV 2 hts gL_law_X12_buyer rfl rfl rfl (by decide +kernel) ⟨Nat.le_of_ble_eq_true rfl, Nat.le_of_ble_eq_true rfl⟩) (lp_M K h) rfl rfl hl.1 rfl (lv_room (Nat.le_of_ble_eq_true rfl)) dL_law_929 ⟨Nat.le_of_ble_eq_true rfl, Nat.le_of_ble_eq_true rfl⟩) (fun H locs h => ?_)
  refine lv_icmp_eq (tgt := 1437) hx hb dL_law_932 (by decide) (fun c_1 => ?_) (fun c_1 => ?_)
  · exact kk c' m' H locs h R1
  · exact absurd rfl c_1
set_option maxHeartbeats 4000000 in
set_option maxRecDepth 100000 in
theorem case_19 {p : Program} {l : Launch} {e : Env} {s : State} {m0 : MethodId} {args : Array Value} {below : List Frame} {meth : Method} {c0 : Code} {H : Heap} {locs : List Loc} {Q : State → Prop} {ls : Array Slot} {D : va_G} {cy : Nat → ClassId} {adC adM : Nat → Nat} {c m : Mm} {b L n i : Nat} {xs : Nat → Int32} (hx : p.tables.exec = Jvm.exec) (hb : c0.code = code) (hml : c0.maxLocals = 4) (hown : s.vm.findClass RL = some m0.cls) (hts : ∀ w ∈ wsL_law, w.before args s = true) (hX : va_X b L xs s s.heap) (hbl : b < s.heap.size) (hL : L ≤ 3584) (K : LK D cy adC adM s) (h : LI D cy adC adM c m s H locs) (hR : Rel n c m) (hn : n < 999999) (hi : i + 6 < L) (hl : lv_has ls 4 [(0, .ref b), (1, .ref (adC 0)), (2, .ref (adM 0)), (3, .int (nI i))])
    (kk : ∀ (c' m' : Mm) (H : Heap) (locs : List Loc), LI D cy adC adM c' m' s H locs → Rel (n + 1) c' m' → W p l e room_1 s m0 args below meth c0 H locs 600000 7302250 Q (F0 m0 1437 ls [])) : W p l e room_1 s m0 args below meth c0 H locs 600000 7302250 Q (F0 m0 937 ls []) := by
  obtain ⟨r, c', e1, e2, R1⟩ := sim_market hR (xs (i + 1)) (xs (i + 2)) (xs (i + 3))
  refine lv_aload_n hx hb dL_law_937 rfl (lv_at hl 1 rfl) ?_
  refine lv_aload_n hx hb dL_law_938 rfl (lv_at hl 0 rfl) ?_
  refine lv_iload_n hx hb dL_law_939 rfl (lv_at hl 3 rfl) ?_
  refine lv_iconst (v := 1) hx hb dL_law_940 (by decide) ?_
  refine lv_iadd hx hb dL_law_941 ?_
  refine lw_ld (i := i) (k := 1) hx hb hX hbl h (nI_add i 1) (by omega) hL dL_law_942 ?_
  refine lv_aload_n hx hb dL_law_943 rfl (lv_at hl 0 rfl) ?_
  refine lv_iload_n hx hb dL_law_944 rfl (lv_at hl 3 rfl) ?_
  refine lv_iconst (v := 2) hx hb dL_law_945 (by decide) ?_
  refine lv_iadd hx hb dL_law_946 ?_
  refine lw_ld (i := i) (k := 2) hx hb hX hbl h (nI_add i 2) (by omega) hL dL_law_947 ?_
  refine lv_aload_n hx hb dL_law_948 rfl (lv_at hl 0 rfl) ?_
  refine lv_iload_n hx hb dL_law_949 rfl (lv_at hl 3 rfl) ?_
  refine lv_iconst (v := 3) hx hb dL_law_950 (by decide) ?_
  refine lv_iadd hx hb dL_law_951 ?_
  refine lw_ld (i := i) (k := 3) hx hb hX hbl h (nI_add i 3) (by omega) hL dL_law_952 ?_
  refine lc_C (c' := c') K h (va_runV (As := [.int (xs (i + 1)), .int (xs (i + 2)), .int (xs (i + 3))]) (rest := []) ⟨hx, hb, hml, hown, hts⟩ (c_X11_market l D adC cy (xs (i + 1)) (xs (i + 2)) (xs (i + 3)) c rfl r c' e1) (cwV 3 hts gL_law_X11_market rfl rfl rfl (by decide +kernel) ⟨Nat.le_of_ble_eq_true rfl, Nat.le_of_ble_eq_true rfl⟩) (lp_C K h) rfl rfl hl.1 rfl (lv_room (Nat.le_of_ble_eq_true rfl)) dL_law_953 ⟨Nat.le_of_ble_eq_true rfl, Nat.le_of_ble_eq_true rfl⟩) (fun H locs h => ?_)
  refine lv_aload_n hx hb dL_law_956 rfl (lv_at hl 2 rfl) ?_
  refine lv_aload_n hx hb dL_law_957 rfl (lv_at hl 0 rfl) ?_
  refine lv_iload_n hx hb dL_law_958 rfl (lv_at hl 3 rfl) ?_
  refine lv_iconst (v := 1) hx hb dL_law_959 (by decide) ?_
  refine lv_iadd hx hb dL_law_960 ?_
  refine lw_ld (i := i) (k := 1) hx hb hX hbl h (nI_add i 1) (by omega) hL dL_law_961 ?_
  refine lv_aload_n hx hb dL_law_962 rfl (lv_at hl 0 rfl) ?_
  refine lv_iload_n hx hb dL_law_963 rfl (lv_at hl 3 rfl) ?_
  refine lv_iconst (v := 2) hx hb dL_law_964 (by decide) ?_
  refine lv_iadd hx hb dL_law_965 ?_
  refine lw_ld (i := i) (k := 2) hx hb hX hbl h (nI_add i 2) (by omega) hL dL_law_966 ?_
  refine lv_aload_n hx hb dL_law_967 rfl (lv_at hl 0 rfl) ?_
  refine lv_iload_n hx hb dL_law_968 rfl (lv_at hl 3 rfl) ?_
  refine lv_iconst (v := 3) hx hb dL_law_969 (by decide) ?_
  refine lv_iadd hx hb dL_law_970 ?_
  refine lw_ld (i := i) (k := 3) hx hb hX hbl h (nI_add i 3) (by omega) hL dL_law_971 ?_
  refine lc_M (m' := m) K h (va_runV (As := [.int (xs (i + 1)), .int (xs (i + 2)), .int (xs (i + 3))]) (rest := [.int r]) ⟨hx, hb, hml, hown, hts⟩ (c_X12_market l D adM cy (xs (i + 1)) (xs (i + 2)) (xs (i + 3)) m rfl r e2) (cwV 3 hts gL_law_X12_market rfl rfl rfl (by decide +kernel) ⟨Nat.le_of_ble_eq_true rfl, Nat.le_of_ble_eq_true rfl⟩) (lp_M K h) rfl rfl hl.1 rfl (lv_room (Nat.le_of_ble_eq_true rfl)) dL_law_972 ⟨Nat.le_of_ble_eq_true rfl, Nat.le_of_ble_eq_true rfl⟩) (fun H locs h => ?_)
  refine lv_icmp_eq (tgt := 1437) hx hb dL_law_975 (by decide) (fun c_1 => ?_) (fun c_1 => ?_)
  · exact kk c' m H locs h R1
  · exact absurd rfl c_1
set_option maxHeartbeats 4000000 in
set_option maxRecDepth 100000 in
theorem case_20 {p : Program} {l : Launch} {e : Env} {s : State} {m0 : MethodId} {args : Array Value} {below : List Frame} {meth : Method} {c0 : Code} {H : Heap} {locs : List Loc} {Q : State → Prop} {ls : Array Slot} {D : va_G} {cy : Nat → ClassId} {adC adM : Nat → Nat} {c m : Mm} {b L n i : Nat} {xs : Nat → Int32} (hx : p.tables.exec = Jvm.exec) (hb : c0.code = code) (hml : c0.maxLocals = 4) (hown : s.vm.findClass RL = some m0.cls) (hts : ∀ w ∈ wsL_law, w.before args s = true) (hX : va_X b L xs s s.heap) (hbl : b < s.heap.size) (hL : L ≤ 3584) (K : LK D cy adC adM s) (h : LI D cy adC adM c m s H locs) (hR : Rel n c m) (hn : n < 999999) (hi : i + 6 < L) (hl : lv_has ls 4 [(0, .ref b), (1, .ref (adC 0)), (2, .ref (adM 0)), (3, .int (nI i))])
    (kk : ∀ (c' m' : Mm) (H : Heap) (locs : List Loc), LI D cy adC adM c' m' s H locs → Rel (n + 1) c' m' → W p l e room_1 s m0 args below meth c0 H locs 600000 7302250 Q (F0 m0 1437 ls [])) : W p l e room_1 s m0 args below meth c0 H locs 600000 7302250 Q (F0 m0 980 ls []) := by
  obtain ⟨r, c', m', e1, e2, R1⟩ := sim_fair hR 
  refine lv_aload_n hx hb dL_law_980 rfl (lv_at hl 1 rfl) ?_
  refine lc_C (c' := c') K h (va_runV (As := []) (rest := []) ⟨hx, hb, hml, hown, hts⟩ (c_X11_fair l D adC cy  c rfl r c' e1) (cwV 0 hts gL_law_X11_fair rfl rfl rfl (by decide +kernel) ⟨Nat.le_of_ble_eq_true rfl, Nat.le_of_ble_eq_true rfl⟩) (lp_C K h) rfl rfl hl.1 rfl (lv_room (Nat.le_of_ble_eq_true rfl)) dL_law_981 ⟨Nat.le_of_ble_eq_true rfl, Nat.le_of_ble_eq_true rfl⟩) (fun H locs h => ?_)
  refine lv_aload_n hx hb dL_law_984 rfl (lv_at hl 2 rfl) ?_
  refine lc_M (m' := m') K h (va_runV (As := []) (rest := [.int r]) ⟨hx, hb, hml, hown, hts⟩ (c_X12_fair l D adM cy  m rfl r m' e2) (cwV 0 hts gL_law_X12_fair rfl rfl rfl (by decide +kernel) ⟨Nat.le_of_ble_eq_true rfl, Nat.le_of_ble_eq_true rfl⟩) (lp_M K h) rfl rfl hl.1 rfl (lv_room (Nat.le_of_ble_eq_true rfl)) dL_law_985 ⟨Nat.le_of_ble_eq_true rfl, Nat.le_of_ble_eq_true rfl⟩) (fun H locs h => ?_)
  refine lv_icmp_eq (tgt := 1437) hx hb dL_law_988 (by decide) (fun c_1 => ?_) (fun c_1 => ?_)
  · exact kk c' m' H locs h R1
  · exact absurd rfl c_1
set_option maxHeartbeats 4000000 in
set_option maxRecDepth 100000 in
theorem case_21 {p : Program} {l : Launch} {e : Env} {s : State} {m0 : MethodId} {args : Array Value} {below : List Frame} {meth : Method} {c0 : Code} {H : Heap} {locs : List Loc} {Q : State → Prop} {ls : Array Slot} {D : va_G} {cy : Nat → ClassId} {adC adM : Nat → Nat} {c m : Mm} {b L n i : Nat} {xs : Nat → Int32} (hx : p.tables.exec = Jvm.exec) (hb : c0.code = code) (hml : c0.maxLocals = 4) (hown : s.vm.findClass RL = some m0.cls) (hts : ∀ w ∈ wsL_law, w.before args s = true) (hX : va_X b L xs s s.heap) (hbl : b < s.heap.size) (hL : L ≤ 3584) (K : LK D cy adC adM s) (h : LI D cy adC adM c m s H locs) (hR : Rel n c m) (hn : n < 999999) (hi : i + 6 < L) (hl : lv_has ls 4 [(0, .ref b), (1, .ref (adC 0)), (2, .ref (adM 0)), (3, .int (nI i))])
    (kk : ∀ (c' m' : Mm) (H : Heap) (locs : List Loc), LI D cy adC adM c' m' s H locs → Rel (n + 1) c' m' → W p l e room_1 s m0 args below meth c0 H locs 600000 7302250 Q (F0 m0 1437 ls [])) : W p l e room_1 s m0 args below meth c0 H locs 600000 7302250 Q (F0 m0 993 ls []) := by
  obtain ⟨r, e1, e2, R1⟩ := SimP.to (sim_brothers hR (xs (i + 1)) (xs (i + 2))) hR
  refine lv_aload_n hx hb dL_law_993 rfl (lv_at hl 1 rfl) ?_
  refine lv_aload_n hx hb dL_law_994 rfl (lv_at hl 0 rfl) ?_
  refine lv_iload_n hx hb dL_law_995 rfl (lv_at hl 3 rfl) ?_
  refine lv_iconst (v := 1) hx hb dL_law_996 (by decide) ?_
  refine lv_iadd hx hb dL_law_997 ?_
  refine lw_ld (i := i) (k := 1) hx hb hX hbl h (nI_add i 1) (by omega) hL dL_law_998 ?_
  refine lv_aload_n hx hb dL_law_999 rfl (lv_at hl 0 rfl) ?_
  refine lv_iload_n hx hb dL_law_1000 rfl (lv_at hl 3 rfl) ?_
  refine lv_iconst (v := 2) hx hb dL_law_1001 (by decide) ?_
  refine lv_iadd hx hb dL_law_1002 ?_
  refine lw_ld (i := i) (k := 2) hx hb hX hbl h (nI_add i 2) (by omega) hL dL_law_1003 ?_
  refine lc_C (c' := c) K h (va_runV (As := [.int (xs (i + 1)), .int (xs (i + 2))]) (rest := []) ⟨hx, hb, hml, hown, hts⟩ (c_X11_brothers l D adC cy (xs (i + 1)) (xs (i + 2)) c rfl r e1) (cwV 2 hts gL_law_X11_brothers rfl rfl rfl (by decide +kernel) ⟨Nat.le_of_ble_eq_true rfl, Nat.le_of_ble_eq_true rfl⟩) (lp_C K h) rfl rfl hl.1 rfl (lv_room (Nat.le_of_ble_eq_true rfl)) dL_law_1004 ⟨Nat.le_of_ble_eq_true rfl, Nat.le_of_ble_eq_true rfl⟩) (fun H locs h => ?_)
  refine lv_aload_n hx hb dL_law_1007 rfl (lv_at hl 2 rfl) ?_
  refine lv_aload_n hx hb dL_law_1008 rfl (lv_at hl 0 rfl) ?_
  refine lv_iload_n hx hb dL_law_1009 rfl (lv_at hl 3 rfl) ?_
  refine lv_iconst (v := 1) hx hb dL_law_1010 (by decide) ?_
  refine lv_iadd hx hb dL_law_1011 ?_
  refine lw_ld (i := i) (k := 1) hx hb hX hbl h (nI_add i 1) (by omega) hL dL_law_1012 ?_
  refine lv_aload_n hx hb dL_law_1013 rfl (lv_at hl 0 rfl) ?_
  refine lv_iload_n hx hb dL_law_1014 rfl (lv_at hl 3 rfl) ?_
  refine lv_iconst (v := 2) hx hb dL_law_1015 (by decide) ?_
  refine lv_iadd hx hb dL_law_1016 ?_
  refine lw_ld (i := i) (k := 2) hx hb hX hbl h (nI_add i 2) (by omega) hL dL_law_1017 ?_
  refine lc_M (m' := m) K h (va_runV (As := [.int (xs (i + 1)), .int (xs (i + 2))]) (rest := [.int r]) ⟨hx, hb, hml, hown, hts⟩ (c_X12_brothers l D adM cy (xs (i + 1)) (xs (i + 2)) m rfl r e2) (cwV 2 hts gL_law_X12_brothers rfl rfl rfl (by decide +kernel) ⟨Nat.le_of_ble_eq_true rfl, Nat.le_of_ble_eq_true rfl⟩) (lp_M K h) rfl rfl hl.1 rfl (lv_room (Nat.le_of_ble_eq_true rfl)) dL_law_1018 ⟨Nat.le_of_ble_eq_true rfl, Nat.le_of_ble_eq_true rfl⟩) (fun H locs h => ?_)
  refine lv_icmp_eq (tgt := 1437) hx hb dL_law_1021 (by decide) (fun c_1 => ?_) (fun c_1 => ?_)
  · exact kk c m H locs h R1
  · exact absurd rfl c_1
set_option maxHeartbeats 4000000 in
set_option maxRecDepth 100000 in
theorem case_22 {p : Program} {l : Launch} {e : Env} {s : State} {m0 : MethodId} {args : Array Value} {below : List Frame} {meth : Method} {c0 : Code} {H : Heap} {locs : List Loc} {Q : State → Prop} {ls : Array Slot} {D : va_G} {cy : Nat → ClassId} {adC adM : Nat → Nat} {c m : Mm} {b L n i : Nat} {xs : Nat → Int32} (hx : p.tables.exec = Jvm.exec) (hb : c0.code = code) (hml : c0.maxLocals = 4) (hown : s.vm.findClass RL = some m0.cls) (hts : ∀ w ∈ wsL_law, w.before args s = true) (hX : va_X b L xs s s.heap) (hbl : b < s.heap.size) (hL : L ≤ 3584) (K : LK D cy adC adM s) (h : LI D cy adC adM c m s H locs) (hR : Rel n c m) (hn : n < 999999) (hi : i + 6 < L) (hl : lv_has ls 4 [(0, .ref b), (1, .ref (adC 0)), (2, .ref (adM 0)), (3, .int (nI i))])
    (kk : ∀ (c' m' : Mm) (H : Heap) (locs : List Loc), LI D cy adC adM c' m' s H locs → Rel (n + 1) c' m' → W p l e room_1 s m0 args below meth c0 H locs 600000 7302250 Q (F0 m0 1437 ls [])) : W p l e room_1 s m0 args below meth c0 H locs 600000 7302250 Q (F0 m0 1026 ls []) := by
  obtain ⟨r, c', m', e1, e2, R1⟩ := sim_image hR 
  refine lv_aload_n hx hb dL_law_1026 rfl (lv_at hl 1 rfl) ?_
  refine lc_C (c' := c') K h (va_runV (As := []) (rest := []) ⟨hx, hb, hml, hown, hts⟩ (c_X11_image l D adC cy  c rfl r c' e1) (cwV 0 hts gL_law_X11_image rfl rfl rfl (by decide +kernel) ⟨Nat.le_of_ble_eq_true rfl, Nat.le_of_ble_eq_true rfl⟩) (lp_C K h) rfl rfl hl.1 rfl (lv_room (Nat.le_of_ble_eq_true rfl)) dL_law_1027 ⟨Nat.le_of_ble_eq_true rfl, Nat.le_of_ble_eq_true rfl⟩) (fun H locs h => ?_)
  refine lv_aload_n hx hb dL_law_1030 rfl (lv_at hl 2 rfl) ?_
  refine lc_M (m' := m') K h (va_runV (As := []) (rest := [.int r]) ⟨hx, hb, hml, hown, hts⟩ (c_X12_image l D adM cy  m rfl r m' e2) (cwV 0 hts gL_law_X12_image rfl rfl rfl (by decide +kernel) ⟨Nat.le_of_ble_eq_true rfl, Nat.le_of_ble_eq_true rfl⟩) (lp_M K h) rfl rfl hl.1 rfl (lv_room (Nat.le_of_ble_eq_true rfl)) dL_law_1031 ⟨Nat.le_of_ble_eq_true rfl, Nat.le_of_ble_eq_true rfl⟩) (fun H locs h => ?_)
  refine lv_icmp_eq (tgt := 1437) hx hb dL_law_1034 (by decide) (fun c_1 => ?_) (fun c_1 => ?_)
  · exact kk c' m' H locs h R1
  · exact absurd rfl c_1
set_option maxHeartbeats 4000000 in
set_option maxRecDepth 100000 in
theorem case_23 {p : Program} {l : Launch} {e : Env} {s : State} {m0 : MethodId} {args : Array Value} {below : List Frame} {meth : Method} {c0 : Code} {H : Heap} {locs : List Loc} {Q : State → Prop} {ls : Array Slot} {D : va_G} {cy : Nat → ClassId} {adC adM : Nat → Nat} {c m : Mm} {b L n i : Nat} {xs : Nat → Int32} (hx : p.tables.exec = Jvm.exec) (hb : c0.code = code) (hml : c0.maxLocals = 4) (hown : s.vm.findClass RL = some m0.cls) (hts : ∀ w ∈ wsL_law, w.before args s = true) (hX : va_X b L xs s s.heap) (hbl : b < s.heap.size) (hL : L ≤ 3584) (K : LK D cy adC adM s) (h : LI D cy adC adM c m s H locs) (hR : Rel n c m) (hn : n < 999999) (hi : i + 6 < L) (hl : lv_has ls 4 [(0, .ref b), (1, .ref (adC 0)), (2, .ref (adM 0)), (3, .int (nI i))])
    (kk : ∀ (c' m' : Mm) (H : Heap) (locs : List Loc), LI D cy adC adM c' m' s H locs → Rel (n + 1) c' m' → W p l e room_1 s m0 args below meth c0 H locs 600000 7302250 Q (F0 m0 1437 ls [])) : W p l e room_1 s m0 args below meth c0 H locs 600000 7302250 Q (F0 m0 1039 ls []) := by
  obtain ⟨r, c', m', e1, e2, R1⟩ := sim_restore hR 
  refine lv_aload_n hx hb dL_law_1039 rfl (lv_at hl 1 rfl) ?_
  refine lc_C (c' := c') K h (va_runV (As := []) (rest := []) ⟨hx, hb, hml, hown, hts⟩ (c_X11_restore l D adC cy  c rfl r c' e1) (cwV 0 hts gL_law_X11_restore rfl rfl rfl (by decide +kernel) ⟨Nat.le_of_ble_eq_true rfl, Nat.le_of_ble_eq_true rfl⟩) (lp_C K h) rfl rfl hl.1 rfl (lv_room (Nat.le_of_ble_eq_true rfl)) dL_law_1040 ⟨Nat.le_of_ble_eq_true rfl, Nat.le_of_ble_eq_true rfl⟩) (fun H locs h => ?_)
  refine lv_aload_n hx hb dL_law_1043 rfl (lv_at hl 2 rfl) ?_
  refine lc_M (m' := m') K h (va_runV (As := []) (rest := [.int r]) ⟨hx, hb, hml, hown, hts⟩ (c_X12_restore l D adM cy  m rfl r m' e2) (cwV 0 hts gL_law_X12_restore rfl rfl rfl (by decide +kernel) ⟨Nat.le_of_ble_eq_true rfl, Nat.le_of_ble_eq_true rfl⟩) (lp_M K h) rfl rfl hl.1 rfl (lv_room (Nat.le_of_ble_eq_true rfl)) dL_law_1044 ⟨Nat.le_of_ble_eq_true rfl, Nat.le_of_ble_eq_true rfl⟩) (fun H locs h => ?_)
  refine lv_icmp_eq (tgt := 1437) hx hb dL_law_1047 (by decide) (fun c_1 => ?_) (fun c_1 => ?_)
  · exact kk c' m' H locs h R1
  · exact absurd rfl c_1
