section LWP
theorem fa_lt (a b : Int32) : a < b ↔ a.toInt < b.toInt := Int32.lt_iff_toInt_lt
theorem lim_gt {L j : Nat} (hL : L ≤ 3072) (hj : 6 * j ≤ 3072) (h : L < 6 * j + 6) : Int32.ofNat L - 6 < nI (6 * j) := by
  rcases Nat.lt_or_ge L 6 with h6 | h6
  · rw [fa_lt, show Int32.ofNat L - 6 = nI L - nI 6 from rfl, pk_sub_toInt (by omega) (by decide), nI_toInt (by omega)]
    omega
  · rw [show Int32.ofNat L - 6 = nI L - nI 6 from rfl, pk_sub h6, nI_ltI (by omega) (by omega)]
    omega
section
variable {p : Program} {l : Launch} {e : Env} {s : State} {m : MethodId} {args : Array Value} {below : List Frame} {meth : Method} {c : Code} {H : Heap} {locs : List Loc} {cells slots : Nat} {Q : State → Prop}
variable {ls : Array Slot} {g : Gam} {I : Mem} {R : Rem} {P : Pool} {Z : Zed} {b L j : Nat} {xs : Nat → Int32}
set_option maxHeartbeats 8000000 in
set_option maxRecDepth 100000 in
theorem law_loop {INV : Mem → Rem → Pool → Prop} (hST : STALL INV) (hfl : l.stackTraces = false) (C0 : CX g p s m args meth c RL cL_law 9 ret) (hX : va_X b L xs s s.heap) (hbl : b < s.heap.size) (hg : g.2.2 = s.heap.size) (hL : L ≤ 3072)
    (hend : ∀ (H : Heap) (locs : List Loc) (ls : Array Slot), va_S (AA g) s.heap H locs → W p l e room_1 s m args below meth c H locs room_1.cells room_1.slots Q (F0 m 2090 ls [.int 1])) :
    ∀ (d j : Nat) (I : Mem) (R : Rem) (P : Pool) (Z : Zed) (H : Heap) (locs : List Loc) (ls : Array Slot), L < 6 * j + 6 + 6 * d → 6 * j ≤ L → INV I R P → Wd g I R P Z s.heap H locs → lv_has ls 9 [(5, .int (nI (6 * j))), (4, .ref (g.2.2 + 84)), (3, .ref (g.2.2 + 83)), (2, .ref (g.2.2 + 70)), (1, .ref (g.2.2 + 0)), (0, .ref b)] → W p l e room_1 s m args below meth c H locs (85 + 3 * j) (8506 + 71 * j) Q (F0 m 28 ls []) := by
  have hx := C0.1; have hb := C0.2.1; have hts := C0.2.2.2.2.2.1
  intro d
  induction d with
  | zero =>
    intro j I R P Z H locs ls hd h6 hI hW hl
    refine lv_iload hx hb dL_law_28 (lv_at hl 0 rfl) ?_
    refine lv_aload_n hx hb dL_law_30 rfl (lv_at hl 5 rfl) ?_
    refine va_slen hx hb hX hbl (show ¬ AA g b by unfold AA; omega) hW.2 dL_law_31 ?_
    refine lv_bipush (v := 6) hx hb dL_law_32 (by decide) ?_
    refine lv_isub hx hb dL_law_34 ?_
    refine lv_icmp_gt (tgt := 2089) hx hb dL_law_35 rfl (fun _ => ?_) (fun hc => absurd (lim_gt (by omega) (by omega) (by omega)) hc)
    refine lv_iconst (v := 1) hx hb dL_law_2089 (by decide) ?_
    exact W.widen (Nat.le_trans (show _ ≤ 500000 by omega) (by decide)) (Nat.le_trans (show _ ≤ 5000000 by omega) (by decide)) (hend H locs ls hW.2)
  | succ d ih =>
    intro j I R P Z H locs ls hd h6 hI hW hl
    refine lv_iload hx hb dL_law_28 (lv_at hl 0 rfl) ?_
    refine lv_aload_n hx hb dL_law_30 rfl (lv_at hl 5 rfl) ?_
    refine va_slen hx hb hX hbl (show ¬ AA g b by unfold AA; omega) hW.2 dL_law_31 ?_
    refine lv_bipush (v := 6) hx hb dL_law_32 (by decide) ?_
    refine lv_isub hx hb dL_law_34 ?_
    refine lv_icmp_gt (tgt := 2089) hx hb dL_law_35 rfl (fun hc => ?_) (fun hc => ?_)
    · refine lv_iconst (v := 1) hx hb dL_law_2089 (by decide) ?_
      exact W.widen (Nat.le_trans (show _ ≤ 500000 by omega) (by decide)) (Nat.le_trans (show _ ≤ 5000000 by omega) (by decide)) (hend H locs ls hW.2)
    have hj : 6 * j + 6 ≤ L := by
      rcases Nat.lt_or_ge L (6 * j + 6) with h | h
      · exact absurd (lim_gt (by omega) (by omega) h) hc
      · exact h
    have hgs : g.2.2 ≤ H.size := by rw [hg]; exact hW.2.1
    obtain ⟨nx, hsz⟩ : ∃ nx, H.size = g.2.2 + nx := ⟨H.size - g.2.2, by omega⟩
    have hF0 := FR_of hW.1 hsz
    have hF1 : FR P (nx + 1) := FR_le hW.1 (by omega)
    have hRc : 85 + 3 * j + 3 ≤ room_1.cells := Nat.le_trans (show _ ≤ 500000 by omega) (by decide)
    have hRs : 8506 + 71 * j + 71 ≤ room_1.slots := Nat.le_trans (show _ ≤ 5000000 by omega) (by decide)
    have next : ∀ (I : Mem) (R : Rem) (P : Pool) (Z : Zed) (H : Heap) (locs : List Loc) (ls : Array Slot), INV I R P → Wd g I R P Z s.heap H locs → lv_has ls 9 [(5, .int (nI (6 * j))), (4, .ref (g.2.2 + 84)), (3, .ref (g.2.2 + 83)), (2, .ref (g.2.2 + 70)), (1, .ref (g.2.2 + 0)), (0, .ref b)] → W p l e room_1 s m args below meth c H locs (85 + 3 * (j + 1)) (8506 + 71 * (j + 1)) Q (F0 m 2083 ls []) := by
      intro I R P Z H locs ls hI hW hl
      refine lv_iinc (k := 0) (v := nI (6 * (j + 1))) (lv' := [(5, .int (nI (6 * (j + 1)))), (4, .ref (g.2.2 + 84)), (3, .ref (g.2.2 + 83)), (2, .ref (g.2.2 + 70)), (1, .ref (g.2.2 + 0)), (0, .ref b)]) hx hb dL_law_2083 hl rfl ((congrArg (fun t => nI (6 * j) + t) (by decide : Int32.ofInt 6 = nI 6)).trans (nI_add (6 * j) 6)) (Nat.le_of_ble_eq_true rfl) rfl (fun ls hl => ?_)
      refine lv_goto (tgt := 28) hx hb dL_law_2086 rfl ?_
      exact ih (j + 1) I R P Z H locs ls (by omega) (by omega) hI hW hl
    refine lv_aload_n hx hb dL_law_38 rfl (lv_at hl 5 rfl) ?_
    refine lv_iload hx hb dL_law_39 (lv_at hl 0 rfl) ?_
    refine aw_sld C0 hX hbl hg hW (n := 6 * j) rfl (by omega) hL dL_law_41 ?_
    refine lv_bipush (v := 31) hx hb dL_law_42 (by decide) ?_
    refine lv_iand hx hb dL_law_44 ?_
    by_cases hs0 : xs (6 * j) &&& 31 = 0
    · obtain ⟨z, q, hz, hq, ht, ha, hI⟩ := hST.1 I R P Z nx (xs (6 * j + 1)) (xs (6 * j + 2)) (xs (6 * j + 3)) (xs (6 * j + 4)) (xs (6 * j + 5)) hI hF0 hF1
      refine lv_tableIn (off := 123) (tgt := 168) hx hb dL_law_45 (by rw [hs0]; decide) (by rw [hs0]; decide) (by rw [hs0]; decide) rfl ?_
      refine lc_0 hfl C0 hX hbl hg hL hj hW hsz hl hz hq ht ha hRc hRs (fun H locs ls hW hl => ?_)
      refine W.widen (k := 85 + 3 * (j + 1)) (n := 8506 + 71 * (j + 1)) (by omega) (by omega) ?_
      exact next _ _ _ _ _ _ _ hI hW hl
    by_cases hs1 : xs (6 * j) &&& 31 = 1
    · obtain ⟨z, q, hz, hq, ht, ha, hI⟩ := hST.2.1 I R P Z nx (xs (6 * j + 1)) (xs (6 * j + 2)) (xs (6 * j + 3)) (xs (6 * j + 4)) hI hF0 hF1
      refine lv_tableIn (off := 227) (tgt := 272) hx hb dL_law_45 (by rw [hs1]; decide) (by rw [hs1]; decide) (by rw [hs1]; decide) rfl ?_
      refine lc_1 hfl C0 hX hbl hg hL hj hW hsz hl hz hq ht ha hRc hRs (fun H locs ls hW hl => ?_)
      refine W.widen (k := 85 + 3 * (j + 1)) (n := 8506 + 71 * (j + 1)) (by omega) (by omega) ?_
      exact next _ _ _ _ _ _ _ hI hW hl
    by_cases hs2 : xs (6 * j) &&& 31 = 2
    · obtain ⟨z, q, hz, hq, ht, ha, hI⟩ := hST.2.2.1 I R P Z nx (xs (6 * j + 1)) (xs (6 * j + 2)) hI hF0 hF1
      refine lv_tableIn (off := 319) (tgt := 364) hx hb dL_law_45 (by rw [hs2]; decide) (by rw [hs2]; decide) (by rw [hs2]; decide) rfl ?_
      refine lc_2 hfl C0 hX hbl hg hL hj hW hsz hl hz hq ht ha hRc hRs (fun H locs ls hW hl => ?_)
      refine W.widen (k := 85 + 3 * (j + 1)) (n := 8506 + 71 * (j + 1)) (by omega) (by omega) ?_
      exact next _ _ _ _ _ _ _ hI hW hl
    by_cases hs3 : xs (6 * j) &&& 31 = 3
    · obtain ⟨z, q, hz, hq, ht, ha, hI⟩ := hST.2.2.2.1 I R P Z nx (xs (6 * j + 1)) hI hF0 hF1
      refine lv_tableIn (off := 387) (tgt := 432) hx hb dL_law_45 (by rw [hs3]; decide) (by rw [hs3]; decide) (by rw [hs3]; decide) rfl ?_
      refine lc_3 hfl C0 hX hbl hg hL hj hW hsz hl hz hq ht ha hRc hRs (fun H locs ls hW hl => ?_)
      refine W.widen (k := 85 + 3 * (j + 1)) (n := 8506 + 71 * (j + 1)) (by omega) (by omega) ?_
      exact next _ _ _ _ _ _ _ hI hW hl
    by_cases hs4 : xs (6 * j) &&& 31 = 4
    · obtain ⟨z, q, hz, hq, ht, ha, hI⟩ := hST.2.2.2.2.1 I R P Z nx (xs (6 * j + 1)) (xs (6 * j + 2)) (xs (6 * j + 3)) (xs (6 * j + 4)) hI hF0 hF1
      refine lv_tableIn (off := 443) (tgt := 488) hx hb dL_law_45 (by rw [hs4]; decide) (by rw [hs4]; decide) (by rw [hs4]; decide) rfl ?_
      refine lc_4 hfl C0 hX hbl hg hL hj hW hsz hl hz hq ht ha hRc hRs (fun H locs ls hW hl => ?_)
      refine W.widen (k := 85 + 3 * (j + 1)) (n := 8506 + 71 * (j + 1)) (by omega) (by omega) ?_
      exact next _ _ _ _ _ _ _ hI hW hl
    by_cases hs5 : xs (6 * j) &&& 31 = 5
    · obtain ⟨z, q, hz, hq, ht, ha, hI⟩ := hST.2.2.2.2.2.1 I R P Z nx (xs (6 * j + 1)) (xs (6 * j + 2)) hI hF0 hF1
      refine lv_tableIn (off := 535) (tgt := 580) hx hb dL_law_45 (by rw [hs5]; decide) (by rw [hs5]; decide) (by rw [hs5]; decide) rfl ?_
      refine lc_5 hfl C0 hX hbl hg hL hj hW hsz hl hz hq ht ha hRc hRs (fun H locs ls hW hl => ?_)
      refine W.widen (k := 85 + 3 * (j + 1)) (n := 8506 + 71 * (j + 1)) (by omega) (by omega) ?_
      exact next _ _ _ _ _ _ _ hI hW hl
    by_cases hs6 : xs (6 * j) &&& 31 = 6
    · obtain ⟨z, q, hz, hq, ht, ha, hI⟩ := hST.2.2.2.2.2.2.1 I R P Z nx (xs (6 * j + 1)) (xs (6 * j + 2)) hI hF0 hF1
      refine lv_tableIn (off := 603) (tgt := 648) hx hb dL_law_45 (by rw [hs6]; decide) (by rw [hs6]; decide) (by rw [hs6]; decide) rfl ?_
      refine lc_6 hfl C0 hX hbl hg hL hj hW hsz hl hz hq ht ha hRc hRs (fun H locs ls hW hl => ?_)
      refine W.widen (k := 85 + 3 * (j + 1)) (n := 8506 + 71 * (j + 1)) (by omega) (by omega) ?_
      exact next _ _ _ _ _ _ _ hI hW hl
    by_cases hs7 : xs (6 * j) &&& 31 = 7
    · obtain ⟨z, q, hz, hq, ht, ha, hI⟩ := hST.2.2.2.2.2.2.2.1 I R P Z nx (xs (6 * j + 1)) (xs (6 * j + 2)) (xs (6 * j + 3)) (xs (6 * j + 4)) hI hF0 hF1
      refine lv_tableIn (off := 671) (tgt := 716) hx hb dL_law_45 (by rw [hs7]; decide) (by rw [hs7]; decide) (by rw [hs7]; decide) rfl ?_
      refine lc_7 hfl C0 hX hbl hg hL hj hW hsz hl hz hq ht ha hRc hRs (fun H locs ls hW hl => ?_)
      refine W.widen (k := 85 + 3 * (j + 1)) (n := 8506 + 71 * (j + 1)) (by omega) (by omega) ?_
      exact next _ _ _ _ _ _ _ hI hW hl
    by_cases hs8 : xs (6 * j) &&& 31 = 8
    · obtain ⟨z, q, hz, hq, ht, ha, hI⟩ := hST.2.2.2.2.2.2.2.2.1 I R P Z nx (xs (6 * j + 1)) hI hF0 hF1
      refine lv_tableIn (off := 763) (tgt := 808) hx hb dL_law_45 (by rw [hs8]; decide) (by rw [hs8]; decide) (by rw [hs8]; decide) rfl ?_
      refine lc_8 hfl C0 hX hbl hg hL hj hW hsz hl hz hq ht ha hRc hRs (fun H locs ls hW hl => ?_)
      refine W.widen (k := 85 + 3 * (j + 1)) (n := 8506 + 71 * (j + 1)) (by omega) (by omega) ?_
      exact next _ _ _ _ _ _ _ hI hW hl
    by_cases hs9 : xs (6 * j) &&& 31 = 9
    · obtain ⟨z, q, hz, hq, ht, hI⟩ := hST.2.2.2.2.2.2.2.2.2.1 I R P Z nx hI hF0 hF1
      refine lv_tableIn (off := 819) (tgt := 864) hx hb dL_law_45 (by rw [hs9]; decide) (by rw [hs9]; decide) (by rw [hs9]; decide) rfl ?_
      refine lc_9 hfl C0 hX hbl hg hL hj hW hsz hl hz hq ht hRc hRs (fun H locs ls hW hl => ?_)
      refine W.widen (k := 85 + 3 * (j + 1)) (n := 8506 + 71 * (j + 1)) (by omega) (by omega) ?_
      exact next _ _ _ _ _ _ _ hI hW hl
    by_cases hs10 : xs (6 * j) &&& 31 = 10
    · obtain ⟨z, q, hz, hq, ht, hI⟩ := hST.2.2.2.2.2.2.2.2.2.2.1 I R P Z nx hI hF0 hF1
      refine lv_tableIn (off := 832) (tgt := 877) hx hb dL_law_45 (by rw [hs10]; decide) (by rw [hs10]; decide) (by rw [hs10]; decide) rfl ?_
      refine lc_10 hfl C0 hX hbl hg hL hj hW hsz hl hz hq ht hRc hRs (fun H locs ls hW hl => ?_)
      refine W.widen (k := 85 + 3 * (j + 1)) (n := 8506 + 71 * (j + 1)) (by omega) (by omega) ?_
      exact next _ _ _ _ _ _ _ hI hW hl
    by_cases hs11 : xs (6 * j) &&& 31 = 11
    · obtain ⟨z, q, hz, hq, ht, ha, hI⟩ := hST.2.2.2.2.2.2.2.2.2.2.2.1 I R P Z nx hI hF0 hF1
      refine lv_tableIn (off := 845) (tgt := 890) hx hb dL_law_45 (by rw [hs11]; decide) (by rw [hs11]; decide) (by rw [hs11]; decide) rfl ?_
      refine lc_11 hfl C0 hX hbl hg hL hj hW hsz hl hz hq ht ha hRc hRs (fun H locs ls hW hl => ?_)
      refine W.widen (k := 85 + 3 * (j + 1)) (n := 8506 + 71 * (j + 1)) (by omega) (by omega) ?_
      exact next _ _ _ _ _ _ _ hI hW hl
    by_cases hs12 : xs (6 * j) &&& 31 = 12
    · obtain ⟨z, q, hz, hq, ht, ha, hI⟩ := hST.2.2.2.2.2.2.2.2.2.2.2.2.1 I R P Z nx (xs (6 * j + 1)) hI hF0 hF1
      refine lv_tableIn (off := 889) (tgt := 934) hx hb dL_law_45 (by rw [hs12]; decide) (by rw [hs12]; decide) (by rw [hs12]; decide) rfl ?_
      refine lc_12 hfl C0 hX hbl hg hL hj hW hsz hl hz hq ht ha hRc hRs (fun H locs ls hW hl => ?_)
      refine W.widen (k := 85 + 3 * (j + 1)) (n := 8506 + 71 * (j + 1)) (by omega) (by omega) ?_
      exact next _ _ _ _ _ _ _ hI hW hl
    by_cases hs13 : xs (6 * j) &&& 31 = 13
    · obtain ⟨z, q, hz, hq, ht, ha, hI⟩ := hST.2.2.2.2.2.2.2.2.2.2.2.2.2.1 I R P Z nx (xs (6 * j + 1)) hI hF0 hF1
      refine lv_tableIn (off := 945) (tgt := 990) hx hb dL_law_45 (by rw [hs13]; decide) (by rw [hs13]; decide) (by rw [hs13]; decide) rfl ?_
      refine lc_13 hfl C0 hX hbl hg hL hj hW hsz hl hz hq ht ha hRc hRs (fun H locs ls hW hl => ?_)
      refine W.widen (k := 85 + 3 * (j + 1)) (n := 8506 + 71 * (j + 1)) (by omega) (by omega) ?_
      exact next _ _ _ _ _ _ _ hI hW hl
    by_cases hs14 : xs (6 * j) &&& 31 = 14
    · obtain ⟨z, q, hz, hq, ht, ha, hI⟩ := hST.2.2.2.2.2.2.2.2.2.2.2.2.2.2.1 I R P Z nx (xs (6 * j + 1)) (xs (6 * j + 2)) (xs (6 * j + 3)) hI hF0 hF1
      refine lv_tableIn (off := 1001) (tgt := 1046) hx hb dL_law_45 (by rw [hs14]; decide) (by rw [hs14]; decide) (by rw [hs14]; decide) rfl ?_
      refine lc_14 hfl C0 hX hbl hg hL hj hW hsz hl hz hq ht ha hRc hRs (fun H locs ls hW hl => ?_)
      refine W.widen (k := 85 + 3 * (j + 1)) (n := 8506 + 71 * (j + 1)) (by omega) (by omega) ?_
      exact next _ _ _ _ _ _ _ hI hW hl
    by_cases hs15 : xs (6 * j) &&& 31 = 15
    · obtain ⟨z, q, hz, hq, ht, ha, hI⟩ := hST.2.2.2.2.2.2.2.2.2.2.2.2.2.2.2.1 I R P Z nx (xs (6 * j + 1)) (xs (6 * j + 2)) (xs (6 * j + 3)) hI hF0 hF1
      refine lv_tableIn (off := 1081) (tgt := 1126) hx hb dL_law_45 (by rw [hs15]; decide) (by rw [hs15]; decide) (by rw [hs15]; decide) rfl ?_
      refine lc_15 hfl C0 hX hbl hg hL hj hW hsz hl hz hq ht ha hRc hRs (fun H locs ls hW hl => ?_)
      refine W.widen (k := 85 + 3 * (j + 1)) (n := 8506 + 71 * (j + 1)) (by omega) (by omega) ?_
      exact next _ _ _ _ _ _ _ hI hW hl
    by_cases hs16 : xs (6 * j) &&& 31 = 16
    · obtain ⟨z, q, hz, hq, ht, ha, hI⟩ := hST.2.2.2.2.2.2.2.2.2.2.2.2.2.2.2.2.1 I R P Z nx (xs (6 * j + 1)) (xs (6 * j + 2)) (xs (6 * j + 3)) (xs (6 * j + 4)) hI hF0 hF1
      refine lv_tableIn (off := 1161) (tgt := 1206) hx hb dL_law_45 (by rw [hs16]; decide) (by rw [hs16]; decide) (by rw [hs16]; decide) rfl ?_
      refine lc_16 hfl C0 hX hbl hg hL hj hW hsz hl hz hq ht ha hRc hRs (fun H locs ls hW hl => ?_)
      refine W.widen (k := 85 + 3 * (j + 1)) (n := 8506 + 71 * (j + 1)) (by omega) (by omega) ?_
      exact next _ _ _ _ _ _ _ hI hW hl
    by_cases hs17 : xs (6 * j) &&& 31 = 17
    · obtain ⟨z, q, hz, hq, ht, ha, hI⟩ := hST.2.2.2.2.2.2.2.2.2.2.2.2.2.2.2.2.2.1 I R P Z nx (xs (6 * j + 1)) (xs (6 * j + 2)) (xs (6 * j + 3)) hI hF0 hF1
      refine lv_tableIn (off := 1253) (tgt := 1298) hx hb dL_law_45 (by rw [hs17]; decide) (by rw [hs17]; decide) (by rw [hs17]; decide) rfl ?_
      refine lc_17 hfl C0 hX hbl hg hL hj hW hsz hl hz hq ht ha hRc hRs (fun H locs ls hW hl => ?_)
      refine W.widen (k := 85 + 3 * (j + 1)) (n := 8506 + 71 * (j + 1)) (by omega) (by omega) ?_
      exact next _ _ _ _ _ _ _ hI hW hl
    by_cases hs18 : xs (6 * j) &&& 31 = 18
    · obtain ⟨z, q, hz, hq, ht, ha, hI⟩ := hST.2.2.2.2.2.2.2.2.2.2.2.2.2.2.2.2.2.2.1 I R P Z nx (xs (6 * j + 1)) (xs (6 * j + 2)) (xs (6 * j + 3)) (xs (6 * j + 4)) hI hF0 hF1
      refine lv_tableIn (off := 1333) (tgt := 1378) hx hb dL_law_45 (by rw [hs18]; decide) (by rw [hs18]; decide) (by rw [hs18]; decide) rfl ?_
      refine lc_18 hfl C0 hX hbl hg hL hj hW hsz hl hz hq ht ha hRc hRs (fun H locs ls hW hl => ?_)
      refine W.widen (k := 85 + 3 * (j + 1)) (n := 8506 + 71 * (j + 1)) (by omega) (by omega) ?_
      exact next _ _ _ _ _ _ _ hI hW hl
    by_cases hs19 : xs (6 * j) &&& 31 = 19
    · obtain ⟨z, q, hz, hq, ht, ha, hI⟩ := hST.2.2.2.2.2.2.2.2.2.2.2.2.2.2.2.2.2.2.2.1 I R P Z nx (xs (6 * j + 1)) (xs (6 * j + 2)) hI hF0 hF1
      refine lv_tableIn (off := 1425) (tgt := 1470) hx hb dL_law_45 (by rw [hs19]; decide) (by rw [hs19]; decide) (by rw [hs19]; decide) rfl ?_
      refine lc_19 hfl C0 hX hbl hg hL hj hW hsz hl hz hq ht ha hRc hRs (fun H locs ls hW hl => ?_)
      refine W.widen (k := 85 + 3 * (j + 1)) (n := 8506 + 71 * (j + 1)) (by omega) (by omega) ?_
      exact next _ _ _ _ _ _ _ hI hW hl
    by_cases hs20 : xs (6 * j) &&& 31 = 20
    · obtain ⟨z, q, hz, hq, ht, ha, hI⟩ := hST.2.2.2.2.2.2.2.2.2.2.2.2.2.2.2.2.2.2.2.2.1 I R P Z nx (xs (6 * j + 1)) (xs (6 * j + 2)) hI hF0 hF1
      refine lv_tableIn (off := 1493) (tgt := 1538) hx hb dL_law_45 (by rw [hs20]; decide) (by rw [hs20]; decide) (by rw [hs20]; decide) rfl ?_
      refine lc_20 hfl C0 hX hbl hg hL hj hW hsz hl hz hq ht ha hRc hRs (fun H locs ls hW hl => ?_)
      refine W.widen (k := 85 + 3 * (j + 1)) (n := 8506 + 71 * (j + 1)) (by omega) (by omega) ?_
      exact next _ _ _ _ _ _ _ hI hW hl
    by_cases hs21 : xs (6 * j) &&& 31 = 21
    · obtain ⟨z, q, hz, hq, ht, ha, hI⟩ := hST.2.2.2.2.2.2.2.2.2.2.2.2.2.2.2.2.2.2.2.2.2.1 I R P Z nx (xs (6 * j + 1)) (xs (6 * j + 2)) (xs (6 * j + 3)) (xs (6 * j + 4)) hI hF0 hF1
      refine lv_tableIn (off := 1561) (tgt := 1606) hx hb dL_law_45 (by rw [hs21]; decide) (by rw [hs21]; decide) (by rw [hs21]; decide) rfl ?_
      refine lc_21 hfl C0 hX hbl hg hL hj hW hsz hl hz hq ht ha hRc hRs (fun H locs ls hW hl => ?_)
      refine W.widen (k := 85 + 3 * (j + 1)) (n := 8506 + 71 * (j + 1)) (by omega) (by omega) ?_
      exact next _ _ _ _ _ _ _ hI hW hl
    by_cases hs22 : xs (6 * j) &&& 31 = 22
    · obtain ⟨z, q, hz, hq, ht, ha, hI⟩ := hST.2.2.2.2.2.2.2.2.2.2.2.2.2.2.2.2.2.2.2.2.2.2.1 I R P Z nx (xs (6 * j + 1)) (xs (6 * j + 2)) (xs (6 * j + 3)) hI hF0 hF1
      refine lv_tableIn (off := 1653) (tgt := 1698) hx hb dL_law_45 (by rw [hs22]; decide) (by rw [hs22]; decide) (by rw [hs22]; decide) rfl ?_
      refine lc_22 hfl C0 hX hbl hg hL hj hW hsz hl hz hq ht ha hRc hRs (fun H locs ls hW hl => ?_)
      refine W.widen (k := 85 + 3 * (j + 1)) (n := 8506 + 71 * (j + 1)) (by omega) (by omega) ?_
      exact next _ _ _ _ _ _ _ hI hW hl
    by_cases hs23 : xs (6 * j) &&& 31 = 23
    · obtain ⟨z, q, hz, hq, ht, ha, hI⟩ := hST.2.2.2.2.2.2.2.2.2.2.2.2.2.2.2.2.2.2.2.2.2.2.2.1 I R P Z nx (xs (6 * j + 1)) (xs (6 * j + 2)) (xs (6 * j + 3)) hI hF0 hF1
      refine lv_tableIn (off := 1733) (tgt := 1778) hx hb dL_law_45 (by rw [hs23]; decide) (by rw [hs23]; decide) (by rw [hs23]; decide) rfl ?_
      refine lc_23 hfl C0 hX hbl hg hL hj hW hsz hl hz hq ht ha hRc hRs (fun H locs ls hW hl => ?_)
      refine W.widen (k := 85 + 3 * (j + 1)) (n := 8506 + 71 * (j + 1)) (by omega) (by omega) ?_
      exact next _ _ _ _ _ _ _ hI hW hl
    by_cases hs24 : xs (6 * j) &&& 31 = 24
    · obtain ⟨z, q, hz, hq, ht, ha, hI⟩ := hST.2.2.2.2.2.2.2.2.2.2.2.2.2.2.2.2.2.2.2.2.2.2.2.2.1 I R P Z nx (xs (6 * j + 1)) (xs (6 * j + 2)) (xs (6 * j + 3)) hI hF0 hF1
      refine lv_tableIn (off := 1813) (tgt := 1858) hx hb dL_law_45 (by rw [hs24]; decide) (by rw [hs24]; decide) (by rw [hs24]; decide) rfl ?_
      refine lc_24 hfl C0 hX hbl hg hL hj hW hsz hl hz hq ht ha hRc hRs (fun H locs ls hW hl => ?_)
      refine W.widen (k := 85 + 3 * (j + 1)) (n := 8506 + 71 * (j + 1)) (by omega) (by omega) ?_
      exact next _ _ _ _ _ _ _ hI hW hl
    by_cases hs25 : xs (6 * j) &&& 31 = 25
    · obtain ⟨z, q, hz, hq, ht, ha, hI⟩ := hST.2.2.2.2.2.2.2.2.2.2.2.2.2.2.2.2.2.2.2.2.2.2.2.2.2.1 I R P Z nx (xs (6 * j + 1)) hI hF0 hF1
      refine lv_tableIn (off := 1893) (tgt := 1938) hx hb dL_law_45 (by rw [hs25]; decide) (by rw [hs25]; decide) (by rw [hs25]; decide) rfl ?_
      refine lc_25 hfl C0 hX hbl hg hL hj hW hsz hl hz hq ht ha hRc hRs (fun H locs ls hW hl => ?_)
      refine W.widen (k := 85 + 3 * (j + 1)) (n := 8506 + 71 * (j + 1)) (by omega) (by omega) ?_
      exact next _ _ _ _ _ _ _ hI hW hl
    by_cases hs26 : xs (6 * j) &&& 31 = 26
    · obtain ⟨z, q, hz, hq, ht, ha, hI⟩ := hST.2.2.2.2.2.2.2.2.2.2.2.2.2.2.2.2.2.2.2.2.2.2.2.2.2.2 I R P Z nx (xs (6 * j + 1)) (xs (6 * j + 2)) hI hF0 hF1
      refine lv_tableIn (off := 1949) (tgt := 1994) hx hb dL_law_45 (by rw [hs26]; decide) (by rw [hs26]; decide) (by rw [hs26]; decide) rfl ?_
      refine lc_26 hfl C0 hX hbl hg hL hj hW hsz hl hz hq ht ha hRc hRs (fun H locs ls hW hl => ?_)
      refine W.widen (k := 85 + 3 * (j + 1)) (n := 8506 + 71 * (j + 1)) (by omega) (by omega) ?_
      exact next _ _ _ _ _ _ _ hI hW hl
    refine lv_tableOut (tgt := 2083) hx hb dL_law_45 (by have z0 := i32_ne (n := 0) (by decide) hs0; have z1 := i32_ne (n := 1) (by decide) hs1; have z2 := i32_ne (n := 2) (by decide) hs2; have z3 := i32_ne (n := 3) (by decide) hs3; have z4 := i32_ne (n := 4) (by decide) hs4; have z5 := i32_ne (n := 5) (by decide) hs5; have z6 := i32_ne (n := 6) (by decide) hs6; have z7 := i32_ne (n := 7) (by decide) hs7; have z8 := i32_ne (n := 8) (by decide) hs8; have z9 := i32_ne (n := 9) (by decide) hs9; have z10 := i32_ne (n := 10) (by decide) hs10; have z11 := i32_ne (n := 11) (by decide) hs11; have z12 := i32_ne (n := 12) (by decide) hs12; have z13 := i32_ne (n := 13) (by decide) hs13; have z14 := i32_ne (n := 14) (by decide) hs14; have z15 := i32_ne (n := 15) (by decide) hs15; have z16 := i32_ne (n := 16) (by decide) hs16; have z17 := i32_ne (n := 17) (by decide) hs17; have z18 := i32_ne (n := 18) (by decide) hs18; have z19 := i32_ne (n := 19) (by decide) hs19; have z20 := i32_ne (n := 20) (by decide) hs20; have z21 := i32_ne (n := 21) (by decide) hs21; have z22 := i32_ne (n := 22) (by decide) hs22; have z23 := i32_ne (n := 23) (by decide) hs23; have z24 := i32_ne (n := 24) (by decide) hs24; have z25 := i32_ne (n := 25) (by decide) hs25; have z26 := i32_ne (n := 26) (by decide) hs26; omega) rfl ?_
    refine W.widen (k := 85 + 3 * (j + 1)) (n := 8506 + 71 * (j + 1)) (by omega) (by omega) ?_
    exact next _ _ _ _ _ _ _ hI hW hl
end
end LWP
