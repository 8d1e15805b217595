/-! THE LAW'S LOOPS: its 28 rounds, the undos, its end. -/
section LPS
variable {p : Program} {l : Launch} {e : Env} {Rm : Room} {s : State} {m : MethodId} {args : Array Value} {below : List Frame} {meth : Method} {c : Code} {H : Heap} {locs : List Loc} {cells slots : Nat} {Q : State → Prop}
variable {cc : ByteArray} {pc : Nat} {ls : Array Slot} {rest : List Value} {g : Gam} {σ : Gst} {b : Bool} {Z : Zed} {nL : Nat} {ret : Option FieldType}
theorem lw_loop (hfl : l.stackTraces = false) (C0 : CX g p s m args meth c RL cL_law 15 (some .boolean)) {bs L : Nat} {xs : Nat → Int32} {kp : Int64} (hX : va_X bs L xs s s.heap) (hbs : bs < g.2.2.2) (hL : L ≤ 260) {X : Nat → Option Abs} {c0 s0 : Nat} (hr : c0 + 56 ≤ room_1.cells ∧ s0 + 1820 ≤ room_1.slots) (hK : ∀ (n : Nat) (h : Nat → Abs) (N : Abs) (S : List Abs) (Z : Zed) (H : Heap) (locs : List Loc) (ls : Array Slot), n ≤ 28 → LI h n N S → (∀ i, i < n → Z i = seenA (h i)) → WA g (N, S, X, []) true Z s.heap H locs → lv_has ls 15 [(6, .int (nI 28)), (3, .int (nI n)), (4, .long kp), (2, .ref (g.2.2.1 + 70)), (1, .ref (g.2.2.1 + 0)), (0, .ref bs)] → W p l e room_1 s m args below meth c H locs (c0 + 56) (s0 + 1820) Q (F0 m 517 ls [])) : ∀ (d k n : Nat) (h : Nat → Abs) (N : Abs) (S : List Abs) (Z : Zed) (H : Heap) (locs : List Loc) (ls : Array Slot), k + d = 28 → n ≤ k → LI h n N S → (∀ i, i < n → Z i = seenA (h i)) → WA g (N, S, X, []) true Z s.heap H locs → lv_has ls 15 [(6, .int (nI k)), (3, .int (nI n)), (4, .long kp), (2, .ref (g.2.2.1 + 70)), (1, .ref (g.2.2.1 + 0)), (0, .ref bs)] → W p l e room_1 s m args below meth c H locs (c0 + 2 * k) (s0 + 65 * k) Q (F0 m 105 ls []) := by
  have hx := C0.1; have hb := C0.2.1; have hown := C0.2.2.2.2.1; have hts := C0.2.2.2.2.2.1
  obtain ⟨hr1, hr2⟩ := hr
  intro d
  induction d with
  | zero =>
    intro k n h N S Z H locs ls hkd hnk hLI hZ hW hl
    obtain rfl : k = 28 := by omega
    refine lv_iload hx hb dL_law_105 (lv_at hl 0 rfl) ?_
    refine lv_bipush (v := 28) hx hb dL_law_107 (by decide) ?_
    refine lv_icmp_ge (tgt := 517) hx hb dL_law_109 rfl (fun _ => ?_) (fun hc => absurd (by decide) hc)
    exact hK n h N S Z H locs ls hnk hLI hZ hW hl
  | succ d ih =>
    intro k n h N S Z H locs ls hkd hnk hLI hZ hW hl
    have hkn : k < 28 := by omega
    refine lv_iload hx hb dL_law_105 (lv_at hl 0 rfl) ?_
    refine lv_bipush (v := 28) hx hb dL_law_107 (by decide) ?_
    refine lv_icmp_ge (tgt := 517) hx hb dL_law_109 rfl (fun hc => absurd hc (nI_ge (b := 28) hkn (by decide))) (fun _ => ?_)
    refine lb_head hfl C0 hX hbs hL (k := k) (n := n) hkn (by omega) hl hW (by omega) (by omega) (fun v bb a kd x H locs ls hW hl => ?_)
    refine lb_kind hfl C0 hl hW (by omega) (by omega) (fun r τ H locs hS hW => ?_)
    have hz1 : vp_updL Z n (seenF (N, S, X, [])) n = seenF (N, S, X, []) := if_pos rfl
    have hz2 : ∀ i, i < n → vp_updL Z n (seenF (N, S, X, [])) i = seenA (h i) := fun i hi => (if_neg (by omega)).trans (hZ i hi)
    refine lb_tail hfl C0 (σ := (N, S, X, [])) (by omega) hz1 hl hS hW (by omega) (by omega) (fun n2 H locs ls hn2 hW hl => ?_)
    rcases hn2 with ⟨e1, e2⟩ | ⟨e1, N2, e2⟩
    · rw [e1] at hl; rw [e2] at hW
      exact W.widen (by omega) (by omega) (ih (k + 1) n h N S _ H locs ls (by omega) (by omega) hLI hz2 hW hl)
    · rw [e1] at hl; rw [e2] at hW
      refine W.widen (by omega) (by omega) (ih (k + 1) (n + 1) _ N2 (svd S N) _ H locs ls (by omega) (by omega) (LI.step hLI) (fun i hi => ?_) hW hl)
      by_cases e : i = n
      · rw [e, hz1, if_neg (show ¬ n = n + 1 by omega), hLI.1]; rfl
      · rw [hz2 i (by omega), if_neg (show ¬ i = n + 1 by omega)]
theorem lw_mid (hfl : l.stackTraces = false) (C0 : CX g p s m args meth c RL cL_law 15 (some .boolean)) {k : Int32} {kp : Int64} {bs n : Nat} {N : Abs} {S : List Abs} {X : Nat → Option Abs} (hn : n < 64) (hl : lv_has ls 15 [(6, .int k), (3, .int (nI n)), (4, .long kp), (2, .ref (g.2.2.1 + 70)), (1, .ref (g.2.2.1 + 0)), (0, .ref bs)]) (hW : WA g (N, S, X, []) true Z s.heap H locs) (hc1 : cells + 496 ≤ room_1.cells) (hc2 : slots + 16120 ≤ room_1.slots) (hK : ∀ (H : Heap) (locs : List Loc) (ls : Array Slot), WA g (N, S, X, []) true (vp_updL Z n (seenF (N, S, X, []))) s.heap H locs → lv_has ls 15 [(6, .int 0), (3, .int (nI n)), (4, .long kp), (2, .ref (g.2.2.1 + 70)), (1, .ref (g.2.2.1 + 0)), (0, .ref bs)] → W p l e room_1 s m args below meth c H locs (cells + 496) (slots + 16120) Q (F0 m 536 ls [])) : W p l e room_1 s m args below meth c H locs cells slots Q (F0 m 517 ls []) := by
  have hx := C0.1; have hb := C0.2.1; have hown := C0.2.2.2.2.1; have hts := C0.2.2.2.2.2.1
  refine lv_aload_n hx hb dL_law_517 rfl (lv_at hl 3 rfl) ?_
  refine lv_iload_n hx hb dL_law_518 rfl (lv_at hl 1 rfl) ?_
  refine lv_aload_n hx hb dL_law_519 rfl (lv_at hl 4 rfl) ?_
  refine al_cSl (rest := [.int (nI n), .ref (g.2.2.1 + 70)]) C0 hW (c_L_seen (r := seenF (N, S, X, [])) rfl) (ls_seen hts ⟨Nat.le_of_ble_eq_true rfl, Nat.le_of_ble_eq_true rfl⟩) rfl hl.1 rfl (Nat.le_of_ble_eq_true rfl) ⟨by omega, by omega⟩ dL_law_520 (fun H locs hW => ?_)
  refine al_last C0 hW hn dL_law_523 (fun H locs hW => ?_)
  refine lv_aload_n hx hb dL_law_524 rfl (lv_at hl 4 rfl) ?_
  refine al_cSi (rest := []) C0 hW (c_L_refused hfl) (ls_refused hts ⟨Nat.le_of_ble_eq_true rfl, Nat.le_of_ble_eq_true rfl⟩) rfl hl.1 rfl (Nat.le_of_ble_eq_true rfl) ⟨by omega, by omega⟩ dL_law_525 (fun H locs hW => ?_)
  refine lv_if_ne (tgt := 533) hx hb dL_law_528 rfl (fun _ => ?_) (fun hc => absurd hc (by decide))
  refine lv_iconst (v := 0) hx hb dL_law_533 (by decide) ?_
  refine lv_istore (lv' := [(6, .int 0), (3, .int (nI n)), (4, .long kp), (2, .ref (g.2.2.1 + 70)), (1, .ref (g.2.2.1 + 0)), (0, .ref bs)]) hx hb dL_law_534 hl (Nat.le_of_ble_eq_true rfl) rfl (fun ls hl => ?_)
  exact W.widen (by omega) (by omega) (hK H locs ls hW hl)
theorem lw_u1 (hfl : l.stackTraces = false) (C0 : CX g p s m args meth c RL cL_law 15 (some .boolean)) {kp : Int64} {bs n : Nat} {h : Nat → Abs} {X : Nat → Option Abs} (hn : n < 64) (hZ : ∀ i, i ≤ n → Z i = seenA (h i)) (hc1 : cells + 0 ≤ room_1.cells) (hc2 : slots + 0 ≤ room_1.slots) (hK : ∀ (N : Abs) (S : List Abs) (H : Heap) (locs : List Loc) (ls : Array Slot), S.length ≤ 6 → WA g (N, S, X, []) true Z s.heap H locs → lv_has ls 15 [(4, .long kp), (2, .ref (g.2.2.1 + 70)), (1, .ref (g.2.2.1 + 0)), (0, .ref bs)] → W p l e room_1 s m args below meth c H locs cells slots Q (F0 m 598 ls [])) : ∀ (d k : Nat) (N : Abs) (S : List Abs) (H : Heap) (locs : List Loc) (ls : Array Slot), k + d = n → LU h n k N S → WA g (N, S, X, []) true Z s.heap H locs → lv_has ls 15 [(6, .int (nI k)), (3, .int (nI n)), (4, .long kp), (2, .ref (g.2.2.1 + 70)), (1, .ref (g.2.2.1 + 0)), (0, .ref bs)] → W p l e room_1 s m args below meth c H locs cells slots Q (F0 m 536 ls []) := by
  have hx := C0.1; have hb := C0.2.1; have hown := C0.2.2.2.2.1; have hts := C0.2.2.2.2.2.1
  intro d
  induction d with
  | zero =>
    intro k N S H locs ls hkd hU hW hl
    have hm := hU.2.1
    obtain rfl : k = n := by omega
    by_cases h0 : S.length = 0
    · skip
      refine lv_aload_n hx hb dL_law_536 rfl (lv_at hl 4 rfl) ?_
      refine lv_bipush (v := 6) hx hb dL_law_537 (by decide) ?_
      refine ar_count (rest := []) C0 hl.1 hW (z_count ((N, S, X, [])) (k := 6) (by decide)) ⟨Nat.le_of_ble_eq_true rfl, Nat.le_of_ble_eq_true rfl⟩ (Nat.le_of_ble_eq_true rfl) ⟨by omega, by omega⟩ dL_law_539 (fun H locs hW => ?_)
      refine lv_if_le (tgt := 598) hx hb dL_law_542 rfl (fun _ => ?_) (fun hc => absurd (show nI S.length ≤ 0 by rw [h0]; decide) hc)
      have hl := lv_sub hl [2, 3, 4, 5] rfl
      have hl : lv_has ls 15 [(4, .long kp), (2, .ref (g.2.2.1 + 70)), (1, .ref (g.2.2.1 + 0)), (0, .ref bs)] := hl
      exact W.widen (by omega) (by omega) (hK N S H locs ls (by omega) hW hl)
    · skip
      refine lv_aload_n hx hb dL_law_536 rfl (lv_at hl 4 rfl) ?_
      refine lv_bipush (v := 6) hx hb dL_law_537 (by decide) ?_
      refine ar_count (rest := []) C0 hl.1 hW (z_count ((N, S, X, [])) (k := 6) (by decide)) ⟨Nat.le_of_ble_eq_true rfl, Nat.le_of_ble_eq_true rfl⟩ (Nat.le_of_ble_eq_true rfl) ⟨by omega, by omega⟩ dL_law_539 (fun H locs hW => ?_)
      refine lv_if_le (tgt := 598) hx hb dL_law_542 rfl (fun hc => absurd (show nI S.length ≤ 0 from hc) (nI_ge (a := 0) (by omega) (by omega))) (fun _ => ?_)
      refine lv_iload hx hb dL_law_545 (lv_at hl 0 rfl) ?_
      refine lv_iload_n hx hb dL_law_547 rfl (lv_at hl 1 rfl) ?_
      refine lv_icmp_ge (tgt := 598) hx hb dL_law_548 rfl (fun _ => ?_) (fun hc => absurd (nI_le (Nat.le_refl _) (by omega)) hc)
      have hl := lv_sub hl [2, 3, 4, 5] rfl
      have hl : lv_has ls 15 [(4, .long kp), (2, .ref (g.2.2.1 + 70)), (1, .ref (g.2.2.1 + 0)), (0, .ref bs)] := hl
      exact W.widen (by omega) (by omega) (hK N S H locs ls (by omega) hW hl)
  | succ d ih =>
    intro k N S H locs ls hkd hU hW hl
    have hm := hU.2.1
    have hkn : k < n := by omega
    by_cases h0 : S.length = 0
    · skip
      refine lv_aload_n hx hb dL_law_536 rfl (lv_at hl 4 rfl) ?_
      refine lv_bipush (v := 6) hx hb dL_law_537 (by decide) ?_
      refine ar_count (rest := []) C0 hl.1 hW (z_count ((N, S, X, [])) (k := 6) (by decide)) ⟨Nat.le_of_ble_eq_true rfl, Nat.le_of_ble_eq_true rfl⟩ (Nat.le_of_ble_eq_true rfl) ⟨by omega, by omega⟩ dL_law_539 (fun H locs hW => ?_)
      refine lv_if_le (tgt := 598) hx hb dL_law_542 rfl (fun _ => ?_) (fun hc => absurd (show nI S.length ≤ 0 by rw [h0]; decide) hc)
      have hl := lv_sub hl [2, 3, 4, 5] rfl
      have hl : lv_has ls 15 [(4, .long kp), (2, .ref (g.2.2.1 + 70)), (1, .ref (g.2.2.1 + 0)), (0, .ref bs)] := hl
      exact W.widen (by omega) (by omega) (hK N S H locs ls (by omega) hW hl)
    · skip
      obtain ⟨A, S2, e, hU2⟩ := hU.step h0 hkn
      subst e
      have hlen : (S2 ++ [A]).length = S2.length + 1 := by rw [List.length_append]; rfl
      refine lv_aload_n hx hb dL_law_536 rfl (lv_at hl 4 rfl) ?_
      refine lv_bipush (v := 6) hx hb dL_law_537 (by decide) ?_
      refine ar_count (rest := []) C0 hl.1 hW (z_count ((N, S2 ++ [A], X, [])) (k := 6) (by decide)) ⟨Nat.le_of_ble_eq_true rfl, Nat.le_of_ble_eq_true rfl⟩ (Nat.le_of_ble_eq_true rfl) ⟨by omega, by omega⟩ dL_law_539 (fun H locs hW => ?_)
      refine lv_if_le (tgt := 598) hx hb dL_law_542 rfl (fun hc => absurd (show nI (S2 ++ [A]).length ≤ 0 from hc) (nI_ge (a := 0) (by omega) (by omega))) (fun _ => ?_)
      refine lv_iload hx hb dL_law_545 (lv_at hl 0 rfl) ?_
      refine lv_iload_n hx hb dL_law_547 rfl (lv_at hl 1 rfl) ?_
      refine lv_icmp_ge (tgt := 598) hx hb dL_law_548 rfl (fun hc => absurd hc (nI_ge hkn (by omega))) (fun _ => ?_)
      refine lv_aload_n hx hb dL_law_551 rfl (lv_at hl 4 rfl) ?_
      refine lv_bipush (v := 6) hx hb dL_law_552 (by decide) ?_
      refine ar_count (rest := []) C0 hl.1 hW (z_count ((N, S2 ++ [A], X, [])) (k := 6) (by decide)) ⟨Nat.le_of_ble_eq_true rfl, Nat.le_of_ble_eq_true rfl⟩ (Nat.le_of_ble_eq_true rfl) ⟨by omega, by omega⟩ dL_law_554 (fun H locs hW => ?_)
      refine lv_istore (lv' := [(7, .int (cntV ((N, S2 ++ [A], X, [])) 6)), (6, .int (nI k)), (3, .int (nI n)), (4, .long kp), (2, .ref (g.2.2.1 + 70)), (1, .ref (g.2.2.1 + 0)), (0, .ref bs)]) hx hb dL_law_557 hl (Nat.le_of_ble_eq_true rfl) rfl (fun ls hl => ?_)
      refine lv_iload hx hb dL_law_559 (lv_at hl 1 rfl) ?_
      refine lv_iconst (v := 5) hx hb dL_law_561 (by decide) ?_
      refine lv_icmp_gt (tgt := 590) hx hb dL_law_562 rfl (fun hc => absurd ((nI_ltI (a := 5) (by decide) (by omega)).mp hc) (by omega)) (fun _ => ?_)
      refine lv_aload_n hx hb dL_law_565 rfl (lv_at hl 5 rfl) ?_
      refine al_cSl (rest := []) C0 hW (c_L_seen (r := seenF (N, S2 ++ [A], X, [])) rfl) (ls_seen hts ⟨Nat.le_of_ble_eq_true rfl, Nat.le_of_ble_eq_true rfl⟩) rfl hl.1 rfl (Nat.le_of_ble_eq_true rfl) ⟨by omega, by omega⟩ dL_law_566 (fun H locs hW => ?_)
      refine lv_aload_n hx hb dL_law_569 rfl (lv_at hl 4 rfl) ?_
      refine lv_iload_n hx hb dL_law_570 rfl (lv_at hl 2 rfl) ?_
      refine lv_iload hx hb dL_law_571 (lv_at hl 1 rfl) ?_
      refine lv_isub hx hb dL_law_573 ?_
      rw [pk_sub (show k ≤ n by omega)]
      refine al_lald C0 hW (by omega) dL_law_574 ?_
      have ez : Z (n - k) = seenF (N, S2 ++ [A], X, []) := by rw [hZ _ (by omega), hU.1]; rfl
      refine W.lcmp hx hb dL_law_575 ?_
      rw [ez, lg_cmp_rf]
      refine lv_if_ne (tgt := 590) hx hb dL_law_576 rfl (fun hc => absurd hc (by decide)) (fun _ => ?_)
      refine lv_aload_n hx hb dL_law_579 rfl (lv_at hl 5 rfl) ?_
      refine ar_undo (rest := []) C0 hl.1 hW (v := nI S2.length) (τ := (A, S2, X, [])) (by rw [undo_s]) (To.of (by rw [undo_s])) ⟨Nat.le_of_ble_eq_true rfl, Nat.le_of_ble_eq_true rfl⟩ (Nat.le_of_ble_eq_true rfl) ⟨by omega, by omega⟩ dL_law_580 (fun H locs hW => ?_)
      refine lv_iload hx hb dL_law_583 (lv_at hl 0 rfl) ?_
      refine lv_iconst (v := 1) hx hb dL_law_585 (by decide) ?_
      refine lv_isub hx hb dL_law_586 ?_
      refine lv_icmp_eq (tgt := 592) hx hb dL_law_587 rfl (fun _ => ?_) (fun hc => absurd (show nI S2.length = nI (S2 ++ [A]).length - nI 1 by rw [hlen, pk_sub (by omega)]; rfl) hc)
      refine lv_iinc (k := 1) (v := nI (k + 1)) (lv' := [(6, .int (nI (k + 1))), (7, .int (cntV ((N, S2 ++ [A], X, [])) 6)), (3, .int (nI n)), (4, .long kp), (2, .ref (g.2.2.1 + 70)), (1, .ref (g.2.2.1 + 0)), (0, .ref bs)]) hx hb dL_law_592 hl rfl (by rw [show Int32.ofInt 1 = nI 1 by decide, nI_add]) (Nat.le_of_ble_eq_true rfl) rfl (fun ls hl => ?_)
      refine lv_goto (tgt := 536) hx hb dL_law_595 rfl ?_
      have hl := lv_sub hl [0, 2, 3, 4, 5, 6] rfl
      have hl : lv_has ls 15 [(6, .int (nI (k + 1))), (3, .int (nI n)), (4, .long kp), (2, .ref (g.2.2.1 + 70)), (1, .ref (g.2.2.1 + 0)), (0, .ref bs)] := hl
      exact W.widen (by omega) (by omega) (ih (k + 1) A S2 H locs ls (by omega) hU2 hW hl)
theorem lw_u2 (hfl : l.stackTraces = false) (C0 : CX g p s m args meth c RL cL_law 15 (some .boolean)) {kp : Int64} {bs : Nat} {X : Nat → Option Abs} (hc1 : cells + 0 ≤ room_1.cells) (hc2 : slots + 0 ≤ room_1.slots) (hK : ∀ (N : Abs) (H : Heap) (locs : List Loc) (ls : Array Slot), WA g (N, [], X, []) true Z s.heap H locs → lv_has ls 15 [(4, .long kp), (2, .ref (g.2.2.1 + 70)), (1, .ref (g.2.2.1 + 0)), (0, .ref bs)] → W p l e room_1 s m args below meth c H locs cells slots Q (F0 m 632 ls [])) : ∀ (d k : Nat) (N : Abs) (S : List Abs) (H : Heap) (locs : List Loc) (ls : Array Slot), k + d = 6 → S.length + k ≤ 6 → WA g (N, S, X, []) true Z s.heap H locs → lv_has ls 15 [(6, .int (nI k)), (4, .long kp), (2, .ref (g.2.2.1 + 70)), (1, .ref (g.2.2.1 + 0)), (0, .ref bs)] → W p l e room_1 s m args below meth c H locs cells slots Q (F0 m 601 ls []) := by
  have hx := C0.1; have hb := C0.2.1; have hown := C0.2.2.2.2.1; have hts := C0.2.2.2.2.2.1
  intro d
  induction d with
  | zero =>
    intro k N S H locs ls hkd hm hW hl
    obtain rfl : k = 6 := by omega
    obtain rfl : S = [] := List.eq_nil_of_length_eq_zero (by omega)
    refine lv_iload hx hb dL_law_601 (lv_at hl 0 rfl) ?_
    refine lv_bipush (v := 6) hx hb dL_law_603 (by decide) ?_
    refine lv_icmp_ge (tgt := 632) hx hb dL_law_605 rfl (fun _ => ?_) (fun hc => absurd (by decide) hc)
    have hl := lv_sub hl [1, 2, 3, 4] rfl
    have hl : lv_has ls 15 [(4, .long kp), (2, .ref (g.2.2.1 + 70)), (1, .ref (g.2.2.1 + 0)), (0, .ref bs)] := hl
    exact hK N H locs ls hW hl
  | succ d ih =>
    intro k N S H locs ls hkd hm hW hl
    have hkn : k < 6 := by omega
    rcases List.eq_nil_or_concat S with e | ⟨S2, A, e⟩
    · skip
      subst e
      refine lv_iload hx hb dL_law_601 (lv_at hl 0 rfl) ?_
      refine lv_bipush (v := 6) hx hb dL_law_603 (by decide) ?_
      refine lv_icmp_ge (tgt := 632) hx hb dL_law_605 rfl (fun hc => absurd hc (nI_ge (b := 6) hkn (by decide))) (fun _ => ?_)
      refine lv_aload_n hx hb dL_law_608 rfl (lv_at hl 3 rfl) ?_
      refine lv_bipush (v := 6) hx hb dL_law_609 (by decide) ?_
      refine ar_count (rest := []) C0 hl.1 hW (z_count ((N, [], X, [])) (k := 6) (by decide)) ⟨Nat.le_of_ble_eq_true rfl, Nat.le_of_ble_eq_true rfl⟩ (Nat.le_of_ble_eq_true rfl) ⟨by omega, by omega⟩ dL_law_611 (fun H locs hW => ?_)
      refine lv_if_le (tgt := 632) hx hb dL_law_614 rfl (fun _ => ?_) (fun hc => absurd (show nI ([] : List Abs).length ≤ 0 by decide) hc)
      have hl := lv_sub hl [1, 2, 3, 4] rfl
      have hl : lv_has ls 15 [(4, .long kp), (2, .ref (g.2.2.1 + 70)), (1, .ref (g.2.2.1 + 0)), (0, .ref bs)] := hl
      exact W.widen (by omega) (by omega) (hK N H locs ls hW hl)
    · skip
      rw [List.concat_eq_append] at e
      subst e
      have hlen : (S2 ++ [A]).length = S2.length + 1 := by rw [List.length_append]; rfl
      refine lv_iload hx hb dL_law_601 (lv_at hl 0 rfl) ?_
      refine lv_bipush (v := 6) hx hb dL_law_603 (by decide) ?_
      refine lv_icmp_ge (tgt := 632) hx hb dL_law_605 rfl (fun hc => absurd hc (nI_ge (b := 6) hkn (by decide))) (fun _ => ?_)
      refine lv_aload_n hx hb dL_law_608 rfl (lv_at hl 3 rfl) ?_
      refine lv_bipush (v := 6) hx hb dL_law_609 (by decide) ?_
      refine ar_count (rest := []) C0 hl.1 hW (z_count ((N, S2 ++ [A], X, [])) (k := 6) (by decide)) ⟨Nat.le_of_ble_eq_true rfl, Nat.le_of_ble_eq_true rfl⟩ (Nat.le_of_ble_eq_true rfl) ⟨by omega, by omega⟩ dL_law_611 (fun H locs hW => ?_)
      refine lv_if_le (tgt := 632) hx hb dL_law_614 rfl (fun hc => absurd (show nI (S2 ++ [A]).length ≤ 0 from hc) (nI_ge (a := 0) (by omega) (by omega))) (fun _ => ?_)
      refine lv_aload_n hx hb dL_law_617 rfl (lv_at hl 3 rfl) ?_
      refine ar_undo (rest := []) C0 hl.1 hW (v := nI S2.length) (τ := (A, S2, X, [])) (by rw [undo_s]) (To.of (by rw [undo_s])) ⟨Nat.le_of_ble_eq_true rfl, Nat.le_of_ble_eq_true rfl⟩ (Nat.le_of_ble_eq_true rfl) ⟨by omega, by omega⟩ dL_law_618 (fun H locs hW => ?_)
      refine lv_if_ge (tgt := 626) hx hb dL_law_621 rfl (fun _ => ?_) (fun hc => absurd (nI_pos' (by omega)) hc)
      refine lv_iinc (k := 0) (v := nI (k + 1)) (lv' := [(6, .int (nI (k + 1))), (4, .long kp), (2, .ref (g.2.2.1 + 70)), (1, .ref (g.2.2.1 + 0)), (0, .ref bs)]) hx hb dL_law_626 hl rfl (by rw [show Int32.ofInt 1 = nI 1 by decide, nI_add]) (Nat.le_of_ble_eq_true rfl) rfl (fun ls hl => ?_)
      refine lv_goto (tgt := 601) hx hb dL_law_629 rfl ?_
      have hl := lv_sub hl [0, 1, 2, 3, 4] rfl
      have hl : lv_has ls 15 [(6, .int (nI (k + 1))), (4, .long kp), (2, .ref (g.2.2.1 + 70)), (1, .ref (g.2.2.1 + 0)), (0, .ref bs)] := hl
      exact W.widen (by omega) (by omega) (ih (k + 1) A S2 H locs ls (by omega) (by omega) hW hl)
theorem gb_s {N A0 : Abs} {X : Nat → Option Abs} (hX0 : X 0 = some A0) (h2 : A0.1 0 + A0.1 1 = 2) : opGoBack (N, [], X, []) 0 = (.inl 2, A0, [N], X, []) := by
  unfold opGoBack
  rw [if_pos (show ixb 2 0 = true by decide)]
  have e : (N, ([] : List Abs), X, ([] : List Nat)).2.2.1 (vN 0) = some A0 := hX0
  rw [e]
  dsimp only
  rw [h2]
  rfl
theorem lw_fin (hfl : l.stackTraces = false) (C0 : CX g p s m args meth c RL cL_law 15 (some .boolean)) {bs : Nat} {N A0 : Abs} {X : Nat → Option Abs} (hX0 : X 0 = some A0) (h2 : A0.1 0 + A0.1 1 = 2) (hl : lv_has ls 15 [(4, .long (seenA A0)), (2, .ref (g.2.2.1 + 70)), (1, .ref (g.2.2.1 + 0)), (0, .ref bs)]) (hW : WA g (N, [], X, []) true Z s.heap H locs) (hc1 : cells + 2 ≤ room_1.cells) (hc2 : slots + 65 ≤ room_1.slots) (hK : ∀ (H : Heap) (locs : List Loc) (ls : Array Slot), va_S (AA g) s.heap H locs → W p l e room_1 s m args below meth c H locs (cells + 2) (slots + 65) Q (F0 m 680 ls [.int 1])) : W p l e room_1 s m args below meth c H locs cells slots Q (F0 m 632 ls []) := by
  have hx := C0.1; have hb := C0.2.1; have hown := C0.2.2.2.2.1; have hts := C0.2.2.2.2.2.1
  refine lv_aload_n hx hb dL_law_632 rfl (lv_at hl 2 rfl) ?_
  refine lv_bipush (v := 9) hx hb dL_law_633 (by decide) ?_
  refine lv_iconst (v := 0) hx hb dL_law_635 (by decide) ?_
  refine lv_iconst (v := 0) hx hb dL_law_636 (by decide) ?_
  refine lv_lconst (v := 0) hx hb dL_law_637 rfl ?_
  refine al_cSW (rest := []) C0 hW (c_L_call hfl _ _ _ _ (ce_undo (show (opUndo (N, [], X, [])).1 = .inr 2 from rfl))) (ls_call hts ⟨Nat.le_of_ble_eq_true rfl, Nat.le_of_ble_eq_true rfl⟩) rfl hl.1 rfl (Nat.le_of_ble_eq_true rfl) ⟨by omega, by omega⟩ dL_law_638 (fun H locs hW => ?_)
  refine lv_ldc (v := (-100013)) hx hb hown (hts _ wl121) dL_law_641 ?_
  refine lv_icmp_ne (tgt := 679) hx hb dL_law_643 rfl (fun hc => absurd hc (by decide)) (fun _ => ?_)
  refine lv_aload_n hx hb dL_law_646 rfl (lv_at hl 2 rfl) ?_
  refine lv_iconst (v := 0) hx hb dL_law_647 (by decide) ?_
  refine ar_goBack (rest := []) C0 hl.1 hW (v := 2) (τ := (A0, [N], X, [])) (by rw [gb_s hX0 h2]) (To.of (by rw [gb_s hX0 h2])) ⟨Nat.le_of_ble_eq_true rfl, Nat.le_of_ble_eq_true rfl⟩ (Nat.le_of_ble_eq_true rfl) ⟨by omega, by omega⟩ dL_law_648 (fun H locs hW => ?_)
  refine lv_iconst (v := 2) hx hb dL_law_651 (by decide) ?_
  refine lv_icmp_ne (tgt := 679) hx hb dL_law_652 rfl (fun hc => absurd hc (by decide)) (fun _ => ?_)
  refine lv_aload_n hx hb dL_law_655 rfl (lv_at hl 2 rfl) ?_
  refine al_cSl (rest := []) C0 hW (c_L_seen (r := seenF (A0, [N], X, [])) rfl) (ls_seen hts ⟨Nat.le_of_ble_eq_true rfl, Nat.le_of_ble_eq_true rfl⟩) rfl hl.1 rfl (Nat.le_of_ble_eq_true rfl) ⟨by omega, by omega⟩ dL_law_656 (fun H locs hW => ?_)
  refine lv_lload hx hb dL_law_659 (lv_at hl 0 rfl) ?_
  refine W.lcmp hx hb dL_law_661 ?_
  rw [show seenF (A0, [N], X, []) = seenA A0 from rfl, lg_cmp_rf]
  refine lv_if_ne (tgt := 679) hx hb dL_law_662 rfl (fun hc => absurd hc (by decide)) (fun _ => ?_)
  refine lv_aload_n hx hb dL_law_665 rfl (lv_at hl 2 rfl) ?_
  refine lv_bipush (v := 6) hx hb dL_law_666 (by decide) ?_
  refine ar_count (rest := []) C0 hl.1 hW (z_count ((A0, [N], X, [])) (k := 6) (by decide)) ⟨Nat.le_of_ble_eq_true rfl, Nat.le_of_ble_eq_true rfl⟩ (Nat.le_of_ble_eq_true rfl) ⟨by omega, by omega⟩ dL_law_668 (fun H locs hW => ?_)
  refine lv_iconst (v := 1) hx hb dL_law_671 (by decide) ?_
  refine lv_icmp_ne (tgt := 679) hx hb dL_law_672 rfl (fun hc => absurd (show cntV (A0, [N], X, []) 6 = 1 from rfl) hc) (fun _ => ?_)
  refine lv_iconst (v := 1) hx hb dL_law_675 (by decide) ?_
  refine lv_goto (tgt := 680) hx hb dL_law_676 rfl ?_
  exact W.widen (by omega) (by omega) (hK H locs ls hW.2)
end LPS
