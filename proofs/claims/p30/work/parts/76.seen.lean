/-! THE LAW'S seen: a number out of what the calls that ask answer. -/
section SNL
def valR (r : Int32 ⊕ Nat) : Int32 := match r with
  | .inl v => v
  | .inr _ => 0
def sq (f : Nat → Int32) : Nat → Int64 → Int64
  | 0, h => h
  | n + 1, h => 31 * sq f n h + Int32.toInt64 (f n)
def celF (A : Abs) (t k : Nat) : Int32 := A.2.1 t (k / 4) (k % 4)
def lenF (A : Abs) (s : Nat) : Nat := if A.2.2.1 s = [] then 0 else (wAll (A.2.2.1 s) [] [] []).length
def slF (A : Abs) : Nat → Int64 → Int64
  | 0, h => h
  | s + 1, h => 31 * (31 * sq (fun k => valR (opLetter A (nI s) (nI k))) (lenF A s) (slF A s h) + Int32.toInt64 (valR (opRows A 0 (nI s) 2 0))) + Int32.toInt64 (valR (opRows A 1 (nI s) 1 1))
def seenF (σ : Gst) : Int64 := slF σ.1 6 (sq (celF σ.1 1) (4 * σ.1.1 1) (sq (celF σ.1 0) (4 * σ.1.1 0) (sq (fun k => cntV σ k) 6 227)))
theorem z_count (σ : Gst) {k : Nat} (hk : k < 8) : opCount σ (nI k) = .inl (cntV σ k) := by
  unfold opCount; rw [if_pos (ix_in hk (by decide)), vN_n (by omega)]
theorem z_cell {A : Abs} {t r c : Nat} (ht : t < 2) (hn : A.1 t ≤ 16) (hr : r < A.1 t) (hc : c < 4) : opCell A (nI t) (nI r) (nI c) = .inl (A.2.1 t r c) := by
  unfold opCell
  rw [vN_n (by omega), vN_n (by omega), vN_n (by omega), ix_in ht (by decide), ix_in hr (by omega), ix_in hc (by decide)]; rfl
theorem z_letter (A : Abs) {s k : Nat} (hs : s < 6) (hk : k < 1000) : opLetter A (nI s) (nI k) = .inl (valR (opLetter A (nI s) (nI k))) := by
  unfold opLetter
  rw [if_pos (ix_in hs (by decide)), if_pos (show (0 : Int32) ≤ nI k from nI_le (a := 0) (by omega) (by omega))]
  split
  · rfl
  · split <;> rfl
theorem z_rows (A : Abs) {t s v w : Nat} (ht : t < 2) (hs : s < 6) (hv : v < 3) (hw : w < 2) : opRows A (nI t) (nI s) (nI v) (nI w) = .inl (valR (opRows A (nI t) (nI s) (nI v) (nI w))) := by
  unfold opRows
  rw [if_pos (ix_in ht (by decide)), if_pos (ix_in hs (by decide)), if_pos (ix_in hv (by decide)), if_pos (ix_in hw (by decide))]
  split <;> rfl
theorem z_len (A : Abs) {s : Nat} (hs : s < 6) : opFilter A (nI s) 4 = .inl (if A.2.2.1 s = [] then -2 else nI (wAll (A.2.2.1 s) [] [] []).length) := by
  unfold opFilter
  rw [if_pos (ix_in hs (by decide)), if_pos (show ixb 5 4 = true by decide +kernel), vN_n (by omega)]
  split
  · rfl
  · rw [if_neg (by decide), if_neg (by decide), if_neg (by decide), if_neg (by decide)]
theorem wAll_160 {L : List Nat} (hV : fV L) : (wAll L [] [] []).length ≤ 160 := by
  have hF : FObj (fun a => if a = 71 then (fun j => enc (L.getD j 0)) else fun _ => 0) (fun a => if a = 70 then (fun _ => some 71) else fun _ => none) ((fun k => if k = 70 then 2 else 10), (fun _ => L.length), []) 70 L := by
    refine ⟨Nat.le_refl _, rfl, 71, rfl, by decide, rfl, rfl, fun j x h => ?_⟩
    show enc (L.getD j 0) = enc x
    rw [List.getD_eq_getElem?_getD, h]; rfl
  obtain ⟨I1, -, -, h, -⟩ := k_wr hF hV
  exact h
variable {p : Program} {l : Launch} {e : Env} {Rm : Room} {s : State} {m : MethodId} {args : Array Value} {below : List Frame} {meth : Method} {c : Code} {H : Heap} {locs : List Loc} {cells slots : Nat} {Q : State → Prop}
variable {cc : ByteArray} {pc : Nat} {ls : Array Slot} {rest : List Value} {g : Gam} {σ : Gst} {b : Bool} {Z : Zed} {nL : Nat} {ret : Option FieldType}
abbrev rmL_seen : Room := { frames := 9, cells := 0, slots := 0, locals := 165 }
theorem ls_seen {Rm : Room} {s : State} {args : Array Value} (ht : ∀ w ∈ GT, w.before args s = true) (hR : rmL_seen.frames + 1 ≤ Rm.frames ∧ 8 + (5 + 11) + rmL_seen.locals ≤ Rm.locals) : CallB Rm s args RL 129 yL_seen cL_seen 5 (some .long) (Cond.code yL_seen cL_seen 5 (some .long) :: GT) rmL_seen 0 0 1 ∧ (Cond.static yL_seen).before args s = true := va_cwS 1 ht (goodS wl125 wl127 wl27 wl126) rfl rfl rfl ⟨by decide +kernel, by decide +kernel, by decide +kernel⟩ hR
theorem sn_1 (C0 : CX g p s m args meth c RL cL_seen 5 (some .long)) {h0 : Int64} (hK : ∀ (H : Heap) (locs : List Loc) (ls : Array Slot), WA g σ b Z s.heap H locs → lv_has ls 5 [(3, .int (nI 6)), (1, .long (sq (fun k => cntV σ k) 6 h0)), (0, .ref (g.2.2.1 + 0))] → W p l e rmL_seen s m args below meth c H locs 0 0 (MQ below (QAl g (seenF σ) σ b Z) args s 0 0 (AA g)) (F0 m 31 ls [])) : ∀ (d k : Nat) (H : Heap) (locs : List Loc) (ls : Array Slot), k + d = 6 → WA g σ b Z s.heap H locs → lv_has ls 5 [(3, .int (nI k)), (1, .long (sq (fun k => cntV σ k) k h0)), (0, .ref (g.2.2.1 + 0))] → W p l e rmL_seen s m args below meth c H locs 0 0 (MQ below (QAl g (seenF σ) σ b Z) args s 0 0 (AA g)) (F0 m 6 ls []) := by
  have hx := C0.1; have hb := C0.2.1; have hown := C0.2.2.2.2.1; have hts := C0.2.2.2.2.2.1
  intro d
  induction d with
  | zero =>
    intro k H locs ls hkd hW hl
    obtain rfl : k = 6 := by omega
    refine lv_iload_n hx hb dL_seen_6 rfl (lv_at hl 0 rfl) ?_
    refine lv_bipush (v := 6) hx hb dL_seen_7 (by decide) ?_
    refine lv_icmp_ge (tgt := 31) hx hb dL_seen_9 rfl (fun _ => ?_) (fun hc => absurd (by decide) hc)
    exact hK H locs ls hW hl
  | succ d ih =>
    intro k H locs ls hkd hW hl
    have hkn : k < 6 := by omega
    refine lv_iload_n hx hb dL_seen_6 rfl (lv_at hl 0 rfl) ?_
    refine lv_bipush (v := 6) hx hb dL_seen_7 (by decide) ?_
    refine lv_icmp_ge (tgt := 31) hx hb dL_seen_9 rfl (fun hc => absurd hc (nI_ge (b := 6) hkn (by decide))) (fun _ => ?_)
    refine lv_ldc2 (v := 31) hx hb hown (hts _ wl180) dL_seen_12 ?_
    refine lv_lload_n hx hb dL_seen_15 rfl (lv_at hl 1 rfl) ?_
    refine lv_lmul hx hb dL_seen_16 ?_
    refine lv_aload_n hx hb dL_seen_17 rfl (lv_at hl 2 rfl) ?_
    refine lv_iload_n hx hb dL_seen_18 rfl (lv_at hl 0 rfl) ?_
    refine ar_count (rest := [.long (31 * (sq (fun k => cntV σ k) k h0))]) C0 hl.1 hW (z_count σ (k := k) (by omega)) ⟨Nat.le_of_ble_eq_true rfl, Nat.le_of_ble_eq_true rfl⟩ (Nat.le_of_ble_eq_true rfl) ⟨Nat.le_of_ble_eq_true rfl, Nat.le_of_ble_eq_true rfl⟩ dL_seen_19 (fun H locs hW => ?_)
    refine lv_i2l (v := Int32.toInt64 (cntV σ k)) hx hb dL_seen_22 rfl ?_
    refine lv_ladd hx hb dL_seen_23 ?_
    refine lv_lstore_n (lv' := [(1, .long ((31 * (sq (fun k => cntV σ k) k h0)) + (Int32.toInt64 (cntV σ k)))), (3, .int (nI k)), (0, .ref (g.2.2.1 + 0))]) hx hb dL_seen_24 rfl hl (Nat.le_of_ble_eq_true rfl) rfl (fun ls hl => ?_)
    refine lv_iinc (k := 1) (v := (nI k) + 1) (lv' := [(3, .int ((nI k) + 1)), (1, .long ((31 * (sq (fun k => cntV σ k) k h0)) + (Int32.toInt64 (cntV σ k)))), (0, .ref (g.2.2.1 + 0))]) hx hb dL_seen_25 hl rfl (congrArg (fun t => (nI k) + t) (by decide : Int32.ofInt 1 = 1)) (Nat.le_of_ble_eq_true rfl) rfl (fun ls hl => ?_)
    refine lv_goto (tgt := 6) hx hb dL_seen_28 rfl ?_
    rw [nI_1] at hl
    have hl := lv_sub hl [0, 1, 2] rfl
    have hl : lv_has ls 5 [(3, .int (nI (k + 1))), (1, .long ((31 * (sq (fun k => cntV σ k) k h0)) + (Int32.toInt64 (cntV σ k)))), (0, .ref (g.2.2.1 + 0))] := hl
    exact ih (k + 1) H locs ls (by omega) hW hl
theorem sn_2 (C0 : CX g p s m args meth c RL cL_seen 5 (some .long)) {h0 : Int64} (h16 : σ.1.1 0 ≤ 16) (hK : ∀ (H : Heap) (locs : List Loc) (ls : Array Slot), WA g σ b Z s.heap H locs → lv_has ls 5 [(3, .int (nI (4 * σ.1.1 0))), (1, .long (sq (celF σ.1 0) (4 * σ.1.1 0) h0)), (0, .ref (g.2.2.1 + 0))] → W p l e rmL_seen s m args below meth c H locs 0 0 (MQ below (QAl g (seenF σ) σ b Z) args s 0 0 (AA g)) (F0 m 69 ls [])) : ∀ (d k : Nat) (H : Heap) (locs : List Loc) (ls : Array Slot), k + d = 4 * σ.1.1 0 → WA g σ b Z s.heap H locs → lv_has ls 5 [(3, .int (nI k)), (1, .long (sq (celF σ.1 0) k h0)), (0, .ref (g.2.2.1 + 0))] → W p l e rmL_seen s m args below meth c H locs 0 0 (MQ below (QAl g (seenF σ) σ b Z) args s 0 0 (AA g)) (F0 m 33 ls []) := by
  have hx := C0.1; have hb := C0.2.1; have hown := C0.2.2.2.2.1; have hts := C0.2.2.2.2.2.1
  intro d
  induction d with
  | zero =>
    intro k H locs ls hkd hW hl
    obtain rfl : k = 4 * σ.1.1 0 := by omega
    refine lv_iload_n hx hb dL_seen_33 rfl (lv_at hl 0 rfl) ?_
    refine lv_iconst (v := 4) hx hb dL_seen_34 (by decide) ?_
    refine lv_aload_n hx hb dL_seen_35 rfl (lv_at hl 2 rfl) ?_
    refine lv_iconst (v := 0) hx hb dL_seen_36 (by decide) ?_
    refine ar_count (rest := [.int 4, .int (nI (4 * σ.1.1 0))]) C0 hl.1 hW (z_count σ (k := 0) (by decide)) ⟨Nat.le_of_ble_eq_true rfl, Nat.le_of_ble_eq_true rfl⟩ (Nat.le_of_ble_eq_true rfl) ⟨Nat.le_of_ble_eq_true rfl, Nat.le_of_ble_eq_true rfl⟩ dL_seen_37 (fun H locs hW => ?_)
    refine lv_imul hx hb dL_seen_40 ?_
    rw [show (4 : Int32) * cntV σ 0 = nI (4 * σ.1.1 0) from pk_mul 4 _]
    refine lv_icmp_ge (tgt := 69) hx hb dL_seen_41 rfl (fun _ => ?_) (fun hc => absurd (nI_le (Nat.le_refl _) (by omega)) hc)
    exact hK H locs ls hW hl
  | succ d ih =>
    intro k H locs ls hkd hW hl
    have hkn : k < 4 * σ.1.1 0 := by omega
    refine lv_iload_n hx hb dL_seen_33 rfl (lv_at hl 0 rfl) ?_
    refine lv_iconst (v := 4) hx hb dL_seen_34 (by decide) ?_
    refine lv_aload_n hx hb dL_seen_35 rfl (lv_at hl 2 rfl) ?_
    refine lv_iconst (v := 0) hx hb dL_seen_36 (by decide) ?_
    refine ar_count (rest := [.int 4, .int (nI k)]) C0 hl.1 hW (z_count σ (k := 0) (by decide)) ⟨Nat.le_of_ble_eq_true rfl, Nat.le_of_ble_eq_true rfl⟩ (Nat.le_of_ble_eq_true rfl) ⟨Nat.le_of_ble_eq_true rfl, Nat.le_of_ble_eq_true rfl⟩ dL_seen_37 (fun H locs hW => ?_)
    refine lv_imul hx hb dL_seen_40 ?_
    rw [show (4 : Int32) * cntV σ 0 = nI (4 * σ.1.1 0) from pk_mul 4 _]
    refine lv_icmp_ge (tgt := 69) hx hb dL_seen_41 rfl (fun hc => absurd hc (nI_ge hkn (by omega))) (fun _ => ?_)
    refine lv_ldc2 (v := 31) hx hb hown (hts _ wl180) dL_seen_44 ?_
    refine lv_lload_n hx hb dL_seen_47 rfl (lv_at hl 1 rfl) ?_
    refine lv_lmul hx hb dL_seen_48 ?_
    refine lv_aload_n hx hb dL_seen_49 rfl (lv_at hl 2 rfl) ?_
    refine lv_iconst (v := 0) hx hb dL_seen_50 (by decide) ?_
    refine lv_iload_n hx hb dL_seen_51 rfl (lv_at hl 0 rfl) ?_
    refine lv_iconst (v := 4) hx hb dL_seen_52 (by decide) ?_
    refine lv_idiv hx hb dL_seen_53 (by decide) ?_
    refine lv_iload_n hx hb dL_seen_54 rfl (lv_at hl 0 rfl) ?_
    refine lv_iconst (v := 4) hx hb dL_seen_55 (by decide) ?_
    refine lv_irem hx hb dL_seen_56 (by decide) ?_
    rw [show nI k / 4 = nI (k / 4) from pk_div (d := 4) (by omega) (by decide) (by decide), show nI k - nI (k / 4) * 4 = nI (k % 4) by rw [← pk_div (d := 4) (by omega) (by decide) (by decide)]; exact pk_rem (d := 4) (by omega) (by decide) (by decide)]
    refine ar_cell (rest := [.long (31 * (sq (celF σ.1 0) k h0))]) C0 hl.1 hW (z_cell (t := 0) (r := k / 4) (c := k % 4) (by decide) h16 (by omega) (by omega)) ⟨Nat.le_of_ble_eq_true rfl, Nat.le_of_ble_eq_true rfl⟩ (Nat.le_of_ble_eq_true rfl) ⟨Nat.le_of_ble_eq_true rfl, Nat.le_of_ble_eq_true rfl⟩ dL_seen_57 (fun H locs hW => ?_)
    refine lv_i2l (v := Int32.toInt64 (celF σ.1 0 k)) hx hb dL_seen_60 rfl ?_
    refine lv_ladd hx hb dL_seen_61 ?_
    refine lv_lstore_n (lv' := [(1, .long ((31 * (sq (celF σ.1 0) k h0)) + (Int32.toInt64 (celF σ.1 0 k)))), (3, .int (nI k)), (0, .ref (g.2.2.1 + 0))]) hx hb dL_seen_62 rfl hl (Nat.le_of_ble_eq_true rfl) rfl (fun ls hl => ?_)
    refine lv_iinc (k := 1) (v := (nI k) + 1) (lv' := [(3, .int ((nI k) + 1)), (1, .long ((31 * (sq (celF σ.1 0) k h0)) + (Int32.toInt64 (celF σ.1 0 k)))), (0, .ref (g.2.2.1 + 0))]) hx hb dL_seen_63 hl rfl (congrArg (fun t => (nI k) + t) (by decide : Int32.ofInt 1 = 1)) (Nat.le_of_ble_eq_true rfl) rfl (fun ls hl => ?_)
    refine lv_goto (tgt := 33) hx hb dL_seen_66 rfl ?_
    rw [nI_1] at hl
    have hl := lv_sub hl [0, 1, 2] rfl
    have hl : lv_has ls 5 [(3, .int (nI (k + 1))), (1, .long ((31 * (sq (celF σ.1 0) k h0)) + (Int32.toInt64 (celF σ.1 0 k)))), (0, .ref (g.2.2.1 + 0))] := hl
    exact ih (k + 1) H locs ls (by omega) hW hl
theorem sn_3 (C0 : CX g p s m args meth c RL cL_seen 5 (some .long)) {h0 : Int64} (h16 : σ.1.1 1 ≤ 16) (hK : ∀ (H : Heap) (locs : List Loc) (ls : Array Slot), WA g σ b Z s.heap H locs → lv_has ls 5 [(3, .int (nI (4 * σ.1.1 1))), (1, .long (sq (celF σ.1 1) (4 * σ.1.1 1) h0)), (0, .ref (g.2.2.1 + 0))] → W p l e rmL_seen s m args below meth c H locs 0 0 (MQ below (QAl g (seenF σ) σ b Z) args s 0 0 (AA g)) (F0 m 107 ls [])) : ∀ (d k : Nat) (H : Heap) (locs : List Loc) (ls : Array Slot), k + d = 4 * σ.1.1 1 → WA g σ b Z s.heap H locs → lv_has ls 5 [(3, .int (nI k)), (1, .long (sq (celF σ.1 1) k h0)), (0, .ref (g.2.2.1 + 0))] → W p l e rmL_seen s m args below meth c H locs 0 0 (MQ below (QAl g (seenF σ) σ b Z) args s 0 0 (AA g)) (F0 m 71 ls []) := by
  have hx := C0.1; have hb := C0.2.1; have hown := C0.2.2.2.2.1; have hts := C0.2.2.2.2.2.1
  intro d
  induction d with
  | zero =>
    intro k H locs ls hkd hW hl
    obtain rfl : k = 4 * σ.1.1 1 := by omega
    refine lv_iload_n hx hb dL_seen_71 rfl (lv_at hl 0 rfl) ?_
    refine lv_iconst (v := 4) hx hb dL_seen_72 (by decide) ?_
    refine lv_aload_n hx hb dL_seen_73 rfl (lv_at hl 2 rfl) ?_
    refine lv_iconst (v := 1) hx hb dL_seen_74 (by decide) ?_
    refine ar_count (rest := [.int 4, .int (nI (4 * σ.1.1 1))]) C0 hl.1 hW (z_count σ (k := 1) (by decide)) ⟨Nat.le_of_ble_eq_true rfl, Nat.le_of_ble_eq_true rfl⟩ (Nat.le_of_ble_eq_true rfl) ⟨Nat.le_of_ble_eq_true rfl, Nat.le_of_ble_eq_true rfl⟩ dL_seen_75 (fun H locs hW => ?_)
    refine lv_imul hx hb dL_seen_78 ?_
    rw [show (4 : Int32) * cntV σ 1 = nI (4 * σ.1.1 1) from pk_mul 4 _]
    refine lv_icmp_ge (tgt := 107) hx hb dL_seen_79 rfl (fun _ => ?_) (fun hc => absurd (nI_le (Nat.le_refl _) (by omega)) hc)
    exact hK H locs ls hW hl
  | succ d ih =>
    intro k H locs ls hkd hW hl
    have hkn : k < 4 * σ.1.1 1 := by omega
    refine lv_iload_n hx hb dL_seen_71 rfl (lv_at hl 0 rfl) ?_
    refine lv_iconst (v := 4) hx hb dL_seen_72 (by decide) ?_
    refine lv_aload_n hx hb dL_seen_73 rfl (lv_at hl 2 rfl) ?_
    refine lv_iconst (v := 1) hx hb dL_seen_74 (by decide) ?_
    refine ar_count (rest := [.int 4, .int (nI k)]) C0 hl.1 hW (z_count σ (k := 1) (by decide)) ⟨Nat.le_of_ble_eq_true rfl, Nat.le_of_ble_eq_true rfl⟩ (Nat.le_of_ble_eq_true rfl) ⟨Nat.le_of_ble_eq_true rfl, Nat.le_of_ble_eq_true rfl⟩ dL_seen_75 (fun H locs hW => ?_)
    refine lv_imul hx hb dL_seen_78 ?_
    rw [show (4 : Int32) * cntV σ 1 = nI (4 * σ.1.1 1) from pk_mul 4 _]
    refine lv_icmp_ge (tgt := 107) hx hb dL_seen_79 rfl (fun hc => absurd hc (nI_ge hkn (by omega))) (fun _ => ?_)
    refine lv_ldc2 (v := 31) hx hb hown (hts _ wl180) dL_seen_82 ?_
    refine lv_lload_n hx hb dL_seen_85 rfl (lv_at hl 1 rfl) ?_
    refine lv_lmul hx hb dL_seen_86 ?_
    refine lv_aload_n hx hb dL_seen_87 rfl (lv_at hl 2 rfl) ?_
    refine lv_iconst (v := 1) hx hb dL_seen_88 (by decide) ?_
    refine lv_iload_n hx hb dL_seen_89 rfl (lv_at hl 0 rfl) ?_
    refine lv_iconst (v := 4) hx hb dL_seen_90 (by decide) ?_
    refine lv_idiv hx hb dL_seen_91 (by decide) ?_
    refine lv_iload_n hx hb dL_seen_92 rfl (lv_at hl 0 rfl) ?_
    refine lv_iconst (v := 4) hx hb dL_seen_93 (by decide) ?_
    refine lv_irem hx hb dL_seen_94 (by decide) ?_
    rw [show nI k / 4 = nI (k / 4) from pk_div (d := 4) (by omega) (by decide) (by decide), show nI k - nI (k / 4) * 4 = nI (k % 4) by rw [← pk_div (d := 4) (by omega) (by decide) (by decide)]; exact pk_rem (d := 4) (by omega) (by decide) (by decide)]
    refine ar_cell (rest := [.long (31 * (sq (celF σ.1 1) k h0))]) C0 hl.1 hW (z_cell (t := 1) (r := k / 4) (c := k % 4) (by decide) h16 (by omega) (by omega)) ⟨Nat.le_of_ble_eq_true rfl, Nat.le_of_ble_eq_true rfl⟩ (Nat.le_of_ble_eq_true rfl) ⟨Nat.le_of_ble_eq_true rfl, Nat.le_of_ble_eq_true rfl⟩ dL_seen_95 (fun H locs hW => ?_)
    refine lv_i2l (v := Int32.toInt64 (celF σ.1 1 k)) hx hb dL_seen_98 rfl ?_
    refine lv_ladd hx hb dL_seen_99 ?_
    refine lv_lstore_n (lv' := [(1, .long ((31 * (sq (celF σ.1 1) k h0)) + (Int32.toInt64 (celF σ.1 1 k)))), (3, .int (nI k)), (0, .ref (g.2.2.1 + 0))]) hx hb dL_seen_100 rfl hl (Nat.le_of_ble_eq_true rfl) rfl (fun ls hl => ?_)
    refine lv_iinc (k := 1) (v := (nI k) + 1) (lv' := [(3, .int ((nI k) + 1)), (1, .long ((31 * (sq (celF σ.1 1) k h0)) + (Int32.toInt64 (celF σ.1 1 k)))), (0, .ref (g.2.2.1 + 0))]) hx hb dL_seen_101 hl rfl (congrArg (fun t => (nI k) + t) (by decide : Int32.ofInt 1 = 1)) (Nat.le_of_ble_eq_true rfl) rfl (fun ls hl => ?_)
    refine lv_goto (tgt := 71) hx hb dL_seen_104 rfl ?_
    rw [nI_1] at hl
    have hl := lv_sub hl [0, 1, 2] rfl
    have hl : lv_has ls 5 [(3, .int (nI (k + 1))), (1, .long ((31 * (sq (celF σ.1 1) k h0)) + (Int32.toInt64 (celF σ.1 1 k)))), (0, .ref (g.2.2.1 + 0))] := hl
    exact ih (k + 1) H locs ls (by omega) hW hl
theorem sn_4 (C0 : CX g p s m args meth c RL cL_seen 5 (some .long)) {h0 : Int64} {q : Nat} (hq : q < 6) (hO : GOk σ) (hK : ∀ (H : Heap) (locs : List Loc) (ls : Array Slot), WA g σ b Z s.heap H locs → lv_has ls 5 [(3, .int (nI q)), (1, .long (sq (fun k => valR (opLetter σ.1 (nI q) (nI k))) (lenF σ.1 q) h0)), (0, .ref (g.2.2.1 + 0))] → W p l e rmL_seen s m args below meth c H locs 0 0 (MQ below (QAl g (seenF σ) σ b Z) args s 0 0 (AA g)) (F0 m 150 ls [])) : ∀ (d k : Nat) (H : Heap) (locs : List Loc) (ls : Array Slot), k + d = lenF σ.1 q → WA g σ b Z s.heap H locs → lv_has ls 5 [(4, .int (nI k)), (3, .int (nI q)), (1, .long (sq (fun k => valR (opLetter σ.1 (nI q) (nI k))) k h0)), (0, .ref (g.2.2.1 + 0))] → W p l e rmL_seen s m args below meth c H locs 0 0 (MQ below (QAl g (seenF σ) σ b Z) args s 0 0 (AA g)) (F0 m 118 ls []) := by
  have hx := C0.1; have hb := C0.2.1; have hown := C0.2.2.2.2.1; have hts := C0.2.2.2.2.2.1
  have hlen : lenF σ.1 q ≤ 160 := by
    unfold lenF
    split
    · omega
    · rename_i hne
      exact wAll_160 ((hO.1.2.2 q (by omega)).resolve_left hne)
  have hv := z_len σ.1 hq
  intro d
  induction d with
  | zero =>
    intro k H locs ls hkd hW hl
    obtain rfl : k = lenF σ.1 q := by omega
    refine lv_iload hx hb dL_seen_118 (lv_at hl 0 rfl) ?_
    refine lv_aload_n hx hb dL_seen_120 rfl (lv_at hl 3 rfl) ?_
    refine lv_iload_n hx hb dL_seen_121 rfl (lv_at hl 1 rfl) ?_
    refine lv_iconst (v := 4) hx hb dL_seen_122 (by decide) ?_
    refine ar_filter (rest := [.int (nI (lenF σ.1 q))]) C0 hl.1 hW hv ⟨Nat.le_of_ble_eq_true rfl, Nat.le_of_ble_eq_true rfl⟩ (Nat.le_of_ble_eq_true rfl) ⟨Nat.le_of_ble_eq_true rfl, Nat.le_of_ble_eq_true rfl⟩ dL_seen_123 (fun H locs hW => ?_)
    refine lv_icmp_ge (tgt := 150) hx hb dL_seen_126 rfl (fun _ => ?_) (fun hc => absurd ?_ hc)
    · have hl := lv_sub hl [1, 2, 3] rfl
      exact hK H locs ls hW hl
    · unfold lenF
      split
      · decide
      · rename_i hne
        have hlen : (wAll (σ.1.2.2.1 q) [] [] []).length ≤ 160 := wAll_160 ((hO.1.2.2 q (by omega)).resolve_left hne)
        exact nI_le (Nat.le_refl _) (by omega)
  | succ d ih =>
    intro k H locs ls hkd hW hl
    have hkn : k < lenF σ.1 q := by omega
    have hne : ¬ σ.1.2.2.1 q = [] := fun h => by unfold lenF at hkn; rw [if_pos h] at hkn; omega
    have hle : lenF σ.1 q = (wAll (σ.1.2.2.1 q) [] [] []).length := if_neg hne
    refine lv_iload hx hb dL_seen_118 (lv_at hl 0 rfl) ?_
    refine lv_aload_n hx hb dL_seen_120 rfl (lv_at hl 3 rfl) ?_
    refine lv_iload_n hx hb dL_seen_121 rfl (lv_at hl 1 rfl) ?_
    refine lv_iconst (v := 4) hx hb dL_seen_122 (by decide) ?_
    refine ar_filter (rest := [.int (nI k)]) C0 hl.1 hW hv ⟨Nat.le_of_ble_eq_true rfl, Nat.le_of_ble_eq_true rfl⟩ (Nat.le_of_ble_eq_true rfl) ⟨Nat.le_of_ble_eq_true rfl, Nat.le_of_ble_eq_true rfl⟩ dL_seen_123 (fun H locs hW => ?_)
    rw [if_neg hne, ← hle]
    refine lv_icmp_ge (tgt := 150) hx hb dL_seen_126 rfl (fun hc => absurd hc (nI_ge hkn (by omega))) (fun _ => ?_)
    refine lv_ldc2 (v := 31) hx hb hown (hts _ wl180) dL_seen_129 ?_
    refine lv_lload_n hx hb dL_seen_132 rfl (lv_at hl 2 rfl) ?_
    refine lv_lmul hx hb dL_seen_133 ?_
    refine lv_aload_n hx hb dL_seen_134 rfl (lv_at hl 3 rfl) ?_
    refine lv_iload_n hx hb dL_seen_135 rfl (lv_at hl 1 rfl) ?_
    refine lv_iload hx hb dL_seen_136 (lv_at hl 0 rfl) ?_
    refine ar_letter (rest := [.long (31 * (sq (fun k => valR (opLetter σ.1 (nI q) (nI k))) k h0))]) C0 hl.1 hW (z_letter σ.1 (k := k) hq (by omega)) ⟨Nat.le_of_ble_eq_true rfl, Nat.le_of_ble_eq_true rfl⟩ (Nat.le_of_ble_eq_true rfl) ⟨Nat.le_of_ble_eq_true rfl, Nat.le_of_ble_eq_true rfl⟩ dL_seen_138 (fun H locs hW => ?_)
    refine lv_i2l (v := Int32.toInt64 (valR (opLetter σ.1 (nI q) (nI k)))) hx hb dL_seen_141 rfl ?_
    refine lv_ladd hx hb dL_seen_142 ?_
    refine lv_lstore_n (lv' := [(1, .long ((31 * (sq (fun k => valR (opLetter σ.1 (nI q) (nI k))) k h0)) + (Int32.toInt64 (valR (opLetter σ.1 (nI q) (nI k)))))), (4, .int (nI k)), (3, .int (nI q)), (0, .ref (g.2.2.1 + 0))]) hx hb dL_seen_143 rfl hl (Nat.le_of_ble_eq_true rfl) rfl (fun ls hl => ?_)
    refine lv_iinc (k := 1) (v := (nI k) + 1) (lv' := [(4, .int ((nI k) + 1)), (1, .long ((31 * (sq (fun k => valR (opLetter σ.1 (nI q) (nI k))) k h0)) + (Int32.toInt64 (valR (opLetter σ.1 (nI q) (nI k)))))), (3, .int (nI q)), (0, .ref (g.2.2.1 + 0))]) hx hb dL_seen_144 hl rfl (congrArg (fun t => (nI k) + t) (by decide : Int32.ofInt 1 = 1)) (Nat.le_of_ble_eq_true rfl) rfl (fun ls hl => ?_)
    refine lv_goto (tgt := 118) hx hb dL_seen_147 rfl ?_
    rw [nI_1] at hl
    have hl := lv_sub hl [0, 2, 1, 3] rfl
    have hl : lv_has ls 5 [(4, .int (nI (k + 1))), (3, .int (nI q)), (1, .long ((31 * (sq (fun k => valR (opLetter σ.1 (nI q) (nI k))) k h0)) + (Int32.toInt64 (valR (opLetter σ.1 (nI q) (nI k)))))), (0, .ref (g.2.2.1 + 0))] := hl
    exact ih (k + 1) H locs ls (by omega) hW hl
theorem sn_5 (C0 : CX g p s m args meth c RL cL_seen 5 (some .long)) {h0 : Int64} (hO : GOk σ) (hK : ∀ (H : Heap) (locs : List Loc) (ls : Array Slot), WA g σ b Z s.heap H locs → lv_has ls 5 [(3, .int (nI 6)), (1, .long (slF σ.1 6 h0)), (0, .ref (g.2.2.1 + 0))] → W p l e rmL_seen s m args below meth c H locs 0 0 (MQ below (QAl g (seenF σ) σ b Z) args s 0 0 (AA g)) (F0 m 186 ls [])) : ∀ (d q : Nat) (H : Heap) (locs : List Loc) (ls : Array Slot), q + d = 6 → WA g σ b Z s.heap H locs → lv_has ls 5 [(3, .int (nI q)), (1, .long (slF σ.1 q h0)), (0, .ref (g.2.2.1 + 0))] → W p l e rmL_seen s m args below meth c H locs 0 0 (MQ below (QAl g (seenF σ) σ b Z) args s 0 0 (AA g)) (F0 m 109 ls []) := by
  have hx := C0.1; have hb := C0.2.1; have hown := C0.2.2.2.2.1; have hts := C0.2.2.2.2.2.1
  intro d
  induction d with
  | zero =>
    intro q H locs ls hkd hW hl
    obtain rfl : q = 6 := by omega
    refine lv_iload_n hx hb dL_seen_109 rfl (lv_at hl 0 rfl) ?_
    refine lv_bipush (v := 6) hx hb dL_seen_110 (by decide) ?_
    refine lv_icmp_ge (tgt := 186) hx hb dL_seen_112 rfl (fun _ => ?_) (fun hc => absurd (by decide) hc)
    exact hK H locs ls hW hl
  | succ d ih =>
    intro q H locs ls hkd hW hl
    have hq : q < 6 := by omega
    refine lv_iload_n hx hb dL_seen_109 rfl (lv_at hl 0 rfl) ?_
    refine lv_bipush (v := 6) hx hb dL_seen_110 (by decide) ?_
    refine lv_icmp_ge (tgt := 186) hx hb dL_seen_112 rfl (fun hc => absurd hc (nI_ge (b := 6) hq (by decide))) (fun _ => ?_)
    refine lv_iconst (v := 0) hx hb dL_seen_115 (by decide) ?_
    refine lv_istore (lv' := [(4, .int 0), (3, .int (nI q)), (1, .long (slF σ.1 q h0)), (0, .ref (g.2.2.1 + 0))]) hx hb dL_seen_116 hl (Nat.le_of_ble_eq_true rfl) rfl (fun ls hl => ?_)
    refine sn_4 (h0 := slF σ.1 q h0) C0 hq hO (fun H locs ls hW hl => ?_) (lenF σ.1 q) 0 H locs ls (by omega) hW hl
    refine lv_ldc2 (v := 31) hx hb hown (hts _ wl180) dL_seen_150 ?_
    refine lv_ldc2 (v := 31) hx hb hown (hts _ wl180) dL_seen_153 ?_
    refine lv_lload_n hx hb dL_seen_156 rfl (lv_at hl 1 rfl) ?_
    refine lv_lmul hx hb dL_seen_157 ?_
    refine lv_aload_n hx hb dL_seen_158 rfl (lv_at hl 2 rfl) ?_
    refine lv_iconst (v := 0) hx hb dL_seen_159 (by decide) ?_
    refine lv_iload_n hx hb dL_seen_160 rfl (lv_at hl 0 rfl) ?_
    refine lv_iconst (v := 2) hx hb dL_seen_161 (by decide) ?_
    refine lv_iconst (v := 0) hx hb dL_seen_162 (by decide) ?_
    refine ar_rows (rest := [.long (31 * (sq (fun k => valR (opLetter σ.1 (nI q) (nI k))) (lenF σ.1 q) (slF σ.1 q h0))), .long 31]) C0 hl.1 hW (z_rows σ.1 (t := 0) (s := q) (v := 2) (w := 0) (by decide) hq (by decide) (by decide)) ⟨Nat.le_of_ble_eq_true rfl, Nat.le_of_ble_eq_true rfl⟩ (Nat.le_of_ble_eq_true rfl) ⟨Nat.le_of_ble_eq_true rfl, Nat.le_of_ble_eq_true rfl⟩ dL_seen_163 (fun H locs hW => ?_)
    refine lv_i2l (v := Int32.toInt64 (valR (opRows σ.1 0 (nI q) 2 0))) hx hb dL_seen_166 rfl ?_
    refine lv_ladd hx hb dL_seen_167 ?_
    refine lv_lmul hx hb dL_seen_168 ?_
    refine lv_aload_n hx hb dL_seen_169 rfl (lv_at hl 2 rfl) ?_
    refine lv_iconst (v := 1) hx hb dL_seen_170 (by decide) ?_
    refine lv_iload_n hx hb dL_seen_171 rfl (lv_at hl 0 rfl) ?_
    refine lv_iconst (v := 1) hx hb dL_seen_172 (by decide) ?_
    refine lv_iconst (v := 1) hx hb dL_seen_173 (by decide) ?_
    refine ar_rows (rest := [.long (31 * ((31 * (sq (fun k => valR (opLetter σ.1 (nI q) (nI k))) (lenF σ.1 q) (slF σ.1 q h0))) + (Int32.toInt64 (valR (opRows σ.1 0 (nI q) 2 0)))))]) C0 hl.1 hW (z_rows σ.1 (t := 1) (s := q) (v := 1) (w := 1) (by decide) hq (by decide) (by decide)) ⟨Nat.le_of_ble_eq_true rfl, Nat.le_of_ble_eq_true rfl⟩ (Nat.le_of_ble_eq_true rfl) ⟨Nat.le_of_ble_eq_true rfl, Nat.le_of_ble_eq_true rfl⟩ dL_seen_174 (fun H locs hW => ?_)
    refine lv_i2l (v := Int32.toInt64 (valR (opRows σ.1 1 (nI q) 1 1))) hx hb dL_seen_177 rfl ?_
    refine lv_ladd hx hb dL_seen_178 ?_
    refine lv_lstore_n (lv' := [(1, .long ((31 * ((31 * (sq (fun k => valR (opLetter σ.1 (nI q) (nI k))) (lenF σ.1 q) (slF σ.1 q h0))) + (Int32.toInt64 (valR (opRows σ.1 0 (nI q) 2 0))))) + (Int32.toInt64 (valR (opRows σ.1 1 (nI q) 1 1))))), (3, .int (nI q)), (0, .ref (g.2.2.1 + 0))]) hx hb dL_seen_179 rfl hl (Nat.le_of_ble_eq_true rfl) rfl (fun ls hl => ?_)
    refine lv_iinc (k := 1) (v := (nI q) + 1) (lv' := [(3, .int ((nI q) + 1)), (1, .long ((31 * ((31 * (sq (fun k => valR (opLetter σ.1 (nI q) (nI k))) (lenF σ.1 q) (slF σ.1 q h0))) + (Int32.toInt64 (valR (opRows σ.1 0 (nI q) 2 0))))) + (Int32.toInt64 (valR (opRows σ.1 1 (nI q) 1 1))))), (0, .ref (g.2.2.1 + 0))]) hx hb dL_seen_180 hl rfl (congrArg (fun t => (nI q) + t) (by decide : Int32.ofInt 1 = 1)) (Nat.le_of_ble_eq_true rfl) rfl (fun ls hl => ?_)
    refine lv_goto (tgt := 109) hx hb dL_seen_183 rfl ?_
    rw [nI_1] at hl
    have hl := lv_sub hl [0, 1, 2] rfl
    have hl : lv_has ls 5 [(3, .int (nI (q + 1))), (1, .long ((31 * ((31 * (sq (fun k => valR (opLetter σ.1 (nI q) (nI k))) (lenF σ.1 q) (slF σ.1 q h0))) + (Int32.toInt64 (valR (opRows σ.1 0 (nI q) 2 0))))) + (Int32.toInt64 (valR (opRows σ.1 1 (nI q) 1 1))))), (0, .ref (g.2.2.1 + 0))] := hl
    exact ih (q + 1) H locs ls (by omega) hW hl
theorem c_L_seen {r : Int64} (hr : seenF σ = r) : Met l yL_seen (Cond.code yL_seen cL_seen 5 (some .long) :: GT) rmL_seen (va_Pc [.ref (g.2.2.1 + 0)] (PA g σ b Z)) (QAl g r σ b Z) 0 0 (AA g) := by
  subst hr
  refine al_ofW (lv0 := [(0, .ref (g.2.2.1 + 0))]) (by decide) (Nat.le_of_ble_eq_true rfl) rfl (fun p e s m args below meth c ls H locs C0 hl hW => ?_)
  have C0 : CX g p s m args meth c RL cL_seen 5 (some .long) := C0
  have hx := C0.1; have hb := C0.2.1; have hown := C0.2.2.2.2.1; have hts := C0.2.2.2.2.2.1
  have hO := hW.ok
  have h0 := hO.1.1 0 (by decide)
  have h1 := hO.1.1 1 (by decide)
  refine lv_ldc2 (v := 227) hx hb hown (hts _ wl179) dL_seen_0 ?_
  refine lv_lstore_n (lv' := [(1, .long 227), (0, .ref (g.2.2.1 + 0))]) hx hb dL_seen_3 rfl hl (Nat.le_of_ble_eq_true rfl) rfl (fun ls hl => ?_)
  refine lv_iconst (v := 0) hx hb dL_seen_4 (by decide) ?_
  refine lv_istore_n (lv' := [(3, .int 0), (1, .long 227), (0, .ref (g.2.2.1 + 0))]) hx hb dL_seen_5 rfl hl (Nat.le_of_ble_eq_true rfl) rfl (fun ls hl => ?_)
  refine sn_1 (h0 := 227) C0 (fun H locs ls hW hl => ?_) 6 0 H locs ls rfl hW hl
  refine lv_iconst (v := 0) hx hb dL_seen_31 (by decide) ?_
  refine lv_istore_n (lv' := [(3, .int 0), (1, .long (sq (fun k => cntV σ k) 6 227)), (0, .ref (g.2.2.1 + 0))]) hx hb dL_seen_32 rfl hl (Nat.le_of_ble_eq_true rfl) rfl (fun ls hl => ?_)
  have hl : lv_has ls 5 [(3, .int 0), (1, .long (sq (fun k => cntV σ k) 6 227)), (0, .ref (g.2.2.1 + 0))] := hl
  refine sn_2 (h0 := sq (fun k => cntV σ k) 6 227) C0 h0 (fun H locs ls hW hl => ?_) (4 * σ.1.1 0) 0 H locs ls (by omega) hW hl
  refine lv_iconst (v := 0) hx hb dL_seen_69 (by decide) ?_
  refine lv_istore_n (lv' := [(3, .int 0), (1, .long (sq (celF σ.1 0) (4 * σ.1.1 0) (sq (fun k => cntV σ k) 6 227))), (0, .ref (g.2.2.1 + 0))]) hx hb dL_seen_70 rfl hl (Nat.le_of_ble_eq_true rfl) rfl (fun ls hl => ?_)
  refine sn_3 (h0 := sq (celF σ.1 0) (4 * σ.1.1 0) (sq (fun k => cntV σ k) 6 227)) C0 h1 (fun H locs ls hW hl => ?_) (4 * σ.1.1 1) 0 H locs ls (by omega) hW hl
  refine lv_iconst (v := 0) hx hb dL_seen_107 (by decide) ?_
  refine lv_istore_n (lv' := [(3, .int 0), (1, .long (sq (celF σ.1 1) (4 * σ.1.1 1) (sq (celF σ.1 0) (4 * σ.1.1 0) (sq (fun k => cntV σ k) 6 227)))), (0, .ref (g.2.2.1 + 0))]) hx hb dL_seen_108 rfl hl (Nat.le_of_ble_eq_true rfl) rfl (fun ls hl => ?_)
  refine sn_5 (h0 := sq (celF σ.1 1) (4 * σ.1.1 1) (sq (celF σ.1 0) (4 * σ.1.1 0) (sq (fun k => cntV σ k) 6 227))) C0 hO (fun H locs ls hW hl => ?_) 6 0 H locs ls rfl hW hl
  refine lv_lload_n hx hb dL_seen_186 rfl (lv_at hl 1 rfl) ?_
  exact al_lret C0 hW (Nat.le_of_ble_eq_true rfl) (Nat.le_of_ble_eq_true rfl) rfl dL_seen_187
end SNL
