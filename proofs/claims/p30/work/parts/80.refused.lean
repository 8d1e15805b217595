/-! THE LAW'S refused -/
section RFD
abbrev rmL_refused : Room := { frames := 11, cells := 496, slots := 16120, locals := 221 }
theorem ls_refused {Rm : Room} {s : State} {args : Array Value} (ht : ∀ w ∈ GT, w.before args s = true) (hR : rmL_refused.frames + 1 ≤ Rm.frames ∧ 8 + (5 + 11) + rmL_refused.locals ≤ Rm.locals) : CallB Rm s args RL 150 yL_refused cL_refused 5 (some .boolean) (Cond.code yL_refused cL_refused 5 (some .boolean) :: GT) rmL_refused 496 16120 1 ∧ (Cond.static yL_refused).before args s = true := va_cwS 1 ht (goodS wl128 wl130 wl27 wl129) rfl rfl rfl ⟨by decide +kernel, by decide +kernel, by decide +kernel⟩ hR
variable {p : Program} {l : Launch} {e : Env} {Rm : Room} {s : State} {m : MethodId} {args : Array Value} {below : List Frame} {meth : Method} {c : Code} {H : Heap} {locs : List Loc} {cells slots : Nat} {Q : State → Prop}
variable {cc : ByteArray} {pc : Nat} {ls : Array Slot} {rest : List Value} {g : Gam} {σ : Gst} {b : Bool} {Z : Zed} {nL : Nat} {ret : Option FieldType}
theorem lg_cmp_rf (x : Int64) : lg_cmp x x = 0 := by unfold lg_cmp; rw [if_neg (by rw [gt_iff_lt, Int64.lt_iff_toInt_lt]; omega), if_pos rfl]
set_option maxHeartbeats 4000000 in
theorem c_L_refused (hfl : l.stackTraces = false) {N : Abs} {S : List Abs} {X : Nat → Option Abs} : Met l yL_refused (Cond.code yL_refused cL_refused 5 (some .boolean) :: GT) rmL_refused (va_Pc [.ref (g.2.2.1 + 0)] (PA g (N, S, X, []) b Z)) (QAi g 1 (N, S, X, []) b Z) 496 16120 (AA g) := by
  refine al_ofW (lv0 := [(0, .ref (g.2.2.1 + 0))]) (by decide) (Nat.le_of_ble_eq_true rfl) rfl (fun p e s m args below meth c ls H locs C0 hl hW => ?_)
  have C0 : CX g p s m args meth c RL cL_refused 5 (some .boolean) := C0
  have hx := C0.1; have hb := C0.2.1; have hown := C0.2.2.2.2.1; have hts := C0.2.2.2.2.2.1
  refine lv_aload_n hx hb dL_refused_0 rfl (lv_at hl 0 rfl) ?_
  refine al_cSl (rest := []) C0 hW (c_L_seen (r := seenF (N, S, X, [])) rfl) (ls_seen hts ⟨Nat.le_of_ble_eq_true rfl, Nat.le_of_ble_eq_true rfl⟩) rfl hl.1 rfl (Nat.le_of_ble_eq_true rfl) ⟨Nat.le_of_ble_eq_true rfl, Nat.le_of_ble_eq_true rfl⟩ dL_refused_1 (fun H locs hW => ?_)
  refine lv_lstore_n (lv' := [(1, .long (seenF (N, S, X, []))), (0, .ref (g.2.2.1 + 0))]) hx hb dL_refused_4 rfl hl (Nat.le_of_ble_eq_true rfl) rfl (fun ls hl => ?_)
  refine lv_aload_n hx hb dL_refused_5 rfl (lv_at hl 1 rfl) ?_
  refine lv_bipush (v := 6) hx hb dL_refused_6 (by decide) ?_
  refine ar_count (rest := []) C0 hl.1 hW (z_count (N, S, X, []) (k := 6) (by decide)) ⟨Nat.le_of_ble_eq_true rfl, Nat.le_of_ble_eq_true rfl⟩ (Nat.le_of_ble_eq_true rfl) ⟨Nat.le_of_ble_eq_true rfl, Nat.le_of_ble_eq_true rfl⟩ dL_refused_8 (fun H locs hW => ?_)
  refine lv_istore_n (lv' := [(3, .int (cntV (N, S, X, []) 6)), (1, .long (seenF (N, S, X, []))), (0, .ref (g.2.2.1 + 0))]) hx hb dL_refused_11 rfl hl (Nat.le_of_ble_eq_true rfl) rfl (fun ls hl => ?_)
  refine lv_iconst (v := 0) hx hb dL_refused_12 (by decide) ?_
  refine lv_istore (lv' := [(4, .int 0), (3, .int (cntV (N, S, X, []) 6)), (1, .long (seenF (N, S, X, []))), (0, .ref (g.2.2.1 + 0))]) hx hb dL_refused_13 hl (Nat.le_of_ble_eq_true rfl) rfl (fun ls hl => ?_)
  refine lv_iload hx hb dL_refused_15 (lv_at hl 0 rfl) ?_
  refine lv_iconst (v := 4) hx hb dL_refused_17 (by decide) ?_
  refine lv_icmp_ge (tgt := 47) hx hb dL_refused_18 rfl (fun hc => absurd hc (by decide)) (fun _ => ?_)
  refine lv_aload_n hx hb dL_refused_21 rfl (lv_at hl 3 rfl) ?_
  refine lv_iload hx hb dL_refused_22 (lv_at hl 0 rfl) ?_
  refine al_cSi (rest := []) C0 hW (c_L_refusesTables_0 hfl) (ls_refusesTables hts ⟨Nat.le_of_ble_eq_true rfl, Nat.le_of_ble_eq_true rfl⟩) rfl hl.1 rfl (Nat.le_of_ble_eq_true rfl) ⟨Nat.le_of_ble_eq_true rfl, Nat.le_of_ble_eq_true rfl⟩ dL_refused_24 (fun H locs hW => ?_)
  refine lv_if_eq (tgt := 39) hx hb dL_refused_27 rfl (fun hc => absurd hc (by decide)) (fun _ => ?_)
  refine lv_aload_n hx hb dL_refused_30 rfl (lv_at hl 3 rfl) ?_
  refine lv_iload hx hb dL_refused_31 (lv_at hl 0 rfl) ?_
  refine al_cSi (rest := []) C0 hW (c_L_refusesFilters_0 hfl) (ls_refusesFilters hts ⟨Nat.le_of_ble_eq_true rfl, Nat.le_of_ble_eq_true rfl⟩) rfl hl.1 rfl (Nat.le_of_ble_eq_true rfl) ⟨Nat.le_of_ble_eq_true rfl, Nat.le_of_ble_eq_true rfl⟩ dL_refused_33 (fun H locs hW => ?_)
  refine lv_if_ne (tgt := 41) hx hb dL_refused_36 rfl (fun _ => ?_) (fun hc => absurd hc (by decide))
  refine lv_iinc (k := 0) (v := 0 + 1) (lv' := [(4, .int (0 + 1)), (3, .int (cntV (N, S, X, []) 6)), (1, .long (seenF (N, S, X, []))), (0, .ref (g.2.2.1 + 0))]) hx hb dL_refused_41 hl rfl (congrArg (fun t => 0 + t) (by decide : Int32.ofInt 1 = 1)) (Nat.le_of_ble_eq_true rfl) rfl (fun ls hl => ?_)
  refine lv_goto (tgt := 15) hx hb dL_refused_44 rfl ?_
  have hl : lv_has ls 5 [(4, .int 1), (3, .int (cntV (N, S, X, []) 6)), (1, .long (seenF (N, S, X, []))), (0, .ref (g.2.2.1 + 0))] := hl
  refine lv_iload hx hb dL_refused_15 (lv_at hl 0 rfl) ?_
  refine lv_iconst (v := 4) hx hb dL_refused_17 (by decide) ?_
  refine lv_icmp_ge (tgt := 47) hx hb dL_refused_18 rfl (fun hc => absurd hc (by decide)) (fun _ => ?_)
  refine lv_aload_n hx hb dL_refused_21 rfl (lv_at hl 3 rfl) ?_
  refine lv_iload hx hb dL_refused_22 (lv_at hl 0 rfl) ?_
  refine al_cSi (rest := []) C0 hW (c_L_refusesTables_1 hfl) (ls_refusesTables hts ⟨Nat.le_of_ble_eq_true rfl, Nat.le_of_ble_eq_true rfl⟩) rfl hl.1 rfl (Nat.le_of_ble_eq_true rfl) ⟨Nat.le_of_ble_eq_true rfl, Nat.le_of_ble_eq_true rfl⟩ dL_refused_24 (fun H locs hW => ?_)
  refine lv_if_eq (tgt := 39) hx hb dL_refused_27 rfl (fun hc => absurd hc (by decide)) (fun _ => ?_)
  refine lv_aload_n hx hb dL_refused_30 rfl (lv_at hl 3 rfl) ?_
  refine lv_iload hx hb dL_refused_31 (lv_at hl 0 rfl) ?_
  refine al_cSi (rest := []) C0 hW (c_L_refusesFilters_1 hfl) (ls_refusesFilters hts ⟨Nat.le_of_ble_eq_true rfl, Nat.le_of_ble_eq_true rfl⟩) rfl hl.1 rfl (Nat.le_of_ble_eq_true rfl) ⟨Nat.le_of_ble_eq_true rfl, Nat.le_of_ble_eq_true rfl⟩ dL_refused_33 (fun H locs hW => ?_)
  refine lv_if_ne (tgt := 41) hx hb dL_refused_36 rfl (fun _ => ?_) (fun hc => absurd hc (by decide))
  refine lv_iinc (k := 0) (v := 1 + 1) (lv' := [(4, .int (1 + 1)), (3, .int (cntV (N, S, X, []) 6)), (1, .long (seenF (N, S, X, []))), (0, .ref (g.2.2.1 + 0))]) hx hb dL_refused_41 hl rfl (congrArg (fun t => 1 + t) (by decide : Int32.ofInt 1 = 1)) (Nat.le_of_ble_eq_true rfl) rfl (fun ls hl => ?_)
  refine lv_goto (tgt := 15) hx hb dL_refused_44 rfl ?_
  have hl : lv_has ls 5 [(4, .int 2), (3, .int (cntV (N, S, X, []) 6)), (1, .long (seenF (N, S, X, []))), (0, .ref (g.2.2.1 + 0))] := hl
  refine lv_iload hx hb dL_refused_15 (lv_at hl 0 rfl) ?_
  refine lv_iconst (v := 4) hx hb dL_refused_17 (by decide) ?_
  refine lv_icmp_ge (tgt := 47) hx hb dL_refused_18 rfl (fun hc => absurd hc (by decide)) (fun _ => ?_)
  refine lv_aload_n hx hb dL_refused_21 rfl (lv_at hl 3 rfl) ?_
  refine lv_iload hx hb dL_refused_22 (lv_at hl 0 rfl) ?_
  refine al_cSi (rest := []) C0 hW (c_L_refusesTables_2 hfl) (ls_refusesTables hts ⟨Nat.le_of_ble_eq_true rfl, Nat.le_of_ble_eq_true rfl⟩) rfl hl.1 rfl (Nat.le_of_ble_eq_true rfl) ⟨Nat.le_of_ble_eq_true rfl, Nat.le_of_ble_eq_true rfl⟩ dL_refused_24 (fun H locs hW => ?_)
  refine lv_if_eq (tgt := 39) hx hb dL_refused_27 rfl (fun hc => absurd hc (by decide)) (fun _ => ?_)
  refine lv_aload_n hx hb dL_refused_30 rfl (lv_at hl 3 rfl) ?_
  refine lv_iload hx hb dL_refused_31 (lv_at hl 0 rfl) ?_
  refine al_cSi (rest := []) C0 hW (c_L_refusesFilters_2 hfl) (ls_refusesFilters hts ⟨Nat.le_of_ble_eq_true rfl, Nat.le_of_ble_eq_true rfl⟩) rfl hl.1 rfl (Nat.le_of_ble_eq_true rfl) ⟨Nat.le_of_ble_eq_true rfl, Nat.le_of_ble_eq_true rfl⟩ dL_refused_33 (fun H locs hW => ?_)
  refine lv_if_ne (tgt := 41) hx hb dL_refused_36 rfl (fun _ => ?_) (fun hc => absurd hc (by decide))
  refine lv_iinc (k := 0) (v := 2 + 1) (lv' := [(4, .int (2 + 1)), (3, .int (cntV (N, S, X, []) 6)), (1, .long (seenF (N, S, X, []))), (0, .ref (g.2.2.1 + 0))]) hx hb dL_refused_41 hl rfl (congrArg (fun t => 2 + t) (by decide : Int32.ofInt 1 = 1)) (Nat.le_of_ble_eq_true rfl) rfl (fun ls hl => ?_)
  refine lv_goto (tgt := 15) hx hb dL_refused_44 rfl ?_
  have hl : lv_has ls 5 [(4, .int 3), (3, .int (cntV (N, S, X, []) 6)), (1, .long (seenF (N, S, X, []))), (0, .ref (g.2.2.1 + 0))] := hl
  refine lv_iload hx hb dL_refused_15 (lv_at hl 0 rfl) ?_
  refine lv_iconst (v := 4) hx hb dL_refused_17 (by decide) ?_
  refine lv_icmp_ge (tgt := 47) hx hb dL_refused_18 rfl (fun hc => absurd hc (by decide)) (fun _ => ?_)
  refine lv_aload_n hx hb dL_refused_21 rfl (lv_at hl 3 rfl) ?_
  refine lv_iload hx hb dL_refused_22 (lv_at hl 0 rfl) ?_
  refine al_cSi (rest := []) C0 hW (c_L_refusesTables_3 hfl) (ls_refusesTables hts ⟨Nat.le_of_ble_eq_true rfl, Nat.le_of_ble_eq_true rfl⟩) rfl hl.1 rfl (Nat.le_of_ble_eq_true rfl) ⟨Nat.le_of_ble_eq_true rfl, Nat.le_of_ble_eq_true rfl⟩ dL_refused_24 (fun H locs hW => ?_)
  refine lv_if_eq (tgt := 39) hx hb dL_refused_27 rfl (fun hc => absurd hc (by decide)) (fun _ => ?_)
  refine lv_aload_n hx hb dL_refused_30 rfl (lv_at hl 3 rfl) ?_
  refine lv_iload hx hb dL_refused_31 (lv_at hl 0 rfl) ?_
  refine al_cSi (rest := []) C0 hW (c_L_refusesFilters_3 hfl) (ls_refusesFilters hts ⟨Nat.le_of_ble_eq_true rfl, Nat.le_of_ble_eq_true rfl⟩) rfl hl.1 rfl (Nat.le_of_ble_eq_true rfl) ⟨Nat.le_of_ble_eq_true rfl, Nat.le_of_ble_eq_true rfl⟩ dL_refused_33 (fun H locs hW => ?_)
  refine lv_if_ne (tgt := 41) hx hb dL_refused_36 rfl (fun _ => ?_) (fun hc => absurd hc (by decide))
  refine lv_iinc (k := 0) (v := 3 + 1) (lv' := [(4, .int (3 + 1)), (3, .int (cntV (N, S, X, []) 6)), (1, .long (seenF (N, S, X, []))), (0, .ref (g.2.2.1 + 0))]) hx hb dL_refused_41 hl rfl (congrArg (fun t => 3 + t) (by decide : Int32.ofInt 1 = 1)) (Nat.le_of_ble_eq_true rfl) rfl (fun ls hl => ?_)
  refine lv_goto (tgt := 15) hx hb dL_refused_44 rfl ?_
  have hl : lv_has ls 5 [(4, .int 4), (3, .int (cntV (N, S, X, []) 6)), (1, .long (seenF (N, S, X, []))), (0, .ref (g.2.2.1 + 0))] := hl
  refine lv_iload hx hb dL_refused_15 (lv_at hl 0 rfl) ?_
  refine lv_iconst (v := 4) hx hb dL_refused_17 (by decide) ?_
  refine lv_icmp_ge (tgt := 47) hx hb dL_refused_18 rfl (fun _ => ?_) (fun hc => absurd (by decide) hc)
  refine lv_aload_n hx hb dL_refused_47 rfl (lv_at hl 3 rfl) ?_
  refine al_cSl (rest := []) C0 hW (c_L_seen (r := seenF (N, S, X, [])) rfl) (ls_seen hts ⟨Nat.le_of_ble_eq_true rfl, Nat.le_of_ble_eq_true rfl⟩) rfl hl.1 rfl (Nat.le_of_ble_eq_true rfl) ⟨Nat.le_of_ble_eq_true rfl, Nat.le_of_ble_eq_true rfl⟩ dL_refused_48 (fun H locs hW => ?_)
  refine lv_lload_n hx hb dL_refused_51 rfl (lv_at hl 2 rfl) ?_
  refine W.lcmp hx hb dL_refused_52 ?_
  rw [lg_cmp_rf]
  refine lv_if_ne (tgt := 70) hx hb dL_refused_53 rfl (fun hc => absurd hc (by decide)) (fun _ => ?_)
  refine lv_aload_n hx hb dL_refused_56 rfl (lv_at hl 3 rfl) ?_
  refine lv_bipush (v := 6) hx hb dL_refused_57 (by decide) ?_
  refine ar_count (rest := []) C0 hl.1 hW (z_count (N, S, X, []) (k := 6) (by decide)) ⟨Nat.le_of_ble_eq_true rfl, Nat.le_of_ble_eq_true rfl⟩ (Nat.le_of_ble_eq_true rfl) ⟨Nat.le_of_ble_eq_true rfl, Nat.le_of_ble_eq_true rfl⟩ dL_refused_59 (fun H locs hW => ?_)
  refine lv_iload_n hx hb dL_refused_62 rfl (lv_at hl 1 rfl) ?_
  refine lv_icmp_ne (tgt := 70) hx hb dL_refused_63 rfl (fun hc => absurd rfl hc) (fun _ => ?_)
  refine lv_iconst (v := 1) hx hb dL_refused_66 (by decide) ?_
  refine lv_goto (tgt := 71) hx hb dL_refused_67 rfl ?_
  exact al_zret C0 hW (Nat.le_of_ble_eq_true rfl) (Nat.le_of_ble_eq_true rfl) rfl rfl dL_refused_71
end RFD
