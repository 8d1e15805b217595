/-! refusesTables, k = 1 -/
section RT1
variable {p : Program} {l : Launch} {e : Env} {Rm : Room} {s : State} {m : MethodId} {args : Array Value} {below : List Frame} {meth : Method} {c : Code} {H : Heap} {locs : List Loc} {cells slots : Nat} {Q : State → Prop}
variable {cc : ByteArray} {pc : Nat} {ls : Array Slot} {rest : List Value} {g : Gam} {σ : Gst} {b : Bool} {Z : Zed} {nL : Nat} {ret : Option FieldType}
set_option maxHeartbeats 4000000 in
theorem c_L_refusesTables_1 (hfl : l.stackTraces = false) : Met l yL_refusesTables (Cond.code yL_refusesTables cL_refusesTables 5 (some .boolean) :: GT) rmL_refusesTables (va_Pc [.ref (g.2.2.1 + 0), .int 1] (PA g σ b Z)) (QAi g 1 σ b Z) rmL_refusesTables.cells rmL_refusesTables.slots (AA g) := by
  refine al_ofW (lv0 := [(0, .ref (g.2.2.1 + 0)), (1, .int 1)]) (by decide) (Nat.le_of_ble_eq_true rfl) rfl (fun p e s m args below meth c ls H locs C0 hl hW => ?_)
  have C0 : CX g p s m args meth c RL cL_refusesTables 5 (some .boolean) := C0
  have hx := C0.1; have hb := C0.2.1; have hown := C0.2.2.2.2.1; have hts := C0.2.2.2.2.2.1
  have hO := hW.ok
  have h16 := hO.1.1 0 (by decide)
  have hrow : ixb (σ.1.1 0) (wideF 1 0 (nI (σ.1.1 0) - 1)) = false := row_out h16 1
  refine lv_iload_n hx hb dL_refusesTables_0 rfl (lv_at hl 1 rfl) ?_
  refine lv_iconst (v := 0) hx hb dL_refusesTables_1 (by decide) ?_
  refine lv_iconst (v := 1) hx hb dL_refusesTables_2 (by decide) ?_
  refine al_cSi (rest := []) C0 hW (c_L_wide (r := 2) (by decide +kernel)) (ls_wide hts ⟨Nat.le_of_ble_eq_true rfl, Nat.le_of_ble_eq_true rfl⟩) rfl hl.1 rfl (Nat.le_of_ble_eq_true rfl) ⟨Nat.le_of_ble_eq_true rfl, Nat.le_of_ble_eq_true rfl⟩ dL_refusesTables_3 (fun H locs hW => ?_)
  refine lv_istore_n (lv' := [(2, .int 2), (0, .ref (g.2.2.1 + 0)), (1, .int 1)]) hx hb dL_refusesTables_6 rfl hl (Nat.le_of_ble_eq_true rfl) rfl (fun ls hl => ?_)
  refine lv_iload_n hx hb dL_refusesTables_7 rfl (lv_at hl 2 rfl) ?_
  refine lv_iconst (v := 0) hx hb dL_refusesTables_8 (by decide) ?_
  refine lv_aload_n hx hb dL_refusesTables_9 rfl (lv_at hl 1 rfl) ?_
  refine lv_iconst (v := 0) hx hb dL_refusesTables_10 (by decide) ?_
  refine ar_count (rest := [.int 0, .int 1]) C0 hl.1 hW (z_count σ (k := 0) (by decide)) ⟨Nat.le_of_ble_eq_true rfl, Nat.le_of_ble_eq_true rfl⟩ (Nat.le_of_ble_eq_true rfl) ⟨Nat.le_of_ble_eq_true rfl, Nat.le_of_ble_eq_true rfl⟩ dL_refusesTables_11 (fun H locs hW => ?_)
  refine lv_iconst (v := 1) hx hb dL_refusesTables_14 (by decide) ?_
  refine lv_isub hx hb dL_refusesTables_15 ?_
  refine al_cSi (rest := []) C0 hW (c_L_wide (r := wideF 1 0 (nI (σ.1.1 0) - 1)) rfl) (ls_wide hts ⟨Nat.le_of_ble_eq_true rfl, Nat.le_of_ble_eq_true rfl⟩) rfl hl.1 rfl (Nat.le_of_ble_eq_true rfl) ⟨Nat.le_of_ble_eq_true rfl, Nat.le_of_ble_eq_true rfl⟩ dL_refusesTables_16 (fun H locs hW => ?_)
  refine lv_istore_n (lv' := [(3, .int (wideF 1 0 (nI (σ.1.1 0) - 1))), (2, .int 2), (0, .ref (g.2.2.1 + 0)), (1, .int 1)]) hx hb dL_refusesTables_19 rfl hl (Nat.le_of_ble_eq_true rfl) rfl (fun ls hl => ?_)
  refine lv_iload_n hx hb dL_refusesTables_20 rfl (lv_at hl 3 rfl) ?_
  refine lv_iconst (v := (-1)) hx hb dL_refusesTables_21 (by decide) ?_
  refine lv_bipush (v := 99) hx hb dL_refusesTables_22 (by decide) ?_
  refine al_cSi (rest := []) C0 hW (c_L_far (r := 100) (by decide +kernel)) (ls_far hts ⟨Nat.le_of_ble_eq_true rfl, Nat.le_of_ble_eq_true rfl⟩) rfl hl.1 rfl (Nat.le_of_ble_eq_true rfl) ⟨Nat.le_of_ble_eq_true rfl, Nat.le_of_ble_eq_true rfl⟩ dL_refusesTables_24 (fun H locs hW => ?_)
  refine lv_istore (lv' := [(4, .int 100), (3, .int (wideF 1 0 (nI (σ.1.1 0) - 1))), (2, .int 2), (0, .ref (g.2.2.1 + 0)), (1, .int 1)]) hx hb dL_refusesTables_27 hl (Nat.le_of_ble_eq_true rfl) rfl (fun ls hl => ?_)
  refine lv_aload_n hx hb dL_refusesTables_29 rfl (lv_at hl 3 rfl) ?_
  refine lv_iconst (v := 0) hx hb dL_refusesTables_30 (by decide) ?_
  refine lv_iload_n hx hb dL_refusesTables_31 rfl (lv_at hl 2 rfl) ?_
  refine lv_sipush (v := 999) hx hb dL_refusesTables_32 (by decide) ?_
  refine lv_lconst (v := 0) hx hb dL_refusesTables_35 rfl ?_
  refine al_cSW (rest := []) C0 hW (c_L_call hfl _ _ _ _ (rq_add_0 (by decide +kernel))) (ls_call hts ⟨Nat.le_of_ble_eq_true rfl, Nat.le_of_ble_eq_true rfl⟩) rfl hl.1 rfl (Nat.le_of_ble_eq_true rfl) ⟨Nat.le_of_ble_eq_true rfl, Nat.le_of_ble_eq_true rfl⟩ dL_refusesTables_36 (fun H locs hW => ?_)
  refine lv_ldc (v := (-100011)) hx hb hown (hts _ wl119) dL_refusesTables_39 ?_
  refine lv_icmp_ne (tgt := 366) hx hb dL_refusesTables_41 rfl (fun hc => absurd hc (by decide)) (fun _ => ?_)
  refine lv_aload_n hx hb dL_refusesTables_44 rfl (lv_at hl 3 rfl) ?_
  refine lv_iconst (v := 0) hx hb dL_refusesTables_45 (by decide) ?_
  refine lv_iconst (v := 0) hx hb dL_refusesTables_46 (by decide) ?_
  refine lv_iload_n hx hb dL_refusesTables_47 rfl (lv_at hl 4 rfl) ?_
  refine lv_iconst (v := (-1)) hx hb dL_refusesTables_48 (by decide) ?_
  refine lv_bipush (v := 99) hx hb dL_refusesTables_49 (by decide) ?_
  refine al_cSi (rest := [.int 0, .int 0, .ref (g.2.2.1 + 0)]) C0 hW (c_L_wide (r := 100) (by decide +kernel)) (ls_wide hts ⟨Nat.le_of_ble_eq_true rfl, Nat.le_of_ble_eq_true rfl⟩) rfl hl.1 rfl (Nat.le_of_ble_eq_true rfl) ⟨Nat.le_of_ble_eq_true rfl, Nat.le_of_ble_eq_true rfl⟩ dL_refusesTables_51 (fun H locs hW => ?_)
  refine lv_iconst (v := 0) hx hb dL_refusesTables_54 (by decide) ?_
  refine lv_iconst (v := 0) hx hb dL_refusesTables_55 (by decide) ?_
  refine lv_iconst (v := 0) hx hb dL_refusesTables_56 (by decide) ?_
  refine al_cSl (rest := [.int 100, .int 0, .int 0, .ref (g.2.2.1 + 0)]) C0 hW (c_L_three (r := 500500500) (by decide +kernel)) (ls_three hts ⟨Nat.le_of_ble_eq_true rfl, Nat.le_of_ble_eq_true rfl⟩) rfl hl.1 rfl (Nat.le_of_ble_eq_true rfl) ⟨Nat.le_of_ble_eq_true rfl, Nat.le_of_ble_eq_true rfl⟩ dL_refusesTables_57 (fun H locs hW => ?_)
  refine al_cSW (rest := []) C0 hW (c_L_call hfl _ _ _ _ (rq_add_1 (by decide +kernel) (by decide +kernel))) (ls_call hts ⟨Nat.le_of_ble_eq_true rfl, Nat.le_of_ble_eq_true rfl⟩) rfl hl.1 rfl (Nat.le_of_ble_eq_true rfl) ⟨Nat.le_of_ble_eq_true rfl, Nat.le_of_ble_eq_true rfl⟩ dL_refusesTables_60 (fun H locs hW => ?_)
  refine lv_ldc (v := (-100012)) hx hb hown (hts _ wl120) dL_refusesTables_63 ?_
  refine lv_icmp_ne (tgt := 366) hx hb dL_refusesTables_65 rfl (fun hc => absurd hc (by decide)) (fun _ => ?_)
  refine lv_aload_n hx hb dL_refusesTables_68 rfl (lv_at hl 3 rfl) ?_
  refine lv_iconst (v := 0) hx hb dL_refusesTables_69 (by decide) ?_
  refine lv_iconst (v := 0) hx hb dL_refusesTables_70 (by decide) ?_
  refine lv_iconst (v := 0) hx hb dL_refusesTables_71 (by decide) ?_
  refine lv_iload hx hb dL_refusesTables_72 (lv_at hl 0 rfl) ?_
  refine lv_iconst (v := 0) hx hb dL_refusesTables_74 (by decide) ?_
  refine lv_iconst (v := 0) hx hb dL_refusesTables_75 (by decide) ?_
  refine al_cSl (rest := [.int 0, .int 0, .int 0, .ref (g.2.2.1 + 0)]) C0 hW (c_L_three (r := 600500500) (by decide +kernel)) (ls_three hts ⟨Nat.le_of_ble_eq_true rfl, Nat.le_of_ble_eq_true rfl⟩) rfl hl.1 rfl (Nat.le_of_ble_eq_true rfl) ⟨Nat.le_of_ble_eq_true rfl, Nat.le_of_ble_eq_true rfl⟩ dL_refusesTables_76 (fun H locs hW => ?_)
  refine al_cSW (rest := []) C0 hW (c_L_call hfl _ _ _ _ (rq_add_1 (by decide +kernel) (by decide +kernel))) (ls_call hts ⟨Nat.le_of_ble_eq_true rfl, Nat.le_of_ble_eq_true rfl⟩) rfl hl.1 rfl (Nat.le_of_ble_eq_true rfl) ⟨Nat.le_of_ble_eq_true rfl, Nat.le_of_ble_eq_true rfl⟩ dL_refusesTables_79 (fun H locs hW => ?_)
  refine lv_ldc (v := (-100012)) hx hb hown (hts _ wl120) dL_refusesTables_82 ?_
  refine lv_icmp_ne (tgt := 366) hx hb dL_refusesTables_84 rfl (fun hc => absurd hc (by decide)) (fun _ => ?_)
  refine lv_aload_n hx hb dL_refusesTables_87 rfl (lv_at hl 3 rfl) ?_
  refine lv_iconst (v := 0) hx hb dL_refusesTables_88 (by decide) ?_
  refine lv_iconst (v := 1) hx hb dL_refusesTables_89 (by decide) ?_
  refine lv_iconst (v := 0) hx hb dL_refusesTables_90 (by decide) ?_
  refine lv_iconst (v := 0) hx hb dL_refusesTables_91 (by decide) ?_
  refine lv_iload hx hb dL_refusesTables_92 (lv_at hl 0 rfl) ?_
  refine lv_iconst (v := 0) hx hb dL_refusesTables_94 (by decide) ?_
  refine al_cSl (rest := [.int 0, .int 1, .int 0, .ref (g.2.2.1 + 0)]) C0 hW (c_L_three (r := 500600500) (by decide +kernel)) (ls_three hts ⟨Nat.le_of_ble_eq_true rfl, Nat.le_of_ble_eq_true rfl⟩) rfl hl.1 rfl (Nat.le_of_ble_eq_true rfl) ⟨Nat.le_of_ble_eq_true rfl, Nat.le_of_ble_eq_true rfl⟩ dL_refusesTables_95 (fun H locs hW => ?_)
  refine al_cSW (rest := []) C0 hW (c_L_call hfl _ _ _ _ (rq_add_1 (by decide +kernel) (by decide +kernel))) (ls_call hts ⟨Nat.le_of_ble_eq_true rfl, Nat.le_of_ble_eq_true rfl⟩) rfl hl.1 rfl (Nat.le_of_ble_eq_true rfl) ⟨Nat.le_of_ble_eq_true rfl, Nat.le_of_ble_eq_true rfl⟩ dL_refusesTables_98 (fun H locs hW => ?_)
  refine lv_ldc (v := (-100012)) hx hb hown (hts _ wl120) dL_refusesTables_101 ?_
  refine lv_icmp_ne (tgt := 366) hx hb dL_refusesTables_103 rfl (fun hc => absurd hc (by decide)) (fun _ => ?_)
  refine lv_aload_n hx hb dL_refusesTables_106 rfl (lv_at hl 3 rfl) ?_
  refine lv_iconst (v := 0) hx hb dL_refusesTables_107 (by decide) ?_
  refine lv_iconst (v := 1) hx hb dL_refusesTables_108 (by decide) ?_
  refine lv_iconst (v := 0) hx hb dL_refusesTables_109 (by decide) ?_
  refine lv_iconst (v := 0) hx hb dL_refusesTables_110 (by decide) ?_
  refine lv_iconst (v := 0) hx hb dL_refusesTables_111 (by decide) ?_
  refine lv_iload hx hb dL_refusesTables_112 (lv_at hl 0 rfl) ?_
  refine al_cSl (rest := [.int 0, .int 1, .int 0, .ref (g.2.2.1 + 0)]) C0 hW (c_L_three (r := 500500600) (by decide +kernel)) (ls_three hts ⟨Nat.le_of_ble_eq_true rfl, Nat.le_of_ble_eq_true rfl⟩) rfl hl.1 rfl (Nat.le_of_ble_eq_true rfl) ⟨Nat.le_of_ble_eq_true rfl, Nat.le_of_ble_eq_true rfl⟩ dL_refusesTables_114 (fun H locs hW => ?_)
  refine al_cSW (rest := []) C0 hW (c_L_call hfl _ _ _ _ (rq_add_1 (by decide +kernel) (by decide +kernel))) (ls_call hts ⟨Nat.le_of_ble_eq_true rfl, Nat.le_of_ble_eq_true rfl⟩) rfl hl.1 rfl (Nat.le_of_ble_eq_true rfl) ⟨Nat.le_of_ble_eq_true rfl, Nat.le_of_ble_eq_true rfl⟩ dL_refusesTables_117 (fun H locs hW => ?_)
  refine lv_ldc (v := (-100012)) hx hb hown (hts _ wl120) dL_refusesTables_120 ?_
  refine lv_icmp_ne (tgt := 366) hx hb dL_refusesTables_122 rfl (fun hc => absurd hc (by decide)) (fun _ => ?_)
  refine lv_aload_n hx hb dL_refusesTables_125 rfl (lv_at hl 3 rfl) ?_
  refine lv_iconst (v := 1) hx hb dL_refusesTables_126 (by decide) ?_
  refine lv_iload_n hx hb dL_refusesTables_127 rfl (lv_at hl 2 rfl) ?_
  refine lv_iconst (v := 0) hx hb dL_refusesTables_128 (by decide) ?_
  refine lv_bipush (v := 9) hx hb dL_refusesTables_129 (by decide) ?_
  refine lv_sipush (v := 400) hx hb dL_refusesTables_131 (by decide) ?_
  refine lv_iconst (v := 0) hx hb dL_refusesTables_134 (by decide) ?_
  refine al_cSl (rest := [.int 0, .int 2, .int 1, .ref (g.2.2.1 + 0)]) C0 hW (c_L_three (r := 509900500) (by decide +kernel)) (ls_three hts ⟨Nat.le_of_ble_eq_true rfl, Nat.le_of_ble_eq_true rfl⟩) rfl hl.1 rfl (Nat.le_of_ble_eq_true rfl) ⟨Nat.le_of_ble_eq_true rfl, Nat.le_of_ble_eq_true rfl⟩ dL_refusesTables_135 (fun H locs hW => ?_)
  refine al_cSW (rest := []) C0 hW (c_L_call hfl _ _ _ _ (rq_change_0 (rowA (by decide +kernel)))) (ls_call hts ⟨Nat.le_of_ble_eq_true rfl, Nat.le_of_ble_eq_true rfl⟩) rfl hl.1 rfl (Nat.le_of_ble_eq_true rfl) ⟨Nat.le_of_ble_eq_true rfl, Nat.le_of_ble_eq_true rfl⟩ dL_refusesTables_138 (fun H locs hW => ?_)
  refine lv_ldc (v := (-100011)) hx hb hown (hts _ wl119) dL_refusesTables_141 ?_
  refine lv_icmp_ne (tgt := 366) hx hb dL_refusesTables_143 rfl (fun hc => absurd hc (by decide)) (fun _ => ?_)
  refine lv_aload_n hx hb dL_refusesTables_146 rfl (lv_at hl 3 rfl) ?_
  refine lv_iconst (v := 1) hx hb dL_refusesTables_147 (by decide) ?_
  refine lv_iconst (v := 0) hx hb dL_refusesTables_148 (by decide) ?_
  refine lv_iload_n hx hb dL_refusesTables_149 rfl (lv_at hl 1 rfl) ?_
  refine lv_iconst (v := 0) hx hb dL_refusesTables_150 (by decide) ?_
  refine lv_sipush (v := 400) hx hb dL_refusesTables_151 (by decide) ?_
  refine lv_iconst (v := 0) hx hb dL_refusesTables_154 (by decide) ?_
  refine al_cSl (rest := [.int (wideF 1 0 (nI (σ.1.1 0) - 1)), .int 0, .int 1, .ref (g.2.2.1 + 0)]) C0 hW (c_L_three (r := 500900500) (by decide +kernel)) (ls_three hts ⟨Nat.le_of_ble_eq_true rfl, Nat.le_of_ble_eq_true rfl⟩) rfl hl.1 rfl (Nat.le_of_ble_eq_true rfl) ⟨Nat.le_of_ble_eq_true rfl, Nat.le_of_ble_eq_true rfl⟩ dL_refusesTables_155 (fun H locs hW => ?_)
  refine al_cSW (rest := []) C0 hW (c_L_call hfl _ _ _ _ (rq_change_0 (rowB hrow))) (ls_call hts ⟨Nat.le_of_ble_eq_true rfl, Nat.le_of_ble_eq_true rfl⟩) rfl hl.1 rfl (Nat.le_of_ble_eq_true rfl) ⟨Nat.le_of_ble_eq_true rfl, Nat.le_of_ble_eq_true rfl⟩ dL_refusesTables_158 (fun H locs hW => ?_)
  refine lv_ldc (v := (-100011)) hx hb hown (hts _ wl119) dL_refusesTables_161 ?_
  refine lv_icmp_ne (tgt := 366) hx hb dL_refusesTables_163 rfl (fun hc => absurd hc (by decide)) (fun _ => ?_)
  refine lv_aload_n hx hb dL_refusesTables_166 rfl (lv_at hl 3 rfl) ?_
  refine lv_iconst (v := 2) hx hb dL_refusesTables_167 (by decide) ?_
  refine lv_iload_n hx hb dL_refusesTables_168 rfl (lv_at hl 2 rfl) ?_
  refine lv_iconst (v := 0) hx hb dL_refusesTables_169 (by decide) ?_
  refine lv_lconst (v := 0) hx hb dL_refusesTables_170 rfl ?_
  refine al_cSW (rest := []) C0 hW (c_L_call hfl _ _ _ _ (rq_drop_0 (rowA (by decide +kernel)))) (ls_call hts ⟨Nat.le_of_ble_eq_true rfl, Nat.le_of_ble_eq_true rfl⟩) rfl hl.1 rfl (Nat.le_of_ble_eq_true rfl) ⟨Nat.le_of_ble_eq_true rfl, Nat.le_of_ble_eq_true rfl⟩ dL_refusesTables_171 (fun H locs hW => ?_)
  refine lv_ldc (v := (-100011)) hx hb hown (hts _ wl119) dL_refusesTables_174 ?_
  refine lv_icmp_ne (tgt := 366) hx hb dL_refusesTables_176 rfl (fun hc => absurd hc (by decide)) (fun _ => ?_)
  refine lv_aload_n hx hb dL_refusesTables_179 rfl (lv_at hl 3 rfl) ?_
  refine lv_iconst (v := 2) hx hb dL_refusesTables_180 (by decide) ?_
  refine lv_iconst (v := 0) hx hb dL_refusesTables_181 (by decide) ?_
  refine lv_iload_n hx hb dL_refusesTables_182 rfl (lv_at hl 1 rfl) ?_
  refine lv_lconst (v := 0) hx hb dL_refusesTables_183 rfl ?_
  refine al_cSW (rest := []) C0 hW (c_L_call hfl _ _ _ _ (rq_drop_0 (rowB hrow))) (ls_call hts ⟨Nat.le_of_ble_eq_true rfl, Nat.le_of_ble_eq_true rfl⟩) rfl hl.1 rfl (Nat.le_of_ble_eq_true rfl) ⟨Nat.le_of_ble_eq_true rfl, Nat.le_of_ble_eq_true rfl⟩ dL_refusesTables_184 (fun H locs hW => ?_)
  refine lv_ldc (v := (-100011)) hx hb hown (hts _ wl119) dL_refusesTables_187 ?_
  refine lv_icmp_ne (tgt := 366) hx hb dL_refusesTables_189 rfl (fun hc => absurd hc (by decide)) (fun _ => ?_)
  refine lv_aload_n hx hb dL_refusesTables_192 rfl (lv_at hl 3 rfl) ?_
  refine lv_bipush (v := 12) hx hb dL_refusesTables_193 (by decide) ?_
  refine lv_iload_n hx hb dL_refusesTables_195 rfl (lv_at hl 2 rfl) ?_
  refine lv_iconst (v := 0) hx hb dL_refusesTables_196 (by decide) ?_
  refine lv_iconst (v := 0) hx hb dL_refusesTables_197 (by decide) ?_
  refine lv_iconst (v := 0) hx hb dL_refusesTables_198 (by decide) ?_
  refine lv_iconst (v := 0) hx hb dL_refusesTables_199 (by decide) ?_
  refine al_cSl (rest := [.int 0, .int 2, .int 12, .ref (g.2.2.1 + 0)]) C0 hW (c_L_three (r := 500500500) (by decide +kernel)) (ls_three hts ⟨Nat.le_of_ble_eq_true rfl, Nat.le_of_ble_eq_true rfl⟩) rfl hl.1 rfl (Nat.le_of_ble_eq_true rfl) ⟨Nat.le_of_ble_eq_true rfl, Nat.le_of_ble_eq_true rfl⟩ dL_refusesTables_200 (fun H locs hW => ?_)
  refine al_cSW (rest := []) C0 hW (c_L_call hfl _ _ _ _ (rq_cell_0 (rowA (by decide +kernel)))) (ls_call hts ⟨Nat.le_of_ble_eq_true rfl, Nat.le_of_ble_eq_true rfl⟩) rfl hl.1 rfl (Nat.le_of_ble_eq_true rfl) ⟨Nat.le_of_ble_eq_true rfl, Nat.le_of_ble_eq_true rfl⟩ dL_refusesTables_203 (fun H locs hW => ?_)
  refine lv_ldc (v := (-100011)) hx hb hown (hts _ wl119) dL_refusesTables_206 ?_
  refine lv_icmp_ne (tgt := 366) hx hb dL_refusesTables_208 rfl (fun hc => absurd hc (by decide)) (fun _ => ?_)
  refine lv_aload_n hx hb dL_refusesTables_211 rfl (lv_at hl 3 rfl) ?_
  refine lv_bipush (v := 12) hx hb dL_refusesTables_212 (by decide) ?_
  refine lv_iconst (v := 0) hx hb dL_refusesTables_214 (by decide) ?_
  refine lv_iload_n hx hb dL_refusesTables_215 rfl (lv_at hl 1 rfl) ?_
  refine lv_iconst (v := 0) hx hb dL_refusesTables_216 (by decide) ?_
  refine lv_iconst (v := 0) hx hb dL_refusesTables_217 (by decide) ?_
  refine lv_iconst (v := 0) hx hb dL_refusesTables_218 (by decide) ?_
  refine al_cSl (rest := [.int (wideF 1 0 (nI (σ.1.1 0) - 1)), .int 0, .int 12, .ref (g.2.2.1 + 0)]) C0 hW (c_L_three (r := 500500500) (by decide +kernel)) (ls_three hts ⟨Nat.le_of_ble_eq_true rfl, Nat.le_of_ble_eq_true rfl⟩) rfl hl.1 rfl (Nat.le_of_ble_eq_true rfl) ⟨Nat.le_of_ble_eq_true rfl, Nat.le_of_ble_eq_true rfl⟩ dL_refusesTables_219 (fun H locs hW => ?_)
  refine al_cSW (rest := []) C0 hW (c_L_call hfl _ _ _ _ (rq_cell_0 (rowB hrow))) (ls_call hts ⟨Nat.le_of_ble_eq_true rfl, Nat.le_of_ble_eq_true rfl⟩) rfl hl.1 rfl (Nat.le_of_ble_eq_true rfl) ⟨Nat.le_of_ble_eq_true rfl, Nat.le_of_ble_eq_true rfl⟩ dL_refusesTables_222 (fun H locs hW => ?_)
  refine lv_ldc (v := (-100011)) hx hb hown (hts _ wl119) dL_refusesTables_225 ?_
  refine lv_icmp_ne (tgt := 366) hx hb dL_refusesTables_227 rfl (fun hc => absurd hc (by decide)) (fun _ => ?_)
  refine lv_aload_n hx hb dL_refusesTables_230 rfl (lv_at hl 3 rfl) ?_
  refine lv_bipush (v := 13) hx hb dL_refusesTables_231 (by decide) ?_
  refine lv_iload_n hx hb dL_refusesTables_233 rfl (lv_at hl 2 rfl) ?_
  refine lv_bipush (v := 9) hx hb dL_refusesTables_234 (by decide) ?_
  refine lv_lconst (v := 0) hx hb dL_refusesTables_236 rfl ?_
  refine al_cSW (rest := []) C0 hW (c_L_call hfl _ _ _ _ (rq_column_0 (by decide +kernel))) (ls_call hts ⟨Nat.le_of_ble_eq_true rfl, Nat.le_of_ble_eq_true rfl⟩) rfl hl.1 rfl (Nat.le_of_ble_eq_true rfl) ⟨Nat.le_of_ble_eq_true rfl, Nat.le_of_ble_eq_true rfl⟩ dL_refusesTables_237 (fun H locs hW => ?_)
  refine lv_ldc (v := (-100011)) hx hb hown (hts _ wl119) dL_refusesTables_240 ?_
  refine lv_icmp_ne (tgt := 366) hx hb dL_refusesTables_242 rfl (fun hc => absurd hc (by decide)) (fun _ => ?_)
  refine lv_aload_n hx hb dL_refusesTables_245 rfl (lv_at hl 3 rfl) ?_
  refine lv_bipush (v := 13) hx hb dL_refusesTables_246 (by decide) ?_
  refine lv_iconst (v := 1) hx hb dL_refusesTables_248 (by decide) ?_
  refine lv_iload_n hx hb dL_refusesTables_249 rfl (lv_at hl 4 rfl) ?_
  refine lv_iconst (v := 0) hx hb dL_refusesTables_250 (by decide) ?_
  refine lv_iconst (v := 3) hx hb dL_refusesTables_251 (by decide) ?_
  refine al_cSi (rest := [.int 1, .int 13, .ref (g.2.2.1 + 0)]) C0 hW (c_L_wide (r := 4) (by decide +kernel)) (ls_wide hts ⟨Nat.le_of_ble_eq_true rfl, Nat.le_of_ble_eq_true rfl⟩) rfl hl.1 rfl (Nat.le_of_ble_eq_true rfl) ⟨Nat.le_of_ble_eq_true rfl, Nat.le_of_ble_eq_true rfl⟩ dL_refusesTables_252 (fun H locs hW => ?_)
  refine lv_lconst (v := 0) hx hb dL_refusesTables_255 rfl ?_
  refine al_cSW (rest := []) C0 hW (c_L_call hfl _ _ _ _ (rq_column_1 (by decide +kernel) (by decide +kernel))) (ls_call hts ⟨Nat.le_of_ble_eq_true rfl, Nat.le_of_ble_eq_true rfl⟩) rfl hl.1 rfl (Nat.le_of_ble_eq_true rfl) ⟨Nat.le_of_ble_eq_true rfl, Nat.le_of_ble_eq_true rfl⟩ dL_refusesTables_256 (fun H locs hW => ?_)
  refine lv_ldc (v := (-100011)) hx hb hown (hts _ wl119) dL_refusesTables_259 ?_
  refine lv_icmp_ne (tgt := 366) hx hb dL_refusesTables_261 rfl (fun hc => absurd hc (by decide)) (fun _ => ?_)
  refine lv_aload_n hx hb dL_refusesTables_264 rfl (lv_at hl 3 rfl) ?_
  refine lv_bipush (v := 13) hx hb dL_refusesTables_265 (by decide) ?_
  refine lv_iconst (v := 1) hx hb dL_refusesTables_267 (by decide) ?_
  refine lv_iconst (v := 3) hx hb dL_refusesTables_268 (by decide) ?_
  refine lv_iload_n hx hb dL_refusesTables_269 rfl (lv_at hl 4 rfl) ?_
  refine lv_iconst (v := 0) hx hb dL_refusesTables_270 (by decide) ?_
  refine lv_bipush (v := 6) hx hb dL_refusesTables_271 (by decide) ?_
  refine al_cSi (rest := [.int 3, .int 1, .int 13, .ref (g.2.2.1 + 0)]) C0 hW (c_L_far (r := 7) (by decide +kernel)) (ls_far hts ⟨Nat.le_of_ble_eq_true rfl, Nat.le_of_ble_eq_true rfl⟩) rfl hl.1 rfl (Nat.le_of_ble_eq_true rfl) ⟨Nat.le_of_ble_eq_true rfl, Nat.le_of_ble_eq_true rfl⟩ dL_refusesTables_273 (fun H locs hW => ?_)
  refine lv_iconst (v := 0) hx hb dL_refusesTables_276 (by decide) ?_
  refine lv_iconst (v := 0) hx hb dL_refusesTables_277 (by decide) ?_
  refine al_cSl (rest := [.int 3, .int 1, .int 13, .ref (g.2.2.1 + 0)]) C0 hW (c_L_three (r := 507500500) (by decide +kernel)) (ls_three hts ⟨Nat.le_of_ble_eq_true rfl, Nat.le_of_ble_eq_true rfl⟩) rfl hl.1 rfl (Nat.le_of_ble_eq_true rfl) ⟨Nat.le_of_ble_eq_true rfl, Nat.le_of_ble_eq_true rfl⟩ dL_refusesTables_278 (fun H locs hW => ?_)
  refine al_cSW (rest := []) C0 hW (c_L_call hfl _ _ _ _ (rq_column_2 (by decide +kernel) (by decide +kernel) (by decide +kernel))) (ls_call hts ⟨Nat.le_of_ble_eq_true rfl, Nat.le_of_ble_eq_true rfl⟩) rfl hl.1 rfl (Nat.le_of_ble_eq_true rfl) ⟨Nat.le_of_ble_eq_true rfl, Nat.le_of_ble_eq_true rfl⟩ dL_refusesTables_281 (fun H locs hW => ?_)
  refine lv_ldc (v := (-100012)) hx hb hown (hts _ wl120) dL_refusesTables_284 ?_
  refine lv_icmp_ne (tgt := 366) hx hb dL_refusesTables_286 rfl (fun hc => absurd hc (by decide)) (fun _ => ?_)
  refine lv_aload_n hx hb dL_refusesTables_289 rfl (lv_at hl 3 rfl) ?_
  refine lv_bipush (v := 14) hx hb dL_refusesTables_290 (by decide) ?_
  refine lv_iload_n hx hb dL_refusesTables_292 rfl (lv_at hl 2 rfl) ?_
  refine lv_iconst (v := 0) hx hb dL_refusesTables_293 (by decide) ?_
  refine lv_lconst (v := 0) hx hb dL_refusesTables_294 rfl ?_
  refine al_cSW (rest := []) C0 hW (c_L_call hfl _ _ _ _ (rq_group_0 (by decide +kernel))) (ls_call hts ⟨Nat.le_of_ble_eq_true rfl, Nat.le_of_ble_eq_true rfl⟩) rfl hl.1 rfl (Nat.le_of_ble_eq_true rfl) ⟨Nat.le_of_ble_eq_true rfl, Nat.le_of_ble_eq_true rfl⟩ dL_refusesTables_295 (fun H locs hW => ?_)
  refine lv_ldc (v := (-100011)) hx hb hown (hts _ wl119) dL_refusesTables_298 ?_
  refine lv_icmp_ne (tgt := 366) hx hb dL_refusesTables_300 rfl (fun hc => absurd hc (by decide)) (fun _ => ?_)
  refine lv_aload_n hx hb dL_refusesTables_303 rfl (lv_at hl 3 rfl) ?_
  refine lv_bipush (v := 14) hx hb dL_refusesTables_304 (by decide) ?_
  refine lv_iconst (v := 0) hx hb dL_refusesTables_306 (by decide) ?_
  refine lv_iload_n hx hb dL_refusesTables_307 rfl (lv_at hl 4 rfl) ?_
  refine lv_iconst (v := 0) hx hb dL_refusesTables_308 (by decide) ?_
  refine lv_iconst (v := 3) hx hb dL_refusesTables_309 (by decide) ?_
  refine al_cSi (rest := [.int 0, .int 14, .ref (g.2.2.1 + 0)]) C0 hW (c_L_wide (r := 4) (by decide +kernel)) (ls_wide hts ⟨Nat.le_of_ble_eq_true rfl, Nat.le_of_ble_eq_true rfl⟩) rfl hl.1 rfl (Nat.le_of_ble_eq_true rfl) ⟨Nat.le_of_ble_eq_true rfl, Nat.le_of_ble_eq_true rfl⟩ dL_refusesTables_310 (fun H locs hW => ?_)
  refine lv_lconst (v := 0) hx hb dL_refusesTables_313 rfl ?_
  refine al_cSW (rest := []) C0 hW (c_L_call hfl _ _ _ _ (rq_group_1 (by decide +kernel) (by decide +kernel))) (ls_call hts ⟨Nat.le_of_ble_eq_true rfl, Nat.le_of_ble_eq_true rfl⟩) rfl hl.1 rfl (Nat.le_of_ble_eq_true rfl) ⟨Nat.le_of_ble_eq_true rfl, Nat.le_of_ble_eq_true rfl⟩ dL_refusesTables_314 (fun H locs hW => ?_)
  refine lv_ldc (v := (-100011)) hx hb hown (hts _ wl119) dL_refusesTables_317 ?_
  refine lv_icmp_ne (tgt := 366) hx hb dL_refusesTables_319 rfl (fun hc => absurd hc (by decide)) (fun _ => ?_)
  refine lv_aload_n hx hb dL_refusesTables_322 rfl (lv_at hl 3 rfl) ?_
  refine lv_bipush (v := 14) hx hb dL_refusesTables_323 (by decide) ?_
  refine lv_iconst (v := 0) hx hb dL_refusesTables_325 (by decide) ?_
  refine lv_iconst (v := 0) hx hb dL_refusesTables_326 (by decide) ?_
  refine lv_iconst (v := (-1)) hx hb dL_refusesTables_327 (by decide) ?_
  refine lv_iconst (v := 0) hx hb dL_refusesTables_328 (by decide) ?_
  refine lv_iconst (v := 0) hx hb dL_refusesTables_329 (by decide) ?_
  refine al_cSl (rest := [.int 0, .int 0, .int 14, .ref (g.2.2.1 + 0)]) C0 hW (c_L_three (r := 499500500) (by decide +kernel)) (ls_three hts ⟨Nat.le_of_ble_eq_true rfl, Nat.le_of_ble_eq_true rfl⟩) rfl hl.1 rfl (Nat.le_of_ble_eq_true rfl) ⟨Nat.le_of_ble_eq_true rfl, Nat.le_of_ble_eq_true rfl⟩ dL_refusesTables_330 (fun H locs hW => ?_)
  refine al_cSW (rest := []) C0 hW (c_L_call hfl _ _ _ _ (rq_group_2 (by decide +kernel) (by decide +kernel) (by decide +kernel))) (ls_call hts ⟨Nat.le_of_ble_eq_true rfl, Nat.le_of_ble_eq_true rfl⟩) rfl hl.1 rfl (Nat.le_of_ble_eq_true rfl) ⟨Nat.le_of_ble_eq_true rfl, Nat.le_of_ble_eq_true rfl⟩ dL_refusesTables_333 (fun H locs hW => ?_)
  refine lv_ldc (v := (-100012)) hx hb hown (hts _ wl120) dL_refusesTables_336 ?_
  refine lv_icmp_ne (tgt := 366) hx hb dL_refusesTables_338 rfl (fun hc => absurd hc (by decide)) (fun _ => ?_)
  refine lv_aload_n hx hb dL_refusesTables_341 rfl (lv_at hl 3 rfl) ?_
  refine lv_bipush (v := 14) hx hb dL_refusesTables_342 (by decide) ?_
  refine lv_iconst (v := 0) hx hb dL_refusesTables_344 (by decide) ?_
  refine lv_iconst (v := 0) hx hb dL_refusesTables_345 (by decide) ?_
  refine lv_iconst (v := 0) hx hb dL_refusesTables_346 (by decide) ?_
  refine lv_iload_n hx hb dL_refusesTables_347 rfl (lv_at hl 4 rfl) ?_
  refine lv_iconst (v := 0) hx hb dL_refusesTables_348 (by decide) ?_
  refine lv_bipush (v := 7) hx hb dL_refusesTables_349 (by decide) ?_
  refine al_cSi (rest := [.int 0, .int 0, .int 0, .int 14, .ref (g.2.2.1 + 0)]) C0 hW (c_L_far (r := 8) (by decide +kernel)) (ls_far hts ⟨Nat.le_of_ble_eq_true rfl, Nat.le_of_ble_eq_true rfl⟩) rfl hl.1 rfl (Nat.le_of_ble_eq_true rfl) ⟨Nat.le_of_ble_eq_true rfl, Nat.le_of_ble_eq_true rfl⟩ dL_refusesTables_351 (fun H locs hW => ?_)
  refine lv_iconst (v := 0) hx hb dL_refusesTables_354 (by decide) ?_
  refine al_cSl (rest := [.int 0, .int 0, .int 14, .ref (g.2.2.1 + 0)]) C0 hW (c_L_three (r := 500508500) (by decide +kernel)) (ls_three hts ⟨Nat.le_of_ble_eq_true rfl, Nat.le_of_ble_eq_true rfl⟩) rfl hl.1 rfl (Nat.le_of_ble_eq_true rfl) ⟨Nat.le_of_ble_eq_true rfl, Nat.le_of_ble_eq_true rfl⟩ dL_refusesTables_355 (fun H locs hW => ?_)
  refine al_cSW (rest := []) C0 hW (c_L_call hfl _ _ _ _ (rq_group_3 (by decide +kernel) (by decide +kernel) (by decide +kernel) (by decide +kernel))) (ls_call hts ⟨Nat.le_of_ble_eq_true rfl, Nat.le_of_ble_eq_true rfl⟩) rfl hl.1 rfl (Nat.le_of_ble_eq_true rfl) ⟨Nat.le_of_ble_eq_true rfl, Nat.le_of_ble_eq_true rfl⟩ dL_refusesTables_358 (fun H locs hW => ?_)
  refine lv_ldc (v := (-100012)) hx hb hown (hts _ wl120) dL_refusesTables_361 ?_
  refine lv_icmp_eq (tgt := 368) hx hb dL_refusesTables_363 rfl (fun _ => ?_) (fun hc => absurd (by decide) hc)
  refine lv_aload_n hx hb dL_refusesTables_368 rfl (lv_at hl 3 rfl) ?_
  refine lv_iconst (v := 0) hx hb dL_refusesTables_369 (by decide) ?_
  refine ar_count (rest := []) C0 hl.1 hW (z_count σ (k := 0) (by decide)) ⟨Nat.le_of_ble_eq_true rfl, Nat.le_of_ble_eq_true rfl⟩ (Nat.le_of_ble_eq_true rfl) ⟨Nat.le_of_ble_eq_true rfl, Nat.le_of_ble_eq_true rfl⟩ dL_refusesTables_370 (fun H locs hW => ?_)
  have J : ∀ (H : Heap) (locs : List Loc) (ls : Array Slot), WA g σ b Z s.heap H locs → lv_has ls 5 [(4, .int 100), (3, .int (wideF 1 0 (nI (σ.1.1 0) - 1))), (2, .int 2), (0, .ref (g.2.2.1 + 0)), (1, .int 1)] → W p l e rmL_refusesTables s m args below meth c H locs 48 1560 (MQ below (QAi g 1 σ b Z) args s rmL_refusesTables.cells rmL_refusesTables.slots (AA g)) (F0 m 518 ls []) := by
    intro H locs ls hW hl
    refine lv_aload_n hx hb dL_refusesTables_518 rfl (lv_at hl 3 rfl) ?_
    refine lv_bipush (v := 21) hx hb dL_refusesTables_519 (by decide) ?_
    refine lv_iload_n hx hb dL_refusesTables_521 rfl (lv_at hl 4 rfl) ?_
    refine lv_iconst (v := 0) hx hb dL_refusesTables_522 (by decide) ?_
    refine lv_iconst (v := 3) hx hb dL_refusesTables_523 (by decide) ?_
    refine al_cSi (rest := [.int 21, .ref (g.2.2.1 + 0)]) C0 hW (c_L_wide (r := 4) (by decide +kernel)) (ls_wide hts ⟨Nat.le_of_ble_eq_true rfl, Nat.le_of_ble_eq_true rfl⟩) rfl hl.1 rfl (Nat.le_of_ble_eq_true rfl) ⟨Nat.le_of_ble_eq_true rfl, Nat.le_of_ble_eq_true rfl⟩ dL_refusesTables_524 (fun H locs hW => ?_)
    refine lv_iconst (v := 0) hx hb dL_refusesTables_527 (by decide) ?_
    refine lv_iconst (v := (-1)) hx hb dL_refusesTables_528 (by decide) ?_
    refine lv_iconst (v := 0) hx hb dL_refusesTables_529 (by decide) ?_
    refine lv_iconst (v := 0) hx hb dL_refusesTables_530 (by decide) ?_
    refine al_cSl (rest := [.int 0, .int 4, .int 21, .ref (g.2.2.1 + 0)]) C0 hW (c_L_three (r := 499500500) (by decide +kernel)) (ls_three hts ⟨Nat.le_of_ble_eq_true rfl, Nat.le_of_ble_eq_true rfl⟩) rfl hl.1 rfl (Nat.le_of_ble_eq_true rfl) ⟨Nat.le_of_ble_eq_true rfl, Nat.le_of_ble_eq_true rfl⟩ dL_refusesTables_531 (fun H locs hW => ?_)
    refine al_cSW (rest := []) C0 hW (c_L_call hfl _ _ _ _ (rq_join_0 (by decide +kernel))) (ls_call hts ⟨Nat.le_of_ble_eq_true rfl, Nat.le_of_ble_eq_true rfl⟩) rfl hl.1 rfl (Nat.le_of_ble_eq_true rfl) ⟨Nat.le_of_ble_eq_true rfl, Nat.le_of_ble_eq_true rfl⟩ dL_refusesTables_534 (fun H locs hW => ?_)
    refine lv_ldc (v := (-100011)) hx hb hown (hts _ wl119) dL_refusesTables_537 ?_
    refine lv_icmp_ne (tgt := 618) hx hb dL_refusesTables_539 rfl (fun hc => absurd hc (by decide)) (fun _ => ?_)
    refine lv_aload_n hx hb dL_refusesTables_542 rfl (lv_at hl 3 rfl) ?_
    refine lv_bipush (v := 21) hx hb dL_refusesTables_543 (by decide) ?_
    refine lv_iconst (v := 0) hx hb dL_refusesTables_545 (by decide) ?_
    refine lv_iload_n hx hb dL_refusesTables_546 rfl (lv_at hl 4 rfl) ?_
    refine lv_iconst (v := 0) hx hb dL_refusesTables_547 (by decide) ?_
    refine lv_iconst (v := 3) hx hb dL_refusesTables_548 (by decide) ?_
    refine al_cSi (rest := [.int 0, .int 21, .ref (g.2.2.1 + 0)]) C0 hW (c_L_wide (r := 4) (by decide +kernel)) (ls_wide hts ⟨Nat.le_of_ble_eq_true rfl, Nat.le_of_ble_eq_true rfl⟩) rfl hl.1 rfl (Nat.le_of_ble_eq_true rfl) ⟨Nat.le_of_ble_eq_true rfl, Nat.le_of_ble_eq_true rfl⟩ dL_refusesTables_549 (fun H locs hW => ?_)
    refine lv_iconst (v := (-1)) hx hb dL_refusesTables_552 (by decide) ?_
    refine lv_iconst (v := 0) hx hb dL_refusesTables_553 (by decide) ?_
    refine lv_iconst (v := 0) hx hb dL_refusesTables_554 (by decide) ?_
    refine al_cSl (rest := [.int 4, .int 0, .int 21, .ref (g.2.2.1 + 0)]) C0 hW (c_L_three (r := 499500500) (by decide +kernel)) (ls_three hts ⟨Nat.le_of_ble_eq_true rfl, Nat.le_of_ble_eq_true rfl⟩) rfl hl.1 rfl (Nat.le_of_ble_eq_true rfl) ⟨Nat.le_of_ble_eq_true rfl, Nat.le_of_ble_eq_true rfl⟩ dL_refusesTables_555 (fun H locs hW => ?_)
    refine al_cSW (rest := []) C0 hW (c_L_call hfl _ _ _ _ (rq_join_1 (by decide +kernel) (by decide +kernel))) (ls_call hts ⟨Nat.le_of_ble_eq_true rfl, Nat.le_of_ble_eq_true rfl⟩) rfl hl.1 rfl (Nat.le_of_ble_eq_true rfl) ⟨Nat.le_of_ble_eq_true rfl, Nat.le_of_ble_eq_true rfl⟩ dL_refusesTables_558 (fun H locs hW => ?_)
    refine lv_ldc (v := (-100011)) hx hb hown (hts _ wl119) dL_refusesTables_561 ?_
    refine lv_icmp_ne (tgt := 618) hx hb dL_refusesTables_563 rfl (fun hc => absurd hc (by decide)) (fun _ => ?_)
    refine lv_aload_n hx hb dL_refusesTables_566 rfl (lv_at hl 3 rfl) ?_
    refine lv_bipush (v := 21) hx hb dL_refusesTables_567 (by decide) ?_
    refine lv_iconst (v := 3) hx hb dL_refusesTables_569 (by decide) ?_
    refine lv_iconst (v := 3) hx hb dL_refusesTables_570 (by decide) ?_
    refine lv_iload_n hx hb dL_refusesTables_571 rfl (lv_at hl 4 rfl) ?_
    refine lv_if_ne (tgt := 579) hx hb dL_refusesTables_572 rfl (fun _ => ?_) (fun hc => absurd hc (by decide))
    refine lv_sipush (v := (-500)) hx hb dL_refusesTables_579 (by decide) ?_
    refine lv_iconst (v := 0) hx hb dL_refusesTables_582 (by decide) ?_
    refine lv_iconst (v := 0) hx hb dL_refusesTables_583 (by decide) ?_
    refine al_cSl (rest := [.int 3, .int 3, .int 21, .ref (g.2.2.1 + 0)]) C0 hW (c_L_three (r := 500500) (by decide +kernel)) (ls_three hts ⟨Nat.le_of_ble_eq_true rfl, Nat.le_of_ble_eq_true rfl⟩) rfl hl.1 rfl (Nat.le_of_ble_eq_true rfl) ⟨Nat.le_of_ble_eq_true rfl, Nat.le_of_ble_eq_true rfl⟩ dL_refusesTables_584 (fun H locs hW => ?_)
    refine al_cSW (rest := []) C0 hW (c_L_call hfl _ _ _ _ (rq_join_2 (by decide +kernel) (by decide +kernel) (by decide +kernel))) (ls_call hts ⟨Nat.le_of_ble_eq_true rfl, Nat.le_of_ble_eq_true rfl⟩) rfl hl.1 rfl (Nat.le_of_ble_eq_true rfl) ⟨Nat.le_of_ble_eq_true rfl, Nat.le_of_ble_eq_true rfl⟩ dL_refusesTables_587 (fun H locs hW => ?_)
    refine lv_ldc (v := (-100012)) hx hb hown (hts _ wl120) dL_refusesTables_590 ?_
    refine lv_icmp_ne (tgt := 618) hx hb dL_refusesTables_592 rfl (fun hc => absurd hc (by decide)) (fun _ => ?_)
    refine lv_aload_n hx hb dL_refusesTables_595 rfl (lv_at hl 3 rfl) ?_
    refine lv_bipush (v := 22) hx hb dL_refusesTables_596 (by decide) ?_
    refine lv_iload_n hx hb dL_refusesTables_598 rfl (lv_at hl 1 rfl) ?_
    refine lv_iconst (v := 0) hx hb dL_refusesTables_599 (by decide) ?_
    refine lv_iconst (v := 0) hx hb dL_refusesTables_600 (by decide) ?_
    refine lv_iconst (v := 0) hx hb dL_refusesTables_601 (by decide) ?_
    refine lv_iconst (v := 0) hx hb dL_refusesTables_602 (by decide) ?_
    refine al_cSl (rest := [.int 0, .int (wideF 1 0 (nI (σ.1.1 0) - 1)), .int 22, .ref (g.2.2.1 + 0)]) C0 hW (c_L_three (r := 500500500) (by decide +kernel)) (ls_three hts ⟨Nat.le_of_ble_eq_true rfl, Nat.le_of_ble_eq_true rfl⟩) rfl hl.1 rfl (Nat.le_of_ble_eq_true rfl) ⟨Nat.le_of_ble_eq_true rfl, Nat.le_of_ble_eq_true rfl⟩ dL_refusesTables_603 (fun H locs hW => ?_)
    refine al_cSW (rest := []) C0 hW (c_L_call hfl _ _ _ _ (rq_among_0 hrow)) (ls_call hts ⟨Nat.le_of_ble_eq_true rfl, Nat.le_of_ble_eq_true rfl⟩) rfl hl.1 rfl (Nat.le_of_ble_eq_true rfl) ⟨Nat.le_of_ble_eq_true rfl, Nat.le_of_ble_eq_true rfl⟩ dL_refusesTables_606 (fun H locs hW => ?_)
    refine lv_ldc (v := (-100011)) hx hb hown (hts _ wl119) dL_refusesTables_609 ?_
    refine lv_icmp_ne (tgt := 618) hx hb dL_refusesTables_611 rfl (fun hc => absurd hc (by decide)) (fun _ => ?_)
    refine lv_iconst (v := 1) hx hb dL_refusesTables_614 (by decide) ?_
    refine lv_goto (tgt := 619) hx hb dL_refusesTables_615 rfl ?_
    exact al_zret C0 hW (Nat.le_of_ble_eq_true rfl) (Nat.le_of_ble_eq_true rfl) rfl rfl dL_refusesTables_619
  refine lv_if_le (tgt := 518) hx hb dL_refusesTables_373 rfl (fun _ => ?_) (fun hc => ?_)
  · exact W.widen (Nat.le_of_ble_eq_true rfl) (Nat.le_of_ble_eq_true rfl) (J H locs ls hW hl)
  · have hc : ¬ nI (σ.1.1 0) ≤ 0 := hc
    have hpos : ixb (σ.1.1 0) 0 = true := by
      rcases Nat.eq_zero_or_pos (σ.1.1 0) with h0 | h0
      · rw [h0] at hc; exact absurd (by decide) hc
      · exact ix_in (j := 0) h0 (by omega)
    refine lv_aload_n hx hb dL_refusesTables_376 rfl (lv_at hl 3 rfl) ?_
    refine lv_iconst (v := 1) hx hb dL_refusesTables_377 (by decide) ?_
    refine lv_iconst (v := 0) hx hb dL_refusesTables_378 (by decide) ?_
    refine lv_iconst (v := 0) hx hb dL_refusesTables_379 (by decide) ?_
    refine lv_iload_n hx hb dL_refusesTables_380 rfl (lv_at hl 4 rfl) ?_
    refine lv_iconst (v := 0) hx hb dL_refusesTables_381 (by decide) ?_
    refine lv_iconst (v := 3) hx hb dL_refusesTables_382 (by decide) ?_
    refine al_cSi (rest := [.int 0, .int 0, .int 1, .ref (g.2.2.1 + 0)]) C0 hW (c_L_far (r := 4) (by decide +kernel)) (ls_far hts ⟨Nat.le_of_ble_eq_true rfl, Nat.le_of_ble_eq_true rfl⟩) rfl hl.1 rfl (Nat.le_of_ble_eq_true rfl) ⟨Nat.le_of_ble_eq_true rfl, Nat.le_of_ble_eq_true rfl⟩ dL_refusesTables_383 (fun H locs hW => ?_)
    refine lv_sipush (v := 400) hx hb dL_refusesTables_386 (by decide) ?_
    refine lv_iconst (v := 0) hx hb dL_refusesTables_389 (by decide) ?_
    refine al_cSl (rest := [.int 0, .int 0, .int 1, .ref (g.2.2.1 + 0)]) C0 hW (c_L_three (r := 504900500) (by decide +kernel)) (ls_three hts ⟨Nat.le_of_ble_eq_true rfl, Nat.le_of_ble_eq_true rfl⟩) rfl hl.1 rfl (Nat.le_of_ble_eq_true rfl) ⟨Nat.le_of_ble_eq_true rfl, Nat.le_of_ble_eq_true rfl⟩ dL_refusesTables_390 (fun H locs hW => ?_)
    refine al_cSW (rest := []) C0 hW (c_L_call hfl _ _ _ _ (rq_change_1 (rowG hpos) (by decide +kernel))) (ls_call hts ⟨Nat.le_of_ble_eq_true rfl, Nat.le_of_ble_eq_true rfl⟩) rfl hl.1 rfl (Nat.le_of_ble_eq_true rfl) ⟨Nat.le_of_ble_eq_true rfl, Nat.le_of_ble_eq_true rfl⟩ dL_refusesTables_393 (fun H locs hW => ?_)
    refine lv_ldc (v := (-100011)) hx hb hown (hts _ wl119) dL_refusesTables_396 ?_
    refine lv_icmp_ne (tgt := 516) hx hb dL_refusesTables_398 rfl (fun hc => absurd hc (by decide)) (fun _ => ?_)
    refine lv_aload_n hx hb dL_refusesTables_401 rfl (lv_at hl 3 rfl) ?_
    refine lv_iconst (v := 1) hx hb dL_refusesTables_402 (by decide) ?_
    refine lv_iconst (v := 0) hx hb dL_refusesTables_403 (by decide) ?_
    refine lv_iconst (v := 0) hx hb dL_refusesTables_404 (by decide) ?_
    refine lv_iconst (v := 3) hx hb dL_refusesTables_405 (by decide) ?_
    refine lv_iload hx hb dL_refusesTables_406 (lv_at hl 0 rfl) ?_
    refine lv_iconst (v := 0) hx hb dL_refusesTables_408 (by decide) ?_
    refine al_cSl (rest := [.int 0, .int 0, .int 1, .ref (g.2.2.1 + 0)]) C0 hW (c_L_three (r := 503600500) (by decide +kernel)) (ls_three hts ⟨Nat.le_of_ble_eq_true rfl, Nat.le_of_ble_eq_true rfl⟩) rfl hl.1 rfl (Nat.le_of_ble_eq_true rfl) ⟨Nat.le_of_ble_eq_true rfl, Nat.le_of_ble_eq_true rfl⟩ dL_refusesTables_409 (fun H locs hW => ?_)
    refine al_cSW (rest := []) C0 hW (c_L_call hfl _ _ _ _ (rq_change_2 (rowG hpos) (by decide +kernel) (by decide +kernel))) (ls_call hts ⟨Nat.le_of_ble_eq_true rfl, Nat.le_of_ble_eq_true rfl⟩) rfl hl.1 rfl (Nat.le_of_ble_eq_true rfl) ⟨Nat.le_of_ble_eq_true rfl, Nat.le_of_ble_eq_true rfl⟩ dL_refusesTables_412 (fun H locs hW => ?_)
    refine lv_ldc (v := (-100012)) hx hb hown (hts _ wl120) dL_refusesTables_415 ?_
    refine lv_icmp_ne (tgt := 516) hx hb dL_refusesTables_417 rfl (fun hc => absurd hc (by decide)) (fun _ => ?_)
    refine lv_aload_n hx hb dL_refusesTables_420 rfl (lv_at hl 3 rfl) ?_
    refine lv_bipush (v := 12) hx hb dL_refusesTables_421 (by decide) ?_
    refine lv_iconst (v := 0) hx hb dL_refusesTables_423 (by decide) ?_
    refine lv_iconst (v := 0) hx hb dL_refusesTables_424 (by decide) ?_
    refine lv_iload_n hx hb dL_refusesTables_425 rfl (lv_at hl 4 rfl) ?_
    refine lv_iconst (v := 0) hx hb dL_refusesTables_426 (by decide) ?_
    refine lv_iconst (v := 3) hx hb dL_refusesTables_427 (by decide) ?_
    refine al_cSi (rest := [.int 0, .int 0, .int 12, .ref (g.2.2.1 + 0)]) C0 hW (c_L_far (r := 4) (by decide +kernel)) (ls_far hts ⟨Nat.le_of_ble_eq_true rfl, Nat.le_of_ble_eq_true rfl⟩) rfl hl.1 rfl (Nat.le_of_ble_eq_true rfl) ⟨Nat.le_of_ble_eq_true rfl, Nat.le_of_ble_eq_true rfl⟩ dL_refusesTables_428 (fun H locs hW => ?_)
    refine lv_iconst (v := 0) hx hb dL_refusesTables_431 (by decide) ?_
    refine lv_iconst (v := 0) hx hb dL_refusesTables_432 (by decide) ?_
    refine al_cSl (rest := [.int 0, .int 0, .int 12, .ref (g.2.2.1 + 0)]) C0 hW (c_L_three (r := 504500500) (by decide +kernel)) (ls_three hts ⟨Nat.le_of_ble_eq_true rfl, Nat.le_of_ble_eq_true rfl⟩) rfl hl.1 rfl (Nat.le_of_ble_eq_true rfl) ⟨Nat.le_of_ble_eq_true rfl, Nat.le_of_ble_eq_true rfl⟩ dL_refusesTables_433 (fun H locs hW => ?_)
    refine al_cSW (rest := []) C0 hW (c_L_call hfl _ _ _ _ (rq_cell_1 (rowG hpos) (by decide +kernel))) (ls_call hts ⟨Nat.le_of_ble_eq_true rfl, Nat.le_of_ble_eq_true rfl⟩) rfl hl.1 rfl (Nat.le_of_ble_eq_true rfl) ⟨Nat.le_of_ble_eq_true rfl, Nat.le_of_ble_eq_true rfl⟩ dL_refusesTables_436 (fun H locs hW => ?_)
    refine lv_ldc (v := (-100011)) hx hb hown (hts _ wl119) dL_refusesTables_439 ?_
    refine lv_icmp_ne (tgt := 516) hx hb dL_refusesTables_441 rfl (fun hc => absurd hc (by decide)) (fun _ => ?_)
    refine lv_aload_n hx hb dL_refusesTables_444 rfl (lv_at hl 3 rfl) ?_
    refine lv_bipush (v := 15) hx hb dL_refusesTables_445 (by decide) ?_
    refine lv_iconst (v := 0) hx hb dL_refusesTables_447 (by decide) ?_
    refine lv_iconst (v := 0) hx hb dL_refusesTables_448 (by decide) ?_
    refine lv_iload_n hx hb dL_refusesTables_449 rfl (lv_at hl 4 rfl) ?_
    refine lv_iconst (v := 0) hx hb dL_refusesTables_450 (by decide) ?_
    refine lv_iconst (v := 5) hx hb dL_refusesTables_451 (by decide) ?_
    refine al_cSi (rest := [.int 0, .int 0, .int 15, .ref (g.2.2.1 + 0)]) C0 hW (c_L_far (r := 6) (by decide +kernel)) (ls_far hts ⟨Nat.le_of_ble_eq_true rfl, Nat.le_of_ble_eq_true rfl⟩) rfl hl.1 rfl (Nat.le_of_ble_eq_true rfl) ⟨Nat.le_of_ble_eq_true rfl, Nat.le_of_ble_eq_true rfl⟩ dL_refusesTables_452 (fun H locs hW => ?_)
    refine lv_iconst (v := 0) hx hb dL_refusesTables_455 (by decide) ?_
    refine lv_iconst (v := 0) hx hb dL_refusesTables_456 (by decide) ?_
    refine al_cSl (rest := [.int 0, .int 0, .int 15, .ref (g.2.2.1 + 0)]) C0 hW (c_L_three (r := 506500500) (by decide +kernel)) (ls_three hts ⟨Nat.le_of_ble_eq_true rfl, Nat.le_of_ble_eq_true rfl⟩) rfl hl.1 rfl (Nat.le_of_ble_eq_true rfl) ⟨Nat.le_of_ble_eq_true rfl, Nat.le_of_ble_eq_true rfl⟩ dL_refusesTables_457 (fun H locs hW => ?_)
    refine al_cSW (rest := []) C0 hW (c_L_call hfl _ _ _ _ (rq_truth_1 (rowG hpos) (by decide +kernel))) (ls_call hts ⟨Nat.le_of_ble_eq_true rfl, Nat.le_of_ble_eq_true rfl⟩) rfl hl.1 rfl (Nat.le_of_ble_eq_true rfl) ⟨Nat.le_of_ble_eq_true rfl, Nat.le_of_ble_eq_true rfl⟩ dL_refusesTables_460 (fun H locs hW => ?_)
    refine lv_ldc (v := (-100011)) hx hb hown (hts _ wl119) dL_refusesTables_463 ?_
    refine lv_icmp_ne (tgt := 516) hx hb dL_refusesTables_465 rfl (fun hc => absurd hc (by decide)) (fun _ => ?_)
    refine lv_aload_n hx hb dL_refusesTables_468 rfl (lv_at hl 3 rfl) ?_
    refine lv_bipush (v := 22) hx hb dL_refusesTables_469 (by decide) ?_
    refine lv_iconst (v := 0) hx hb dL_refusesTables_471 (by decide) ?_
    refine lv_iconst (v := 0) hx hb dL_refusesTables_472 (by decide) ?_
    refine lv_iload_n hx hb dL_refusesTables_473 rfl (lv_at hl 4 rfl) ?_
    refine lv_iconst (v := 0) hx hb dL_refusesTables_474 (by decide) ?_
    refine lv_iconst (v := 3) hx hb dL_refusesTables_475 (by decide) ?_
    refine al_cSi (rest := [.int 0, .int 0, .int 22, .ref (g.2.2.1 + 0)]) C0 hW (c_L_far (r := 4) (by decide +kernel)) (ls_far hts ⟨Nat.le_of_ble_eq_true rfl, Nat.le_of_ble_eq_true rfl⟩) rfl hl.1 rfl (Nat.le_of_ble_eq_true rfl) ⟨Nat.le_of_ble_eq_true rfl, Nat.le_of_ble_eq_true rfl⟩ dL_refusesTables_476 (fun H locs hW => ?_)
    refine lv_iconst (v := 0) hx hb dL_refusesTables_479 (by decide) ?_
    refine lv_iconst (v := 0) hx hb dL_refusesTables_480 (by decide) ?_
    refine al_cSl (rest := [.int 0, .int 0, .int 22, .ref (g.2.2.1 + 0)]) C0 hW (c_L_three (r := 504500500) (by decide +kernel)) (ls_three hts ⟨Nat.le_of_ble_eq_true rfl, Nat.le_of_ble_eq_true rfl⟩) rfl hl.1 rfl (Nat.le_of_ble_eq_true rfl) ⟨Nat.le_of_ble_eq_true rfl, Nat.le_of_ble_eq_true rfl⟩ dL_refusesTables_481 (fun H locs hW => ?_)
    refine al_cSW (rest := []) C0 hW (c_L_call hfl _ _ _ _ (rq_among_2 hpos (by decide +kernel) (by decide +kernel))) (ls_call hts ⟨Nat.le_of_ble_eq_true rfl, Nat.le_of_ble_eq_true rfl⟩) rfl hl.1 rfl (Nat.le_of_ble_eq_true rfl) ⟨Nat.le_of_ble_eq_true rfl, Nat.le_of_ble_eq_true rfl⟩ dL_refusesTables_484 (fun H locs hW => ?_)
    refine lv_ldc (v := (-100011)) hx hb hown (hts _ wl119) dL_refusesTables_487 ?_
    refine lv_icmp_ne (tgt := 516) hx hb dL_refusesTables_489 rfl (fun hc => absurd hc (by decide)) (fun _ => ?_)
    refine lv_aload_n hx hb dL_refusesTables_492 rfl (lv_at hl 3 rfl) ?_
    refine lv_bipush (v := 22) hx hb dL_refusesTables_493 (by decide) ?_
    refine lv_iconst (v := 0) hx hb dL_refusesTables_495 (by decide) ?_
    refine lv_iload_n hx hb dL_refusesTables_496 rfl (lv_at hl 4 rfl) ?_
    refine lv_iconst (v := 0) hx hb dL_refusesTables_497 (by decide) ?_
    refine lv_iconst (v := 3) hx hb dL_refusesTables_498 (by decide) ?_
    refine al_cSi (rest := [.int 0, .int 22, .ref (g.2.2.1 + 0)]) C0 hW (c_L_wide (r := 4) (by decide +kernel)) (ls_wide hts ⟨Nat.le_of_ble_eq_true rfl, Nat.le_of_ble_eq_true rfl⟩) rfl hl.1 rfl (Nat.le_of_ble_eq_true rfl) ⟨Nat.le_of_ble_eq_true rfl, Nat.le_of_ble_eq_true rfl⟩ dL_refusesTables_499 (fun H locs hW => ?_)
    refine lv_iconst (v := 0) hx hb dL_refusesTables_502 (by decide) ?_
    refine lv_iconst (v := 0) hx hb dL_refusesTables_503 (by decide) ?_
    refine lv_iconst (v := 0) hx hb dL_refusesTables_504 (by decide) ?_
    refine al_cSl (rest := [.int 4, .int 0, .int 22, .ref (g.2.2.1 + 0)]) C0 hW (c_L_three (r := 500500500) (by decide +kernel)) (ls_three hts ⟨Nat.le_of_ble_eq_true rfl, Nat.le_of_ble_eq_true rfl⟩) rfl hl.1 rfl (Nat.le_of_ble_eq_true rfl) ⟨Nat.le_of_ble_eq_true rfl, Nat.le_of_ble_eq_true rfl⟩ dL_refusesTables_505 (fun H locs hW => ?_)
    refine al_cSW (rest := []) C0 hW (c_L_call hfl _ _ _ _ (rq_among_1 hpos (by decide +kernel))) (ls_call hts ⟨Nat.le_of_ble_eq_true rfl, Nat.le_of_ble_eq_true rfl⟩) rfl hl.1 rfl (Nat.le_of_ble_eq_true rfl) ⟨Nat.le_of_ble_eq_true rfl, Nat.le_of_ble_eq_true rfl⟩ dL_refusesTables_508 (fun H locs hW => ?_)
    refine lv_ldc (v := (-100011)) hx hb hown (hts _ wl119) dL_refusesTables_511 ?_
    refine lv_icmp_eq (tgt := 518) hx hb dL_refusesTables_513 rfl (fun _ => ?_) (fun hc => absurd (by decide) hc)
    exact W.widen (Nat.le_of_ble_eq_true rfl) (Nat.le_of_ble_eq_true rfl) (J H locs ls hW hl)
end RT1
