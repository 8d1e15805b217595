/-! refusesFilters, k = 1 -/
section RF1
variable {p : Program} {l : Launch} {e : Env} {Rm : Room} {s : State} {m : MethodId} {args : Array Value} {below : List Frame} {meth : Method} {c : Code} {H : Heap} {locs : List Loc} {cells slots : Nat} {Q : State → Prop}
variable {cc : ByteArray} {pc : Nat} {ls : Array Slot} {rest : List Value} {g : Gam} {σ : Gst} {b : Bool} {Z : Zed} {nL : Nat} {ret : Option FieldType}
set_option maxHeartbeats 4000000 in
theorem c_L_refusesFilters_1 (hfl : l.stackTraces = false) {N : Abs} {S : List Abs} {X : Nat → Option Abs} : Met l yL_refusesFilters (Cond.code yL_refusesFilters cL_refusesFilters 5 (some .boolean) :: GT) rmL_refusesFilters (va_Pc [.ref (g.2.2.1 + 0), .int 1] (PA g (N, S, X, []) b Z)) (QAi g 1 (N, S, X, []) b Z) rmL_refusesFilters.cells rmL_refusesFilters.slots (AA g) := by
  refine al_ofW (lv0 := [(0, .ref (g.2.2.1 + 0)), (1, .int 1)]) (by decide) (Nat.le_of_ble_eq_true rfl) rfl (fun p e s m args below meth c ls H locs C0 hl hW => ?_)
  have C0 : CX g p s m args meth c RL cL_refusesFilters 5 (some .boolean) := C0
  have hx := C0.1; have hb := C0.2.1; have hown := C0.2.2.2.2.1; have hts := C0.2.2.2.2.2.1
  refine lv_iload_n hx hb dL_refusesFilters_0 rfl (lv_at hl 1 rfl) ?_
  refine lv_iconst (v := 0) hx hb dL_refusesFilters_1 (by decide) ?_
  refine lv_iconst (v := 1) hx hb dL_refusesFilters_2 (by decide) ?_
  refine al_cSi (rest := []) C0 hW (c_L_wide (r := 2) (by decide +kernel)) (ls_wide hts ⟨Nat.le_of_ble_eq_true rfl, Nat.le_of_ble_eq_true rfl⟩) rfl hl.1 rfl (Nat.le_of_ble_eq_true rfl) ⟨Nat.le_of_ble_eq_true rfl, Nat.le_of_ble_eq_true rfl⟩ dL_refusesFilters_3 (fun H locs hW => ?_)
  refine lv_istore_n (lv' := [(2, .int 2), (0, .ref (g.2.2.1 + 0)), (1, .int 1)]) hx hb dL_refusesFilters_6 rfl hl (Nat.le_of_ble_eq_true rfl) rfl (fun ls hl => ?_)
  refine lv_iload_n hx hb dL_refusesFilters_7 rfl (lv_at hl 2 rfl) ?_
  refine lv_iconst (v := 0) hx hb dL_refusesFilters_8 (by decide) ?_
  refine lv_iconst (v := 5) hx hb dL_refusesFilters_9 (by decide) ?_
  refine al_cSi (rest := []) C0 hW (c_L_wide (r := 6) (by decide +kernel)) (ls_wide hts ⟨Nat.le_of_ble_eq_true rfl, Nat.le_of_ble_eq_true rfl⟩) rfl hl.1 rfl (Nat.le_of_ble_eq_true rfl) ⟨Nat.le_of_ble_eq_true rfl, Nat.le_of_ble_eq_true rfl⟩ dL_refusesFilters_10 (fun H locs hW => ?_)
  refine lv_istore_n (lv' := [(3, .int 6), (2, .int 2), (0, .ref (g.2.2.1 + 0)), (1, .int 1)]) hx hb dL_refusesFilters_13 rfl hl (Nat.le_of_ble_eq_true rfl) rfl (fun ls hl => ?_)
  refine lv_iload_n hx hb dL_refusesFilters_14 rfl (lv_at hl 3 rfl) ?_
  refine lv_iconst (v := 0) hx hb dL_refusesFilters_15 (by decide) ?_
  refine lv_iconst (v := 5) hx hb dL_refusesFilters_16 (by decide) ?_
  refine al_cSi (rest := []) C0 hW (c_L_far (r := 6) (by decide +kernel)) (ls_far hts ⟨Nat.le_of_ble_eq_true rfl, Nat.le_of_ble_eq_true rfl⟩) rfl hl.1 rfl (Nat.le_of_ble_eq_true rfl) ⟨Nat.le_of_ble_eq_true rfl, Nat.le_of_ble_eq_true rfl⟩ dL_refusesFilters_17 (fun H locs hW => ?_)
  refine lv_istore (lv' := [(4, .int 6), (3, .int 6), (2, .int 2), (0, .ref (g.2.2.1 + 0)), (1, .int 1)]) hx hb dL_refusesFilters_20 hl (Nat.le_of_ble_eq_true rfl) rfl (fun ls hl => ?_)
  refine lv_aload_n hx hb dL_refusesFilters_22 rfl (lv_at hl 3 rfl) ?_
  refine lv_iconst (v := 3) hx hb dL_refusesFilters_23 (by decide) ?_
  refine lv_iload_n hx hb dL_refusesFilters_24 rfl (lv_at hl 1 rfl) ?_
  refine lv_iconst (v := 0) hx hb dL_refusesFilters_25 (by decide) ?_
  refine lv_lconst (v := 0) hx hb dL_refusesFilters_26 rfl ?_
  refine al_cSW (rest := []) C0 hW (c_L_call hfl _ _ _ _ (rq_define_0 (by decide +kernel))) (ls_call hts ⟨Nat.le_of_ble_eq_true rfl, Nat.le_of_ble_eq_true rfl⟩) rfl hl.1 rfl (Nat.le_of_ble_eq_true rfl) ⟨Nat.le_of_ble_eq_true rfl, Nat.le_of_ble_eq_true rfl⟩ dL_refusesFilters_27 (fun H locs hW => ?_)
  refine lv_ldc (v := (-100011)) hx hb hown (hts _ wl119) dL_refusesFilters_30 ?_
  refine lv_icmp_ne (tgt := 349) hx hb dL_refusesFilters_32 rfl (fun hc => absurd hc (by decide)) (fun _ => ?_)
  refine lv_aload_n hx hb dL_refusesFilters_35 rfl (lv_at hl 3 rfl) ?_
  refine lv_iconst (v := 3) hx hb dL_refusesFilters_36 (by decide) ?_
  refine lv_iconst (v := 5) hx hb dL_refusesFilters_37 (by decide) ?_
  refine lv_iconst (v := 0) hx hb dL_refusesFilters_38 (by decide) ?_
  refine lv_lconst (v := 0) hx hb dL_refusesFilters_39 rfl ?_
  refine al_cSW (rest := []) C0 hW (c_L_call hfl _ _ _ _ (rq_define_1 (by decide +kernel))) (ls_call hts ⟨Nat.le_of_ble_eq_true rfl, Nat.le_of_ble_eq_true rfl⟩) rfl hl.1 rfl (Nat.le_of_ble_eq_true rfl) ⟨Nat.le_of_ble_eq_true rfl, Nat.le_of_ble_eq_true rfl⟩ dL_refusesFilters_40 (fun H locs hW => ?_)
  refine lv_ldc (v := (-100012)) hx hb hown (hts _ wl120) dL_refusesFilters_43 ?_
  refine lv_icmp_ne (tgt := 349) hx hb dL_refusesFilters_45 rfl (fun hc => absurd hc (by decide)) (fun _ => ?_)
  refine lv_aload_n hx hb dL_refusesFilters_48 rfl (lv_at hl 3 rfl) ?_
  refine lv_iconst (v := 4) hx hb dL_refusesFilters_49 (by decide) ?_
  refine lv_iload_n hx hb dL_refusesFilters_50 rfl (lv_at hl 1 rfl) ?_
  refine lv_iconst (v := 0) hx hb dL_refusesFilters_51 (by decide) ?_
  refine lv_iconst (v := 0) hx hb dL_refusesFilters_52 (by decide) ?_
  refine lv_bipush (v := 9) hx hb dL_refusesFilters_53 (by decide) ?_
  refine lv_iconst (v := 0) hx hb dL_refusesFilters_55 (by decide) ?_
  refine al_cSl (rest := [.int 0, .int 6, .int 4, .ref (g.2.2.1 + 0)]) C0 hW (c_L_three (r := 500509500) (by decide +kernel)) (ls_three hts ⟨Nat.le_of_ble_eq_true rfl, Nat.le_of_ble_eq_true rfl⟩) rfl hl.1 rfl (Nat.le_of_ble_eq_true rfl) ⟨Nat.le_of_ble_eq_true rfl, Nat.le_of_ble_eq_true rfl⟩ dL_refusesFilters_56 (fun H locs hW => ?_)
  refine al_cSW (rest := []) C0 hW (c_L_call hfl _ _ _ _ (rq_combine_0 (by decide +kernel))) (ls_call hts ⟨Nat.le_of_ble_eq_true rfl, Nat.le_of_ble_eq_true rfl⟩) rfl hl.1 rfl (Nat.le_of_ble_eq_true rfl) ⟨Nat.le_of_ble_eq_true rfl, Nat.le_of_ble_eq_true rfl⟩ dL_refusesFilters_59 (fun H locs hW => ?_)
  refine lv_ldc (v := (-100011)) hx hb hown (hts _ wl119) dL_refusesFilters_62 ?_
  refine lv_icmp_ne (tgt := 349) hx hb dL_refusesFilters_64 rfl (fun hc => absurd hc (by decide)) (fun _ => ?_)
  refine lv_aload_n hx hb dL_refusesFilters_67 rfl (lv_at hl 3 rfl) ?_
  refine lv_iconst (v := 4) hx hb dL_refusesFilters_68 (by decide) ?_
  refine lv_iconst (v := 0) hx hb dL_refusesFilters_69 (by decide) ?_
  refine lv_iload_n hx hb dL_refusesFilters_70 rfl (lv_at hl 1 rfl) ?_
  refine lv_iconst (v := 0) hx hb dL_refusesFilters_71 (by decide) ?_
  refine lv_bipush (v := 9) hx hb dL_refusesFilters_72 (by decide) ?_
  refine lv_iconst (v := 0) hx hb dL_refusesFilters_74 (by decide) ?_
  refine al_cSl (rest := [.int 6, .int 0, .int 4, .ref (g.2.2.1 + 0)]) C0 hW (c_L_three (r := 500509500) (by decide +kernel)) (ls_three hts ⟨Nat.le_of_ble_eq_true rfl, Nat.le_of_ble_eq_true rfl⟩) rfl hl.1 rfl (Nat.le_of_ble_eq_true rfl) ⟨Nat.le_of_ble_eq_true rfl, Nat.le_of_ble_eq_true rfl⟩ dL_refusesFilters_75 (fun H locs hW => ?_)
  refine al_cSW (rest := []) C0 hW (c_L_call hfl _ _ _ _ (rq_combine_1 (by decide +kernel) (by decide +kernel))) (ls_call hts ⟨Nat.le_of_ble_eq_true rfl, Nat.le_of_ble_eq_true rfl⟩) rfl hl.1 rfl (Nat.le_of_ble_eq_true rfl) ⟨Nat.le_of_ble_eq_true rfl, Nat.le_of_ble_eq_true rfl⟩ dL_refusesFilters_78 (fun H locs hW => ?_)
  refine lv_ldc (v := (-100011)) hx hb hown (hts _ wl119) dL_refusesFilters_81 ?_
  refine lv_icmp_ne (tgt := 349) hx hb dL_refusesFilters_83 rfl (fun hc => absurd hc (by decide)) (fun _ => ?_)
  refine lv_aload_n hx hb dL_refusesFilters_86 rfl (lv_at hl 3 rfl) ?_
  refine lv_iconst (v := 4) hx hb dL_refusesFilters_87 (by decide) ?_
  refine lv_iconst (v := 0) hx hb dL_refusesFilters_88 (by decide) ?_
  refine lv_iconst (v := 0) hx hb dL_refusesFilters_89 (by decide) ?_
  refine lv_iload hx hb dL_refusesFilters_90 (lv_at hl 0 rfl) ?_
  refine lv_iconst (v := 0) hx hb dL_refusesFilters_92 (by decide) ?_
  refine lv_iconst (v := 0) hx hb dL_refusesFilters_93 (by decide) ?_
  refine al_cSl (rest := [.int 0, .int 0, .int 4, .ref (g.2.2.1 + 0)]) C0 hW (c_L_three (r := 506500500) (by decide +kernel)) (ls_three hts ⟨Nat.le_of_ble_eq_true rfl, Nat.le_of_ble_eq_true rfl⟩) rfl hl.1 rfl (Nat.le_of_ble_eq_true rfl) ⟨Nat.le_of_ble_eq_true rfl, Nat.le_of_ble_eq_true rfl⟩ dL_refusesFilters_94 (fun H locs hW => ?_)
  refine al_cSW (rest := []) C0 hW (c_L_call hfl _ _ _ _ (rq_combine_2 (by decide +kernel) (by decide +kernel) (by decide +kernel))) (ls_call hts ⟨Nat.le_of_ble_eq_true rfl, Nat.le_of_ble_eq_true rfl⟩) rfl hl.1 rfl (Nat.le_of_ble_eq_true rfl) ⟨Nat.le_of_ble_eq_true rfl, Nat.le_of_ble_eq_true rfl⟩ dL_refusesFilters_97 (fun H locs hW => ?_)
  refine lv_ldc (v := (-100011)) hx hb hown (hts _ wl119) dL_refusesFilters_100 ?_
  refine lv_icmp_ne (tgt := 349) hx hb dL_refusesFilters_102 rfl (fun hc => absurd hc (by decide)) (fun _ => ?_)
  refine lv_aload_n hx hb dL_refusesFilters_105 rfl (lv_at hl 3 rfl) ?_
  refine lv_iconst (v := 4) hx hb dL_refusesFilters_106 (by decide) ?_
  refine lv_iconst (v := 0) hx hb dL_refusesFilters_107 (by decide) ?_
  refine lv_iconst (v := 0) hx hb dL_refusesFilters_108 (by decide) ?_
  refine lv_iconst (v := 0) hx hb dL_refusesFilters_109 (by decide) ?_
  refine lv_iload_n hx hb dL_refusesFilters_110 rfl (lv_at hl 4 rfl) ?_
  refine lv_iconst (v := 0) hx hb dL_refusesFilters_111 (by decide) ?_
  refine lv_iconst (v := 2) hx hb dL_refusesFilters_112 (by decide) ?_
  refine al_cSi (rest := [.int 0, .int 0, .int 0, .int 4, .ref (g.2.2.1 + 0)]) C0 hW (c_L_far (r := 3) (by decide +kernel)) (ls_far hts ⟨Nat.le_of_ble_eq_true rfl, Nat.le_of_ble_eq_true rfl⟩) rfl hl.1 rfl (Nat.le_of_ble_eq_true rfl) ⟨Nat.le_of_ble_eq_true rfl, Nat.le_of_ble_eq_true rfl⟩ dL_refusesFilters_113 (fun H locs hW => ?_)
  refine lv_iconst (v := 0) hx hb dL_refusesFilters_116 (by decide) ?_
  refine al_cSl (rest := [.int 0, .int 0, .int 4, .ref (g.2.2.1 + 0)]) C0 hW (c_L_three (r := 500503500) (by decide +kernel)) (ls_three hts ⟨Nat.le_of_ble_eq_true rfl, Nat.le_of_ble_eq_true rfl⟩) rfl hl.1 rfl (Nat.le_of_ble_eq_true rfl) ⟨Nat.le_of_ble_eq_true rfl, Nat.le_of_ble_eq_true rfl⟩ dL_refusesFilters_117 (fun H locs hW => ?_)
  refine al_cSW (rest := []) C0 hW (c_L_call hfl _ _ _ _ (rq_combine_3 (by decide +kernel) (by decide +kernel) (by decide +kernel) (by decide +kernel))) (ls_call hts ⟨Nat.le_of_ble_eq_true rfl, Nat.le_of_ble_eq_true rfl⟩) rfl hl.1 rfl (Nat.le_of_ble_eq_true rfl) ⟨Nat.le_of_ble_eq_true rfl, Nat.le_of_ble_eq_true rfl⟩ dL_refusesFilters_120 (fun H locs hW => ?_)
  refine lv_ldc (v := (-100012)) hx hb hown (hts _ wl120) dL_refusesFilters_123 ?_
  refine lv_icmp_ne (tgt := 349) hx hb dL_refusesFilters_125 rfl (fun hc => absurd hc (by decide)) (fun _ => ?_)
  refine lv_aload_n hx hb dL_refusesFilters_128 rfl (lv_at hl 3 rfl) ?_
  refine lv_iconst (v := 5) hx hb dL_refusesFilters_129 (by decide) ?_
  refine lv_iload_n hx hb dL_refusesFilters_130 rfl (lv_at hl 2 rfl) ?_
  refine lv_iconst (v := 0) hx hb dL_refusesFilters_131 (by decide) ?_
  refine lv_lconst (v := 0) hx hb dL_refusesFilters_132 rfl ?_
  refine al_cSW (rest := []) C0 hW (c_L_call hfl _ _ _ _ (rq_check_0 (by decide +kernel))) (ls_call hts ⟨Nat.le_of_ble_eq_true rfl, Nat.le_of_ble_eq_true rfl⟩) rfl hl.1 rfl (Nat.le_of_ble_eq_true rfl) ⟨Nat.le_of_ble_eq_true rfl, Nat.le_of_ble_eq_true rfl⟩ dL_refusesFilters_133 (fun H locs hW => ?_)
  refine lv_ldc (v := (-100011)) hx hb hown (hts _ wl119) dL_refusesFilters_136 ?_
  refine lv_icmp_ne (tgt := 349) hx hb dL_refusesFilters_138 rfl (fun hc => absurd hc (by decide)) (fun _ => ?_)
  refine lv_aload_n hx hb dL_refusesFilters_141 rfl (lv_at hl 3 rfl) ?_
  refine lv_iconst (v := 5) hx hb dL_refusesFilters_142 (by decide) ?_
  refine lv_iconst (v := 0) hx hb dL_refusesFilters_143 (by decide) ?_
  refine lv_iload_n hx hb dL_refusesFilters_144 rfl (lv_at hl 4 rfl) ?_
  refine lv_if_ne (tgt := 152) hx hb dL_refusesFilters_145 rfl (fun _ => ?_) (fun hc => absurd hc (by decide))
  refine lv_iload_n hx hb dL_refusesFilters_152 rfl (lv_at hl 4 rfl) ?_
  refine lv_iconst (v := 1) hx hb dL_refusesFilters_153 (by decide) ?_
  refine lv_icmp_ne (tgt := 162) hx hb dL_refusesFilters_154 rfl (fun hc => absurd hc (by decide)) (fun _ => ?_)
  refine lv_bipush (v := 6) hx hb dL_refusesFilters_157 (by decide) ?_
  refine lv_goto (tgt := 174) hx hb dL_refusesFilters_159 rfl ?_
  refine lv_lconst (v := 0) hx hb dL_refusesFilters_174 rfl ?_
  refine al_cSW (rest := []) C0 hW (c_L_call hfl _ _ _ _ (rq_check_1 (by decide +kernel) (by decide +kernel) (by decide +kernel))) (ls_call hts ⟨Nat.le_of_ble_eq_true rfl, Nat.le_of_ble_eq_true rfl⟩) rfl hl.1 rfl (Nat.le_of_ble_eq_true rfl) ⟨Nat.le_of_ble_eq_true rfl, Nat.le_of_ble_eq_true rfl⟩ dL_refusesFilters_175 (fun H locs hW => ?_)
  refine lv_ldc (v := (-100011)) hx hb hown (hts _ wl119) dL_refusesFilters_178 ?_
  refine lv_icmp_ne (tgt := 349) hx hb dL_refusesFilters_180 rfl (fun hc => absurd hc (by decide)) (fun _ => ?_)
  refine lv_aload_n hx hb dL_refusesFilters_183 rfl (lv_at hl 3 rfl) ?_
  refine lv_bipush (v := 6) hx hb dL_refusesFilters_184 (by decide) ?_
  refine lv_iload_n hx hb dL_refusesFilters_186 rfl (lv_at hl 2 rfl) ?_
  refine lv_iconst (v := 0) hx hb dL_refusesFilters_187 (by decide) ?_
  refine lv_lconst (v := 0) hx hb dL_refusesFilters_188 rfl ?_
  refine al_cSW (rest := []) C0 hW (c_L_call hfl _ _ _ _ (rq_remove_0 (by decide +kernel))) (ls_call hts ⟨Nat.le_of_ble_eq_true rfl, Nat.le_of_ble_eq_true rfl⟩) rfl hl.1 rfl (Nat.le_of_ble_eq_true rfl) ⟨Nat.le_of_ble_eq_true rfl, Nat.le_of_ble_eq_true rfl⟩ dL_refusesFilters_189 (fun H locs hW => ?_)
  refine lv_ldc (v := (-100011)) hx hb hown (hts _ wl119) dL_refusesFilters_192 ?_
  refine lv_icmp_ne (tgt := 349) hx hb dL_refusesFilters_194 rfl (fun hc => absurd hc (by decide)) (fun _ => ?_)
  refine lv_aload_n hx hb dL_refusesFilters_197 rfl (lv_at hl 3 rfl) ?_
  refine lv_bipush (v := 6) hx hb dL_refusesFilters_198 (by decide) ?_
  refine lv_iconst (v := 0) hx hb dL_refusesFilters_200 (by decide) ?_
  refine lv_iload_n hx hb dL_refusesFilters_201 rfl (lv_at hl 1 rfl) ?_
  refine lv_lconst (v := 0) hx hb dL_refusesFilters_202 rfl ?_
  refine al_cSW (rest := []) C0 hW (c_L_call hfl _ _ _ _ (rq_remove_1 (by decide +kernel) (by decide +kernel))) (ls_call hts ⟨Nat.le_of_ble_eq_true rfl, Nat.le_of_ble_eq_true rfl⟩) rfl hl.1 rfl (Nat.le_of_ble_eq_true rfl) ⟨Nat.le_of_ble_eq_true rfl, Nat.le_of_ble_eq_true rfl⟩ dL_refusesFilters_203 (fun H locs hW => ?_)
  refine lv_ldc (v := (-100011)) hx hb hown (hts _ wl119) dL_refusesFilters_206 ?_
  refine lv_icmp_ne (tgt := 349) hx hb dL_refusesFilters_208 rfl (fun hc => absurd hc (by decide)) (fun _ => ?_)
  refine lv_aload_n hx hb dL_refusesFilters_211 rfl (lv_at hl 3 rfl) ?_
  refine lv_bipush (v := 7) hx hb dL_refusesFilters_212 (by decide) ?_
  refine lv_iload_n hx hb dL_refusesFilters_214 rfl (lv_at hl 2 rfl) ?_
  refine lv_iconst (v := 0) hx hb dL_refusesFilters_215 (by decide) ?_
  refine lv_lconst (v := 0) hx hb dL_refusesFilters_216 rfl ?_
  refine al_cSW (rest := []) C0 hW (c_L_call hfl _ _ _ _ (rq_update_0 (by decide +kernel))) (ls_call hts ⟨Nat.le_of_ble_eq_true rfl, Nat.le_of_ble_eq_true rfl⟩) rfl hl.1 rfl (Nat.le_of_ble_eq_true rfl) ⟨Nat.le_of_ble_eq_true rfl, Nat.le_of_ble_eq_true rfl⟩ dL_refusesFilters_217 (fun H locs hW => ?_)
  refine lv_ldc (v := (-100011)) hx hb hown (hts _ wl119) dL_refusesFilters_220 ?_
  refine lv_icmp_ne (tgt := 349) hx hb dL_refusesFilters_222 rfl (fun hc => absurd hc (by decide)) (fun _ => ?_)
  refine lv_aload_n hx hb dL_refusesFilters_225 rfl (lv_at hl 3 rfl) ?_
  refine lv_bipush (v := 7) hx hb dL_refusesFilters_226 (by decide) ?_
  refine lv_iconst (v := 0) hx hb dL_refusesFilters_228 (by decide) ?_
  refine lv_iload_n hx hb dL_refusesFilters_229 rfl (lv_at hl 1 rfl) ?_
  refine lv_lconst (v := 0) hx hb dL_refusesFilters_230 rfl ?_
  refine al_cSW (rest := []) C0 hW (c_L_call hfl _ _ _ _ (rq_update_1 (by decide +kernel) (by decide +kernel))) (ls_call hts ⟨Nat.le_of_ble_eq_true rfl, Nat.le_of_ble_eq_true rfl⟩) rfl hl.1 rfl (Nat.le_of_ble_eq_true rfl) ⟨Nat.le_of_ble_eq_true rfl, Nat.le_of_ble_eq_true rfl⟩ dL_refusesFilters_231 (fun H locs hW => ?_)
  refine lv_ldc (v := (-100011)) hx hb hown (hts _ wl119) dL_refusesFilters_234 ?_
  refine lv_icmp_ne (tgt := 349) hx hb dL_refusesFilters_236 rfl (fun hc => absurd hc (by decide)) (fun _ => ?_)
  refine lv_aload_n hx hb dL_refusesFilters_239 rfl (lv_at hl 3 rfl) ?_
  refine lv_bipush (v := 7) hx hb dL_refusesFilters_240 (by decide) ?_
  refine lv_iconst (v := 0) hx hb dL_refusesFilters_242 (by decide) ?_
  refine lv_iconst (v := 5) hx hb dL_refusesFilters_243 (by decide) ?_
  refine lv_iload_n hx hb dL_refusesFilters_244 rfl (lv_at hl 4 rfl) ?_
  refine lv_iconst (v := 0) hx hb dL_refusesFilters_245 (by decide) ?_
  refine lv_iconst (v := 3) hx hb dL_refusesFilters_246 (by decide) ?_
  refine al_cSi (rest := [.int 5, .int 0, .int 7, .ref (g.2.2.1 + 0)]) C0 hW (c_L_far (r := 4) (by decide +kernel)) (ls_far hts ⟨Nat.le_of_ble_eq_true rfl, Nat.le_of_ble_eq_true rfl⟩) rfl hl.1 rfl (Nat.le_of_ble_eq_true rfl) ⟨Nat.le_of_ble_eq_true rfl, Nat.le_of_ble_eq_true rfl⟩ dL_refusesFilters_247 (fun H locs hW => ?_)
  refine lv_sipush (v := 400) hx hb dL_refusesFilters_250 (by decide) ?_
  refine lv_iconst (v := 0) hx hb dL_refusesFilters_253 (by decide) ?_
  refine al_cSl (rest := [.int 5, .int 0, .int 7, .ref (g.2.2.1 + 0)]) C0 hW (c_L_three (r := 504900500) (by decide +kernel)) (ls_three hts ⟨Nat.le_of_ble_eq_true rfl, Nat.le_of_ble_eq_true rfl⟩) rfl hl.1 rfl (Nat.le_of_ble_eq_true rfl) ⟨Nat.le_of_ble_eq_true rfl, Nat.le_of_ble_eq_true rfl⟩ dL_refusesFilters_254 (fun H locs hW => ?_)
  refine al_cSW (rest := []) C0 hW (c_L_call hfl _ _ _ _ (rq_update_2 (by decide +kernel) (by decide +kernel) (by decide +kernel))) (ls_call hts ⟨Nat.le_of_ble_eq_true rfl, Nat.le_of_ble_eq_true rfl⟩) rfl hl.1 rfl (Nat.le_of_ble_eq_true rfl) ⟨Nat.le_of_ble_eq_true rfl, Nat.le_of_ble_eq_true rfl⟩ dL_refusesFilters_257 (fun H locs hW => ?_)
  refine lv_ldc (v := (-100011)) hx hb hown (hts _ wl119) dL_refusesFilters_260 ?_
  refine lv_icmp_ne (tgt := 349) hx hb dL_refusesFilters_262 rfl (fun hc => absurd hc (by decide)) (fun _ => ?_)
  refine lv_aload_n hx hb dL_refusesFilters_265 rfl (lv_at hl 3 rfl) ?_
  refine lv_bipush (v := 7) hx hb dL_refusesFilters_266 (by decide) ?_
  refine lv_iconst (v := 0) hx hb dL_refusesFilters_268 (by decide) ?_
  refine lv_iconst (v := 5) hx hb dL_refusesFilters_269 (by decide) ?_
  refine lv_iconst (v := 0) hx hb dL_refusesFilters_270 (by decide) ?_
  refine lv_iload_n hx hb dL_refusesFilters_271 rfl (lv_at hl 4 rfl) ?_
  refine lv_iconst (v := (-1)) hx hb dL_refusesFilters_272 (by decide) ?_
  refine lv_bipush (v := 99) hx hb dL_refusesFilters_273 (by decide) ?_
  refine al_cSi (rest := [.int 0, .int 5, .int 0, .int 7, .ref (g.2.2.1 + 0)]) C0 hW (c_L_far (r := 100) (by decide +kernel)) (ls_far hts ⟨Nat.le_of_ble_eq_true rfl, Nat.le_of_ble_eq_true rfl⟩) rfl hl.1 rfl (Nat.le_of_ble_eq_true rfl) ⟨Nat.le_of_ble_eq_true rfl, Nat.le_of_ble_eq_true rfl⟩ dL_refusesFilters_275 (fun H locs hW => ?_)
  refine lv_iconst (v := 0) hx hb dL_refusesFilters_278 (by decide) ?_
  refine al_cSl (rest := [.int 5, .int 0, .int 7, .ref (g.2.2.1 + 0)]) C0 hW (c_L_three (r := 500600500) (by decide +kernel)) (ls_three hts ⟨Nat.le_of_ble_eq_true rfl, Nat.le_of_ble_eq_true rfl⟩) rfl hl.1 rfl (Nat.le_of_ble_eq_true rfl) ⟨Nat.le_of_ble_eq_true rfl, Nat.le_of_ble_eq_true rfl⟩ dL_refusesFilters_279 (fun H locs hW => ?_)
  refine al_cSW (rest := []) C0 hW (c_L_call hfl _ _ _ _ (rq_update_3 (by decide +kernel) (by decide +kernel) (by decide +kernel) (by decide +kernel))) (ls_call hts ⟨Nat.le_of_ble_eq_true rfl, Nat.le_of_ble_eq_true rfl⟩) rfl hl.1 rfl (Nat.le_of_ble_eq_true rfl) ⟨Nat.le_of_ble_eq_true rfl, Nat.le_of_ble_eq_true rfl⟩ dL_refusesFilters_282 (fun H locs hW => ?_)
  refine lv_ldc (v := (-100012)) hx hb hown (hts _ wl120) dL_refusesFilters_285 ?_
  refine lv_icmp_ne (tgt := 349) hx hb dL_refusesFilters_287 rfl (fun hc => absurd hc (by decide)) (fun _ => ?_)
  refine lv_aload_n hx hb dL_refusesFilters_290 rfl (lv_at hl 3 rfl) ?_
  refine lv_bipush (v := 8) hx hb dL_refusesFilters_291 (by decide) ?_
  refine lv_iload_n hx hb dL_refusesFilters_293 rfl (lv_at hl 4 rfl) ?_
  refine lv_bipush (v := 33) hx hb dL_refusesFilters_294 (by decide) ?_
  refine lv_bipush (v := 126) hx hb dL_refusesFilters_296 (by decide) ?_
  refine al_cSi (rest := [.int 8, .ref (g.2.2.1 + 0)]) C0 hW (c_L_wide (r := 127) (by decide +kernel)) (ls_wide hts ⟨Nat.le_of_ble_eq_true rfl, Nat.le_of_ble_eq_true rfl⟩) rfl hl.1 rfl (Nat.le_of_ble_eq_true rfl) ⟨Nat.le_of_ble_eq_true rfl, Nat.le_of_ble_eq_true rfl⟩ dL_refusesFilters_298 (fun H locs hW => ?_)
  refine lv_iconst (v := 0) hx hb dL_refusesFilters_301 (by decide) ?_
  refine lv_lconst (v := 0) hx hb dL_refusesFilters_302 rfl ?_
  refine al_cSW (rest := []) C0 hW (c_L_call hfl _ _ _ _ (rq_append_0 (by decide +kernel))) (ls_call hts ⟨Nat.le_of_ble_eq_true rfl, Nat.le_of_ble_eq_true rfl⟩) rfl hl.1 rfl (Nat.le_of_ble_eq_true rfl) ⟨Nat.le_of_ble_eq_true rfl, Nat.le_of_ble_eq_true rfl⟩ dL_refusesFilters_303 (fun H locs hW => ?_)
  refine lv_ldc (v := (-100012)) hx hb hown (hts _ wl120) dL_refusesFilters_306 ?_
  refine lv_icmp_ne (tgt := 349) hx hb dL_refusesFilters_308 rfl (fun hc => absurd hc (by decide)) (fun _ => ?_)
  refine lv_aload_n hx hb dL_refusesFilters_311 rfl (lv_at hl 3 rfl) ?_
  refine lv_bipush (v := 10) hx hb dL_refusesFilters_312 (by decide) ?_
  refine lv_iload_n hx hb dL_refusesFilters_314 rfl (lv_at hl 4 rfl) ?_
  refine lv_iconst (v := 0) hx hb dL_refusesFilters_315 (by decide) ?_
  refine lv_iconst (v := 1) hx hb dL_refusesFilters_316 (by decide) ?_
  refine al_cSi (rest := [.int 10, .ref (g.2.2.1 + 0)]) C0 hW (c_L_wide (r := 2) (by decide +kernel)) (ls_wide hts ⟨Nat.le_of_ble_eq_true rfl, Nat.le_of_ble_eq_true rfl⟩) rfl hl.1 rfl (Nat.le_of_ble_eq_true rfl) ⟨Nat.le_of_ble_eq_true rfl, Nat.le_of_ble_eq_true rfl⟩ dL_refusesFilters_317 (fun H locs hW => ?_)
  refine lv_iconst (v := 0) hx hb dL_refusesFilters_320 (by decide) ?_
  refine lv_lconst (v := 0) hx hb dL_refusesFilters_321 rfl ?_
  refine al_cSW (rest := []) C0 hW (c_L_call hfl _ _ _ _ (rq_keep_0 (by decide +kernel))) (ls_call hts ⟨Nat.le_of_ble_eq_true rfl, Nat.le_of_ble_eq_true rfl⟩) rfl hl.1 rfl (Nat.le_of_ble_eq_true rfl) ⟨Nat.le_of_ble_eq_true rfl, Nat.le_of_ble_eq_true rfl⟩ dL_refusesFilters_322 (fun H locs hW => ?_)
  refine lv_ldc (v := (-100012)) hx hb hown (hts _ wl120) dL_refusesFilters_325 ?_
  refine lv_icmp_ne (tgt := 349) hx hb dL_refusesFilters_327 rfl (fun hc => absurd hc (by decide)) (fun _ => ?_)
  refine lv_aload_n hx hb dL_refusesFilters_330 rfl (lv_at hl 3 rfl) ?_
  refine lv_bipush (v := 11) hx hb dL_refusesFilters_331 (by decide) ?_
  refine lv_iload_n hx hb dL_refusesFilters_333 rfl (lv_at hl 4 rfl) ?_
  refine lv_iconst (v := 0) hx hb dL_refusesFilters_334 (by decide) ?_
  refine lv_iconst (v := 1) hx hb dL_refusesFilters_335 (by decide) ?_
  refine al_cSi (rest := [.int 11, .ref (g.2.2.1 + 0)]) C0 hW (c_L_wide (r := 2) (by decide +kernel)) (ls_wide hts ⟨Nat.le_of_ble_eq_true rfl, Nat.le_of_ble_eq_true rfl⟩) rfl hl.1 rfl (Nat.le_of_ble_eq_true rfl) ⟨Nat.le_of_ble_eq_true rfl, Nat.le_of_ble_eq_true rfl⟩ dL_refusesFilters_336 (fun H locs hW => ?_)
  refine lv_iconst (v := 0) hx hb dL_refusesFilters_339 (by decide) ?_
  refine lv_lconst (v := 0) hx hb dL_refusesFilters_340 rfl ?_
  refine al_cSW (rest := []) C0 hW (c_L_call hfl _ _ _ _ (rq_goBack_0 (by decide +kernel))) (ls_call hts ⟨Nat.le_of_ble_eq_true rfl, Nat.le_of_ble_eq_true rfl⟩) rfl hl.1 rfl (Nat.le_of_ble_eq_true rfl) ⟨Nat.le_of_ble_eq_true rfl, Nat.le_of_ble_eq_true rfl⟩ dL_refusesFilters_341 (fun H locs hW => ?_)
  refine lv_ldc (v := (-100012)) hx hb hown (hts _ wl120) dL_refusesFilters_344 ?_
  refine lv_icmp_eq (tgt := 351) hx hb dL_refusesFilters_346 rfl (fun _ => ?_) (fun hc => absurd (by decide) hc)
  refine lv_aload_n hx hb dL_refusesFilters_351 rfl (lv_at hl 3 rfl) ?_
  refine lv_bipush (v := 15) hx hb dL_refusesFilters_352 (by decide) ?_
  refine lv_iload_n hx hb dL_refusesFilters_354 rfl (lv_at hl 2 rfl) ?_
  refine lv_iconst (v := 0) hx hb dL_refusesFilters_355 (by decide) ?_
  refine lv_iconst (v := 0) hx hb dL_refusesFilters_356 (by decide) ?_
  refine lv_iconst (v := 0) hx hb dL_refusesFilters_357 (by decide) ?_
  refine lv_iconst (v := 0) hx hb dL_refusesFilters_358 (by decide) ?_
  refine al_cSl (rest := [.int 0, .int 2, .int 15, .ref (g.2.2.1 + 0)]) C0 hW (c_L_three (r := 500500500) (by decide +kernel)) (ls_three hts ⟨Nat.le_of_ble_eq_true rfl, Nat.le_of_ble_eq_true rfl⟩) rfl hl.1 rfl (Nat.le_of_ble_eq_true rfl) ⟨Nat.le_of_ble_eq_true rfl, Nat.le_of_ble_eq_true rfl⟩ dL_refusesFilters_359 (fun H locs hW => ?_)
  refine al_cSW (rest := []) C0 hW (c_L_call hfl _ _ _ _ (rq_truth_0 (rowA (by decide +kernel)))) (ls_call hts ⟨Nat.le_of_ble_eq_true rfl, Nat.le_of_ble_eq_true rfl⟩) rfl hl.1 rfl (Nat.le_of_ble_eq_true rfl) ⟨Nat.le_of_ble_eq_true rfl, Nat.le_of_ble_eq_true rfl⟩ dL_refusesFilters_362 (fun H locs hW => ?_)
  refine lv_ldc (v := (-100011)) hx hb hown (hts _ wl119) dL_refusesFilters_365 ?_
  refine lv_icmp_ne (tgt := 687) hx hb dL_refusesFilters_367 rfl (fun hc => absurd hc (by decide)) (fun _ => ?_)
  refine lv_aload_n hx hb dL_refusesFilters_370 rfl (lv_at hl 3 rfl) ?_
  refine lv_bipush (v := 16) hx hb dL_refusesFilters_371 (by decide) ?_
  refine lv_iload_n hx hb dL_refusesFilters_373 rfl (lv_at hl 2 rfl) ?_
  refine lv_iconst (v := 0) hx hb dL_refusesFilters_374 (by decide) ?_
  refine lv_bipush (v := 9) hx hb dL_refusesFilters_375 (by decide) ?_
  refine lv_bipush (v := 9) hx hb dL_refusesFilters_377 (by decide) ?_
  refine lv_iconst (v := 0) hx hb dL_refusesFilters_379 (by decide) ?_
  refine al_cSl (rest := [.int 0, .int 2, .int 16, .ref (g.2.2.1 + 0)]) C0 hW (c_L_three (r := 509509500) (by decide +kernel)) (ls_three hts ⟨Nat.le_of_ble_eq_true rfl, Nat.le_of_ble_eq_true rfl⟩) rfl hl.1 rfl (Nat.le_of_ble_eq_true rfl) ⟨Nat.le_of_ble_eq_true rfl, Nat.le_of_ble_eq_true rfl⟩ dL_refusesFilters_380 (fun H locs hW => ?_)
  refine al_cSW (rest := []) C0 hW (c_L_call hfl _ _ _ _ (rq_rows_0 (by decide +kernel))) (ls_call hts ⟨Nat.le_of_ble_eq_true rfl, Nat.le_of_ble_eq_true rfl⟩) rfl hl.1 rfl (Nat.le_of_ble_eq_true rfl) ⟨Nat.le_of_ble_eq_true rfl, Nat.le_of_ble_eq_true rfl⟩ dL_refusesFilters_383 (fun H locs hW => ?_)
  refine lv_ldc (v := (-100011)) hx hb hown (hts _ wl119) dL_refusesFilters_386 ?_
  refine lv_icmp_ne (tgt := 687) hx hb dL_refusesFilters_388 rfl (fun hc => absurd hc (by decide)) (fun _ => ?_)
  refine lv_aload_n hx hb dL_refusesFilters_391 rfl (lv_at hl 3 rfl) ?_
  refine lv_bipush (v := 16) hx hb dL_refusesFilters_392 (by decide) ?_
  refine lv_iconst (v := 0) hx hb dL_refusesFilters_394 (by decide) ?_
  refine lv_iload_n hx hb dL_refusesFilters_395 rfl (lv_at hl 1 rfl) ?_
  refine lv_bipush (v := 9) hx hb dL_refusesFilters_396 (by decide) ?_
  refine lv_bipush (v := 9) hx hb dL_refusesFilters_398 (by decide) ?_
  refine lv_iconst (v := 0) hx hb dL_refusesFilters_400 (by decide) ?_
  refine al_cSl (rest := [.int 6, .int 0, .int 16, .ref (g.2.2.1 + 0)]) C0 hW (c_L_three (r := 509509500) (by decide +kernel)) (ls_three hts ⟨Nat.le_of_ble_eq_true rfl, Nat.le_of_ble_eq_true rfl⟩) rfl hl.1 rfl (Nat.le_of_ble_eq_true rfl) ⟨Nat.le_of_ble_eq_true rfl, Nat.le_of_ble_eq_true rfl⟩ dL_refusesFilters_401 (fun H locs hW => ?_)
  refine al_cSW (rest := []) C0 hW (c_L_call hfl _ _ _ _ (rq_rows_1 (by decide +kernel) (by decide +kernel))) (ls_call hts ⟨Nat.le_of_ble_eq_true rfl, Nat.le_of_ble_eq_true rfl⟩) rfl hl.1 rfl (Nat.le_of_ble_eq_true rfl) ⟨Nat.le_of_ble_eq_true rfl, Nat.le_of_ble_eq_true rfl⟩ dL_refusesFilters_404 (fun H locs hW => ?_)
  refine lv_ldc (v := (-100011)) hx hb hown (hts _ wl119) dL_refusesFilters_407 ?_
  refine lv_icmp_ne (tgt := 687) hx hb dL_refusesFilters_409 rfl (fun hc => absurd hc (by decide)) (fun _ => ?_)
  refine lv_aload_n hx hb dL_refusesFilters_412 rfl (lv_at hl 3 rfl) ?_
  refine lv_bipush (v := 16) hx hb dL_refusesFilters_413 (by decide) ?_
  refine lv_iconst (v := 0) hx hb dL_refusesFilters_415 (by decide) ?_
  refine lv_iconst (v := 0) hx hb dL_refusesFilters_416 (by decide) ?_
  refine lv_iload_n hx hb dL_refusesFilters_417 rfl (lv_at hl 4 rfl) ?_
  refine lv_iconst (v := 0) hx hb dL_refusesFilters_418 (by decide) ?_
  refine lv_iconst (v := 2) hx hb dL_refusesFilters_419 (by decide) ?_
  refine al_cSi (rest := [.int 0, .int 0, .int 16, .ref (g.2.2.1 + 0)]) C0 hW (c_L_far (r := 3) (by decide +kernel)) (ls_far hts ⟨Nat.le_of_ble_eq_true rfl, Nat.le_of_ble_eq_true rfl⟩) rfl hl.1 rfl (Nat.le_of_ble_eq_true rfl) ⟨Nat.le_of_ble_eq_true rfl, Nat.le_of_ble_eq_true rfl⟩ dL_refusesFilters_420 (fun H locs hW => ?_)
  refine lv_iconst (v := 0) hx hb dL_refusesFilters_423 (by decide) ?_
  refine lv_iconst (v := 0) hx hb dL_refusesFilters_424 (by decide) ?_
  refine al_cSl (rest := [.int 0, .int 0, .int 16, .ref (g.2.2.1 + 0)]) C0 hW (c_L_three (r := 503500500) (by decide +kernel)) (ls_three hts ⟨Nat.le_of_ble_eq_true rfl, Nat.le_of_ble_eq_true rfl⟩) rfl hl.1 rfl (Nat.le_of_ble_eq_true rfl) ⟨Nat.le_of_ble_eq_true rfl, Nat.le_of_ble_eq_true rfl⟩ dL_refusesFilters_425 (fun H locs hW => ?_)
  refine al_cSW (rest := []) C0 hW (c_L_call hfl _ _ _ _ (rq_rows_2 (by decide +kernel) (by decide +kernel) (by decide +kernel))) (ls_call hts ⟨Nat.le_of_ble_eq_true rfl, Nat.le_of_ble_eq_true rfl⟩) rfl hl.1 rfl (Nat.le_of_ble_eq_true rfl) ⟨Nat.le_of_ble_eq_true rfl, Nat.le_of_ble_eq_true rfl⟩ dL_refusesFilters_428 (fun H locs hW => ?_)
  refine lv_ldc (v := (-100012)) hx hb hown (hts _ wl120) dL_refusesFilters_431 ?_
  refine lv_icmp_ne (tgt := 687) hx hb dL_refusesFilters_433 rfl (fun hc => absurd hc (by decide)) (fun _ => ?_)
  refine lv_aload_n hx hb dL_refusesFilters_436 rfl (lv_at hl 3 rfl) ?_
  refine lv_bipush (v := 16) hx hb dL_refusesFilters_437 (by decide) ?_
  refine lv_iconst (v := 0) hx hb dL_refusesFilters_439 (by decide) ?_
  refine lv_iconst (v := 0) hx hb dL_refusesFilters_440 (by decide) ?_
  refine lv_iconst (v := 0) hx hb dL_refusesFilters_441 (by decide) ?_
  refine lv_iload_n hx hb dL_refusesFilters_442 rfl (lv_at hl 4 rfl) ?_
  refine lv_iconst (v := 0) hx hb dL_refusesFilters_443 (by decide) ?_
  refine lv_iconst (v := 1) hx hb dL_refusesFilters_444 (by decide) ?_
  refine al_cSi (rest := [.int 0, .int 0, .int 0, .int 16, .ref (g.2.2.1 + 0)]) C0 hW (c_L_far (r := 2) (by decide +kernel)) (ls_far hts ⟨Nat.le_of_ble_eq_true rfl, Nat.le_of_ble_eq_true rfl⟩) rfl hl.1 rfl (Nat.le_of_ble_eq_true rfl) ⟨Nat.le_of_ble_eq_true rfl, Nat.le_of_ble_eq_true rfl⟩ dL_refusesFilters_445 (fun H locs hW => ?_)
  refine lv_iconst (v := 0) hx hb dL_refusesFilters_448 (by decide) ?_
  refine al_cSl (rest := [.int 0, .int 0, .int 16, .ref (g.2.2.1 + 0)]) C0 hW (c_L_three (r := 500502500) (by decide +kernel)) (ls_three hts ⟨Nat.le_of_ble_eq_true rfl, Nat.le_of_ble_eq_true rfl⟩) rfl hl.1 rfl (Nat.le_of_ble_eq_true rfl) ⟨Nat.le_of_ble_eq_true rfl, Nat.le_of_ble_eq_true rfl⟩ dL_refusesFilters_449 (fun H locs hW => ?_)
  refine al_cSW (rest := []) C0 hW (c_L_call hfl _ _ _ _ (rq_rows_3 (by decide +kernel) (by decide +kernel) (by decide +kernel) (by decide +kernel))) (ls_call hts ⟨Nat.le_of_ble_eq_true rfl, Nat.le_of_ble_eq_true rfl⟩) rfl hl.1 rfl (Nat.le_of_ble_eq_true rfl) ⟨Nat.le_of_ble_eq_true rfl, Nat.le_of_ble_eq_true rfl⟩ dL_refusesFilters_452 (fun H locs hW => ?_)
  refine lv_ldc (v := (-100012)) hx hb hown (hts _ wl120) dL_refusesFilters_455 ?_
  refine lv_icmp_ne (tgt := 687) hx hb dL_refusesFilters_457 rfl (fun hc => absurd hc (by decide)) (fun _ => ?_)
  refine lv_aload_n hx hb dL_refusesFilters_460 rfl (lv_at hl 3 rfl) ?_
  refine lv_bipush (v := 17) hx hb dL_refusesFilters_461 (by decide) ?_
  refine lv_iload_n hx hb dL_refusesFilters_463 rfl (lv_at hl 1 rfl) ?_
  refine lv_bipush (v := 9) hx hb dL_refusesFilters_464 (by decide) ?_
  refine lv_lconst (v := 0) hx hb dL_refusesFilters_466 rfl ?_
  refine al_cSW (rest := []) C0 hW (c_L_call hfl _ _ _ _ (rq_filter_0 (by decide +kernel))) (ls_call hts ⟨Nat.le_of_ble_eq_true rfl, Nat.le_of_ble_eq_true rfl⟩) rfl hl.1 rfl (Nat.le_of_ble_eq_true rfl) ⟨Nat.le_of_ble_eq_true rfl, Nat.le_of_ble_eq_true rfl⟩ dL_refusesFilters_467 (fun H locs hW => ?_)
  refine lv_ldc (v := (-100011)) hx hb hown (hts _ wl119) dL_refusesFilters_470 ?_
  refine lv_icmp_ne (tgt := 687) hx hb dL_refusesFilters_472 rfl (fun hc => absurd hc (by decide)) (fun _ => ?_)
  refine lv_aload_n hx hb dL_refusesFilters_475 rfl (lv_at hl 3 rfl) ?_
  refine lv_bipush (v := 17) hx hb dL_refusesFilters_476 (by decide) ?_
  refine lv_iconst (v := 0) hx hb dL_refusesFilters_478 (by decide) ?_
  refine lv_iload_n hx hb dL_refusesFilters_479 rfl (lv_at hl 4 rfl) ?_
  refine lv_iconst (v := 0) hx hb dL_refusesFilters_480 (by decide) ?_
  refine lv_iconst (v := 4) hx hb dL_refusesFilters_481 (by decide) ?_
  refine al_cSi (rest := [.int 0, .int 17, .ref (g.2.2.1 + 0)]) C0 hW (c_L_wide (r := 5) (by decide +kernel)) (ls_wide hts ⟨Nat.le_of_ble_eq_true rfl, Nat.le_of_ble_eq_true rfl⟩) rfl hl.1 rfl (Nat.le_of_ble_eq_true rfl) ⟨Nat.le_of_ble_eq_true rfl, Nat.le_of_ble_eq_true rfl⟩ dL_refusesFilters_482 (fun H locs hW => ?_)
  refine lv_lconst (v := 0) hx hb dL_refusesFilters_485 rfl ?_
  refine al_cSW (rest := []) C0 hW (c_L_call hfl _ _ _ _ (rq_filter_1 (by decide +kernel) (by decide +kernel))) (ls_call hts ⟨Nat.le_of_ble_eq_true rfl, Nat.le_of_ble_eq_true rfl⟩) rfl hl.1 rfl (Nat.le_of_ble_eq_true rfl) ⟨Nat.le_of_ble_eq_true rfl, Nat.le_of_ble_eq_true rfl⟩ dL_refusesFilters_486 (fun H locs hW => ?_)
  refine lv_ldc (v := (-100012)) hx hb hown (hts _ wl120) dL_refusesFilters_489 ?_
  refine lv_icmp_ne (tgt := 687) hx hb dL_refusesFilters_491 rfl (fun hc => absurd hc (by decide)) (fun _ => ?_)
  refine lv_aload_n hx hb dL_refusesFilters_494 rfl (lv_at hl 3 rfl) ?_
  refine lv_bipush (v := 18) hx hb dL_refusesFilters_495 (by decide) ?_
  refine lv_iload_n hx hb dL_refusesFilters_497 rfl (lv_at hl 1 rfl) ?_
  refine lv_iconst (v := (-1)) hx hb dL_refusesFilters_498 (by decide) ?_
  refine lv_lconst (v := 0) hx hb dL_refusesFilters_499 rfl ?_
  refine al_cSW (rest := []) C0 hW (c_L_call hfl _ _ _ _ (rq_letter_0 (by decide +kernel))) (ls_call hts ⟨Nat.le_of_ble_eq_true rfl, Nat.le_of_ble_eq_true rfl⟩) rfl hl.1 rfl (Nat.le_of_ble_eq_true rfl) ⟨Nat.le_of_ble_eq_true rfl, Nat.le_of_ble_eq_true rfl⟩ dL_refusesFilters_500 (fun H locs hW => ?_)
  refine lv_ldc (v := (-100011)) hx hb hown (hts _ wl119) dL_refusesFilters_503 ?_
  refine lv_icmp_ne (tgt := 687) hx hb dL_refusesFilters_505 rfl (fun hc => absurd hc (by decide)) (fun _ => ?_)
  refine lv_aload_n hx hb dL_refusesFilters_508 rfl (lv_at hl 3 rfl) ?_
  refine lv_bipush (v := 18) hx hb dL_refusesFilters_509 (by decide) ?_
  refine lv_iconst (v := 0) hx hb dL_refusesFilters_511 (by decide) ?_
  refine lv_iload_n hx hb dL_refusesFilters_512 rfl (lv_at hl 4 rfl) ?_
  refine lv_iconst (v := 2) hx hb dL_refusesFilters_513 (by decide) ?_
  refine lv_icmp_ne (tgt := 522) hx hb dL_refusesFilters_514 rfl (fun _ => ?_) (fun hc => absurd hc (by decide))
  refine lv_iconst (v := (-1)) hx hb dL_refusesFilters_522 (by decide) ?_
  refine lv_lconst (v := 0) hx hb dL_refusesFilters_523 rfl ?_
  refine al_cSW (rest := []) C0 hW (c_L_call hfl _ _ _ _ (rq_letter_1 (by decide +kernel) (by decide +kernel))) (ls_call hts ⟨Nat.le_of_ble_eq_true rfl, Nat.le_of_ble_eq_true rfl⟩) rfl hl.1 rfl (Nat.le_of_ble_eq_true rfl) ⟨Nat.le_of_ble_eq_true rfl, Nat.le_of_ble_eq_true rfl⟩ dL_refusesFilters_524 (fun H locs hW => ?_)
  refine lv_ldc (v := (-100012)) hx hb hown (hts _ wl120) dL_refusesFilters_527 ?_
  refine lv_icmp_ne (tgt := 687) hx hb dL_refusesFilters_529 rfl (fun hc => absurd hc (by decide)) (fun _ => ?_)
  refine lv_aload_n hx hb dL_refusesFilters_532 rfl (lv_at hl 3 rfl) ?_
  refine lv_bipush (v := 19) hx hb dL_refusesFilters_533 (by decide) ?_
  refine lv_iload_n hx hb dL_refusesFilters_535 rfl (lv_at hl 2 rfl) ?_
  refine lv_iconst (v := 0) hx hb dL_refusesFilters_536 (by decide) ?_
  refine lv_iconst (v := 0) hx hb dL_refusesFilters_537 (by decide) ?_
  refine lv_bipush (v := 9) hx hb dL_refusesFilters_538 (by decide) ?_
  refine lv_iconst (v := 0) hx hb dL_refusesFilters_540 (by decide) ?_
  refine al_cSl (rest := [.int 0, .int 2, .int 19, .ref (g.2.2.1 + 0)]) C0 hW (c_L_three (r := 500509500) (by decide +kernel)) (ls_three hts ⟨Nat.le_of_ble_eq_true rfl, Nat.le_of_ble_eq_true rfl⟩) rfl hl.1 rfl (Nat.le_of_ble_eq_true rfl) ⟨Nat.le_of_ble_eq_true rfl, Nat.le_of_ble_eq_true rfl⟩ dL_refusesFilters_541 (fun H locs hW => ?_)
  refine al_cSW (rest := []) C0 hW (c_L_call hfl _ _ _ _ (rq_compare_0 (by decide +kernel))) (ls_call hts ⟨Nat.le_of_ble_eq_true rfl, Nat.le_of_ble_eq_true rfl⟩) rfl hl.1 rfl (Nat.le_of_ble_eq_true rfl) ⟨Nat.le_of_ble_eq_true rfl, Nat.le_of_ble_eq_true rfl⟩ dL_refusesFilters_544 (fun H locs hW => ?_)
  refine lv_ldc (v := (-100011)) hx hb hown (hts _ wl119) dL_refusesFilters_547 ?_
  refine lv_icmp_ne (tgt := 687) hx hb dL_refusesFilters_549 rfl (fun hc => absurd hc (by decide)) (fun _ => ?_)
  refine lv_aload_n hx hb dL_refusesFilters_552 rfl (lv_at hl 3 rfl) ?_
  refine lv_bipush (v := 19) hx hb dL_refusesFilters_553 (by decide) ?_
  refine lv_iconst (v := 0) hx hb dL_refusesFilters_555 (by decide) ?_
  refine lv_iload_n hx hb dL_refusesFilters_556 rfl (lv_at hl 1 rfl) ?_
  refine lv_iconst (v := 0) hx hb dL_refusesFilters_557 (by decide) ?_
  refine lv_bipush (v := 9) hx hb dL_refusesFilters_558 (by decide) ?_
  refine lv_iconst (v := 0) hx hb dL_refusesFilters_560 (by decide) ?_
  refine al_cSl (rest := [.int 6, .int 0, .int 19, .ref (g.2.2.1 + 0)]) C0 hW (c_L_three (r := 500509500) (by decide +kernel)) (ls_three hts ⟨Nat.le_of_ble_eq_true rfl, Nat.le_of_ble_eq_true rfl⟩) rfl hl.1 rfl (Nat.le_of_ble_eq_true rfl) ⟨Nat.le_of_ble_eq_true rfl, Nat.le_of_ble_eq_true rfl⟩ dL_refusesFilters_561 (fun H locs hW => ?_)
  refine al_cSW (rest := []) C0 hW (c_L_call hfl _ _ _ _ (rq_compare_1 (by decide +kernel) (by decide +kernel))) (ls_call hts ⟨Nat.le_of_ble_eq_true rfl, Nat.le_of_ble_eq_true rfl⟩) rfl hl.1 rfl (Nat.le_of_ble_eq_true rfl) ⟨Nat.le_of_ble_eq_true rfl, Nat.le_of_ble_eq_true rfl⟩ dL_refusesFilters_564 (fun H locs hW => ?_)
  refine lv_ldc (v := (-100011)) hx hb hown (hts _ wl119) dL_refusesFilters_567 ?_
  refine lv_icmp_ne (tgt := 687) hx hb dL_refusesFilters_569 rfl (fun hc => absurd hc (by decide)) (fun _ => ?_)
  refine lv_aload_n hx hb dL_refusesFilters_572 rfl (lv_at hl 3 rfl) ?_
  refine lv_bipush (v := 19) hx hb dL_refusesFilters_573 (by decide) ?_
  refine lv_iconst (v := 0) hx hb dL_refusesFilters_575 (by decide) ?_
  refine lv_iconst (v := 0) hx hb dL_refusesFilters_576 (by decide) ?_
  refine lv_iload hx hb dL_refusesFilters_577 (lv_at hl 0 rfl) ?_
  refine lv_iconst (v := 0) hx hb dL_refusesFilters_579 (by decide) ?_
  refine lv_iconst (v := 0) hx hb dL_refusesFilters_580 (by decide) ?_
  refine al_cSl (rest := [.int 0, .int 0, .int 19, .ref (g.2.2.1 + 0)]) C0 hW (c_L_three (r := 506500500) (by decide +kernel)) (ls_three hts ⟨Nat.le_of_ble_eq_true rfl, Nat.le_of_ble_eq_true rfl⟩) rfl hl.1 rfl (Nat.le_of_ble_eq_true rfl) ⟨Nat.le_of_ble_eq_true rfl, Nat.le_of_ble_eq_true rfl⟩ dL_refusesFilters_581 (fun H locs hW => ?_)
  refine al_cSW (rest := []) C0 hW (c_L_call hfl _ _ _ _ (rq_compare_2 (by decide +kernel) (by decide +kernel) (by decide +kernel))) (ls_call hts ⟨Nat.le_of_ble_eq_true rfl, Nat.le_of_ble_eq_true rfl⟩) rfl hl.1 rfl (Nat.le_of_ble_eq_true rfl) ⟨Nat.le_of_ble_eq_true rfl, Nat.le_of_ble_eq_true rfl⟩ dL_refusesFilters_584 (fun H locs hW => ?_)
  refine lv_ldc (v := (-100011)) hx hb hown (hts _ wl119) dL_refusesFilters_587 ?_
  refine lv_icmp_ne (tgt := 687) hx hb dL_refusesFilters_589 rfl (fun hc => absurd hc (by decide)) (fun _ => ?_)
  refine lv_aload_n hx hb dL_refusesFilters_592 rfl (lv_at hl 3 rfl) ?_
  refine lv_bipush (v := 19) hx hb dL_refusesFilters_593 (by decide) ?_
  refine lv_iconst (v := 0) hx hb dL_refusesFilters_595 (by decide) ?_
  refine lv_iconst (v := 0) hx hb dL_refusesFilters_596 (by decide) ?_
  refine lv_iconst (v := 0) hx hb dL_refusesFilters_597 (by decide) ?_
  refine lv_iload_n hx hb dL_refusesFilters_598 rfl (lv_at hl 4 rfl) ?_
  refine lv_iconst (v := 0) hx hb dL_refusesFilters_599 (by decide) ?_
  refine lv_iconst (v := 2) hx hb dL_refusesFilters_600 (by decide) ?_
  refine al_cSi (rest := [.int 0, .int 0, .int 0, .int 19, .ref (g.2.2.1 + 0)]) C0 hW (c_L_far (r := 3) (by decide +kernel)) (ls_far hts ⟨Nat.le_of_ble_eq_true rfl, Nat.le_of_ble_eq_true rfl⟩) rfl hl.1 rfl (Nat.le_of_ble_eq_true rfl) ⟨Nat.le_of_ble_eq_true rfl, Nat.le_of_ble_eq_true rfl⟩ dL_refusesFilters_601 (fun H locs hW => ?_)
  refine lv_iconst (v := 0) hx hb dL_refusesFilters_604 (by decide) ?_
  refine al_cSl (rest := [.int 0, .int 0, .int 19, .ref (g.2.2.1 + 0)]) C0 hW (c_L_three (r := 500503500) (by decide +kernel)) (ls_three hts ⟨Nat.le_of_ble_eq_true rfl, Nat.le_of_ble_eq_true rfl⟩) rfl hl.1 rfl (Nat.le_of_ble_eq_true rfl) ⟨Nat.le_of_ble_eq_true rfl, Nat.le_of_ble_eq_true rfl⟩ dL_refusesFilters_605 (fun H locs hW => ?_)
  refine al_cSW (rest := []) C0 hW (c_L_call hfl _ _ _ _ (rq_compare_3 (by decide +kernel) (by decide +kernel) (by decide +kernel) (by decide +kernel))) (ls_call hts ⟨Nat.le_of_ble_eq_true rfl, Nat.le_of_ble_eq_true rfl⟩) rfl hl.1 rfl (Nat.le_of_ble_eq_true rfl) ⟨Nat.le_of_ble_eq_true rfl, Nat.le_of_ble_eq_true rfl⟩ dL_refusesFilters_608 (fun H locs hW => ?_)
  refine lv_ldc (v := (-100012)) hx hb hown (hts _ wl120) dL_refusesFilters_611 ?_
  refine lv_icmp_ne (tgt := 687) hx hb dL_refusesFilters_613 rfl (fun hc => absurd hc (by decide)) (fun _ => ?_)
  refine lv_aload_n hx hb dL_refusesFilters_616 rfl (lv_at hl 3 rfl) ?_
  refine lv_bipush (v := 20) hx hb dL_refusesFilters_617 (by decide) ?_
  refine lv_iload_n hx hb dL_refusesFilters_619 rfl (lv_at hl 2 rfl) ?_
  refine lv_iconst (v := 0) hx hb dL_refusesFilters_620 (by decide) ?_
  refine lv_iconst (v := 0) hx hb dL_refusesFilters_621 (by decide) ?_
  refine lv_iconst (v := 0) hx hb dL_refusesFilters_622 (by decide) ?_
  refine lv_iconst (v := 0) hx hb dL_refusesFilters_623 (by decide) ?_
  refine al_cSl (rest := [.int 0, .int 2, .int 20, .ref (g.2.2.1 + 0)]) C0 hW (c_L_three (r := 500500500) (by decide +kernel)) (ls_three hts ⟨Nat.le_of_ble_eq_true rfl, Nat.le_of_ble_eq_true rfl⟩) rfl hl.1 rfl (Nat.le_of_ble_eq_true rfl) ⟨Nat.le_of_ble_eq_true rfl, Nat.le_of_ble_eq_true rfl⟩ dL_refusesFilters_624 (fun H locs hW => ?_)
  refine al_cSW (rest := []) C0 hW (c_L_call hfl _ _ _ _ (rq_certain_0 (rowA (by decide +kernel)))) (ls_call hts ⟨Nat.le_of_ble_eq_true rfl, Nat.le_of_ble_eq_true rfl⟩) rfl hl.1 rfl (Nat.le_of_ble_eq_true rfl) ⟨Nat.le_of_ble_eq_true rfl, Nat.le_of_ble_eq_true rfl⟩ dL_refusesFilters_627 (fun H locs hW => ?_)
  refine lv_ldc (v := (-100011)) hx hb hown (hts _ wl119) dL_refusesFilters_630 ?_
  refine lv_icmp_ne (tgt := 687) hx hb dL_refusesFilters_632 rfl (fun hc => absurd hc (by decide)) (fun _ => ?_)
  refine lv_aload_n hx hb dL_refusesFilters_635 rfl (lv_at hl 3 rfl) ?_
  refine lv_bipush (v := 23) hx hb dL_refusesFilters_636 (by decide) ?_
  refine lv_iload_n hx hb dL_refusesFilters_638 rfl (lv_at hl 4 rfl) ?_
  refine lv_iconst (v := 0) hx hb dL_refusesFilters_639 (by decide) ?_
  refine lv_bipush (v := 7) hx hb dL_refusesFilters_640 (by decide) ?_
  refine al_cSi (rest := [.int 23, .ref (g.2.2.1 + 0)]) C0 hW (c_L_wide (r := 8) (by decide +kernel)) (ls_wide hts ⟨Nat.le_of_ble_eq_true rfl, Nat.le_of_ble_eq_true rfl⟩) rfl hl.1 rfl (Nat.le_of_ble_eq_true rfl) ⟨Nat.le_of_ble_eq_true rfl, Nat.le_of_ble_eq_true rfl⟩ dL_refusesFilters_642 (fun H locs hW => ?_)
  refine lv_iconst (v := 0) hx hb dL_refusesFilters_645 (by decide) ?_
  refine lv_lconst (v := 0) hx hb dL_refusesFilters_646 rfl ?_
  refine al_cSW (rest := []) C0 hW (c_L_call hfl _ _ _ _ (rq_count_0 (by decide +kernel))) (ls_call hts ⟨Nat.le_of_ble_eq_true rfl, Nat.le_of_ble_eq_true rfl⟩) rfl hl.1 rfl (Nat.le_of_ble_eq_true rfl) ⟨Nat.le_of_ble_eq_true rfl, Nat.le_of_ble_eq_true rfl⟩ dL_refusesFilters_647 (fun H locs hW => ?_)
  refine lv_ldc (v := (-100012)) hx hb hown (hts _ wl120) dL_refusesFilters_650 ?_
  refine lv_icmp_ne (tgt := 687) hx hb dL_refusesFilters_652 rfl (fun hc => absurd hc (by decide)) (fun _ => ?_)
  refine lv_aload_n hx hb dL_refusesFilters_655 rfl (lv_at hl 3 rfl) ?_
  refine lv_bipush (v := 24) hx hb dL_refusesFilters_656 (by decide) ?_
  refine lv_iload_n hx hb dL_refusesFilters_658 rfl (lv_at hl 2 rfl) ?_
  refine lv_iconst (v := 0) hx hb dL_refusesFilters_659 (by decide) ?_
  refine lv_lconst (v := 0) hx hb dL_refusesFilters_660 rfl ?_
  refine al_cSW (rest := []) C0 hW (c_L_call hfl _ _ _ _ (rq_share_0 (by decide +kernel))) (ls_call hts ⟨Nat.le_of_ble_eq_true rfl, Nat.le_of_ble_eq_true rfl⟩) rfl hl.1 rfl (Nat.le_of_ble_eq_true rfl) ⟨Nat.le_of_ble_eq_true rfl, Nat.le_of_ble_eq_true rfl⟩ dL_refusesFilters_661 (fun H locs hW => ?_)
  refine lv_ldc (v := (-100011)) hx hb hown (hts _ wl119) dL_refusesFilters_664 ?_
  refine lv_icmp_ne (tgt := 687) hx hb dL_refusesFilters_666 rfl (fun hc => absurd hc (by decide)) (fun _ => ?_)
  refine lv_aload_n hx hb dL_refusesFilters_669 rfl (lv_at hl 3 rfl) ?_
  refine lv_bipush (v := 24) hx hb dL_refusesFilters_670 (by decide) ?_
  refine lv_iconst (v := 0) hx hb dL_refusesFilters_672 (by decide) ?_
  refine lv_iload_n hx hb dL_refusesFilters_673 rfl (lv_at hl 1 rfl) ?_
  refine lv_lconst (v := 0) hx hb dL_refusesFilters_674 rfl ?_
  refine al_cSW (rest := []) C0 hW (c_L_call hfl _ _ _ _ (rq_share_1 (by decide +kernel) (by decide +kernel))) (ls_call hts ⟨Nat.le_of_ble_eq_true rfl, Nat.le_of_ble_eq_true rfl⟩) rfl hl.1 rfl (Nat.le_of_ble_eq_true rfl) ⟨Nat.le_of_ble_eq_true rfl, Nat.le_of_ble_eq_true rfl⟩ dL_refusesFilters_675 (fun H locs hW => ?_)
  refine lv_ldc (v := (-100011)) hx hb hown (hts _ wl119) dL_refusesFilters_678 ?_
  refine lv_icmp_ne (tgt := 687) hx hb dL_refusesFilters_680 rfl (fun hc => absurd hc (by decide)) (fun _ => ?_)
  refine lv_iconst (v := 1) hx hb dL_refusesFilters_683 (by decide) ?_
  refine lv_goto (tgt := 688) hx hb dL_refusesFilters_684 rfl ?_
  exact al_zret C0 hW (Nat.le_of_ble_eq_true rfl) (Nat.le_of_ble_eq_true rfl) rfl rfl dL_refusesFilters_688
end RF1
