/-! THE LAW'S methods over texts: types, defines, isError, isWritten. -/
section TXL
def chW (w : Int64) (j : Nat) : Int32 := Int64.toInt32 ((w >>> (Int32.toInt64 (nI (8 * j)) &&& 63)) &&& 255)
/-- what is typed of a word's j lower characters -/
def tyL (w : Int64) : Nat → List Nat → List Nat
  | 0, B => B
  | j + 1, B => tyL w j (if chW w j = 0 then B else B ++ [vN (chW w j)])
def tyK (w : Int64) : Nat → Nat → Bool
  | 0, _ => true
  | j + 1, n => if chW w j = 0 then tyK w j n else (chb (chW w j) && decide (n < 60) && tyK w j (n + 1))
def wrK (A : Abs) (sl : Int32) (one two : Int64) : Nat → Nat → Nat → Bool
  | 0, _, n => decide (opLetter A sl (nI n) = .inl (-2)) && decide (opFilter A sl 4 = .inl (nI n))
  | d + 1, k, n => if chW (if k < 8 then one else two) (7 - k % 8) = 0 then wrK A sl one two d (k + 1) n else (decide (opLetter A sl (nI n) = .inl (chW (if k < 8 then one else two) (7 - k % 8))) && wrK A sl one two d (k + 1) (n + 1))
variable {p : Program} {l : Launch} {e : Env} {Rm : Room} {s : State} {m : MethodId} {args : Array Value} {below : List Frame} {meth : Method} {c : Code} {H : Heap} {locs : List Loc} {cells slots : Nat} {Q : State → Prop}
variable {cc : ByteArray} {pc : Nat} {ls : Array Slot} {rest : List Value} {g : Gam} {σ : Gst} {b : Bool} {Z : Zed} {nL : Nat} {ret : Option FieldType}
abbrev rmL_types : Room := { frames := 7, cells := 0, slots := 0, locals := 111 }
theorem ls_types {Rm : Room} {s : State} {args : Array Value} (ht : ∀ w ∈ GT, w.before args s = true) (hR : rmL_types.frames + 1 ≤ Rm.frames ∧ 8 + (6 + 11) + rmL_types.locals ≤ Rm.locals) : CallB Rm s args RL 145 yL_types cL_types 6 (some .boolean) (Cond.code yL_types cL_types 6 (some .boolean) :: GT) rmL_types 0 0 2 ∧ (Cond.static yL_types).before args s = true := va_cwS 2 ht (goodS wl151 wl153 wl27 wl152) rfl rfl rfl ⟨by decide +kernel, by decide +kernel, by decide +kernel⟩ hR
theorem ty_L (C0 : CX g p s m args meth c RL cL_types 6 (some .boolean)) {N : Abs} {S : List Abs} {X : Nat → Option Abs} {wd : Int64} {T : List Nat} : ∀ (j : Nat) (B : List Nat) (H : Heap) (locs : List Loc) (ls : Array Slot), j ≤ 8 → tyK wd j B.length = true → tyL wd j B = T → WA g (N, S, X, B) b Z s.heap H locs → lv_has ls 6 [(4, .int (nI (8 * j) - 8)), (3, .int 1), (0, .ref (g.2.2.1 + 0)), (1, .long wd)] → W p l e rmL_types s m args below meth c H locs 0 0 (MQ below (QAi g 1 (N, S, X, T) b Z) args s 0 0 (AA g)) (F0 m 6 ls []) := by
  have hx := C0.1; have hb := C0.2.1; have hown := C0.2.2.2.2.1; have hts := C0.2.2.2.2.2.1
  intro j
  induction j with
  | zero =>
    intro B H locs ls hj hK hT hW hl
    have hT : B = T := hT
    subst hT
    refine lv_iload hx hb dL_types_6 (lv_at hl 0 rfl) ?_
    refine lv_if_lt (tgt := 52) hx hb dL_types_8 rfl (fun _ => ?_) (fun hc => absurd (by decide) hc)
    refine lv_iload_n hx hb dL_types_52 rfl (lv_at hl 1 rfl) ?_
    exact al_zret C0 hW (Nat.le_of_ble_eq_true rfl) (Nat.le_of_ble_eq_true rfl) rfl rfl dL_types_53
  | succ j ih =>
    intro B H locs ls hj hK hT hW hl
    have hk : nI (8 * (j + 1)) - 8 = nI (8 * j) := by
      rw [show (8 : Int32) = nI 8 from rfl, pk_sub (by omega)]
      exact congrArg nI (by omega)
    rw [hk] at hl
    refine lv_iload hx hb dL_types_6 (lv_at hl 0 rfl) ?_
    refine lv_if_lt (tgt := 52) hx hb dL_types_8 rfl (fun hc => absurd hc (nI_pos (by omega))) (fun _ => ?_)
    refine lv_lload_n hx hb dL_types_11 rfl (lv_at hl 3 rfl) ?_
    refine lv_iload hx hb dL_types_12 (lv_at hl 0 rfl) ?_
    refine lv_lshr (v := wd >>> (Int32.toInt64 (nI (8 * j)) &&& 63)) hx hb dL_types_14 rfl ?_
    refine lv_ldc2 (v := 255) hx hb hown (hts _ wl181) dL_types_15 ?_
    refine lv_land hx hb dL_types_18 ?_
    refine lv_l2i (v := Int64.toInt32 ((wd >>> (Int32.toInt64 (nI (8 * j)) &&& 63)) &&& 255)) hx hb dL_types_19 rfl ?_
    refine W.eq (g2 := F0 m 20 ls [.int (chW wd j)]) rfl ?_
    refine lv_istore (lv' := [(5, .int (chW wd j)), (4, .int (nI (8 * j))), (3, .int 1), (0, .ref (g.2.2.1 + 0)), (1, .long wd)]) hx hb dL_types_20 hl (Nat.le_of_ble_eq_true rfl) rfl (fun ls hl => ?_)
    refine lv_iload_n hx hb dL_types_22 rfl (lv_at hl 2 rfl) ?_
    refine lv_if_eq (tgt := 44) hx hb dL_types_23 rfl (fun hc => absurd hc (by decide)) (fun _ => ?_)
    refine lv_iload hx hb dL_types_26 (lv_at hl 0 rfl) ?_
    have hk2 : nI (8 * j) + (-8) = nI (8 * j) - 8 := by rw [Int32.sub_eq_add_neg]
    refine lv_if_eq (tgt := 40) hx hb dL_types_28 rfl (fun hc => ?_) (fun hc => ?_)
    · skip
      have hK2 : tyK wd j B.length = true := by unfold tyK at hK; rw [if_pos hc] at hK; exact hK
      have hT2 : tyL wd j B = T := by unfold tyL at hT; rw [if_pos hc] at hT; exact hT
      refine lv_iconst (v := 1) hx hb dL_types_40 (by decide) ?_
      refine lv_goto (tgt := 45) hx hb dL_types_41 rfl ?_
      refine lv_istore_n (lv' := [(3, .int 1), (5, .int (chW wd j)), (4, .int (nI (8 * j))), (0, .ref (g.2.2.1 + 0)), (1, .long wd)]) hx hb dL_types_45 rfl hl (Nat.le_of_ble_eq_true rfl) rfl (fun ls hl => ?_)
      refine lv_iinc (k := 2) (v := (nI (8 * j)) + (-8)) (lv' := [(4, .int ((nI (8 * j)) + (-8))), (3, .int 1), (5, .int (chW wd j)), (0, .ref (g.2.2.1 + 0)), (1, .long wd)]) hx hb dL_types_46 hl rfl (congrArg (fun t => (nI (8 * j)) + t) (by decide : Int32.ofInt (-8) = (-8))) (Nat.le_of_ble_eq_true rfl) rfl (fun ls hl => ?_)
      refine lv_goto (tgt := 6) hx hb dL_types_49 rfl ?_
      rw [hk2] at hl
      have hl := lv_sub hl [0, 1, 3, 4] rfl
      have hl : lv_has ls 6 [(4, .int (nI (8 * j) - 8)), (3, .int 1), (0, .ref (g.2.2.1 + 0)), (1, .long wd)] := hl
      exact ih B H locs ls (by omega) hK2 hT2 hW hl
    · skip
      unfold tyK at hK
      rw [if_neg hc, Bool.and_eq_true, Bool.and_eq_true] at hK
      obtain ⟨⟨hc1, hc2⟩, hK2⟩ := hK
      have hc2 : B.length < 60 := of_decide_eq_true hc2
      have hK2 : tyK wd j (B ++ [vN (chW wd j)]).length = true := by rw [List.length_append]; exact hK2
      have hT2 : tyL wd j (B ++ [vN (chW wd j)]) = T := by unfold tyL at hT; rw [if_neg hc] at hT; exact hT
      have hop : opAppend (N, S, X, B) (chW wd j) = (.inl (nI (B.length + 1)), N, S, X, B ++ [vN (chW wd j)]) := by
        unfold opAppend
        rw [if_pos hc1]
        exact if_neg (by show ¬ B.length = 60; omega)
      refine lv_aload_n hx hb dL_types_31 rfl (lv_at hl 3 rfl) ?_
      refine lv_iload hx hb dL_types_32 (lv_at hl 0 rfl) ?_
      refine ar_append (rest := []) C0 hl.1 hW (congrArg Prod.fst hop) (To.of (congrArg Prod.snd hop)) ⟨Nat.le_of_ble_eq_true rfl, Nat.le_of_ble_eq_true rfl⟩ (Nat.le_of_ble_eq_true rfl) ⟨Nat.le_of_ble_eq_true rfl, Nat.le_of_ble_eq_true rfl⟩ dL_types_34 (fun H locs hW => ?_)
      refine lv_if_le (tgt := 44) hx hb dL_types_37 rfl (fun hc => absurd hc (nI_ge (a := 0) (by omega) (by omega))) (fun _ => ?_)
      refine lv_iconst (v := 1) hx hb dL_types_40 (by decide) ?_
      refine lv_goto (tgt := 45) hx hb dL_types_41 rfl ?_
      refine lv_istore_n (lv' := [(3, .int 1), (5, .int (chW wd j)), (4, .int (nI (8 * j))), (0, .ref (g.2.2.1 + 0)), (1, .long wd)]) hx hb dL_types_45 rfl hl (Nat.le_of_ble_eq_true rfl) rfl (fun ls hl => ?_)
      refine lv_iinc (k := 2) (v := (nI (8 * j)) + (-8)) (lv' := [(4, .int ((nI (8 * j)) + (-8))), (3, .int 1), (5, .int (chW wd j)), (0, .ref (g.2.2.1 + 0)), (1, .long wd)]) hx hb dL_types_46 hl rfl (congrArg (fun t => (nI (8 * j)) + t) (by decide : Int32.ofInt (-8) = (-8))) (Nat.le_of_ble_eq_true rfl) rfl (fun ls hl => ?_)
      refine lv_goto (tgt := 6) hx hb dL_types_49 rfl ?_
      rw [hk2] at hl
      have hl := lv_sub hl [0, 1, 3, 4] rfl
      have hl : lv_has ls 6 [(4, .int (nI (8 * j) - 8)), (3, .int 1), (0, .ref (g.2.2.1 + 0)), (1, .long wd)] := hl
      exact ih (B ++ [vN (chW wd j)]) H locs ls (by omega) hK2 hT2 hW hl
theorem c_L_types {N : Abs} {S : List Abs} {X : Nat → Option Abs} {B T : List Nat} {wd : Int64} (hK : tyK wd 8 B.length = true) (hT : tyL wd 8 B = T) : Met l yL_types (Cond.code yL_types cL_types 6 (some .boolean) :: GT) rmL_types (va_Pc [.ref (g.2.2.1 + 0), .long wd] (PA g (N, S, X, B) b Z)) (QAi g 1 (N, S, X, T) b Z) 0 0 (AA g) := by
  refine al_ofW (lv0 := [(0, .ref (g.2.2.1 + 0)), (1, .long wd)]) (by decide) (Nat.le_of_ble_eq_true rfl) rfl (fun p e s m args below meth c ls H locs C0 hl hW => ?_)
  have C0 : CX g p s m args meth c RL cL_types 6 (some .boolean) := C0
  have hx := C0.1; have hb := C0.2.1; have hown := C0.2.2.2.2.1; have hts := C0.2.2.2.2.2.1
  refine lv_iconst (v := 1) hx hb dL_types_0 (by decide) ?_
  refine lv_istore_n (lv' := [(3, .int 1), (0, .ref (g.2.2.1 + 0)), (1, .long wd)]) hx hb dL_types_1 rfl hl (Nat.le_of_ble_eq_true rfl) rfl (fun ls hl => ?_)
  refine lv_bipush (v := 56) hx hb dL_types_2 (by decide) ?_
  refine lv_istore (lv' := [(4, .int 56), (3, .int 1), (0, .ref (g.2.2.1 + 0)), (1, .long wd)]) hx hb dL_types_4 hl (Nat.le_of_ble_eq_true rfl) rfl (fun ls hl => ?_)
  have hl : lv_has ls 6 [(4, .int (nI (8 * 8) - 8)), (3, .int 1), (0, .ref (g.2.2.1 + 0)), (1, .long wd)] := hl
  exact ty_L C0 8 B H locs ls (Nat.le_refl _) hK hT hW hl
abbrev rmL_defines : Room := { frames := 8, cells := 2, slots := 65, locals := 153 }
theorem ls_defines {Rm : Room} {s : State} {args : Array Value} (ht : ∀ w ∈ GT, w.before args s = true) (hR : rmL_defines.frames + 1 ≤ Rm.frames ∧ 8 + (7 + 11) + rmL_defines.locals ≤ Rm.locals) : CallB Rm s args RL 156 yL_defines cL_defines 7 (some .boolean) (Cond.code yL_defines cL_defines 7 (some .boolean) :: GT) rmL_defines 2 65 5 ∧ (Cond.static yL_defines).before args s = true := va_cwS 5 ht (goodS wl144 wl146 wl27 wl145) rfl rfl rfl ⟨by decide +kernel, by decide +kernel, by decide +kernel⟩ hR
theorem c_L_defines {N : Abs} {S : List Abs} {X : Nat → Option Abs} {B T1 T2 : List Nat} {one two : Int64} {sl sz : Int32} {τ : Gst} (hK1 : tyK one 8 0 = true) (hT1 : tyL one 8 [] = T1) (hK2 : tyK two 8 T1.length = true) (hT2 : tyL two 8 T1 = T2) (hop : (opDefine (N, S, X, T2) sl).1 = .inl sz) (hto : To (opDefine (N, S, X, T2) sl).2 τ) (hnb : τ.2.2.2 = []) : Met l yL_defines (Cond.code yL_defines cL_defines 7 (some .boolean) :: GT) rmL_defines (va_Pc [.ref (g.2.2.1 + 0), .int sl, .long one, .long two, .int sz] (PA g (N, S, X, B) b Z)) (QAi g 1 τ b Z) 2 65 (AA g) := by
  refine al_ofW (lv0 := [(0, .ref (g.2.2.1 + 0)), (1, .int sl), (2, .long one), (4, .long two), (6, .int sz)]) (by decide) (Nat.le_of_ble_eq_true rfl) rfl (fun p e s m args below meth c ls H locs C0 hl hW => ?_)
  have C0 : CX g p s m args meth c RL cL_defines 7 (some .boolean) := C0
  have hx := C0.1; have hb := C0.2.1; have hown := C0.2.2.2.2.1; have hts := C0.2.2.2.2.2.1
  have h60 := hW.l6.2
  refine lv_aload_n hx hb dL_defines_0 rfl (lv_at hl 0 rfl) ?_
  refine ar_clearBuffer (rest := []) C0 hl.1 hW rfl To.rf ⟨Nat.le_of_ble_eq_true rfl, Nat.le_of_ble_eq_true rfl⟩ (Nat.le_of_ble_eq_true rfl) ⟨Nat.le_of_ble_eq_true rfl, Nat.le_of_ble_eq_true rfl⟩ dL_defines_1 (fun H locs hW => ?_)
  have hW : WA g (N, S, X, []) b Z s.heap H locs := hW
  refine lv_if_lt (tgt := 45) hx hb dL_defines_4 rfl (fun hc => absurd hc (nI_pos (by have h60 : B.length ≤ 60 := h60; omega))) (fun _ => ?_)
  refine lv_aload_n hx hb dL_defines_7 rfl (lv_at hl 0 rfl) ?_
  refine lv_lload_n hx hb dL_defines_8 rfl (lv_at hl 2 rfl) ?_
  refine al_cSi (rest := []) C0 hW (c_L_types hK1 hT1) (ls_types hts ⟨Nat.le_of_ble_eq_true rfl, Nat.le_of_ble_eq_true rfl⟩) rfl hl.1 rfl (Nat.le_of_ble_eq_true rfl) ⟨Nat.le_of_ble_eq_true rfl, Nat.le_of_ble_eq_true rfl⟩ dL_defines_9 (fun H locs hW => ?_)
  refine lv_if_eq (tgt := 45) hx hb dL_defines_12 rfl (fun hc => absurd hc (by decide)) (fun _ => ?_)
  refine lv_aload_n hx hb dL_defines_15 rfl (lv_at hl 0 rfl) ?_
  refine lv_lload hx hb dL_defines_16 (lv_at hl 3 rfl) ?_
  refine al_cSi (rest := []) C0 hW (c_L_types hK2 hT2) (ls_types hts ⟨Nat.le_of_ble_eq_true rfl, Nat.le_of_ble_eq_true rfl⟩) rfl hl.1 rfl (Nat.le_of_ble_eq_true rfl) ⟨Nat.le_of_ble_eq_true rfl, Nat.le_of_ble_eq_true rfl⟩ dL_defines_18 (fun H locs hW => ?_)
  refine lv_if_eq (tgt := 45) hx hb dL_defines_21 rfl (fun hc => absurd hc (by decide)) (fun _ => ?_)
  refine lv_aload_n hx hb dL_defines_24 rfl (lv_at hl 0 rfl) ?_
  refine lv_iload_n hx hb dL_defines_25 rfl (lv_at hl 1 rfl) ?_
  refine ar_define (rest := []) C0 hl.1 hW hop hto ⟨Nat.le_of_ble_eq_true rfl, Nat.le_of_ble_eq_true rfl⟩ (Nat.le_of_ble_eq_true rfl) ⟨Nat.le_of_ble_eq_true rfl, Nat.le_of_ble_eq_true rfl⟩ dL_defines_26 (fun H locs hW => ?_)
  refine lv_iload hx hb dL_defines_29 (lv_at hl 4 rfl) ?_
  refine lv_icmp_ne (tgt := 45) hx hb dL_defines_31 rfl (fun hc => absurd rfl hc) (fun _ => ?_)
  refine lv_aload_n hx hb dL_defines_34 rfl (lv_at hl 0 rfl) ?_
  have hlen : (opClear τ).1 = 0 := by unfold opClear; rw [hnb]; rfl
  have hto2 : To (opClear τ).2 τ := To.of (by unfold opClear; rw [← hnb])
  refine ar_clearBuffer (rest := []) C0 hl.1 hW hlen hto2 ⟨Nat.le_of_ble_eq_true rfl, Nat.le_of_ble_eq_true rfl⟩ (Nat.le_of_ble_eq_true rfl) ⟨Nat.le_of_ble_eq_true rfl, Nat.le_of_ble_eq_true rfl⟩ dL_defines_35 (fun H locs hW => ?_)
  refine lv_if_ne (tgt := 45) hx hb dL_defines_38 rfl (fun hc => absurd hc (by decide)) (fun _ => ?_)
  refine lv_iconst (v := 1) hx hb dL_defines_41 (by decide) ?_
  refine lv_goto (tgt := 46) hx hb dL_defines_42 rfl ?_
  exact al_zret C0 hW (Nat.le_of_ble_eq_true rfl) (Nat.le_of_ble_eq_true rfl) rfl rfl dL_defines_46
abbrev rmL_isError : Room := { frames := 8, cells := 0, slots := 0, locals := 151 }
theorem ls_isError {Rm : Room} {s : State} {args : Array Value} (ht : ∀ w ∈ GT, w.before args s = true) (hR : rmL_isError.frames + 1 ≤ Rm.frames ∧ 8 + (6 + 11) + rmL_isError.locals ≤ Rm.locals) : CallB Rm s args RL 244 yL_isError cL_isError 6 (some .boolean) (Cond.code yL_isError cL_isError 6 (some .boolean) :: GT) rmL_isError 0 0 4 ∧ (Cond.static yL_isError).before args s = true := va_cwS 4 ht (goodS wl169 wl171 wl27 wl170) rfl rfl rfl ⟨by decide +kernel, by decide +kernel, by decide +kernel⟩ hR
theorem c_L_isError {N : Abs} {S : List Abs} {X : Nat → Option Abs} {B T1 T2 : List Nat} {one two : Int64} {er : Int32} (hK1 : tyK one 8 0 = true) (hT1 : tyL one 8 [] = T1) (hK2 : tyK two 8 T1.length = true) (hT2 : tyL two 8 T1 = T2) (hop : errV (N, S, X, T2) = er) : Met l yL_isError (Cond.code yL_isError cL_isError 6 (some .boolean) :: GT) rmL_isError (va_Pc [.ref (g.2.2.1 + 0), .long one, .long two, .int er] (PA g (N, S, X, B) b Z)) (QAi g 1 (N, S, X, T2) b Z) 0 0 (AA g) := by
  refine al_ofW (lv0 := [(0, .ref (g.2.2.1 + 0)), (1, .long one), (3, .long two), (5, .int er)]) (by decide) (Nat.le_of_ble_eq_true rfl) rfl (fun p e s m args below meth c ls H locs C0 hl hW => ?_)
  have C0 : CX g p s m args meth c RL cL_isError 6 (some .boolean) := C0
  have hx := C0.1; have hb := C0.2.1; have hown := C0.2.2.2.2.1; have hts := C0.2.2.2.2.2.1
  have h60 := hW.l6.2
  refine lv_aload_n hx hb dL_isError_0 rfl (lv_at hl 0 rfl) ?_
  refine ar_clearBuffer (rest := []) C0 hl.1 hW rfl To.rf ⟨Nat.le_of_ble_eq_true rfl, Nat.le_of_ble_eq_true rfl⟩ (Nat.le_of_ble_eq_true rfl) ⟨Nat.le_of_ble_eq_true rfl, Nat.le_of_ble_eq_true rfl⟩ dL_isError_1 (fun H locs hW => ?_)
  have hW : WA g (N, S, X, []) b Z s.heap H locs := hW
  refine lv_if_lt (tgt := 36) hx hb dL_isError_4 rfl (fun hc => absurd hc (nI_pos (by have h60 : B.length ≤ 60 := h60; omega))) (fun _ => ?_)
  refine lv_aload_n hx hb dL_isError_7 rfl (lv_at hl 0 rfl) ?_
  refine lv_lload_n hx hb dL_isError_8 rfl (lv_at hl 1 rfl) ?_
  refine al_cSi (rest := []) C0 hW (c_L_types hK1 hT1) (ls_types hts ⟨Nat.le_of_ble_eq_true rfl, Nat.le_of_ble_eq_true rfl⟩) rfl hl.1 rfl (Nat.le_of_ble_eq_true rfl) ⟨Nat.le_of_ble_eq_true rfl, Nat.le_of_ble_eq_true rfl⟩ dL_isError_9 (fun H locs hW => ?_)
  refine lv_if_eq (tgt := 36) hx hb dL_isError_12 rfl (fun hc => absurd hc (by decide)) (fun _ => ?_)
  refine lv_aload_n hx hb dL_isError_15 rfl (lv_at hl 0 rfl) ?_
  refine lv_lload_n hx hb dL_isError_16 rfl (lv_at hl 2 rfl) ?_
  refine al_cSi (rest := []) C0 hW (c_L_types hK2 hT2) (ls_types hts ⟨Nat.le_of_ble_eq_true rfl, Nat.le_of_ble_eq_true rfl⟩) rfl hl.1 rfl (Nat.le_of_ble_eq_true rfl) ⟨Nat.le_of_ble_eq_true rfl, Nat.le_of_ble_eq_true rfl⟩ dL_isError_17 (fun H locs hW => ?_)
  refine lv_if_eq (tgt := 36) hx hb dL_isError_20 rfl (fun hc => absurd hc (by decide)) (fun _ => ?_)
  refine lv_aload_n hx hb dL_isError_23 rfl (lv_at hl 0 rfl) ?_
  refine ar_firstError (rest := []) C0 hl.1 hW hop ⟨Nat.le_of_ble_eq_true rfl, Nat.le_of_ble_eq_true rfl⟩ (Nat.le_of_ble_eq_true rfl) ⟨Nat.le_of_ble_eq_true rfl, Nat.le_of_ble_eq_true rfl⟩ dL_isError_24 (fun H locs hW => ?_)
  refine lv_iload hx hb dL_isError_27 (lv_at hl 3 rfl) ?_
  refine lv_icmp_ne (tgt := 36) hx hb dL_isError_29 rfl (fun hc => absurd rfl hc) (fun _ => ?_)
  refine lv_iconst (v := 1) hx hb dL_isError_32 (by decide) ?_
  refine lv_goto (tgt := 37) hx hb dL_isError_33 rfl ?_
  exact al_zret C0 hW (Nat.le_of_ble_eq_true rfl) (Nat.le_of_ble_eq_true rfl) rfl rfl dL_isError_37
abbrev rmL_isWritten : Room := { frames := 8, cells := 0, slots := 0, locals := 134 }
theorem ls_isWritten {Rm : Room} {s : State} {args : Array Value} (ht : ∀ w ∈ GT, w.before args s = true) (hR : rmL_isWritten.frames + 1 ≤ Rm.frames ∧ 8 + (9 + 11) + rmL_isWritten.locals ≤ Rm.locals) : CallB Rm s args RL 162 yL_isWritten cL_isWritten 9 (some .boolean) (Cond.code yL_isWritten cL_isWritten 9 (some .boolean) :: GT) rmL_isWritten 0 0 4 ∧ (Cond.static yL_isWritten).before args s = true := va_cwS 4 ht (goodS wl157 wl159 wl27 wl158) rfl rfl rfl ⟨by decide +kernel, by decide +kernel, by decide +kernel⟩ hR
theorem iw_L (C0 : CX g p s m args meth c RL cL_isWritten 9 (some .boolean)) {sl : Int32} {one two : Int64} : ∀ (d k n : Nat) (H : Heap) (locs : List Loc) (ls : Array Slot), k + d = 16 → n ≤ k → wrK σ.1 sl one two d k n = true → WA g σ b Z s.heap H locs → lv_has ls 9 [(7, .int (nI k)), (6, .int (nI n)), (0, .ref (g.2.2.1 + 0)), (1, .int sl), (2, .long one), (4, .long two)] → W p l e rmL_isWritten s m args below meth c H locs 0 0 (MQ below (QAi g 1 σ b Z) args s 0 0 (AA g)) (F0 m 6 ls []) := by
  have hx := C0.1; have hb := C0.2.1; have hown := C0.2.2.2.2.1; have hts := C0.2.2.2.2.2.1
  intro d
  induction d with
  | zero =>
    intro k n H locs ls hkd hnk hK hW hl
    obtain rfl : k = 16 := by omega
    unfold wrK at hK
    rw [Bool.and_eq_true] at hK
    have h1 := of_decide_eq_true hK.1
    have h2 := of_decide_eq_true hK.2
    refine lv_iload hx hb dL_isWritten_6 (lv_at hl 0 rfl) ?_
    refine lv_bipush (v := 16) hx hb dL_isWritten_8 (by decide) ?_
    refine lv_icmp_ge (tgt := 76) hx hb dL_isWritten_10 rfl (fun _ => ?_) (fun hc => absurd (by decide) hc)
    refine lv_aload_n hx hb dL_isWritten_76 rfl (lv_at hl 2 rfl) ?_
    refine lv_iload_n hx hb dL_isWritten_77 rfl (lv_at hl 3 rfl) ?_
    refine lv_iload hx hb dL_isWritten_78 (lv_at hl 1 rfl) ?_
    refine ar_letter (rest := []) C0 hl.1 hW h1 ⟨Nat.le_of_ble_eq_true rfl, Nat.le_of_ble_eq_true rfl⟩ (Nat.le_of_ble_eq_true rfl) ⟨Nat.le_of_ble_eq_true rfl, Nat.le_of_ble_eq_true rfl⟩ dL_isWritten_80 (fun H locs hW => ?_)
    refine lv_bipush (v := (-2)) hx hb dL_isWritten_83 (by decide) ?_
    refine lv_icmp_ne (tgt := 103) hx hb dL_isWritten_85 rfl (fun hc => absurd hc (by decide)) (fun _ => ?_)
    refine lv_aload_n hx hb dL_isWritten_88 rfl (lv_at hl 2 rfl) ?_
    refine lv_iload_n hx hb dL_isWritten_89 rfl (lv_at hl 3 rfl) ?_
    refine lv_iconst (v := 4) hx hb dL_isWritten_90 (by decide) ?_
    refine ar_filter (rest := []) C0 hl.1 hW h2 ⟨Nat.le_of_ble_eq_true rfl, Nat.le_of_ble_eq_true rfl⟩ (Nat.le_of_ble_eq_true rfl) ⟨Nat.le_of_ble_eq_true rfl, Nat.le_of_ble_eq_true rfl⟩ dL_isWritten_91 (fun H locs hW => ?_)
    refine lv_iload hx hb dL_isWritten_94 (lv_at hl 1 rfl) ?_
    refine lv_icmp_ne (tgt := 103) hx hb dL_isWritten_96 rfl (fun hc => absurd rfl hc) (fun _ => ?_)
    refine lv_iconst (v := 1) hx hb dL_isWritten_99 (by decide) ?_
    refine lv_goto (tgt := 104) hx hb dL_isWritten_100 rfl ?_
    exact al_zret C0 hW (Nat.le_of_ble_eq_true rfl) (Nat.le_of_ble_eq_true rfl) rfl rfl dL_isWritten_104
  | succ d ih =>
    intro k n H locs ls hkd hnk hK hW hl
    have hk16 : k < 16 := by omega
    unfold wrK at hK
    have hsh : (8 : Int32) * (7 - (nI k - nI k / 8 * 8)) = nI (8 * (7 - k % 8)) := by
      rw [show (8 : Int32) = nI 8 from rfl, pk_rem (by omega) (by decide) (by decide), show (7 : Int32) = nI 7 from rfl, pk_sub (by omega), pk_mul]
    have J : ∀ (ls : Array Slot) (wd : Int64), (if k < 8 then one else two) = wd → lv_has ls 9 [(7, .int (nI k)), (6, .int (nI n)), (0, .ref (g.2.2.1 + 0)), (1, .int sl), (2, .long one), (4, .long two)] → W p l e rmL_isWritten s m args below meth c H locs 0 0 (MQ below (QAi g 1 σ b Z) args s 0 0 (AA g)) (F0 m 26 ls [.long wd]) := by
      intro ls wd hwd hl
      rw [hwd] at hK
      refine lv_bipush (v := 8) hx hb dL_isWritten_26 (by decide) ?_
      refine lv_bipush (v := 7) hx hb dL_isWritten_28 (by decide) ?_
      refine lv_iload hx hb dL_isWritten_30 (lv_at hl 0 rfl) ?_
      refine lv_bipush (v := 8) hx hb dL_isWritten_32 (by decide) ?_
      refine lv_irem hx hb dL_isWritten_34 (by decide) ?_
      refine lv_isub hx hb dL_isWritten_35 ?_
      refine lv_imul hx hb dL_isWritten_36 ?_
      rw [hsh]
      refine lv_lshr (v := wd >>> (Int32.toInt64 (nI (8 * (7 - k % 8))) &&& 63)) hx hb dL_isWritten_37 rfl ?_
      refine lv_ldc2 (v := 255) hx hb hown (hts _ wl181) dL_isWritten_38 ?_
      refine lv_land hx hb dL_isWritten_41 ?_
      refine lv_l2i (v := Int64.toInt32 ((wd >>> (Int32.toInt64 (nI (8 * (7 - k % 8))) &&& 63)) &&& 255)) hx hb dL_isWritten_42 rfl ?_
      refine W.eq (g2 := F0 m 43 ls [.int (chW wd (7 - k % 8))]) rfl ?_
      refine lv_istore (lv' := [(8, .int (chW wd (7 - k % 8))), (7, .int (nI k)), (6, .int (nI n)), (0, .ref (g.2.2.1 + 0)), (1, .int sl), (2, .long one), (4, .long two)]) hx hb dL_isWritten_43 hl (Nat.le_of_ble_eq_true rfl) rfl (fun ls hl => ?_)
      refine lv_iload hx hb dL_isWritten_45 (lv_at hl 0 rfl) ?_
      refine lv_if_ne (tgt := 53) hx hb dL_isWritten_47 rfl (fun hc => ?_) (fun hc => ?_)
      rotate_left
      · skip
        rw [if_pos hc] at hK
        refine lv_goto (tgt := 70) hx hb dL_isWritten_50 rfl ?_
        refine lv_iinc (k := 1) (v := (nI k) + 1) (lv' := [(7, .int ((nI k) + 1)), (8, .int (chW wd (7 - k % 8))), (6, .int (nI n)), (0, .ref (g.2.2.1 + 0)), (1, .int sl), (2, .long one), (4, .long two)]) hx hb dL_isWritten_70 hl rfl (congrArg (fun t => (nI k) + t) (by decide : Int32.ofInt 1 = 1)) (Nat.le_of_ble_eq_true rfl) rfl (fun ls hl => ?_)
        refine lv_goto (tgt := 6) hx hb dL_isWritten_73 rfl ?_
        rw [nI_1] at hl
        have hl := lv_sub hl [0, 2, 3, 4, 5, 6] rfl
        have hl : lv_has ls 9 [(7, .int (nI (k + 1))), (6, .int (nI n)), (0, .ref (g.2.2.1 + 0)), (1, .int sl), (2, .long one), (4, .long two)] := hl
        exact ih (k + 1) n H locs ls (by omega) (by omega) hK hW hl
      · skip
        rw [if_neg hc, Bool.and_eq_true] at hK
        have h1 := of_decide_eq_true hK.1
        refine lv_aload_n hx hb dL_isWritten_53 rfl (lv_at hl 3 rfl) ?_
        refine lv_iload_n hx hb dL_isWritten_54 rfl (lv_at hl 4 rfl) ?_
        refine lv_iload hx hb dL_isWritten_55 (lv_at hl 2 rfl) ?_
        refine ar_letter (rest := []) C0 hl.1 hW h1 ⟨Nat.le_of_ble_eq_true rfl, Nat.le_of_ble_eq_true rfl⟩ (Nat.le_of_ble_eq_true rfl) ⟨Nat.le_of_ble_eq_true rfl, Nat.le_of_ble_eq_true rfl⟩ dL_isWritten_57 (fun H locs hW => ?_)
        refine lv_iload hx hb dL_isWritten_60 (lv_at hl 0 rfl) ?_
        refine lv_icmp_eq (tgt := 67) hx hb dL_isWritten_62 rfl (fun _ => ?_) (fun hc => absurd rfl hc)
        refine lv_iinc (k := 2) (v := (nI n) + 1) (lv' := [(6, .int ((nI n) + 1)), (8, .int (chW wd (7 - k % 8))), (7, .int (nI k)), (0, .ref (g.2.2.1 + 0)), (1, .int sl), (2, .long one), (4, .long two)]) hx hb dL_isWritten_67 hl rfl (congrArg (fun t => (nI n) + t) (by decide : Int32.ofInt 1 = 1)) (Nat.le_of_ble_eq_true rfl) rfl (fun ls hl => ?_)
        refine lv_iinc (k := 2) (v := (nI k) + 1) (lv' := [(7, .int ((nI k) + 1)), (6, .int ((nI n) + 1)), (8, .int (chW wd (7 - k % 8))), (0, .ref (g.2.2.1 + 0)), (1, .int sl), (2, .long one), (4, .long two)]) hx hb dL_isWritten_70 hl rfl (congrArg (fun t => (nI k) + t) (by decide : Int32.ofInt 1 = 1)) (Nat.le_of_ble_eq_true rfl) rfl (fun ls hl => ?_)
        refine lv_goto (tgt := 6) hx hb dL_isWritten_73 rfl ?_
        rw [nI_1, nI_1] at hl
        have hl := lv_sub hl [0, 1, 3, 4, 5, 6] rfl
        have hl : lv_has ls 9 [(7, .int (nI (k + 1))), (6, .int (nI (n + 1))), (0, .ref (g.2.2.1 + 0)), (1, .int sl), (2, .long one), (4, .long two)] := hl
        exact ih (k + 1) (n + 1) H locs ls (by omega) (by omega) hK.2 hW hl
    refine lv_iload hx hb dL_isWritten_6 (lv_at hl 0 rfl) ?_
    refine lv_bipush (v := 16) hx hb dL_isWritten_8 (by decide) ?_
    refine lv_icmp_ge (tgt := 76) hx hb dL_isWritten_10 rfl (fun hc => absurd hc (nI_ge (b := 16) hk16 (by decide))) (fun _ => ?_)
    refine lv_iload hx hb dL_isWritten_13 (lv_at hl 0 rfl) ?_
    refine lv_bipush (v := 8) hx hb dL_isWritten_15 (by decide) ?_
    refine lv_icmp_ge (tgt := 24) hx hb dL_isWritten_17 rfl (fun hc => ?_) (fun hc => ?_)
    · skip
      refine lv_lload hx hb dL_isWritten_24 (lv_at hl 5 rfl) ?_
      exact J ls two (if_neg (fun h8 => absurd hc (nI_ge (b := 8) h8 (by decide)))) hl
    · skip
      refine lv_lload_n hx hb dL_isWritten_20 rfl (lv_at hl 4 rfl) ?_
      refine lv_goto (tgt := 26) hx hb dL_isWritten_21 rfl ?_
      exact J ls one (if_pos (by by_cases h8 : k < 8; exact h8; exact absurd (nI_le (a := 8) (by omega) (by omega)) hc)) hl
theorem c_L_isWritten {sl : Int32} {one two : Int64} (hK : wrK σ.1 sl one two 16 0 0 = true) : Met l yL_isWritten (Cond.code yL_isWritten cL_isWritten 9 (some .boolean) :: GT) rmL_isWritten (va_Pc [.ref (g.2.2.1 + 0), .int sl, .long one, .long two] (PA g σ b Z)) (QAi g 1 σ b Z) 0 0 (AA g) := by
  refine al_ofW (lv0 := [(0, .ref (g.2.2.1 + 0)), (1, .int sl), (2, .long one), (4, .long two)]) (by decide) (Nat.le_of_ble_eq_true rfl) rfl (fun p e s m args below meth c ls H locs C0 hl hW => ?_)
  have C0 : CX g p s m args meth c RL cL_isWritten 9 (some .boolean) := C0
  have hx := C0.1; have hb := C0.2.1; have hown := C0.2.2.2.2.1; have hts := C0.2.2.2.2.2.1
  refine lv_iconst (v := 0) hx hb dL_isWritten_0 (by decide) ?_
  refine lv_istore (lv' := [(6, .int 0), (0, .ref (g.2.2.1 + 0)), (1, .int sl), (2, .long one), (4, .long two)]) hx hb dL_isWritten_1 hl (Nat.le_of_ble_eq_true rfl) rfl (fun ls hl => ?_)
  refine lv_iconst (v := 0) hx hb dL_isWritten_3 (by decide) ?_
  refine lv_istore (lv' := [(7, .int 0), (6, .int 0), (0, .ref (g.2.2.1 + 0)), (1, .int sl), (2, .long one), (4, .long two)]) hx hb dL_isWritten_4 hl (Nat.le_of_ble_eq_true rfl) rfl (fun ls hl => ?_)
  exact iw_L C0 16 0 0 H locs ls rfl (Nat.le_refl _) hK hW hl
end TXL
