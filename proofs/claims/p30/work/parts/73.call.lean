/-! THE LAW'S call: a call of the class by its number; what is thrown becomes a number. -/
section CLX
def dcC (mo : Int64) : Int32 := (mo / 1000000 - mo / 1000000 / 1000 * 1000).toInt32 - 500
def dcD (mo : Int64) : Int32 := (mo / 1000 - mo / 1000 / 1000 * 1000).toInt32 - 500
def dcE (mo : Int64) : Int32 := (mo - mo / 1000 * 1000).toInt32 - 500
def shI (r : UInt64 ⊕ Nat) : Int32 := match r with
  | .inl x => FP.d2i x
  | .inr e => if e = 0 then -100011 else if e = 1 then -100012 else -100013
def callF (σ : Gst) (w a bb : Int32) (mo : Int64) : Int32 × Gst :=
  if w = 0 then (resV (opAdd σ a bb (dcC mo) (dcD mo) (dcE mo)).1, (opAdd σ a bb (dcC mo) (dcD mo) (dcE mo)).2) else if w = 1 then (resV (opChange σ a bb (dcC mo) (dcD mo)).1, (opChange σ a bb (dcC mo) (dcD mo)).2) else if w = 2 then (resV (opDrop σ a bb).1, (opDrop σ a bb).2) else if w = 3 then (resV (opDefine σ a).1, (opDefine σ a).2) else if w = 4 then (resV (opCombine σ a bb (dcC mo) (dcD mo)).1, (opCombine σ a bb (dcC mo) (dcD mo)).2) else if w = 5 then (resV (opCheck σ a bb).1, (opCheck σ a bb).2) else if w = 6 then (resV (opRemove σ a bb).1, (opRemove σ a bb).2) else if w = 7 then (resV (opUpdate σ a bb (dcC mo) (dcD mo)).1, (opUpdate σ a bb (dcC mo) (dcD mo)).2) else if w = 8 then (resV (opAppend σ a).1, (opAppend σ a).2) else if w = 9 then (resV (opUndo σ).1, (opUndo σ).2) else if w = 10 then (resV (opKeep σ a).1, (opKeep σ a).2) else if w = 11 then (resV (opGoBack σ a).1, (opGoBack σ a).2) else if w = 12 then (resV (opCell σ.1 a bb (dcC mo)), σ) else if w = 13 then (resV (opColumn σ.1 a bb (dcC mo)), σ) else if w = 14 then (resV (opGroup σ.1 a bb (dcC mo) (dcD mo)), σ) else if w = 15 then (resV (opTruth σ.1 a bb (dcC mo)), σ) else if w = 16 then (resV (opRows σ.1 a bb (dcC mo) (dcD mo)), σ) else if w = 17 then (resV (opFilter σ.1 a bb), σ) else if w = 18 then (resV (opLetter σ.1 a bb), σ) else if w = 19 then (resV (opCompare σ.1 a bb (dcC mo) (dcD mo)), σ) else if w = 20 then (resV (opCertain σ.1 a bb (dcC mo)), σ) else if w = 21 then (resV (opJoin σ.1 a bb (dcC mo)), σ) else if w = 22 then (resV (opAmong σ.1 a bb (dcC mo)), σ) else if w = 23 then (resV (opCount σ a), σ) else (shI (opShare σ.1 a bb), σ)
theorem cf_0 (σ : Gst) (a bb : Int32) (mo : Int64) : callF σ 0 a bb mo = (resV (opAdd σ a bb (dcC mo) (dcD mo) (dcE mo)).1, (opAdd σ a bb (dcC mo) (dcD mo) (dcE mo)).2) := rfl
theorem cf_1 (σ : Gst) (a bb : Int32) (mo : Int64) : callF σ 1 a bb mo = (resV (opChange σ a bb (dcC mo) (dcD mo)).1, (opChange σ a bb (dcC mo) (dcD mo)).2) := rfl
theorem cf_2 (σ : Gst) (a bb : Int32) (mo : Int64) : callF σ 2 a bb mo = (resV (opDrop σ a bb).1, (opDrop σ a bb).2) := rfl
theorem cf_3 (σ : Gst) (a bb : Int32) (mo : Int64) : callF σ 3 a bb mo = (resV (opDefine σ a).1, (opDefine σ a).2) := rfl
theorem cf_4 (σ : Gst) (a bb : Int32) (mo : Int64) : callF σ 4 a bb mo = (resV (opCombine σ a bb (dcC mo) (dcD mo)).1, (opCombine σ a bb (dcC mo) (dcD mo)).2) := rfl
theorem cf_5 (σ : Gst) (a bb : Int32) (mo : Int64) : callF σ 5 a bb mo = (resV (opCheck σ a bb).1, (opCheck σ a bb).2) := rfl
theorem cf_6 (σ : Gst) (a bb : Int32) (mo : Int64) : callF σ 6 a bb mo = (resV (opRemove σ a bb).1, (opRemove σ a bb).2) := rfl
theorem cf_7 (σ : Gst) (a bb : Int32) (mo : Int64) : callF σ 7 a bb mo = (resV (opUpdate σ a bb (dcC mo) (dcD mo)).1, (opUpdate σ a bb (dcC mo) (dcD mo)).2) := rfl
theorem cf_8 (σ : Gst) (a bb : Int32) (mo : Int64) : callF σ 8 a bb mo = (resV (opAppend σ a).1, (opAppend σ a).2) := rfl
theorem cf_9 (σ : Gst) (a bb : Int32) (mo : Int64) : callF σ 9 a bb mo = (resV (opUndo σ).1, (opUndo σ).2) := rfl
theorem cf_10 (σ : Gst) (a bb : Int32) (mo : Int64) : callF σ 10 a bb mo = (resV (opKeep σ a).1, (opKeep σ a).2) := rfl
theorem cf_11 (σ : Gst) (a bb : Int32) (mo : Int64) : callF σ 11 a bb mo = (resV (opGoBack σ a).1, (opGoBack σ a).2) := rfl
theorem cf_12 (σ : Gst) (a bb : Int32) (mo : Int64) : callF σ 12 a bb mo = (resV (opCell σ.1 a bb (dcC mo)), σ) := rfl
theorem cf_13 (σ : Gst) (a bb : Int32) (mo : Int64) : callF σ 13 a bb mo = (resV (opColumn σ.1 a bb (dcC mo)), σ) := rfl
theorem cf_14 (σ : Gst) (a bb : Int32) (mo : Int64) : callF σ 14 a bb mo = (resV (opGroup σ.1 a bb (dcC mo) (dcD mo)), σ) := rfl
theorem cf_15 (σ : Gst) (a bb : Int32) (mo : Int64) : callF σ 15 a bb mo = (resV (opTruth σ.1 a bb (dcC mo)), σ) := rfl
theorem cf_16 (σ : Gst) (a bb : Int32) (mo : Int64) : callF σ 16 a bb mo = (resV (opRows σ.1 a bb (dcC mo) (dcD mo)), σ) := rfl
theorem cf_17 (σ : Gst) (a bb : Int32) (mo : Int64) : callF σ 17 a bb mo = (resV (opFilter σ.1 a bb), σ) := rfl
theorem cf_18 (σ : Gst) (a bb : Int32) (mo : Int64) : callF σ 18 a bb mo = (resV (opLetter σ.1 a bb), σ) := rfl
theorem cf_19 (σ : Gst) (a bb : Int32) (mo : Int64) : callF σ 19 a bb mo = (resV (opCompare σ.1 a bb (dcC mo) (dcD mo)), σ) := rfl
theorem cf_20 (σ : Gst) (a bb : Int32) (mo : Int64) : callF σ 20 a bb mo = (resV (opCertain σ.1 a bb (dcC mo)), σ) := rfl
theorem cf_21 (σ : Gst) (a bb : Int32) (mo : Int64) : callF σ 21 a bb mo = (resV (opJoin σ.1 a bb (dcC mo)), σ) := rfl
theorem cf_22 (σ : Gst) (a bb : Int32) (mo : Int64) : callF σ 22 a bb mo = (resV (opAmong σ.1 a bb (dcC mo)), σ) := rfl
theorem cf_23 (σ : Gst) (a bb : Int32) (mo : Int64) : callF σ 23 a bb mo = (resV (opCount σ a), σ) := rfl
theorem cf_24 (σ : Gst) (a bb : Int32) (mo : Int64) : callF σ 24 a bb mo = (shI (opShare σ.1 a bb), σ) := rfl
variable {p : Program} {l : Launch} {e : Env} {Rm : Room} {s : State} {m : MethodId} {args : Array Value} {below : List Frame} {meth : Method} {c : Code} {H : Heap} {locs : List Loc} {cells slots : Nat} {Q : State → Prop}
variable {cc : ByteArray} {pc : Nat} {ls : Array Slot} {rest : List Value} {g : Gam} {σ : Gst} {b : Bool} {Z : Zed} {nL : Nat} {ret : Option FieldType}
theorem call_x {mc ms : Nat} (C0 : CX g p s m args meth c RL cL_call 10 (some .int)) (htb : c.exceptionTable.toList = tableOf [(47, 442, 443, 97), (47, 442, 448, 100), (47, 442, 453, 103)]) (hco : ∀ t k, covers ⟨47, 442, t, k⟩ pc = true) {lv : List (Nat × Value)} (hl : lv_has ls 10 lv) (hW : WA g σ b Z s.heap H locs) (hmc : cells ≤ mc) (hms : slots ≤ ms) {q : Addr} {ce : Cell} (hcell : H[q]? = some ce) (hcv : ce.vm = .none) {ex : Nat} (hcl : s.vm.findClass (exn ex) = some ce.cls) {r : Int32} (her : (if ex = 0 then (-100011 : Int32) else if ex = 1 then -100012 else -100013) = r) : vx_W p l e Rm s m args below meth c H locs cells slots (MQ below (QAi g r σ b Z) args s mc ms (AA g)) (F0 m pc ls rest) q := by
  subst her
  have hx := C0.1; have hb := C0.2.1; have hown := C0.2.2.2.2.1; have hts := C0.2.2.2.2.2.1; have hKS := C0.2.2.2.2.2.2.1
  have hl : lv_has ls 10 [] := lv_sub hl [] rfl
  by_cases he0 : ex = 0
  · subst he0
    refine vx_catch (E := "java/lang/IndexOutOfBoundsException") (name := "java/lang/IndexOutOfBoundsException") hown [] ⟨47, 442, 443, 97⟩ [⟨47, 442, 448, 100⟩, ⟨47, 442, 453, 103⟩] (htb.trans rfl) (fun _ h => nomatch h) (hco _ _) (by decide) (hts _ wl36) (va_Nw.use rfl (hKS.2.2.2.2.2.1 ("java/lang/IndexOutOfBoundsException", "java/lang/IndexOutOfBoundsException") (by decide +kernel))) hcell hcv hcl ?_
    refine lv_astore (lv' := [(9, .ref q)]) hx hb dL_call_443 hl (Nat.le_of_ble_eq_true rfl) rfl (fun ls hl => ?_)
    refine lv_ldc (v := (-100011)) hx hb hown (hts _ wl119) dL_call_445 ?_
    exact al_iret C0 hW hmc hms rfl dL_call_447
  · by_cases he1 : ex = 1
    · subst he1
      refine vx_catch (E := "java/lang/IllegalArgumentException") (name := "java/lang/IllegalArgumentException") hown [⟨47, 442, 443, 97⟩] ⟨47, 442, 448, 100⟩ [⟨47, 442, 453, 103⟩] (htb.trans rfl) (List.forall_mem_cons.mpr ⟨Or.inr ⟨by decide, "java/lang/IndexOutOfBoundsException", hts _ wl36, hKS.2.2.2.2.2.2.2.2.2 ("java/lang/IllegalArgumentException", "java/lang/IndexOutOfBoundsException") (by decide +kernel)⟩, (fun _ h => nomatch h)⟩) (hco _ _) (by decide) (hts _ wl37) (va_Nw.use rfl (hKS.2.2.2.2.2.1 ("java/lang/IllegalArgumentException", "java/lang/IllegalArgumentException") (by decide +kernel))) hcell hcv hcl ?_
      refine lv_astore (lv' := [(9, .ref q)]) hx hb dL_call_448 hl (Nat.le_of_ble_eq_true rfl) rfl (fun ls hl => ?_)
      refine lv_ldc (v := (-100012)) hx hb hown (hts _ wl120) dL_call_450 ?_
      exact al_iret C0 hW hmc hms rfl dL_call_452
    · have hcl : s.vm.findClass "java/lang/IllegalStateException" = some ce.cls := by unfold exn at hcl; rw [if_neg he0, if_neg he1] at hcl; exact hcl
      rw [if_neg he0, if_neg he1]
      refine vx_catch (E := "java/lang/IllegalStateException") (name := "java/lang/IllegalStateException") hown [⟨47, 442, 443, 97⟩, ⟨47, 442, 448, 100⟩] ⟨47, 442, 453, 103⟩ [] (htb.trans rfl) (List.forall_mem_cons.mpr ⟨Or.inr ⟨by decide, "java/lang/IndexOutOfBoundsException", hts _ wl36, hKS.2.2.2.2.2.2.2.2.2 ("java/lang/IllegalStateException", "java/lang/IndexOutOfBoundsException") (by decide +kernel)⟩, (List.forall_mem_cons.mpr ⟨Or.inr ⟨by decide, "java/lang/IllegalArgumentException", hts _ wl37, hKS.2.2.2.2.2.2.2.2.2 ("java/lang/IllegalStateException", "java/lang/IllegalArgumentException") (by decide +kernel)⟩, (fun _ h => nomatch h)⟩)⟩) (hco _ _) (by decide) (hts _ wl38) (va_Nw.use rfl (hKS.2.2.2.2.2.1 ("java/lang/IllegalStateException", "java/lang/IllegalStateException") (by decide +kernel))) hcell hcv hcl ?_
      refine lv_astore (lv' := [(9, .ref q)]) hx hb dL_call_453 hl (Nat.le_of_ble_eq_true rfl) rfl (fun ls hl => ?_)
      refine lv_ldc (v := (-100013)) hx hb hown (hts _ wl121) dL_call_455 ?_
      exact al_iret C0 hW hmc hms rfl dL_call_457
abbrev rmL_call : Room := { frames := 9, cells := 2, slots := 65, locals := 168 }
set_option maxHeartbeats 1000000 in
theorem cr_add (hfl : l.stackTraces = false) (C0 : CX g p s m args meth c RL cL_call 10 (some .int)) (htb : c.exceptionTable.toList = tableOf [(47, 442, 443, 97), (47, 442, 448, 100), (47, 442, 453, 103)]) {w a bb : Int32} {mo : Int64} (hl : lv_has ls 10 [(8, .int (dcE mo)), (7, .int (dcD mo)), (6, .int (dcC mo)), (0, .ref (g.2.2.1 + 0)), (1, .int w), (2, .int a), (3, .int bb), (4, .long mo)]) (hW : WA g σ b Z s.heap H locs) : W p l e rmL_call s m args below meth c H locs 0 0 (MQ below (QAi g (resV (opAdd σ a bb (dcC mo) (dcD mo) (dcE mo)).1) ((opAdd σ a bb (dcC mo) (dcD mo) (dcE mo)).2) b Z) args s 2 65 (AA g)) (F0 m 51 ls []) := by
  have hx := C0.1; have hb := C0.2.1; have hown := C0.2.2.2.2.1; have hts := C0.2.2.2.2.2.1
  refine lv_aload_n hx hb dL_call_51 rfl (lv_at hl 3 rfl) ?_
  refine lv_iload_n hx hb dL_call_52 rfl (lv_at hl 5 rfl) ?_
  refine lv_iload_n hx hb dL_call_53 rfl (lv_at hl 6 rfl) ?_
  refine lv_iload hx hb dL_call_54 (lv_at hl 2 rfl) ?_
  refine lv_iload hx hb dL_call_56 (lv_at hl 1 rfl) ?_
  refine lv_iload hx hb dL_call_58 (lv_at hl 0 rfl) ?_
  rcases hv : (opAdd σ a bb (dcC mo) (dcD mo) (dcE mo)).1 with v | v
  · refine ar_add (rest := []) C0 hl.1 hW hv To.rf ⟨Nat.le_of_ble_eq_true rfl, Nat.le_of_ble_eq_true rfl⟩ (Nat.le_of_ble_eq_true rfl) ⟨Nat.le_of_ble_eq_true rfl, Nat.le_of_ble_eq_true rfl⟩ dL_call_60 (fun H locs hW => ?_)
    refine lv_goto (tgt := 442) hx hb dL_call_63 rfl ?_
    exact al_iret C0 hW (Nat.le_of_ble_eq_true rfl) (Nat.le_of_ble_eq_true rfl) rfl dL_call_442
  · refine ax_add (rest := []) hfl C0 hl.1 hW hv To.rf ⟨Nat.le_of_ble_eq_true rfl, Nat.le_of_ble_eq_true rfl⟩ (Nat.le_of_ble_eq_true rfl) ⟨Nat.le_of_ble_eq_true rfl, Nat.le_of_ble_eq_true rfl⟩ dL_call_60 (fun H locs q ce hW h1 h2 h3 => ?_)
    exact call_x C0 htb (fun _ _ => rfl) hl hW (Nat.le_of_ble_eq_true rfl) (Nat.le_of_ble_eq_true rfl) h1 h2 h3 rfl
set_option maxHeartbeats 1000000 in
theorem cr_change (hfl : l.stackTraces = false) (C0 : CX g p s m args meth c RL cL_call 10 (some .int)) (htb : c.exceptionTable.toList = tableOf [(47, 442, 443, 97), (47, 442, 448, 100), (47, 442, 453, 103)]) {w a bb : Int32} {mo : Int64} (hl : lv_has ls 10 [(8, .int (dcE mo)), (7, .int (dcD mo)), (6, .int (dcC mo)), (0, .ref (g.2.2.1 + 0)), (1, .int w), (2, .int a), (3, .int bb), (4, .long mo)]) (hW : WA g σ b Z s.heap H locs) : W p l e rmL_call s m args below meth c H locs 0 0 (MQ below (QAi g (resV (opChange σ a bb (dcC mo) (dcD mo)).1) ((opChange σ a bb (dcC mo) (dcD mo)).2) b Z) args s 2 65 (AA g)) (F0 m 71 ls []) := by
  have hx := C0.1; have hb := C0.2.1; have hown := C0.2.2.2.2.1; have hts := C0.2.2.2.2.2.1
  refine lv_aload_n hx hb dL_call_71 rfl (lv_at hl 3 rfl) ?_
  refine lv_iload_n hx hb dL_call_72 rfl (lv_at hl 5 rfl) ?_
  refine lv_iload_n hx hb dL_call_73 rfl (lv_at hl 6 rfl) ?_
  refine lv_iload hx hb dL_call_74 (lv_at hl 2 rfl) ?_
  refine lv_iload hx hb dL_call_76 (lv_at hl 1 rfl) ?_
  rcases hv : (opChange σ a bb (dcC mo) (dcD mo)).1 with v | v
  · refine ar_change (rest := []) C0 hl.1 hW hv To.rf ⟨Nat.le_of_ble_eq_true rfl, Nat.le_of_ble_eq_true rfl⟩ (Nat.le_of_ble_eq_true rfl) ⟨Nat.le_of_ble_eq_true rfl, Nat.le_of_ble_eq_true rfl⟩ dL_call_78 (fun H locs hW => ?_)
    refine lv_goto (tgt := 442) hx hb dL_call_81 rfl ?_
    exact al_iret C0 hW (Nat.le_of_ble_eq_true rfl) (Nat.le_of_ble_eq_true rfl) rfl dL_call_442
  · refine ax_change (rest := []) hfl C0 hl.1 hW hv To.rf ⟨Nat.le_of_ble_eq_true rfl, Nat.le_of_ble_eq_true rfl⟩ (Nat.le_of_ble_eq_true rfl) ⟨Nat.le_of_ble_eq_true rfl, Nat.le_of_ble_eq_true rfl⟩ dL_call_78 (fun H locs q ce hW h1 h2 h3 => ?_)
    exact call_x C0 htb (fun _ _ => rfl) hl hW (Nat.le_of_ble_eq_true rfl) (Nat.le_of_ble_eq_true rfl) h1 h2 h3 rfl
set_option maxHeartbeats 1000000 in
theorem cr_drop (hfl : l.stackTraces = false) (C0 : CX g p s m args meth c RL cL_call 10 (some .int)) (htb : c.exceptionTable.toList = tableOf [(47, 442, 443, 97), (47, 442, 448, 100), (47, 442, 453, 103)]) {w a bb : Int32} {mo : Int64} (hl : lv_has ls 10 [(8, .int (dcE mo)), (7, .int (dcD mo)), (6, .int (dcC mo)), (0, .ref (g.2.2.1 + 0)), (1, .int w), (2, .int a), (3, .int bb), (4, .long mo)]) (hW : WA g σ b Z s.heap H locs) : W p l e rmL_call s m args below meth c H locs 0 0 (MQ below (QAi g (resV (opDrop σ a bb).1) ((opDrop σ a bb).2) b Z) args s 2 65 (AA g)) (F0 m 89 ls []) := by
  have hx := C0.1; have hb := C0.2.1; have hown := C0.2.2.2.2.1; have hts := C0.2.2.2.2.2.1
  refine lv_aload_n hx hb dL_call_89 rfl (lv_at hl 3 rfl) ?_
  refine lv_iload_n hx hb dL_call_90 rfl (lv_at hl 5 rfl) ?_
  refine lv_iload_n hx hb dL_call_91 rfl (lv_at hl 6 rfl) ?_
  rcases hv : (opDrop σ a bb).1 with v | v
  · refine ar_drop (rest := []) C0 hl.1 hW hv To.rf ⟨Nat.le_of_ble_eq_true rfl, Nat.le_of_ble_eq_true rfl⟩ (Nat.le_of_ble_eq_true rfl) ⟨Nat.le_of_ble_eq_true rfl, Nat.le_of_ble_eq_true rfl⟩ dL_call_92 (fun H locs hW => ?_)
    refine lv_goto (tgt := 442) hx hb dL_call_95 rfl ?_
    exact al_iret C0 hW (Nat.le_of_ble_eq_true rfl) (Nat.le_of_ble_eq_true rfl) rfl dL_call_442
  · refine ax_drop (rest := []) hfl C0 hl.1 hW hv To.rf ⟨Nat.le_of_ble_eq_true rfl, Nat.le_of_ble_eq_true rfl⟩ (Nat.le_of_ble_eq_true rfl) ⟨Nat.le_of_ble_eq_true rfl, Nat.le_of_ble_eq_true rfl⟩ dL_call_92 (fun H locs q ce hW h1 h2 h3 => ?_)
    exact call_x C0 htb (fun _ _ => rfl) hl hW (Nat.le_of_ble_eq_true rfl) (Nat.le_of_ble_eq_true rfl) h1 h2 h3 rfl
set_option maxHeartbeats 1000000 in
theorem cr_define (hfl : l.stackTraces = false) (C0 : CX g p s m args meth c RL cL_call 10 (some .int)) (htb : c.exceptionTable.toList = tableOf [(47, 442, 443, 97), (47, 442, 448, 100), (47, 442, 453, 103)]) {w a bb : Int32} {mo : Int64} (hl : lv_has ls 10 [(8, .int (dcE mo)), (7, .int (dcD mo)), (6, .int (dcC mo)), (0, .ref (g.2.2.1 + 0)), (1, .int w), (2, .int a), (3, .int bb), (4, .long mo)]) (hW : WA g σ b Z s.heap H locs) : W p l e rmL_call s m args below meth c H locs 0 0 (MQ below (QAi g (resV (opDefine σ a).1) ((opDefine σ a).2) b Z) args s 2 65 (AA g)) (F0 m 103 ls []) := by
  have hx := C0.1; have hb := C0.2.1; have hown := C0.2.2.2.2.1; have hts := C0.2.2.2.2.2.1
  refine lv_aload_n hx hb dL_call_103 rfl (lv_at hl 3 rfl) ?_
  refine lv_iload_n hx hb dL_call_104 rfl (lv_at hl 5 rfl) ?_
  rcases hv : (opDefine σ a).1 with v | v
  · refine ar_define (rest := []) C0 hl.1 hW hv To.rf ⟨Nat.le_of_ble_eq_true rfl, Nat.le_of_ble_eq_true rfl⟩ (Nat.le_of_ble_eq_true rfl) ⟨Nat.le_of_ble_eq_true rfl, Nat.le_of_ble_eq_true rfl⟩ dL_call_105 (fun H locs hW => ?_)
    refine lv_goto (tgt := 442) hx hb dL_call_108 rfl ?_
    exact al_iret C0 hW (Nat.le_of_ble_eq_true rfl) (Nat.le_of_ble_eq_true rfl) rfl dL_call_442
  · refine ax_define (rest := []) hfl C0 hl.1 hW hv To.rf ⟨Nat.le_of_ble_eq_true rfl, Nat.le_of_ble_eq_true rfl⟩ (Nat.le_of_ble_eq_true rfl) ⟨Nat.le_of_ble_eq_true rfl, Nat.le_of_ble_eq_true rfl⟩ dL_call_105 (fun H locs q ce hW h1 h2 h3 => ?_)
    exact call_x C0 htb (fun _ _ => rfl) hl hW (Nat.le_of_ble_eq_true rfl) (Nat.le_of_ble_eq_true rfl) h1 h2 h3 rfl
set_option maxHeartbeats 1000000 in
theorem cr_combine (hfl : l.stackTraces = false) (C0 : CX g p s m args meth c RL cL_call 10 (some .int)) (htb : c.exceptionTable.toList = tableOf [(47, 442, 443, 97), (47, 442, 448, 100), (47, 442, 453, 103)]) {w a bb : Int32} {mo : Int64} (hl : lv_has ls 10 [(8, .int (dcE mo)), (7, .int (dcD mo)), (6, .int (dcC mo)), (0, .ref (g.2.2.1 + 0)), (1, .int w), (2, .int a), (3, .int bb), (4, .long mo)]) (hW : WA g σ b Z s.heap H locs) : W p l e rmL_call s m args below meth c H locs 0 0 (MQ below (QAi g (resV (opCombine σ a bb (dcC mo) (dcD mo)).1) ((opCombine σ a bb (dcC mo) (dcD mo)).2) b Z) args s 2 65 (AA g)) (F0 m 116 ls []) := by
  have hx := C0.1; have hb := C0.2.1; have hown := C0.2.2.2.2.1; have hts := C0.2.2.2.2.2.1
  refine lv_aload_n hx hb dL_call_116 rfl (lv_at hl 3 rfl) ?_
  refine lv_iload_n hx hb dL_call_117 rfl (lv_at hl 5 rfl) ?_
  refine lv_iload_n hx hb dL_call_118 rfl (lv_at hl 6 rfl) ?_
  refine lv_iload hx hb dL_call_119 (lv_at hl 2 rfl) ?_
  refine lv_iload hx hb dL_call_121 (lv_at hl 1 rfl) ?_
  rcases hv : (opCombine σ a bb (dcC mo) (dcD mo)).1 with v | v
  · refine ar_combine (rest := []) C0 hl.1 hW hv To.rf ⟨Nat.le_of_ble_eq_true rfl, Nat.le_of_ble_eq_true rfl⟩ (Nat.le_of_ble_eq_true rfl) ⟨Nat.le_of_ble_eq_true rfl, Nat.le_of_ble_eq_true rfl⟩ dL_call_123 (fun H locs hW => ?_)
    refine lv_goto (tgt := 442) hx hb dL_call_126 rfl ?_
    exact al_iret C0 hW (Nat.le_of_ble_eq_true rfl) (Nat.le_of_ble_eq_true rfl) rfl dL_call_442
  · refine ax_combine (rest := []) hfl C0 hl.1 hW hv To.rf ⟨Nat.le_of_ble_eq_true rfl, Nat.le_of_ble_eq_true rfl⟩ (Nat.le_of_ble_eq_true rfl) ⟨Nat.le_of_ble_eq_true rfl, Nat.le_of_ble_eq_true rfl⟩ dL_call_123 (fun H locs q ce hW h1 h2 h3 => ?_)
    exact call_x C0 htb (fun _ _ => rfl) hl hW (Nat.le_of_ble_eq_true rfl) (Nat.le_of_ble_eq_true rfl) h1 h2 h3 rfl
set_option maxHeartbeats 1000000 in
theorem cr_check (hfl : l.stackTraces = false) (C0 : CX g p s m args meth c RL cL_call 10 (some .int)) (htb : c.exceptionTable.toList = tableOf [(47, 442, 443, 97), (47, 442, 448, 100), (47, 442, 453, 103)]) {w a bb : Int32} {mo : Int64} (hl : lv_has ls 10 [(8, .int (dcE mo)), (7, .int (dcD mo)), (6, .int (dcC mo)), (0, .ref (g.2.2.1 + 0)), (1, .int w), (2, .int a), (3, .int bb), (4, .long mo)]) (hW : WA g σ b Z s.heap H locs) : W p l e rmL_call s m args below meth c H locs 0 0 (MQ below (QAi g (resV (opCheck σ a bb).1) ((opCheck σ a bb).2) b Z) args s 2 65 (AA g)) (F0 m 134 ls []) := by
  have hx := C0.1; have hb := C0.2.1; have hown := C0.2.2.2.2.1; have hts := C0.2.2.2.2.2.1
  refine lv_aload_n hx hb dL_call_134 rfl (lv_at hl 3 rfl) ?_
  refine lv_iload_n hx hb dL_call_135 rfl (lv_at hl 5 rfl) ?_
  refine lv_iload_n hx hb dL_call_136 rfl (lv_at hl 6 rfl) ?_
  rcases hv : (opCheck σ a bb).1 with v | v
  · refine ar_check (rest := []) C0 hl.1 hW hv To.rf ⟨Nat.le_of_ble_eq_true rfl, Nat.le_of_ble_eq_true rfl⟩ (Nat.le_of_ble_eq_true rfl) ⟨Nat.le_of_ble_eq_true rfl, Nat.le_of_ble_eq_true rfl⟩ dL_call_137 (fun H locs hW => ?_)
    refine lv_goto (tgt := 442) hx hb dL_call_140 rfl ?_
    exact al_iret C0 hW (Nat.le_of_ble_eq_true rfl) (Nat.le_of_ble_eq_true rfl) rfl dL_call_442
  · refine ax_check (rest := []) hfl C0 hl.1 hW hv To.rf ⟨Nat.le_of_ble_eq_true rfl, Nat.le_of_ble_eq_true rfl⟩ (Nat.le_of_ble_eq_true rfl) ⟨Nat.le_of_ble_eq_true rfl, Nat.le_of_ble_eq_true rfl⟩ dL_call_137 (fun H locs q ce hW h1 h2 h3 => ?_)
    exact call_x C0 htb (fun _ _ => rfl) hl hW (Nat.le_of_ble_eq_true rfl) (Nat.le_of_ble_eq_true rfl) h1 h2 h3 rfl
set_option maxHeartbeats 1000000 in
theorem cr_remove (hfl : l.stackTraces = false) (C0 : CX g p s m args meth c RL cL_call 10 (some .int)) (htb : c.exceptionTable.toList = tableOf [(47, 442, 443, 97), (47, 442, 448, 100), (47, 442, 453, 103)]) {w a bb : Int32} {mo : Int64} (hl : lv_has ls 10 [(8, .int (dcE mo)), (7, .int (dcD mo)), (6, .int (dcC mo)), (0, .ref (g.2.2.1 + 0)), (1, .int w), (2, .int a), (3, .int bb), (4, .long mo)]) (hW : WA g σ b Z s.heap H locs) : W p l e rmL_call s m args below meth c H locs 0 0 (MQ below (QAi g (resV (opRemove σ a bb).1) ((opRemove σ a bb).2) b Z) args s 2 65 (AA g)) (F0 m 149 ls []) := by
  have hx := C0.1; have hb := C0.2.1; have hown := C0.2.2.2.2.1; have hts := C0.2.2.2.2.2.1
  refine lv_aload_n hx hb dL_call_149 rfl (lv_at hl 3 rfl) ?_
  refine lv_iload_n hx hb dL_call_150 rfl (lv_at hl 5 rfl) ?_
  refine lv_iload_n hx hb dL_call_151 rfl (lv_at hl 6 rfl) ?_
  rcases hv : (opRemove σ a bb).1 with v | v
  · refine ar_remove (rest := []) C0 hl.1 hW hv To.rf ⟨Nat.le_of_ble_eq_true rfl, Nat.le_of_ble_eq_true rfl⟩ (Nat.le_of_ble_eq_true rfl) ⟨Nat.le_of_ble_eq_true rfl, Nat.le_of_ble_eq_true rfl⟩ dL_call_152 (fun H locs hW => ?_)
    refine lv_goto (tgt := 442) hx hb dL_call_155 rfl ?_
    exact al_iret C0 hW (Nat.le_of_ble_eq_true rfl) (Nat.le_of_ble_eq_true rfl) rfl dL_call_442
  · refine ax_remove (rest := []) hfl C0 hl.1 hW hv To.rf ⟨Nat.le_of_ble_eq_true rfl, Nat.le_of_ble_eq_true rfl⟩ (Nat.le_of_ble_eq_true rfl) ⟨Nat.le_of_ble_eq_true rfl, Nat.le_of_ble_eq_true rfl⟩ dL_call_152 (fun H locs q ce hW h1 h2 h3 => ?_)
    exact call_x C0 htb (fun _ _ => rfl) hl hW (Nat.le_of_ble_eq_true rfl) (Nat.le_of_ble_eq_true rfl) h1 h2 h3 rfl
set_option maxHeartbeats 1000000 in
theorem cr_update (hfl : l.stackTraces = false) (C0 : CX g p s m args meth c RL cL_call 10 (some .int)) (htb : c.exceptionTable.toList = tableOf [(47, 442, 443, 97), (47, 442, 448, 100), (47, 442, 453, 103)]) {w a bb : Int32} {mo : Int64} (hl : lv_has ls 10 [(8, .int (dcE mo)), (7, .int (dcD mo)), (6, .int (dcC mo)), (0, .ref (g.2.2.1 + 0)), (1, .int w), (2, .int a), (3, .int bb), (4, .long mo)]) (hW : WA g σ b Z s.heap H locs) : W p l e rmL_call s m args below meth c H locs 0 0 (MQ below (QAi g (resV (opUpdate σ a bb (dcC mo) (dcD mo)).1) ((opUpdate σ a bb (dcC mo) (dcD mo)).2) b Z) args s 2 65 (AA g)) (F0 m 164 ls []) := by
  have hx := C0.1; have hb := C0.2.1; have hown := C0.2.2.2.2.1; have hts := C0.2.2.2.2.2.1
  refine lv_aload_n hx hb dL_call_164 rfl (lv_at hl 3 rfl) ?_
  refine lv_iload_n hx hb dL_call_165 rfl (lv_at hl 5 rfl) ?_
  refine lv_iload_n hx hb dL_call_166 rfl (lv_at hl 6 rfl) ?_
  refine lv_iload hx hb dL_call_167 (lv_at hl 2 rfl) ?_
  refine lv_iload hx hb dL_call_169 (lv_at hl 1 rfl) ?_
  rcases hv : (opUpdate σ a bb (dcC mo) (dcD mo)).1 with v | v
  · refine ar_update (rest := []) C0 hl.1 hW hv To.rf ⟨Nat.le_of_ble_eq_true rfl, Nat.le_of_ble_eq_true rfl⟩ (Nat.le_of_ble_eq_true rfl) ⟨Nat.le_of_ble_eq_true rfl, Nat.le_of_ble_eq_true rfl⟩ dL_call_171 (fun H locs hW => ?_)
    refine lv_goto (tgt := 442) hx hb dL_call_174 rfl ?_
    exact al_iret C0 hW (Nat.le_of_ble_eq_true rfl) (Nat.le_of_ble_eq_true rfl) rfl dL_call_442
  · refine ax_update (rest := []) hfl C0 hl.1 hW hv To.rf ⟨Nat.le_of_ble_eq_true rfl, Nat.le_of_ble_eq_true rfl⟩ (Nat.le_of_ble_eq_true rfl) ⟨Nat.le_of_ble_eq_true rfl, Nat.le_of_ble_eq_true rfl⟩ dL_call_171 (fun H locs q ce hW h1 h2 h3 => ?_)
    exact call_x C0 htb (fun _ _ => rfl) hl hW (Nat.le_of_ble_eq_true rfl) (Nat.le_of_ble_eq_true rfl) h1 h2 h3 rfl
set_option maxHeartbeats 1000000 in
theorem cr_append (hfl : l.stackTraces = false) (C0 : CX g p s m args meth c RL cL_call 10 (some .int)) (htb : c.exceptionTable.toList = tableOf [(47, 442, 443, 97), (47, 442, 448, 100), (47, 442, 453, 103)]) {w a bb : Int32} {mo : Int64} (hl : lv_has ls 10 [(8, .int (dcE mo)), (7, .int (dcD mo)), (6, .int (dcC mo)), (0, .ref (g.2.2.1 + 0)), (1, .int w), (2, .int a), (3, .int bb), (4, .long mo)]) (hW : WA g σ b Z s.heap H locs) : W p l e rmL_call s m args below meth c H locs 0 0 (MQ below (QAi g (resV (opAppend σ a).1) ((opAppend σ a).2) b Z) args s 2 65 (AA g)) (F0 m 183 ls []) := by
  have hx := C0.1; have hb := C0.2.1; have hown := C0.2.2.2.2.1; have hts := C0.2.2.2.2.2.1
  refine lv_aload_n hx hb dL_call_183 rfl (lv_at hl 3 rfl) ?_
  refine lv_iload_n hx hb dL_call_184 rfl (lv_at hl 5 rfl) ?_
  rcases hv : (opAppend σ a).1 with v | v
  · refine ar_append (rest := []) C0 hl.1 hW hv To.rf ⟨Nat.le_of_ble_eq_true rfl, Nat.le_of_ble_eq_true rfl⟩ (Nat.le_of_ble_eq_true rfl) ⟨Nat.le_of_ble_eq_true rfl, Nat.le_of_ble_eq_true rfl⟩ dL_call_185 (fun H locs hW => ?_)
    refine lv_goto (tgt := 442) hx hb dL_call_188 rfl ?_
    exact al_iret C0 hW (Nat.le_of_ble_eq_true rfl) (Nat.le_of_ble_eq_true rfl) rfl dL_call_442
  · refine ax_append (rest := []) hfl C0 hl.1 hW hv To.rf ⟨Nat.le_of_ble_eq_true rfl, Nat.le_of_ble_eq_true rfl⟩ (Nat.le_of_ble_eq_true rfl) ⟨Nat.le_of_ble_eq_true rfl, Nat.le_of_ble_eq_true rfl⟩ dL_call_185 (fun H locs q ce hW h1 h2 h3 => ?_)
    exact call_x C0 htb (fun _ _ => rfl) hl hW (Nat.le_of_ble_eq_true rfl) (Nat.le_of_ble_eq_true rfl) h1 h2 h3 rfl
set_option maxHeartbeats 1000000 in
theorem cr_undo (hfl : l.stackTraces = false) (C0 : CX g p s m args meth c RL cL_call 10 (some .int)) (htb : c.exceptionTable.toList = tableOf [(47, 442, 443, 97), (47, 442, 448, 100), (47, 442, 453, 103)]) {w a bb : Int32} {mo : Int64} (hl : lv_has ls 10 [(8, .int (dcE mo)), (7, .int (dcD mo)), (6, .int (dcC mo)), (0, .ref (g.2.2.1 + 0)), (1, .int w), (2, .int a), (3, .int bb), (4, .long mo)]) (hW : WA g σ b Z s.heap H locs) : W p l e rmL_call s m args below meth c H locs 0 0 (MQ below (QAi g (resV (opUndo σ).1) ((opUndo σ).2) b Z) args s 2 65 (AA g)) (F0 m 197 ls []) := by
  have hx := C0.1; have hb := C0.2.1; have hown := C0.2.2.2.2.1; have hts := C0.2.2.2.2.2.1
  refine lv_aload_n hx hb dL_call_197 rfl (lv_at hl 3 rfl) ?_
  rcases hv : (opUndo σ).1 with v | v
  · refine ar_undo (rest := []) C0 hl.1 hW hv To.rf ⟨Nat.le_of_ble_eq_true rfl, Nat.le_of_ble_eq_true rfl⟩ (Nat.le_of_ble_eq_true rfl) ⟨Nat.le_of_ble_eq_true rfl, Nat.le_of_ble_eq_true rfl⟩ dL_call_198 (fun H locs hW => ?_)
    refine lv_goto (tgt := 442) hx hb dL_call_201 rfl ?_
    exact al_iret C0 hW (Nat.le_of_ble_eq_true rfl) (Nat.le_of_ble_eq_true rfl) rfl dL_call_442
  · refine ax_undo (rest := []) hfl C0 hl.1 hW hv To.rf ⟨Nat.le_of_ble_eq_true rfl, Nat.le_of_ble_eq_true rfl⟩ (Nat.le_of_ble_eq_true rfl) ⟨Nat.le_of_ble_eq_true rfl, Nat.le_of_ble_eq_true rfl⟩ dL_call_198 (fun H locs q ce hW h1 h2 h3 => ?_)
    exact call_x C0 htb (fun _ _ => rfl) hl hW (Nat.le_of_ble_eq_true rfl) (Nat.le_of_ble_eq_true rfl) h1 h2 h3 rfl
set_option maxHeartbeats 1000000 in
theorem cr_keep (hfl : l.stackTraces = false) (C0 : CX g p s m args meth c RL cL_call 10 (some .int)) (htb : c.exceptionTable.toList = tableOf [(47, 442, 443, 97), (47, 442, 448, 100), (47, 442, 453, 103)]) {w a bb : Int32} {mo : Int64} (hl : lv_has ls 10 [(8, .int (dcE mo)), (7, .int (dcD mo)), (6, .int (dcC mo)), (0, .ref (g.2.2.1 + 0)), (1, .int w), (2, .int a), (3, .int bb), (4, .long mo)]) (hW : WA g σ b Z s.heap H locs) : W p l e rmL_call s m args below meth c H locs 0 0 (MQ below (QAi g (resV (opKeep σ a).1) ((opKeep σ a).2) b Z) args s 2 65 (AA g)) (F0 m 210 ls []) := by
  have hx := C0.1; have hb := C0.2.1; have hown := C0.2.2.2.2.1; have hts := C0.2.2.2.2.2.1
  refine lv_aload_n hx hb dL_call_210 rfl (lv_at hl 3 rfl) ?_
  refine lv_iload_n hx hb dL_call_211 rfl (lv_at hl 5 rfl) ?_
  rcases hv : (opKeep σ a).1 with v | v
  · refine ar_keep (rest := []) C0 hl.1 hW hv To.rf ⟨Nat.le_of_ble_eq_true rfl, Nat.le_of_ble_eq_true rfl⟩ (Nat.le_of_ble_eq_true rfl) ⟨Nat.le_of_ble_eq_true rfl, Nat.le_of_ble_eq_true rfl⟩ dL_call_212 (fun H locs hW => ?_)
    refine lv_goto (tgt := 442) hx hb dL_call_215 rfl ?_
    exact al_iret C0 hW (Nat.le_of_ble_eq_true rfl) (Nat.le_of_ble_eq_true rfl) rfl dL_call_442
  · refine ax_keep (rest := []) hfl C0 hl.1 hW hv To.rf ⟨Nat.le_of_ble_eq_true rfl, Nat.le_of_ble_eq_true rfl⟩ (Nat.le_of_ble_eq_true rfl) ⟨Nat.le_of_ble_eq_true rfl, Nat.le_of_ble_eq_true rfl⟩ dL_call_212 (fun H locs q ce hW h1 h2 h3 => ?_)
    exact call_x C0 htb (fun _ _ => rfl) hl hW (Nat.le_of_ble_eq_true rfl) (Nat.le_of_ble_eq_true rfl) h1 h2 h3 rfl
set_option maxHeartbeats 1000000 in
theorem cr_goBack (hfl : l.stackTraces = false) (C0 : CX g p s m args meth c RL cL_call 10 (some .int)) (htb : c.exceptionTable.toList = tableOf [(47, 442, 443, 97), (47, 442, 448, 100), (47, 442, 453, 103)]) {w a bb : Int32} {mo : Int64} (hl : lv_has ls 10 [(8, .int (dcE mo)), (7, .int (dcD mo)), (6, .int (dcC mo)), (0, .ref (g.2.2.1 + 0)), (1, .int w), (2, .int a), (3, .int bb), (4, .long mo)]) (hW : WA g σ b Z s.heap H locs) : W p l e rmL_call s m args below meth c H locs 0 0 (MQ below (QAi g (resV (opGoBack σ a).1) ((opGoBack σ a).2) b Z) args s 2 65 (AA g)) (F0 m 224 ls []) := by
  have hx := C0.1; have hb := C0.2.1; have hown := C0.2.2.2.2.1; have hts := C0.2.2.2.2.2.1
  refine lv_aload_n hx hb dL_call_224 rfl (lv_at hl 3 rfl) ?_
  refine lv_iload_n hx hb dL_call_225 rfl (lv_at hl 5 rfl) ?_
  rcases hv : (opGoBack σ a).1 with v | v
  · refine ar_goBack (rest := []) C0 hl.1 hW hv To.rf ⟨Nat.le_of_ble_eq_true rfl, Nat.le_of_ble_eq_true rfl⟩ (Nat.le_of_ble_eq_true rfl) ⟨Nat.le_of_ble_eq_true rfl, Nat.le_of_ble_eq_true rfl⟩ dL_call_226 (fun H locs hW => ?_)
    refine lv_goto (tgt := 442) hx hb dL_call_229 rfl ?_
    exact al_iret C0 hW (Nat.le_of_ble_eq_true rfl) (Nat.le_of_ble_eq_true rfl) rfl dL_call_442
  · refine ax_goBack (rest := []) hfl C0 hl.1 hW hv To.rf ⟨Nat.le_of_ble_eq_true rfl, Nat.le_of_ble_eq_true rfl⟩ (Nat.le_of_ble_eq_true rfl) ⟨Nat.le_of_ble_eq_true rfl, Nat.le_of_ble_eq_true rfl⟩ dL_call_226 (fun H locs q ce hW h1 h2 h3 => ?_)
    exact call_x C0 htb (fun _ _ => rfl) hl hW (Nat.le_of_ble_eq_true rfl) (Nat.le_of_ble_eq_true rfl) h1 h2 h3 rfl
set_option maxHeartbeats 1000000 in
theorem cr_cell (hfl : l.stackTraces = false) (C0 : CX g p s m args meth c RL cL_call 10 (some .int)) (htb : c.exceptionTable.toList = tableOf [(47, 442, 443, 97), (47, 442, 448, 100), (47, 442, 453, 103)]) {w a bb : Int32} {mo : Int64} (hl : lv_has ls 10 [(8, .int (dcE mo)), (7, .int (dcD mo)), (6, .int (dcC mo)), (0, .ref (g.2.2.1 + 0)), (1, .int w), (2, .int a), (3, .int bb), (4, .long mo)]) (hW : WA g σ b Z s.heap H locs) : W p l e rmL_call s m args below meth c H locs 0 0 (MQ below (QAi g (resV (opCell σ.1 a bb (dcC mo))) (σ) b Z) args s 2 65 (AA g)) (F0 m 238 ls []) := by
  have hx := C0.1; have hb := C0.2.1; have hown := C0.2.2.2.2.1; have hts := C0.2.2.2.2.2.1
  refine lv_aload_n hx hb dL_call_238 rfl (lv_at hl 3 rfl) ?_
  refine lv_iload_n hx hb dL_call_239 rfl (lv_at hl 5 rfl) ?_
  refine lv_iload_n hx hb dL_call_240 rfl (lv_at hl 6 rfl) ?_
  refine lv_iload hx hb dL_call_241 (lv_at hl 2 rfl) ?_
  rcases hv : opCell σ.1 a bb (dcC mo) with v | v
  · refine ar_cell (rest := []) C0 hl.1 hW hv ⟨Nat.le_of_ble_eq_true rfl, Nat.le_of_ble_eq_true rfl⟩ (Nat.le_of_ble_eq_true rfl) ⟨Nat.le_of_ble_eq_true rfl, Nat.le_of_ble_eq_true rfl⟩ dL_call_243 (fun H locs hW => ?_)
    refine lv_goto (tgt := 442) hx hb dL_call_246 rfl ?_
    exact al_iret C0 hW (Nat.le_of_ble_eq_true rfl) (Nat.le_of_ble_eq_true rfl) rfl dL_call_442
  · refine ax_cell (rest := []) hfl C0 hl.1 hW hv ⟨Nat.le_of_ble_eq_true rfl, Nat.le_of_ble_eq_true rfl⟩ (Nat.le_of_ble_eq_true rfl) ⟨Nat.le_of_ble_eq_true rfl, Nat.le_of_ble_eq_true rfl⟩ dL_call_243 (fun H locs q ce hW h1 h2 h3 => ?_)
    exact call_x C0 htb (fun _ _ => rfl) hl hW (Nat.le_of_ble_eq_true rfl) (Nat.le_of_ble_eq_true rfl) h1 h2 h3 rfl
set_option maxHeartbeats 1000000 in
theorem cr_column (hfl : l.stackTraces = false) (C0 : CX g p s m args meth c RL cL_call 10 (some .int)) (htb : c.exceptionTable.toList = tableOf [(47, 442, 443, 97), (47, 442, 448, 100), (47, 442, 453, 103)]) {w a bb : Int32} {mo : Int64} (hl : lv_has ls 10 [(8, .int (dcE mo)), (7, .int (dcD mo)), (6, .int (dcC mo)), (0, .ref (g.2.2.1 + 0)), (1, .int w), (2, .int a), (3, .int bb), (4, .long mo)]) (hW : WA g σ b Z s.heap H locs) : W p l e rmL_call s m args below meth c H locs 0 0 (MQ below (QAi g (resV (opColumn σ.1 a bb (dcC mo))) (σ) b Z) args s 2 65 (AA g)) (F0 m 255 ls []) := by
  have hx := C0.1; have hb := C0.2.1; have hown := C0.2.2.2.2.1; have hts := C0.2.2.2.2.2.1
  refine lv_aload_n hx hb dL_call_255 rfl (lv_at hl 3 rfl) ?_
  refine lv_iload_n hx hb dL_call_256 rfl (lv_at hl 5 rfl) ?_
  refine lv_iload_n hx hb dL_call_257 rfl (lv_at hl 6 rfl) ?_
  refine lv_iload hx hb dL_call_258 (lv_at hl 2 rfl) ?_
  rcases hv : opColumn σ.1 a bb (dcC mo) with v | v
  · refine ar_column (rest := []) C0 hl.1 hW hv ⟨Nat.le_of_ble_eq_true rfl, Nat.le_of_ble_eq_true rfl⟩ (Nat.le_of_ble_eq_true rfl) ⟨Nat.le_of_ble_eq_true rfl, Nat.le_of_ble_eq_true rfl⟩ dL_call_260 (fun H locs hW => ?_)
    refine lv_goto (tgt := 442) hx hb dL_call_263 rfl ?_
    exact al_iret C0 hW (Nat.le_of_ble_eq_true rfl) (Nat.le_of_ble_eq_true rfl) rfl dL_call_442
  · refine ax_column (rest := []) hfl C0 hl.1 hW hv ⟨Nat.le_of_ble_eq_true rfl, Nat.le_of_ble_eq_true rfl⟩ (Nat.le_of_ble_eq_true rfl) ⟨Nat.le_of_ble_eq_true rfl, Nat.le_of_ble_eq_true rfl⟩ dL_call_260 (fun H locs q ce hW h1 h2 h3 => ?_)
    exact call_x C0 htb (fun _ _ => rfl) hl hW (Nat.le_of_ble_eq_true rfl) (Nat.le_of_ble_eq_true rfl) h1 h2 h3 rfl
set_option maxHeartbeats 1000000 in
theorem cr_group (hfl : l.stackTraces = false) (C0 : CX g p s m args meth c RL cL_call 10 (some .int)) (htb : c.exceptionTable.toList = tableOf [(47, 442, 443, 97), (47, 442, 448, 100), (47, 442, 453, 103)]) {w a bb : Int32} {mo : Int64} (hl : lv_has ls 10 [(8, .int (dcE mo)), (7, .int (dcD mo)), (6, .int (dcC mo)), (0, .ref (g.2.2.1 + 0)), (1, .int w), (2, .int a), (3, .int bb), (4, .long mo)]) (hW : WA g σ b Z s.heap H locs) : W p l e rmL_call s m args below meth c H locs 0 0 (MQ below (QAi g (resV (opGroup σ.1 a bb (dcC mo) (dcD mo))) (σ) b Z) args s 2 65 (AA g)) (F0 m 272 ls []) := by
  have hx := C0.1; have hb := C0.2.1; have hown := C0.2.2.2.2.1; have hts := C0.2.2.2.2.2.1
  refine lv_aload_n hx hb dL_call_272 rfl (lv_at hl 3 rfl) ?_
  refine lv_iload_n hx hb dL_call_273 rfl (lv_at hl 5 rfl) ?_
  refine lv_iload_n hx hb dL_call_274 rfl (lv_at hl 6 rfl) ?_
  refine lv_iload hx hb dL_call_275 (lv_at hl 2 rfl) ?_
  refine lv_iload hx hb dL_call_277 (lv_at hl 1 rfl) ?_
  rcases hv : opGroup σ.1 a bb (dcC mo) (dcD mo) with v | v
  · refine ar_group (rest := []) C0 hl.1 hW hv ⟨Nat.le_of_ble_eq_true rfl, Nat.le_of_ble_eq_true rfl⟩ (Nat.le_of_ble_eq_true rfl) ⟨Nat.le_of_ble_eq_true rfl, Nat.le_of_ble_eq_true rfl⟩ dL_call_279 (fun H locs hW => ?_)
    refine lv_goto (tgt := 442) hx hb dL_call_282 rfl ?_
    exact al_iret C0 hW (Nat.le_of_ble_eq_true rfl) (Nat.le_of_ble_eq_true rfl) rfl dL_call_442
  · refine ax_group (rest := []) hfl C0 hl.1 hW hv ⟨Nat.le_of_ble_eq_true rfl, Nat.le_of_ble_eq_true rfl⟩ (Nat.le_of_ble_eq_true rfl) ⟨Nat.le_of_ble_eq_true rfl, Nat.le_of_ble_eq_true rfl⟩ dL_call_279 (fun H locs q ce hW h1 h2 h3 => ?_)
    exact call_x C0 htb (fun _ _ => rfl) hl hW (Nat.le_of_ble_eq_true rfl) (Nat.le_of_ble_eq_true rfl) h1 h2 h3 rfl
set_option maxHeartbeats 1000000 in
theorem cr_truth (hfl : l.stackTraces = false) (C0 : CX g p s m args meth c RL cL_call 10 (some .int)) (htb : c.exceptionTable.toList = tableOf [(47, 442, 443, 97), (47, 442, 448, 100), (47, 442, 453, 103)]) {w a bb : Int32} {mo : Int64} (hl : lv_has ls 10 [(8, .int (dcE mo)), (7, .int (dcD mo)), (6, .int (dcC mo)), (0, .ref (g.2.2.1 + 0)), (1, .int w), (2, .int a), (3, .int bb), (4, .long mo)]) (hW : WA g σ b Z s.heap H locs) : W p l e rmL_call s m args below meth c H locs 0 0 (MQ below (QAi g (resV (opTruth σ.1 a bb (dcC mo))) (σ) b Z) args s 2 65 (AA g)) (F0 m 291 ls []) := by
  have hx := C0.1; have hb := C0.2.1; have hown := C0.2.2.2.2.1; have hts := C0.2.2.2.2.2.1
  refine lv_aload_n hx hb dL_call_291 rfl (lv_at hl 3 rfl) ?_
  refine lv_iload_n hx hb dL_call_292 rfl (lv_at hl 5 rfl) ?_
  refine lv_iload_n hx hb dL_call_293 rfl (lv_at hl 6 rfl) ?_
  refine lv_iload hx hb dL_call_294 (lv_at hl 2 rfl) ?_
  rcases hv : opTruth σ.1 a bb (dcC mo) with v | v
  · refine ar_truth (rest := []) C0 hl.1 hW hv ⟨Nat.le_of_ble_eq_true rfl, Nat.le_of_ble_eq_true rfl⟩ (Nat.le_of_ble_eq_true rfl) ⟨Nat.le_of_ble_eq_true rfl, Nat.le_of_ble_eq_true rfl⟩ dL_call_296 (fun H locs hW => ?_)
    refine lv_goto (tgt := 442) hx hb dL_call_299 rfl ?_
    exact al_iret C0 hW (Nat.le_of_ble_eq_true rfl) (Nat.le_of_ble_eq_true rfl) rfl dL_call_442
  · refine ax_truth (rest := []) hfl C0 hl.1 hW hv ⟨Nat.le_of_ble_eq_true rfl, Nat.le_of_ble_eq_true rfl⟩ (Nat.le_of_ble_eq_true rfl) ⟨Nat.le_of_ble_eq_true rfl, Nat.le_of_ble_eq_true rfl⟩ dL_call_296 (fun H locs q ce hW h1 h2 h3 => ?_)
    exact call_x C0 htb (fun _ _ => rfl) hl hW (Nat.le_of_ble_eq_true rfl) (Nat.le_of_ble_eq_true rfl) h1 h2 h3 rfl
set_option maxHeartbeats 1000000 in
theorem cr_rows (hfl : l.stackTraces = false) (C0 : CX g p s m args meth c RL cL_call 10 (some .int)) (htb : c.exceptionTable.toList = tableOf [(47, 442, 443, 97), (47, 442, 448, 100), (47, 442, 453, 103)]) {w a bb : Int32} {mo : Int64} (hl : lv_has ls 10 [(8, .int (dcE mo)), (7, .int (dcD mo)), (6, .int (dcC mo)), (0, .ref (g.2.2.1 + 0)), (1, .int w), (2, .int a), (3, .int bb), (4, .long mo)]) (hW : WA g σ b Z s.heap H locs) : W p l e rmL_call s m args below meth c H locs 0 0 (MQ below (QAi g (resV (opRows σ.1 a bb (dcC mo) (dcD mo))) (σ) b Z) args s 2 65 (AA g)) (F0 m 308 ls []) := by
  have hx := C0.1; have hb := C0.2.1; have hown := C0.2.2.2.2.1; have hts := C0.2.2.2.2.2.1
  refine lv_aload_n hx hb dL_call_308 rfl (lv_at hl 3 rfl) ?_
  refine lv_iload_n hx hb dL_call_309 rfl (lv_at hl 5 rfl) ?_
  refine lv_iload_n hx hb dL_call_310 rfl (lv_at hl 6 rfl) ?_
  refine lv_iload hx hb dL_call_311 (lv_at hl 2 rfl) ?_
  refine lv_iload hx hb dL_call_313 (lv_at hl 1 rfl) ?_
  rcases hv : opRows σ.1 a bb (dcC mo) (dcD mo) with v | v
  · refine ar_rows (rest := []) C0 hl.1 hW hv ⟨Nat.le_of_ble_eq_true rfl, Nat.le_of_ble_eq_true rfl⟩ (Nat.le_of_ble_eq_true rfl) ⟨Nat.le_of_ble_eq_true rfl, Nat.le_of_ble_eq_true rfl⟩ dL_call_315 (fun H locs hW => ?_)
    refine lv_goto (tgt := 442) hx hb dL_call_318 rfl ?_
    exact al_iret C0 hW (Nat.le_of_ble_eq_true rfl) (Nat.le_of_ble_eq_true rfl) rfl dL_call_442
  · refine ax_rows (rest := []) hfl C0 hl.1 hW hv ⟨Nat.le_of_ble_eq_true rfl, Nat.le_of_ble_eq_true rfl⟩ (Nat.le_of_ble_eq_true rfl) ⟨Nat.le_of_ble_eq_true rfl, Nat.le_of_ble_eq_true rfl⟩ dL_call_315 (fun H locs q ce hW h1 h2 h3 => ?_)
    exact call_x C0 htb (fun _ _ => rfl) hl hW (Nat.le_of_ble_eq_true rfl) (Nat.le_of_ble_eq_true rfl) h1 h2 h3 rfl
set_option maxHeartbeats 1000000 in
theorem cr_filter (hfl : l.stackTraces = false) (C0 : CX g p s m args meth c RL cL_call 10 (some .int)) (htb : c.exceptionTable.toList = tableOf [(47, 442, 443, 97), (47, 442, 448, 100), (47, 442, 453, 103)]) {w a bb : Int32} {mo : Int64} (hl : lv_has ls 10 [(8, .int (dcE mo)), (7, .int (dcD mo)), (6, .int (dcC mo)), (0, .ref (g.2.2.1 + 0)), (1, .int w), (2, .int a), (3, .int bb), (4, .long mo)]) (hW : WA g σ b Z s.heap H locs) : W p l e rmL_call s m args below meth c H locs 0 0 (MQ below (QAi g (resV (opFilter σ.1 a bb)) (σ) b Z) args s 2 65 (AA g)) (F0 m 327 ls []) := by
  have hx := C0.1; have hb := C0.2.1; have hown := C0.2.2.2.2.1; have hts := C0.2.2.2.2.2.1
  refine lv_aload_n hx hb dL_call_327 rfl (lv_at hl 3 rfl) ?_
  refine lv_iload_n hx hb dL_call_328 rfl (lv_at hl 5 rfl) ?_
  refine lv_iload_n hx hb dL_call_329 rfl (lv_at hl 6 rfl) ?_
  rcases hv : opFilter σ.1 a bb with v | v
  · refine ar_filter (rest := []) C0 hl.1 hW hv ⟨Nat.le_of_ble_eq_true rfl, Nat.le_of_ble_eq_true rfl⟩ (Nat.le_of_ble_eq_true rfl) ⟨Nat.le_of_ble_eq_true rfl, Nat.le_of_ble_eq_true rfl⟩ dL_call_330 (fun H locs hW => ?_)
    refine lv_goto (tgt := 442) hx hb dL_call_333 rfl ?_
    exact al_iret C0 hW (Nat.le_of_ble_eq_true rfl) (Nat.le_of_ble_eq_true rfl) rfl dL_call_442
  · refine ax_filter (rest := []) hfl C0 hl.1 hW hv ⟨Nat.le_of_ble_eq_true rfl, Nat.le_of_ble_eq_true rfl⟩ (Nat.le_of_ble_eq_true rfl) ⟨Nat.le_of_ble_eq_true rfl, Nat.le_of_ble_eq_true rfl⟩ dL_call_330 (fun H locs q ce hW h1 h2 h3 => ?_)
    exact call_x C0 htb (fun _ _ => rfl) hl hW (Nat.le_of_ble_eq_true rfl) (Nat.le_of_ble_eq_true rfl) h1 h2 h3 rfl
set_option maxHeartbeats 1000000 in
theorem cr_letter (hfl : l.stackTraces = false) (C0 : CX g p s m args meth c RL cL_call 10 (some .int)) (htb : c.exceptionTable.toList = tableOf [(47, 442, 443, 97), (47, 442, 448, 100), (47, 442, 453, 103)]) {w a bb : Int32} {mo : Int64} (hl : lv_has ls 10 [(8, .int (dcE mo)), (7, .int (dcD mo)), (6, .int (dcC mo)), (0, .ref (g.2.2.1 + 0)), (1, .int w), (2, .int a), (3, .int bb), (4, .long mo)]) (hW : WA g σ b Z s.heap H locs) : W p l e rmL_call s m args below meth c H locs 0 0 (MQ below (QAi g (resV (opLetter σ.1 a bb)) (σ) b Z) args s 2 65 (AA g)) (F0 m 342 ls []) := by
  have hx := C0.1; have hb := C0.2.1; have hown := C0.2.2.2.2.1; have hts := C0.2.2.2.2.2.1
  refine lv_aload_n hx hb dL_call_342 rfl (lv_at hl 3 rfl) ?_
  refine lv_iload_n hx hb dL_call_343 rfl (lv_at hl 5 rfl) ?_
  refine lv_iload_n hx hb dL_call_344 rfl (lv_at hl 6 rfl) ?_
  rcases hv : opLetter σ.1 a bb with v | v
  · refine ar_letter (rest := []) C0 hl.1 hW hv ⟨Nat.le_of_ble_eq_true rfl, Nat.le_of_ble_eq_true rfl⟩ (Nat.le_of_ble_eq_true rfl) ⟨Nat.le_of_ble_eq_true rfl, Nat.le_of_ble_eq_true rfl⟩ dL_call_345 (fun H locs hW => ?_)
    refine lv_goto (tgt := 442) hx hb dL_call_348 rfl ?_
    exact al_iret C0 hW (Nat.le_of_ble_eq_true rfl) (Nat.le_of_ble_eq_true rfl) rfl dL_call_442
  · refine ax_letter (rest := []) hfl C0 hl.1 hW hv ⟨Nat.le_of_ble_eq_true rfl, Nat.le_of_ble_eq_true rfl⟩ (Nat.le_of_ble_eq_true rfl) ⟨Nat.le_of_ble_eq_true rfl, Nat.le_of_ble_eq_true rfl⟩ dL_call_345 (fun H locs q ce hW h1 h2 h3 => ?_)
    exact call_x C0 htb (fun _ _ => rfl) hl hW (Nat.le_of_ble_eq_true rfl) (Nat.le_of_ble_eq_true rfl) h1 h2 h3 rfl
set_option maxHeartbeats 1000000 in
theorem cr_compare (hfl : l.stackTraces = false) (C0 : CX g p s m args meth c RL cL_call 10 (some .int)) (htb : c.exceptionTable.toList = tableOf [(47, 442, 443, 97), (47, 442, 448, 100), (47, 442, 453, 103)]) {w a bb : Int32} {mo : Int64} (hl : lv_has ls 10 [(8, .int (dcE mo)), (7, .int (dcD mo)), (6, .int (dcC mo)), (0, .ref (g.2.2.1 + 0)), (1, .int w), (2, .int a), (3, .int bb), (4, .long mo)]) (hW : WA g σ b Z s.heap H locs) : W p l e rmL_call s m args below meth c H locs 0 0 (MQ below (QAi g (resV (opCompare σ.1 a bb (dcC mo) (dcD mo))) (σ) b Z) args s 2 65 (AA g)) (F0 m 357 ls []) := by
  have hx := C0.1; have hb := C0.2.1; have hown := C0.2.2.2.2.1; have hts := C0.2.2.2.2.2.1
  refine lv_aload_n hx hb dL_call_357 rfl (lv_at hl 3 rfl) ?_
  refine lv_iload_n hx hb dL_call_358 rfl (lv_at hl 5 rfl) ?_
  refine lv_iload_n hx hb dL_call_359 rfl (lv_at hl 6 rfl) ?_
  refine lv_iload hx hb dL_call_360 (lv_at hl 2 rfl) ?_
  refine lv_iload hx hb dL_call_362 (lv_at hl 1 rfl) ?_
  rcases hv : opCompare σ.1 a bb (dcC mo) (dcD mo) with v | v
  · refine ar_compare (rest := []) C0 hl.1 hW hv ⟨Nat.le_of_ble_eq_true rfl, Nat.le_of_ble_eq_true rfl⟩ (Nat.le_of_ble_eq_true rfl) ⟨Nat.le_of_ble_eq_true rfl, Nat.le_of_ble_eq_true rfl⟩ dL_call_364 (fun H locs hW => ?_)
    refine lv_goto (tgt := 442) hx hb dL_call_367 rfl ?_
    exact al_iret C0 hW (Nat.le_of_ble_eq_true rfl) (Nat.le_of_ble_eq_true rfl) rfl dL_call_442
  · refine ax_compare (rest := []) hfl C0 hl.1 hW hv ⟨Nat.le_of_ble_eq_true rfl, Nat.le_of_ble_eq_true rfl⟩ (Nat.le_of_ble_eq_true rfl) ⟨Nat.le_of_ble_eq_true rfl, Nat.le_of_ble_eq_true rfl⟩ dL_call_364 (fun H locs q ce hW h1 h2 h3 => ?_)
    exact call_x C0 htb (fun _ _ => rfl) hl hW (Nat.le_of_ble_eq_true rfl) (Nat.le_of_ble_eq_true rfl) h1 h2 h3 rfl
set_option maxHeartbeats 1000000 in
theorem cr_certain (hfl : l.stackTraces = false) (C0 : CX g p s m args meth c RL cL_call 10 (some .int)) (htb : c.exceptionTable.toList = tableOf [(47, 442, 443, 97), (47, 442, 448, 100), (47, 442, 453, 103)]) {w a bb : Int32} {mo : Int64} (hl : lv_has ls 10 [(8, .int (dcE mo)), (7, .int (dcD mo)), (6, .int (dcC mo)), (0, .ref (g.2.2.1 + 0)), (1, .int w), (2, .int a), (3, .int bb), (4, .long mo)]) (hW : WA g σ b Z s.heap H locs) : W p l e rmL_call s m args below meth c H locs 0 0 (MQ below (QAi g (resV (opCertain σ.1 a bb (dcC mo))) (σ) b Z) args s 2 65 (AA g)) (F0 m 376 ls []) := by
  have hx := C0.1; have hb := C0.2.1; have hown := C0.2.2.2.2.1; have hts := C0.2.2.2.2.2.1
  refine lv_aload_n hx hb dL_call_376 rfl (lv_at hl 3 rfl) ?_
  refine lv_iload_n hx hb dL_call_377 rfl (lv_at hl 5 rfl) ?_
  refine lv_iload_n hx hb dL_call_378 rfl (lv_at hl 6 rfl) ?_
  refine lv_iload hx hb dL_call_379 (lv_at hl 2 rfl) ?_
  rcases hv : opCertain σ.1 a bb (dcC mo) with v | v
  · refine ar_certain (rest := []) C0 hl.1 hW hv ⟨Nat.le_of_ble_eq_true rfl, Nat.le_of_ble_eq_true rfl⟩ (Nat.le_of_ble_eq_true rfl) ⟨Nat.le_of_ble_eq_true rfl, Nat.le_of_ble_eq_true rfl⟩ dL_call_381 (fun H locs hW => ?_)
    refine lv_goto (tgt := 442) hx hb dL_call_384 rfl ?_
    exact al_iret C0 hW (Nat.le_of_ble_eq_true rfl) (Nat.le_of_ble_eq_true rfl) rfl dL_call_442
  · refine ax_certain (rest := []) hfl C0 hl.1 hW hv ⟨Nat.le_of_ble_eq_true rfl, Nat.le_of_ble_eq_true rfl⟩ (Nat.le_of_ble_eq_true rfl) ⟨Nat.le_of_ble_eq_true rfl, Nat.le_of_ble_eq_true rfl⟩ dL_call_381 (fun H locs q ce hW h1 h2 h3 => ?_)
    exact call_x C0 htb (fun _ _ => rfl) hl hW (Nat.le_of_ble_eq_true rfl) (Nat.le_of_ble_eq_true rfl) h1 h2 h3 rfl
set_option maxHeartbeats 1000000 in
theorem cr_join (hfl : l.stackTraces = false) (C0 : CX g p s m args meth c RL cL_call 10 (some .int)) (htb : c.exceptionTable.toList = tableOf [(47, 442, 443, 97), (47, 442, 448, 100), (47, 442, 453, 103)]) {w a bb : Int32} {mo : Int64} (hl : lv_has ls 10 [(8, .int (dcE mo)), (7, .int (dcD mo)), (6, .int (dcC mo)), (0, .ref (g.2.2.1 + 0)), (1, .int w), (2, .int a), (3, .int bb), (4, .long mo)]) (hW : WA g σ b Z s.heap H locs) : W p l e rmL_call s m args below meth c H locs 0 0 (MQ below (QAi g (resV (opJoin σ.1 a bb (dcC mo))) (σ) b Z) args s 2 65 (AA g)) (F0 m 393 ls []) := by
  have hx := C0.1; have hb := C0.2.1; have hown := C0.2.2.2.2.1; have hts := C0.2.2.2.2.2.1
  refine lv_aload_n hx hb dL_call_393 rfl (lv_at hl 3 rfl) ?_
  refine lv_iload_n hx hb dL_call_394 rfl (lv_at hl 5 rfl) ?_
  refine lv_iload_n hx hb dL_call_395 rfl (lv_at hl 6 rfl) ?_
  refine lv_iload hx hb dL_call_396 (lv_at hl 2 rfl) ?_
  rcases hv : opJoin σ.1 a bb (dcC mo) with v | v
  · refine ar_join (rest := []) C0 hl.1 hW hv ⟨Nat.le_of_ble_eq_true rfl, Nat.le_of_ble_eq_true rfl⟩ (Nat.le_of_ble_eq_true rfl) ⟨Nat.le_of_ble_eq_true rfl, Nat.le_of_ble_eq_true rfl⟩ dL_call_398 (fun H locs hW => ?_)
    refine lv_goto (tgt := 442) hx hb dL_call_401 rfl ?_
    exact al_iret C0 hW (Nat.le_of_ble_eq_true rfl) (Nat.le_of_ble_eq_true rfl) rfl dL_call_442
  · refine ax_join (rest := []) hfl C0 hl.1 hW hv ⟨Nat.le_of_ble_eq_true rfl, Nat.le_of_ble_eq_true rfl⟩ (Nat.le_of_ble_eq_true rfl) ⟨Nat.le_of_ble_eq_true rfl, Nat.le_of_ble_eq_true rfl⟩ dL_call_398 (fun H locs q ce hW h1 h2 h3 => ?_)
    exact call_x C0 htb (fun _ _ => rfl) hl hW (Nat.le_of_ble_eq_true rfl) (Nat.le_of_ble_eq_true rfl) h1 h2 h3 rfl
set_option maxHeartbeats 1000000 in
theorem cr_among (hfl : l.stackTraces = false) (C0 : CX g p s m args meth c RL cL_call 10 (some .int)) (htb : c.exceptionTable.toList = tableOf [(47, 442, 443, 97), (47, 442, 448, 100), (47, 442, 453, 103)]) {w a bb : Int32} {mo : Int64} (hl : lv_has ls 10 [(8, .int (dcE mo)), (7, .int (dcD mo)), (6, .int (dcC mo)), (0, .ref (g.2.2.1 + 0)), (1, .int w), (2, .int a), (3, .int bb), (4, .long mo)]) (hW : WA g σ b Z s.heap H locs) : W p l e rmL_call s m args below meth c H locs 0 0 (MQ below (QAi g (resV (opAmong σ.1 a bb (dcC mo))) (σ) b Z) args s 2 65 (AA g)) (F0 m 410 ls []) := by
  have hx := C0.1; have hb := C0.2.1; have hown := C0.2.2.2.2.1; have hts := C0.2.2.2.2.2.1
  refine lv_aload_n hx hb dL_call_410 rfl (lv_at hl 3 rfl) ?_
  refine lv_iload_n hx hb dL_call_411 rfl (lv_at hl 5 rfl) ?_
  refine lv_iload_n hx hb dL_call_412 rfl (lv_at hl 6 rfl) ?_
  refine lv_iload hx hb dL_call_413 (lv_at hl 2 rfl) ?_
  rcases hv : opAmong σ.1 a bb (dcC mo) with v | v
  · refine ar_among (rest := []) C0 hl.1 hW hv ⟨Nat.le_of_ble_eq_true rfl, Nat.le_of_ble_eq_true rfl⟩ (Nat.le_of_ble_eq_true rfl) ⟨Nat.le_of_ble_eq_true rfl, Nat.le_of_ble_eq_true rfl⟩ dL_call_415 (fun H locs hW => ?_)
    refine lv_goto (tgt := 442) hx hb dL_call_418 rfl ?_
    exact al_iret C0 hW (Nat.le_of_ble_eq_true rfl) (Nat.le_of_ble_eq_true rfl) rfl dL_call_442
  · refine ax_among (rest := []) hfl C0 hl.1 hW hv ⟨Nat.le_of_ble_eq_true rfl, Nat.le_of_ble_eq_true rfl⟩ (Nat.le_of_ble_eq_true rfl) ⟨Nat.le_of_ble_eq_true rfl, Nat.le_of_ble_eq_true rfl⟩ dL_call_415 (fun H locs q ce hW h1 h2 h3 => ?_)
    exact call_x C0 htb (fun _ _ => rfl) hl hW (Nat.le_of_ble_eq_true rfl) (Nat.le_of_ble_eq_true rfl) h1 h2 h3 rfl
set_option maxHeartbeats 1000000 in
theorem cr_count (hfl : l.stackTraces = false) (C0 : CX g p s m args meth c RL cL_call 10 (some .int)) (htb : c.exceptionTable.toList = tableOf [(47, 442, 443, 97), (47, 442, 448, 100), (47, 442, 453, 103)]) {w a bb : Int32} {mo : Int64} (hl : lv_has ls 10 [(8, .int (dcE mo)), (7, .int (dcD mo)), (6, .int (dcC mo)), (0, .ref (g.2.2.1 + 0)), (1, .int w), (2, .int a), (3, .int bb), (4, .long mo)]) (hW : WA g σ b Z s.heap H locs) : W p l e rmL_call s m args below meth c H locs 0 0 (MQ below (QAi g (resV (opCount σ a)) (σ) b Z) args s 2 65 (AA g)) (F0 m 427 ls []) := by
  have hx := C0.1; have hb := C0.2.1; have hown := C0.2.2.2.2.1; have hts := C0.2.2.2.2.2.1
  refine lv_aload_n hx hb dL_call_427 rfl (lv_at hl 3 rfl) ?_
  refine lv_iload_n hx hb dL_call_428 rfl (lv_at hl 5 rfl) ?_
  rcases hv : opCount σ a with v | v
  · refine ar_count (rest := []) C0 hl.1 hW hv ⟨Nat.le_of_ble_eq_true rfl, Nat.le_of_ble_eq_true rfl⟩ (Nat.le_of_ble_eq_true rfl) ⟨Nat.le_of_ble_eq_true rfl, Nat.le_of_ble_eq_true rfl⟩ dL_call_429 (fun H locs hW => ?_)
    refine lv_goto (tgt := 442) hx hb dL_call_432 rfl ?_
    exact al_iret C0 hW (Nat.le_of_ble_eq_true rfl) (Nat.le_of_ble_eq_true rfl) rfl dL_call_442
  · refine ax_count (rest := []) hfl C0 hl.1 hW hv ⟨Nat.le_of_ble_eq_true rfl, Nat.le_of_ble_eq_true rfl⟩ (Nat.le_of_ble_eq_true rfl) ⟨Nat.le_of_ble_eq_true rfl, Nat.le_of_ble_eq_true rfl⟩ dL_call_429 (fun H locs q ce hW h1 h2 h3 => ?_)
    exact call_x C0 htb (fun _ _ => rfl) hl hW (Nat.le_of_ble_eq_true rfl) (Nat.le_of_ble_eq_true rfl) h1 h2 h3 rfl
set_option maxHeartbeats 1000000 in
theorem cr_share (hfl : l.stackTraces = false) (C0 : CX g p s m args meth c RL cL_call 10 (some .int)) (htb : c.exceptionTable.toList = tableOf [(47, 442, 443, 97), (47, 442, 448, 100), (47, 442, 453, 103)]) {w a bb : Int32} {mo : Int64} (hl : lv_has ls 10 [(8, .int (dcE mo)), (7, .int (dcD mo)), (6, .int (dcC mo)), (0, .ref (g.2.2.1 + 0)), (1, .int w), (2, .int a), (3, .int bb), (4, .long mo)]) (hW : WA g σ b Z s.heap H locs) : W p l e rmL_call s m args below meth c H locs 0 0 (MQ below (QAi g (shI (opShare σ.1 a bb)) (σ) b Z) args s 2 65 (AA g)) (F0 m 435 ls []) := by
  have hx := C0.1; have hb := C0.2.1; have hown := C0.2.2.2.2.1; have hts := C0.2.2.2.2.2.1
  refine lv_aload_n hx hb dL_call_435 rfl (lv_at hl 3 rfl) ?_
  refine lv_iload_n hx hb dL_call_436 rfl (lv_at hl 5 rfl) ?_
  refine lv_iload_n hx hb dL_call_437 rfl (lv_at hl 6 rfl) ?_
  rcases hv : opShare σ.1 a bb with v | v
  · refine ar_share (rest := []) C0 hl.1 hW hv ⟨Nat.le_of_ble_eq_true rfl, Nat.le_of_ble_eq_true rfl⟩ (Nat.le_of_ble_eq_true rfl) ⟨Nat.le_of_ble_eq_true rfl, Nat.le_of_ble_eq_true rfl⟩ dL_call_438 (fun H locs hW => ?_)
    refine lv_d2i hx hb dL_call_441 ?_
    exact al_iret C0 hW (Nat.le_of_ble_eq_true rfl) (Nat.le_of_ble_eq_true rfl) rfl dL_call_442
  · refine ax_share (rest := []) hfl C0 hl.1 hW hv ⟨Nat.le_of_ble_eq_true rfl, Nat.le_of_ble_eq_true rfl⟩ (Nat.le_of_ble_eq_true rfl) ⟨Nat.le_of_ble_eq_true rfl, Nat.le_of_ble_eq_true rfl⟩ dL_call_438 (fun H locs q ce hW h1 h2 h3 => ?_)
    exact call_x C0 htb (fun _ _ => rfl) hl hW (Nat.le_of_ble_eq_true rfl) (Nat.le_of_ble_eq_true rfl) h1 h2 h3 rfl
set_option maxHeartbeats 4000000 in
set_option maxRecDepth 100000 in
theorem c_L_call {l : Launch} (hfl : l.stackTraces = false) {g : Gam} {σ : Gst} {b : Bool} {Z : Zed} (w a bb : Int32) (mo : Int64) {r : Int32} {τ : Gst} (hr : callF σ w a bb mo = (r, τ)) : Met l yL_call (Cond.codeWith yL_call cL_call 10 (some .int) [(47, 442, 443, 97), (47, 442, 448, 100), (47, 442, 453, 103)] :: GT) rmL_call (va_Pc [.ref (g.2.2.1 + 0), .int w, .int a, .int bb, .long mo] (PA g σ b Z)) (QAi g r τ b Z) 2 65 (AA g) := by
  have hr1 : r = (callF σ w a bb mo).1 := by rw [hr]
  have hr2 : τ = (callF σ w a bb mo).2 := by rw [hr]
  subst hr1; subst hr2; clear hr
  refine al_ofWH (lv0 := [(0, .ref (g.2.2.1 + 0)), (1, .int w), (2, .int a), (3, .int bb), (4, .long mo)]) (by decide) (Nat.le_of_ble_eq_true rfl) rfl (fun p e s m args below meth c ls H locs C0 htb hl hW => ?_)
  have C0 : CX g p s m args meth c RL cL_call 10 (some .int) := C0
  have hx := C0.1; have hb := C0.2.1; have hown := C0.2.2.2.2.1; have hts := C0.2.2.2.2.2.1
  refine lv_lload hx hb dL_call_0 (lv_at hl 4 rfl) ?_
  refine lv_ldc2 (v := 1000000) hx hb hown (hts _ wl176) dL_call_2 ?_
  refine lv_ldiv hx hb dL_call_5 (by decide) ?_
  refine lv_ldc2 (v := 1000) hx hb hown (hts _ wl177) dL_call_6 ?_
  refine lv_lrem hx hb dL_call_9 (by decide) ?_
  refine lv_l2i (v := Int64.toInt32 ((mo / 1000000) - (mo / 1000000) / 1000 * 1000)) hx hb dL_call_10 rfl ?_
  refine lv_sipush (v := 500) hx hb dL_call_11 (by decide) ?_
  refine lv_isub hx hb dL_call_14 ?_
  refine W.eq (g2 := F0 m 15 ls [.int (dcC mo)]) rfl ?_
  refine lv_istore (lv' := [(6, .int (dcC mo)), (0, .ref (g.2.2.1 + 0)), (1, .int w), (2, .int a), (3, .int bb), (4, .long mo)]) hx hb dL_call_15 hl (Nat.le_of_ble_eq_true rfl) rfl (fun ls hl => ?_)
  refine lv_lload hx hb dL_call_17 (lv_at hl 5 rfl) ?_
  refine lv_ldc2 (v := 1000) hx hb hown (hts _ wl177) dL_call_19 ?_
  refine lv_ldiv hx hb dL_call_22 (by decide) ?_
  refine lv_ldc2 (v := 1000) hx hb hown (hts _ wl177) dL_call_23 ?_
  refine lv_lrem hx hb dL_call_26 (by decide) ?_
  refine lv_l2i (v := Int64.toInt32 ((mo / 1000) - (mo / 1000) / 1000 * 1000)) hx hb dL_call_27 rfl ?_
  refine lv_sipush (v := 500) hx hb dL_call_28 (by decide) ?_
  refine lv_isub hx hb dL_call_31 ?_
  refine W.eq (g2 := F0 m 32 ls [.int (dcD mo)]) rfl ?_
  refine lv_istore (lv' := [(7, .int (dcD mo)), (6, .int (dcC mo)), (0, .ref (g.2.2.1 + 0)), (1, .int w), (2, .int a), (3, .int bb), (4, .long mo)]) hx hb dL_call_32 hl (Nat.le_of_ble_eq_true rfl) rfl (fun ls hl => ?_)
  refine lv_lload hx hb dL_call_34 (lv_at hl 6 rfl) ?_
  refine lv_ldc2 (v := 1000) hx hb hown (hts _ wl177) dL_call_36 ?_
  refine lv_lrem hx hb dL_call_39 (by decide) ?_
  refine lv_l2i (v := Int64.toInt32 (mo - mo / 1000 * 1000)) hx hb dL_call_40 rfl ?_
  refine lv_sipush (v := 500) hx hb dL_call_41 (by decide) ?_
  refine lv_isub hx hb dL_call_44 ?_
  refine W.eq (g2 := F0 m 45 ls [.int (dcE mo)]) rfl ?_
  refine lv_istore (lv' := [(8, .int (dcE mo)), (7, .int (dcD mo)), (6, .int (dcC mo)), (0, .ref (g.2.2.1 + 0)), (1, .int w), (2, .int a), (3, .int bb), (4, .long mo)]) hx hb dL_call_45 hl (Nat.le_of_ble_eq_true rfl) rfl (fun ls hl => ?_)
  unfold callF
  refine lv_iload_n hx hb dL_call_47 rfl (lv_at hl 4 rfl) ?_
  refine lv_if_ne (tgt := 66) hx hb dL_call_48 rfl (fun hc => ?_) (fun hc => ?_)
  rotate_left
  · have hc : w = 0 := hc
    rw [if_pos hc]
    exact cr_add hfl C0 htb hl hW
  have hc0 : ¬ w = 0 := hc
  rw [if_neg hc0]
  refine lv_iload_n hx hb dL_call_66 rfl (lv_at hl 4 rfl) ?_
  refine lv_iconst (v := 1) hx hb dL_call_67 (by decide) ?_
  refine lv_icmp_ne (tgt := 84) hx hb dL_call_68 rfl (fun hc => ?_) (fun hc => ?_)
  rotate_left
  · have hc : w = 1 := hc
    rw [if_pos hc]
    exact cr_change hfl C0 htb hl hW
  have hc1 : ¬ w = 1 := hc
  rw [if_neg hc1]
  refine lv_iload_n hx hb dL_call_84 rfl (lv_at hl 4 rfl) ?_
  refine lv_iconst (v := 2) hx hb dL_call_85 (by decide) ?_
  refine lv_icmp_ne (tgt := 98) hx hb dL_call_86 rfl (fun hc => ?_) (fun hc => ?_)
  rotate_left
  · have hc : w = 2 := hc
    rw [if_pos hc]
    exact cr_drop hfl C0 htb hl hW
  have hc2 : ¬ w = 2 := hc
  rw [if_neg hc2]
  refine lv_iload_n hx hb dL_call_98 rfl (lv_at hl 4 rfl) ?_
  refine lv_iconst (v := 3) hx hb dL_call_99 (by decide) ?_
  refine lv_icmp_ne (tgt := 111) hx hb dL_call_100 rfl (fun hc => ?_) (fun hc => ?_)
  rotate_left
  · have hc : w = 3 := hc
    rw [if_pos hc]
    exact cr_define hfl C0 htb hl hW
  have hc3 : ¬ w = 3 := hc
  rw [if_neg hc3]
  refine lv_iload_n hx hb dL_call_111 rfl (lv_at hl 4 rfl) ?_
  refine lv_iconst (v := 4) hx hb dL_call_112 (by decide) ?_
  refine lv_icmp_ne (tgt := 129) hx hb dL_call_113 rfl (fun hc => ?_) (fun hc => ?_)
  rotate_left
  · have hc : w = 4 := hc
    rw [if_pos hc]
    exact cr_combine hfl C0 htb hl hW
  have hc4 : ¬ w = 4 := hc
  rw [if_neg hc4]
  refine lv_iload_n hx hb dL_call_129 rfl (lv_at hl 4 rfl) ?_
  refine lv_iconst (v := 5) hx hb dL_call_130 (by decide) ?_
  refine lv_icmp_ne (tgt := 143) hx hb dL_call_131 rfl (fun hc => ?_) (fun hc => ?_)
  rotate_left
  · have hc : w = 5 := hc
    rw [if_pos hc]
    exact cr_check hfl C0 htb hl hW
  have hc5 : ¬ w = 5 := hc
  rw [if_neg hc5]
  refine lv_iload_n hx hb dL_call_143 rfl (lv_at hl 4 rfl) ?_
  refine lv_bipush (v := 6) hx hb dL_call_144 (by decide) ?_
  refine lv_icmp_ne (tgt := 158) hx hb dL_call_146 rfl (fun hc => ?_) (fun hc => ?_)
  rotate_left
  · have hc : w = 6 := hc
    rw [if_pos hc]
    exact cr_remove hfl C0 htb hl hW
  have hc6 : ¬ w = 6 := hc
  rw [if_neg hc6]
  refine lv_iload_n hx hb dL_call_158 rfl (lv_at hl 4 rfl) ?_
  refine lv_bipush (v := 7) hx hb dL_call_159 (by decide) ?_
  refine lv_icmp_ne (tgt := 177) hx hb dL_call_161 rfl (fun hc => ?_) (fun hc => ?_)
  rotate_left
  · have hc : w = 7 := hc
    rw [if_pos hc]
    exact cr_update hfl C0 htb hl hW
  have hc7 : ¬ w = 7 := hc
  rw [if_neg hc7]
  refine lv_iload_n hx hb dL_call_177 rfl (lv_at hl 4 rfl) ?_
  refine lv_bipush (v := 8) hx hb dL_call_178 (by decide) ?_
  refine lv_icmp_ne (tgt := 191) hx hb dL_call_180 rfl (fun hc => ?_) (fun hc => ?_)
  rotate_left
  · have hc : w = 8 := hc
    rw [if_pos hc]
    exact cr_append hfl C0 htb hl hW
  have hc8 : ¬ w = 8 := hc
  rw [if_neg hc8]
  refine lv_iload_n hx hb dL_call_191 rfl (lv_at hl 4 rfl) ?_
  refine lv_bipush (v := 9) hx hb dL_call_192 (by decide) ?_
  refine lv_icmp_ne (tgt := 204) hx hb dL_call_194 rfl (fun hc => ?_) (fun hc => ?_)
  rotate_left
  · have hc : w = 9 := hc
    rw [if_pos hc]
    exact cr_undo hfl C0 htb hl hW
  have hc9 : ¬ w = 9 := hc
  rw [if_neg hc9]
  refine lv_iload_n hx hb dL_call_204 rfl (lv_at hl 4 rfl) ?_
  refine lv_bipush (v := 10) hx hb dL_call_205 (by decide) ?_
  refine lv_icmp_ne (tgt := 218) hx hb dL_call_207 rfl (fun hc => ?_) (fun hc => ?_)
  rotate_left
  · have hc : w = 10 := hc
    rw [if_pos hc]
    exact cr_keep hfl C0 htb hl hW
  have hc10 : ¬ w = 10 := hc
  rw [if_neg hc10]
  refine lv_iload_n hx hb dL_call_218 rfl (lv_at hl 4 rfl) ?_
  refine lv_bipush (v := 11) hx hb dL_call_219 (by decide) ?_
  refine lv_icmp_ne (tgt := 232) hx hb dL_call_221 rfl (fun hc => ?_) (fun hc => ?_)
  rotate_left
  · have hc : w = 11 := hc
    rw [if_pos hc]
    exact cr_goBack hfl C0 htb hl hW
  have hc11 : ¬ w = 11 := hc
  rw [if_neg hc11]
  refine lv_iload_n hx hb dL_call_232 rfl (lv_at hl 4 rfl) ?_
  refine lv_bipush (v := 12) hx hb dL_call_233 (by decide) ?_
  refine lv_icmp_ne (tgt := 249) hx hb dL_call_235 rfl (fun hc => ?_) (fun hc => ?_)
  rotate_left
  · have hc : w = 12 := hc
    rw [if_pos hc]
    exact cr_cell hfl C0 htb hl hW
  have hc12 : ¬ w = 12 := hc
  rw [if_neg hc12]
  refine lv_iload_n hx hb dL_call_249 rfl (lv_at hl 4 rfl) ?_
  refine lv_bipush (v := 13) hx hb dL_call_250 (by decide) ?_
  refine lv_icmp_ne (tgt := 266) hx hb dL_call_252 rfl (fun hc => ?_) (fun hc => ?_)
  rotate_left
  · have hc : w = 13 := hc
    rw [if_pos hc]
    exact cr_column hfl C0 htb hl hW
  have hc13 : ¬ w = 13 := hc
  rw [if_neg hc13]
  refine lv_iload_n hx hb dL_call_266 rfl (lv_at hl 4 rfl) ?_
  refine lv_bipush (v := 14) hx hb dL_call_267 (by decide) ?_
  refine lv_icmp_ne (tgt := 285) hx hb dL_call_269 rfl (fun hc => ?_) (fun hc => ?_)
  rotate_left
  · have hc : w = 14 := hc
    rw [if_pos hc]
    exact cr_group hfl C0 htb hl hW
  have hc14 : ¬ w = 14 := hc
  rw [if_neg hc14]
  refine lv_iload_n hx hb dL_call_285 rfl (lv_at hl 4 rfl) ?_
  refine lv_bipush (v := 15) hx hb dL_call_286 (by decide) ?_
  refine lv_icmp_ne (tgt := 302) hx hb dL_call_288 rfl (fun hc => ?_) (fun hc => ?_)
  rotate_left
  · have hc : w = 15 := hc
    rw [if_pos hc]
    exact cr_truth hfl C0 htb hl hW
  have hc15 : ¬ w = 15 := hc
  rw [if_neg hc15]
  refine lv_iload_n hx hb dL_call_302 rfl (lv_at hl 4 rfl) ?_
  refine lv_bipush (v := 16) hx hb dL_call_303 (by decide) ?_
  refine lv_icmp_ne (tgt := 321) hx hb dL_call_305 rfl (fun hc => ?_) (fun hc => ?_)
  rotate_left
  · have hc : w = 16 := hc
    rw [if_pos hc]
    exact cr_rows hfl C0 htb hl hW
  have hc16 : ¬ w = 16 := hc
  rw [if_neg hc16]
  refine lv_iload_n hx hb dL_call_321 rfl (lv_at hl 4 rfl) ?_
  refine lv_bipush (v := 17) hx hb dL_call_322 (by decide) ?_
  refine lv_icmp_ne (tgt := 336) hx hb dL_call_324 rfl (fun hc => ?_) (fun hc => ?_)
  rotate_left
  · have hc : w = 17 := hc
    rw [if_pos hc]
    exact cr_filter hfl C0 htb hl hW
  have hc17 : ¬ w = 17 := hc
  rw [if_neg hc17]
  refine lv_iload_n hx hb dL_call_336 rfl (lv_at hl 4 rfl) ?_
  refine lv_bipush (v := 18) hx hb dL_call_337 (by decide) ?_
  refine lv_icmp_ne (tgt := 351) hx hb dL_call_339 rfl (fun hc => ?_) (fun hc => ?_)
  rotate_left
  · have hc : w = 18 := hc
    rw [if_pos hc]
    exact cr_letter hfl C0 htb hl hW
  have hc18 : ¬ w = 18 := hc
  rw [if_neg hc18]
  refine lv_iload_n hx hb dL_call_351 rfl (lv_at hl 4 rfl) ?_
  refine lv_bipush (v := 19) hx hb dL_call_352 (by decide) ?_
  refine lv_icmp_ne (tgt := 370) hx hb dL_call_354 rfl (fun hc => ?_) (fun hc => ?_)
  rotate_left
  · have hc : w = 19 := hc
    rw [if_pos hc]
    exact cr_compare hfl C0 htb hl hW
  have hc19 : ¬ w = 19 := hc
  rw [if_neg hc19]
  refine lv_iload_n hx hb dL_call_370 rfl (lv_at hl 4 rfl) ?_
  refine lv_bipush (v := 20) hx hb dL_call_371 (by decide) ?_
  refine lv_icmp_ne (tgt := 387) hx hb dL_call_373 rfl (fun hc => ?_) (fun hc => ?_)
  rotate_left
  · have hc : w = 20 := hc
    rw [if_pos hc]
    exact cr_certain hfl C0 htb hl hW
  have hc20 : ¬ w = 20 := hc
  rw [if_neg hc20]
  refine lv_iload_n hx hb dL_call_387 rfl (lv_at hl 4 rfl) ?_
  refine lv_bipush (v := 21) hx hb dL_call_388 (by decide) ?_
  refine lv_icmp_ne (tgt := 404) hx hb dL_call_390 rfl (fun hc => ?_) (fun hc => ?_)
  rotate_left
  · have hc : w = 21 := hc
    rw [if_pos hc]
    exact cr_join hfl C0 htb hl hW
  have hc21 : ¬ w = 21 := hc
  rw [if_neg hc21]
  refine lv_iload_n hx hb dL_call_404 rfl (lv_at hl 4 rfl) ?_
  refine lv_bipush (v := 22) hx hb dL_call_405 (by decide) ?_
  refine lv_icmp_ne (tgt := 421) hx hb dL_call_407 rfl (fun hc => ?_) (fun hc => ?_)
  rotate_left
  · have hc : w = 22 := hc
    rw [if_pos hc]
    exact cr_among hfl C0 htb hl hW
  have hc22 : ¬ w = 22 := hc
  rw [if_neg hc22]
  refine lv_iload_n hx hb dL_call_421 rfl (lv_at hl 4 rfl) ?_
  refine lv_bipush (v := 23) hx hb dL_call_422 (by decide) ?_
  refine lv_icmp_ne (tgt := 435) hx hb dL_call_424 rfl (fun hc => ?_) (fun hc => ?_)
  rotate_left
  · have hc : w = 23 := hc
    rw [if_pos hc]
    exact cr_count hfl C0 htb hl hW
  have hc23 : ¬ w = 23 := hc
  rw [if_neg hc23]
  exact cr_share hfl C0 htb hl hW
end CLX
