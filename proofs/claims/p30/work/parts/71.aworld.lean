/-! THE WORLD AS THE LAW SEES IT: a state of the class, and the law's long[] (number 70, where it is made). -/
section AWX
def AR (b : Bool) (P : Pool) : Prop := b = true → Kd P 70 = 14 ∧ Ln P 70 = 64
theorem AR.kp {b : Bool} {P P2 : Pool} (h : AR b P) (hk : KP P P2) : AR b P2 := fun e => by
  have a := h e
  have c := hk 70 (by rw [a.1]; decide)
  exact ⟨c.1.trans a.1, c.2.trans a.2⟩
def HA (g : Gam) (σ : Gst) (b : Bool) (Z : Zed) (H : Heap) : Prop := ∃ I R P, HW g I R P Z H ∧ CI I R P σ ∧ GOk σ ∧ AR b P
def WA (g : Gam) (σ : Gst) (b : Bool) (Z : Zed) (H0 H : Heap) (locs : List Loc) : Prop := HA g σ b Z H ∧ va_S (AA g) H0 H locs
def PA (g : Gam) (σ : Gst) (b : Bool) (Z : Zed) (U : State) : Prop := HA g σ b Z U.heap ∧ KS g U
def QAi (g : Gam) (r : Int32) (σ : Gst) (b : Bool) (Z : Zed) : Array Value → State → Outcome → State → Prop := va_Qi (S := Unit) (fun x _ => x = r) (fun _ t => HA g σ b Z t.heap) (AA g)
def QAl (g : Gam) (r : Int64) (σ : Gst) (b : Bool) (Z : Zed) : Array Value → State → Outcome → State → Prop := va_Ql (S := Unit) (fun x _ => x = r) (fun _ t => HA g σ b Z t.heap) (AA g)
/-- what is true of one state is true of the other -/
def To (τ σ : Gst) : Prop := (∀ I R P, CI I R P τ → CI I R P σ) ∧ (GOk τ → GOk σ)
theorem To.rf {σ : Gst} : To σ σ := ⟨fun _ _ _ h => h, fun h => h⟩
theorem To.of {τ σ : Gst} (h : τ = σ) : To τ σ := by subst h; exact To.rf
theorem HA.to {g : Gam} {σ τ : Gst} {b : Bool} {Z : Zed} {H : Heap} (h : HA g σ b Z H) (ht : To σ τ) : HA g τ b Z H := by
  obtain ⟨I, R, P, h1, h2, h3, h4⟩ := h
  exact ⟨I, R, P, h1, ht.1 _ _ _ h2, ht.2 h3, h4⟩
theorem WA.to {g : Gam} {σ τ : Gst} {b : Bool} {Z : Zed} {H0 H : Heap} {locs : List Loc} (h : WA g σ b Z H0 H locs) (ht : To σ τ) : WA g τ b Z H0 H locs := ⟨h.1.to ht, h.2⟩
theorem WA.ok {g : Gam} {σ : Gst} {b : Bool} {Z : Zed} {H0 H : Heap} {locs : List Loc} (h : WA g σ b Z H0 H locs) : GOk σ := by
  obtain ⟨⟨I, R, P, h1, h2, h3, h4⟩, -⟩ := h
  exact h3
theorem WA.l6 {g : Gam} {σ : Gst} {b : Bool} {Z : Zed} {H0 H : Heap} {locs : List Loc} (h : WA g σ b Z H0 H locs) : σ.2.1.length ≤ 6 ∧ σ.2.2.2.length ≤ 60 := by
  obtain ⟨⟨I, R, P, h1, h2, h3, h4⟩, -⟩ := h
  exact ⟨h2.2.1.2.1, h2.2.2.2.2.1⟩
theorem PA_blind {g : Gam} {σ : Gst} {b : Bool} {Z : Zed} {av : List Value} : FrameBlind (va_Pc av (PA g σ b Z)) := fun a U gf mk h => ⟨h.1, h.2.1, KS.call gf mk a h.2.2⟩
section
variable {p : Program} {l : Launch} {e : Env} {Rm : Room} {s : State} {m : MethodId} {args : Array Value} {below : List Frame} {meth : Method} {c : Code} {H : Heap} {locs : List Loc} {cells slots : Nat} {Q : State → Prop}
variable {cc : ByteArray} {pc : Nat} {ls : Array Slot} {rest : List Value} {g : Gam} {σ : Gst} {b : Bool} {Z : Zed} {own : String} {nL : Nat} {ret : Option FieldType}
theorem al_preS (C0 : CX g p s m args meth c own cc nL ret) (hW : WA g σ b Z s.heap H locs) {As : List Value} : PreS s H (va_Pc As (PA g σ b Z)) As :=
  ⟨PA_blind, fun U hU hWm => ⟨rfl, by rw [hU]; exact hW.1, C0.2.2.2.2.2.2.1.at' hW.2 hU hWm⟩⟩
theorem al_cSi {mc ms : Nat} (C0 : CX g p s m args meth c own cc nL ret) (hW : WA g σ b Z s.heap H locs) {As : List Value} {y : MethodName} {bytes : ByteArray} {maxL n index : Nat} {rty : Option FieldType} {rm : Room} {r : Int32} {σ2 : Gst}
    (hM : Met l y (Cond.code y bytes maxL rty :: GT) rm (va_Pc As (PA g σ b Z)) (QAi g r σ2 b Z) mc ms (AA g)) (cw : CallB Rm s args own index y bytes maxL rty (Cond.code y bytes maxL rty :: GT) rm mc ms n ∧ (Cond.static y).before args s = true)
    (hn : As.length = n) (hsize : ls.size = nL) {st0 : List Value} (hst : st0 = As.reverse ++ rest) (hr : (rest.map fun v => v.category).sum ≤ 8) (hf : cells + mc ≤ Rm.cells ∧ slots + ms ≤ Rm.slots) (hdg : decode cc pc = .ok (.invokestatic index, 3))
    (K : ∀ (H1 : Heap) (locs1 : List Loc), WA g σ2 b Z s.heap H1 locs1 → W p l e Rm s m args below meth c H1 locs1 (cells + mc) (slots + ms) Q (F0 m (pc + 3) ls (.int r :: rest))) : W p l e Rm s m args below meth c H locs cells slots Q (F0 m pc ls st0) := by
  refine va_calli (va_runS (g := F0 m pc ls st0) (rest := rest) (aw_fix C0) hM cw (al_preS C0 hW) rfl hn hsize hst (lv_room hr) hdg hf) hW.2 (fun q _ h => h) (fun q h => h) (fun r0 u t H1 locs1 ht _ hp hB _ _ hS => ?_)
  subst ht; subst hp
  exact K t.heap locs1 ⟨hB, hS⟩
theorem al_cSl {mc ms : Nat} (C0 : CX g p s m args meth c own cc nL ret) (hW : WA g σ b Z s.heap H locs) {As : List Value} {y : MethodName} {bytes : ByteArray} {maxL n index : Nat} {rty : Option FieldType} {rm : Room} {r : Int64} {σ2 : Gst}
    (hM : Met l y (Cond.code y bytes maxL rty :: GT) rm (va_Pc As (PA g σ b Z)) (QAl g r σ2 b Z) mc ms (AA g)) (cw : CallB Rm s args own index y bytes maxL rty (Cond.code y bytes maxL rty :: GT) rm mc ms n ∧ (Cond.static y).before args s = true)
    (hn : As.length = n) (hsize : ls.size = nL) {st0 : List Value} (hst : st0 = As.reverse ++ rest) (hr : (rest.map fun v => v.category).sum ≤ 8) (hf : cells + mc ≤ Rm.cells ∧ slots + ms ≤ Rm.slots) (hdg : decode cc pc = .ok (.invokestatic index, 3))
    (K : ∀ (H1 : Heap) (locs1 : List Loc), WA g σ2 b Z s.heap H1 locs1 → W p l e Rm s m args below meth c H1 locs1 (cells + mc) (slots + ms) Q (F0 m (pc + 3) ls (.long r :: rest))) : W p l e Rm s m args below meth c H locs cells slots Q (F0 m pc ls st0) := by
  refine va_calll (va_runS (g := F0 m pc ls st0) (rest := rest) (aw_fix C0) hM cw (al_preS C0 hW) rfl hn hsize hst (lv_room hr) hdg hf) hW.2 (fun q _ h => h) (fun q h => h) (fun r0 u t H1 locs1 ht _ hp hB _ _ hS => ?_)
  subst ht; subst hp
  exact K t.heap locs1 ⟨hB, hS⟩
theorem al_cSW {mc ms : Nat} {hh : List (Nat × Nat × Nat × Nat)} (C0 : CX g p s m args meth c own cc nL ret) (hW : WA g σ b Z s.heap H locs) {As : List Value} {y : MethodName} {bytes : ByteArray} {maxL n index : Nat} {rty : Option FieldType} {rm : Room} {r : Int32} {σ2 : Gst}
    (hM : Met l y (Cond.codeWith y bytes maxL rty hh :: GT) rm (va_Pc As (PA g σ b Z)) (QAi g r σ2 b Z) mc ms (AA g)) (cw : vx_CSW Rm s args own index y bytes maxL rty hh (Cond.codeWith y bytes maxL rty hh :: GT) rm mc ms n)
    (hn : As.length = n) (hsize : ls.size = nL) {st0 : List Value} (hst : st0 = As.reverse ++ rest) (hr : (rest.map fun v => v.category).sum ≤ 8) (hf : cells + mc ≤ Rm.cells ∧ slots + ms ≤ Rm.slots) (hdg : decode cc pc = .ok (.invokestatic index, 3))
    (K : ∀ (H1 : Heap) (locs1 : List Loc), WA g σ2 b Z s.heap H1 locs1 → W p l e Rm s m args below meth c H1 locs1 (cells + mc) (slots + ms) Q (F0 m (pc + 3) ls (.int r :: rest))) : W p l e Rm s m args below meth c H locs cells slots Q (F0 m pc ls st0) := by
  refine va_calli (vx_runSW (g := F0 m pc ls st0) (rest := rest) (aw_fix C0) hM cw (al_preS C0 hW) rfl hn hsize hst (lv_room hr) hdg hf) hW.2 (fun q _ h => h) (fun q h => h) (fun r0 u t H1 locs1 ht _ hp hB hz _ hS => ?_)
  subst ht; subst hp
  exact K t.heap locs1 ⟨hB, hS⟩
theorem al_ofW {y : MethodName} {rty : Option FieldType} {maxL : Nat} {av : List Value} {rm : Room} {Qc : Array Value → State → Outcome → State → Prop} {mc ms : Nat} (hy : plainName y.cls = true) {lv0 : List (Nat × Value)} (hlen : (lg_sl av).length ≤ maxL) (hav : lv_args 0 av = lv0)
    (body : ∀ (p : Program) (e : Env) (s : State) (m : MethodId) (args : Array Value) (below : List Frame) (meth : Method) (c : Code) (ls : Array Slot) (H : Heap) (locs : List Loc), CX g p s m args meth c y.cls cc maxL rty → lv_has ls maxL lv0 → WA g σ b Z s.heap H locs →
      W p l e rm s m args below meth c H locs 0 0 (MQ below Qc args s mc ms (AA g)) (F0 m 0 ls [])) : Met l y (Cond.code y cc maxL rty :: GT) rm (va_Pc av (PA g σ b Z)) Qc mc ms (AA g) := by
  refine Met.ofW (cc := cc) (maxL := maxL) (ret := rty) hy rfl ?_
  intro p e s m args below meth c s₁ B hml hv
  obtain ⟨rfl, hH, hKS⟩ := hv
  have hl := lv_entry av hlen
  rw [hav] at hl
  rw [lg_entry_eq]
  exact body p e s m _ below meth c _ _ _ ⟨B.exec, B.bytes, hml, B.returns, findClass_of_methodNamed B.named, fun w h => atoms_spec (ws := Cond.code y cc maxL rty :: GT) B.pre w (List.mem_cons_of_mem _ h), hKS, B.notSynchronized⟩ hl ⟨hH, va_S.rf⟩
theorem al_ofWH {y : MethodName} {rty : Option FieldType} {maxL : Nat} {hh : List (Nat × Nat × Nat × Nat)} {av : List Value} {rm : Room} {Qc : Array Value → State → Outcome → State → Prop} {mc ms : Nat} (hy : plainName y.cls = true) {lv0 : List (Nat × Value)} (hlen : (lg_sl av).length ≤ maxL) (hav : lv_args 0 av = lv0)
    (body : ∀ (p : Program) (e : Env) (s : State) (m : MethodId) (args : Array Value) (below : List Frame) (meth : Method) (c : Code) (ls : Array Slot) (H : Heap) (locs : List Loc), CX g p s m args meth c y.cls cc maxL rty → c.exceptionTable.toList = tableOf hh → lv_has ls maxL lv0 → WA g σ b Z s.heap H locs →
      W p l e rm s m args below meth c H locs 0 0 (MQ below Qc args s mc ms (AA g)) (F0 m 0 ls [])) : Met l y (Cond.codeWith y cc maxL rty hh :: GT) rm (va_Pc av (PA g σ b Z)) Qc mc ms (AA g) := by
  refine va_MetW (cc := cc) (maxL := maxL) (ret := rty) (hh := hh) hy rfl ?_
  intro p e s m args below meth c s₁ B hml hv
  obtain ⟨rfl, hH, hKS⟩ := hv
  have hl := lv_entry av hlen
  rw [hav] at hl
  rw [lg_entry_eq]
  exact body p e s m _ below meth c _ _ _ ⟨B.exec, B.bytes, hml, B.returns, findClass_of_methodNamed B.named, fun w h => atoms_spec (ws := Cond.codeWith y cc maxL rty hh :: GT) B.pre w (List.mem_cons_of_mem _ h), hKS, B.notSynchronized⟩ (vx_table (x := y) (y := y) B (atoms_spec (ws := Cond.codeWith y cc maxL rty hh :: GT) B.pre _ List.mem_cons_self)) hl ⟨hH, va_S.rf⟩
theorem al_iret {mc ms : Nat} (C0 : CX g p s m args meth c own cc nL (some .int)) (hW : WA g σ b Z s.heap H locs) (hmc : cells ≤ mc) (hms : slots ≤ ms) {x r : Int32} (ex : x = r) (hdg : decode cc pc = .ok (.ireturn, 1)) : W p l e Rm s m args below meth c H locs cells slots (MQ below (QAi g r σ b Z) args s mc ms (AA g)) (F0 m pc ls [.int x]) := by
  subst ex
  obtain ⟨hx, hb, -, hr, hown, hts, hK, hlk⟩ := C0
  exact W.widen hmc hms (W.iret (hlocks := hlk) hx hb hr (fun t ht _ => ⟨⟨x, (), rfl, rfl, (show HA g σ b Z t.heap by rw [ht]; exact hW.1)⟩, hW.2.F ht⟩) hW.2.2.2 hdg)
theorem al_zret {mc ms : Nat} (C0 : CX g p s m args meth c own cc nL (some .boolean)) (hW : WA g σ b Z s.heap H locs) (hmc : cells ≤ mc) (hms : slots ≤ ms) {x r : Int32} (ex : x = r) (hn : narrow .boolean (.int x) = .int x) (hdg : decode cc pc = .ok (.ireturn, 1)) : W p l e Rm s m args below meth c H locs cells slots (MQ below (QAi g r σ b Z) args s mc ms (AA g)) (F0 m pc ls [.int x]) := by
  subst ex
  obtain ⟨hx, hb, -, hr, hown, hts, hK, hlk⟩ := C0
  exact W.widen hmc hms (W.zret (hlocks := hlk) hx hb hr hn (fun t ht _ => ⟨⟨x, (), rfl, rfl, (show HA g σ b Z t.heap by rw [ht]; exact hW.1)⟩, hW.2.F ht⟩) hW.2.2.2 hdg)
theorem al_lret {mc ms : Nat} (C0 : CX g p s m args meth c own cc nL (some .long)) (hW : WA g σ b Z s.heap H locs) (hmc : cells ≤ mc) (hms : slots ≤ ms) {x r : Int64} (ex : x = r) (hdg : decode cc pc = .ok (.lreturn, 1)) : W p l e Rm s m args below meth c H locs cells slots (MQ below (QAl g r σ b Z) args s mc ms (AA g)) (F0 m pc ls [.long x]) := by
  subst ex
  obtain ⟨hx, hb, -, hr, hown, hts, hK, hlk⟩ := C0
  exact W.widen hmc hms (W.lret (hlocks := hlk) hx hb hr (fun t ht _ => ⟨⟨x, (), rfl, rfl, (show HA g σ b Z t.heap by rw [ht]; exact hW.1)⟩, hW.2.F ht⟩) hW.2.2.2 hdg)
end
def resV (r : Int32 ⊕ Nat) : Int32 := match r with
  | .inl v => v
  | .inr e => if e = 0 then -100011 else if e = 1 then -100012 else -100013
end AWX
