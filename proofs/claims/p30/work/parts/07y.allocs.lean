/-! NEW OBJECTS in the pool: a Filter, a row of ints; their number is what the heap's size says. -/
section ALX
def addP (P : Pool) (n q len : Nat) : Pool := (fun k => if k = n then q else P.1 k, fun k => if k = n then len else P.2.1 k, P.2.2 ++ [n])
def nwR (R : Rem) (n : Nat) : Rem := fun b => if b = n then (fun _ => none) else R b
def nwI (I : Mem) (n : Nat) : Mem := fun b => if b = n then (fun _ => 0) else I b
def FR (P : Pool) (n : Nat) : Prop := 70 ≤ n ∧ P.1 n = 99 ∧ n ∉ P.2.2
theorem kd_fr {P : Pool} {n : Nat} (h : FR P n) : Kd P n = 99 := by unfold Kd; rw [if_neg (Nat.not_lt.mpr h.1)]; exact h.2.1
theorem kd_ad {P : Pool} {n q len k z : Nat} (hz : z ≠ 99) (hf : FR P n) (h : Kd P k = z) : Kd (addP P n q len) k = z := by
  have hk : k ≠ n := fun e => by rw [e, kd_fr hf] at h; exact hz h.symm
  unfold Kd addP at *
  simp only [if_neg hk]
  exact h
theorem ln_ad {P : Pool} {n q len k z : Nat} (hf : FR P n) (h : Kd P k = z) (hz : z ≠ 99) : Ln (addP P n q len) k = Ln P k := by
  have hk : k ≠ n := fun e => by rw [e, kd_fr hf] at h; exact hz h.symm
  unfold Ln addP
  simp only [if_neg hk]
theorem kd_nw {P : Pool} {n q len : Nat} (hf : FR P n) : Kd (addP P n q len) n = q := by
  unfold Kd addP; rw [if_neg (Nat.not_lt.mpr hf.1)]; simp
theorem ln_nw {P : Pool} {n q len : Nat} (hf : FR P n) : Ln (addP P n q len) n = len := by
  unfold Ln addP; rw [if_neg (Nat.not_lt.mpr hf.1)]; simp
theorem sh_ad {P : Pool} {n q len : Nat} (hP : Sh P) (hf : FR P n) (hq : q = 2 ∨ q = 10 ∨ (q = 14 ∧ n = 70)) : Sh (addP P n q len) := by
  intro k hk
  unfold addP
  by_cases e : k = n
  · subst e
    simp only [if_true]
    exact ⟨Or.inr hq, fun _ => List.mem_append_right _ (List.mem_singleton.mpr rfl)⟩
  · simp only [if_neg e]
    exact ⟨(hP k hk).1, fun h => List.mem_append_left _ ((hP k hk).2 h)⟩
theorem ws_lt {g : Gam} {I : Mem} {R : Rem} {P : Pool} {Z : Zed} {H : Heap} (h : HW g I R P Z H) {k : Nat} (hk : k ∈ LV P) : g.2.2.1 + k < H.size := by
  obtain ⟨q0, hq⟩ := ws_get (g := g) (I := I) (R := R) (Z := Z) hk
  exact (h.1 q0 _ hq).lt
theorem FR_le {g : Gam} {I : Mem} {R : Rem} {P : Pool} {Z : Zed} {H : Heap} (h : HW g I R P Z H) {n : Nat} (hn : H.size ≤ g.2.2.1 + n) : FR P n := by
  have h0 := ws_lt h (lv_fix (P := P) (k := 69) (by decide))
  have hm : n ∉ P.2.2 := fun hm => by have := ws_lt h (k := n) (List.mem_append_right _ hm); omega
  refine ⟨by omega, ?_, hm⟩
  by_cases e : P.1 n = 99
  · exact e
  · exact absurd ((h.2.2 n (by omega)).2 e) hm
theorem FR_of {g : Gam} {I : Mem} {R : Rem} {P : Pool} {Z : Zed} {H : Heap} (h : HW g I R P Z H) {n : Nat} (hn : H.size = g.2.2.1 + n) : FR P n := FR_le h (Nat.le_of_eq hn)
theorem fr_ad {P : Pool} {n k q len : Nat} (h : FR P k) (hk : k ≠ n) : FR (addP P n q len) k := by
  refine ⟨h.1, by unfold addP; simp only [if_neg hk]; exact h.2.1, fun hm => ?_⟩
  rcases List.mem_append.mp hm with h1 | h1
  · exact h.2.2 h1
  · exact hk (List.mem_singleton.mp h1)
theorem pu_2_0 {g : Gam} {I : Mem} {R : Rem} {P : Pool} {Z : Zed} {k a : Nat} (h : Kd P k = 2) (i : Nat) : va_up (cel g I R P Z) k (.inr (2, ([va_rf ((R k 0).map (fun y => g.2.2.1 + y))] : List Value).set 0 (.ref (g.2.2.1 + a)))) i = cel g I (upR R k 0 (some a)) P Z i := by
  by_cases hi : i = k
  · subst hi; rw [cel_2 h, upR_self]; simp [va_up, va_rf]
  · rw [va_up_ne _ _ hi, cel_R (upR_ne R 0 (some a) hi)]
/-- a cell behind the others -/
theorem ws_push {g : Gam} {I I2 : Mem} {R R2 : Rem} {P P2 : Pool} {Z : Zed} {n : Nat} {e : va_E} (hL : LV P2 = LV P ++ [n]) (hn : n ∉ LV P) (ho : ∀ k ∈ LV P, cel g I2 R2 P2 Z k = cel g I R P Z k) (he : cel g I2 R2 P2 Z n = e) : ws g I R P Z ++ [(g.2.2.1 + n, e)] = ws g I2 R2 P2 Z := by
  have h3 : ∀ i, g.2.2.1 + i - g.2.2.1 = i := fun i => by omega
  unfold ws va_pl
  rw [hL]
  simp only [List.map_append, List.map_map, List.map_cons, List.map_nil, Function.comp_def, h3, he]
  refine congrArg (fun l => l ++ [(g.2.2.1 + n, e)]) (List.map_congr_left fun k hk => ?_)
  rw [ho k hk]
theorem cel_P {g : Gam} {I : Mem} {R : Rem} {P P2 : Pool} {Z : Zed} {k : Nat} (h : Kd P2 k = Kd P k) (h2 : Ln P2 k = Ln P k) : cel g I R P2 Z k = cel g I R P Z k := by unfold cel; rw [h, h2]
theorem LV_ad {P : Pool} {n q len : Nat} : LV (addP P n q len) = LV P ++ [n] := by unfold LV addP; rw [List.append_assoc]
theorem fr_lv {P : Pool} {n : Nat} (h : FR P n) : n ∉ LV P := fun hm => (List.mem_append.mp hm).elim (fun h1 => by have := List.mem_range.mp h1; have := h.1; omega) h.2.2
theorem ad_ne {P : Pool} {n : Nat} (h : FR P n) {k : Nat} (hk : k ∈ LV P) : k ≠ n := fun e => fr_lv h (e ▸ hk)
section
variable {p : Program} {l : Launch} {e : Env} {Rm : Room} {s : State} {m : MethodId} {args : Array Value} {below : List Frame} {meth : Method} {c : Code} {H : Heap} {locs : List Loc} {cells slots : Nat} {Q : State → Prop}
variable {cc : ByteArray} {pc : Nat} {ls : Array Slot} {rest : List Value} {g : Gam} {I : Mem} {R : Rem} {P : Pool} {Z : Zed} {own : String} {nL : Nat} {ret : Option FieldType}
/-- the heap isn't greater than what was made says -/
theorem aw_sz {n0 n : Nat} {gf : JFrame} (h0 : s.heap.size = g.2.2.1 + n0) (hn : n0 + cells = n) (hlow : g.2.2.1 + n ≤ H.size) (K : H.size = g.2.2.1 + n → W p l e Rm s m args below meth c H locs cells slots Q gf) : W p l e Rm s m args below meth c H locs cells slots Q gf := by
  intro T hT X
  have h1 := X.same
  obtain ⟨-, h2, h3, -⟩ := h1
  exact K (by have h4 : T.heap.size ≤ s.heap.size + cells := h3; rw [hT] at h4; omega) T hT X
theorem aw_newF (C0 : CX g p s m args meth c own cc nL ret) (hW : Wd g I R P Z s.heap H locs) {n : Nat} (hsz : H.size = g.2.2.1 + n) {index : Nat} (hk : Cond.classLink own index RX2 ∈ GT) (hi : Cond.instantiable RX2 1 ∈ GT) (hini : Cond.initialized RX2 ∈ GT) (hin : ∀ w ∈ u_ws RX2 TX2 1, w ∈ GT) (hRc : cells + 1 ≤ Rm.cells) (hRs : slots + 1 ≤ Rm.slots) (hdg : decode cc pc = .ok (.new index, 3))
    (K : ∀ H1 : Heap, Wd g I (nwR R n) (addP P n 2 0) Z s.heap H1 locs → W p l e Rm s m args below meth c H1 locs (cells + 1) (slots + 1) Q (F0 m (pc + 3) ls (.ref (g.2.2.1 + n) :: rest))) : W p l e Rm s m args below meth c H locs cells slots Q (F0 m pc ls rest) := by
  have hf := FR_of hW.1 hsz
  obtain ⟨hx, hb, -, -, hown, hts, hK, -⟩ := C0
  obtain ⟨⟨hP, hD, hSh⟩, hS⟩ := hW
  have hKn := hK.1.1 2 (RX2, TX2, 1) rfl
  refine W.newcK hx hb hown (hts _ hk) (hts _ hi) (hts _ hini) rfl hdg hRc hRs hKn.2.1 rfl fun H1 kC hkC e1 z1 o1 => ?_
  have hkk : ∀ (k : Nat) (x : Nat × va_E), (ws g I R P Z)[k]? = some x → H1[x.1]? = H[x.1]? := fun k x hx => o1 x.1 ((hP k x hx).lt)
  have hP1 : va_P g.1 vwCl (ws g I R P Z ++ [(H.size, .inr (2, [.null]))]) H1 := (hP.kept hkk).app (fun k x hx => by
    have hz : k < 1 := (List.getElem?_eq_some_iff.mp hx).1
    rw [show k = 0 by omega] at hx
    cases hx
    exact ⟨_, rfl, (u_born tyX2 hts hin hKn hkC e1 tyX2_ok).to (fun j hj => by rcases (show j = 0 by omega) with rfl; rfl)⟩)
  have hD1 : va_D (AA g) (ws g I R P Z ++ [(H.size, .inr (2, [.null]))]) := hD.push hP rfl (Nat.le_trans hK.2.1 hS.1)
  rw [hsz] at hP1 hD1
  have hkn := kd_nw (q := 2) (len := 0) hf
  have hws := ws_push (g := g) (I := I) (I2 := I) (R := R) (R2 := nwR R n) (Z := Z) (e := .inr (2, [.null])) (LV_ad (P := P) (n := n) (q := 2) (len := 0)) (fr_lv hf) (fun k hk => by
    have hne := ad_ne hf hk
    rw [cel_R (show nwR R n k = R k by simp [nwR, hne])]
    exact cel_P (by unfold Kd addP; simp only [if_neg hne]) (by unfold Ln addP; simp only [if_neg hne])) (by rw [cel_2 hkn]; simp [nwR, va_rf])
  rw [hws] at hP1 hD1
  have K1 := K H1 ⟨⟨hP1, hD1, sh_ad hSh hf (Or.inl rfl)⟩, ⟨Nat.le_trans hS.1 (by omega), fun x h1 h2 => (o1 x (Nat.lt_of_lt_of_le h1 hS.1)).trans (hS.2.1 x h1 h2), hS.2.2⟩⟩
  rw [← hsz] at K1
  exact K1
theorem aw_newI (C0 : CX g p s m args meth c own cc nL ret) (hW : Wd g I R P Z s.heap H locs) {n : Nat} (hsz : H.size = g.2.2.1 + n) (harr : Cond.arrayClass .int ∈ GT) {z : Int32} {ms : Nat} (hz0 : ¬ z < 0) (hz1 : z.toNatClampNeg ≤ ms) (hms : ms ≤ 1000) (hRc : cells + 1 ≤ Rm.cells) (hRs : slots + ms ≤ Rm.slots) (hdg : decode cc pc = .ok (.newarray .int, 2))
    (K : ∀ H1 : Heap, Wd g (nwI I n) R (addP P n 10 z.toNatClampNeg) Z s.heap H1 locs → W p l e Rm s m args below meth c H1 locs (cells + 1) (slots + ms) Q (F0 m (pc + 2) ls (.ref (g.2.2.1 + n) :: rest))) : W p l e Rm s m args below meth c H locs cells slots Q (F0 m pc ls (.int z :: rest)) := by
  have hf := FR_of hW.1 hsz
  obtain ⟨hx, hb, -, -, hown, hts, hK, -⟩ := C0
  obtain ⟨⟨hP, hD, hSh⟩, hS⟩ := hW
  refine va_newaK (atype := .int) hx hb (hts _ harr) rfl hdg rfl hz0 rfl (by show z.toNatClampNeg * 4 ≤ 536870912; omega) hRc (by omega) rfl fun H1 cA e1 z1 o1 hAr hNm => ?_
  have hcA : cA = g.2.1 10 := by
    have h2 := (hK.1.2 1 (g.2.1 10, .int) rfl).2
    have h3 : s.vm.findClass ("[" ++ (FieldType.int).toString) = some (g.2.1 10) := h2
    exact Option.some.inj (hNm.symm.trans h3)
  subst hcA
  have hkk : ∀ (k : Nat) (x : Nat × va_E), (ws g I R P Z)[k]? = some x → H1[x.1]? = H[x.1]? := fun k x hx => o1 x.1 ((hP k x hx).lt)
  have hP1 : va_P g.1 vwCl (ws g I R P Z ++ [(H.size, .inl (g.2.1 10, z.toNatClampNeg, .inl (fun _ => 0)))]) H1 := (hP.kept hkk).app (fun k x hx => by
    have hz : k < 1 := (List.getElem?_eq_some_iff.mp hx).1
    rw [show k = 0 by omega] at hx
    cases hx
    exact e1)
  have hD1 : va_D (AA g) (ws g I R P Z ++ [(H.size, .inl (g.2.1 10, z.toNatClampNeg, .inl (fun _ => 0)))]) := hD.push hP rfl (Nat.le_trans hK.2.1 hS.1)
  rw [hsz] at hP1 hD1
  have hkn := kd_nw (q := 10) (len := z.toNatClampNeg) hf
  have hws := ws_push (g := g) (I := I) (I2 := nwI I n) (R := R) (R2 := R) (Z := Z) (e := .inl (g.2.1 10, z.toNatClampNeg, .inl (fun _ => 0))) (LV_ad (P := P) (n := n) (q := 10) (len := z.toNatClampNeg)) (fr_lv hf) (fun k hk => by
    have hne := ad_ne hf hk
    rw [cel_I (show nwI I n k = I k by simp [nwI, hne])]
    exact cel_P (by unfold Kd addP; simp only [if_neg hne]) (by unfold Ln addP; simp only [if_neg hne])) (by rw [cel_10 hkn, ln_nw hf]; simp [nwI])
  rw [hws] at hP1 hD1
  have K1 := K H1 ⟨⟨hP1, hD1, sh_ad hSh hf (Or.inr (Or.inl rfl))⟩, ⟨Nat.le_trans hS.1 (by omega), fun x h1 h2 => (o1 x (Nat.lt_of_lt_of_le h1 hS.1)).trans (hS.2.1 x h1 h2), hS.2.2⟩⟩
  rw [← hsz] at K1
  exact W.widen (Nat.le_refl _) (by omega) K1
def PWn (g : Gam) (I : Mem) (R : Rem) (P : Pool) (Z : Zed) (n : Nat) (U : State) : Prop := PW g I R P Z U ∧ U.heap.size = g.2.2.1 + n
theorem PWn_blind {n : Nat} {av : List Value} : FrameBlind (va_Pc av (PWn g I R P Z n)) := fun a U gf mk h => ⟨h.1, ⟨h.2.1.1, KS.call gf mk a h.2.1.2⟩, h.2.2⟩
theorem aw_ofWn {n : Nat} {y : MethodName} {rty : Option FieldType} {maxL : Nat} {av : List Value} {rm : Room} {Qc : Array Value → State → Outcome → State → Prop} {mc ms : Nat} (hy : plainName y.cls = true) {lv0 : List (Nat × Value)} (hlen : (lg_sl av).length ≤ maxL) (hav : lv_args 0 av = lv0)
    (body : ∀ (p : Program) (e : Env) (s : State) (m : MethodId) (args : Array Value) (below : List Frame) (meth : Method) (c : Code) (ls : Array Slot), CX g p s m args meth c y.cls cc maxL rty → meth.name = y.name → s.heap.size = g.2.2.1 + n → lv_has ls maxL lv0 → Wd g I R P Z s.heap s.heap [] →
      W p l e rm s m args below meth c s.heap [] 0 0 (MQ below Qc args s mc ms (AA g)) (F0 m 0 ls [])) : Met l y (Cond.code y cc maxL rty :: GT) rm (va_Pc av (PWn g I R P Z n)) Qc mc ms (AA g) := by
  refine Met.ofW (cc := cc) (maxL := maxL) (ret := rty) hy rfl ?_
  intro p e s m args below meth c s₁ B hml hv
  obtain ⟨rfl, ⟨hH, hKS⟩, hsz⟩ := hv
  have hl := lv_entry av hlen
  rw [hav] at hl
  rw [lg_entry_eq]
  exact body p e s m _ below meth c _ ⟨B.exec, B.bytes, hml, B.returns, findClass_of_methodNamed B.named, fun w h => atoms_spec (ws := Cond.code y cc maxL rty :: GT) B.pre w (List.mem_cons_of_mem _ h), hKS, B.notSynchronized⟩ (name_of_methodNamed B.named B.method).1 hsz hl ⟨hH, va_S.rf⟩
theorem aw_ofWi {y : MethodName} {rty : Option FieldType} {maxL : Nat} {av : List Value} {rm : Room} {Qc : Array Value → State → Outcome → State → Prop} {mc ms : Nat} (hy : plainName y.cls = true) {lv0 : List (Nat × Value)} (hlen : (lg_sl av).length ≤ maxL) (hav : lv_args 0 av = lv0)
    (body : ∀ (p : Program) (e : Env) (s : State) (m : MethodId) (args : Array Value) (below : List Frame) (meth : Method) (c : Code) (ls : Array Slot), CX g p s m args meth c y.cls cc maxL rty → meth.name = y.name → lv_has ls maxL lv0 → Wd g I R P Z s.heap s.heap [] →
      W p l e rm s m args below meth c s.heap [] 0 0 (MQ below Qc args s mc ms (AA g)) (F0 m 0 ls [])) : Met l y (Cond.code y cc maxL rty :: GT) rm (va_Pc av (PW g I R P Z)) Qc mc ms (AA g) := by
  refine Met.ofW (cc := cc) (maxL := maxL) (ret := rty) hy rfl ?_
  intro p e s m args below meth c s₁ B hml hv
  obtain ⟨rfl, hH, hKS⟩ := hv
  have hl := lv_entry av hlen
  rw [hav] at hl
  rw [lg_entry_eq]
  exact body p e s m _ below meth c _ ⟨B.exec, B.bytes, hml, B.returns, findClass_of_methodNamed B.named, fun w h => atoms_spec (ws := Cond.code y cc maxL rty :: GT) B.pre w (List.mem_cons_of_mem _ h), hKS, B.notSynchronized⟩ (name_of_methodNamed B.named B.method).1 hl ⟨hH, va_S.rf⟩
theorem aw_preVn {n : Nat} (C0 : CX g p s m args meth c own cc nL ret) (hW : Wd g I R P Z s.heap H locs) (hsz : H.size = g.2.2.1 + n) {k ci : Nat} {fs : List Value} (hk : k ∈ LV P) (he : cel g I R P Z k = .inr (ci, fs)) {C : String} {T : u_T} {N : Nat} (hc : vwCl[ci]? = some (C, T, N)) {As : List Value} : PreV s H C (g.2.2.1 + k) (va_Pc (.ref (g.2.2.1 + k) :: As) (PWn g I R P Z n)) As := by
  obtain ⟨q0, hq⟩ := ws_get (g := g) (I := I) (R := R) (Z := Z) hk
  rw [he] at hq
  exact ⟨PWn_blind, va_recv C0.2.2.2.2.2.2.1.1 hW.1.1 hc hq, fun U hU hWm => ⟨rfl, ⟨by rw [hU]; exact hW.1, C0.2.2.2.2.2.2.1.at' hW.2 hU hWm⟩, by rw [hU]; exact hsz⟩⟩
theorem aw_preSn {n : Nat} (C0 : CX g p s m args meth c own cc nL ret) (hW : Wd g I R P Z s.heap H locs) (hsz : H.size = g.2.2.1 + n) {As : List Value} : PreS s H (va_Pc As (PWn g I R P Z n)) As :=
  ⟨PWn_blind, fun U hU hWm => ⟨rfl, ⟨by rw [hU]; exact hW.1, C0.2.2.2.2.2.2.1.at' hW.2 hU hWm⟩, by rw [hU]; exact hsz⟩⟩
theorem aw_nVq {n0 mc ms : Nat} (C0 : CX g p s m args meth c own cc nL ret) (hW : Wd g I R P Z s.heap H locs) (hsz : H.size = g.2.2.1 + n0) {k ci : Nat} {fs : List Value} (hk : k ∈ LV P) (he : cel g I R P Z k = .inr (ci, fs)) {C : String} {T : u_T} {N : Nat} (hc : vwCl[ci]? = some (C, T, N)) {As : List Value} {y : MethodName} {bytes : ByteArray} {maxL n index : Nat} {rty : Option FieldType} {rm : Room} {r : Option Nat} {I2 : Mem} {R2 : Rem} {P2 : Pool} {Z2 : Zed}
    (hM : Met l y (Cond.code y bytes maxL rty :: GT) rm (va_Pc (.ref (g.2.2.1 + k) :: As) (PWn g I R P Z n0)) (QQ g r I2 R2 P2 Z2) mc ms (AA g)) (cw : CallW Rm s args own C index y bytes maxL rty (Cond.code y bytes maxL rty :: GT) rm mc ms n)
    (hn : As.length = n) (hsize : ls.size = nL) {st0 : List Value} (hst : st0 = As.reverse ++ .ref (g.2.2.1 + k) :: rest) (hr : (rest.map fun v => v.category).sum ≤ 8) (hf : cells + mc ≤ Rm.cells ∧ slots + ms ≤ Rm.slots) (hdg : decode cc pc = .ok (.invokevirtual index, 3))
    (K : ∀ (H1 : Heap) (locs1 : List Loc), H.size ≤ H1.size → Wd g I2 R2 P2 Z2 s.heap H1 locs1 → W p l e Rm s m args below meth c H1 locs1 (cells + mc) (slots + ms) Q (F0 m (pc + 3) ls (va_rf (r.map (fun y => g.2.2.1 + y)) :: rest))) : W p l e Rm s m args below meth c H locs cells slots Q (F0 m pc ls st0) := by
  refine va_callq (va_runV (g := F0 m pc ls st0) (rest := rest) (aw_fix C0) hM cw (aw_preVn C0 hW hsz hk he hc) rfl hn hsize hst (lv_room hr) hdg hf) hW.2 (fun q _ h => h) (fun q h => h) (fun r0 u t H1 locs1 ht _ hp hB hz _ hS => ?_)
  subst ht; subst hp
  exact K t.heap locs1 hz ⟨hB, hS⟩
theorem aw_nSq {n0 mc ms : Nat} (C0 : CX g p s m args meth c own cc nL ret) (hW : Wd g I R P Z s.heap H locs) (hsz : H.size = g.2.2.1 + n0) {As : List Value} {y : MethodName} {bytes : ByteArray} {maxL n index : Nat} {rty : Option FieldType} {rm : Room} {r : Option Nat} {I2 : Mem} {R2 : Rem} {P2 : Pool} {Z2 : Zed}
    (hM : Met l y (Cond.code y bytes maxL rty :: GT) rm (va_Pc As (PWn g I R P Z n0)) (QQ g r I2 R2 P2 Z2) mc ms (AA g)) (cw : CallB Rm s args own index y bytes maxL rty (Cond.code y bytes maxL rty :: GT) rm mc ms n ∧ (Cond.static y).before args s = true)
    (hn : As.length = n) (hsize : ls.size = nL) {st0 : List Value} (hst : st0 = As.reverse ++ rest) (hr : (rest.map fun v => v.category).sum ≤ 8) (hf : cells + mc ≤ Rm.cells ∧ slots + ms ≤ Rm.slots) (hdg : decode cc pc = .ok (.invokestatic index, 3))
    (K : ∀ (H1 : Heap) (locs1 : List Loc), H.size ≤ H1.size → Wd g I2 R2 P2 Z2 s.heap H1 locs1 → W p l e Rm s m args below meth c H1 locs1 (cells + mc) (slots + ms) Q (F0 m (pc + 3) ls (va_rf (r.map (fun y => g.2.2.1 + y)) :: rest))) : W p l e Rm s m args below meth c H locs cells slots Q (F0 m pc ls st0) := by
  refine va_callq (va_runS (g := F0 m pc ls st0) (rest := rest) (aw_fix C0) hM cw (aw_preSn C0 hW hsz) rfl hn hsize hst (lv_room hr) hdg hf) hW.2 (fun q _ h => h) (fun q h => h) (fun r0 u t H1 locs1 ht _ hp hB hz _ hS => ?_)
  subst ht; subst hp
  exact K t.heap locs1 hz ⟨hB, hS⟩
theorem aw_cI (C0 : CX g p s m args meth c own cc nL ret) (hW : Wd g I R P Z s.heap H locs) {k : Nat} {As : List Value} {y : MethodName} {bytes : ByteArray} {maxL n index : Nat} {rm : Room} {I2 : Mem} {R2 : Rem} {P2 : Pool} {Z2 : Zed}
    (hM : Met l y (Cond.code y bytes maxL none :: GT) rm (va_Pc (.ref (g.2.2.1 + k) :: As) (PW g I R P Z)) (QV g I2 R2 P2 Z2) 0 0 (AA g)) (cw : CallB Rm s args own index y bytes maxL none (Cond.code y bytes maxL none :: GT) rm 0 0 n ∧ y.name = "<init>" ∧ (Cond.instanceMethod y).before args s = true)
    (hn : As.length = n) (hsize : ls.size = nL) {st0 : List Value} (hst : st0 = As.reverse ++ .ref (g.2.2.1 + k) :: rest) (hr : (rest.map fun v => v.category).sum ≤ 8) (hf : cells ≤ Rm.cells ∧ slots ≤ Rm.slots) (hdg : decode cc pc = .ok (.invokespecial index, 3))
    (K : ∀ (H1 : Heap) (locs1 : List Loc), Wd g I2 R2 P2 Z2 s.heap H1 locs1 → W p l e Rm s m args below meth c H1 locs1 cells slots Q (F0 m (pc + 3) ls rest)) : W p l e Rm s m args below meth c H locs cells slots Q (F0 m pc ls st0) := by
  refine va_callv (va_runI (g := F0 m pc ls st0) (rest := rest) (aw_fix C0) hM cw (aw_preS C0 hW) rfl hn hsize hst (lv_room hr) hdg hf) hW.2 (fun q _ h => h) (fun q h => h) (fun u t H1 locs1 ht _ hp hB _ _ hS => ?_)
  subst ht
  exact K t.heap locs1 ⟨hB, hS⟩
theorem aw_objI (C0 : CX g p s m args meth c own cc nL ret) (hsz : ls.size = nL) {a index : Nat} (hlink : Cond.methodLink own index Lib.objectInit ∈ GT) (hinst : Cond.instanceMethod Lib.objectInit ∈ GT) (hcode : Cond.code Lib.objectInit ⟨#[0xb1]⟩ 1 none ∈ GT) (hfr : 1 ≤ Rm.frames) (hlo : (rest.map fun v => v.category).sum + 12 ≤ Rm.locals) (hdg : decode cc pc = .ok (.invokespecial index, 3))
    (K : W p l e Rm s m args below meth c H locs cells slots Q (F0 m (pc + 3) ls rest)) : W p l e Rm s m args below meth c H locs cells slots Q (F0 m pc ls (.ref a :: rest)) := by
  obtain ⟨hx, hb, hml, -, hown, hts, -, -⟩ := C0
  exact W.objInit hx hb hown (hts _ hlink) (hts _ hinst) (hts _ hcode) rfl (by rw [hml]; exact hsz) rfl hdg hfr (by show 2 * 0 + _ + 12 ≤ _; omega) K
theorem aw_putFs (C0 : CX g p s m args meth c RX2 cc nL ret) (hnm : meth.name = "<init>") (hW : Wd g I R P Z s.heap H locs) {k a index : Nat} (hk : Kd P k = 2) (hlink : Cond.fieldLink RX2 index (TX2 0).1 (TX2 0).2.1 (TX2 0).2.2.1 ∈ GT) (hin : ∀ w ∈ u_ws RX2 TX2 1, w ∈ GT) (hdg : decode cc pc = .ok (.putfield index, 3))
    (K : ∀ (H1 : Heap) (locs1 : List Loc), Wd g I (upR R k 0 (some a)) P Z s.heap H1 locs1 → W p l e Rm s m args below meth c H1 locs1 cells slots Q (F0 m (pc + 3) ls rest)) : W p l e Rm s m args below meth c H locs cells slots Q (F0 m pc ls (.ref (g.2.2.1 + a) :: .ref (g.2.2.1 + k) :: rest)) := by
  obtain ⟨hx, hb, -, -, hown, hts, hK, -⟩ := C0
  obtain ⟨⟨hP, hD, hSh⟩, hS⟩ := hW
  have hkl := lv_kd hSh hk (by decide)
  obtain ⟨q0, hq⟩ := ws_get (g := g) (I := I) (R := R) (Z := Z) hkl
  have hset := ws_set hD hkl hq (pu_2_0 (a := a) hk)
  rw [cel_2 hk] at hq
  exact va_putF (ty := .array .int) hx hb hts hin tyX2 tyX2_ok nmX2 hown hK.1 hP hD hS q0 hq rfl 0 (by decide) (hts _ hlink) (fun x h => h) rfl hnm rfl (by decide +kernel) rfl rfl (Nat.le_of_ble_eq_true rfl) hdg
    (fun H1 locs1 a1 a2 a3 => K H1 locs1 ⟨⟨hset ▸ a1, hset ▸ a2, hSh⟩, a3⟩)
theorem aw_aretn {mc ms : Nat} {rt : FieldType} (C0 : CX g p s m args meth c own cc nL (some rt)) (hrt : (∃ n, rt = .object n) ∨ ∃ t, rt = .array t) (hW : Wd g I R P Z s.heap H locs) (hmc : cells ≤ mc) (hms : slots ≤ ms) {x r : Option Nat} {I2 : Mem} {R2 : Rem} {P2 : Pool} (ex : x = r) (eI : I = I2) (eR : R = R2) (eP : P = P2) (hdg : decode cc pc = .ok (.areturn, 1)) : W p l e Rm s m args below meth c H locs cells slots (MQ below (QQ g r I2 R2 P2 Z) args s mc ms (AA g)) (F0 m pc ls [va_rf (x.map (fun y => g.2.2.1 + y))]) := by
  subst eP
  exact W.widen hmc hms (aw_aret C0 hrt hW ex eI eR hdg)
theorem aw_iretn {mc ms : Nat} (C0 : CX g p s m args meth c own cc nL (some .int)) (hW : Wd g I R P Z s.heap H locs) (hmc : cells ≤ mc) (hms : slots ≤ ms) {x r : Int32} {I2 : Mem} {R2 : Rem} {P2 : Pool} (ex : x = r) (eI : I = I2) (eR : R = R2) (eP : P = P2) (hdg : decode cc pc = .ok (.ireturn, 1)) : W p l e Rm s m args below meth c H locs cells slots (MQ below (QI g r I2 R2 P2 Z) args s mc ms (AA g)) (F0 m pc ls [.int x]) := by
  subst eP
  exact W.widen hmc hms (aw_iret C0 hW ex eI eR hdg)
end
end ALX
