/-! THE WORLD WHILE IT IS MADE: the first n objects, their cells by E. -/
section CTR
def wsE (g : Gam) (E : Nat → va_E) (n : Nat) : va_W := va_pl ((List.range n).map (fun k => g.2.2.1 + k)) (fun a => E (a - g.2.2.1))
def HE (g : Gam) (E : Nat → va_E) (n : Nat) (H : Heap) : Prop := va_P g.1 vwCl (wsE g E n) H ∧ va_D (AA g) (wsE g E n)
def WE (g : Gam) (E : Nat → va_E) (n : Nat) (H0 H : Heap) (locs : List Loc) : Prop := HE g E n H ∧ va_S (AA g) H0 H locs
def PE (g : Gam) (E : Nat → va_E) (n : Nat) (U : State) : Prop := (HE g E n U.heap ∧ KS g U) ∧ U.heap.size = g.2.2.1 + n
def QE (g : Gam) (E : Nat → va_E) (n : Nat) : Array Value → State → Outcome → State → Prop := va_Qv (S := Unit) (fun _ => True) (fun _ t => HE g E n t.heap ∧ t.heap.size = g.2.2.1 + n) (AA g)
theorem PE_blind {g : Gam} {E : Nat → va_E} {n : Nat} {av : List Value} : FrameBlind (va_Pc av (PE g E n)) := fun a U gf mk h => ⟨h.1, ⟨h.2.1.1, KS.call gf mk a h.2.1.2⟩, h.2.2⟩
theorem we_get {g : Gam} {E : Nat → va_E} {n k : Nat} (h : k < n) : ∃ q0 : Nat, (wsE g E n)[q0]? = some (g.2.2.1 + k, E k) := by
  obtain ⟨q0, hq⟩ := va_pl_get (X := []) (L := (List.range n).map (fun k => g.2.2.1 + k)) (f := fun a => E (a - g.2.2.1)) (a := g.2.2.1 + k) (List.mem_map.mpr ⟨k, List.mem_range.mpr h, rfl⟩)
  refine ⟨q0, ?_⟩
  have h2 : g.2.2.1 + k - g.2.2.1 = k := by omega
  have hq' : (wsE g E n)[q0]? = some (g.2.2.1 + k, E (g.2.2.1 + k - g.2.2.1)) := hq
  rw [h2] at hq'
  exact hq'
theorem we_set {g : Gam} {A : Nat → Prop} {E : Nat → va_E} {n k q0 : Nat} {e : va_E} (hD : va_D A (wsE g E n)) (h : k < n) (hq : (wsE g E n)[q0]? = some (g.2.2.1 + k, E k)) : (wsE g E n).set q0 (g.2.2.1 + k, e) = wsE g (va_up E k e) n := by
  have h2 : g.2.2.1 + k - g.2.2.1 = k := by omega
  have hq' : ([] ++ va_pl ((List.range n).map (fun k => g.2.2.1 + k)) (fun a => E (a - g.2.2.1)))[q0]? = some (g.2.2.1 + k, (fun a => E (a - g.2.2.1)) (g.2.2.1 + k)) := by
    show (wsE g E n)[q0]? = some (g.2.2.1 + k, E (g.2.2.1 + k - g.2.2.1))
    rw [h2]; exact hq
  have hs := va_pl_set (X := []) (A := A) (e := e) hD (List.mem_map.mpr ⟨k, List.mem_range.mpr h, rfl⟩) hq'
  refine Eq.trans hs ?_
  show va_pl _ _ = va_pl _ _
  unfold va_pl
  refine List.map_congr_left fun a ha => ?_
  obtain ⟨i, -, rfl⟩ := List.mem_map.mp ha
  have h3 : g.2.2.1 + i - g.2.2.1 = i := by omega
  refine congrArg (fun z => (g.2.2.1 + i, z)) ?_
  dsimp only
  rw [h3]
  by_cases hi : i = k
  · subst hi; simp [va_up]
  · rw [va_up_ne _ _ hi, va_up_ne _ _ (by omega), h3]
theorem we_push {g : Gam} {E : Nat → va_E} {n : Nat} {e : va_E} : wsE g E n ++ [(g.2.2.1 + n, e)] = wsE g (va_up E n e) (n + 1) := by
  have h3 : ∀ i, g.2.2.1 + i - g.2.2.1 = i := fun i => by omega
  unfold wsE va_pl
  rw [List.range_succ]
  simp only [List.map_append, List.map_map, List.map_cons, List.map_nil, Function.comp_def, h3, va_up_self]
  refine congrArg (fun l => l ++ [(g.2.2.1 + n, e)]) (List.map_congr_left fun k hk => ?_)
  rw [va_up_ne _ _ (show k ≠ n by have := List.mem_range.mp hk; omega)]
section
variable {p : Program} {l : Launch} {e : Env} {Rm : Room} {s : State} {m : MethodId} {args : Array Value} {below : List Frame} {meth : Method} {c : Code} {H : Heap} {locs : List Loc} {cells slots : Nat} {Q : State → Prop}
variable {cc : ByteArray} {pc : Nat} {ls : Array Slot} {rest : List Value} {g : Gam} {E : Nat → va_E} {n : Nat} {own : String} {nL : Nat} {ret : Option FieldType}
theorem ce_sz {n0 k : Nat} {gf : JFrame} (hs0 : s.heap.size = g.2.2.1 + n0) (hn : n0 + cells = n) (hW : WE g E n s.heap H locs) (hk : n = k + 1) (K : H.size = g.2.2.1 + n → W p l e Rm s m args below meth c H locs cells slots Q gf) : W p l e Rm s m args below meth c H locs cells slots Q gf := by
  obtain ⟨q0, hq⟩ := we_get (g := g) (E := E) (n := n) (k := k) (by omega)
  have hlt : g.2.2.1 + k < H.size := (hW.1.1 q0 _ hq).lt
  exact aw_sz hs0 hn (by omega) K
theorem ce_new (C0 : CX g p s m args meth c own cc nL ret) (hW : WE g E n s.heap H locs) (hsz : H.size = g.2.2.1 + n) {ci : Nat} {C : String} {T : u_T} {N : Nat} (hci : vwCl[ci]? = some (C, T, N)) {index : Nat} (hk : Cond.classLink own index C ∈ GT) (hi : Cond.instantiable C N ∈ GT) (hini : Cond.initialized C ∈ GT) (hin : ∀ w ∈ u_ws C T N, w ∈ GT) (ty : Nat → FieldType) (hty : ∀ k, k < N → parseFieldDescriptor (T k).2.2.1 = some (ty k)) (fs : List Value) (hfs : ∀ j, j < N → defaultValue (ty j) = vp_V fs j) (hRc : cells + 1 ≤ Rm.cells) (hRs : slots + N ≤ Rm.slots) (hdg : decode cc pc = .ok (.new index, 3))
    (K : ∀ H1 : Heap, WE g (va_up E n (.inr (ci, fs))) (n + 1) s.heap H1 locs → W p l e Rm s m args below meth c H1 locs (cells + 1) (slots + N) Q (F0 m (pc + 3) ls (.ref (g.2.2.1 + n) :: rest))) : W p l e Rm s m args below meth c H locs cells slots Q (F0 m pc ls rest) := by
  obtain ⟨hx, hb, -, -, hown, hts, hK, -⟩ := C0
  obtain ⟨⟨hP, hD⟩, hS⟩ := hW
  have hKn := hK.1.1 ci (C, T, N) hci
  refine W.newcK hx hb hown (hts _ hk) (hts _ hi) (hts _ hini) rfl hdg hRc hRs hKn.2.1 rfl fun H1 kC hkC e1 z1 o1 => ?_
  have hkk : ∀ (k : Nat) (x : Nat × va_E), (wsE g E n)[k]? = some x → H1[x.1]? = H[x.1]? := fun k x hx => o1 x.1 ((hP k x hx).lt)
  have hP1 : va_P g.1 vwCl (wsE g E n ++ [(H.size, .inr (ci, fs))]) H1 := (hP.kept hkk).app (fun k x hx => by
    have hz : k < 1 := (List.getElem?_eq_some_iff.mp hx).1
    rw [show k = 0 by omega] at hx
    cases hx
    exact ⟨_, hci, (u_born ty hts hin hKn hkC e1 hty).to hfs⟩)
  have hD1 : va_D (AA g) (wsE g E n ++ [(H.size, .inr (ci, fs))]) := hD.push hP rfl (Nat.le_trans hK.2.1 hS.1)
  rw [hsz, we_push] at hP1 hD1
  have K1 := K H1 ⟨⟨hP1, hD1⟩, ⟨Nat.le_trans hS.1 (by omega), fun x h1 h2 => (o1 x (Nat.lt_of_lt_of_le h1 hS.1)).trans (hS.2.1 x h1 h2), hS.2.2⟩⟩
  rw [← hsz] at K1
  exact K1
theorem ce_newA {atype : ArrayType} {q j N : Nat} {z : Int32} {pay : vp_A} (C0 : CX g p s m args meth c own cc nL ret) (hW : WE g E n s.heap H locs) (hsz : H.size = g.2.2.1 + n) (hj : (tysL g.2.1)[j]? = some (g.2.1 q, newarray.typeOf atype)) (harr : Cond.arrayClass (newarray.typeOf atype) ∈ GT) (hz0 : ¬ z < 0) (hz1 : z.toNatClampNeg = N) (hb9 : N * componentBytes (newarray.typeOf atype) ≤ 536870912) (hnm : ∀ k : ClassId, va_RA s k (newarray.typeOf atype) → s.vm.findClass ("[" ++ (newarray.typeOf atype).toString) = some k) (ha : ∀ cA : ClassId, vp_cell cA pay = arrV cA N (fun _ => defaultValue (newarray.typeOf atype))) (hRc : cells + 1 ≤ Rm.cells) (hRs : slots + N ≤ Rm.slots) (hdg : decode cc pc = .ok (.newarray atype, 2))
    (K : ∀ H1 : Heap, WE g (va_up E n (.inl (g.2.1 q, pay))) (n + 1) s.heap H1 locs → W p l e Rm s m args below meth c H1 locs (cells + 1) (slots + N) Q (F0 m (pc + 2) ls (.ref (g.2.2.1 + n) :: rest))) : W p l e Rm s m args below meth c H locs cells slots Q (F0 m pc ls (.int z :: rest)) := by
  obtain ⟨hx, hb, -, -, hown, hts, hK, -⟩ := C0
  obtain ⟨⟨hP, hD⟩, hS⟩ := hW
  refine va_newaK (atype := atype) hx hb (hts _ harr) rfl hdg rfl hz0 hz1 hb9 hRc hRs rfl fun H1 cA e1 z1 o1 hAr hNm => ?_
  have hcA : cA = g.2.1 q := Option.some.inj (hNm.symm.trans (hnm _ (hK.1.2 j _ hj).2))
  subst hcA
  have hkk : ∀ (k : Nat) (x : Nat × va_E), (wsE g E n)[k]? = some x → H1[x.1]? = H[x.1]? := fun k x hx => o1 x.1 ((hP k x hx).lt)
  have hP1 : va_P g.1 vwCl (wsE g E n ++ [(H.size, .inl (g.2.1 q, pay))]) H1 := (hP.kept hkk).app (fun k x hx => by
    have hz : k < 1 := (List.getElem?_eq_some_iff.mp hx).1
    rw [show k = 0 by omega] at hx
    cases hx
    show H1[H.size]? = some (vp_cell _ _)
    rw [ha]
    exact e1)
  have hD1 : va_D (AA g) (wsE g E n ++ [(H.size, .inl (g.2.1 q, pay))]) := hD.push hP rfl (Nat.le_trans hK.2.1 hS.1)
  rw [hsz, we_push] at hP1 hD1
  have K1 := K H1 ⟨⟨hP1, hD1⟩, ⟨Nat.le_trans hS.1 (by omega), fun x h1 h2 => (o1 x (Nat.lt_of_lt_of_le h1 hS.1)).trans (hS.2.1 x h1 h2), hS.2.2⟩⟩
  rw [← hsz] at K1
  exact K1
theorem ce_newQ {q j N : Nat} {z : Int32} {C : String} {index : Nat} (C0 : CX g p s m args meth c own cc nL ret) (hW : WE g E n s.heap H locs) (hsz : H.size = g.2.2.1 + n) (hj : (tysL g.2.1)[j]? = some (g.2.1 q, .object C)) (hk : Cond.classLink own index C ∈ GT) (hao : va_AO C s) (hz0 : ¬ z < 0) (hz1 : z.toNatClampNeg = N) (hb9 : N * 4 ≤ 536870912) (hRc : cells + 1 ≤ Rm.cells) (hRs : slots + N ≤ Rm.slots) (hdg : decode cc pc = .ok (.anewarray index, 3))
    (K : ∀ H1 : Heap, WE g (va_up E n (.inl (g.2.1 q, N, .inr (.inr (.inr (.inr (fun _ => none))))))) (n + 1) s.heap H1 locs → W p l e Rm s m args below meth c H1 locs (cells + 1) (slots + N) Q (F0 m (pc + 3) ls (.ref (g.2.2.1 + n) :: rest))) : W p l e Rm s m args below meth c H locs cells slots Q (F0 m pc ls (.int z :: rest)) := by
  obtain ⟨hx, hb, -, -, hown, hts, hK, -⟩ := C0
  obtain ⟨⟨hP, hD⟩, hS⟩ := hW
  subst hz1
  refine W.anew hx hb hown (hts _ hk) (va_AO.use hao) rfl hdg rfl hz0 hb9 hRc hRs fun cA kA comp f1 f2 f3 f4 => ?_
  obtain ⟨kA2, comp2, -, -, -, k4⟩ := (hK.1.2 j _ hj).2
  have hcA : cA = g.2.1 q := Option.some.inj (f1.symm.trans k4)
  subst hcA
  generalize hH1 : H.push ({ cls := g.2.1 q, slots := Array.replicate z.toNatClampNeg .null, vm := .none } : Cell) = H1
  have z1 : H1.size = H.size + 1 := by rw [← hH1, Array.size_push]
  have e1 : H1[H.size]? = some (arrV (g.2.1 q) z.toNatClampNeg (fun _ => .null)) := by rw [← hH1, Array.getElem?_push_size, ← arrV_new]
  have o1 : ∀ q : Nat, q < H.size → H1[q]? = H[q]? := fun q hq => by rw [← hH1, Array.getElem?_push, if_neg (Nat.ne_of_lt hq)]
  have hkk : ∀ (k : Nat) (x : Nat × va_E), (wsE g E n)[k]? = some x → H1[x.1]? = H[x.1]? := fun k x hx => o1 x.1 ((hP k x hx).lt)
  have hP1 : va_P g.1 vwCl (wsE g E n ++ [(H.size, .inl (g.2.1 q, z.toNatClampNeg, .inr (.inr (.inr (.inr (fun _ => none))))))]) H1 := (hP.kept hkk).app (fun k x hx => by
    have hz : k < 1 := (List.getElem?_eq_some_iff.mp hx).1
    rw [show k = 0 by omega] at hx
    cases hx
    show H1[H.size]? = some (vp_cell _ _)
    rw [vp_cell_q]
    exact e1)
  have hD1 : va_D (AA g) (wsE g E n ++ [(H.size, .inl (g.2.1 q, z.toNatClampNeg, .inr (.inr (.inr (.inr (fun _ => none))))))]) := hD.push hP rfl (Nat.le_trans hK.2.1 hS.1)
  rw [hsz, we_push] at hP1 hD1
  have K1 := K H1 ⟨⟨hP1, hD1⟩, ⟨Nat.le_trans hS.1 (by omega), fun x h1 h2 => (o1 x (Nat.lt_of_lt_of_le h1 hS.1)).trans (hS.2.1 x h1 h2), hS.2.2⟩⟩
  rw [← hsz] at K1
  exact K1
theorem ce_put (C0 : CX g p s m args meth c own cc nL ret) (hW : WE g E n s.heap H locs) {k ci : Nat} {fs : List Value} (hk : k < n) (he : E k = .inr (ci, fs)) {C : String} {T : u_T} {N : Nat} (hc : vwCl[ci]? = some (C, T, N)) (hin : ∀ w ∈ u_ws C T N, w ∈ GT) (ty0 : Nat → FieldType) (hty : ∀ k, k < N → parseFieldDescriptor (T k).2.2.1 = some (ty0 k)) (hnm : ∀ a, a < N → ∀ b, b < N → a ≠ b → (T a).2.1 ≠ (T b).2.1) (j : Nat) (hj : j < N) {index : Nat} {ref : String} (hlink : Cond.fieldLink own index ref (T j).2.1 (T j).2.2.1 ∈ GT) (hsame : (T j).1 = ref) (hfin : (T j).2.2.2 = false) {ty : FieldType} {v : Value} (hd : ty0 j = ty) (hn : narrow ty v = v) (hfit : fits ty v = true) (hl : j < fs.length) (hdg : decode cc pc = .ok (.putfield index, 3))
    (K : ∀ (H1 : Heap) (locs1 : List Loc), WE g (va_up E k (.inr (ci, fs.set j v))) n s.heap H1 locs1 → W p l e Rm s m args below meth c H1 locs1 cells slots Q (F0 m (pc + 3) ls rest)) : W p l e Rm s m args below meth c H locs cells slots Q (F0 m pc ls (v :: .ref (g.2.2.1 + k) :: rest)) := by
  obtain ⟨hx, hb, -, -, hown, hts, hK, -⟩ := C0
  obtain ⟨⟨hP, hD⟩, hS⟩ := hW
  obtain ⟨q0, hq⟩ := we_get (g := g) (E := E) hk
  have hset := we_set (e := .inr (ci, fs.set j v)) hD hk hq
  rw [he] at hq
  exact va_put hx hb hts hin ty0 hty hnm hown hK.1 hP hD hS q0 hq hc j hj (hts _ hlink) (fun x h => by rw [← hsame]; exact h) hfin (by rw [← hd]; exact hty j hj) hn hfit hl hdg
    (fun H1 locs1 a1 a2 a3 => K H1 locs1 ⟨⟨by rw [hset] at a1; exact a1, by rw [hset] at a2; exact a2⟩, a3⟩)
theorem ce_putF (C0 : CX g p s m args meth c own cc nL ret) (hnm2 : meth.name = "<init>") (hW : WE g E n s.heap H locs) {k ci : Nat} {fs : List Value} (hk : k < n) (he : E k = .inr (ci, fs)) {C : String} {T : u_T} {N : Nat} (hc : vwCl[ci]? = some (C, T, N)) (hin : ∀ w ∈ u_ws C T N, w ∈ GT) (ty0 : Nat → FieldType) (hty : ∀ k, k < N → parseFieldDescriptor (T k).2.2.1 = some (ty0 k)) (hnm : ∀ a, a < N → ∀ b, b < N → a ≠ b → (T a).2.1 ≠ (T b).2.1) (j : Nat) (hj : j < N) {index : Nat} {ref : String} (hlink : Cond.fieldLink own index ref (T j).2.1 (T j).2.2.1 ∈ GT) (hsame : (T j).1 = ref) (hfin : (T j).2.2.2 = true) (hown2 : (T j).1 = own) {ty : FieldType} {v : Value} (hd : ty0 j = ty) (hn : narrow ty v = v) (hfit : fits ty v = true) (hl : j < fs.length) (hdg : decode cc pc = .ok (.putfield index, 3))
    (K : ∀ (H1 : Heap) (locs1 : List Loc), WE g (va_up E k (.inr (ci, fs.set j v))) n s.heap H1 locs1 → W p l e Rm s m args below meth c H1 locs1 cells slots Q (F0 m (pc + 3) ls rest)) : W p l e Rm s m args below meth c H locs cells slots Q (F0 m pc ls (v :: .ref (g.2.2.1 + k) :: rest)) := by
  obtain ⟨hx, hb, -, -, hown, hts, hK, -⟩ := C0
  obtain ⟨⟨hP, hD⟩, hS⟩ := hW
  obtain ⟨q0, hq⟩ := we_get (g := g) (E := E) hk
  have hset := we_set (e := .inr (ci, fs.set j v)) hD hk hq
  rw [he] at hq
  exact va_putF hx hb hts hin ty0 hty hnm hown hK.1 hP hD hS q0 hq hc j hj (hts _ hlink) (fun x h => by rw [← hsame]; exact h) hfin hnm2 hown2 (by rw [← hd]; exact hty j hj) hn hfit hl hdg
    (fun H1 locs1 a1 a2 a3 => K H1 locs1 ⟨⟨by rw [hset] at a1; exact a1, by rw [hset] at a2; exact a2⟩, a3⟩)
theorem ce_get (C0 : CX g p s m args meth c own cc nL ret) (hW : WE g E n s.heap H locs) {k ci : Nat} {fs : List Value} (hk : k < n) (he : E k = .inr (ci, fs)) {C : String} {T : u_T} {N : Nat} (hc : vwCl[ci]? = some (C, T, N)) (hin : ∀ w ∈ u_ws C T N, w ∈ GT) (j : Nat) (hj : j < N) {index : Nat} {ref : String} (hlink : Cond.fieldLink own index ref (T j).2.1 (T j).2.2.1 ∈ GT) (hsame : (T j).1 = ref) {v : Value} (hv : fs[j]? = some v) (hdg : decode cc pc = .ok (.getfield index, 3))
    (K : W p l e Rm s m args below meth c H locs cells slots Q (F0 m (pc + 3) ls (v :: rest))) : W p l e Rm s m args below meth c H locs cells slots Q (F0 m pc ls (.ref (g.2.2.1 + k) :: rest)) := by
  obtain ⟨hx, hb, -, -, hown, hts, hK, -⟩ := C0
  obtain ⟨q0, hq⟩ := we_get (g := g) (E := E) hk
  rw [he] at hq
  exact va_get hx hb hts hin hown hK.1 hW.1.1 q0 hq hc j hj (hts _ hlink) (fun x h => by rw [← hsame]; exact h) hv hdg K
theorem ce_ast (C0 : CX g p s m args meth c own cc nL ret) (hW : WE g E n s.heap H locs) {a k N q j ci : Nat} {C : String} {T : u_T} {N2 : Nat} {f : Nat → Option Nat} {fs : List Value} (ha : a < n) (hea : E a = .inl (g.2.1 q, N, .inr (.inr (.inr (.inr f))))) (hj : (tysL g.2.1)[j]? = some (g.2.1 q, .object C)) (hk : k < n) (hek : E k = .inr (ci, fs)) (hc : vwCl[ci]? = some (C, T, N2)) {i : Int32} {i0 : Nat} (hi0 : i.toNatClampNeg = i0) (hin : vp_in i N) (hdg : decode cc pc = .ok (.aastore, 1))
    (K : ∀ (H1 : Heap) (locs1 : List Loc), WE g (va_up E a (.inl (g.2.1 q, N, .inr (.inr (.inr (.inr (va_up f i0 (some (g.2.2.1 + k)))))))))  n s.heap H1 locs1 → W p l e Rm s m args below meth c H1 locs1 cells slots Q (F0 m (pc + 1) ls rest)) : W p l e Rm s m args below meth c H locs cells slots Q (F0 m pc ls (.ref (g.2.2.1 + k) :: .int i :: .ref (g.2.2.1 + a) :: rest)) := by
  subst hi0
  obtain ⟨hx, hb, -, -, hown, hts, hK, -⟩ := C0
  obtain ⟨⟨hP, hD⟩, hS⟩ := hW
  obtain ⟨q0, hq⟩ := we_get (g := g) (E := E) ha
  obtain ⟨q2, hq2⟩ := we_get (g := g) (E := E) hk
  have hset := we_set (e := .inl (g.2.1 q, N, .inr (.inr (.inr (.inr (va_up f i.toNatClampNeg (some (g.2.2.1 + k)))))))) hD ha hq
  rw [hea] at hq
  rw [hek] at hq2
  exact va_astq (r := (C, T, N2)) hx hb hK.1 hP hD hS q0 j q2 ci hq hj hq2 hc hin hdg (fun H1 locs1 a1 a2 a3 => K H1 locs1 ⟨⟨hset ▸ a1, hset ▸ a2⟩, a3⟩)
theorem ce_pre (C0 : CX g p s m args meth c own cc nL ret) (hW : WE g E n s.heap H locs) (hsz : H.size = g.2.2.1 + n) {As : List Value} : PreS s H (va_Pc As (PE g E n)) As :=
  ⟨PE_blind, fun U hU hWm => ⟨rfl, ⟨by rw [hU]; exact hW.1, C0.2.2.2.2.2.2.1.at' hW.2 hU hWm⟩, by rw [hU]; exact hsz⟩⟩
theorem ce_cI (C0 : CX g p s m args meth c own cc nL ret) (hW : WE g E n s.heap H locs) (hsz : H.size = g.2.2.1 + n) {k : Nat} {As : List Value} {y : MethodName} {bytes : ByteArray} {maxL nn index mc ms : Nat} {rm : Room} {E2 : Nat → va_E} {n2 : Nat}
    (hM : Met l y (Cond.code y bytes maxL none :: GT) rm (va_Pc (.ref (g.2.2.1 + k) :: As) (PE g E n)) (QE g E2 n2) mc ms (AA g)) (cw : CallB Rm s args own index y bytes maxL none (Cond.code y bytes maxL none :: GT) rm mc ms nn ∧ y.name = "<init>" ∧ (Cond.instanceMethod y).before args s = true)
    (hn : As.length = nn) (hsize : ls.size = nL) {st0 : List Value} (hst : st0 = As.reverse ++ .ref (g.2.2.1 + k) :: rest) (hr : (rest.map fun v => v.category).sum ≤ 8) (hf : cells + mc ≤ Rm.cells ∧ slots + ms ≤ Rm.slots) (hdg : decode cc pc = .ok (.invokespecial index, 3))
    (K : ∀ (H1 : Heap) (locs1 : List Loc), WE g E2 n2 s.heap H1 locs1 → W p l e Rm s m args below meth c H1 locs1 (cells + mc) (slots + ms) Q (F0 m (pc + 3) ls rest)) : W p l e Rm s m args below meth c H locs cells slots Q (F0 m pc ls st0) := by
  refine va_callv (va_runI (g := F0 m pc ls st0) (rest := rest) (aw_fix C0) hM cw (ce_pre C0 hW hsz) rfl hn hsize hst (lv_room hr) hdg hf) hW.2 (fun q _ h => h) (fun q h => h) (fun u t H1 locs1 ht _ hp hB _ _ hS => ?_)
  subst ht
  exact K t.heap locs1 ⟨hB.1, hS⟩
theorem ce_cIN (C0 : CX g p s m args meth c own cc nL ret) (hW : WE g E n s.heap H locs) (hsz : H.size = g.2.2.1 + n) {k : Nat} {As : List Value} {y : MethodName} {host : String} {bytes : ByteArray} {maxL nn index mc ms : Nat} {rm : Room} {E2 : Nat → va_E} {n2 : Nat}
    (hM : Met l y (Cond.code y bytes maxL none :: GT) rm (va_Pc (.ref (g.2.2.1 + k) :: As) (PE g E n)) (QE g E2 n2) mc ms (AA g)) (cw : va_CN Rm s args own index y host bytes maxL none (Cond.code y bytes maxL none :: GT) rm mc ms nn ∧ y.name = "<init>" ∧ (Cond.instanceMethod y).before args s = true)
    (hn : As.length = nn) (hsize : ls.size = nL) {st0 : List Value} (hst : st0 = As.reverse ++ .ref (g.2.2.1 + k) :: rest) (hr : (rest.map fun v => v.category).sum ≤ 8) (hf : cells + mc ≤ Rm.cells ∧ slots + ms ≤ Rm.slots) (hdg : decode cc pc = .ok (.invokespecial index, 3))
    (K : ∀ (H1 : Heap) (locs1 : List Loc), WE g E2 n2 s.heap H1 locs1 → W p l e Rm s m args below meth c H1 locs1 (cells + mc) (slots + ms) Q (F0 m (pc + 3) ls rest)) : W p l e Rm s m args below meth c H locs cells slots Q (F0 m pc ls st0) := by
  refine va_callv (va_runIN (g := F0 m pc ls st0) (rest := rest) (aw_fix C0) hM cw (ce_pre C0 hW hsz) rfl hn hsize hst (lv_room hr) hdg hf) hW.2 (fun q _ h => h) (fun q h => h) (fun u t H1 locs1 ht _ hp hB _ _ hS => ?_)
  subst ht
  exact K t.heap locs1 ⟨hB.1, hS⟩
theorem ce_ret (C0 : CX g p s m args meth c own cc nL none) (hW : WE g E n s.heap H locs) (hsz : H.size = g.2.2.1 + n) {mc ms : Nat} (hmc : cells ≤ mc) (hms : slots ≤ ms) (hdg : decode cc pc = .ok (.return_, 1)) : W p l e Rm s m args below meth c H locs cells slots (MQ below (QE g E n) args s mc ms (AA g)) (F0 m pc ls []) := by
  obtain ⟨hx, hb, -, hr, hown, hts, hK, hlk⟩ := C0
  exact W.widen hmc hms (W.vret (hlocks := hlk) hx hb hr (fun t ht _ => ⟨⟨(), rfl, trivial, (show HE g E n t.heap ∧ t.heap.size = g.2.2.1 + n by rw [ht]; exact ⟨hW.1, hsz⟩)⟩, hW.2.F ht⟩) hW.2.2.2 hdg)
theorem ce_ofW {y : MethodName} {maxL : Nat} {av : List Value} {rm : Room} {Qc : Array Value → State → Outcome → State → Prop} {mc ms : Nat} (hy : plainName y.cls = true) {lv0 : List (Nat × Value)} (hlen : (lg_sl av).length ≤ maxL) (hav : lv_args 0 av = lv0)
    (body : ∀ (p : Program) (e : Env) (s : State) (m : MethodId) (args : Array Value) (below : List Frame) (meth : Method) (c : Code) (ls : Array Slot), CX g p s m args meth c y.cls cc maxL none → meth.name = y.name → s.heap.size = g.2.2.1 + n → lv_has ls maxL lv0 → WE g E n s.heap s.heap [] →
      W p l e rm s m args below meth c s.heap [] 0 0 (MQ below Qc args s mc ms (AA g)) (F0 m 0 ls [])) : Met l y (Cond.code y cc maxL none :: GT) rm (va_Pc av (PE g E n)) Qc mc ms (AA g) := by
  refine Met.ofW (cc := cc) (maxL := maxL) (ret := none) hy rfl ?_
  intro p e s m args below meth c s₁ B hml hv
  obtain ⟨rfl, ⟨hH, hKS⟩, hsz⟩ := hv
  have hl := lv_entry av hlen
  rw [hav] at hl
  rw [lg_entry_eq]
  exact body p e s m _ below meth c _ ⟨B.exec, B.bytes, hml, B.returns, findClass_of_methodNamed B.named, fun w h => atoms_spec (ws := Cond.code y cc maxL none :: GT) B.pre w (List.mem_cons_of_mem _ h), hKS, B.notSynchronized⟩ (name_of_methodNamed B.named B.method).1 hsz hl ⟨hH, va_S.rf⟩
end
end CTR
