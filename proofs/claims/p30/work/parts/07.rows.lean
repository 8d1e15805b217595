/-! ROWS OVER THE WORLD: what an instruction needs and does, in the words of I, R, P, Z; contracts (QI: an int, QV: nothing, QQ: a reference or null, QD: a double), their starts and ends, calls. -/
section RWS
def strL : List (String × Nat × String) := [("TruthFilters", 289, "no such table"), ("TruthFilters", 298, "a cell is unknown or 0 to 99"), ("TruthFilters", 82, "the table is full"), ("TruthFilters", 292, "no such row"), ("TruthFilters", 294, "no such column"), ("TruthFilters", 296, "no such slot"), ("TruthFilters", 136, "the buffer is not a complete filter text"), ("TruthFilters", 300, "a number is out of range"), ("TruthFilters", 302, "the slot is empty"), ("TruthFilters", 375, "the new filter is too large"), ("TruthFilters", 189, "no such character"), ("TruthFilters", 191, "the buffer is full"), ("TruthFilters", 193, "no state is saved"), ("TruthFilters", 202, "no snapshot is in the slot"), ("TruthFilters", 216, "a group has no negative number"), ("TruthFilters", 249, "an index is not negative"), ("TruthFilters", 273, "there is no negative number of a join")]
def dclL : List MethodName := [⟨"java/lang/RuntimeException", "<init>", "()V"⟩, ⟨"java/lang/RuntimeException", "<init>", "(Ljava/lang/String;)V"⟩, ⟨"java/lang/Exception", "<init>", "()V"⟩, ⟨"java/lang/Exception", "<init>", "(Ljava/lang/String;)V"⟩, ⟨"java/lang/Throwable", "<init>", "()V"⟩, ⟨"java/lang/Throwable", "<init>", "(Ljava/lang/String;)V"⟩]
def cstL : List (String × String) := [("java/lang/IndexOutOfBoundsException", "java/lang/IndexOutOfBoundsException"), ("java/lang/IllegalArgumentException", "java/lang/IllegalArgumentException"), ("java/lang/IllegalStateException", "java/lang/IllegalStateException")]
def nstL : List (String × Nat × MethodName × String) := [("TruthFilters", 9, ⟨"TruthFilters$State", "<init>", "()V"⟩, "TruthFilters"), ("TruthFilters", 44, ⟨"TruthFilters$Evaluator", "<init>", "()V"⟩, "TruthFilters"), ("TruthFilters$Evaluator", 9, ⟨"TruthFilters$Pile", "<init>", "()V"⟩, "TruthFilters"), ("TruthFilters", 51, ⟨"TruthFilters$Candidates", "<init>", "()V"⟩, "TruthFilters"), ("TruthFilters", 58, ⟨"TruthFilters$Reader", "<init>", "()V"⟩, "TruthFilters"), ("TruthFilters$Reader", 9, ⟨"TruthFilters$Pile", "<init>", "()V"⟩, "TruthFilters"), ("TruthFilters", 65, ⟨"TruthFilters$ShortText", "<init>", "()V"⟩, "TruthFilters"), ("TruthFilters$ShortText", 17, ⟨"TruthFilters$Pile", "<init>", "()V"⟩, "TruthFilters"), ("TruthFilters$Step", 26, ⟨"TruthFilters", "hasBit", "(II)Z"⟩, "TruthFilters")]
def aoL : List String := ["TruthFilters$Filter", "TruthFilters$State"]
def ncL : List (String × String) := [("java/lang/IllegalStateException", "java/lang/IndexOutOfBoundsException"), ("java/lang/IllegalArgumentException", "java/lang/IndexOutOfBoundsException"), ("java/lang/IllegalStateException", "java/lang/IllegalArgumentException")]
/-- what the throws need: words that aren't good ones, the texts, the two statics -/
def EX (g : Gam) (U : State) : Prop := (∀ q ∈ nstL, va_Nw (.methodLinkNest q.1 q.2.1 q.2.2.1 q.2.2.2) U) ∧ (∀ C ∈ aoL, va_AO C U) ∧ (∀ x ∈ dclL, va_Nw (.declares x) U) ∧ (∀ q ∈ cstL, va_Nw (.castable q.1 q.2) U) ∧ (∀ q ∈ strL, ∃ sa : Nat, vk_R q.1 q.2.1 q.2.2 sa U) ∧ vx_Zq Bundle.tN "UNASSIGNED_STACK" Bundle.steD (AA g) U U.heap ∧ vx_Zq Bundle.tN "SUPPRESSED_SENTINEL" Bundle.listD (AA g) U U.heap ∧ ∀ q ∈ ncL, va_Nc q.1 q.2 U
def KS (g : Gam) (U : State) : Prop := va_K g.1 vwCl (tysL g.2.1) U ∧ g.2.2.2 ≤ U.heap.size ∧ EX g U
theorem KS.at' {g : Gam} {s U : State} {H : Heap} {locs : List Loc} (h : KS g s) (hS : va_S (AA g) s.heap H locs) (hU : U.heap = H) (hW : s.WarmedH U.vm) : KS g U := by
  obtain ⟨h1, h2, h8, h9, h3, h4, h5, h6, h7, hn⟩ := h
  refine ⟨va_K.moved hW.alike h1, by rw [hU]; exact Nat.le_trans h2 hS.1, fun q hq => (h8 q hq).warmM hW, fun C hC => (h9 C hC).moved hW.alike, fun x hx => (h3 x hx).warmD hW, fun q hq => (h4 q hq).warmC hW, fun q hq => ?_, ?_, ?_, fun q hq => (hn q hq).moved hW.alike⟩
  · obtain ⟨sa, ha⟩ := h5 q hq
    exact ⟨sa, ha.warm hW⟩
  · rw [hU]; exact (h6.moved hW.alike).kept hS.2.1
  · rw [hU]; exact (h7.moved hW.alike).kept hS.2.1
theorem KS.call {g : Gam} {U : State} (gf : JFrame) (mk : MethodId) (a : Array Value) (h : KS g U) : KS g (U.calling gf mk a) := by
  obtain ⟨h1, h2, h8, h9, h3, h4, h5, h6, h7, hn⟩ := h
  refine ⟨va_K.moved (u := U) (U := U.calling gf mk a) (Vm.Alike.refl U.vm) h1, h2, fun q hq => va_Nw.same (u := U) (U := U.calling gf mk a) rfl rfl (h8 q hq), fun C hC => va_AO.moved (u := U) (U := U.calling gf mk a) (Vm.Alike.refl U.vm) (h9 C hC), fun x hx => va_Nw.same (u := U) (U := U.calling gf mk a) rfl rfl (h3 x hx), fun q hq => va_Nw.same (u := U) (U := U.calling gf mk a) rfl rfl (h4 q hq), fun q hq => ?_, ?_, ?_, fun q hq => va_Nc.moved (u := U) (U := U.calling gf mk a) (Vm.Alike.refl U.vm) (hn q hq)⟩
  · obtain ⟨sa, ha⟩ := h5 q hq
    exact ⟨sa, vk_R.same (u := U) (U := U.calling gf mk a) rfl ha⟩
  · exact vx_Zq.moved (u := U) (U := U.calling gf mk a) (Vm.Alike.refl U.vm) h6
  · exact vx_Zq.moved (u := U) (U := U.calling gf mk a) (Vm.Alike.refl U.vm) h7
def HW (g : Gam) (I : Mem) (R : Rem) (P : Pool) (Z : Zed) (H : Heap) : Prop := va_P g.1 vwCl (ws g I R P Z) H ∧ va_D (AA g) (ws g I R P Z) ∧ Sh P
def Wd (g : Gam) (I : Mem) (R : Rem) (P : Pool) (Z : Zed) (H0 H : Heap) (locs : List Loc) : Prop := HW g I R P Z H ∧ va_S (AA g) H0 H locs
def PW (g : Gam) (I : Mem) (R : Rem) (P : Pool) (Z : Zed) (U : State) : Prop := HW g I R P Z U.heap ∧ KS g U
def QI (g : Gam) (r : Int32) (I : Mem) (R : Rem) (P : Pool) (Z : Zed) : Array Value → State → Outcome → State → Prop := va_Qi (S := Unit) (fun x _ => x = r) (fun _ t => HW g I R P Z t.heap) (AA g)
def QV (g : Gam) (I : Mem) (R : Rem) (P : Pool) (Z : Zed) : Array Value → State → Outcome → State → Prop := va_Qv (S := Unit) (fun _ => True) (fun _ t => HW g I R P Z t.heap) (AA g)
def QD (g : Gam) (r : UInt64) (I : Mem) (R : Rem) (P : Pool) (Z : Zed) : Array Value → State → Outcome → State → Prop := va_Qd (S := Unit) (fun x _ => x = r) (fun _ t => HW g I R P Z t.heap) (AA g)
def QQ (g : Gam) (r : Option Nat) (I : Mem) (R : Rem) (P : Pool) (Z : Zed) : Array Value → State → Outcome → State → Prop := va_Qq (S := Unit) (fun x _ => x = r.map (fun y => g.2.2.1 + y)) (fun _ t => HW g I R P Z t.heap) (AA g)
def CX (g : Gam) (p : Program) (s : State) (m : MethodId) (args : Array Value) (meth : Method) (c : Code) (own : String) (cc : ByteArray) (nL : Nat) (ret : Option FieldType) : Prop :=
  p.tables.exec = Jvm.exec ∧ c.code = cc ∧ c.maxLocals = nL ∧ meth.sig.returnType = ret ∧ s.vm.findClass own = some m.cls ∧ (∀ w ∈ GT, w.before args s = true) ∧ KS g s ∧ meth.locks = false
theorem PW_blind {g : Gam} {I : Mem} {R : Rem} {P : Pool} {Z : Zed} {av : List Value} : FrameBlind (va_Pc av (PW g I R P Z)) := fun a U gf mk h => ⟨h.1, h.2.1, KS.call gf mk a h.2.2⟩
/-- an int array's place -/
def rd (I : Mem) (a n : Nat) (i : Int32) : Option Int32 := if ¬ i < 0 ∧ i.toNatClampNeg < n then some (I a i.toNatClampNeg) else none
def wr (I : Mem) (a n : Nat) (i x : Int32) : Option Mem := if ¬ i < 0 ∧ i.toNatClampNeg < n then some (up I a i.toNatClampNeg x) else none
/-- a place of a row of references, which must be null or of the kind q -/
def rdq (R : Rem) (P : Pool) (a n : Nat) (q : Nat) (i : Int32) : Option (Option Nat) := if ¬ i < 0 ∧ i.toNatClampNeg < n then (match R a i.toNatClampNeg with
  | none => some none
  | some k => if Kd P k = q then some (some k) else none) else none
def wrq (R : Rem) (a n : Nat) (i : Int32) (x : Option Nat) : Option Rem := if ¬ i < 0 ∧ i.toNatClampNeg < n then some (upR R a i.toNatClampNeg x) else none
theorem rd_in {I : Mem} {a n : Nat} {i v : Int32} (h : rd I a n i = some v) : vp_in i n ∧ I a i.toNatClampNeg = v := by
  unfold rd at h
  split at h
  · rename_i hc
    exact ⟨fun q => q.elim hc.1 (fun q => absurd hc.2 (Nat.not_lt.mpr q)), Option.some.inj h⟩
  · cases h
theorem wr_in {I I2 : Mem} {a n : Nat} {i x : Int32} (h : wr I a n i x = some I2) : vp_in i n ∧ up I a i.toNatClampNeg x = I2 := by
  unfold wr at h
  split at h
  · rename_i hc
    exact ⟨fun q => q.elim hc.1 (fun q => absurd hc.2 (Nat.not_lt.mpr q)), Option.some.inj h⟩
  · cases h
theorem rdq_in {R : Rem} {P : Pool} {a n q : Nat} {i : Int32} {v : Option Nat} (h : rdq R P a n q i = some v) : vp_in i n ∧ R a i.toNatClampNeg = v ∧ ∀ k, v = some k → Kd P k = q := by
  unfold rdq at h
  split at h
  · rename_i hc
    refine ⟨fun q => q.elim hc.1 (fun q => absurd hc.2 (Nat.not_lt.mpr q)), ?_⟩
    split at h
    · rename_i h2
      cases h
      exact ⟨h2, fun k hk => by cases hk⟩
    · rename_i k h2
      split at h
      · rename_i h3
        cases h
        exact ⟨h2, fun k hk => by cases hk; exact h3⟩
      · cases h
  · cases h
theorem wrq_in {R R2 : Rem} {a n : Nat} {i : Int32} {x : Option Nat} (h : wrq R a n i x = some R2) : vp_in i n ∧ upR R a i.toNatClampNeg x = R2 := by
  unfold wrq at h
  split at h
  · rename_i hc
    exact ⟨fun q => q.elim hc.1 (fun q => absurd hc.2 (Nat.not_lt.mpr q)), Option.some.inj h⟩
  · cases h
theorem bnd {α β : Type} {o : Option α} {K : α → Option β} {z : β} (h : o.bind K = some z) : ∃ v, o = some v ∧ K v = some z := by
  cases o with
  | none => cases h
  | some v => exact ⟨v, rfl, h⟩
theorem ift {α : Type} {c : Prop} {d : Decidable c} {A B z : α} (hc : c) (h : @ite α c d A B = z) : A = z := (if_pos hc).symm.trans h
theorem iff_ {α : Type} {c : Prop} {d : Decidable c} {A B z : α} (hc : ¬ c) (h : @ite α c d A B = z) : B = z := (if_neg hc).symm.trans h
theorem ifn {α : Type} {c : Prop} {d : Decidable c} {A : Option α} {z : α} (h : @ite (Option α) c d A none = some z) : c ∧ A = some z := by
  by_cases hc : c
  · exact ⟨hc, (if_pos hc).symm.trans h⟩
  · rw [if_neg hc] at h; cases h
/-- a reference field that must hold an object or a row of the kind q -/
def rdn (R : Rem) (P : Pool) (a j q : Nat) : Option Nat := match R a j with
  | none => none
  | some k => if Kd P k = q then some k else none
theorem rdn_in {R : Rem} {P : Pool} {a j q v : Nat} (h : rdn R P a j q = some v) : R a j = some v ∧ Kd P v = q := by
  unfold rdn at h
  split at h
  · cases h
  · rename_i k h2
    split at h
    · rename_i h3
      cases h
      exact ⟨h2, h3⟩
    · cases h
def jmax (x y : Int32) : Int32 := if x < y then y else x
def jmin (x y : Int32) : Int32 := if y < x then y else x
def oq {β : Type} (o : Option Nat) (a : β) (f : Nat → β) : β := match o with
  | none => a
  | some k => f k
def cpy (I : Mem) (a0 n0 a1 n1 : Nat) (sp dp n : Int32) : Option Mem := if ¬ sp < 0 ∧ ¬ dp < 0 ∧ ¬ n < 0 ∧ sp.toNatClampNeg + n.toNatClampNeg ≤ n0 ∧ dp.toNatClampNeg + n.toNatClampNeg ≤ n1 then some (fun b => if b = a1 then va_cpy (I a0) (I a1) sp.toNatClampNeg dp.toNatClampNeg n.toNatClampNeg else I b) else none
theorem i32_ne {x k : Int32} {n : Int} (hk : k.toInt = n) (h : ¬ x = k) : x.toInt ≠ n := fun e => h (Int32.toInt_inj.mp (e.trans hk.symm))
theorem lko_c {a o d k v : Int} {r : List (Int × Int)} (h : k ≠ a) (h2 : Op.lookupswitch.offset r d k = v) : Op.lookupswitch.offset ((a, o) :: r) d k = v := by
  rw [Op.lookupswitch.offset_cons, if_neg (fun e => h (by first | exact e | exact e.symm | simpa using e))]; exact h2
theorem pile_k {P : Pool} (hP : Sh P) {k : Nat} (h : Kd P k = 3) : Kd P (k + 1) = 10 ∧ Ln P (k + 1) = 64 := by
  by_cases hk : k < 70
  · have h' : kdL.getD k 99 = 3 := by unfold Kd at h; rwa [if_pos hk] at h
    have key : ∀ k, k < 70 → kdL.getD k 99 = 3 → (k + 1 < 70 ∧ kdL.getD (k + 1) 99 = 10 ∧ lnL.getD (k + 1) 0 = 64) := by decide +kernel
    obtain ⟨h1, h2, h3⟩ := key k hk h'
    exact ⟨by unfold Kd; rw [if_pos h1]; exact h2, by unfold Ln; rw [if_pos h1]; exact h3⟩
  · unfold Kd at h
    rw [if_neg hk] at h
    rcases (hP k (by omega)).1 with h1 | h1 | h1 | ⟨h1, -⟩ <;> rw [h1] at h <;> cases h
theorem state_k {P : Pool} (hP : Sh P) {k : Nat} (h : Kd P k = 6) : (Kd P (k + 1) = 10 ∧ Ln P (k + 1) = 128) ∧ (Kd P (k + 2) = 10 ∧ Ln P (k + 2) = 2) ∧ (Kd P (k + 3) = 12 ∧ Ln P (k + 3) = 6) ∧ (Kd P (k + 4) = 12 ∧ Ln P (k + 4) = 2) := by
  by_cases hk : k < 70
  · have h' : kdL.getD k 99 = 6 := by unfold Kd at h; rwa [if_pos hk] at h
    have key : ∀ k, k < 70 → kdL.getD k 99 = 6 → (k + 4 < 70 ∧ (kdL.getD (k + 1) 99 = 10 ∧ lnL.getD (k + 1) 0 = 128) ∧ (kdL.getD (k + 2) 99 = 10 ∧ lnL.getD (k + 2) 0 = 2) ∧ (kdL.getD (k + 3) 99 = 12 ∧ lnL.getD (k + 3) 0 = 6) ∧ (kdL.getD (k + 4) 99 = 12 ∧ lnL.getD (k + 4) 0 = 2)) := by decide +kernel
    obtain ⟨h0, h1, h2, h3, h4⟩ := key k hk h'
    unfold Kd Ln
    rw [if_pos (by omega), if_pos (by omega), if_pos (by omega), if_pos (by omega), if_pos (by omega), if_pos (by omega), if_pos (by omega), if_pos (by omega)]
    exact ⟨h1, h2, h3, h4⟩
  · unfold Kd at h
    rw [if_neg hk] at h
    rcases (hP k (by omega)).1 with h1 | h1 | h1 | ⟨h1, -⟩ <;> rw [h1] at h <;> cases h
section
variable {p : Program} {l : Launch} {e : Env} {Rm : Room} {s : State} {m : MethodId} {args : Array Value} {below : List Frame} {meth : Method} {c : Code} {H : Heap} {locs : List Loc} {cells slots : Nat} {Q : State → Prop}
variable {cc : ByteArray} {pc : Nat} {ls : Array Slot} {rest : List Value} {g : Gam} {I : Mem} {R : Rem} {P : Pool} {Z : Zed} {own : String} {nL : Nat} {ret : Option FieldType}
theorem aw_get (C0 : CX g p s m args meth c own cc nL ret) (hW : Wd g I R P Z s.heap H locs) {k ci : Nat} {fs : List Value} (hk : k ∈ LV P) (he : cel g I R P Z k = .inr (ci, fs)) {C : String} {T : u_T} {N : Nat} (hc : vwCl[ci]? = some (C, T, N)) (hin : ∀ w ∈ u_ws C T N, w ∈ GT) (j : Nat) (hj : j < N) {index : Nat} {ref : String} (hlink : Cond.fieldLink own index ref (T j).2.1 (T j).2.2.1 ∈ GT) (hsame : (T j).1 = ref) {v : Value} (hv : fs[j]? = some v) (hdg : decode cc pc = .ok (.getfield index, 3))
    (K : W p l e Rm s m args below meth c H locs cells slots Q (F0 m (pc + 3) ls (v :: rest))) : W p l e Rm s m args below meth c H locs cells slots Q (F0 m pc ls (.ref (g.2.2.1 + k) :: rest)) := by
  obtain ⟨hx, hb, -, -, hown, hts, hK, -⟩ := C0
  obtain ⟨q0, hq⟩ := ws_get (g := g) (I := I) (R := R) (Z := Z) hk
  rw [he] at hq
  exact va_get hx hb hts hin hown hK.1 hW.1.1 q0 hq hc j hj (hts _ hlink) (fun x h => by rw [← hsame]; exact h) hv hdg K
theorem aw_put (C0 : CX g p s m args meth c own cc nL ret) (hW : Wd g I R P Z s.heap H locs) {k ci : Nat} {fs : List Value} (hk : k ∈ LV P) (he : cel g I R P Z k = .inr (ci, fs)) {C : String} {T : u_T} {N : Nat} (hc : vwCl[ci]? = some (C, T, N)) (hin : ∀ w ∈ u_ws C T N, w ∈ GT) (ty0 : Nat → FieldType) (hty : ∀ k, k < N → parseFieldDescriptor (T k).2.2.1 = some (ty0 k)) (hnm : ∀ a, a < N → ∀ b, b < N → a ≠ b → (T a).2.1 ≠ (T b).2.1) (j : Nat) (hj : j < N) {index : Nat} {ref : String} (hlink : Cond.fieldLink own index ref (T j).2.1 (T j).2.2.1 ∈ GT) (hsame : (T j).1 = ref) (hfin : (T j).2.2.2 = false) {ty : FieldType} {v : Value} (hd : ty0 j = ty) (hn : narrow ty v = v) (hfit : fits ty v = true) (hl : j < fs.length)
    {I2 : Mem} {R2 : Rem} (hE : ∀ i, va_up (cel g I R P Z) k (.inr (ci, fs.set j v)) i = cel g I2 R2 P Z i) (hdg : decode cc pc = .ok (.putfield index, 3))
    (K : ∀ (H1 : Heap) (locs1 : List Loc), Wd g I2 R2 P Z s.heap H1 locs1 → W p l e Rm s m args below meth c H1 locs1 cells slots Q (F0 m (pc + 3) ls rest)) : W p l e Rm s m args below meth c H locs cells slots Q (F0 m pc ls (v :: .ref (g.2.2.1 + k) :: rest)) := by
  obtain ⟨hx, hb, -, -, hown, hts, hK, -⟩ := C0
  obtain ⟨⟨hP, hD, hSh⟩, hS⟩ := hW
  obtain ⟨q0, hq⟩ := ws_get (g := g) (I := I) (R := R) (Z := Z) hk
  have hset := ws_set hD hk hq hE
  rw [he] at hq
  exact va_put hx hb hts hin ty0 hty hnm hown hK.1 hP hD hS q0 hq hc j hj (hts _ hlink) (fun x h => by rw [← hsame]; exact h) hfin (by rw [← hd]; exact hty j hj) hn hfit hl hdg
    (fun H1 locs1 a1 a2 a3 => K H1 locs1 ⟨⟨by rw [hset] at a1; exact a1, by rw [hset] at a2; exact a2, hSh⟩, a3⟩)
theorem aw_iald (C0 : CX g p s m args meth c own cc nL ret) (hW : Wd g I R P Z s.heap H locs) {a n : Nat} (ha : Kd P a = 10) (hn : Ln P a = n) {i v : Int32} (hv : rd I a n i = some v) (hdg : decode cc pc = .ok (.iaload, 1))
    (K : W p l e Rm s m args below meth c H locs cells slots Q (F0 m (pc + 1) ls (.int v :: rest))) : W p l e Rm s m args below meth c H locs cells slots Q (F0 m pc ls (.int i :: .ref (g.2.2.1 + a) :: rest)) := by
  obtain ⟨hx, hb, -, -, hown, hts, hK, -⟩ := C0
  obtain ⟨h1, h2⟩ := rd_in hv
  obtain ⟨q0, hq⟩ := ws_get (g := g) (I := I) (R := R) (Z := Z) (lv_kd hW.1.2.2 ha (by decide))
  rw [cel_10 ha, hn] at hq
  exact va_iald hx hb hK.1 hW.1.1 q0 1 hq rfl h1 hdg (by rw [h2]; exact K)
theorem aw_cald (C0 : CX g p s m args meth c own cc nL ret) (hW : Wd g I R P Z s.heap H locs) {a n : Nat} (ha : Kd P a = 9) (hn : Ln P a = n) {i v : Int32} (hv : rd I a n i = some v) (hdg : decode cc pc = .ok (.caload, 1))
    (K : W p l e Rm s m args below meth c H locs cells slots Q (F0 m (pc + 1) ls (.int v :: rest))) : W p l e Rm s m args below meth c H locs cells slots Q (F0 m pc ls (.int i :: .ref (g.2.2.1 + a) :: rest)) := by
  obtain ⟨hx, hb, -, -, hown, hts, hK, -⟩ := C0
  obtain ⟨h1, h2⟩ := rd_in hv
  obtain ⟨q0, hq⟩ := ws_get (g := g) (I := I) (R := R) (Z := Z) (lv_kd hW.1.2.2 ha (by decide))
  rw [cel_9 ha, hn] at hq
  exact va_cald hx hb hK.1 hW.1.1 q0 0 hq rfl h1 hdg (by rw [h2]; exact K)
theorem aw_zald (C0 : CX g p s m args meth c own cc nL ret) (hW : Wd g I R P Z s.heap H locs) {a n : Nat} (ha : Kd P a = 11) (hn : Ln P a = n) {i v : Int32} (hv : rd I a n i = some v) (hdg : decode cc pc = .ok (.baload, 1))
    (K : W p l e Rm s m args below meth c H locs cells slots Q (F0 m (pc + 1) ls (.int v :: rest))) : W p l e Rm s m args below meth c H locs cells slots Q (F0 m pc ls (.int i :: .ref (g.2.2.1 + a) :: rest)) := by
  obtain ⟨hx, hb, -, -, hown, hts, hK, -⟩ := C0
  obtain ⟨h1, h2⟩ := rd_in hv
  obtain ⟨q0, hq⟩ := ws_get (g := g) (I := I) (R := R) (Z := Z) (lv_kd hW.1.2.2 ha (by decide))
  rw [cel_11 ha, hn] at hq
  exact va_zald hx hb hK.1 hW.1.1 q0 2 hq rfl h1 hdg (by rw [h2]; exact K)
theorem aw_iast (C0 : CX g p s m args meth c own cc nL ret) (hW : Wd g I R P Z s.heap H locs) {a n : Nat} (ha : Kd P a = 10) (hn : Ln P a = n) {i x : Int32} {I2 : Mem} (hv : wr I a n i x = some I2) (hdg : decode cc pc = .ok (.iastore, 1))
    (K : ∀ (H1 : Heap) (locs1 : List Loc), Wd g I2 R P Z s.heap H1 locs1 → W p l e Rm s m args below meth c H1 locs1 cells slots Q (F0 m (pc + 1) ls rest)) : W p l e Rm s m args below meth c H locs cells slots Q (F0 m pc ls (.int x :: .int i :: .ref (g.2.2.1 + a) :: rest)) := by
  obtain ⟨hx, hb, -, -, hown, hts, hK, -⟩ := C0
  obtain ⟨⟨hP, hD, hSh⟩, hS⟩ := hW
  obtain ⟨h1, rfl⟩ := wr_in hv
  have hk := lv_kd hSh ha (by decide)
  obtain ⟨q0, hq⟩ := ws_get (g := g) (I := I) (R := R) (Z := Z) hk
  have hset := ws_set hD hk hq (ps_10 (j := i.toNatClampNeg) (x := x) ha)
  rw [hn] at hset
  rw [cel_10 ha, hn] at hq
  exact va_iast hx hb hK.1 hP hD hS q0 1 hq rfl h1 hdg (fun H1 locs1 a1 a2 a3 => K H1 locs1 ⟨⟨by rw [hset] at a1; exact a1, by rw [hset] at a2; exact a2, hSh⟩, a3⟩)
theorem aw_cast (C0 : CX g p s m args meth c own cc nL ret) (hW : Wd g I R P Z s.heap H locs) {a n : Nat} (ha : Kd P a = 9) (hn : Ln P a = n) {i x : Int32} {I2 : Mem} (hv : wr I a n i (vp_nar .char x) = some I2) (hdg : decode cc pc = .ok (.castore, 1))
    (K : ∀ (H1 : Heap) (locs1 : List Loc), Wd g I2 R P Z s.heap H1 locs1 → W p l e Rm s m args below meth c H1 locs1 cells slots Q (F0 m (pc + 1) ls rest)) : W p l e Rm s m args below meth c H locs cells slots Q (F0 m pc ls (.int x :: .int i :: .ref (g.2.2.1 + a) :: rest)) := by
  obtain ⟨hx, hb, -, -, hown, hts, hK, -⟩ := C0
  obtain ⟨⟨hP, hD, hSh⟩, hS⟩ := hW
  obtain ⟨h1, rfl⟩ := wr_in hv
  have hk := lv_kd hSh ha (by decide)
  obtain ⟨q0, hq⟩ := ws_get (g := g) (I := I) (R := R) (Z := Z) hk
  have hset := ws_set hD hk hq (ps_9 (j := i.toNatClampNeg) (x := vp_nar .char x) ha)
  rw [hn] at hset
  rw [cel_9 ha, hn] at hq
  exact va_cast hx hb hK.1 hP hD hS q0 0 hq rfl h1 hdg (fun H1 locs1 a1 a2 a3 => K H1 locs1 ⟨⟨by rw [hset] at a1; exact a1, by rw [hset] at a2; exact a2, hSh⟩, a3⟩)
theorem aw_zast (C0 : CX g p s m args meth c own cc nL ret) (hW : Wd g I R P Z s.heap H locs) {a n : Nat} (ha : Kd P a = 11) (hn : Ln P a = n) {i x : Int32} {I2 : Mem} (hv : wr I a n i (vp_nar .boolean x) = some I2) (hdg : decode cc pc = .ok (.bastore, 1))
    (K : ∀ (H1 : Heap) (locs1 : List Loc), Wd g I2 R P Z s.heap H1 locs1 → W p l e Rm s m args below meth c H1 locs1 cells slots Q (F0 m (pc + 1) ls rest)) : W p l e Rm s m args below meth c H locs cells slots Q (F0 m pc ls (.int x :: .int i :: .ref (g.2.2.1 + a) :: rest)) := by
  obtain ⟨hx, hb, -, -, hown, hts, hK, -⟩ := C0
  obtain ⟨⟨hP, hD, hSh⟩, hS⟩ := hW
  obtain ⟨h1, rfl⟩ := wr_in hv
  have hk := lv_kd hSh ha (by decide)
  obtain ⟨q0, hq⟩ := ws_get (g := g) (I := I) (R := R) (Z := Z) hk
  have hset := ws_set hD hk hq (ps_11 (j := i.toNatClampNeg) (x := vp_nar .boolean x) ha)
  rw [hn] at hset
  rw [cel_11 ha, hn] at hq
  exact va_zast hx hb hK.1 hP hD hS q0 2 hq rfl h1 hdg (fun H1 locs1 a1 a2 a3 => K H1 locs1 ⟨⟨by rw [hset] at a1; exact a1, by rw [hset] at a2; exact a2, hSh⟩, a3⟩)
theorem aw_alen (C0 : CX g p s m args meth c own cc nL ret) (hW : Wd g I R P Z s.heap H locs) {a n : Nat} (ha : Kd P a = 10) (hn : Ln P a = n) {v : Int32} (hv : Int32.ofNat n = v) (hdg : decode cc pc = .ok (.arraylength, 1))
    (K : W p l e Rm s m args below meth c H locs cells slots Q (F0 m (pc + 1) ls (.int v :: rest))) : W p l e Rm s m args below meth c H locs cells slots Q (F0 m pc ls (.ref (g.2.2.1 + a) :: rest)) := by
  obtain ⟨hx, hb, -, -, hown, hts, hK, -⟩ := C0
  obtain ⟨q0, hq⟩ := ws_get (g := g) (I := I) (R := R) (Z := Z) (lv_kd hW.1.2.2 ha (by decide))
  rw [cel_10 ha, hn] at hq
  exact va_alen hx hb hK.1 hW.1.1 q0 1 hq rfl hv hdg K
theorem aw_alenC (C0 : CX g p s m args meth c own cc nL ret) (hW : Wd g I R P Z s.heap H locs) {a n : Nat} (ha : Kd P a = 9) (hn : Ln P a = n) {v : Int32} (hv : Int32.ofNat n = v) (hdg : decode cc pc = .ok (.arraylength, 1))
    (K : W p l e Rm s m args below meth c H locs cells slots Q (F0 m (pc + 1) ls (.int v :: rest))) : W p l e Rm s m args below meth c H locs cells slots Q (F0 m pc ls (.ref (g.2.2.1 + a) :: rest)) := by
  obtain ⟨hx, hb, -, -, hown, hts, hK, -⟩ := C0
  obtain ⟨q0, hq⟩ := ws_get (g := g) (I := I) (R := R) (Z := Z) (lv_kd hW.1.2.2 ha (by decide))
  rw [cel_9 ha, hn] at hq
  exact va_alen hx hb hK.1 hW.1.1 q0 0 hq rfl hv hdg K
-- ends
theorem aw_iret (C0 : CX g p s m args meth c own cc nL (some .int)) (hW : Wd g I R P Z s.heap H locs) {x r : Int32} {I2 : Mem} {R2 : Rem} (ex : x = r) (eI : I = I2) (eR : R = R2) (hdg : decode cc pc = .ok (.ireturn, 1)) : W p l e Rm s m args below meth c H locs cells slots (MQ below (QI g r I2 R2 P Z) args s cells slots (AA g)) (F0 m pc ls [.int x]) := by
  subst ex; subst eI; subst eR
  obtain ⟨hx, hb, -, hr, hown, hts, hK, hlk⟩ := C0
  exact W.iret (hlocks := hlk) hx hb hr (fun t ht _ => ⟨⟨x, (), rfl, rfl, (show HW g I R P Z t.heap by rw [ht]; exact hW.1)⟩, hW.2.F ht⟩) hW.2.2.2 hdg
theorem aw_zret {ty : FieldType} (C0 : CX g p s m args meth c own cc nL (some ty)) (hW : Wd g I R P Z s.heap H locs) {x r : Int32} (hn : narrow ty (.int x) = .int x) {I2 : Mem} {R2 : Rem} (ex : x = r) (eI : I = I2) (eR : R = R2) (hdg : decode cc pc = .ok (.ireturn, 1)) : W p l e Rm s m args below meth c H locs cells slots (MQ below (QI g r I2 R2 P Z) args s cells slots (AA g)) (F0 m pc ls [.int x]) := by
  subst ex; subst eI; subst eR
  obtain ⟨hx, hb, -, hr, hown, hts, hK, hlk⟩ := C0
  exact W.zret (hlocks := hlk) hx hb hr hn (fun t ht _ => ⟨⟨x, (), rfl, rfl, (show HW g I R P Z t.heap by rw [ht]; exact hW.1)⟩, hW.2.F ht⟩) hW.2.2.2 hdg
theorem aw_vret (C0 : CX g p s m args meth c own cc nL none) (hW : Wd g I R P Z s.heap H locs) {I2 : Mem} {R2 : Rem} (eI : I = I2) (eR : R = R2) (hdg : decode cc pc = .ok (.return_, 1)) : W p l e Rm s m args below meth c H locs cells slots (MQ below (QV g I2 R2 P Z) args s cells slots (AA g)) (F0 m pc ls []) := by
  subst eI; subst eR
  obtain ⟨hx, hb, -, hr, hown, hts, hK, hlk⟩ := C0
  exact W.vret (hlocks := hlk) hx hb hr (fun t ht _ => ⟨⟨(), rfl, trivial, (show HW g I R P Z t.heap by rw [ht]; exact hW.1)⟩, hW.2.F ht⟩) hW.2.2.2 hdg
-- start
theorem aw_ofW {y : MethodName} {rty : Option FieldType} {maxL : Nat} {av : List Value} {rm : Room} {Qc : Array Value → State → Outcome → State → Prop} {mc ms : Nat} (hy : plainName y.cls = true) {lv0 : List (Nat × Value)} (hlen : (lg_sl av).length ≤ maxL) (hav : lv_args 0 av = lv0)
    (body : ∀ (p : Program) (e : Env) (s : State) (m : MethodId) (args : Array Value) (below : List Frame) (meth : Method) (c : Code) (ls : Array Slot), CX g p s m args meth c y.cls cc maxL rty → lv_has ls maxL lv0 → Wd g I R P Z s.heap s.heap [] →
      W p l e rm s m args below meth c s.heap [] 0 0 (MQ below Qc args s mc ms (AA g)) (F0 m 0 ls [])) : Met l y (Cond.code y cc maxL rty :: GT) rm (va_Pc av (PW g I R P Z)) Qc mc ms (AA g) := by
  refine Met.ofW (cc := cc) (maxL := maxL) (ret := rty) hy rfl ?_
  intro p e s m args below meth c s₁ B hml hv
  obtain ⟨rfl, hH, hKS⟩ := hv
  have hl := lv_entry av hlen
  rw [hav] at hl
  rw [lg_entry_eq]
  exact body p e s m _ below meth c _ ⟨B.exec, B.bytes, hml, B.returns, findClass_of_methodNamed B.named, fun w h => atoms_spec (ws := Cond.code y cc maxL rty :: GT) B.pre w (List.mem_cons_of_mem _ h), hKS, B.notSynchronized⟩ hl ⟨hH, va_S.rf⟩
-- calls
theorem goodV {own C : String} {idx : Nat} {y : MethodName} {cd : Cond} (h1 : Cond.methodLink own idx y ∈ GT) (h2 : Cond.instanceMethod y ∈ GT) (h3 : Cond.selects C y y ∈ GT) (h4 : Cond.initialized C ∈ GT) (h5 : cd ∈ GT) : GoodIn GT (wsV own idx C y (cd :: GT)) := by
  intro w hw
  simp only [wsV, List.cons_append, List.nil_append, List.mem_cons] at hw
  rcases hw with rfl | rfl | rfl | rfl | rfl | hw
  · exact GT_in _ h1
  · exact GT_in _ h2
  · exact GT_in _ h3
  · exact GT_in _ h4
  · exact GT_in _ h5
  · exact GT_in _ hw
theorem goodS {own : String} {idx : Nat} {y : MethodName} {cd : Cond} (h1 : Cond.methodLink own idx y ∈ GT) (h2 : Cond.static y ∈ GT) (h4 : Cond.initialized y.cls ∈ GT) (h5 : cd ∈ GT) : GoodIn GT (va_wsS own idx y (cd :: GT)) := by
  intro w hw
  simp only [va_wsS, List.cons_append, List.nil_append, List.mem_cons] at hw
  rcases hw with rfl | rfl | rfl | rfl | hw
  · exact GT_in _ h1
  · exact GT_in _ h2
  · exact GT_in _ h4
  · exact GT_in _ h5
  · exact GT_in _ hw
theorem aw_preV (C0 : CX g p s m args meth c own cc nL ret) (hW : Wd g I R P Z s.heap H locs) {k ci : Nat} {fs : List Value} (hk : k ∈ LV P) (he : cel g I R P Z k = .inr (ci, fs)) {C : String} {T : u_T} {N : Nat} (hc : vwCl[ci]? = some (C, T, N)) {As : List Value} : PreV s H C (g.2.2.1 + k) (va_Pc (.ref (g.2.2.1 + k) :: As) (PW g I R P Z)) As := by
  obtain ⟨q0, hq⟩ := ws_get (g := g) (I := I) (R := R) (Z := Z) hk
  rw [he] at hq
  exact ⟨PW_blind, va_recv C0.2.2.2.2.2.2.1.1 hW.1.1 hc hq, fun U hU hWm => ⟨rfl, by rw [hU]; exact hW.1, C0.2.2.2.2.2.2.1.at' hW.2 hU hWm⟩⟩
theorem aw_preS (C0 : CX g p s m args meth c own cc nL ret) (hW : Wd g I R P Z s.heap H locs) {As : List Value} : PreS s H (va_Pc As (PW g I R P Z)) As :=
  ⟨PW_blind, fun U hU hWm => ⟨rfl, by rw [hU]; exact hW.1, C0.2.2.2.2.2.2.1.at' hW.2 hU hWm⟩⟩
theorem aw_fix (C0 : CX g p s m args meth c own cc nL ret) : CallFix p m c cc nL s args GT own := ⟨C0.1, C0.2.1, C0.2.2.1, C0.2.2.2.2.1, C0.2.2.2.2.2.1⟩
theorem aw_cVi (C0 : CX g p s m args meth c own cc nL ret) (hW : Wd g I R P Z s.heap H locs) {k ci : Nat} {fs : List Value} (hk : k ∈ LV P) (he : cel g I R P Z k = .inr (ci, fs)) {C : String} {T : u_T} {N : Nat} (hc : vwCl[ci]? = some (C, T, N)) {As : List Value} {y : MethodName} {bytes : ByteArray} {maxL n index : Nat} {rty : Option FieldType} {rm : Room} {r : Int32} {I2 : Mem} {R2 : Rem} {P2 : Pool} {Z2 : Zed}
    (hM : Met l y (Cond.code y bytes maxL rty :: GT) rm (va_Pc (.ref (g.2.2.1 + k) :: As) (PW g I R P Z)) (QI g r I2 R2 P2 Z2) 0 0 (AA g)) (cw : CallW Rm s args own C index y bytes maxL rty (Cond.code y bytes maxL rty :: GT) rm 0 0 n)
    (hn : As.length = n) (hsize : ls.size = nL) {st0 : List Value} (hst : st0 = As.reverse ++ .ref (g.2.2.1 + k) :: rest) (hr : (rest.map fun v => v.category).sum ≤ 8) (hf : cells ≤ Rm.cells ∧ slots ≤ Rm.slots) (hdg : decode cc pc = .ok (.invokevirtual index, 3))
    (K : ∀ (H1 : Heap) (locs1 : List Loc), Wd g I2 R2 P2 Z2 s.heap H1 locs1 → W p l e Rm s m args below meth c H1 locs1 cells slots Q (F0 m (pc + 3) ls (.int r :: rest))) : W p l e Rm s m args below meth c H locs cells slots Q (F0 m pc ls st0) := by
  refine va_calli (va_runV (g := F0 m pc ls st0) (rest := rest) (aw_fix C0) hM cw (aw_preV C0 hW hk he hc) rfl hn hsize hst (lv_room hr) hdg hf) hW.2 (fun q _ h => h) (fun q h => h) (fun r0 u t H1 locs1 ht _ hp hB _ _ hS => ?_)
  subst ht; subst hp
  exact K t.heap locs1 ⟨hB, hS⟩
theorem aw_cVv (C0 : CX g p s m args meth c own cc nL ret) (hW : Wd g I R P Z s.heap H locs) {k ci : Nat} {fs : List Value} (hk : k ∈ LV P) (he : cel g I R P Z k = .inr (ci, fs)) {C : String} {T : u_T} {N : Nat} (hc : vwCl[ci]? = some (C, T, N)) {As : List Value} {y : MethodName} {bytes : ByteArray} {maxL n index : Nat} {rty : Option FieldType} {rm : Room} {I2 : Mem} {R2 : Rem} {P2 : Pool} {Z2 : Zed}
    (hM : Met l y (Cond.code y bytes maxL rty :: GT) rm (va_Pc (.ref (g.2.2.1 + k) :: As) (PW g I R P Z)) (QV g I2 R2 P2 Z2) 0 0 (AA g)) (cw : CallW Rm s args own C index y bytes maxL rty (Cond.code y bytes maxL rty :: GT) rm 0 0 n)
    (hn : As.length = n) (hsize : ls.size = nL) {st0 : List Value} (hst : st0 = As.reverse ++ .ref (g.2.2.1 + k) :: rest) (hr : (rest.map fun v => v.category).sum ≤ 8) (hf : cells ≤ Rm.cells ∧ slots ≤ Rm.slots) (hdg : decode cc pc = .ok (.invokevirtual index, 3))
    (K : ∀ (H1 : Heap) (locs1 : List Loc), Wd g I2 R2 P2 Z2 s.heap H1 locs1 → W p l e Rm s m args below meth c H1 locs1 cells slots Q (F0 m (pc + 3) ls rest)) : W p l e Rm s m args below meth c H locs cells slots Q (F0 m pc ls st0) := by
  refine va_callv (va_runV (g := F0 m pc ls st0) (rest := rest) (aw_fix C0) hM cw (aw_preV C0 hW hk he hc) rfl hn hsize hst (lv_room hr) hdg hf) hW.2 (fun q _ h => h) (fun q h => h) (fun u t H1 locs1 ht _ hp hB _ _ hS => ?_)
  subst ht
  exact K t.heap locs1 ⟨hB, hS⟩
theorem aw_cSi (C0 : CX g p s m args meth c own cc nL ret) (hW : Wd g I R P Z s.heap H locs) {As : List Value} {y : MethodName} {bytes : ByteArray} {maxL n index : Nat} {rty : Option FieldType} {rm : Room} {r : Int32} {I2 : Mem} {R2 : Rem} {P2 : Pool} {Z2 : Zed}
    (hM : Met l y (Cond.code y bytes maxL rty :: GT) rm (va_Pc As (PW g I R P Z)) (QI g r I2 R2 P2 Z2) 0 0 (AA g)) (cw : CallB Rm s args own index y bytes maxL rty (Cond.code y bytes maxL rty :: GT) rm 0 0 n ∧ (Cond.static y).before args s = true)
    (hn : As.length = n) (hsize : ls.size = nL) {st0 : List Value} (hst : st0 = As.reverse ++ rest) (hr : (rest.map fun v => v.category).sum ≤ 8) (hf : cells ≤ Rm.cells ∧ slots ≤ Rm.slots) (hdg : decode cc pc = .ok (.invokestatic index, 3))
    (K : ∀ (H1 : Heap) (locs1 : List Loc), Wd g I2 R2 P2 Z2 s.heap H1 locs1 → W p l e Rm s m args below meth c H1 locs1 cells slots Q (F0 m (pc + 3) ls (.int r :: rest))) : W p l e Rm s m args below meth c H locs cells slots Q (F0 m pc ls st0) := by
  refine va_calli (va_runS (g := F0 m pc ls st0) (rest := rest) (aw_fix C0) hM cw (aw_preS C0 hW) rfl hn hsize hst (lv_room hr) hdg hf) hW.2 (fun q _ h => h) (fun q h => h) (fun r0 u t H1 locs1 ht _ hp hB _ _ hS => ?_)
  subst ht; subst hp
  exact K t.heap locs1 ⟨hB, hS⟩
theorem aw_cSv (C0 : CX g p s m args meth c own cc nL ret) (hW : Wd g I R P Z s.heap H locs) {As : List Value} {y : MethodName} {bytes : ByteArray} {maxL n index : Nat} {rty : Option FieldType} {rm : Room} {I2 : Mem} {R2 : Rem} {P2 : Pool} {Z2 : Zed}
    (hM : Met l y (Cond.code y bytes maxL rty :: GT) rm (va_Pc As (PW g I R P Z)) (QV g I2 R2 P2 Z2) 0 0 (AA g)) (cw : CallB Rm s args own index y bytes maxL rty (Cond.code y bytes maxL rty :: GT) rm 0 0 n ∧ (Cond.static y).before args s = true)
    (hn : As.length = n) (hsize : ls.size = nL) {st0 : List Value} (hst : st0 = As.reverse ++ rest) (hr : (rest.map fun v => v.category).sum ≤ 8) (hf : cells ≤ Rm.cells ∧ slots ≤ Rm.slots) (hdg : decode cc pc = .ok (.invokestatic index, 3))
    (K : ∀ (H1 : Heap) (locs1 : List Loc), Wd g I2 R2 P2 Z2 s.heap H1 locs1 → W p l e Rm s m args below meth c H1 locs1 cells slots Q (F0 m (pc + 3) ls rest)) : W p l e Rm s m args below meth c H locs cells slots Q (F0 m pc ls st0) := by
  refine va_callv (va_runS (g := F0 m pc ls st0) (rest := rest) (aw_fix C0) hM cw (aw_preS C0 hW) rfl hn hsize hst (lv_room hr) hdg hf) hW.2 (fun q _ h => h) (fun q h => h) (fun u t H1 locs1 ht _ hp hB _ _ hS => ?_)
  subst ht
  exact K t.heap locs1 ⟨hB, hS⟩
theorem aw_ald_n {k : Fin 4} {i : Nat} {x : Option Nat} (C0 : CX g p s m args meth c own cc nL ret) (hdg : decode cc pc = .ok (.aload_n k, 1)) (hi : (k : Nat) = i) (hl : ls[i]? = some (.val (va_rf (x.map (fun y => g.2.2.1 + y)))))
    (K : W p l e Rm s m args below meth c H locs cells slots Q (F0 m (pc + 1) ls (va_rf (x.map (fun y => g.2.2.1 + y)) :: rest))) : W p l e Rm s m args below meth c H locs cells slots Q (F0 m pc ls rest) := by
  cases x with
  | none => exact lv_aload_nN C0.1 C0.2.1 hdg hi hl K
  | some x => exact lv_aload_n C0.1 C0.2.1 hdg hi hl K
theorem aw_ald {i : Nat} {x : Option Nat} (C0 : CX g p s m args meth c own cc nL ret) (hdg : decode cc pc = .ok (.aload i, 2)) (hl : ls[i]? = some (.val (va_rf (x.map (fun y => g.2.2.1 + y)))))
    (K : W p l e Rm s m args below meth c H locs cells slots Q (F0 m (pc + 2) ls (va_rf (x.map (fun y => g.2.2.1 + y)) :: rest))) : W p l e Rm s m args below meth c H locs cells slots Q (F0 m pc ls rest) := by
  cases x with
  | none => exact lv_aloadN C0.1 C0.2.1 hdg hl K
  | some x => exact lv_aload C0.1 C0.2.1 hdg hl K
theorem aw_ast_n {k : Fin 4} {i : Nat} {x : Option Nat} {lv lv' : List (Nat × Value)} (C0 : CX g p s m args meth c own cc nL ret) (hdg : decode cc pc = .ok (.astore_n k, 1)) (hi : (k : Nat) = i) (h : lv_has ls nL lv) (hn : i < nL) (hl : (i, va_rf (x.map (fun y => g.2.2.1 + y))) :: lv.filter (fun q => !(q.1 == i) && !(q.1 + 1 == i && q.2.category == 2)) = lv')
    (K : ∀ ls' : Array Slot, lv_has ls' nL lv' → W p l e Rm s m args below meth c H locs cells slots Q (F0 m (pc + 1) ls' rest)) : W p l e Rm s m args below meth c H locs cells slots Q (F0 m pc ls (va_rf (x.map (fun y => g.2.2.1 + y)) :: rest)) := by
  cases x with
  | none => exact lv_astore_nN C0.1 C0.2.1 hdg hi h hn hl K
  | some x => exact lv_astore_n C0.1 C0.2.1 hdg hi h hn hl K
theorem aw_ast {i : Nat} {x : Option Nat} {lv lv' : List (Nat × Value)} (C0 : CX g p s m args meth c own cc nL ret) (hdg : decode cc pc = .ok (.astore i, 2)) (h : lv_has ls nL lv) (hn : i < nL) (hl : (i, va_rf (x.map (fun y => g.2.2.1 + y))) :: lv.filter (fun q => !(q.1 == i) && !(q.1 + 1 == i && q.2.category == 2)) = lv')
    (K : ∀ ls' : Array Slot, lv_has ls' nL lv' → W p l e Rm s m args below meth c H locs cells slots Q (F0 m (pc + 2) ls' rest)) : W p l e Rm s m args below meth c H locs cells slots Q (F0 m pc ls (va_rf (x.map (fun y => g.2.2.1 + y)) :: rest)) := by
  cases x with
  | none => exact lv_astoreN C0.1 C0.2.1 hdg h hn hl K
  | some x => exact lv_astore C0.1 C0.2.1 hdg h hn hl K
theorem aw_aald {q t0 : Nat} {C : String} (hqt : (q = 12 ∧ t0 = 3 ∧ C = RX2) ∨ (q = 13 ∧ t0 = 4 ∧ C = RX6)) {kq : Nat} (C0 : CX g p s m args meth c own cc nL ret) (hW : Wd g I R P Z s.heap H locs) {a n : Nat} (ha : Kd P a = q) (hn : Ln P a = n) {i : Int32} {v : Option Nat} (hv : rdq R P a n kq i = some v) (hdg : decode cc pc = .ok (.aaload, 1))
    (K : W p l e Rm s m args below meth c H locs cells slots Q (F0 m (pc + 1) ls (va_rf (v.map (fun y => g.2.2.1 + y)) :: rest))) : W p l e Rm s m args below meth c H locs cells slots Q (F0 m pc ls (.int i :: .ref (g.2.2.1 + a) :: rest)) := by
  obtain ⟨hx, hb, -, -, hown, hts, hK, -⟩ := C0
  obtain ⟨h1, h2, -⟩ := rdq_in hv
  subst h2
  rcases hqt with ⟨rfl, rfl, rfl⟩ | ⟨rfl, rfl, rfl⟩
  · obtain ⟨q0, hq⟩ := ws_get (g := g) (I := I) (R := R) (Z := Z) (lv_kd hW.1.2.2 ha (by decide))
    rw [cel_12 ha, hn] at hq
    exact va_aldq hx hb hK.1 hW.1.1 q0 3 hq rfl h1 hdg K
  · obtain ⟨q0, hq⟩ := ws_get (g := g) (I := I) (R := R) (Z := Z) (lv_kd hW.1.2.2 ha (by decide))
    rw [cel_13 ha, hn] at hq
    exact va_aldq hx hb hK.1 hW.1.1 q0 4 hq rfl h1 hdg K
theorem aw_aast12 (C0 : CX g p s m args meth c own cc nL ret) (hW : Wd g I R P Z s.heap H locs) {a n : Nat} (ha : Kd P a = 12) (hn : Ln P a = n) {i : Int32} {x : Option Nat} (hx2 : ∀ k, x = some k → Kd P k = 2) {R2 : Rem} (hv : wrq R a n i x = some R2) (hdg : decode cc pc = .ok (.aastore, 1))
    (K : ∀ (H1 : Heap) (locs1 : List Loc), Wd g I R2 P Z s.heap H1 locs1 → W p l e Rm s m args below meth c H1 locs1 cells slots Q (F0 m (pc + 1) ls rest)) : W p l e Rm s m args below meth c H locs cells slots Q (F0 m pc ls (va_rf (x.map (fun y => g.2.2.1 + y)) :: .int i :: .ref (g.2.2.1 + a) :: rest)) := by
  obtain ⟨hx, hb, -, -, hown, hts, hK, -⟩ := C0
  obtain ⟨⟨hP, hD, hSh⟩, hS⟩ := hW
  obtain ⟨h1, rfl⟩ := wrq_in hv
  have hk := lv_kd hSh ha (by decide)
  obtain ⟨q0, hq⟩ := ws_get (g := g) (I := I) (R := R) (Z := Z) hk
  have hset := ws_set hD hk hq (ps_12 (j := i.toNatClampNeg) (x := x) ha)
  rw [hn] at hset
  rw [cel_12 ha, hn] at hq
  cases x with
  | none => exact va_astqN hx hb hK.1 hP hD hS q0 3 hq rfl h1 hdg (fun H1 locs1 a1 a2 a3 => K H1 locs1 ⟨⟨hset ▸ a1, hset ▸ a2, hSh⟩, a3⟩)
  | some k =>
    have hk2 := hx2 k rfl
    obtain ⟨q2, hq2⟩ := ws_get (g := g) (I := I) (R := R) (Z := Z) (lv_kd hSh hk2 (by decide))
    rw [cel_2 hk2] at hq2
    exact va_astq (r := (RX2, TX2, 1)) hx hb hK.1 hP hD hS q0 3 q2 2 hq rfl hq2 rfl h1 hdg (fun H1 locs1 a1 a2 a3 => K H1 locs1 ⟨⟨hset ▸ a1, hset ▸ a2, hSh⟩, a3⟩)
theorem aw_aast13 (C0 : CX g p s m args meth c own cc nL ret) (hW : Wd g I R P Z s.heap H locs) {a n : Nat} (ha : Kd P a = 13) (hn : Ln P a = n) {i : Int32} {x : Option Nat} (hx2 : ∀ k, x = some k → Kd P k = 6) {R2 : Rem} (hv : wrq R a n i x = some R2) (hdg : decode cc pc = .ok (.aastore, 1))
    (K : ∀ (H1 : Heap) (locs1 : List Loc), Wd g I R2 P Z s.heap H1 locs1 → W p l e Rm s m args below meth c H1 locs1 cells slots Q (F0 m (pc + 1) ls rest)) : W p l e Rm s m args below meth c H locs cells slots Q (F0 m pc ls (va_rf (x.map (fun y => g.2.2.1 + y)) :: .int i :: .ref (g.2.2.1 + a) :: rest)) := by
  obtain ⟨hx, hb, -, -, hown, hts, hK, -⟩ := C0
  obtain ⟨⟨hP, hD, hSh⟩, hS⟩ := hW
  obtain ⟨h1, rfl⟩ := wrq_in hv
  have hk := lv_kd hSh ha (by decide)
  obtain ⟨q0, hq⟩ := ws_get (g := g) (I := I) (R := R) (Z := Z) hk
  have hset := ws_set hD hk hq (ps_13 (j := i.toNatClampNeg) (x := x) ha)
  rw [hn] at hset
  rw [cel_13 ha, hn] at hq
  cases x with
  | none => exact va_astqN hx hb hK.1 hP hD hS q0 4 hq rfl h1 hdg (fun H1 locs1 a1 a2 a3 => K H1 locs1 ⟨⟨hset ▸ a1, hset ▸ a2, hSh⟩, a3⟩)
  | some k =>
    have hk2 := hx2 k rfl
    obtain ⟨q2, hq2⟩ := ws_get (g := g) (I := I) (R := R) (Z := Z) (lv_kd hSh hk2 (by decide))
    rw [cel_6 hk2] at hq2
    exact va_astq (r := (RX6, TX6, 5)) hx hb hK.1 hP hD hS q0 4 q2 6 hq rfl hq2 rfl h1 hdg (fun H1 locs1 a1 a2 a3 => K H1 locs1 ⟨⟨hset ▸ a1, hset ▸ a2, hSh⟩, a3⟩)
theorem aw_cpy (C0 : CX g p s m args meth c own cc nL ret) (hsz : ls.size = nL) (hW : Wd g I R P Z s.heap H locs) {a0 n0 a1 n1 index : Nat} (h0 : Kd P a0 = 10) (hn0 : Ln P a0 = n0) (h1 : Kd P a1 = 10) (hn1 : Ln P a1 = n1) {sp dp n : Int32} {I2 : Mem} (hv : cpy I a0 n0 a1 n1 sp dp n = some I2)
    (hlink : Cond.methodLink own index arraycopyName ∈ GT) (hnat : Cond.native arraycopyName ∈ GT) (hstat : Cond.static arraycopyName ∈ GT) (hini : Cond.initialized "java/lang/System" ∈ GT) (hframes : 1 ≤ Rm.frames) (hlocals : (rest.map fun v => v.category).sum + (nativeFrameWords "java/lang/System" "arraycopy" 5 + 11) ≤ Rm.locals) (hdg : decode cc pc = .ok (.invokestatic index, 3))
    (K : ∀ (H1 : Heap) (locs1 : List Loc), Wd g I2 R P Z s.heap H1 locs1 → W p l e Rm s m args below meth c H1 locs1 cells slots Q (F0 m (pc + 3) ls rest)) : W p l e Rm s m args below meth c H locs cells slots Q (F0 m pc ls (.int n :: .int dp :: .ref (g.2.2.1 + a1) :: .int sp :: .ref (g.2.2.1 + a0) :: rest)) := by
  obtain ⟨hx, hb, hml, -, hown, hts, hK, -⟩ := C0
  obtain ⟨⟨hP, hD, hSh⟩, hS⟩ := hW
  unfold cpy at hv
  obtain ⟨⟨c1, c2, c3, c4, c5⟩, hv⟩ := ifn hv
  have hv := Option.some.inj hv
  have hk0 := lv_kd hSh h0 (by decide)
  have hk1 := lv_kd hSh h1 (by decide)
  obtain ⟨q0, hq0⟩ := ws_get (g := g) (I := I) (R := R) (Z := Z) hk0
  obtain ⟨q1, hq1⟩ := ws_get (g := g) (I := I) (R := R) (Z := Z) hk1
  have hset := ws_set (I2 := I2) (R2 := R) (Z2 := Z) (e := .inl (g.2.1 10, Ln P a1, .inl (va_cpy (I a0) (I a1) sp.toNatClampNeg dp.toNatClampNeg n.toNatClampNeg))) hD hk1 hq1 (fun i => by
    by_cases hi : i = a1
    · subst hi; rw [cel_10 h1, ← hv]; simp [va_up]
    · rw [va_up_ne _ _ hi, ← hv]; exact (cel_I (by simp [hi])).symm)
  rw [hn1] at hset
  rw [cel_10 h0, hn0] at hq0
  rw [cel_10 h1, hn1] at hq1
  exact va_copyi (ty := .int) hx hb (by rw [hml, hsz]) hown (hts _ hlink) (hts _ hnat) (hts _ hstat) (hts _ hini) hK.1 hP hD hS q0 q1 1 1 hq0 hq1 rfl rfl rfl c1 c2 c3 c4 c5 (fun _ _ => rfl) hframes hlocals hdg
    (fun H1 locs1 a1 a2 a3 => K H1 locs1 ⟨⟨hset ▸ a1, hset ▸ a2, hSh⟩, a3⟩)
theorem aw_aret {rt : FieldType} (C0 : CX g p s m args meth c own cc nL (some rt)) (hrt : (∃ n, rt = .object n) ∨ ∃ t, rt = .array t) (hW : Wd g I R P Z s.heap H locs) {x r : Option Nat} {I2 : Mem} {R2 : Rem} (ex : x = r) (eI : I = I2) (eR : R = R2) (hdg : decode cc pc = .ok (.areturn, 1)) : W p l e Rm s m args below meth c H locs cells slots (MQ below (QQ g r I2 R2 P Z) args s cells slots (AA g)) (F0 m pc ls [va_rf (x.map (fun y => g.2.2.1 + y))]) := by
  subst ex; subst eI; subst eR
  obtain ⟨hx, hb, -, hr, hown, hts, hK, hlk⟩ := C0
  exact W.aret (hlocks := hlk) hx hb hr hrt (by cases x <;> simp [va_rf]) (fun t ht _ => ⟨⟨_, (), rfl, rfl, (show HW g I R P Z t.heap by rw [ht]; exact hW.1)⟩, hW.2.F ht⟩) hW.2.2.2 hdg
theorem aw_cSNi (C0 : CX g p s m args meth c own cc nL ret) (hW : Wd g I R P Z s.heap H locs) {As : List Value} {y : MethodName} {host : String} {bytes : ByteArray} {maxL n index : Nat} {rty : Option FieldType} {rm : Room} {r : Int32} {I2 : Mem} {R2 : Rem} {P2 : Pool} {Z2 : Zed}
    (hM : Met l y (Cond.code y bytes maxL rty :: GT) rm (va_Pc As (PW g I R P Z)) (QI g r I2 R2 P2 Z2) 0 0 (AA g)) (cw : va_CN Rm s args own index y host bytes maxL rty (Cond.code y bytes maxL rty :: GT) rm 0 0 n ∧ (Cond.static y).before args s = true ∧ True)
    (hn : As.length = n) (hsize : ls.size = nL) {st0 : List Value} (hst : st0 = As.reverse ++ rest) (hr : (rest.map fun v => v.category).sum ≤ 8) (hf : cells ≤ Rm.cells ∧ slots ≤ Rm.slots) (hdg : decode cc pc = .ok (.invokestatic index, 3))
    (K : ∀ (H1 : Heap) (locs1 : List Loc), Wd g I2 R2 P2 Z2 s.heap H1 locs1 → W p l e Rm s m args below meth c H1 locs1 cells slots Q (F0 m (pc + 3) ls (.int r :: rest))) : W p l e Rm s m args below meth c H locs cells slots Q (F0 m pc ls st0) := by
  refine va_calli (va_runSN (g := F0 m pc ls st0) (rest := rest) (aw_fix C0) hM cw (aw_preS C0 hW) rfl hn hsize hst (lv_room hr) hdg hf) hW.2 (fun q _ h => h) (fun q h => h) (fun r0 u t H1 locs1 ht _ hp hB _ _ hS => ?_)
  subst ht; subst hp
  exact K t.heap locs1 ⟨hB, hS⟩
theorem aw_jmax (C0 : CX g p s m args meth c own cc nL ret) (hsz : ls.size = nL) {index : Nat} (hlink : Cond.methodLink own index Lib.Math.max.name ∈ GT) (hstat : Cond.static Lib.Math.max.name ∈ GT) (hini : Cond.initialized "java/lang/Math" ∈ GT) (hcode : Cond.code Lib.Math.max.name Lib.Math.max.code 2 (some .int) ∈ GT) (hframes : 1 ≤ Rm.frames) (hlocals : (rest.map fun v => v.category).sum + 13 ≤ Rm.locals) (hc : cells ≤ Rm.cells) (hs : slots ≤ Rm.slots) {x y : Int32} (hdg : decode cc pc = .ok (.invokestatic index, 3))
    (K : W p l e Rm s m args below meth c H locs cells slots Q (F0 m (pc + 3) ls (.int (jmax x y) :: rest))) : W p l e Rm s m args below meth c H locs cells slots Q (F0 m pc ls (.int y :: .int x :: rest)) := by
  obtain ⟨hx, hb, hml, -, hown, hts, hK, -⟩ := C0
  exact va_mmax hx hb (by rw [hml, hsz]) hown (hts _ hlink) (hts _ hstat) (hts _ hini) (hts _ hcode) hframes hlocals hc hs hdg K
theorem aw_jmin (C0 : CX g p s m args meth c own cc nL ret) (hsz : ls.size = nL) {index : Nat} (hlink : Cond.methodLink own index Lib.Math.min.name ∈ GT) (hstat : Cond.static Lib.Math.min.name ∈ GT) (hini : Cond.initialized "java/lang/Math" ∈ GT) (hcode : Cond.code Lib.Math.min.name Lib.Math.min.code 2 (some .int) ∈ GT) (hframes : 1 ≤ Rm.frames) (hlocals : (rest.map fun v => v.category).sum + 13 ≤ Rm.locals) (hc : cells ≤ Rm.cells) (hs : slots ≤ Rm.slots) {x y : Int32} (hdg : decode cc pc = .ok (.invokestatic index, 3))
    (K : W p l e Rm s m args below meth c H locs cells slots Q (F0 m (pc + 3) ls (.int (jmin x y) :: rest))) : W p l e Rm s m args below meth c H locs cells slots Q (F0 m pc ls (.int y :: .int x :: rest)) := by
  obtain ⟨hx, hb, hml, -, hown, hts, hK, -⟩ := C0
  exact va_mmin hx hb (by rw [hml, hsz]) hown (hts _ hlink) (hts _ hstat) (hts _ hini) (hts _ hcode) hframes hlocals hc hs hdg K
end
end RWS
