/-! PURE PART 32: short texts: what is written, and where it is put. -/
section MB31
def TX (f : Nat → Int32) (T : List Nat) : Prop := ∀ j x, T[j]? = some x → f j = nI x
def ins (p ch : Nat) (T : List Nat) : List Nat := T.take p ++ ch :: T.drop p
theorem ins_len {p ch : Nat} {T : List Nat} (h : p ≤ T.length) : (ins p ch T).length = T.length + 1 := by
  unfold ins
  rw [List.length_append, List.length_cons, List.length_take, List.length_drop]
  omega
theorem ins_mem {p ch x : Nat} {T : List Nat} (h : x ∈ ins p ch T) : x = ch ∨ x ∈ T := by
  unfold ins at h
  rcases List.mem_append.mp h with h | h
  · exact Or.inr (List.mem_of_mem_take h)
  · rcases List.mem_cons.mp h with h | h
    · exact Or.inl h
    · exact Or.inr (List.mem_of_mem_drop h)
theorem ins_get {p ch j x : Nat} {T : List Nat} (hp : p ≤ T.length) (h : (ins p ch T)[j]? = some x) : (j < p ∧ T[j]? = some x) ∨ (j = p ∧ x = ch) ∨ (p < j ∧ j ≤ T.length ∧ T[j - 1]? = some x) := by
  have hlt := (List.getElem?_eq_some_iff.mp h).1
  rw [ins_len hp] at hlt
  unfold ins at h
  have hl : (T.take p).length = p := by rw [List.length_take]; omega
  by_cases a : j < p
  · rw [List.getElem?_append_left (by omega), List.getElem?_take_of_lt a] at h
    exact Or.inl ⟨a, h⟩
  · rw [List.getElem?_append_right (by omega), hl] at h
    by_cases b : j = p
    · rw [b, Nat.sub_self] at h
      exact Or.inr (Or.inl ⟨b, (Option.some.inj h).symm⟩)
    · obtain ⟨d, hd⟩ : ∃ d, j - p = d + 1 := ⟨j - p - 1, by omega⟩
      rw [hd, List.getElem?_cons_succ, List.getElem?_drop] at h
      exact Or.inr (Or.inr ⟨by omega, by omega, by rw [show j - 1 = p + d by omega]; exact h⟩)
theorem TX_ins {f f' : Nat → Int32} {p ch : Nat} {T : List Nat} (h : TX f T) (hp : p ≤ T.length) (h1 : ∀ j, j < p → f' j = f j) (h2 : f' p = nI ch) (h3 : ∀ j, p < j → j ≤ T.length → f' j = f (j - 1)) : TX f' (ins p ch T) := by
  intro j x hj
  rcases ins_get hp hj with ⟨a, b⟩ | ⟨a, b⟩ | ⟨a, b, c⟩
  · rw [h1 j a]; exact h j x b
  · rw [a, h2, b]
  · rw [h3 j a b]; exact h _ x c
theorem TX_app {T : List Nat} {ch : Nat} : ins T.length ch T = T ++ [ch] := by
  unfold ins
  rw [List.take_length, List.drop_length]
/-! the class -/
def TK (I : Mem) (T : List Nat) : Prop := I 24 3 = nI T.length ∧ TX (I 25) T
theorem nar_n {m : Nat} (h : m < 65536) : vp_nar .char (nI m) = nI m := by unfold vp_nar; rw [(pk_charN h).1]
theorem k_ins_L {P : Pool} {p : Nat} {x2 : Int32} {I0 : Mem} {T : List Nat} (hT : TX (I0 25) T) (hc : ∀ x ∈ T, x < 1000) (hl : T.length < 160) : ∀ (d : Nat) (I : Mem) (n : Nat), p + d ≤ T.length → d < n → Eqx [25] I0 I → (∀ j, j ≤ p + d → I 25 j = I0 25 j) → (∀ j, p + d < j → j ≤ T.length → I 25 j = I0 25 (j - 1)) →
    ∃ I', f_X5_insert_L30 (nI p) x2 P n (nI (p + d)) I = some I' ∧ Eqx [25] I0 I' ∧ (∀ j, j ≤ p → I' 25 j = I0 25 j) ∧ (∀ j, p < j → j ≤ T.length → I' 25 j = I0 25 (j - 1)) := by
  intro d
  induction d with
  | zero =>
    intro I n hd hn hE h1 h2
    obtain ⟨n, rfl⟩ : ∃ m, n = m + 1 := ⟨n - 1, by omega⟩
    refine ⟨I, ?_, hE, h1, h2⟩
    unfold f_X5_insert_L30
    rw [if_pos (nI_le (show p + 0 ≤ p by omega) (by omega))]
  | succ d ih =>
    intro I n hd hn hE h1 h2
    obtain ⟨n, rfl⟩ : ∃ m, n = m + 1 := ⟨n - 1, by omega⟩
    have hlt : p + d < T.length := by omega
    have hg : T[p + d]? = some T[p + d] := List.getElem?_eq_getElem hlt
    have hx := hc _ (List.getElem_mem hlt)
    have hv : I 25 (p + d) = nI T[p + d] := by rw [h1 (p + d) (by omega)]; exact hT _ _ hg
    obtain ⟨J, hJ⟩ : ∃ J, J = up I 25 (p + d + 1) (nI T[p + d]) := ⟨_, rfl⟩
    obtain ⟨I', e1, e2, e3, e4⟩ := ih J n (by omega) (by omega) (by rw [hJ]; exact hE.tr (Eqx.up (by decide))) (fun j hj => by rw [hJ, up_nk _ _ (by omega)]; exact h1 j (by omega)) (fun j hj1 hj2 => by
      by_cases e : j = p + d + 1
      · rw [e, hJ, up_eq, show p + d + 1 - 1 = p + d by omega, ← hv]
        exact h1 _ (by omega)
      · rw [hJ, up_nk _ _ e]
        exact h2 j (by omega) hj2)
    refine ⟨I', ?_, e2, e3, e4⟩
    unfold f_X5_insert_L30
    rw [if_neg (nI_ge (show p < p + (d + 1) by omega) (by omega)), show nI (p + (d + 1)) - 1 = nI (p + d) from nI_pred _, bs_b (rd_e (p + d) rfl (by omega) (by decide)), hv, nar_n (by omega), bs_b (wr_e (p + d + 1) (show nI (p + (d + 1)) = nI (p + d + 1) from rfl) (by omega) (by decide)), show nI (p + (d + 1)) + (-1) = nI (p + d) by rw [show nI (p + (d + 1)) + (-1) = nI (p + (d + 1)) - 1 from (Int32.sub_eq_add_neg _ _).symm]; exact nI_pred _, ← hJ]
    exact e1
theorem k_ins {I : Mem} {P : Pool} {T : List Nat} {p ch : Nat} (h : TK I T) (hc : ∀ x ∈ T, x < 1000) (hch : ch < 1000) (hp : p ≤ T.length) (hl : T.length < 160) : ∃ I', f_X5_insert (nI p) (nI ch) P I = some I' ∧ TK I' (ins p ch T) ∧ Eqx [24, 25] I I' := by
  obtain ⟨I1, a1, a2, a3, a4⟩ := k_ins_L (P := P) (p := p) (x2 := nI ch) (I0 := I) h.2 hc hl (T.length - p) I fuel (by omega) (by unfold fuel; omega) Eqx.rf (fun _ _ => rfl) (fun j h1 h2 => by omega)
  rw [show p + (T.length - p) = T.length by omega] at a1
  refine ⟨up (up I1 25 p (nI ch)) 24 3 (nI (T.length + 1)), ?_, ⟨by rw [up_eq, ins_len hp], ?_⟩, ((a2.mono (by decide)).tr (Eqx.up (by decide))).tr (Eqx.up (by decide))⟩
  · unfold f_X5_insert
    rw [if_neg (nI_pos (by omega)), h.1, if_neg (nI_nlt hp (by omega)), if_pos (show nI T.length < 160 from nI_lt (b := 160) hl (by decide)), bs_b a1, nar_n (by omega), bs_b (wr_e p rfl (by omega) (by decide)), up_ne _ _ _ (show 24 ≠ 25 by decide), a2 24 (by decide), h.1, nI_1]
  · rw [up_ne _ _ _ (show 25 ≠ 24 by decide)]
    exact TX_ins h.2 hp (fun j hj => by rw [up_nk _ _ (by omega)]; exact a3 j (by omega)) (up_eq _ _ _ _) (fun j h1 h2 => by rw [up_nk _ _ (by omega)]; exact a4 j h1 h2)
def wrp (p q : Nat) (T : List Nat) : List Nat := ins p 40 (ins q 41 T)
theorem wrp_len {p q : Nat} {T : List Nat} (hp : p ≤ q) (hq : q ≤ T.length) : (wrp p q T).length = T.length + 2 := by
  unfold wrp
  have := ins_len (ch := 41) hq
  rw [ins_len (by omega), this]
theorem ins_c {p ch : Nat} {T : List Nat} (hc : ∀ x ∈ T, x < 1000) (hch : ch < 1000) : ∀ x ∈ ins p ch T, x < 1000 := fun x hx => by
  rcases ins_mem hx with e | e
  · omega
  · exact hc x e
theorem wrp_c {p q : Nat} {T : List Nat} (hc : ∀ x ∈ T, x < 1000) : ∀ x ∈ wrp p q T, x < 1000 := ins_c (ins_c hc (by decide)) (by decide)
theorem k_wrap {I : Mem} {P : Pool} {T : List Nat} {p q : Nat} (h : TK I T) (hc : ∀ x ∈ T, x < 1000) (hp : p ≤ q) (hq : q ≤ T.length) (hl : T.length + 2 ≤ 160) : ∃ I', f_X5_wrap (nI p) (nI q) P I = some I' ∧ TK I' (wrp p q T) ∧ Eqx [24, 25] I I' := by
  obtain ⟨I1, a1, a2, a3⟩ := k_ins (P := P) (ch := 41) h hc (by decide) hq (by omega)
  have hl1 := ins_len (ch := 41) hq
  obtain ⟨I2, b1, b2, b3⟩ := k_ins (P := P) (ch := 40) (p := p) a2 (ins_c hc (by decide)) (by decide) (by omega) (by omega)
  refine ⟨I2, ?_, b2, a3.tr b3⟩
  unfold f_X5_wrap
  rw [bs_b (show f_X5_insert (nI q) 41 P I = some I1 from a1), bs_b (show f_X5_insert (nI p) 40 P I1 = some I2 from b1)]
/-! the reference -/
def TQ (I : Mem) (T : List Nat) : Prop := I 70 19 = nI T.length ∧ TX (I 81) T
/-! what is written, step by step -/
def sg (t : Nat) : Nat := if t = 1 then 38 else 124
def tt2 (t : Nat) : List Nat := if cS t = 0 then [] else if cO t < 10 then [48 + cO t] else if cO t < 100 then [48 + cO t / 10, 48 + cO t % 10] else [97 + (cO t - 100)]
def ttx (t : Nat) : List Nat := (97 + cC t) :: sch (cS t) :: tt2 t
theorem ttx_len (t : Nat) : (ttx t).length = tl t := by
  unfold ttx tt2 tl
  split
  · rfl
  · split
    · rfl
    · split <;> rfl
theorem ttx_c {t : Nat} (h : vT t) : ∀ x ∈ ttx t, x < 1000 := by
  have h1 := cC_b h
  have h2 := sch_b (cS t)
  have h3 := h.2.2.1
  intro x hx
  unfold ttx at hx
  rcases List.mem_cons.mp hx with e | hx
  · omega
  rcases List.mem_cons.mp hx with e | hx
  · omega
  unfold tt2 at hx
  split at hx
  · simp at hx
  · split at hx
    · rw [List.mem_singleton.mp hx]; omega
    · split at hx
      · rcases List.mem_cons.mp hx with e | hx
        · omega
        · rw [List.mem_singleton.mp hx]; omega
      · rw [List.mem_singleton.mp hx]; omega
def w1 (b k : Nat) (T : List Nat) : List Nat := if k = 1 ∨ k = 2 then wrp b T.length T else T
def w2 (t b kb : Nat) (T : List Nat) : List Nat := if kb = t ∨ (t = 1 ∧ kb = 2) then wrp b T.length T else T
def w3 (t a b ka : Nat) (T : List Nat) : List Nat := if t = 1 ∧ ka = 2 then wrp a b T else T
def wAll : List Nat → List Nat → List Nat → List Nat → List Nat
  | [], T, _, _ => T
  | t :: L, T, A, K => if t = 0 then wAll L (ins (A.headD 0) 33 (w1 (A.headD 0) (K.headD 0) T)) A (0 :: K.tail) else if t < 3 then wAll L (w3 t (A.tail.headD 0) (A.headD 0) (K.tail.headD 0) (ins (A.headD 0) (sg t) (w2 t (A.headD 0) (K.headD 0) T))) A.tail (t :: K.tail.tail) else wAll L (T ++ ttx t) (T.length :: A) (t :: K)
def jc : List Nat → Nat
  | [] => 0
  | k :: K => (if k = 1 ∨ k = 2 then 2 else 0) + jc K
def chn : Nat → List Nat → Prop
  | _, [] => True
  | n, b :: A => b ≤ n ∧ chn b A
theorem chn_le : ∀ {n m : Nat} {A : List Nat}, chn n A → n ≤ m → chn m A
  | _, _, [], _, _ => trivial
  | _, _, b :: A, h, hm => ⟨Nat.le_trans h.1 hm, h.2⟩
theorem w1_len {b k : Nat} {T : List Nat} (hb : b ≤ T.length) : (w1 b k T).length = T.length + (if k = 1 ∨ k = 2 then 2 else 0) := by
  unfold w1
  split
  · rw [wrp_len hb (Nat.le_refl _)]
  · rfl
theorem w2_len {t b kb : Nat} {T : List Nat} (ht : t = 1 ∨ t = 2) (hb : b ≤ T.length) : T.length ≤ (w2 t b kb T).length ∧ (w2 t b kb T).length ≤ T.length + (if kb = 1 ∨ kb = 2 then 2 else 0) := by
  unfold w2
  by_cases e : kb = t ∨ (t = 1 ∧ kb = 2)
  · rw [if_pos e, wrp_len hb (Nat.le_refl _), if_pos (by omega)]
    omega
  · rw [if_neg e]
    omega
theorem w3_len {t a b ka : Nat} {T : List Nat} (hab : a ≤ b) (hb : b ≤ T.length) : T.length ≤ (w3 t a b ka T).length ∧ (w3 t a b ka T).length ≤ T.length + (if ka = 1 ∨ ka = 2 then 2 else 0) := by
  unfold w3
  by_cases e : t = 1 ∧ ka = 2
  · rw [if_pos e, wrp_len hab hb, if_pos (Or.inr e.2)]
    omega
  · rw [if_neg e]
    omega
theorem w1_c {b k : Nat} {T : List Nat} (hc : ∀ x ∈ T, x < 1000) : ∀ x ∈ w1 b k T, x < 1000 := by
  unfold w1; split
  · exact wrp_c hc
  · exact hc
theorem w2_c {t b k : Nat} {T : List Nat} (hc : ∀ x ∈ T, x < 1000) : ∀ x ∈ w2 t b k T, x < 1000 := by
  unfold w2; split
  · exact wrp_c hc
  · exact hc
theorem w3_c {t a b k : Nat} {T : List Nat} (hc : ∀ x ∈ T, x < 1000) : ∀ x ∈ w3 t a b k T, x < 1000 := by
  unfold w3; split
  · exact wrp_c hc
  · exact hc
theorem sg_b (t : Nat) : sg t < 1000 := by unfold sg; split <;> decide
/-- what holds between two steps: B is still to come -/
def WI (B T A K : List Nat) : Prop := A.length = K.length ∧ wd B A.length ∧ A.length + B.length ≤ 59 ∧ chn T.length A ∧ (∀ x ∈ T, x < 1000) ∧ T.length + jc K + fW B ≤ 160 ∧ (∀ t ∈ B, vC t) ∧ ∀ t ∈ K, vC t
theorem WI.s0 {B T A K : List Nat} {b k : Nat} (h : WI (0 :: B) T (b :: A) (k :: K)) : WI B (ins b 33 (w1 b k T)) (b :: A) (0 :: K) ∧ b ≤ T.length ∧ (w1 b k T).length < 160 ∧ b ≤ (w1 b k T).length := by
  obtain ⟨h1, h2, h3, h4, h5, h6, h7, h8⟩ := h
  have hb : b ≤ T.length := h4.1
  have l1 := w1_len (k := k) hb
  have l2 := ins_len (p := b) (ch := 33) (T := w1 b k T) (by omega)
  have j1 : jc (k :: K) = (if k = 1 ∨ k = 2 then 2 else 0) + jc K := rfl
  have j2 : jc (0 :: K) = 0 + jc K := rfl
  have f1 : fW (0 :: B) = 1 + fW B := rfl
  simp only [List.length_cons] at h1 h3
  exact ⟨⟨by simpa using h1, (wd_0 h2).2, by simp; omega, ⟨by omega, h4.2⟩, ins_c (w1_c h5) (by decide), by omega, fun t ht => h7 t (by simp [ht]), fun t ht => by rcases List.mem_cons.mp ht with e | e; rw [e]; exact Or.inl (by decide); exact h8 t (by simp [e])⟩, hb, by omega, by omega⟩
theorem WI.sj {B T A K : List Nat} {t a b ka kb : Nat} (ht : t = 1 ∨ t = 2) (h : WI (t :: B) T (b :: a :: A) (kb :: ka :: K)) : WI B (w3 t a b ka (ins b (sg t) (w2 t b kb T))) (a :: A) (t :: K) ∧ b ≤ T.length ∧ a ≤ b ∧ T.length ≤ (w2 t b kb T).length ∧ (w2 t b kb T).length + 1 + (if ka = 1 ∨ ka = 2 then 2 else 0) ≤ 160 := by
  obtain ⟨h1, h2, h3, h4, h5, h6, h7, h8⟩ := h
  have hb : b ≤ T.length := h4.1
  have hab : a ≤ b := h4.2.1
  have l1 := w2_len (kb := kb) ht hb
  have l2 := ins_len (p := b) (ch := sg t) (T := w2 t b kb T) (by omega)
  have l3 := w3_len (t := t) (ka := ka) (T := ins b (sg t) (w2 t b kb T)) hab (by omega)
  have j1 : jc (kb :: ka :: K) = (if kb = 1 ∨ kb = 2 then 2 else 0) + ((if ka = 1 ∨ ka = 2 then 2 else 0) + jc K) := rfl
  have j2 : jc (t :: K) = (if t = 1 ∨ t = 2 then 2 else 0) + jc K := rfl
  rw [if_pos ht] at j2
  have f1 : fW (t :: B) = 3 + fW B := by
    show (if t = 0 then 1 else if t < 3 then 3 else tl t) + fW B = 3 + fW B
    rw [if_neg (by omega), if_pos (by omega)]
  have hw : wd B (b :: a :: A).length.pred := by
    rcases ht with rfl | rfl
    · exact (wd_1 h2).2
    · exact (wd_2 h2).2
  simp only [List.length_cons] at h1 h3
  exact ⟨⟨by simp; omega, hw, by simp; omega, ⟨by omega, h4.2.2⟩, w3_c (ins_c (w2_c h5) (sg_b t)), by omega, fun t ht => h7 t (by simp [ht]), fun u hu => by rcases List.mem_cons.mp hu with e | e; rw [e]; exact Or.inl (by omega); exact h8 u (by simp [e])⟩, hb, hab, l1.1, by omega⟩
theorem WI.st {B T A K : List Nat} {t : Nat} (ht : 3 ≤ t) (h : WI (t :: B) T A K) : WI B (T ++ ttx t) (T.length :: A) (t :: K) ∧ T.length + tl t ≤ 160 := by
  obtain ⟨h1, h2, h3, h4, h5, h6, h7, h8⟩ := h
  have hv := vC_t (h7 t (by simp)) ht
  have l1 : (T ++ ttx t).length = T.length + tl t := by rw [List.length_append, ttx_len]
  have j2 : jc (t :: K) = (if t = 1 ∨ t = 2 then 2 else 0) + jc K := rfl
  rw [if_neg (by omega)] at j2
  have f1 : fW (t :: B) = tl t + fW B := by
    show (if t = 0 then 1 else if t < 3 then 3 else tl t) + fW B = tl t + fW B
    rw [if_neg (by omega), if_neg (by omega)]
  simp only [List.length_cons] at h3
  exact ⟨⟨by simp; omega, wd_t ht h2, by simp; omega, ⟨by omega, h4⟩, fun x hx => by rcases List.mem_append.mp hx with e | e; exact h5 x e; exact ttx_c hv x e, by omega, fun t ht => h7 t (by simp [ht]), fun u hu => by rcases List.mem_cons.mp hu with e | e; rw [e]; exact Or.inr hv; exact h8 u e⟩, by omega⟩
end MB31
