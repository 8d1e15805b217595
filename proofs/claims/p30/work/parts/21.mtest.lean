/-! PURE PART 2: tests, filters as lists of codes, their truth values; the class's evaluator and the reference's. -/
section MB1
def hb (x : Int32) (k : Nat) : Bool := decide (((x >>> (nI k &&& 31)) &&& 1) = 1)
theorem k_hasBit (x : Int32) (k : Nat) : f_X8_hasBit x (nI k) = some (if hb x k then 1 else 0) := by
  unfold f_X8_hasBit hb
  by_cases h : ((x >>> (nI k &&& 31)) &&& 1) = 1 <;> simp [h]
def cmpv (s : Nat) (x y : Int32) : Int32 := if x = -1 then 1 else if y = -1 then 1 else if s = 1 then (if x = y then 2 else 0) else if s = 2 then (if y ≤ x then 0 else 2) else (if x ≤ y then 0 else 2)
def tst (row : Nat → Int32) (unk : Nat → Bool) (t : Nat) : Int32 := if cS t = 0 then (if unk (cC t) then 2 else 0) else cmpv (cS t) (row (cC t)) (if cO t < 100 then nI (cO t) else row (cO t - 100))
theorem tst_cg {row row2 : Nat → Int32} {unk unk2 : Nat → Bool} {t : Nat} (h : vT t) (h1 : ∀ c, c < 4 → row c = row2 c) (h2 : ∀ c, c < 4 → unk c = unk2 c) : tst row unk t = tst row2 unk2 t := by
  have a := cC_b h
  have b := h.2.2.1
  unfold tst
  rw [h1 _ a, h2 _ a]
  by_cases hw : cO t < 100
  · simp only [if_pos hw]
  · simp only [if_neg hw]
    rw [h1 (cO t - 100) (by omega)]
theorem k_cellOf {a c : Nat} {P : Pool} {I : Mem} (hc : c < 4) (ha : Ln P a = 4) : f_X7_cellOf a (nI c) P I = some (I a c) := by
  unfold f_X7_cellOf
  rw [ha, if_neg (show ¬ Int32.ofNat 4 ≤ nI c from nI_ge hc (by decide)), rd_e c rfl hc (by decide)]
  rfl
theorem k_test {t a : Nat} {P : Pool} {I : Mem} {x : Int32} (h : vT t) (ha : Ln P a = 4) : f_X7_truthOf (enc t) a x P I = some (tst (I a) (hb x) t) := by
  have hb1 := encT_b h
  have hs := cS_b t
  have hc := cC_b h
  have ho := h.2.2.1
  unfold f_X7_truthOf
  rw [enc_t h, m_signOf (by omega), m_columnOf (by omega), m_comparesColumns (by omega), m_valueOf (by omega), m_otherColumnOf (by omega), encT_7 h, encT_c h, encT_w h, encT_o h]
  simp only [Option.bind_some]
  unfold tst
  by_cases h0 : cS t = 0
  · rw [h0, if_pos (show nI (sch 0) = 63 from rfl), k_hasBit]
    by_cases hx : hb x (cC t) = true
    · simp [hx]
    · simp [hx]
  · have hne : ¬ nI (sch (cS t)) = 63 := by
      rcases (show cS t = 1 ∨ cS t = 2 ∨ cS t = 3 by omega) with e | e | e <;> rw [e] <;> decide
    rw [if_neg hne, if_neg h0, k_cellOf hc ha]
    simp only [Option.bind_some]
    by_cases hw : cO t < 100
    · simp only [if_pos hw]
      rw [if_pos (show nI 0 = 0 from rfl)]
      simp only [Option.bind_some]
      unfold cmpv
      rcases (show cS t = 1 ∨ cS t = 2 ∨ cS t = 3 by omega) with e | e | e
      · rw [e, if_pos (show nI (sch 1) = 61 from rfl)]
        by_cases a1 : I a (cC t) = -1 <;> by_cases a2 : nI (cO t) = -1 <;> by_cases a3 : I a (cC t) = nI (cO t) <;> simp [a1, a2, a3]
      · rw [e, if_neg (show ¬ nI (sch 2) = 61 by decide), if_pos (show nI (sch 2) = 60 from rfl)]
        by_cases a1 : I a (cC t) = -1 <;> by_cases a2 : nI (cO t) = -1 <;> by_cases a3 : nI (cO t) ≤ I a (cC t) <;> simp [a1, a2, a3]
      · rw [e, if_neg (show ¬ nI (sch 3) = 61 by decide), if_neg (show ¬ nI (sch 3) = 60 by decide)]
        by_cases a1 : I a (cC t) = -1 <;> by_cases a2 : nI (cO t) = -1 <;> by_cases a3 : I a (cC t) ≤ nI (cO t) <;> simp [a1, a2, a3]
    · simp only [if_neg hw]
      rw [if_neg (show ¬ nI 1 = 0 by decide), Nat.mod_eq_of_lt (show cO t - 100 < 4 by omega), k_cellOf (show cO t - 100 < 4 by omega) ha]
      simp only [Option.bind_some]
      unfold cmpv
      rcases (show cS t = 1 ∨ cS t = 2 ∨ cS t = 3 by omega) with e | e | e
      · rw [e, if_pos (show nI (sch 1) = 61 from rfl)]
        by_cases a1 : I a (cC t) = -1 <;> by_cases a2 : I a (cO t - 100) = -1 <;> by_cases a3 : I a (cC t) = I a (cO t - 100) <;> simp [a1, a2, a3]
      · rw [e, if_neg (show ¬ nI (sch 2) = 61 by decide), if_pos (show nI (sch 2) = 60 from rfl)]
        by_cases a1 : I a (cC t) = -1 <;> by_cases a2 : I a (cO t - 100) = -1 <;> by_cases a3 : I a (cO t - 100) ≤ I a (cC t) <;> simp [a1, a2, a3]
      · rw [e, if_neg (show ¬ nI (sch 3) = 61 by decide), if_neg (show ¬ nI (sch 3) = 60 by decide)]
        by_cases a1 : I a (cC t) = -1 <;> by_cases a2 : I a (cO t - 100) = -1 <;> by_cases a3 : I a (cC t) ≤ I a (cO t - 100) <;> simp [a1, a2, a3]
/-! the machine of stacks -/
def rs1 {α : Type} (tt : Nat → α) (ng : α → α) (an oo : α → α → α) (t : Nat) (st : List α) : List α :=
  if t = 0 then (match st with
    | x :: s => ng x :: s
    | [] => [])
  else if t = 1 then (match st with
    | y :: x :: s => an x y :: s
    | s => s)
  else if t = 2 then (match st with
    | y :: x :: s => oo x y :: s
    | s => s)
  else tt t :: st
def rsG {α : Type} (tt : Nat → α) (ng : α → α) (an oo : α → α → α) : List Nat → List α → List α
  | [], st => st
  | t :: L, st => rsG tt ng an oo L (rs1 tt ng an oo t st)
def wd : List Nat → Nat → Prop
  | [], d => d = 1
  | t :: L, d => if t = 0 then 1 ≤ d ∧ wd L d else if t < 3 then 2 ≤ d ∧ wd L (d - 1) else wd L (d + 1)
theorem wd_0 {L : List Nat} {d : Nat} (h : wd (0 :: L) d) : 1 ≤ d ∧ wd L d := h
theorem wd_1 {L : List Nat} {d : Nat} (h : wd (1 :: L) d) : 2 ≤ d ∧ wd L (d - 1) := h
theorem wd_2 {L : List Nat} {d : Nat} (h : wd (2 :: L) d) : 2 ≤ d ∧ wd L (d - 1) := h
theorem wd_t {L : List Nat} {d t : Nat} (ht : 3 ≤ t) (h : wd (t :: L) d) : wd L (d + 1) := by
  unfold wd at h; rwa [if_neg (by omega), if_neg (by omega)] at h
theorem rs1_t {α : Type} (tt : Nat → α) (ng : α → α) (an oo : α → α → α) {t : Nat} (ht : 3 ≤ t) (st : List α) : rs1 tt ng an oo t st = tt t :: st := by
  unfold rs1; rw [if_neg (by omega), if_neg (by omega), if_neg (by omega)]
theorem len1 {α : Type} {st : List α} (h : 1 ≤ st.length) : ∃ x s, st = x :: s := by
  cases st with
  | nil => simp at h
  | cons x s => exact ⟨x, s, rfl⟩
theorem len2 {α : Type} {st : List α} (h : 2 ≤ st.length) : ∃ y x s, st = y :: x :: s := by
  obtain ⟨y, s, rfl⟩ := len1 (show 1 ≤ st.length by omega)
  obtain ⟨x, s, rfl⟩ := len1 (show 1 ≤ s.length by simp at h; omega)
  exact ⟨y, x, s, rfl⟩
theorem rsG_cg {α : Type} {tt tt2 : Nat → α} {ng : α → α} {an oo : α → α → α} : ∀ (L : List Nat) (st : List α), (∀ t ∈ L, 3 ≤ t → tt t = tt2 t) → rsG tt ng an oo L st = rsG tt2 ng an oo L st
  | [], _, _ => rfl
  | t :: L, st, h => by
    have e : rs1 tt ng an oo t st = rs1 tt2 ng an oo t st := by
      by_cases ht : 3 ≤ t
      · rw [rs1_t _ _ _ _ ht, rs1_t _ _ _ _ ht, h t (by simp) ht]
      · rcases (show t = 0 ∨ t = 1 ∨ t = 2 by omega) with rfl | rfl | rfl <;> rfl
    unfold rsG
    rw [e]
    exact rsG_cg L _ (fun t ht => h t (by simp [ht]))
theorem rsG_len {α : Type} {tt : Nat → α} {ng : α → α} {an oo : α → α → α} : ∀ (L : List Nat) (st : List α), wd L st.length → (rsG tt ng an oo L st).length = 1
  | [], _, h => h
  | t :: L, st, h => by
    unfold rsG
    by_cases ht : 3 ≤ t
    · rw [rs1_t _ _ _ _ ht]; exact rsG_len L _ (wd_t ht h)
    · rcases (show t = 0 ∨ t = 1 ∨ t = 2 by omega) with rfl | rfl | rfl
      · obtain ⟨h1, h2⟩ := wd_0 h
        obtain ⟨x, s, rfl⟩ := len1 h1
        exact rsG_len L _ h2
      · obtain ⟨h1, h2⟩ := wd_1 h
        obtain ⟨y, x, s, rfl⟩ := len2 h1
        exact rsG_len L _ h2
      · obtain ⟨h1, h2⟩ := wd_2 h
        obtain ⟨y, x, s, rfl⟩ := len2 h1
        exact rsG_len L _ h2
def anI (x y : Int32) : Int32 := if y ≤ x then y else x
def orI (x y : Int32) : Int32 := if x ≤ y then y else x
theorem jmin_an (x y : Int32) : jmin y x = anI x y := by
  unfold jmin anI
  by_cases h : x < y
  · rw [if_pos h, if_neg (fun h2 => absurd h (by rw [fa_lt] at h ⊢; rw [Int32.le_iff_toInt_le] at h2; omega))]
  · rw [if_neg h, if_pos (by rw [fa_lt] at h; rw [Int32.le_iff_toInt_le]; omega)]
theorem jmax_or (x y : Int32) : jmax y x = orI x y := by
  unfold jmax orI
  by_cases h : y < x
  · rw [if_pos h, if_neg (fun h2 => absurd h (by rw [fa_lt] at h ⊢; rw [Int32.le_iff_toInt_le] at h2; omega))]
  · rw [if_neg h, if_pos (by rw [fa_lt] at h; rw [Int32.le_iff_toInt_le]; omega)]
def tvS (row : Nat → Int32) (unk : Nat → Bool) (L : List Nat) (st : List Int32) : List Int32 := rsG (tst row unk) (fun x => 2 - x) anI orI L st
def tv (row : Nat → Int32) (unk : Nat → Bool) (L : List Nat) : Int32 := (tvS row unk L []).headD 0
/-! filters: lists of codes -/
def tl (t : Nat) : Nat := if cS t = 0 then 2 else if cO t < 10 then 3 else if cO t < 100 then 4 else 3
def fW : List Nat → Nat
  | [] => 0
  | t :: L => (if t = 0 then 1 else if t < 3 then 3 else tl t) + fW L
def fV (L : List Nat) : Prop := (∀ t ∈ L, vC t) ∧ wd L 0 ∧ L.length ≤ 59 ∧ fW L ≤ 160
theorem fV_ne {L : List Nat} (h : fV L) : L ≠ [] := fun e => by rw [e] at h; exact absurd h.2.1 Nat.zero_ne_one
def FObj (I : Mem) (R : Rem) (P : Pool) (k : Nat) (L : List Nat) : Prop := 70 ≤ k ∧ Kd P k = 2 ∧ ∃ a, R k 0 = some a ∧ 70 ≤ a ∧ Kd P a = 10 ∧ Ln P a = L.length ∧ ∀ j x, L[j]? = some x → I a j = enc x
theorem FObj.eqx {S : List Nat} {I I' : Mem} {R : Rem} {P : Pool} {k : Nat} {L : List Nat} (h : FObj I R P k L) (hE : Eqx S I I') (hS : ∀ a ∈ S, a < 70) : FObj I' R P k L := by
  obtain ⟨h1, h2, a, h3, h4, h5, h6, h7⟩ := h
  exact ⟨h1, h2, a, h3, h4, h5, h6, fun j x hj => by rw [hE a (fun hm => by have := hS a hm; omega)]; exact h7 j x hj⟩
theorem k_size {I : Mem} {R : Rem} {P : Pool} {k : Nat} {L : List Nat} (h : FObj I R P k L) : f_X2_size k P R = some (nI L.length) := by
  obtain ⟨h1, h2, a, h3, h4, h5, h6, h7⟩ := h
  unfold f_X2_size
  rw [rdn_e h3 h5]
  simp only [Option.bind_some, h6]
  rfl
theorem k_step {I : Mem} {R : Rem} {P : Pool} {k i t : Nat} {L : List Nat} (h : FObj I R P k L) (hL : L.length ≤ 1000) (hi : L[i]? = some t) : f_X2_step k (nI i) P R I = some (enc t) := by
  obtain ⟨h1, h2, a, h3, h4, h5, h6, h7⟩ := h
  have hl : i < L.length := (List.getElem?_eq_some_iff.mp hi).1
  unfold f_X2_step
  rw [if_neg (nI_pos (by omega)), rdn_e h3 h5]
  simp only [Option.bind_some, h6]
  rw [if_neg (show ¬ Int32.ofNat L.length ≤ nI i from nI_ge hl (by omega)), rd_e i rfl hl (by omega)]
  simp only [Option.bind_some]
  rw [h7 i t hi]
def sgnN (t : Nat) : Nat := if t = 0 then 33 else if t = 1 then 38 else if t = 2 then 124 else sch (cS t)
theorem k_sign {t : Nat} (h : vC t) : f_X7_signOf (enc t) = some (nI (sgnN t)) := by
  rcases h with h | h
  · rcases (show t = 0 ∨ t = 1 ∨ t = 2 by omega) with rfl | rfl | rfl
    · exact m_signOf (n := 33) (by decide)
    · exact m_signOf (n := 38) (by decide)
    · exact m_signOf (n := 124) (by decide)
  · have := h.1
    rw [enc_t h, m_signOf (by have := encT_b h; omega), encT_7 h]
    unfold sgnN; rw [if_neg (by omega), if_neg (by omega), if_neg (by omega)]
theorem sgn_t {t : Nat} (h : vT t) : sgnN t = sch (cS t) := by
  have := h.1
  unfold sgnN; rw [if_neg (by omega), if_neg (by omega), if_neg (by omega)]
theorem sgn_ne {t : Nat} (h : vT t) : ¬ nI (sgnN t) = 33 ∧ ¬ nI (sgnN t) = 38 ∧ ¬ nI (sgnN t) = 124 := by
  rw [sgn_t h]
  have hs := cS_b t
  rcases (show cS t = 0 ∨ cS t = 1 ∨ cS t = 2 ∨ cS t = 3 by omega) with e | e | e | e <;> rw [e] <;> decide
theorem vC_t {t : Nat} (h : vC t) (ht : 3 ≤ t) : vT t := h.resolve_left (by omega)
/-- the code at the place behind A -/
theorem mid_at (A B : List Nat) (t : Nat) : (A ++ t :: B)[A.length]? = some t := by simp
end MB1
