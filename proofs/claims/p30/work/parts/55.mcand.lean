/-! PURE PART 36: the candidates suffice. -/
section MB35
def sp (a b a' b' : Nat) : Prop := (a < b ↔ a' < b') ∧ (b < a ↔ b' < a')
/-- the marked values -/
def mkd (C : Nat → Prop) (v : Nat) : Prop := v < 100 ∧ ∃ c, C c ∧ c ≤ v ∧ v ≤ c + 2
/-- the greatest marked value up to x -/
theorem mk_top {C : Nat → Prop} (h0 : C 0) : ∀ x, x < 100 → ∃ r, r ≤ x ∧ mkd C r ∧ ∀ z, r < z → z ≤ x → ¬ mkd C z
  | 0, h => ⟨0, Nat.le_refl _, ⟨h, 0, h0, Nat.le_refl _, by omega⟩, fun z h1 h2 => by omega⟩
  | x + 1, h => by
    by_cases e : mkd C (x + 1)
    · exact ⟨x + 1, Nat.le_refl _, e, fun z h1 h2 => by omega⟩
    · obtain ⟨r, h1, h2, h3⟩ := mk_top h0 x (by omega)
      refine ⟨r, by omega, h2, fun z a b => ?_⟩
      by_cases e2 : z = x + 1
      · rw [e2]; exact e
      · exact h3 z a (by omega)
theorem mk_gap {C : Nat → Prop} {x r : Nat} (hx : x < 100) (h1 : r ≤ x) (h2 : mkd C r) (h3 : ∀ z, r < z → z ≤ x → ¬ mkd C z) (hne : r ≠ x) : 1 ≤ r ∧ mkd C (r - 1) ∧ ∀ c, C c → c < r - 1 ∨ x < c := by
  obtain ⟨hr, c, hc, c1, c2⟩ := h2
  have e : r = c + 2 := by
    by_cases e : r = c + 2
    · exact e
    · exact absurd (show mkd C (r + 1) from ⟨by omega, c, hc, by omega, by omega⟩) (h3 (r + 1) (by omega) (by omega))
  refine ⟨by omega, ⟨by omega, c, hc, by omega, by omega⟩, fun d hd => ?_⟩
  by_cases a : d < r - 1
  · exact Or.inl a
  · by_cases b : x < d
    · exact Or.inr b
    · by_cases f : r < d
      · exact absurd (show mkd C d from ⟨by omega, d, hd, Nat.le_refl _, by omega⟩) (h3 d f (by omega))
      · exact absurd (show mkd C (r + 1) from ⟨by omega, d, hd, by omega, by omega⟩) (h3 (r + 1) (by omega) (by omega))
theorem small_lt {C : Nat → Prop} (h0 : C 0) {a b : Nat} (ha : a < b) (hb : b < 100) : ∃ u w, mkd C u ∧ mkd C w ∧ u < w ∧ (∀ c, C c → sp a c u c) ∧ (∀ c, C c → sp b c w c) := by
  obtain ⟨r, r1, r2, r3⟩ := mk_top h0 a (by omega)
  obtain ⟨q, q1, q2, q3⟩ := mk_top h0 b hb
  have hrq : r ≤ q := by
    by_cases e : r ≤ q
    · exact e
    · exact absurd r2 (q3 r (by omega) (by omega))
  have ga : ∀ c, C c → sp a c r c := fun c hc => by
    by_cases e : r = a
    · rw [e]; exact ⟨Iff.rfl, Iff.rfl⟩
    · have := (mk_gap (by omega) r1 r2 r3 e).2.2 c hc
      unfold sp; omega
  have gb : ∀ c, C c → sp b c q c := fun c hc => by
    by_cases e : q = b
    · rw [e]; exact ⟨Iff.rfl, Iff.rfl⟩
    · have := (mk_gap hb q1 q2 q3 e).2.2 c hc
      unfold sp; omega
  by_cases e : r < q
  · exact ⟨r, q, r2, q2, e, ga, gb⟩
  · have hqb : q ≠ b := by omega
    obtain ⟨g1, g2, g3⟩ := mk_gap hb q1 q2 q3 hqb
    refine ⟨q - 1, q, g2, q2, by omega, fun c hc => ?_, gb⟩
    have := g3 c hc
    unfold sp; omega
theorem small {C : Nat → Prop} (h0 : C 0) {a b : Nat} (ha : a < 100) (hb : b < 100) : ∃ u w, mkd C u ∧ mkd C w ∧ sp a b u w ∧ (∀ c, C c → sp a c u c) ∧ (∀ c, C c → sp b c w c) := by
  rcases Nat.lt_trichotomy a b with h | h | h
  · obtain ⟨u, w, h1, h2, h3, h4, h5⟩ := small_lt h0 h hb
    exact ⟨u, w, h1, h2, by unfold sp; omega, h4, h5⟩
  · subst h
    obtain ⟨r, r1, r2, r3⟩ := mk_top h0 a ha
    have ga : ∀ c, C c → sp a c r c := fun c hc => by
      by_cases e : r = a
      · rw [e]; exact ⟨Iff.rfl, Iff.rfl⟩
      · have := (mk_gap ha r1 r2 r3 e).2.2 c hc
        unfold sp; omega
    exact ⟨r, r, r2, r2, by unfold sp; omega, ga, ga⟩
  · obtain ⟨u, w, h1, h2, h3, h4, h5⟩ := small_lt h0 h ha
    exact ⟨w, u, h2, h1, by unfold sp; omega, h5, h4⟩
/-! a row with two values put in -/
def mix (row : Nat → Int32) (a v b w : Nat) : Nat → Int32 := fun j => if j = a then nI v else if j = b then nI w else row j
def ftv (row : Nat → Int32) (unk : Nat → Bool) (L : List Nat) (a b v w : Nat) : Int32 := tv (mix row a v b w) unk L
theorem nI_m1 {a : Nat} (ha : a < 1000) : ¬ nI a = -1 := fun e => by
  have := congrArg Int32.toInt e
  rw [nI_toInt (by omega)] at this
  have m1 : (-1 : Int32).toInt = -1 := rfl
  rw [m1] at this
  omega
theorem cmpv_n {s a b a' b' : Nat} (ha : a < 100) (hb : b < 100) (ha' : a' < 100) (hb' : b' < 100) (h : sp a b a' b') : cmpv s (nI a) (nI b) = cmpv s (nI a') (nI b') := by
  unfold cmpv
  rw [if_neg (nI_m1 (by omega)), if_neg (nI_m1 (by omega)), if_neg (nI_m1 (by omega)), if_neg (nI_m1 (by omega))]
  have e1 : (nI a = nI b) = (nI a' = nI b') := by
    rw [propext (nI_eq (a := a) (b := b) (by omega) (by omega)), propext (nI_eq (a := a') (b := b') (by omega) (by omega))]
    unfold sp at h
    exact propext (by omega)
  have le : ∀ x y : Nat, x < 100 → y < 100 → (nI x ≤ nI y ↔ x ≤ y) := fun x y hx hy => by
    rw [Int32.le_iff_toInt_le, nI_toInt (by omega), nI_toInt (by omega)]; omega
  have e2 : (nI b ≤ nI a) = (nI b' ≤ nI a') := by
    rw [propext (le b a hb ha), propext (le b' a' hb' ha')]
    unfold sp at h
    exact propext (by omega)
  have e3 : (nI a ≤ nI b) = (nI a' ≤ nI b') := by
    rw [propext (le a b ha hb), propext (le a' b' ha' hb')]
    unfold sp at h
    exact propext (by omega)
  simp only [e1, e2, e3]
theorem cmpv_u1 (s : Nat) (y : Int32) : cmpv s (-1) y = 1 := by unfold cmpv; rw [if_pos rfl]
theorem cmpv_u2 (s : Nat) (x : Int32) : cmpv s x (-1) = 1 := by
  unfold cmpv
  by_cases e : x = -1
  · rw [if_pos e]
  · rw [if_neg e, if_pos rfl]
theorem sp_rf (a b : Nat) : sp a b a b := ⟨Iff.rfl, Iff.rfl⟩
theorem sp_sy {a b a' b' : Nat} (h : sp a b a' b') : sp b a b' a' := ⟨h.2, h.1⟩
/-- the bases of the candidates -/
def cbs (row : Nat → Int32) (L : List Nat) (c : Nat) : Prop := c = 0 ∨ (∃ t ∈ L, 3 ≤ t ∧ ¬ cS t = 0 ∧ cO t < 100 ∧ cO t = c) ∨ ∃ j, j < 4 ∧ c < 100 ∧ row j = nI c
theorem ftv_small {row : Nat → Int32} {unk : Nat → Bool} {L : List Nat} {a b v w : Nat} (hrow : ∀ j, j < 4 → cok (row j)) (hL : ∀ t ∈ L, vC t) (hv : v < 100) (hw : w < 100) : ∃ u z, mkd (cbs row L) u ∧ mkd (cbs row L) z ∧ ftv row unk L a b u z = ftv row unk L a b v w := by
  obtain ⟨u, z, h1, h2, h3, h4, h5⟩ := small (C := cbs row L) (Or.inl rfl) hv hw
  have hu := h1.1
  have hz := h2.1
  refine ⟨u, z, h1, h2, ?_⟩
  unfold ftv tv tvS
  refine congrArg (fun l => List.headD l 0) (rsG_cg L [] (fun t ht h3t => ?_))
  have hT := vC_t (hL t ht) h3t
  have hcC := cC_b hT
  have hcO := hT.2.2.1
  unfold tst
  by_cases e0 : cS t = 0
  · rw [if_pos e0, if_pos e0]
  rw [if_neg e0, if_neg e0]
  -- what stands at the left: the first, the second value, or a cell of the row
  have side : ∀ j, j < 4 → (mix row a u b z j = nI u ∧ mix row a v b w j = nI v) ∨ (mix row a u b z j = nI z ∧ mix row a v b w j = nI w) ∨ (mix row a u b z j = row j ∧ mix row a v b w j = row j) := fun j hj => by
    unfold mix
    by_cases e : j = a
    · exact Or.inl ⟨if_pos e, if_pos e⟩
    · by_cases e2 : j = b
      · exact Or.inr (Or.inl ⟨by rw [if_neg e, if_pos e2], by rw [if_neg e, if_pos e2]⟩)
      · exact Or.inr (Or.inr ⟨by rw [if_neg e, if_neg e2], by rw [if_neg e, if_neg e2]⟩)
  have base : ∀ j, j < 4 → row j = -1 ∨ ∃ c, c < 100 ∧ row j = nI c ∧ cbs row L c := fun j hj => by
    rcases hrow j hj with h | ⟨c, hc, h⟩
    · exact Or.inl h
    · exact Or.inr ⟨c, hc, h, Or.inr (Or.inr ⟨j, hj, hc, h⟩)⟩
  by_cases hw2 : cO t < 100
  · rw [if_pos hw2, if_pos hw2]
    have hcb : cbs row L (cO t) := Or.inr (Or.inl ⟨t, ht, h3t, e0, hw2, rfl⟩)
    rcases side (cC t) hcC with ⟨p, q⟩ | ⟨p, q⟩ | ⟨p, q⟩
    · rw [p, q]
      exact (cmpv_n hv hw2 hu hw2 (h4 _ hcb)).symm
    · rw [p, q]
      exact (cmpv_n hw hw2 hz hw2 (h5 _ hcb)).symm
    · rw [p, q]
  · rw [if_neg hw2, if_neg hw2]
    have hd : cO t - 100 < 4 := by omega
    rcases side (cC t) hcC with ⟨p, q⟩ | ⟨p, q⟩ | ⟨p, q⟩ <;> rcases side (cO t - 100) hd with ⟨p2, q2⟩ | ⟨p2, q2⟩ | ⟨p2, q2⟩ <;> rw [p, q, p2, q2]
    · exact cmpv_n hu hu hv hv (by unfold sp; omega)
    · exact (cmpv_n hv hw hu hz h3).symm
    · rcases base _ hd with e | ⟨c, c1, c2, c3⟩
      · rw [e, cmpv_u2, cmpv_u2]
      · rw [c2]; exact (cmpv_n hv c1 hu c1 (h4 c c3)).symm
    · exact (cmpv_n hw hv hz hu (sp_sy h3)).symm
    · exact cmpv_n hz hz hw hw (by unfold sp; omega)
    · rcases base _ hd with e | ⟨c, c1, c2, c3⟩
      · rw [e, cmpv_u2, cmpv_u2]
      · rw [c2]; exact (cmpv_n hw c1 hz c1 (h5 c c3)).symm
    · rcases base _ hcC with e | ⟨c, c1, c2, c3⟩
      · rw [e, cmpv_u1, cmpv_u1]
      · rw [c2]; exact (cmpv_n c1 hv c1 hu (sp_sy (h4 c c3))).symm
    · rcases base _ hcC with e | ⟨c, c1, c2, c3⟩
      · rw [e, cmpv_u1, cmpv_u1]
      · rw [c2]; exact (cmpv_n c1 hw c1 hz (sp_sy (h5 c c3))).symm
theorem rsG_20 {tt : Nat → Int32} : ∀ (L : List Nat) (st : List Int32), wd L st.length → (∀ t ∈ L, 3 ≤ t → tt t = 0 ∨ tt t = 2) → (∀ x ∈ st, x = 0 ∨ x = 2) → ∀ x ∈ rsG tt (fun x => 2 - x) anI orI L st, x = 0 ∨ x = 2
  | [], st, hw, h, hs => hs
  | t :: L, st, hw, h, hs => by
    unfold rsG
    have hL : ∀ u ∈ L, 3 ≤ u → tt u = 0 ∨ tt u = 2 := fun u hu => h u (by simp [hu])
    by_cases ht : 3 ≤ t
    · rw [rs1_t _ _ _ _ ht]
      exact rsG_20 L _ (wd_t ht hw) hL (fun x hx => by rcases List.mem_cons.mp hx with e | e; rw [e]; exact h t (by simp) ht; exact hs x e)
    · rcases (show t = 0 ∨ t = 1 ∨ t = 2 by omega) with rfl | rfl | rfl
      · obtain ⟨h1, h2⟩ := wd_0 hw
        obtain ⟨y, s, rfl⟩ := len1 h1
        refine rsG_20 L _ h2 hL (fun x hx => ?_)
        rcases List.mem_cons.mp hx with e | e
        · rw [e]
          rcases hs y (by simp) with f | f <;> rw [f]
          · exact Or.inr rfl
          · exact Or.inl rfl
        · exact hs x (by simp [e])
      · obtain ⟨h1, h2⟩ := wd_1 hw
        obtain ⟨y, z, s, rfl⟩ := len2 h1
        refine rsG_20 L _ h2 hL (fun x hx => ?_)
        rcases List.mem_cons.mp hx with e | e
        · rw [e]
          rcases hs y (by simp) with f | f <;> rcases hs z (by simp) with g | g <;> rw [f, g] <;> decide
        · exact hs x (by simp [e])
      · obtain ⟨h1, h2⟩ := wd_2 hw
        obtain ⟨y, z, s, rfl⟩ := len2 h1
        refine rsG_20 L _ h2 hL (fun x hx => ?_)
        rcases List.mem_cons.mp hx with e | e
        · rw [e]
          rcases hs y (by simp) with f | f <;> rcases hs z (by simp) with g | g <;> rw [f, g] <;> decide
        · exact hs x (by simp [e])
theorem cmpv_20 {s : Nat} {x y : Int32} (hx : ¬ x = -1) (hy : ¬ y = -1) : cmpv s x y = 0 ∨ cmpv s x y = 2 := by
  unfold cmpv
  rw [if_neg hx, if_neg hy]
  split
  · split
    · exact Or.inr rfl
    · exact Or.inl rfl
  · split
    · split
      · exact Or.inl rfl
      · exact Or.inr rfl
    · split
      · exact Or.inl rfl
      · exact Or.inr rfl
/-- with the unknown cells of its tests filled in, a filter is true or false -/
theorem ftv_20 {row : Nat → Int32} {unk : Nat → Bool} {L : List Nat} {a b v w : Nat} (hV : fV L) (hk : ∀ t ∈ L, 3 ≤ t → ∀ j, j < 4 → (j = cC t ∨ (¬ cO t < 100 ∧ j = cO t - 100)) → ¬ j = a → ¬ j = b → ¬ row j = -1) (hv : v < 100) (hw : w < 100) : ftv row unk L a b v w = 0 ∨ ftv row unk L a b v w = 2 := by
  have hm : ∀ t ∈ L, 3 ≤ t → ∀ j, j < 4 → (j = cC t ∨ (¬ cO t < 100 ∧ j = cO t - 100)) → ¬ mix row a v b w j = -1 := fun t ht h3 j hj hc => by
    unfold mix
    by_cases e : j = a
    · rw [if_pos e]; exact nI_m1 (by omega)
    · rw [if_neg e]
      by_cases e2 : j = b
      · rw [if_pos e2]; exact nI_m1 (by omega)
      · rw [if_neg e2]; exact hk t ht h3 j hj hc e e2
  have h20 := rsG_20 (tt := tst (mix row a v b w) unk) L [] hV.2.1 (fun t ht h3 => by
    have hT := vC_t (hV.1 t ht) h3
    have hcO := hT.2.2.1
    unfold tst
    by_cases e : cS t = 0
    · rw [if_pos e]
      split
      · exact Or.inr rfl
      · exact Or.inl rfl
    · rw [if_neg e]
      refine cmpv_20 (hm t ht h3 _ (cC_b hT) (Or.inl rfl)) ?_
      by_cases e2 : cO t < 100
      · rw [if_pos e2]; exact nI_m1 (by omega)
      · rw [if_neg e2]; exact hm t ht h3 _ (by omega) (Or.inr ⟨e2, rfl⟩)) (fun x hx => by simp at hx)
  unfold ftv tv tvS
  have hl := rsG_len (tt := tst (mix row a v b w) unk) (ng := fun x => 2 - x) (an := anI) (oo := orI) L [] hV.2.1
  cases hd : rsG (tst (mix row a v b w) unk) (fun x => 2 - x) anI orI L [] with
  | nil => rw [hd] at hl; simp at hl
  | cons y q =>
    rw [hd] at h20
    exact h20 y (by simp)
end MB35
