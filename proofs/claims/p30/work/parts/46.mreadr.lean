/-! PURE PART 27: the reference reads filter texts. -/
section MB26
/-! what stands at the position -/
abbrev BK (B : List Nat) : Prop := B.length ≤ 60 ∧ ∀ x ∈ B, x < 1000
theorem drop_c {B : List Nat} {i ch : Nat} {T : List Nat} (h : B.drop i = ch :: T) : B[i]? = some ch ∧ B.drop (i + 1) = T ∧ i < B.length ∧ ch ∈ B := by
  have hl : i < B.length := by
    by_cases e : i < B.length
    · exact e
    · rw [List.drop_eq_nil_of_le (by omega)] at h; exact absurd h (by simp)
  rw [List.drop_eq_getElem_cons hl] at h
  injection h with h1 h2
  exact ⟨by rw [List.getElem?_eq_getElem hl, h1], h2, hl, h1 ▸ List.getElem_mem hl⟩
theorem drop_z {B : List Nat} {i : Nat} (h : B.drop i = []) : B.length ≤ i := by
  have := congrArg List.length h
  simp at this
  omega
/-! waiting signs that are made -/
def pps (x y : Nat) : List Nat → List Nat → List Nat × List Nat
  | [], M => ([], M)
  | z :: W, M => if z = x then pps x y W (y :: M) else (z :: W, M)
theorem pps_c (x y z : Nat) (W M : List Nat) : pps x y (z :: W) M = if z = x then pps x y W (y :: M) else (z :: W, M) := rfl
theorem pps_len (x y : Nat) : ∀ (W M : List Nat), (pps x y W M).1.length + (pps x y W M).2.length = W.length + M.length
  | [], M => rfl
  | z :: W, M => by
    rw [pps_c]
    split
    · rw [pps_len x y W]; simp; omega
    · rfl
theorem pps_ok {x y : Nat} : ∀ (W M : List Nat), okS 2 W → okS 2 (pps x y W M).1
  | [], M, h => trivial
  | z :: W, M, h => by
    rw [pps_c]
    split
    · exact pps_ok W _ (okS_t h)
    · exact h
theorem nrm_ok {y : Nat} : ∀ (W M : List Nat), okS 2 W → okS 0 (pps 33 y W M).1
  | [], M, h => trivial
  | z :: W, M, h => by
    rw [pps_c]
    rcases h with ⟨a, b, c⟩ | ⟨a, b, c⟩ | ⟨a, c⟩ | ⟨a, c⟩
    · rw [if_pos a]; exact nrm_ok W _ c
    · rw [a, if_neg (by decide)]; exact Or.inr (Or.inl ⟨rfl, by decide, c⟩)
    · rw [a, if_neg (by decide)]; exact Or.inr (Or.inr (Or.inl ⟨rfl, c⟩))
    · rw [a, if_neg (by decide)]; exact Or.inr (Or.inr (Or.inr ⟨rfl, c⟩))
theorem nrm_rel {l : Nat} (hl : l ≤ 3) : ∀ (W M : List Nat), rel l (pps 33 0 W M).1 (pps 33 0 W M).2 = rel l W M
  | [], M => rfl
  | z :: W, M => by
    rw [pps_c]
    by_cases e : z = 33
    · rw [if_pos e, nrm_rel hl W (0 :: M), rel_c, e, if_neg (show ¬ str 33 < l from by rw [show str 33 = 3 from rfl]; omega)]
      rfl
    · rw [if_neg e]
theorem rel2_pps : ∀ (W M : List Nat), okS 0 W → rel 2 W M = pps 38 1 W M
  | [], M, h => rfl
  | z :: W, M, h => by
    rw [pps_c, rel_c]
    rcases h with ⟨a, b, c⟩ | ⟨a, b, c⟩ | ⟨a, c⟩ | ⟨a, c⟩
    · exact absurd b (by decide)
    · subst a
      rw [if_neg (by decide), if_pos rfl]
      exact rel2_pps W _ c
    · rw [a, if_pos (by decide), if_neg (by decide)]
    · rw [a, if_pos (by decide), if_neg (by decide)]
theorem rel1_pps1 : ∀ (W M : List Nat), okS 1 W → rel 1 W M = pps 124 2 W M
  | [], M, h => rfl
  | z :: W, M, h => by
    rw [pps_c, rel_c]
    rcases h with ⟨a, b, c⟩ | ⟨a, b, c⟩ | ⟨a, c⟩ | ⟨a, c⟩
    · exact absurd b (by decide)
    · exact absurd rfl b
    · subst a
      rw [if_neg (by decide), if_pos rfl]
      exact rel1_pps1 W _ c
    · rw [a, if_pos (by decide), if_neg (by decide)]
theorem rel1_pps : ∀ (W M : List Nat), okS 0 W → rel 1 W M = pps 124 2 (pps 38 1 W M).1 (pps 38 1 W M).2
  | [], M, h => rfl
  | z :: W, M, h => by
    rw [pps_c, rel_c]
    have h' := h
    rcases h with ⟨a, b, c⟩ | ⟨a, b, c⟩ | ⟨a, c⟩ | ⟨a, c⟩
    · exact absurd b (by decide)
    · subst a
      rw [if_neg (by decide), if_pos rfl]
      exact rel1_pps W _ c
    · subst a
      rw [if_neg (show ¬ 124 = 38 by decide), ← rel_c]
      exact rel1_pps1 _ _ (Or.inr (Or.inr (Or.inl ⟨rfl, c⟩)))
    · subst a
      rw [if_neg (show ¬ 40 = 38 by decide), ← rel_c]
      exact rel1_pps1 _ _ (Or.inr (Or.inr (Or.inr ⟨rfl, c⟩)))
/-! where the reading ends, and in which state -/
def EN (B : List Nat) (p : PS) (i : Nat) : Nat × PS := (i + (run p (B.drop i)).1, stl (run p (B.drop i)).2)
theorem EN_s {B : List Nat} {p q : PS} {i ch : Nat} {T : List Nat} (hT : B.drop i = ch :: T) (h : stp p ch = some q) : EN B p i = EN B q (i + 1) := by
  unfold EN
  rw [hT, run_s h, (drop_c hT).2.1]
  simp only [Prod.mk.injEq, and_true]
  omega
theorem EN_e {B : List Nat} {p : PS} {i ch : Nat} {T : List Nat} (hT : B.drop i = ch :: T) (h : stp p ch = none) : EN B p i = (i, stl p) := by
  unfold EN
  rw [hT, run_e h]
  rfl
theorem EN_n {B : List Nat} {p : PS} {i : Nat} (hT : B.drop i = []) : EN B p i = (i, stl p) := by
  unfold EN
  rw [hT, run_n]
  rfl
theorem EN_3 {B : List Nat} {op c s v i : Nat} {W M : List Nat} (hT : ∀ ch T, B.drop i = ch :: T → ¬ (48 ≤ ch ∧ ch ≤ 57)) : EN B (3, op, W, M, c, s, v) i = EN B (4, op, W, tcode c s v :: M, c, s, v) i := by
  cases hd : B.drop i with
  | nil => rw [EN_n hd, EN_n hd]; rfl
  | cons ch T =>
    have hs : stp (3, op, W, M, c, s, v) ch = stp (4, op, W, tcode c s v :: M, c, s, v) ch := by
      show stpF 3 op W M c s v ch = stpF 4 op W (tcode c s v :: M) c s v ch
      unfold stpF
      rw [if_neg (by decide), if_neg (by decide), if_neg (by decide), if_pos rfl, if_neg (hT ch T hd), if_neg (by decide), if_neg (by decide), if_neg (by decide), if_neg (by decide)]
    cases h : stp (4, op, W, tcode c s v :: M, c, s, v) ch with
    | none => rw [EN_e hd (hs.trans h), EN_e hd h]; rfl
    | some q => rw [EN_s hd (hs.trans h), EN_s hd h]
end MB26
