/-! PURE PART 39: how certain a filter is, in the reference; certain. -/
section MB38
def st3 (bc : Bool) (c : Int32) (s : Int32 × Int32 × Int32) : Int32 × Int32 × Int32 := if bc = true then ((if s.2.2 = 0 then c else s.1), (if s.2.2 = 1 then c else s.2.1), s.2.2 + 1) else s
def tw (a : Nat) : Int32 := if a < 4 then nI a else -2
theorem st3_d : ∀ b0 b1 b2 b3 : Bool, st3 b3 3 (st3 b2 2 (st3 b1 1 (st3 b0 0 (-2, -2, 0)))) = (tw (lo (bf b0 b1 b2 b3)), tw (lo (nx2 (bf b0 b1 b2 b3))), nI (cntb (bf b0 b1 b2 b3) 4)) := by decide +kernel
theorem lo_cg {b b2 : Nat → Bool} (h : ∀ k, k < 4 → b k = b2 k) : lo b = lo b2 := by
  unfold lo
  rw [h 0 (by decide), h 1 (by decide), h 2 (by decide), h 3 (by decide)]
theorem nx2_cg {b b2 : Nat → Bool} (h : ∀ k, k < 4 → b k = b2 k) : ∀ k, k < 4 → nx2 b k = nx2 b2 k := fun k hk => by
  unfold nx2
  rw [h k hk, lo_cg h]
/-! all values -/
theorem tw_y {a : Nat} (h : a < 4) : tw a = nI a := if_pos h
theorem tw_n {a : Nat} (h : ¬ a < 4) : tw a = -2 := if_neg h
def cnd (a b w : Nat) : Prop := (a < 4 ∨ w % 100 = 0) ∧ (b < 4 ∨ w / 100 = 0)
theorem q5_c {a b w : Nat} (hw : w < 10000) (h : Decidable (cnd a b w)) : ((if 0 ≤ tw a then (if 0 ≤ tw b then some 1 else (if (nI w / 100) = 0 then some 1 else some 0)) else (if (nI w - nI w / 100 * 100) = 0 then (if 0 ≤ tw b then some 1 else (if (nI w / 100) = 0 then some 1 else some 0)) else some 0)) : Option Int32) = some (if cnd a b w then 1 else 0) := by
  have eD : nI w / 100 = nI (w / 100) := pk_div (d := 100) (by omega) (by decide) (by decide)
  have eR : nI w - nI w / 100 * 100 = nI (w % 100) := pk_rem (d := 100) (by omega) (by decide) (by decide)
  have zD : (nI (w / 100) = 0) ↔ w / 100 = 0 := nI_eq (b := 0) (by omega) (by decide)
  have zR : (nI (w % 100) = 0) ↔ w % 100 = 0 := nI_eq (b := 0) (by omega) (by decide)
  have sg1 : ∀ c, c < 4 → (0 : Int32) ≤ tw c := fun c hc => by rw [tw_y hc]; exact nI_le (a := 0) (Nat.zero_le _) (by omega)
  have sg2 : ∀ c, ¬ c < 4 → ¬ (0 : Int32) ≤ tw c := fun c hc => by rw [tw_n hc]; decide
  rw [eR, eD]
  by_cases a4 : a < 4
  · rw [if_pos (sg1 a a4)]
    by_cases b4 : b < 4
    · rw [if_pos (sg1 b b4), if_pos ⟨Or.inl a4, Or.inl b4⟩]
    · rw [if_neg (sg2 b b4)]
      by_cases e : w / 100 = 0
      · rw [if_pos (zD.mpr e), if_pos ⟨Or.inl a4, Or.inr e⟩]
      · rw [if_neg (fun hh => e (zD.mp hh)), if_neg (fun hh => (hh.2.elim b4 e))]
  · rw [if_neg (sg2 a a4)]
    by_cases e0 : w % 100 = 0
    · rw [if_pos (zR.mpr e0)]
      by_cases b4 : b < 4
      · rw [if_pos (sg1 b b4), if_pos ⟨Or.inr e0, Or.inl b4⟩]
      · rw [if_neg (sg2 b b4)]
        by_cases e : w / 100 = 0
        · rw [if_pos (zD.mpr e), if_pos ⟨Or.inr e0, Or.inr e⟩]
        · rw [if_neg (fun hh => e (zD.mp hh)), if_neg (fun hh => (hh.2.elim b4 e))]
    · rw [if_neg (fun hh => e0 (zR.mp hh)), if_neg (fun hh => (hh.1.elim a4 e0))]
theorem FL.or1 {w : Int32} {P Q : Prop} (h : FL w P) (hQ : Q) : FL (w ||| 1) (P ∨ Q) := by
  rcases h with ⟨a, b⟩ | ⟨a, b⟩
  · rw [a]; exact Or.inl ⟨by decide, Or.inl b⟩
  · rw [a]; exact Or.inl ⟨by decide, Or.inr hQ⟩
theorem FL.or0 {w : Int32} {P Q : Prop} (h : FL w P) (hQ : ¬ Q) : FL (w ||| 0) (P ∨ Q) := by
  rw [or_z]
  exact h.cg ⟨Or.inl, fun h => h.resolve_right hQ⟩
theorem same_v {w8 w9 w4 w5 : Int32} {T N F : Prop} (h8 : FL w8 T) (h9 : FL w9 N) (h4 : FL w4 T) (h5 : FL w5 F) (hNF : N ↔ F) : (if w8 = 0 then (0 : Int32) else if w9 = 0 then 2 else 1) = (if w4 + w5 = 2 then (1 : Int32) else if w4 = 1 then 2 else 0) := by
  rcases h8 with ⟨rfl, t⟩ | ⟨rfl, t⟩ <;> rcases h4 with ⟨rfl, t2⟩ | ⟨rfl, t2⟩ <;> rcases h9 with ⟨rfl, u⟩ | ⟨rfl, u⟩ <;> rcases h5 with ⟨rfl, u2⟩ | ⟨rfl, u2⟩
  all_goals first | rfl | decide | exact absurd t t2 | exact absurd t2 t | exact absurd (hNF.mp u) u2 | exact absurd (hNF.mpr u2) u
/-! a column of a test -/
theorem clA_m : ∀ (L : List Nat) (w : Int32) (j : Nat), j < 4 → hb w j = true → hb (clA L w) j = true
  | [], w, j, hj, h => h
  | t :: L, w, j, hj, h => by
    show hb (clA L (if t < 3 then w else _)) j = true
    refine clA_m L _ j hj ?_
    by_cases e : t < 3
    · rw [if_pos e]; exact h
    · rw [if_neg e, hb_or _ _ (by omega), hb_or _ _ (by omega), h]; rfl
theorem clA_t : ∀ (L : List Nat) (w : Int32) (t j : Nat), t ∈ L → 3 ≤ t → vT t → j < 4 → (j = cC t ∨ (¬ cO t < 100 ∧ j = cO t - 100)) → hb (clA L w) j = true
  | u :: L, w, t, j, hm, h3, hT, hj, hc => by
    show hb (clA L (if u < 3 then w else _)) j = true
    rcases List.mem_cons.mp hm with e | e
    · subst e
      refine clA_m L _ j hj ?_
      have hcC := cC_b hT
      have hcO := hT.2.2.1
      rw [if_neg (show ¬ t < 3 by omega), hb_or _ _ (by omega), hb_or _ _ (by omega)]
      rcases hc with e | ⟨e, e2⟩
      · rw [hb_one (by omega) (by omega), e]; simp
      · rw [if_neg e, hb_one (n := cO t - 100) (by omega) (by omega), e2]; simp
    · exact clA_t L _ t j e h3 hT hj hc
end MB38
