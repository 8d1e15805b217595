/-! PURE PART 42: arguments of calls. -/
section MB61
/-- a number from 0 below n -/
def ixb (n : Nat) (x : Int32) : Bool := decide (¬ x < 0) && decide (x < nI n)
def vN (x : Int32) : Nat := x.toNatClampNeg
/-- a cell's value -/
def cvb (x : Int32) : Bool := decide (x = -1) || ixb 100 x
theorem vN_n {j : Nat} (h : j < 2 ^ 31) : vN (nI j) = j := nI_clamp h
theorem ix_in {n j : Nat} (hj : j < n) (hn : n < 1073741824) : ixb n (nI j) = true := by
  unfold ixb
  rw [decide_eq_true (nI_pos (by omega)), decide_eq_true (nI_lt hj (by omega))]; rfl
theorem ix_out {n : Nat} {x : Int32} (hn : n < 1073741824) (h : x < 0 ∨ nI n ≤ x) : ixb n x = false := by
  unfold ixb
  rcases h with h | h
  · rw [decide_eq_false (fun g => g h)]; rfl
  · rw [decide_eq_false (show ¬ x < nI n by rw [Int32.le_iff_toInt_le] at h; rw [fa_lt]; omega), Bool.and_false]
theorem ixs (x : Int32) {n : Nat} (hn : n < 1073741824) : (∃ j, j < n ∧ x = nI j ∧ ixb n x = true ∧ vN x = j) ∨ ((x < 0 ∨ nI n ≤ x) ∧ ixb n x = false) := by
  rcases pk_ix x (n := n) (by omega) with h | h | ⟨j, hj, rfl⟩
  · exact Or.inr ⟨Or.inl h, ix_out hn (Or.inl h)⟩
  · exact Or.inr ⟨Or.inr h, ix_out hn (Or.inr h)⟩
  · exact Or.inl ⟨j, hj, rfl, ix_in hj hn, vN_n (by omega)⟩
theorem a_req (x : Int32) {n z : Nat} (hn : n < 1073741824) : (∃ t, t < n ∧ x = nI t ∧ (if x < 0 then some (.inr z) else if x < nI n then some (.inl ()) else some (.inr z) : Option (Unit ⊕ Nat)) = some (.inl ()) ∧ ixb n x = true ∧ vN x = t) ∨ ((if x < 0 then some (.inr z) else if x < nI n then some (.inl ()) else some (.inr z) : Option (Unit ⊕ Nat)) = some (.inr z) ∧ ixb n x = false) := by
  have hq := x_req (x := x) (n := n) (z := z) hn
  rcases ixs x hn with ⟨j, hj, h, b, v⟩ | ⟨h, b⟩
  · exact Or.inl ⟨j, hj, h, hq.2.2 j hj h, b, v⟩
  · exact Or.inr ⟨h.elim hq.1 hq.2.1, b⟩
theorem a_tab (x : Int32) : (∃ t, t < 2 ∧ x = nI t ∧ f_X8_requireTable x = some (.inl ()) ∧ ixb 2 x = true ∧ vN x = t) ∨ (f_X8_requireTable x = some (.inr 0) ∧ ixb 2 x = false) := a_req x (n := 2) (z := 0) (by decide)
theorem a_col (x : Int32) : (∃ t, t < 4 ∧ x = nI t ∧ f_X8_requireColumn x = some (.inl ()) ∧ ixb 4 x = true ∧ vN x = t) ∨ (f_X8_requireColumn x = some (.inr 0) ∧ ixb 4 x = false) := a_req x (n := 4) (z := 0) (by decide)
theorem a_slot (x : Int32) : (∃ t, t < 6 ∧ x = nI t ∧ f_X8_requireSlot x = some (.inl ()) ∧ ixb 6 x = true ∧ vN x = t) ∨ (f_X8_requireSlot x = some (.inr 0) ∧ ixb 6 x = false) := a_req x (n := 6) (z := 0) (by decide)
theorem a_rng (x : Int32) {n : Nat} (hn : n < 1000) : (∃ j, j ≤ n ∧ x = nI j ∧ f_X8_requireRange x (nI n) = some (.inl ()) ∧ ixb (n + 1) x = true ∧ vN x = j) ∨ (f_X8_requireRange x (nI n) = some (.inr 1) ∧ ixb (n + 1) x = false) := by
  unfold f_X8_requireRange
  rcases ixs x (n := n + 1) (by omega) with ⟨j, hj, h, b, v⟩ | ⟨h, b⟩
  · refine Or.inl ⟨j, by omega, h, ?_, b, v⟩
    subst h
    rw [if_neg (nI_pos (by omega)), if_pos (nI_le (by omega) (by omega))]
  · refine Or.inr ⟨?_, b⟩
    rcases h with h | h
    · exact if_pos h
    · by_cases h0 : x < 0
      · rw [if_pos h0]
      · rw [if_neg h0, if_neg (by rw [Int32.le_iff_toInt_le, nI_toInt (by omega)] at h ⊢; omega)]
theorem a_val (x : Int32) : (cok x ∧ f_X8_requireCellValue x = some (.inl ()) ∧ cvb x = true) ∨ (f_X8_requireCellValue x = some (.inr 1) ∧ cvb x = false) := by
  unfold f_X8_requireCellValue cvb
  by_cases e : x = -1
  · subst e
    exact Or.inl ⟨Or.inl rfl, rfl, rfl⟩
  · rw [if_neg e, decide_eq_false e, Bool.false_or]
    rcases a_req x (n := 100) (z := 1) (by decide) with ⟨j, hj, h, e1, b, v⟩ | ⟨e1, b⟩
    · exact Or.inl ⟨Or.inr ⟨j, hj, h⟩, e1, b⟩
    · exact Or.inr ⟨e1, b⟩
theorem a_row (x1 x2 : Int32) {I : Mem} {R : Rem} {P : Pool} {A : Abs} (hS : CSt I R P 1 A) (hA : AOk A) : (∃ t r, t < 2 ∧ r < A.1 t ∧ x1 = nI t ∧ x2 = nI r ∧ f_X8_requireRow x1 x2 I = some (.inl ()) ∧ (ixb 2 x1 && ixb (A.1 (vN x1)) x2) = true ∧ vN x1 = t ∧ vN x2 = r) ∨ (f_X8_requireRow x1 x2 I = some (.inr 0) ∧ (ixb 2 x1 && ixb (A.1 (vN x1)) x2) = false) := by
  unfold f_X8_requireRow
  rcases a_tab x1 with ⟨t, ht, rfl, e1, b1, v1⟩ | ⟨e1, b1⟩
  · have h16 := hA.1 t ht
    rw [e1, b1, v1]
    simp only [Option.bind_some, sm_l]
    rw [k_cnt hS ht]
    simp only [Option.bind_some]
    rcases ixs x2 (n := A.1 t) (by omega) with ⟨j, hj, h, b, v⟩ | ⟨h, b⟩
    · refine Or.inl ⟨t, j, ht, hj, rfl, h, ?_, by rw [b]; rfl, rfl, v⟩
      subst h
      rw [if_neg (nI_pos (by omega)), if_pos (nI_lt hj (by omega))]
    · refine Or.inr ⟨?_, by rw [b]; rfl⟩
      rcases h with h | h
      · exact if_pos h
      · by_cases h0 : x2 < 0
        · rw [if_pos h0]
        · rw [if_neg h0, if_neg (by rw [Int32.le_iff_toInt_le] at h; rw [fa_lt]; omega)]
  · exact Or.inr ⟨by rw [e1]; rfl, by rw [b1]; rfl⟩
end MB61
