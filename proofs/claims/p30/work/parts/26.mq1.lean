/-! PURE PART 7: what the law wants of cell, truth, compare; slots and checks. -/
section MB6
theorem upL0 (f : Nat → Int64) (x : Int64) : vp_updL f 0 x 0 = x := by simp [vp_updL]
theorem s_slot {I : Mem} {R : Rem} {P : Pool} {A : Abs} {s : Nat} (h : CSt I R P 1 A) (hA : AOk A) (hs : s < 6) : (rdq R P 4 6 2 (nI s) = some none ∧ A.2.2.1 s = []) ∨ ∃ k, rdq R P 4 6 2 (nI s) = some (some k) ∧ Kd P k = 2 ∧ FObj I R P k (A.2.2.1 s) ∧ fV (A.2.2.1 s) := by
  have h1 := h.2.2.1 s hs
  cases ho : R (1 + 3) s with
  | none => rw [ho] at h1; exact Or.inl ⟨rdq_n s rfl hs (by decide) ho, h1⟩
  | some k =>
    rw [ho] at h1
    exact Or.inr ⟨k, rdq_s s rfl hs (by decide) ho h1.2.2.1, h1.2.2.1, h1.2, (hA.2.2 s (by omega)).resolve_left h1.1⟩
theorem s_check {I : Mem} {R : Rem} {P : Pool} {A : Abs} {t : Nat} (h : CSt I R P 1 A) (hA : AOk A) (ht : t < 2) : (rdq R P 5 2 2 (nI t) = some none ∧ A.2.2.1 (6 + t) = []) ∨ ∃ k, rdq R P 5 2 2 (nI t) = some (some k) ∧ Kd P k = 2 ∧ FObj I R P k (A.2.2.1 (6 + t)) ∧ fV (A.2.2.1 (6 + t)) := by
  have h1 := h.2.2.2.1 t ht
  cases ho : R (1 + 4) t with
  | none => rw [ho] at h1; exact Or.inl ⟨rdq_n t rfl ht (by decide) ho, h1⟩
  | some k =>
    rw [ho] at h1
    exact Or.inr ⟨k, rdq_s t rfl ht (by decide) ho h1.2.2.1, h1.2.2.1, h1.2, (hA.2.2 (6 + t) (by omega)).resolve_left h1.1⟩
theorem fV_len {L : List Nat} (h : fV L) : 0 < L.length ∧ L.length < 2 ^ 31 ∧ ¬ nI L.length = 0 := by
  have h1 := fV_ne h
  have h2 := h.2.2.1
  have h3 : 0 < L.length := List.length_pos_iff.mpr h1
  exact ⟨h3, by omega, nI_ne0 h3 (by omega)⟩
theorem sub_SC1 : ∀ a ∈ [10, 12, 13, 14, 15], a ∈ SC := by decide
end MB6
