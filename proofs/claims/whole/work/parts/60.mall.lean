/-! PURE PART 41: the start; all calls. -/
section MB40
def abs0 : Abs := (fun _ => 0, fun _ _ _ => 0, fun _ => [], 0)
theorem inv_0 : INV I0 R0 P0 := by
  have i0 : ∀ a, a ≠ 19 → ∀ k, I0 a k = 0 := fun a ha k => by unfold I0; rw [if_neg ha]
  have r6 : ∀ k, k < 6 → R0 6 k = some (30 + 5 * k) := fun k hk => by unfold R0; rw [if_pos rfl, if_pos hk]
  have r7 : ∀ k, k < 2 → R0 7 k = some (60 + 5 * k) := fun k hk => by unfold R0; rw [if_neg (by decide), if_pos rfl, if_pos hk]
  have rn : ∀ a k, a ≠ 6 → a ≠ 7 → R0 a k = none := fun a k h6 h7 => by unfold R0; rw [if_neg h6, if_neg h7]
  refine ⟨(abs0, [], fun _ => none, []), ⟨⟨fun t ht => i0 _ (by decide) _, fun t r c ht hr => absurd hr (Nat.not_lt_zero _), fun s hs => ?_, fun t ht => ?_, i0 _ (by decide) _⟩, ⟨i0 _ (by decide) _, Nat.zero_le _, fun j => j, fun j hj => ⟨hj, r6 j hj⟩, fun i j _ _ h => h, fun j A hj => by simp at hj⟩, fun j hj => ⟨r7 j hj, i0 _ (by decide) _⟩, i0 _ (by decide) _, Nat.zero_le _, fun j x hj => by simp at hj⟩, ⟨⟨fun t ht => i0 _ (by decide) _, fun t r c ht hr => absurd hr (Nat.not_lt_zero _), fun s hs => ⟨i0 _ (by decide) _, fun j x hj => ?_⟩, i0 _ (by decide) _⟩, ⟨i0 _ (by decide) _, fun j A hj => by simp at hj⟩, fun j hj => i0 _ (by decide) _, i0 _ (by decide) _, fun j x hj => by simp at hj⟩, ⟨fun t ht => Nat.zero_le _, fun t r c ht hr => absurd hr (Nat.not_lt_zero _), fun s hs => Or.inl rfl⟩, fun A hA => absurd hA (by simp), fun j A hj h => absurd h (by simp), fun x hx => absurd hx (by simp)⟩
  · rw [rn _ _ (by decide) (by decide)]; rfl
  · rw [rn _ _ (by decide) (by decide)]; rfl
  · have hj : ([] : List Nat)[j]? = some x := hj
    simp at hj
theorem st_all : STALL INV := ⟨st_add, st_change, st_drop, st_define, st_combine, st_check, st_remove, st_update, st_append, st_clearBuffer, st_firstError, st_undo, st_keep, st_goBack, st_cell, st_column, st_group, st_truth, st_rows, st_filter, st_letter, st_compare, st_certain, st_join, st_among, st_count, st_share⟩
end MB40
