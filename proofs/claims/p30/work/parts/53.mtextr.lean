/-! PURE PART 34: the reference writes a short text. -/
section MB33
def rk (k : Nat) : Int32 := if k < 3 then nI k else 4
theorem rk_1 (k : Nat) : (rk k = nI 1 ↔ k = 1) ∧ (rk k = nI 2 ↔ k = 2) := by
  unfold rk
  by_cases e : k < 3
  · rw [if_pos e]
    rcases (show k = 0 ∨ k = 1 ∨ k = 2 by omega) with rfl | rfl | rfl <;> exact ⟨by decide, by decide⟩
  · rw [if_neg e]
    exact ⟨⟨fun h => absurd h (by decide), fun h => by omega⟩, ⟨fun h => absurd h (by decide), fun h => by omega⟩⟩
def WRs (I : Mem) (T A K : List Nat) : Prop := TQ I T ∧ I 70 11 = nI A.length ∧ PI (I 78) (K.map rk) ∧ PI (I 82) (A.map nI)
end MB33
