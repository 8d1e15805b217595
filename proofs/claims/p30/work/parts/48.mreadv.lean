/-! PURE PART 29: the reference reads a whole text. -/
section MB28
theorem head_c {B : List Nat} {i x : Nat} (e : (B.drop i).head? = some x) : ∃ T, B.drop i = x :: T := by
  cases hh : B.drop i with
  | nil => rw [hh] at e; exact absurd e (by simp)
  | cons y T2 => rw [hh] at e; exact ⟨T2, by rw [show y = x from Option.some.inj e]⟩
end MB28
