/-! PURE PART 35: filter, letter. -/
section MB34
theorem bo_n {β : Type} {x : Option (Option Nat)} {a : Option β} {f : Nat → Option β} (h : x = some none) : (x.bind fun o => oq o a f) = a := by rw [h]; rfl
theorem bo_s {β : Type} {x : Option (Option Nat)} {k : Nat} {a : Option β} {f : Nat → Option β} (h : x = some (some k)) : (x.bind fun o => oq o a f) = f k := by rw [h]; rfl
end MB34
