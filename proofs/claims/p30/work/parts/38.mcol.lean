/-! PURE PART 19: columns. -/
section MB18
theorem anyb_iff (b : Nat → Bool) : ∀ n, anyb b n = true ↔ ∃ r, r < n ∧ b r = true
  | 0 => by
    constructor
    · intro h; exact absurd h (show ¬ false = true by decide)
    · rintro ⟨r, h, _⟩; omega
  | n + 1 => by
    rw [anyb_s, Bool.or_eq_true, anyb_iff b n]
    constructor
    · rintro (⟨r, h1, h2⟩ | h)
      · exact ⟨r, by omega, h2⟩
      · exact ⟨n, by omega, h⟩
    · rintro ⟨r, h1, h2⟩
      by_cases e : r = n
      · subst e; exact Or.inr h2
      · exact Or.inl ⟨r, by omega, h2⟩
theorem anyb_ff {b : Nat → Bool} {n : Nat} (h : anyb b n = false) : ∀ r, r < n → b r = false := by
  intro r hr
  cases hb : b r with
  | false => rfl
  | true => rw [(anyb_iff b n).mpr ⟨r, hr, hb⟩] at h; exact absurd h (by decide)
theorem msk_ff {b : Nat → Bool} : ∀ {n : Nat}, (∀ r, r < n → b r = false) → msk b n = 0
  | 0, _ => rfl
  | n + 1, h => by
    rw [show msk b (n + 1) = if b n = true then msk b n ||| ((1 : Int32) <<< (nI n &&& 31)) else msk b n from rfl, if_neg (by rw [h n (by omega)]; decide)]
    exact msk_ff (fun r hr => h r (by omega))
theorem msk_0 {b : Nat → Bool} {n : Nat} (hn : n ≤ 32) : (msk b n = 0 → anyb b n = false) ∧ (anyb b n = false → msk b n = 0) := by
  refine ⟨fun h => ?_, fun h => msk_ff (anyb_ff h)⟩
  cases hb : anyb b n with
  | false => rfl
  | true =>
    obtain ⟨r, h1, h2⟩ := (anyb_iff b n).mp hb
    have h3 := hb_msk (b := b) hn (show r < 32 by omega)
    rw [h, hb_0 (by omega), h2, decide_eq_true h1] at h3
    exact absurd h3 (by decide)
def vl (x : Int32) : Nat := x.toNatClampNeg
theorem vl_n {v : Nat} (h : v < 2147483648) : vl (nI v) = v := nI_clamp h
theorem cok_vl {x : Int32} (h : cok x) (hx : ¬ x = -1) : vl x < 100 ∧ x = nI (vl x) := by
  rcases h with h | ⟨v, hv, rfl⟩
  · exact absurd h hx
  · rw [vl_n (by omega)]; exact ⟨hv, rfl⟩
def wc (A : Abs) (t c : Nat) (x : Int32) (n : Nat) : Int32 := msk (fun r => decide (A.2.1 t r c = x)) n
theorem wc_s (A : Abs) (t c : Nat) (x : Int32) (n : Nat) : wc A t c x (n + 1) = if A.2.1 t n c = x then wc A t c x n ||| ((1 : Int32) <<< (nI n &&& 31)) else wc A t c x n := by
  unfold wc
  rw [show msk (fun r => decide (A.2.1 t r c = x)) (n + 1) = if decide (A.2.1 t n c = x) = true then msk (fun r => decide (A.2.1 t r c = x)) n ||| ((1 : Int32) <<< (nI n &&& 31)) else msk (fun r => decide (A.2.1 t r c = x)) n from rfl]
  by_cases e : A.2.1 t n c = x
  · rw [if_pos e, if_pos (decide_eq_true e)]
  · rw [if_neg e, if_neg (by simp [e])]
theorem k_rwc_L {I : Mem} {R : Rem} {P : Pool} {A : Abs} {t c : Nat} {x : Int32} (hS : CSt I R P 1 A) (hA : AOk A) (ht : t < 2) (hc : c < 4) : ∀ (d r n : Nat), r + d = A.1 t → d < n → f_X8_rowsWithCell_L6 (nI t) (nI c) x I n (wc A t c x r) (nI r) = some (wc A t c x (A.1 t))
  | 0, r, n, hr, hn => by
    obtain ⟨n, rfl⟩ : ∃ m, n = m + 1 := ⟨n - 1, by omega⟩
    have e : r = A.1 t := by omega
    subst e
    have := hA.1 t ht
    unfold f_X8_rowsWithCell_L6
    rw [bs_b (k_cnt hS ht), if_pos (nI_le (Nat.le_refl _) (by omega))]
  | d + 1, r, n, hr, hn => by
    obtain ⟨n, rfl⟩ : ∃ m, n = m + 1 := ⟨n - 1, by omega⟩
    have h16 := hA.1 t ht
    have ih := k_rwc_L (x := x) hS hA ht hc d (r + 1) n (by omega) (by omega)
    unfold f_X8_rowsWithCell_L6
    rw [bs_b (k_cnt hS ht), if_neg (nI_ge (by omega) (by omega)), bs_b (k_place t r c), bs_b (k_cell hS hA ht (show r < A.1 t by omega) hc), nI_1]
    rw [wc_s] at ih
    by_cases e : A.2.1 t r c = x
    · rw [if_pos e] at ih ⊢; exact ih
    · rw [if_neg e] at ih ⊢; exact ih
theorem k_rwc {I : Mem} {R : Rem} {P : Pool} {A : Abs} {t c : Nat} {x : Int32} (hS : CSt I R P 1 A) (hA : AOk A) (ht : t < 2) (hc : c < 4) : f_X8_rowsWithCell (nI t) (nI c) x I = some (wc A t c x (A.1 t)) := by
  have := hA.1 t ht
  unfold f_X8_rowsWithCell
  rw [bs_b (show f_X8_rowsWithCell_L6 (nI t) (nI c) x I fuel 0 0 = _ from k_rwc_L hS hA ht hc (A.1 t) 0 fuel (by omega) (by unfold fuel; omega))]
/-- a value stands in the column -/
def hasv (A : Abs) (t c w : Nat) : Bool := anyb (fun r => decide (A.2.1 t r c = nI w)) (A.1 t)
theorem wc_0 {A : Abs} {t c w : Nat} (hA : AOk A) (ht : t < 2) : (wc A t c (nI w) (A.1 t) = 0 → hasv A t c w = false) ∧ (hasv A t c w = false → wc A t c (nI w) (A.1 t) = 0) := msk_0 (by have := hA.1 t ht; omega)
theorem wc_if {α : Type} {A : Abs} {t c w : Nat} (hA : AOk A) (ht : t < 2) (x y : α) : (if wc A t c (nI w) (A.1 t) = 0 then x else y) = if hasv A t c w = true then y else x := by
  by_cases e : hasv A t c w = true
  · rw [if_pos e, if_neg (fun h => by rw [(wc_0 hA ht).1 h] at e; exact absurd e (by decide))]
  · rw [if_neg e, if_pos ((wc_0 hA ht).2 (by simpa using e))]
theorem k_diff_L {I : Mem} {R : Rem} {P : Pool} {A : Abs} {t c : Nat} (hS : CSt I R P 1 A) (hA : AOk A) (ht : t < 2) (hc : c < 4) : ∀ (d w n : Nat), w + d = 100 → d < n → f_X8_differentValues_L5 (nI t) (nI c) I n (nI (cntb (hasv A t c) w)) (nI w) = some (nI (cntb (hasv A t c) 100))
  | 0, w, n, hw, hn => by
    obtain ⟨n, rfl⟩ : ∃ m, n = m + 1 := ⟨n - 1, by omega⟩
    have e : w = 100 := by omega
    subst e
    unfold f_X8_differentValues_L5
    rw [if_pos (show (100 : Int32) ≤ nI 100 by decide)]
  | d + 1, w, n, hw, hn => by
    obtain ⟨n, rfl⟩ : ∃ m, n = m + 1 := ⟨n - 1, by omega⟩
    have ih := k_diff_L hS hA ht hc d (w + 1) n (by omega) (by omega)
    rw [cntb_s] at ih
    unfold f_X8_differentValues_L5
    rw [if_neg (show ¬ (100 : Int32) ≤ nI w from nI_ge (b := 100) (by omega) (by decide)), bs_b (k_rwc hS hA ht hc), wc_if hA ht, nI_1 w]
    by_cases e : hasv A t c w = true
    · rw [if_pos e] at ih ⊢; rw [nI_1]; exact ih
    · rw [if_neg e] at ih ⊢; exact ih
theorem k_diff {I : Mem} {R : Rem} {P : Pool} {A : Abs} {t c : Nat} (hS : CSt I R P 1 A) (hA : AOk A) (ht : t < 2) (hc : c < 4) : f_X8_differentValues (nI t) (nI c) I = some (nI (cntb (hasv A t c) 100)) := by
  unfold f_X8_differentValues
  rw [bs_b (show f_X8_differentValues_L5 (nI t) (nI c) I fuel 0 0 = _ from k_diff_L hS hA ht hc 100 0 fuel rfl (by unfold fuel; omega))]
/-! the first value from a on; the last below m -/
def isFst (h : Nat → Bool) (a : Nat) (z : Int32) : Prop := (∃ w, a ≤ w ∧ w < 100 ∧ h w = true ∧ (∀ j, a ≤ j → j < w → h j = false) ∧ z = nI w) ∨ ((∀ j, a ≤ j → j < 100 → h j = false) ∧ z = -2)
def isLst (h : Nat → Bool) (z : Int32) : Prop := (∃ w, w < 100 ∧ h w = true ∧ (∀ j, w < j → j < 100 → h j = false) ∧ z = nI w) ∨ ((∀ j, j < 100 → h j = false) ∧ z = -2)
theorem cntb_c {b : Nat → Bool} {m : Nat} : ∀ d, (∀ k, m ≤ k → k < m + d → b k = false) → cntb b (m + d) = cntb b m
  | 0, _ => rfl
  | d + 1, h => by rw [← Nat.add_assoc, cntb_s, if_neg (by rw [h (m + d) (by omega) (by omega)]; decide), Nat.add_zero]; exact cntb_c d (fun k h1 h2 => h k h1 (by omega))
end MB18
