/-! PURE PART 21: group. -/
section MB20
/-- the group values in their order: the unknown first -/
def hgv (A : Abs) (t c u : Nat) : Bool := !decide (wc A t c (nI u - 1) (A.1 t) = 0)
theorem hgv_s {A : Abs} {t c w : Nat} (hA : AOk A) (ht : t < 2) : hgv A t c (w + 1) = hasv A t c w := by
  unfold hgv
  rw [nI_pred]
  have h := wc_0 (A := A) (t := t) (c := c) (w := w) hA ht
  cases e : hasv A t c w with
  | false => rw [h.2 e]; rfl
  | true => rw [decide_eq_false (fun h2 => by rw [h.1 h2] at e; exact absurd e (by decide))]; rfl
theorem hgv_if {α : Type} {A : Abs} {t c u : Nat} (x y : α) : (if wc A t c (nI u - 1) (A.1 t) = 0 then x else y) = if hgv A t c u = true then y else x := by
  unfold hgv
  by_cases e : wc A t c (nI u - 1) (A.1 t) = 0
  · rw [if_pos e, decide_eq_true e]; rfl
  · rw [if_neg e, decide_eq_false e]; rfl
def isGrp (h : Nat → Bool) (g : Nat) (z : Int32) : Prop := (∃ u, u < 101 ∧ h u = true ∧ cntb h u = g ∧ z = nI u - 1) ∨ (cntb h 101 ≤ g ∧ z = -2)
theorem cntb_mono {b : Nat → Bool} {m : Nat} : ∀ d, cntb b m ≤ cntb b (m + d)
  | 0 => Nat.le_refl _
  | d + 1 => by rw [← Nat.add_assoc, cntb_s]; have := cntb_mono (b := b) (m := m) d; omega
theorem cntb_lt {b : Nat → Bool} {m n : Nat} (h : m < n) (hb : b m = true) : cntb b m < cntb b n := by
  have h1 := cntb_s b m
  rw [if_pos hb] at h1
  have h2 := cntb_mono (b := b) (m := m + 1) (n - (m + 1))
  rw [show m + 1 + (n - (m + 1)) = n by omega] at h2
  omega
theorem grp_uq {h : Nat → Bool} {g : Nat} {z z2 : Int32} (h1 : isGrp h g z) (h2 : isGrp h g z2) : z = z2 := by
  rcases h1 with ⟨u, a1, a2, a3, rfl⟩ | ⟨a1, rfl⟩
  · rcases h2 with ⟨v, b1, b2, b3, rfl⟩ | ⟨b1, rfl⟩
    · rcases Nat.lt_trichotomy u v with e | e | e
      · have := cntb_lt e a2; omega
      · rw [e]
      · have := cntb_lt e b2; omega
    · have := cntb_lt a1 a2; omega
  · rcases h2 with ⟨v, b1, b2, b3, rfl⟩ | ⟨b1, rfl⟩
    · have := cntb_lt b1 b2; omega
    · rfl
theorem gv_ne {u : Nat} (hu : u < 2147483648) : ¬ nI u - 1 = -2 := by
  intro h
  have h1 : nI u - 1 + 1 = -2 + 1 := by rw [h]
  rw [Int32.sub_add_cancel, show (-2 : Int32) + 1 = -1 from rfl] at h1
  exact nI_pos (show u < 2 ^ 31 by omega) (by rw [h1]; decide)
/-! numbers about a group -/
theorem k_sumOf_L {I : Mem} {R : Rem} {P : Pool} {A : Abs} {t c : Nat} {y : Int32} (hS : CSt I R P 1 A) (hA : AOk A) (ht : t < 2) (hc : c < 4) : ∀ (d r n : Nat), r + d = A.1 t → d < n → f_X8_sumOf_L6 (nI t) y (nI c) I n (nI (sumb (hb y) A t c r)) (nI r) = some (nI (sumb (hb y) A t c (A.1 t)))
  | 0, r, n, hr, hn => by
    obtain ⟨n, rfl⟩ : ∃ m, n = m + 1 := ⟨n - 1, by omega⟩
    have e : r = A.1 t := by omega
    subst e
    have := hA.1 t ht
    unfold f_X8_sumOf_L6
    rw [bs_b (k_cnt hS ht), if_pos (nI_le (Nat.le_refl _) (by omega))]
  | d + 1, r, n, hr, hn => by
    obtain ⟨n, rfl⟩ : ∃ m, n = m + 1 := ⟨n - 1, by omega⟩
    have h16 := hA.1 t ht
    have ih := k_sumOf_L (y := y) hS hA ht hc d (r + 1) n (by omega) (by omega)
    rw [sumb_s] at ih
    unfold f_X8_sumOf_L6
    rw [bs_b (k_cnt hS ht), if_neg (nI_ge (by omega) (by omega)), bs_b (k_place t r c), bs_b (k_cell hS hA ht (show r < A.1 t by omega) hc), bs_b (k_hasBit y r), nI_1 r]
    by_cases e0 : hb y r = true
    · rw [e0, Bool.true_and] at ih
      rw [if_pos e0, if_neg (show ¬ (1 : Int32) = 0 by decide)]
      by_cases e : A.2.1 t r c = -1
      · rw [kn_f e, if_neg (show ¬ false = true by decide), Nat.add_zero] at ih
        rw [if_pos e]; exact ih
      · have hv := cok_vl (hA.2.1 t r c ht (by omega) hc) e
        have h3 : nI (sumb (hb y) A t c r) + A.2.1 t r c = nI (sumb (hb y) A t c r + vl (A.2.1 t r c)) := by
          rw [← nI_add]; exact congrArg (fun z => nI (sumb (hb y) A t c r) + z) hv.2
        rw [kn_t e, if_pos (show true = true from rfl)] at ih
        rw [if_neg e, h3]; exact ih
    · have e1 : hb y r = false := by simpa using e0
      rw [e1, Bool.false_and, if_neg (show ¬ false = true by decide), Nat.add_zero] at ih
      rw [if_neg e0, if_pos (show (0 : Int32) = 0 from rfl)]; exact ih
theorem k_sumOf {I : Mem} {R : Rem} {P : Pool} {A : Abs} {t c : Nat} {y : Int32} (hS : CSt I R P 1 A) (hA : AOk A) (ht : t < 2) (hc : c < 4) : f_X8_sumOf (nI t) y (nI c) I = some (nI (sumb (hb y) A t c (A.1 t))) := by
  have := hA.1 t ht
  unfold f_X8_sumOf
  rw [bs_b (show f_X8_sumOf_L6 (nI t) y (nI c) I fuel 0 0 = _ from k_sumOf_L hS hA ht hc (A.1 t) 0 fuel (by omega) (by unfold fuel; omega))]
def uk1 (A : Abs) (t : Nat) (y : Int32) (c r : Nat) : Bool := hb y r && decide (A.2.1 t r c = -1)
def ukN (A : Abs) (t : Nat) (y : Int32) (i : Nat) : Bool := uk1 A t y (i % 4) (i / 4)
theorem ukN_4 (A : Abs) (t : Nat) (y : Int32) : ∀ n, cntb (ukN A t y) (4 * n) = cntb (uk1 A t y 0) n + cntb (uk1 A t y 1) n + cntb (uk1 A t y 2) n + cntb (uk1 A t y 3) n
  | 0 => rfl
  | n + 1 => by
    have h : ∀ j, j < 4 → ukN A t y (4 * n + j) = uk1 A t y j n := fun j hj => by
      unfold ukN
      rw [show (4 * n + j) % 4 = j by omega, show (4 * n + j) / 4 = n by omega]
    rw [show 4 * (n + 1) = 4 * n + 3 + 1 by omega, cntb_s, show 4 * n + 3 = 4 * n + 2 + 1 by omega, cntb_s, show 4 * n + 2 = 4 * n + 1 + 1 by omega, cntb_s, cntb_s, ukN_4 A t y n, cntb_s, cntb_s, cntb_s, cntb_s, show 4 * n + 1 + 1 = 4 * n + 2 by omega, show 4 * n + 2 + 1 = 4 * n + 3 by omega, h 1 (by omega), h 2 (by omega), h 3 (by omega), show ukN A t y (4 * n) = uk1 A t y 0 n from h 0 (by omega)]
    omega
theorem and_msk {b b2 : Nat → Bool} {n : Nat} (hn : n ≤ 32) : msk b n &&& msk b2 n = msk (fun k => b k && b2 k) n := by
  refine eq_hb (fun i hi => ?_)
  rw [hb_and _ _ hi, hb_msk hn hi, hb_msk hn hi, hb_msk hn hi]
  cases decide (i < n) <;> simp
theorem k_ukc_L {I : Mem} {R : Rem} {P : Pool} {A : Abs} {t : Nat} {b : Nat → Bool} (hS : CSt I R P 1 A) (hA : AOk A) (ht : t < 2) : ∀ (d c n s : Nat), c + d = 4 → d < n → (c = 0 ∧ s = 0 ∨ c = 1 ∧ s = cntb (uk1 A t (msk b (A.1 t)) 0) (A.1 t) ∨ c = 2 ∧ s = cntb (uk1 A t (msk b (A.1 t)) 0) (A.1 t) + cntb (uk1 A t (msk b (A.1 t)) 1) (A.1 t) ∨ c = 3 ∧ s = cntb (uk1 A t (msk b (A.1 t)) 0) (A.1 t) + cntb (uk1 A t (msk b (A.1 t)) 1) (A.1 t) + cntb (uk1 A t (msk b (A.1 t)) 2) (A.1 t) ∨ c = 4 ∧ s = cntb (ukN A t (msk b (A.1 t))) (4 * A.1 t)) → f_X8_unknownCells_L5 (nI t) (msk b (A.1 t)) I n (nI s) (nI c) = some (nI (cntb (ukN A t (msk b (A.1 t))) (4 * A.1 t)))
  | 0, c, n, s, hc, hn, hs => by
    obtain ⟨n, rfl⟩ : ∃ m, n = m + 1 := ⟨n - 1, by omega⟩
    have e : c = 4 := by omega
    subst e
    unfold f_X8_unknownCells_L5
    rw [if_pos (show (4 : Int32) ≤ nI 4 by decide)]
    rcases hs with ⟨h, _⟩ | ⟨h, _⟩ | ⟨h, _⟩ | ⟨h, _⟩ | ⟨_, h⟩
    · omega
    · omega
    · omega
    · omega
    · rw [h]
  | d + 1, c, n, s, hc, hn, hs => by
    obtain ⟨n, rfl⟩ : ∃ m, n = m + 1 := ⟨n - 1, by omega⟩
    have h16 := hA.1 t ht
    have hu4 := ukN_4 A t (msk b (A.1 t)) (A.1 t)
    have hb : f_J6_bitCount_0f7a4 (msk b (A.1 t) &&& wc A t c (-1) (A.1 t)) = some (nI (cntb (uk1 A t (msk b (A.1 t)) c) (A.1 t))) := by
      unfold wc
      rw [and_msk (by omega), k_bitsM h16]
      refine congrArg (fun z => some (nI z)) (cntb_cg (fun k hk => ?_))
      unfold uk1
      rw [hb_msk (by omega) (by omega), decide_eq_true hk, Bool.true_and]
    unfold f_X8_unknownCells_L5
    rw [if_neg (show ¬ (4 : Int32) ≤ nI c from nI_ge (b := 4) (by omega) (by decide)), bs_b (k_rwc hS hA ht (show c < 4 by omega)), bs_b hb, nI_1, nI_add]
    refine k_ukc_L hS hA ht d (c + 1) n _ (by omega) (by omega) ?_
    rcases hs with ⟨h, h2⟩ | ⟨h, h2⟩ | ⟨h, h2⟩ | ⟨h, h2⟩ | ⟨h, h2⟩
    · subst h; exact Or.inr (Or.inl ⟨rfl, by omega⟩)
    · subst h; exact Or.inr (Or.inr (Or.inl ⟨rfl, by omega⟩))
    · subst h; exact Or.inr (Or.inr (Or.inr (Or.inl ⟨rfl, by omega⟩)))
    · subst h; exact Or.inr (Or.inr (Or.inr (Or.inr ⟨rfl, by omega⟩)))
    · omega
theorem k_ukc {I : Mem} {R : Rem} {P : Pool} {A : Abs} {t : Nat} {b : Nat → Bool} (hS : CSt I R P 1 A) (hA : AOk A) (ht : t < 2) : f_X8_unknownCells (nI t) (msk b (A.1 t)) I = some (nI (cntb (ukN A t (msk b (A.1 t))) (4 * A.1 t))) := by
  unfold f_X8_unknownCells
  rw [bs_b (show f_X8_unknownCells_L5 (nI t) (msk b (A.1 t)) I fuel 0 0 = _ from k_ukc_L hS hA ht 4 0 fuel 0 rfl (by unfold fuel; omega) (Or.inl ⟨rfl, rfl⟩))]
def grpV (A : Abs) (t c w : Nat) (z : Int32) : Int32 :=
  if w = 0 then z else if w = 1 then wc A t c z (A.1 t) else if w = 6 then nI (cntb (fun r => decide (A.2.1 t r c = z)) (A.1 t)) else if w = 7 then nI (cntb (ukN A t (wc A t c z (A.1 t))) (4 * A.1 t)) else nI (sumb (hb (wc A t c z (A.1 t))) A t (w - 2) (A.1 t))
theorem k_grpN {I : Mem} {R : Rem} {P : Pool} {A : Abs} {t c w : Nat} {z : Int32} (hS : CSt I R P 1 A) (hA : AOk A) (ht : t < 2) (hw : w ≤ 7) : f_X8_groupNumber (nI t) (wc A t c z (A.1 t)) z (nI w) I = some (grpV A t c w z) := by
  have h6 : f_J6_bitCount_0f7a4 (wc A t c z (A.1 t)) = some (nI (cntb (fun r => decide (A.2.1 t r c = z)) (A.1 t))) := k_bitsM (hA.1 t ht)
  have h7 : f_X8_unknownCells (nI t) (wc A t c z (A.1 t)) I = some (nI (cntb (ukN A t (wc A t c z (A.1 t))) (4 * A.1 t))) := k_ukc hS hA ht
  have h2 := k_sumOf (y := wc A t c z (A.1 t)) hS hA ht (show 0 < 4 by decide)
  have h3 := k_sumOf (y := wc A t c z (A.1 t)) hS hA ht (show 1 < 4 by decide)
  have h4 := k_sumOf (y := wc A t c z (A.1 t)) hS hA ht (show 2 < 4 by decide)
  have h5 := k_sumOf (y := wc A t c z (A.1 t)) hS hA ht (show 3 < 4 by decide)
  unfold f_X8_groupNumber
  rcases (show w = 0 ∨ w = 1 ∨ w = 2 ∨ w = 3 ∨ w = 4 ∨ w = 5 ∨ w = 6 ∨ w = 7 by omega) with rfl | rfl | rfl | rfl | rfl | rfl | rfl | rfl
  · rw [if_pos (show nI 0 = 0 from rfl)]; rfl
  · rw [if_neg (show ¬ nI 1 = 0 by decide), if_pos (show nI 1 = 1 from rfl)]; rfl
  · rw [if_neg (show ¬ nI 2 = 0 by decide), if_neg (show ¬ nI 2 = 1 by decide), if_pos (show nI 2 = 2 from rfl), show nI 2 - 2 = nI 0 from rfl, bs_b h2]; rfl
  · rw [if_neg (show ¬ nI 3 = 0 by decide), if_neg (show ¬ nI 3 = 1 by decide), if_neg (show ¬ nI 3 = 2 by decide), if_pos (show nI 3 = 3 from rfl), show nI 3 - 2 = nI 1 from rfl, bs_b h3]; rfl
  · rw [if_neg (show ¬ nI 4 = 0 by decide), if_neg (show ¬ nI 4 = 1 by decide), if_neg (show ¬ nI 4 = 2 by decide), if_neg (show ¬ nI 4 = 3 by decide), if_pos (show nI 4 = 4 from rfl), show nI 4 - 2 = nI 2 from rfl, bs_b h4]; rfl
  · rw [if_neg (show ¬ nI 5 = 0 by decide), if_neg (show ¬ nI 5 = 1 by decide), if_neg (show ¬ nI 5 = 2 by decide), if_neg (show ¬ nI 5 = 3 by decide), if_neg (show ¬ nI 5 = 4 by decide), if_pos (show nI 5 = 5 from rfl), show nI 5 - 2 = nI 3 from rfl, bs_b h5]; rfl
  · rw [if_neg (show ¬ nI 6 = 0 by decide), if_neg (show ¬ nI 6 = 1 by decide), if_neg (show ¬ nI 6 = 2 by decide), if_neg (show ¬ nI 6 = 3 by decide), if_neg (show ¬ nI 6 = 4 by decide), if_neg (show ¬ nI 6 = 5 by decide), if_pos (show nI 6 = 6 from rfl), bs_b h6]; rfl
  · rw [if_neg (show ¬ nI 7 = 0 by decide), if_neg (show ¬ nI 7 = 1 by decide), if_neg (show ¬ nI 7 = 2 by decide), if_neg (show ¬ nI 7 = 3 by decide), if_neg (show ¬ nI 7 = 4 by decide), if_neg (show ¬ nI 7 = 5 by decide), if_neg (show ¬ nI 7 = 6 by decide), if_pos (show nI 7 = 7 from rfl), bs_b h7]; rfl
theorem k_group_L {I : Mem} {R : Rem} {P : Pool} {A : Abs} {t c g w : Nat} (hS : CSt I R P 1 A) (hA : AOk A) (ht : t < 2) (hc : c < 4) (hw : w ≤ 7) (hg : g < 2147483648) : ∀ (d u n : Nat), u + d = 101 → d < n → cntb (hgv A t c) u ≤ g → ∃ q z, f_X8_group_L35 (nI t) (nI c) (nI g) (nI w) I n (nI (cntb (hgv A t c) u)) (nI u - 1) = some q ∧ isGrp (hgv A t c) g z ∧ (z = -2 ∧ q = .inr () ∨ ¬ z = -2 ∧ q = .inl (.inl (grpV A t c w z)))
  | 0, u, n, hu, hn, hk => by
    obtain ⟨n, rfl⟩ : ∃ m, n = m + 1 := ⟨n - 1, by omega⟩
    have e : u = 101 := by omega
    subst e
    refine ⟨.inr (), -2, ?_, Or.inr ⟨hk, rfl⟩, Or.inl ⟨rfl, rfl⟩⟩
    unfold f_X8_group_L35
    rw [if_pos (show (100 : Int32) ≤ nI 101 - 1 by decide)]
  | d + 1, u, n, hu, hn, hk => by
    obtain ⟨n, rfl⟩ : ∃ m, n = m + 1 := ⟨n - 1, by omega⟩
    have hcl := cntb_le (hgv A t c) u
    have hlt : ¬ (100 : Int32) ≤ nI u - 1 := by
      rcases Nat.eq_zero_or_pos u with h | h
      · subst h; decide
      · obtain ⟨v, rfl⟩ : ∃ v, u = v + 1 := ⟨u - 1, by omega⟩
        rw [nI_pred]; exact nI_ge (b := 100) (by omega) (by decide)
    have hs := cntb_s (hgv A t c) u
    unfold f_X8_group_L35
    rw [if_neg hlt, bs_b (k_rwc hS hA ht hc), hgv_if, show nI u - 1 + 1 = nI (u + 1) - 1 by rw [nI_pred, Int32.sub_add_cancel]]
    by_cases e : hgv A t c u = true
    · rw [if_pos e] at hs
      rw [if_pos e]
      by_cases e2 : cntb (hgv A t c) u = g
      · rw [if_pos (show nI (cntb (hgv A t c) u) = nI g by rw [e2]), bs_b (k_grpN hS hA ht hw)]
        exact ⟨_, nI u - 1, rfl, Or.inl ⟨u, by omega, e, e2, rfl⟩, Or.inr ⟨gv_ne (by omega), rfl⟩⟩
      · rw [if_neg (show ¬ nI (cntb (hgv A t c) u) = nI g from fun h => e2 (by rw [nI_eq (by omega) (by omega)] at h; exact h)), nI_1, ← hs]
        exact k_group_L hS hA ht hc hw hg d (u + 1) n (by omega) (by omega) (by omega)
    · rw [if_neg e] at hs
      have hs2 : cntb (hgv A t c) u = cntb (hgv A t c) (u + 1) := by omega
      rw [if_neg e, hs2]
      exact k_group_L hS hA ht hc hw hg d (u + 1) n (by omega) (by omega) (by omega)
def grpR (A : Abs) (t c w : Nat) (z : Int32) : Int32 := if z = -2 then -2 else grpV A t c w z
theorem k_group {I : Mem} {R : Rem} {P : Pool} {A : Abs} {t c g w : Nat} (hS : CSt I R P 1 A) (hA : AOk A) (ht : t < 2) (hc : c < 4) (hw : w ≤ 7) (hg : g < 2147483648) (e0 : f_X8_requireTable (nI t) = some (.inl ())) (e1 : f_X8_requireColumn (nI c) = some (.inl ())) (e2 : f_X8_requireRange (nI w) 7 = some (.inl ())) : ∃ z, f_X8_group (nI t) (nI c) (nI g) (nI w) I = some (.inl (grpR A t c w z)) ∧ isGrp (hgv A t c) g z := by
  obtain ⟨q, z, q1, q2, q3⟩ := k_group_L hS hA ht hc hw hg 101 0 fuel rfl (by unfold fuel; omega) (Nat.zero_le _)
  refine ⟨z, ?_, q2⟩
  unfold f_X8_group
  rw [bs_l e0, bs_l e1, if_pos (show (0 : Int32) ≤ nI g from nI_le (a := 0) (by omega) (by omega)), bs_l e2]
  have q1 : f_X8_group_L35 (nI t) (nI c) (nI g) (nI w) I fuel 0 (-1) = some q := q1
  unfold grpR
  rcases q3 with ⟨h, rfl⟩ | ⟨h, rfl⟩
  · rw [bs_r q1, if_pos h]
  · rw [bs_l q1, if_neg h]
end MB20
