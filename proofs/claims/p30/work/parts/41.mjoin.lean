/-! PURE PART 22: join, among. -/
section MB21
def gpr (A : Abs) (t c t2 c2 i s : Nat) : Bool := kn A t c i && decide (A.2.1 t2 s c2 = A.2.1 t i c)
/-- rows that are partners: i of the first table, s of the second -/
def prt (A : Abs) (l r i s : Nat) : Bool := gpr A 0 l 1 r i s
theorem gpr_sw (A : Abs) (l r i s : Nat) : gpr A 1 r 0 l s i = prt A l r i s := by
  unfold prt gpr
  by_cases e : A.2.1 1 s r = A.2.1 0 i l
  · rw [decide_eq_true e, decide_eq_true e.symm, Bool.and_true, Bool.and_true]
    unfold kn; rw [e]
  · rw [decide_eq_false e, decide_eq_false (fun h => e h.symm), Bool.and_false, Bool.and_false]
theorem k_partners {I : Mem} {R : Rem} {P : Pool} {A : Abs} {t c t2 c2 i : Nat} (hS : CSt I R P 1 A) (hA : AOk A) (ht : t < 2) (hc : c < 4) (ht2 : t2 < 2) (hc2 : c2 < 4) (hi : i < A.1 t) : f_X8_partnersOf (nI t) (nI i) (nI c) (nI t2) (nI c2) I = some (msk (gpr A t c t2 c2 i) (A.1 t2)) := by
  unfold f_X8_partnersOf
  rw [bs_b (k_place t i c), bs_b (k_cell hS hA ht hi hc)]
  by_cases e : A.2.1 t i c = -1
  · rw [if_pos e]
    refine congrArg some (msk_ff (fun r hr => ?_)).symm
    unfold gpr; rw [kn_f e]; rfl
  · rw [if_neg e, bs_b (k_rwc hS hA ht2 hc2)]
    refine congrArg some (msk_cg (fun r hr => ?_))
    unfold gpr; rw [kn_t e, Bool.true_and]
theorem cntb_add (b : Nat → Bool) (m : Nat) : ∀ d, cntb b (m + d) = cntb b m + cntb (fun k => b (m + k)) d
  | 0 => rfl
  | d + 1 => by rw [← Nat.add_assoc, cntb_s, cntb_s, cntb_add b m d, Nat.add_assoc]
def lin (A : Abs) (l r p : Nat) : Bool := prt A l r (p / A.1 1) (p % A.1 1)
theorem lin_at {A : Abs} {l r i s : Nat} (hs : s < A.1 1) : lin A l r (A.1 1 * i + s) = prt A l r i s := by
  unfold lin
  rw [Nat.mul_add_div (by omega), Nat.div_eq_of_lt hs, Nat.add_zero, Nat.mul_add_mod, Nat.mod_eq_of_lt hs]
theorem lin_row {A : Abs} {l r i : Nat} : cntb (lin A l r) (A.1 1 * (i + 1)) = cntb (lin A l r) (A.1 1 * i) + cntb (prt A l r i) (A.1 1) := by
  rw [Nat.mul_succ, cntb_add]
  congr 1
  exact cntb_cg (fun k hk => lin_at hk)
theorem lin_b {A : Abs} {l r i : Nat} (hA : AOk A) (hi : i ≤ A.1 0) : cntb (lin A l r) (A.1 1 * i) ≤ 256 := by
  have h1 := hA.1 0 (by decide)
  have h2 := hA.1 1 (by decide)
  have h3 : A.1 1 * i ≤ 16 * 16 := Nat.mul_le_mul h2 (by omega)
  have := cntb_le (lin A l r) (A.1 1 * i)
  omega
theorem k_pc_L {I : Mem} {R : Rem} {P : Pool} {A : Abs} {l r : Nat} (hS : CSt I R P 1 A) (hA : AOk A) (hl : l < 4) (hr : r < 4) : ∀ (d i n : Nat), i + d = A.1 0 → d < n → f_X8_pairCount_L5 (nI l) (nI r) I n (nI (cntb (lin A l r) (A.1 1 * i))) (nI i) = some (nI (cntb (lin A l r) (A.1 1 * A.1 0)))
  | 0, i, n, hi, hn => by
    obtain ⟨n, rfl⟩ : ∃ m, n = m + 1 := ⟨n - 1, by omega⟩
    have e : i = A.1 0 := by omega
    subst e
    have := hA.1 0 (by decide)
    unfold f_X8_pairCount_L5
    rw [bs_b (show rd I 3 2 0 = some (nI (A.1 0)) from k_cnt hS (show 0 < 2 by decide)), if_pos (nI_le (Nat.le_refl _) (by omega))]
  | d + 1, i, n, hi, hn => by
    obtain ⟨n, rfl⟩ : ∃ m, n = m + 1 := ⟨n - 1, by omega⟩
    have h16 := hA.1 0 (by decide)
    unfold f_X8_pairCount_L5
    rw [bs_b (show rd I 3 2 0 = some (nI (A.1 0)) from k_cnt hS (show 0 < 2 by decide)), if_neg (nI_ge (by omega) (by omega)), bs_b (show f_X8_partnersOf 0 (nI i) (nI l) 1 (nI r) I = some (msk (prt A l r i) (A.1 1)) from k_partners hS hA (show 0 < 2 by decide) hl (show 1 < 2 by decide) hr (show i < A.1 0 by omega)), bs_b (k_bitsM (hA.1 1 (by decide))), nI_1, nI_add, ← lin_row]
    exact k_pc_L hS hA hl hr d (i + 1) n (by omega) (by omega)
theorem k_rwp_L {I : Mem} {R : Rem} {P : Pool} {A : Abs} {t c t2 c2 : Nat} (hS : CSt I R P 1 A) (hA : AOk A) (ht : t < 2) (hc : c < 4) (ht2 : t2 < 2) (hc2 : c2 < 4) : ∀ (d i n : Nat), i + d = A.1 t → d < n → f_X8_rowsWithoutPartner_L6 (nI t) (nI c) (nI t2) (nI c2) I n (msk (fun i => !anyb (gpr A t c t2 c2 i) (A.1 t2)) i) (nI i) = some (msk (fun i => !anyb (gpr A t c t2 c2 i) (A.1 t2)) (A.1 t))
  | 0, i, n, hi, hn => by
    obtain ⟨n, rfl⟩ : ∃ m, n = m + 1 := ⟨n - 1, by omega⟩
    have e : i = A.1 t := by omega
    subst e
    have := hA.1 t ht
    unfold f_X8_rowsWithoutPartner_L6
    rw [bs_b (k_cnt hS ht), if_pos (nI_le (Nat.le_refl _) (by omega))]
  | d + 1, i, n, hi, hn => by
    obtain ⟨n, rfl⟩ : ∃ m, n = m + 1 := ⟨n - 1, by omega⟩
    have h16 := hA.1 t ht
    have h162 := hA.1 t2 ht2
    have ih := k_rwp_L hS hA ht hc ht2 hc2 d (i + 1) n (by omega) (by omega)
    rw [show msk (fun i => !anyb (gpr A t c t2 c2 i) (A.1 t2)) (i + 1) = if (!anyb (gpr A t c t2 c2 i) (A.1 t2)) = true then msk (fun i => !anyb (gpr A t c t2 c2 i) (A.1 t2)) i ||| ((1 : Int32) <<< (nI i &&& 31)) else msk (fun i => !anyb (gpr A t c t2 c2 i) (A.1 t2)) i from rfl] at ih
    have hm := msk_0 (b := gpr A t c t2 c2 i) (n := A.1 t2) (by omega)
    unfold f_X8_rowsWithoutPartner_L6
    rw [bs_b (k_cnt hS ht), if_neg (nI_ge (by omega) (by omega)), bs_b (k_partners hS hA ht hc ht2 hc2 (show i < A.1 t by omega)), nI_1]
    by_cases e : msk (gpr A t c t2 c2 i) (A.1 t2) = 0
    · rw [if_pos (show (!anyb (gpr A t c t2 c2 i) (A.1 t2)) = true by rw [hm.1 e]; rfl)] at ih
      rw [if_pos e]; exact ih
    · rw [if_neg (show ¬ (!anyb (gpr A t c t2 c2 i) (A.1 t2)) = true from fun h => e (hm.2 (by simpa using h)))] at ih
      rw [if_neg e]; exact ih
theorem k_rwp {I : Mem} {R : Rem} {P : Pool} {A : Abs} {t c t2 c2 : Nat} (hS : CSt I R P 1 A) (hA : AOk A) (ht : t < 2) (hc : c < 4) (ht2 : t2 < 2) (hc2 : c2 < 4) : f_X8_rowsWithoutPartner (nI t) (nI c) (nI t2) (nI c2) I = some (msk (fun i => !anyb (gpr A t c t2 c2 i) (A.1 t2)) (A.1 t)) := by
  have := hA.1 t ht
  unfold f_X8_rowsWithoutPartner
  rw [bs_b (show f_X8_rowsWithoutPartner_L6 (nI t) (nI c) (nI t2) (nI c2) I fuel 0 0 = _ from k_rwp_L hS hA ht hc ht2 hc2 (A.1 t) 0 fuel (by omega) (by unfold fuel; omega))]
/-! the pair with a number -/
def isPr (A : Abs) (l r k : Nat) (z : Int32) : Prop := (∃ i s, i < A.1 0 ∧ s < A.1 1 ∧ prt A l r i s = true ∧ cntb (lin A l r) (A.1 1 * i + s) = k ∧ z = nI (100 * i + s)) ∨ (cntb (lin A l r) (A.1 1 * A.1 0) ≤ k ∧ z = -2)
theorem lin_lt {A : Abs} {i s : Nat} (hi : i < A.1 0) (hs : s < A.1 1) : A.1 1 * i + s < A.1 1 * A.1 0 := by
  have h : A.1 1 * (i + 1) ≤ A.1 1 * A.1 0 := Nat.mul_le_mul_left _ hi
  rw [Nat.mul_succ] at h
  omega
theorem pr_uq {A : Abs} {l r k : Nat} {z z2 : Int32} (h1 : isPr A l r k z) (h2 : isPr A l r k z2) : z = z2 := by
  rcases h1 with ⟨i, s, a1, a2, a3, a4, rfl⟩ | ⟨a1, rfl⟩
  · have a5 := lin_at (A := A) (l := l) (r := r) (i := i) a2
    rw [a3] at a5
    rcases h2 with ⟨i2, s2, b1, b2, b3, b4, rfl⟩ | ⟨b1, rfl⟩
    · have b5 := lin_at (A := A) (l := l) (r := r) (i := i2) b2
      rw [b3] at b5
      have hp : A.1 1 * i + s = A.1 1 * i2 + s2 := by
        rcases Nat.lt_trichotomy (A.1 1 * i + s) (A.1 1 * i2 + s2) with e | e | e
        · have := cntb_lt e a5; omega
        · exact e
        · have := cntb_lt e b5; omega
      have hi : i = i2 := by
        have h3 : (A.1 1 * i + s) / A.1 1 = (A.1 1 * i2 + s2) / A.1 1 := by rw [hp]
        rw [Nat.mul_add_div (by omega), Nat.mul_add_div (by omega), Nat.div_eq_of_lt a2, Nat.div_eq_of_lt b2] at h3
        omega
      subst hi
      rw [show s = s2 by omega]
    · have := cntb_lt (lin_lt a1 a2) a5; omega
  · rcases h2 with ⟨i2, s2, b1, b2, b3, b4, rfl⟩ | ⟨b1, rfl⟩
    · have b5 := lin_at (A := A) (l := l) (r := r) (i := i2) b2
      rw [b3] at b5
      have := cntb_lt (lin_lt b1 b2) b5; omega
    · rfl
theorem k_pa1_L {I : Mem} {R : Rem} {P : Pool} {A : Abs} {l r k i : Nat} (hS : CSt I R P 1 A) (hA : AOk A) (hi : i < A.1 0) (hk : k < 2147483648) : ∀ (d s n : Nat), s + d = A.1 1 → d < n → cntb (lin A l r) (A.1 1 * i + s) ≤ k → ∃ q, f_X8_pairAt_L35 (nI l) (nI r) (nI k) (nI i) (msk (prt A l r i) (A.1 1)) I n (nI (cntb (lin A l r) (A.1 1 * i + s))) (nI s) = some q ∧ ((∃ s2, s2 < A.1 1 ∧ prt A l r i s2 = true ∧ cntb (lin A l r) (A.1 1 * i + s2) = k ∧ q = .inl (nI (100 * i + s2))) ∨ (cntb (lin A l r) (A.1 1 * (i + 1)) ≤ k ∧ q = .inr (nI (cntb (lin A l r) (A.1 1 * (i + 1))))))
  | 0, s, n, hs, hn, hc => by
    obtain ⟨n, rfl⟩ : ∃ m, n = m + 1 := ⟨n - 1, by omega⟩
    have e : s = A.1 1 := by omega
    subst e
    have := hA.1 1 (by decide)
    rw [← Nat.mul_succ] at hc ⊢
    refine ⟨_, ?_, Or.inr ⟨hc, rfl⟩⟩
    unfold f_X8_pairAt_L35
    rw [bs_b (show rd I 3 2 1 = some (nI (A.1 1)) from k_cnt hS (show 1 < 2 by decide)), if_pos (nI_le (Nat.le_refl _) (by omega))]
  | d + 1, s, n, hs, hn, hc => by
    obtain ⟨n, rfl⟩ : ∃ m, n = m + 1 := ⟨n - 1, by omega⟩
    have h16 := hA.1 1 (by decide)
    have hst := cntb_s (lin A l r) (A.1 1 * i + s)
    rw [lin_at (show s < A.1 1 by omega)] at hst
    have hb : hb (msk (prt A l r i) (A.1 1)) s = prt A l r i s := by rw [hb_msk (by omega) (by omega), decide_eq_true (show s < A.1 1 by omega), Bool.true_and]
    unfold f_X8_pairAt_L35
    rw [bs_b (show rd I 3 2 1 = some (nI (A.1 1)) from k_cnt hS (show 1 < 2 by decide)), if_neg (nI_ge (by omega) (by omega)), bs_b (k_hasBit _ s), hb, nI_1 s]
    by_cases e : prt A l r i s = true
    · rw [if_pos e] at hst
      rw [if_pos e, if_neg (show ¬ (1 : Int32) = 0 by decide)]
      by_cases e2 : cntb (lin A l r) (A.1 1 * i + s) = k
      · rw [if_pos (show nI (cntb (lin A l r) (A.1 1 * i + s)) = nI k by rw [e2]), show (100 : Int32) * nI i + nI s = nI (100 * i + s) by rw [show (100 : Int32) = nI 100 from rfl, pk_mul, nI_add]]
        exact ⟨_, rfl, Or.inl ⟨s, by omega, e, e2, rfl⟩⟩
      · have hle := cntb_le (lin A l r) (A.1 1 * i + s)
        rw [if_neg (show ¬ nI (cntb (lin A l r) (A.1 1 * i + s)) = nI k from fun h => e2 (by rw [nI_eq (by omega) (by omega)] at h; exact h)), nI_1, ← hst, Nat.add_assoc]
        exact k_pa1_L hS hA hi hk d (s + 1) n (by omega) (by omega) (by rw [← Nat.add_assoc]; omega)
    · rw [if_neg e] at hst
      have h2 : cntb (lin A l r) (A.1 1 * i + s) = cntb (lin A l r) (A.1 1 * i + (s + 1)) := by rw [← Nat.add_assoc]; omega
      rw [if_neg e, if_pos (show (0 : Int32) = 0 from rfl), h2]
      exact k_pa1_L hS hA hi hk d (s + 1) n (by omega) (by omega) (by omega)
theorem k_pa2_L {I : Mem} {R : Rem} {P : Pool} {A : Abs} {l r k : Nat} (hS : CSt I R P 1 A) (hA : AOk A) (hl : l < 4) (hr : r < 4) (hk : k < 2147483648) : ∀ (d i n : Nat), i + d = A.1 0 → d < n → cntb (lin A l r) (A.1 1 * i) ≤ k → ∃ q, f_X8_pairAt_L6 (nI l) (nI r) (nI k) I n (nI (cntb (lin A l r) (A.1 1 * i))) (nI i) = some q ∧ isPr A l r k (sm q (fun r => r) (fun _ => -2))
  | 0, i, n, hi, hn, hc => by
    obtain ⟨n, rfl⟩ : ∃ m, n = m + 1 := ⟨n - 1, by omega⟩
    have e : i = A.1 0 := by omega
    subst e
    have := hA.1 0 (by decide)
    refine ⟨.inr (), ?_, Or.inr ⟨hc, rfl⟩⟩
    unfold f_X8_pairAt_L6
    rw [bs_b (show rd I 3 2 0 = some (nI (A.1 0)) from k_cnt hS (show 0 < 2 by decide)), if_pos (nI_le (Nat.le_refl _) (by omega))]
  | d + 1, i, n, hi, hn, hc => by
    obtain ⟨n, rfl⟩ : ∃ m, n = m + 1 := ⟨n - 1, by omega⟩
    have h16 := hA.1 0 (by decide)
    have h162 := hA.1 1 (by decide)
    obtain ⟨q, q1, q2⟩ := k_pa1_L (l := l) (r := r) (k := k) (i := i) hS hA (by omega) hk (A.1 1) 0 fuel (by omega) (by unfold fuel; omega) (by rw [Nat.add_zero]; exact hc)
    rw [Nat.add_zero] at q1
    have q1 : f_X8_pairAt_L35 (nI l) (nI r) (nI k) (nI i) (msk (prt A l r i) (A.1 1)) I fuel (nI (cntb (lin A l r) (A.1 1 * i))) 0 = some q := q1
    unfold f_X8_pairAt_L6
    rw [bs_b (show rd I 3 2 0 = some (nI (A.1 0)) from k_cnt hS (show 0 < 2 by decide)), if_neg (nI_ge (by omega) (by omega)), bs_b (show f_X8_partnersOf 0 (nI i) (nI l) 1 (nI r) I = some (msk (prt A l r i) (A.1 1)) from k_partners hS hA (show 0 < 2 by decide) hl (show 1 < 2 by decide) hr (show i < A.1 0 by omega)), nI_1]
    rcases q2 with ⟨s2, a1, a2, a3, rfl⟩ | ⟨a1, rfl⟩
    · rw [bs_l q1]
      exact ⟨_, rfl, Or.inl ⟨i, s2, by omega, a1, a2, a3, rfl⟩⟩
    · rw [bs_r q1]
      exact k_pa2_L hS hA hl hr hk d (i + 1) n (by omega) (by omega) a1
theorem k_pa {I : Mem} {R : Rem} {P : Pool} {A : Abs} {l r k : Nat} (hS : CSt I R P 1 A) (hA : AOk A) (hl : l < 4) (hr : r < 4) (hk : k < 2147483648) : ∃ z, f_X8_pairAt (nI l) (nI r) (nI k) I = some z ∧ isPr A l r k z := by
  have h16 := hA.1 0 (by decide)
  obtain ⟨q, q1, q2⟩ := k_pa2_L hS hA hl hr hk (A.1 0) 0 fuel (by omega) (by unfold fuel; omega) (Nat.zero_le _)
  refine ⟨_, ?_, q2⟩
  unfold f_X8_pairAt
  rw [bs_b (show f_X8_pairAt_L6 (nI l) (nI r) (nI k) I fuel 0 0 = some q from q1)]
  cases q <;> rfl
/-! the reference -/
def gp2 (A : Abs) (l r t i s : Nat) : Bool := if t = 0 then prt A l r i s else prt A l r s i
/-! one of the values of the other table -/
def amN (A : Abs) (x : Int32) (c : Nat) : Nat → Int32
  | 0 => 0
  | s + 1 => if cmpv 1 x (A.2.1 1 s c) ≤ amN A x c s then amN A x c s else cmpv 1 x (A.2.1 1 s c)
theorem amN_s (A : Abs) (x : Int32) (c s : Nat) : amN A x c (s + 1) = if cmpv 1 x (A.2.1 1 s c) ≤ amN A x c s then amN A x c s else cmpv 1 x (A.2.1 1 s c) := rfl
theorem cmp1 (x y : Int32) : cmpv 1 x y = if x = -1 then 1 else if y = -1 then 1 else if x = y then 2 else 0 := by
  unfold cmpv
  rw [if_pos (show 1 = 1 from rfl)]
theorem cmp1_3 (x y : Int32) : cmpv 1 x y = 0 ∨ cmpv 1 x y = 1 ∨ cmpv 1 x y = 2 := by
  rw [cmp1]
  split
  · exact Or.inr (Or.inl rfl)
  · split
    · exact Or.inr (Or.inl rfl)
    · split
      · exact Or.inr (Or.inr rfl)
      · exact Or.inl rfl
theorem amN_3 (A : Abs) (x : Int32) (c : Nat) : ∀ s, amN A x c s = 0 ∨ amN A x c s = 1 ∨ amN A x c s = 2
  | 0 => Or.inl rfl
  | s + 1 => by
    rw [amN_s]
    split
    · exact amN_3 A x c s
    · exact cmp1_3 _ _
theorem k_am_L {I : Mem} {R : Rem} {P : Pool} {A : Abs} {c : Nat} {x x1 x2 : Int32} (hS : CSt I R P 1 A) (hA : AOk A) (hc : c < 4) : ∀ (d s n : Nat), s + d = A.1 1 → d < n → f_X8_among_L36 x1 x2 (nI c) x I n (amN A x c s) (nI s) = some (amN A x c (A.1 1))
  | 0, s, n, hs, hn => by
    obtain ⟨n, rfl⟩ : ∃ m, n = m + 1 := ⟨n - 1, by omega⟩
    have e : s = A.1 1 := by omega
    subst e
    have := hA.1 1 (by decide)
    unfold f_X8_among_L36
    rw [bs_b (show rd I 3 2 1 = some (nI (A.1 1)) from k_cnt hS (show 1 < 2 by decide)), if_pos (nI_le (Nat.le_refl _) (by omega))]
  | d + 1, s, n, hs, hn => by
    obtain ⟨n, rfl⟩ : ∃ m, n = m + 1 := ⟨n - 1, by omega⟩
    have := hA.1 1 (by decide)
    have ih := k_am_L (x1 := x1) (x2 := x2) (x := x) hS hA hc d (s + 1) n (by omega) (by omega)
    rw [amN_s, cmp1] at ih
    have h3 := amN_3 A x c s
    have u1 : ∀ w : Int32, w = 0 ∨ w = 1 ∨ w = 2 → jmax w 1 = if (1 : Int32) ≤ w then w else 1 := by
      rintro w (rfl | rfl | rfl) <;> decide
    have u2 : ∀ w : Int32, w = 0 ∨ w = 1 ∨ w = 2 → (2 : Int32) = if (2 : Int32) ≤ w then w else 2 := by
      rintro w (rfl | rfl | rfl) <;> decide
    have u0 : ∀ w : Int32, w = 0 ∨ w = 1 ∨ w = 2 → w = if (0 : Int32) ≤ w then w else 0 := by
      rintro w (rfl | rfl | rfl) <;> decide
    unfold f_X8_among_L36
    rw [bs_b (show rd I 3 2 1 = some (nI (A.1 1)) from k_cnt hS (show 1 < 2 by decide)), if_neg (nI_ge (by omega) (by omega)), bs_b (show f_X8_place 1 (nI s) (nI c) = _ from k_place 1 s c), bs_b (k_cell hS hA (show 1 < 2 by decide) (show s < A.1 1 by omega) hc), nI_1]
    by_cases e1 : x = -1
    · rw [if_pos e1] at ih
      rw [if_pos e1, u1 _ h3]; exact ih
    · rw [if_neg e1] at ih
      rw [if_neg e1]
      by_cases e2 : A.2.1 1 s c = -1
      · rw [if_pos e2] at ih
        rw [if_pos e2, u1 _ h3]; exact ih
      · rw [if_neg e2] at ih
        rw [if_neg e2]
        by_cases e3 : x = A.2.1 1 s c
        · rw [if_pos e3, ← u2 _ h3] at ih
          rw [if_pos e3]; exact ih
        · rw [if_neg e3, ← u0 _ h3] at ih
          rw [if_neg e3]; exact ih
end MB21
