/-! PURE PART 22: join, among. -/
section MB21
def gpr (A : Abs) (t c t2 c2 i s : Nat) : Bool := kn A t c i && decide (A.2.1 t2 s c2 = A.2.1 t i c)
/-- rows that are partners: i of the first table, s of the second -/
def prt (A : Abs) (l r i s : Nat) : Bool := gpr A 0 l 1 r i s
theorem gpr_sw (A : Abs) (l r i s : Nat) : gpr A 1 r 0 l s i = prt A l r i s := by
  unfold prt gpr
  by_cases e : A.2.1 1 s r = A.2.1 0 i l
  · rw [decide_eq_true e, decide_eq_true e.symm, Bool.and_true, Bool.and_true]
    unfold kn; rw [e]
  · rw [decide_eq_false e, decide_eq_false (fun h => e h.symm), Bool.and_false, Bool.and_false]
theorem k_partners {I : Mem} {R : Rem} {P : Pool} {A : Abs} {t c t2 c2 i : Nat} (hS : CSt I R P 1 A) (hA : AOk A) (ht : t < 2) (hc : c < 4) (ht2 : t2 < 2) (hc2 : c2 < 4) (hi : i < A.1 t) : f_X8_partnersOf (nI t) (nI i) (nI c) (nI t2) (nI c2) I = some (msk (gpr A t c t2 c2 i) (A.1 t2)) := by
  unfold f_X8_partnersOf
  rw [bs_b (k_place t i c), bs_b (k_cell hS hA ht hi hc)]
  by_cases e : A.2.1 t i c = -1
  · rw [if_pos e]
    refine congrArg some (msk_ff (fun r hr => ?_)).symm
    unfold gpr; rw [kn_f e]; rfl
  · rw [if_neg e, bs_b (k_rwc hS hA ht2 hc2)]
    refine congrArg some (msk_cg (fun r hr => ?_))
    unfold gpr; rw [kn_t e, Bool.true_and]
theorem cntb_add (b : Nat → Bool) (m : Nat) : ∀ d, cntb b (m + d) = cntb b m + cntb (fun k => b (m + k)) d
  | 0 => rfl
  | d + 1 => by rw [← Nat.add_assoc, cntb_s, cntb_s, cntb_add b m d, Nat.add_assoc]
def lin (A : Abs) (l r p : Nat) : Bool := prt A l r (p / A.1 1) (p % A.1 1)
theorem lin_at {A : Abs} {l r i s : Nat} (hs : s < A.1 1) : lin A l r (A.1 1 * i + s) = prt A l r i s := by
  unfold lin
  rw [Nat.mul_add_div (by omega), Nat.div_eq_of_lt hs, Nat.add_zero, Nat.mul_add_mod, Nat.mod_eq_of_lt hs]
theorem lin_row {A : Abs} {l r i : Nat} : cntb (lin A l r) (A.1 1 * (i + 1)) = cntb (lin A l r) (A.1 1 * i) + cntb (prt A l r i) (A.1 1) := by
  rw [Nat.mul_succ, cntb_add]
  congr 1
  exact cntb_cg (fun k hk => lin_at hk)
theorem lin_b {A : Abs} {l r i : Nat} (hA : AOk A) (hi : i ≤ A.1 0) : cntb (lin A l r) (A.1 1 * i) ≤ 256 := by
  have h1 := hA.1 0 (by decide)
  have h2 := hA.1 1 (by decide)
  have h3 : A.1 1 * i ≤ 16 * 16 := Nat.mul_le_mul h2 (by omega)
  have := cntb_le (lin A l r) (A.1 1 * i)
  omega
theorem k_pc_L {I : Mem} {R : Rem} {P : Pool} {A : Abs} {l r : Nat} (hS : CSt I R P 1 A) (hA : AOk A) (hl : l < 4) (hr : r < 4) : ∀ (d i n : Nat), i + d = A.1 0 → d < n → f_X8_pairCount_L5 (nI l) (nI r) I n (nI (cntb (lin A l r) (A.1 1 * i))) (nI i) = some (nI (cntb (lin A l r) (A.1 1 * A.1 0)))
  | 0, i, n, hi, hn => by
    obtain ⟨n, rfl⟩ : ∃ m, n = m + 1 := ⟨n - 1, by omega⟩
    have e : i = A.1 0 := by omega
    subst e
    have := hA.1 0 (by decide)
    unfold f_X8_pairCount_L5
    rw [bs_b (show rd I 3 2 0 = some (nI (A.1 0)) from k_cnt hS (show 0 < 2 by decide)), if_pos (nI_le (Nat.le_refl _) (by omega))]
  | d + 1, i, n, hi, hn => by
    obtain ⟨n, rfl⟩ : ∃ m, n = m + 1 := ⟨n - 1, by omega⟩
    have h16 := hA.1 0 (by decide)
    unfold f_X8_pairCount_L5
    rw [bs_b (show rd I 3 2 0 = some (nI (A.1 0)) from k_cnt hS (show 0 < 2 by decide)), if_neg (nI_ge (by omega) (by omega)), bs_b (show f_X8_partnersOf 0 (nI i) (nI l) 1 (nI r) I = some (msk (prt A l r i) (A.1 1)) from k_partners hS hA (show 0 < 2 by decide) hl (show 1 < 2 by decide) hr (show i < A.1 0 by omega)), bs_b (k_bitsM (hA.1 1 (by decide))), nI_1, nI_add, ← lin_row]
    exact k_pc_L hS hA hl hr d (i + 1) n (by omega) (by omega)
theorem k_rwp_L {I : Mem} {R : Rem} {P : Pool} {A : Abs} {t c t2 c2 : Nat} (hS : CSt I R P 1 A) (hA : AOk A) (ht : t < 2) (hc : c < 4) (ht2 : t2 < 2) (hc2 : c2 < 4) : ∀ (d i n : Nat), i + d = A.1 t → d < n → f_X8_rowsWithoutPartner_L6 (nI t) (nI c) (nI t2) (nI c2) I n (msk (fun i => !anyb (gpr A t c t2 c2 i) (A.1 t2)) i) (nI i) = some (msk (fun i => !anyb (gpr A t c t2 c2 i) (A.1 t2)) (A.1 t))
  | 0, i, n, hi, hn => by
    obtain ⟨n, rfl⟩ : ∃ m, n = m + 1 := ⟨n - 1, by omega⟩
    have e : i = A.1 t := by omega
    subst e
    have := hA.1 t ht
    unfold f_X8_rowsWithoutPartner_L6
    rw [bs_b (k_cnt hS ht), if_pos (nI_le (Nat.le_refl _) (by omega))]
  | d + 1, i, n, hi, hn => by
    obtain ⟨n, rfl⟩ : ∃ m, n = m + 1 := ⟨n - 1, by omega⟩
    have h16 := hA.1 t ht
    have h162 := hA.1 t2 ht2
    have ih := k_rwp_L hS hA ht hc ht2 hc2 d (i + 1) n (by omega) (by omega)
    rw [show msk (fun i => !anyb (gpr A t c t2 c2 i) (A.1 t2)) (i + 1) = if (!anyb (gpr A t c t2 c2 i) (A.1 t2)) = true then msk (fun i => !anyb (gpr A t c t2 c2 i) (A.1 t2)) i ||| ((1 : Int32) <<< (nI i &&& 31)) else msk (fun i => !anyb (gpr A t c t2 c2 i) (A.1 t2)) i from rfl] at ih
    have hm := msk_0 (b := gpr A t c t2 c2 i) (n := A.1 t2) (by omega)
    unfold f_X8_rowsWithoutPartner_L6
    rw [bs_b (k_cnt hS ht), if_neg (nI_ge (by omega) (by omega)), bs_b (k_partners hS hA ht hc ht2 hc2 (show i < A.1 t by omega)), nI_1]
    by_cases e : msk (gpr A t c t2 c2 i) (A.1 t2) = 0
    · rw [if_pos (show (!anyb (gpr A t c t2 c2 i) (A.1 t2)) = true by rw [hm.1 e]; rfl)] at ih
      rw [if_pos e]; exact ih
    · rw [if_neg (show ¬ (!anyb (gpr A t c t2 c2 i) (A.1 t2)) = true from fun h => e (hm.2 (by simpa using h)))] at ih
      rw [if_neg e]; exact ih
theorem k_rwp {I : Mem} {R : Rem} {P : Pool} {A : Abs} {t c t2 c2 : Nat} (hS : CSt I R P 1 A) (hA : AOk A) (ht : t < 2) (hc : c < 4) (ht2 : t2 < 2) (hc2 : c2 < 4) : f_X8_rowsWithoutPartner (nI t) (nI c) (nI t2) (nI c2) I = some (msk (fun i => !anyb (gpr A t c t2 c2 i) (A.1 t2)) (A.1 t)) := by
  have := hA.1 t ht
  unfold f_X8_rowsWithoutPartner
  rw [bs_b (show f_X8_rowsWithoutPartner_L6 (nI t) (nI c) (nI t2) (nI c2) I fuel 0 0 = _ from k_rwp_L hS hA ht hc ht2 hc2 (A.1 t) 0 fuel (by omega) (by unfold fuel; omega))]
/-! the pair with a number -/
def isPr (A : Abs) (l r k : Nat) (z : Int32) : Prop := (∃ i s, i < A.1 0 ∧ s < A.1 1 ∧ prt A l r i s = true ∧ cntb (lin A l r) (A.1 1 * i + s) = k ∧ z = nI (100 * i + s)) ∨ (cntb (lin A l r) (A.1 1 * A.1 0) ≤ k ∧ z = -2)
theorem lin_lt {A : Abs} {i s : Nat} (hi : i < A.1 0) (hs : s < A.1 1) : A.1 1 * i + s < A.1 1 * A.1 0 := by
  have h : A.1 1 * (i + 1) ≤ A.1 1 * A.1 0 := Nat.mul_le_mul_left _ hi
  rw [Nat.mul_succ] at h
  omega
theorem pr_uq {A : Abs} {l r k : Nat} {z z2 : Int32} (h1 : isPr A l r k z) (h2 : isPr A l r k z2) : z = z2 := by
  rcases h1 with ⟨i, s, a1, a2, a3, a4, rfl⟩ | ⟨a1, rfl⟩
  · have a5 := lin_at (A := A) (l := l) (r := r) (i := i) a2
    rw [a3] at a5
    rcases h2 with ⟨i2, s2, b1, b2, b3, b4, rfl⟩ | ⟨b1, rfl⟩
    · have b5 := lin_at (A := A) (l := l) (r := r) (i := i2) b2
      rw [b3] at b5
      have hp : A.1 1 * i + s = A.1 1 * i2 + s2 := by
        rcases Nat.lt_trichotomy (A.1 1 * i + s) (A.1 1 * i2 + s2) with e | e | e
        · have := cntb_lt e a5; omega
        · exact e
        · have := cntb_lt e b5; omega
      have hi : i = i2 := by
        have h3 : (A.1 1 * i + s) / A.1 1 = (A.1 1 * i2 + s2) / A.1 1 := by rw [hp]
        rw [Nat.mul_add_div (by omega), Nat.mul_add_div (by omega), Nat.div_eq_of_lt a2, Nat.div_eq_of_lt b2] at h3
        omega
      subst hi
      rw [show s = s2 by omega]
    · have := cntb_lt (lin_lt a1 a2) a5; omega
  · rcases h2 with ⟨i2, s2, b1, b2, b3, b4, rfl⟩ | ⟨b1, rfl⟩
    · have b5 := lin_at (A := A) (l := l) (r := r) (i := i2) b2
      rw [b3] at b5
      have := cntb_lt (lin_lt b1 b2) b5; omega
    · rfl
theorem k_pa1_L {I : Mem} {R : Rem} {P : Pool} {A : Abs} {l r k i : Nat} (hS : CSt I R P 1 A) (hA : AOk A) (hi : i < A.1 0) (hk : k < 2147483648) : ∀ (d s n : Nat), s + d = A.1 1 → d < n → cntb (lin A l r) (A.1 1 * i + s) ≤ k → ∃ q, f_X8_pairAt_L35 (nI l) (nI r) (nI k) (nI i) (msk (prt A l r i) (A.1 1)) I n (nI (cntb (lin A l r) (A.1 1 * i + s))) (nI s) = some q ∧ ((∃ s2, s2 < A.1 1 ∧ prt A l r i s2 = true ∧ cntb (lin A l r) (A.1 1 * i + s2) = k ∧ q = .inl (nI (100 * i + s2))) ∨ (cntb (lin A l r) (A.1 1 * (i + 1)) ≤ k ∧ q = .inr (nI (cntb (lin A l r) (A.1 1 * (i + 1))))))
  | 0, s, n, hs, hn, hc => by
    obtain ⟨n, rfl⟩ : ∃ m, n = m + 1 := ⟨n - 1, by omega⟩
    have e : s = A.1 1 := by omega
    subst e
    have := hA.1 1 (by decide)
    rw [← Nat.mul_succ] at hc ⊢
    refine ⟨_, ?_, Or.inr ⟨hc, rfl⟩⟩
    unfold f_X8_pairAt_L35
    rw [bs_b (show rd I 3 2 1 = some (nI (A.1 1)) from k_cnt hS (show 1 < 2 by decide)), if_pos (nI_le (Nat.le_refl _) (by omega))]
  | d + 1, s, n, hs, hn, hc => by
    obtain ⟨n, rfl⟩ : ∃ m, n = m + 1 := ⟨n - 1, by omega⟩
    have h16 := hA.1 1 (by decide)
    have hst := cntb_s (lin A l r) (A.1 1 * i + s)
    rw [lin_at (show s < A.1 1 by omega)] at hst
    have hb : hb (msk (prt A l r i) (A.1 1)) s = prt A l r i s := by rw [hb_msk (by omega) (by omega), decide_eq_true (show s < A.1 1 by omega), Bool.true_and]
    unfold f_X8_pairAt_L35
    rw [bs_b (show rd I 3 2 1 = some (nI (A.1 1)) from k_cnt hS (show 1 < 2 by decide)), if_neg (nI_ge (by omega) (by omega)), bs_b (k_hasBit _ s), hb, nI_1 s]
    by_cases e : prt A l r i s = true
    · rw [if_pos e] at hst
      rw [if_pos e, if_neg (show ¬ (1 : Int32) = 0 by decide)]
      by_cases e2 : cntb (lin A l r) (A.1 1 * i + s) = k
      · rw [if_pos (show nI (cntb (lin A l r) (A.1 1 * i + s)) = nI k by rw [e2]), show (100 : Int32) * nI i + nI s = nI (100 * i + s) by rw [show (100 : Int32) = nI 100 from rfl, pk_mul, nI_add]]
        exact ⟨_, rfl, Or.inl ⟨s, by omega, e, e2, rfl⟩⟩
      · have hle := cntb_le (lin A l r) (A.1 1 * i + s)
        rw [if_neg (show ¬ nI (cntb (lin A l r) (A.1 1 * i + s)) = nI k from fun h => e2 (by rw [nI_eq (by omega) (by omega)] at h; exact h)), nI_1, ← hst, Nat.add_assoc]
        exact k_pa1_L hS hA hi hk d (s + 1) n (by omega) (by omega) (by rw [← Nat.add_assoc]; omega)
    · rw [if_neg e] at hst
      have h2 : cntb (lin A l r) (A.1 1 * i + s) = cntb (lin A l r) (A.1 1 * i + (s + 1)) := by rw [← Nat.add_assoc]; omega
      rw [if_neg e, if_pos (show (0 : Int32) = 0 from rfl), h2]
      exact k_pa1_L hS hA hi hk d (s + 1) n (by omega) (by omega) (by omega)
theorem k_pa2_L {I : Mem} {R : Rem} {P : Pool} {A : Abs} {l r k : Nat} (hS : CSt I R P 1 A) (hA : AOk A) (hl : l < 4) (hr : r < 4) (hk : k < 2147483648) : ∀ (d i n : Nat), i + d = A.1 0 → d < n → cntb (lin A l r) (A.1 1 * i) ≤ k → ∃ q, f_X8_pairAt_L6 (nI l) (nI r) (nI k) I n (nI (cntb (lin A l r) (A.1 1 * i))) (nI i) = some q ∧ isPr A l r k (sm q (fun r => r) (fun _ => -2))
  | 0, i, n, hi, hn, hc => by
    obtain ⟨n, rfl⟩ : ∃ m, n = m + 1 := ⟨n - 1, by omega⟩
    have e : i = A.1 0 := by omega
    subst e
    have := hA.1 0 (by decide)
    refine ⟨.inr (), ?_, Or.inr ⟨hc, rfl⟩⟩
    unfold f_X8_pairAt_L6
    rw [bs_b (show rd I 3 2 0 = some (nI (A.1 0)) from k_cnt hS (show 0 < 2 by decide)), if_pos (nI_le (Nat.le_refl _) (by omega))]
  | d + 1, i, n, hi, hn, hc => by
    obtain ⟨n, rfl⟩ : ∃ m, n = m + 1 := ⟨n - 1, by omega⟩
    have h16 := hA.1 0 (by decide)
    have h162 := hA.1 1 (by decide)
    obtain ⟨q, q1, q2⟩ := k_pa1_L (l := l) (r := r) (k := k) (i := i) hS hA (by omega) hk (A.1 1) 0 fuel (by omega) (by unfold fuel; omega) (by rw [Nat.add_zero]; exact hc)
    rw [Nat.add_zero] at q1
    have q1 : f_X8_pairAt_L35 (nI l) (nI r) (nI k) (nI i) (msk (prt A l r i) (A.1 1)) I fuel (nI (cntb (lin A l r) (A.1 1 * i))) 0 = some q := q1
    unfold f_X8_pairAt_L6
    rw [bs_b (show rd I 3 2 0 = some (nI (A.1 0)) from k_cnt hS (show 0 < 2 by decide)), if_neg (nI_ge (by omega) (by omega)), bs_b (show f_X8_partnersOf 0 (nI i) (nI l) 1 (nI r) I = some (msk (prt A l r i) (A.1 1)) from k_partners hS hA (show 0 < 2 by decide) hl (show 1 < 2 by decide) hr (show i < A.1 0 by omega)), nI_1]
    rcases q2 with ⟨s2, a1, a2, a3, rfl⟩ | ⟨a1, rfl⟩
    · rw [bs_l q1]
      exact ⟨_, rfl, Or.inl ⟨i, s2, by omega, a1, a2, a3, rfl⟩⟩
    · rw [bs_r q1]
      exact k_pa2_L hS hA hl hr hk d (i + 1) n (by omega) (by omega) a1
theorem k_pa {I : Mem} {R : Rem} {P : Pool} {A : Abs} {l r k : Nat} (hS : CSt I R P 1 A) (hA : AOk A) (hl : l < 4) (hr : r < 4) (hk : k < 2147483648) : ∃ z, f_X8_pairAt (nI l) (nI r) (nI k) I = some z ∧ isPr A l r k z := by
  have h16 := hA.1 0 (by decide)
  obtain ⟨q, q1, q2⟩ := k_pa2_L hS hA hl hr hk (A.1 0) 0 fuel (by omega) (by unfold fuel; omega) (Nat.zero_le _)
  refine ⟨_, ?_, q2⟩
  unfold f_X8_pairAt
  rw [bs_b (show f_X8_pairAt_L6 (nI l) (nI r) (nI k) I fuel 0 0 = some q from q1)]
  cases q <;> rfl
/-! the reference -/
theorem r_partners {I : Mem} {A : Abs} {l r i s : Nat} (hS : RSt (I 71) A) (hA : AOk A) (hl : l < 4) (hr : r < 4) (hi : i < A.1 0) (hs : s < A.1 1) : f_X9_arePartners (nI i) (nI s) (nI l) (nI r) I = some (if prt A l r i s = true then 1 else 0) := by
  unfold f_X9_arePartners
  rw [bs_b (show f_X9_of 0 (nI i) (nI l) I = some (A.2.1 0 i l) from r_of hS hA (show 0 < 2 by decide) hi hl)]
  unfold prt gpr
  by_cases e : A.2.1 0 i l = -1
  · rw [if_pos e, kn_f e, Bool.false_and]; rfl
  · rw [if_neg e, kn_t e, Bool.true_and, bs_b (show f_X9_of 1 (nI s) (nI r) I = some (A.2.1 1 s r) from r_of hS hA (show 1 < 2 by decide) hs hr)]
    by_cases e2 : A.2.1 0 i l = A.2.1 1 s r
    · rw [if_pos e2, decide_eq_true e2.symm]; rfl
    · rw [if_neg e2, decide_eq_false (fun h => e2 h.symm)]; rfl
theorem r_pair_L {I : Mem} {A : Abs} {l r k : Nat} (hS : RSt (I 71) A) (hA : AOk A) (hl : l < 4) (hr : r < 4) (hk : k < 2147483648) : ∀ (d p n : Nat), p + d = A.1 1 * A.1 0 → d < n → cntb (lin A l r) p ≤ k → ∃ q, f_X9_pair_L6 (nI l) (nI r) (nI k) I n (nI (cntb (lin A l r) p)) (nI p) = some q ∧ isPr A l r k (sm q (fun r => r) (fun _ => -2))
  | 0, p, n, hp, hn, hc => by
    obtain ⟨n, rfl⟩ : ∃ m, n = m + 1 := ⟨n - 1, by omega⟩
    have e : p = A.1 1 * A.1 0 := by omega
    subst e
    have h3 : A.1 1 * A.1 0 ≤ 16 * 16 := Nat.mul_le_mul (hA.1 1 (by decide)) (hA.1 0 (by decide))
    refine ⟨.inr (), ?_, Or.inr ⟨hc, rfl⟩⟩
    unfold f_X9_pair_L6
    rw [bs_b (show f_X9_many 0 I = some (nI (A.1 0)) from r_many hS (show 0 < 2 by decide)), bs_b (show f_X9_many 1 I = some (nI (A.1 1)) from r_many hS (show 1 < 2 by decide)), pk_mul, Nat.mul_comm (A.1 0), if_pos (nI_le (Nat.le_refl _) (by omega))]
  | d + 1, p, n, hp, hn, hc => by
    obtain ⟨n, rfl⟩ : ∃ m, n = m + 1 := ⟨n - 1, by omega⟩
    have h16 := hA.1 1 (by decide)
    have h3 : A.1 1 * A.1 0 ≤ 16 * 16 := Nat.mul_le_mul h16 (hA.1 0 (by decide))
    have hn1 : 0 < A.1 1 := by
      rcases Nat.eq_zero_or_pos (A.1 1) with h | h
      · rw [h, Nat.zero_mul] at hp; omega
      · exact h
    have hi : p / A.1 1 < A.1 0 := Nat.div_lt_of_lt_mul (by omega)
    have hs : p % A.1 1 < A.1 1 := Nat.mod_lt _ hn1
    have hpe : A.1 1 * (p / A.1 1) + p % A.1 1 = p := Nat.div_add_mod p (A.1 1)
    have hm1 : f_X9_many 1 I = some (nI (A.1 1)) := r_many hS (show 1 < 2 by decide)
    have hst := cntb_s (lin A l r) p
    have hle := cntb_le (lin A l r) p
    unfold f_X9_pair_L6
    rw [bs_b (show f_X9_many 0 I = some (nI (A.1 0)) from r_many hS (show 0 < 2 by decide)), bs_b hm1, pk_mul, Nat.mul_comm (A.1 0), if_neg (nI_ge (by omega) (by omega)), bs_b hm1, if_neg (nI_ne0 (by omega) (by omega)), bs_b hm1, if_neg (nI_ne0 (by omega) (by omega)), show nI p - nI p / nI (A.1 1) * nI (A.1 1) = nI (p % A.1 1) from pk_rem (by omega) hn1 (by omega), show nI p / nI (A.1 1) = nI (p / A.1 1) from pk_div (by omega) hn1 (by omega), bs_b (r_partners hS hA hl hr hi hs), nI_1 p]
    by_cases e : prt A l r (p / A.1 1) (p % A.1 1) = true
    · have hst : cntb (lin A l r) (p + 1) = cntb (lin A l r) p + 1 := by rw [hst, if_pos (show lin A l r p = true from e)]
      rw [if_pos e, if_neg (show ¬ (1 : Int32) = 0 by decide)]
      by_cases e2 : cntb (lin A l r) p = k
      · rw [if_pos (show nI (cntb (lin A l r) p) = nI k by rw [e2]), show (100 : Int32) * nI (p / A.1 1) + nI (p % A.1 1) = nI (100 * (p / A.1 1) + p % A.1 1) by rw [show (100 : Int32) = nI 100 from rfl, pk_mul, nI_add]]
        exact ⟨_, rfl, Or.inl ⟨p / A.1 1, p % A.1 1, hi, hs, e, by rw [hpe]; exact e2, rfl⟩⟩
      · rw [if_neg (show ¬ nI (cntb (lin A l r) p) = nI k from fun h => e2 (by rw [nI_eq (by omega) (by omega)] at h; exact h)), nI_1, ← hst]
        exact r_pair_L hS hA hl hr hk d (p + 1) n (by omega) (by omega) (by omega)
    · have hst : cntb (lin A l r) p = cntb (lin A l r) (p + 1) := by rw [hst, if_neg (show ¬ lin A l r p = true from e)]; omega
      rw [if_neg e, if_pos (show (0 : Int32) = 0 from rfl), hst]
      exact r_pair_L hS hA hl hr hk d (p + 1) n (by omega) (by omega) (by omega)
theorem r_pair {I : Mem} {A : Abs} {l r k : Nat} (hS : RSt (I 71) A) (hA : AOk A) (hl : l < 4) (hr : r < 4) (hk : k < 2147483648) : ∃ z, f_X9_pair (nI l) (nI r) (nI k) I = some z ∧ isPr A l r k z := by
  have h3 : A.1 1 * A.1 0 ≤ 16 * 16 := Nat.mul_le_mul (hA.1 1 (by decide)) (hA.1 0 (by decide))
  obtain ⟨q, q1, q2⟩ := r_pair_L hS hA hl hr hk (A.1 1 * A.1 0) 0 fuel (by omega) (by unfold fuel; omega) (Nat.zero_le _)
  refine ⟨_, ?_, q2⟩
  unfold f_X9_pair
  rw [bs_b (show f_X9_pair_L6 (nI l) (nI r) (nI k) I fuel 0 0 = some q from q1)]
  cases q <;> rfl
theorem r_pairs_L {I : Mem} {A : Abs} {l r : Nat} (hS : RSt (I 71) A) (hA : AOk A) (hl : l < 4) (hr : r < 4) : ∀ (d k n : Nat), k + d = cntb (lin A l r) (A.1 1 * A.1 0) → d < n → f_X9_pairs_L2 (nI l) (nI r) I n (nI k) = some (nI (cntb (lin A l r) (A.1 1 * A.1 0)))
  | 0, k, n, hk, hn => by
    obtain ⟨n, rfl⟩ : ∃ m, n = m + 1 := ⟨n - 1, by omega⟩
    have hb := lin_b (l := l) (r := r) hA (Nat.le_refl (A.1 0))
    obtain ⟨z, z1, z2⟩ := r_pair hS hA hl hr (show k < 2147483648 by omega)
    have hz : z = -2 := pr_uq z2 (Or.inr ⟨by omega, rfl⟩)
    unfold f_X9_pairs_L2
    rw [bs_b z1, if_pos hz, show k = cntb (lin A l r) (A.1 1 * A.1 0) by omega]
  | d + 1, k, n, hk, hn => by
    obtain ⟨n, rfl⟩ : ∃ m, n = m + 1 := ⟨n - 1, by omega⟩
    have hb := lin_b (l := l) (r := r) hA (Nat.le_refl (A.1 0))
    have h0 := hA.1 0 (by decide)
    have h1 := hA.1 1 (by decide)
    obtain ⟨z, z1, z2⟩ := r_pair hS hA hl hr (show k < 2147483648 by omega)
    have hz : ¬ z = -2 := by
      rcases z2 with ⟨i, s, a1, a2, a3, a4, rfl⟩ | ⟨a1, a2⟩
      · exact fun h => nI_pos (show 100 * i + s < 2 ^ 31 by omega) (by rw [h]; decide)
      · omega
    unfold f_X9_pairs_L2
    rw [bs_b z1, if_neg hz, nI_1]
    exact r_pairs_L hS hA hl hr d (k + 1) n (by omega) (by omega)
def gp2 (A : Abs) (l r t i s : Nat) : Bool := if t = 0 then prt A l r i s else prt A l r s i
theorem r_al1_L {I : Mem} {A : Abs} {l r t i : Nat} {y : Int32} (hS : RSt (I 71) A) (hA : AOk A) (hl : l < 4) (hr : r < 4) (ht : t < 2) (hi : i < A.1 t) : ∀ (d s n : Nat), s + d = A.1 (1 - t) → d < n → f_X9_alone_L22 (nI t) (nI l) (nI r) y (nI i) I n (if anyb (gp2 A l r t i) s = true then 0 else 1) (nI s) = some (if anyb (gp2 A l r t i) (A.1 (1 - t)) = true then 0 else 1)
  | 0, s, n, hs, hn => by
    obtain ⟨n, rfl⟩ : ∃ m, n = m + 1 := ⟨n - 1, by omega⟩
    have e : s = A.1 (1 - t) := by omega
    subst e
    have := hA.1 (1 - t) (by omega)
    unfold f_X9_alone_L22
    rw [show (1 : Int32) - nI t = nI (1 - t) from pk_sub (a := 1) (by omega), bs_b (r_many hS (show 1 - t < 2 by omega)), if_pos (nI_le (Nat.le_refl _) (by omega))]
  | d + 1, s, n, hs, hn => by
    obtain ⟨n, rfl⟩ : ∃ m, n = m + 1 := ⟨n - 1, by omega⟩
    have := hA.1 (1 - t) (by omega)
    have ih := r_al1_L (y := y) hS hA hl hr ht hi d (s + 1) n (by omega) (by omega)
    rw [anyb_s] at ih
    unfold f_X9_alone_L22
    rw [show (1 : Int32) - nI t = nI (1 - t) from pk_sub (a := 1) (by omega), bs_b (r_many hS (show 1 - t < 2 by omega)), if_neg (nI_ge (by omega) (by omega)), nI_1]
    by_cases e : anyb (gp2 A l r t i) s = true
    · rw [e, Bool.true_or, if_pos (show true = true from rfl)] at ih
      rw [if_pos e, if_pos (show (0 : Int32) = 0 from rfl)]
      exact ih
    · rw [show anyb (gp2 A l r t i) s = false by simpa using e, Bool.false_or] at ih
      rw [if_neg e, if_neg (show ¬ (1 : Int32) = 0 by decide)]
      rcases (show t = 0 ∨ t = 1 by omega) with h0 | h0
      · subst h0
        rw [if_pos (show nI 0 = 0 from rfl), bs_b (r_partners hS hA hl hr hi (show s < A.1 1 from by have : s + (d + 1) = A.1 1 := hs; omega))]
        by_cases e2 : prt A l r i s = true
        · rw [if_pos (show gp2 A l r 0 i s = true from e2)] at ih
          rw [if_pos e2, if_neg (show ¬ (1 : Int32) = 0 by decide)]; exact ih
        · rw [if_neg (show ¬ gp2 A l r 0 i s = true from e2)] at ih
          rw [if_neg e2, if_pos (show (0 : Int32) = 0 from rfl)]; exact ih
      · subst h0
        rw [if_neg (show ¬ nI 1 = 0 by decide), bs_b (r_partners hS hA hl hr (show s < A.1 0 from by have : s + (d + 1) = A.1 0 := hs; omega) hi)]
        by_cases e2 : prt A l r s i = true
        · rw [if_pos (show gp2 A l r 1 i s = true from e2)] at ih
          rw [if_pos e2, if_neg (show ¬ (1 : Int32) = 0 by decide)]; exact ih
        · rw [if_neg (show ¬ gp2 A l r 1 i s = true from e2)] at ih
          rw [if_neg e2, if_pos (show (0 : Int32) = 0 from rfl)]; exact ih
theorem r_al2_L {I : Mem} {A : Abs} {l r t : Nat} (hS : RSt (I 71) A) (hA : AOk A) (hl : l < 4) (hr : r < 4) (ht : t < 2) : ∀ (d i n : Nat), i + d = A.1 t → d < n → f_X9_alone_L6 (nI t) (nI l) (nI r) I n (msk (fun i => !anyb (gp2 A l r t i) (A.1 (1 - t))) i) (nI i) = some (msk (fun i => !anyb (gp2 A l r t i) (A.1 (1 - t))) (A.1 t))
  | 0, i, n, hi, hn => by
    obtain ⟨n, rfl⟩ : ∃ m, n = m + 1 := ⟨n - 1, by omega⟩
    have e : i = A.1 t := by omega
    subst e
    have := hA.1 t ht
    unfold f_X9_alone_L6
    rw [bs_b (r_many hS ht), if_pos (nI_le (Nat.le_refl _) (by omega))]
  | d + 1, i, n, hi, hn => by
    obtain ⟨n, rfl⟩ : ∃ m, n = m + 1 := ⟨n - 1, by omega⟩
    have := hA.1 t ht
    have h2 := hA.1 (1 - t) (by omega)
    have ih := r_al2_L hS hA hl hr ht d (i + 1) n (by omega) (by omega)
    rw [show msk (fun i => !anyb (gp2 A l r t i) (A.1 (1 - t))) (i + 1) = if (!anyb (gp2 A l r t i) (A.1 (1 - t))) = true then msk (fun i => !anyb (gp2 A l r t i) (A.1 (1 - t))) i ||| ((1 : Int32) <<< (nI i &&& 31)) else msk (fun i => !anyb (gp2 A l r t i) (A.1 (1 - t))) i from rfl] at ih
    unfold f_X9_alone_L6
    rw [bs_b (r_many hS ht), if_neg (nI_ge (by omega) (by omega)), bs_b (show f_X9_alone_L22 (nI t) (nI l) (nI r) (msk (fun i => !anyb (gp2 A l r t i) (A.1 (1 - t))) i) (nI i) I fuel 1 0 = _ from r_al1_L hS hA hl hr ht (show i < A.1 t by omega) (A.1 (1 - t)) 0 fuel (by omega) (by unfold fuel; omega)), or_z, nI_1]
    by_cases e : anyb (gp2 A l r t i) (A.1 (1 - t)) = true
    · rw [e, if_neg (show ¬ (!true) = true by decide)] at ih
      rw [if_pos e, if_pos (show (0 : Int32) = 0 from rfl)]; exact ih
    · rw [show anyb (gp2 A l r t i) (A.1 (1 - t)) = false by simpa using e, if_pos (show (!false) = true by decide)] at ih
      rw [if_neg e, if_neg (show ¬ (1 : Int32) = 0 by decide)]; exact ih
theorem r_alone {I : Mem} {A : Abs} {l r t : Nat} (hS : RSt (I 71) A) (hA : AOk A) (hl : l < 4) (hr : r < 4) (ht : t < 2) : f_X9_alone (nI t) (nI l) (nI r) I = some (msk (fun i => !anyb (gp2 A l r t i) (A.1 (1 - t))) (A.1 t)) := by
  have := hA.1 t ht
  unfold f_X9_alone
  rw [bs_b (show f_X9_alone_L6 (nI t) (nI l) (nI r) I fuel 0 0 = _ from r_al2_L hS hA hl hr ht (A.1 t) 0 fuel (by omega) (by unfold fuel; omega))]
/-! one of the values of the other table -/
def amN (A : Abs) (x : Int32) (c : Nat) : Nat → Int32
  | 0 => 0
  | s + 1 => if cmpv 1 x (A.2.1 1 s c) ≤ amN A x c s then amN A x c s else cmpv 1 x (A.2.1 1 s c)
theorem amN_s (A : Abs) (x : Int32) (c s : Nat) : amN A x c (s + 1) = if cmpv 1 x (A.2.1 1 s c) ≤ amN A x c s then amN A x c s else cmpv 1 x (A.2.1 1 s c) := rfl
theorem cmp1 (x y : Int32) : cmpv 1 x y = if x = -1 then 1 else if y = -1 then 1 else if x = y then 2 else 0 := by
  unfold cmpv
  rw [if_pos (show 1 = 1 from rfl)]
theorem cmp1_3 (x y : Int32) : cmpv 1 x y = 0 ∨ cmpv 1 x y = 1 ∨ cmpv 1 x y = 2 := by
  rw [cmp1]
  split
  · exact Or.inr (Or.inl rfl)
  · split
    · exact Or.inr (Or.inl rfl)
    · split
      · exact Or.inr (Or.inr rfl)
      · exact Or.inl rfl
theorem amN_3 (A : Abs) (x : Int32) (c : Nat) : ∀ s, amN A x c s = 0 ∨ amN A x c s = 1 ∨ amN A x c s = 2
  | 0 => Or.inl rfl
  | s + 1 => by
    rw [amN_s]
    split
    · exact amN_3 A x c s
    · exact cmp1_3 _ _
theorem k_am_L {I : Mem} {R : Rem} {P : Pool} {A : Abs} {c : Nat} {x x1 x2 : Int32} (hS : CSt I R P 1 A) (hA : AOk A) (hc : c < 4) : ∀ (d s n : Nat), s + d = A.1 1 → d < n → f_X8_among_L36 x1 x2 (nI c) x I n (amN A x c s) (nI s) = some (amN A x c (A.1 1))
  | 0, s, n, hs, hn => by
    obtain ⟨n, rfl⟩ : ∃ m, n = m + 1 := ⟨n - 1, by omega⟩
    have e : s = A.1 1 := by omega
    subst e
    have := hA.1 1 (by decide)
    unfold f_X8_among_L36
    rw [bs_b (show rd I 3 2 1 = some (nI (A.1 1)) from k_cnt hS (show 1 < 2 by decide)), if_pos (nI_le (Nat.le_refl _) (by omega))]
  | d + 1, s, n, hs, hn => by
    obtain ⟨n, rfl⟩ : ∃ m, n = m + 1 := ⟨n - 1, by omega⟩
    have := hA.1 1 (by decide)
    have ih := k_am_L (x1 := x1) (x2 := x2) (x := x) hS hA hc d (s + 1) n (by omega) (by omega)
    rw [amN_s, cmp1] at ih
    have h3 := amN_3 A x c s
    have u1 : ∀ w : Int32, w = 0 ∨ w = 1 ∨ w = 2 → jmax w 1 = if (1 : Int32) ≤ w then w else 1 := by
      rintro w (rfl | rfl | rfl) <;> decide
    have u2 : ∀ w : Int32, w = 0 ∨ w = 1 ∨ w = 2 → (2 : Int32) = if (2 : Int32) ≤ w then w else 2 := by
      rintro w (rfl | rfl | rfl) <;> decide
    have u0 : ∀ w : Int32, w = 0 ∨ w = 1 ∨ w = 2 → w = if (0 : Int32) ≤ w then w else 0 := by
      rintro w (rfl | rfl | rfl) <;> decide
    unfold f_X8_among_L36
    rw [bs_b (show rd I 3 2 1 = some (nI (A.1 1)) from k_cnt hS (show 1 < 2 by decide)), if_neg (nI_ge (by omega) (by omega)), bs_b (show f_X8_place 1 (nI s) (nI c) = _ from k_place 1 s c), bs_b (k_cell hS hA (show 1 < 2 by decide) (show s < A.1 1 by omega) hc), nI_1]
    by_cases e1 : x = -1
    · rw [if_pos e1] at ih
      rw [if_pos e1, u1 _ h3]; exact ih
    · rw [if_neg e1] at ih
      rw [if_neg e1]
      by_cases e2 : A.2.1 1 s c = -1
      · rw [if_pos e2] at ih
        rw [if_pos e2, u1 _ h3]; exact ih
      · rw [if_neg e2] at ih
        rw [if_neg e2]
        by_cases e3 : x = A.2.1 1 s c
        · rw [if_pos e3, ← u2 _ h3] at ih
          rw [if_pos e3]; exact ih
        · rw [if_neg e3, ← u0 _ h3] at ih
          rw [if_neg e3]; exact ih
theorem r_am_L {I : Mem} {A : Abs} {i l c : Nat} (hS : RSt (I 71) A) (hA : AOk A) (hi : i < A.1 0) (hl : l < 4) (hc : c < 4) : ∀ (d s n : Nat), s + d = A.1 1 → d < n → f_X9_among_L40 (nI i) (nI l) (nI c) I n (amN A (A.2.1 0 i l) c s) (nI s) = some (amN A (A.2.1 0 i l) c (A.1 1))
  | 0, s, n, hs, hn => by
    obtain ⟨n, rfl⟩ : ∃ m, n = m + 1 := ⟨n - 1, by omega⟩
    have e : s = A.1 1 := by omega
    subst e
    have := hA.1 1 (by decide)
    unfold f_X9_among_L40
    rw [bs_b (show f_X9_many 1 I = some (nI (A.1 1)) from r_many hS (show 1 < 2 by decide)), if_pos (nI_le (Nat.le_refl _) (by omega))]
  | d + 1, s, n, hs, hn => by
    obtain ⟨n, rfl⟩ : ∃ m, n = m + 1 := ⟨n - 1, by omega⟩
    have := hA.1 1 (by decide)
    have ih := r_am_L hS hA hi hl hc d (s + 1) n (by omega) (by omega)
    rw [amN_s] at ih
    unfold f_X9_among_L40
    rw [bs_b (show f_X9_many 1 I = some (nI (A.1 1)) from r_many hS (show 1 < 2 by decide)), if_neg (nI_ge (by omega) (by omega)), bs_b (show f_X9_of 0 (nI i) (nI l) I = some (A.2.1 0 i l) from r_of hS hA (show 0 < 2 by decide) hi hl), bs_b (show f_X9_of 1 (nI s) (nI c) I = some (A.2.1 1 s c) from r_of hS hA (show 1 < 2 by decide) (show s < A.1 1 by omega) hc), bs_b (show f_X9_compared 1 (A.2.1 0 i l) (A.2.1 1 s c) = some (cmpv 1 (A.2.1 0 i l) (A.2.1 1 s c)) from r_compared (s := 1) (by decide) _ _), nI_1]
    by_cases e : cmpv 1 (A.2.1 0 i l) (A.2.1 1 s c) ≤ amN A (A.2.1 0 i l) c s
    · rw [if_pos e] at ih ⊢; exact ih
    · rw [if_neg e] at ih ⊢; exact ih
theorem st_join : ST_join INV := by
  intro I R P Z nx x1 x2 x3 hI hF0 hF1
  obtain ⟨σ, hC, hM, hO⟩ := hI
  have hA := hO.1
  have hM0 := hM.t0 (x := 0)
  rcases a_col x1 with ⟨l, hl, rfl, e0, f0⟩ | ⟨e0, f0⟩
  rotate_left
  · exact ⟨(1, I, R, P, Z), (0, up (up I 70 7 0) 70 7 1), by unfold f_L_join f_X8_join; rw [bs_r e0]; rfl, by unfold f_X9_join; rw [bz_0 f0]; rfl, (show up (up I 70 7 0) 70 7 1 70 7 = 1 from up_eq _ _ _ _), fun h => absurd (show (1 : Int32) = 0 from h) (by decide), INV.ex hC hM hO⟩
  rcases a_col x2 with ⟨r, hr, rfl, e1, f1⟩ | ⟨e1, f1⟩
  rotate_left
  · exact ⟨(1, I, R, P, Z), (0, up (up I 70 7 0) 70 7 1), by unfold f_L_join f_X8_join; rw [bs_l e0, bs_r e1]; rfl, by unfold f_X9_join; rw [bz_1 f0, bz_0 f1]; rfl, (show up (up I 70 7 0) 70 7 1 70 7 = 1 from up_eq _ _ _ _), fun h => absurd (show (1 : Int32) = 0 from h) (by decide), INV.ex hC hM hO⟩
  by_cases hneg : x3 < 0
  · have hn : ¬ (0 : Int32) ≤ x3 := by rw [fa_lt] at hneg; rw [Int32.le_iff_toInt_le]; omega
    exact ⟨(2, I, R, P, Z), (0, up (up I 70 7 0) 70 7 2), by unfold f_L_join f_X8_join; rw [bs_l e0, bs_l e1, if_neg hn]; rfl, by unfold f_X9_join; rw [bz_1 f0, bz_1 f1, if_neg hn]; rfl, (show up (up I 70 7 0) 70 7 2 70 7 = 2 from up_eq _ _ _ _), fun h => absurd (show (2 : Int32) = 0 from h) (by decide), INV.ex hC hM hO⟩
  obtain ⟨k, hk, rfl⟩ := nI_of hneg
  have hge : (0 : Int32) ≤ nI k := nI_le (a := 0) (by omega) (by omega)
  have h0 := hA.1 0 (by decide)
  have h1 := hA.1 1 (by decide)
  have hS := hC.1
  have hR := hM0.1
  by_cases k0 : k = 0
  · subst k0
    have g1 : f_X8_pairCount (nI l) (nI r) I = some (nI (cntb (lin σ.1 l r) (σ.1.1 1 * σ.1.1 0))) := by
      unfold f_X8_pairCount
      rw [bs_b (show f_X8_pairCount_L5 (nI l) (nI r) I fuel 0 0 = _ from k_pc_L hS hA hl hr (σ.1.1 0) 0 fuel (by omega) (by unfold fuel; omega))]
    have hb := lin_b (l := l) (r := r) hA (Nat.le_refl (σ.1.1 0))
    have g2 : f_X9_pairs (nI l) (nI r) (up I 70 7 0) = some (nI (cntb (lin σ.1 l r) (σ.1.1 1 * σ.1.1 0))) := by
      unfold f_X9_pairs
      rw [bs_b (show f_X9_pairs_L2 (nI l) (nI r) (up I 70 7 0) fuel 0 = _ from r_pairs_L hR hA hl hr _ 0 fuel (Nat.zero_add _) (by unfold fuel; omega))]
    exact ⟨(0, I, R, P, (vp_updL Z.1 0 (nI (cntb (lin σ.1 l r) (σ.1.1 1 * σ.1.1 0))).toInt64, Z.2)), (nI (cntb (lin σ.1 l r) (σ.1.1 1 * σ.1.1 0)), up I 70 7 0), by unfold f_L_join f_X8_join; rw [bs_l e0, bs_l e1, if_pos hge, if_pos (show nI 0 = 0 from rfl), bs_b g1]; rfl, by unfold f_X9_join; rw [bz_1 f0, bz_1 f1, if_pos hge, if_pos (show nI 0 = 0 from rfl), bs_b g2], (show (up I 70 7 0) 70 7 = 0 from up_eq _ _ _ _), fun _ => upL0 Z.1 _, INV.q hC hM hO Eqx.rf (Eqx.up (by decide)) KM.thr⟩
  by_cases k1 : k = 1
  · subst k1
    have g1 := k_rwp hS hA (show 0 < 2 by decide) hl (show 1 < 2 by decide) hr
    have g1 : f_X8_rowsWithoutPartner 0 (nI l) 1 (nI r) I = some (msk (fun i => !anyb (gpr σ.1 0 l 1 r i) (σ.1.1 1)) (σ.1.1 0)) := g1
    have g2 := r_alone hR hA hl hr (show 0 < 2 by decide)
    have g2 : f_X9_alone (nI 1 - 1) (nI l) (nI r) (up I 70 7 0) = some (msk (fun i => !anyb (gpr σ.1 0 l 1 r i) (σ.1.1 1)) (σ.1.1 0)) := g2
    exact ⟨(0, I, R, P, (vp_updL Z.1 0 (msk (fun i => !anyb (gpr σ.1 0 l 1 r i) (σ.1.1 1)) (σ.1.1 0)).toInt64, Z.2)), (msk (fun i => !anyb (gpr σ.1 0 l 1 r i) (σ.1.1 1)) (σ.1.1 0), up I 70 7 0), by unfold f_L_join f_X8_join; rw [bs_l e0, bs_l e1, if_pos hge, if_neg (show ¬ nI 1 = 0 by decide), if_pos (show nI 1 = 1 from rfl), bs_b g1]; rfl, by unfold f_X9_join; rw [bz_1 f0, bz_1 f1, if_pos hge, if_neg (show ¬ nI 1 = 0 by decide), if_neg (show ¬ (3 : Int32) ≤ nI 1 by decide), bs_b g2], (show (up I 70 7 0) 70 7 = 0 from up_eq _ _ _ _), fun _ => upL0 Z.1 _, INV.q hC hM hO Eqx.rf (Eqx.up (by decide)) KM.thr⟩
  by_cases k2 : k = 2
  · subst k2
    have g1 := k_rwp hS hA (show 1 < 2 by decide) hr (show 0 < 2 by decide) hl
    have g1 : f_X8_rowsWithoutPartner 1 (nI r) 0 (nI l) I = some (msk (fun i => !anyb (gpr σ.1 1 r 0 l i) (σ.1.1 0)) (σ.1.1 1)) := g1
    have g2 := r_alone hR hA hl hr (show 1 < 2 by decide)
    have g3 : msk (fun i => !anyb (gp2 σ.1 l r 1 i) (σ.1.1 (1 - 1))) (σ.1.1 1) = msk (fun i => !anyb (gpr σ.1 1 r 0 l i) (σ.1.1 0)) (σ.1.1 1) := by
      refine msk_cg (fun s hs => ?_)
      have : gp2 σ.1 l r 1 s = gpr σ.1 1 r 0 l s := funext (fun i => (gpr_sw σ.1 l r i s).symm)
      rw [this]
    rw [g3] at g2
    have g2 : f_X9_alone (nI 2 - 1) (nI l) (nI r) (up I 70 7 0) = some (msk (fun i => !anyb (gpr σ.1 1 r 0 l i) (σ.1.1 0)) (σ.1.1 1)) := g2
    exact ⟨(0, I, R, P, (vp_updL Z.1 0 (msk (fun i => !anyb (gpr σ.1 1 r 0 l i) (σ.1.1 0)) (σ.1.1 1)).toInt64, Z.2)), (msk (fun i => !anyb (gpr σ.1 1 r 0 l i) (σ.1.1 0)) (σ.1.1 1), up I 70 7 0), by unfold f_L_join f_X8_join; rw [bs_l e0, bs_l e1, if_pos hge, if_neg (show ¬ nI 2 = 0 by decide), if_neg (show ¬ nI 2 = 1 by decide), if_pos (show nI 2 = 2 from rfl), bs_b g1]; rfl, by unfold f_X9_join; rw [bz_1 f0, bz_1 f1, if_pos hge, if_neg (show ¬ nI 2 = 0 by decide), if_neg (show ¬ (3 : Int32) ≤ nI 2 by decide), bs_b g2], (show (up I 70 7 0) 70 7 = 0 from up_eq _ _ _ _), fun _ => upL0 Z.1 _, INV.q hC hM hO Eqx.rf (Eqx.up (by decide)) KM.thr⟩
  have hs3 : nI k - 3 = nI (k - 3) := pk_sub (b := 3) (by omega)
  obtain ⟨z, g1, g2⟩ := k_pa hS hA hl hr (show k - 3 < 2147483648 by omega)
  obtain ⟨z2, g3, g4⟩ := r_pair hR hA hl hr (show k - 3 < 2147483648 by omega)
  obtain rfl := pr_uq g2 g4
  rw [← hs3] at g1 g3
  have n0 : ¬ nI k = 0 := nI_ne0 (by omega) (by omega)
  have n1 : ¬ nI k = 1 := fun h => k1 (by rw [show (1 : Int32) = nI 1 from rfl, nI_eq (by omega) (by decide)] at h; exact h)
  have n2 : ¬ nI k = 2 := fun h => k2 (by rw [show (2 : Int32) = nI 2 from rfl, nI_eq (by omega) (by decide)] at h; exact h)
  have n3 : (3 : Int32) ≤ nI k := nI_le (a := 3) (by omega) (by omega)
  exact ⟨(0, I, R, P, (vp_updL Z.1 0 (z).toInt64, Z.2)), (z, up I 70 7 0), by unfold f_L_join f_X8_join; rw [bs_l e0, bs_l e1, if_pos hge, if_neg n0, if_neg n1, if_neg n2, bs_b g1]; rfl, by unfold f_X9_join; rw [bz_1 f0, bz_1 f1, if_pos hge, if_neg n0, if_pos n3, bs_b g3], (show (up I 70 7 0) 70 7 = 0 from up_eq _ _ _ _), fun _ => upL0 Z.1 _, INV.q hC hM hO Eqx.rf (Eqx.up (by decide)) KM.thr⟩
theorem st_among : ST_among INV := by
  intro I R P Z nx x1 x2 x3 hI hF0 hF1
  obtain ⟨σ, hC, hM, hO⟩ := hI
  have hA := hO.1
  have hM0 := hM.t0 (x := 0)
  rcases a_row (0 : Int32) x1 hC.1 hA with ⟨t, r, ht, hr, et, rfl, e0, f0⟩ | ⟨e0, f0⟩
  rotate_left
  · exact ⟨(1, I, R, P, Z), (0, up (up I 70 7 0) 70 7 1), by unfold f_L_among f_X8_among; rw [bs_r e0]; rfl, by unfold f_X9_among; rw [bz_0 (f0 _ hM0.1)]; rfl, (show up (up I 70 7 0) 70 7 1 70 7 = 1 from up_eq _ _ _ _), fun h => absurd (show (1 : Int32) = 0 from h) (by decide), INV.ex hC hM hO⟩
  rcases a_col x2 with ⟨l, hl, rfl, e1, f1⟩ | ⟨e1, f1⟩
  rotate_left
  · exact ⟨(1, I, R, P, Z), (0, up (up I 70 7 0) 70 7 1), by unfold f_L_among f_X8_among; rw [bs_l e0, bs_r e1]; rfl, by unfold f_X9_among; rw [bz_1 (f0 _ hM0.1), bz_0 f1]; rfl, (show up (up I 70 7 0) 70 7 1 70 7 = 1 from up_eq _ _ _ _), fun h => absurd (show (1 : Int32) = 0 from h) (by decide), INV.ex hC hM hO⟩
  rcases a_col x3 with ⟨c, hc, rfl, e2, f2⟩ | ⟨e2, f2⟩
  rotate_left
  · exact ⟨(1, I, R, P, Z), (0, up (up I 70 7 0) 70 7 1), by unfold f_L_among f_X8_among; rw [bs_l e0, bs_l e1, bs_r e2]; rfl, by unfold f_X9_among; rw [bz_1 (f0 _ hM0.1), bz_1 f1, bz_0 f2]; rfl, (show up (up I 70 7 0) 70 7 1 70 7 = 1 from up_eq _ _ _ _), fun h => absurd (show (1 : Int32) = 0 from h) (by decide), INV.ex hC hM hO⟩
  obtain rfl : t = 0 := by
    rcases (show t = 0 ∨ t = 1 by omega) with h | h
    · exact h
    · subst h; exact absurd et (by decide)
  have h1 := hA.1 1 (by decide)
  have hR := hM0.1
  have g1 : f_X8_among_L36 (nI r) (nI l) (nI c) (σ.1.2.1 0 r l) I fuel 0 0 = _ := k_am_L (x1 := nI r) (x2 := nI l) (x := σ.1.2.1 0 r l) hC.1 hA hc (σ.1.1 1) 0 fuel (by omega) (by unfold fuel; omega)
  have g2 : f_X9_among_L40 (nI r) (nI l) (nI c) (up I 70 7 0) fuel 0 0 = _ := r_am_L hR hA hr hl hc (σ.1.1 1) 0 fuel (by omega) (by unfold fuel; omega)
  exact ⟨(0, I, R, P, (vp_updL Z.1 0 (amN σ.1 (σ.1.2.1 0 r l) c (σ.1.1 1)).toInt64, Z.2)), (amN σ.1 (σ.1.2.1 0 r l) c (σ.1.1 1), up I 70 7 0), by unfold f_L_among f_X8_among; rw [bs_l e0, bs_l e1, bs_l e2, bs_b (show f_X8_place 0 (nI r) (nI l) = _ from k_place 0 r l), bs_b (k_cell hC.1 hA (show 0 < 2 by decide) hr hl), bs_b g1]; rfl, by unfold f_X9_among; rw [bz_1 (f0 _ hM0.1), bz_1 f1, bz_1 f2, bs_b g2], (show (up I 70 7 0) 70 7 = 0 from up_eq _ _ _ _), fun _ => upL0 Z.1 _, INV.q hC hM hO Eqx.rf (Eqx.up (by decide)) KM.thr⟩
end MB21
