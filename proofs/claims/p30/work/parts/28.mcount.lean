/-! PURE PART 9: compare, count, share. -/
section MB8
theorem cntb_s (b : Nat → Bool) (n : Nat) : cntb b (n + 1) = cntb b n + (if b n then 1 else 0) := rfl
def relB (w : Nat) (a b : Int32) : Bool := if w = 0 then decide (a = b) else if w = 1 then (decide (a = 2) && !decide (b = 2)) else !decide (b ≤ a)
theorem k_related {w : Nat} (hw : w ≤ 2) (a b : Int32) : f_X8_related a b (nI w) = some (if relB w a b then 1 else 0) := by
  unfold f_X8_related relB
  rcases (show w = 0 ∨ w = 1 ∨ w = 2 by omega) with rfl | rfl | rfl
  · rw [if_pos (show nI 0 = 0 from rfl)]
    by_cases h : a = b <;> simp [h]
  · rw [if_neg (show ¬ nI 1 = 0 by decide), if_pos (show nI 1 = 1 from rfl)]
    by_cases h : a = 2 <;> by_cases h2 : b = 2 <;> simp [h, h2]
  · rw [if_neg (show ¬ nI 2 = 0 by decide), if_neg (show ¬ nI 2 = 1 by decide)]
    by_cases h : b ≤ a <;> simp [h]
theorem r_related {w : Nat} (hw : w ≤ 2) (a b : Int32) : ((if nI w = 0 then (if a = b then some 1 else some 0) else (if nI w = 1 then (if a = 2 then (if b = 2 then some 0 else some 1) else some 0) else (if b ≤ a then some 0 else some 1))) : Option Int32) = some (if relB w a b then 1 else 0) := by
  unfold relB
  rcases (show w = 0 ∨ w = 1 ∨ w = 2 by omega) with rfl | rfl | rfl
  · rw [if_pos (show nI 0 = 0 from rfl)]
    by_cases h : a = b <;> simp [h]
  · rw [if_neg (show ¬ nI 1 = 0 by decide), if_pos (show nI 1 = 1 from rfl)]
    by_cases h : a = 2 <;> by_cases h2 : b = 2 <;> simp [h, h2]
  · rw [if_neg (show ¬ nI 2 = 0 by decide), if_neg (show ¬ nI 2 = 1 by decide)]
    by_cases h : b ≤ a <;> simp [h]
def cmpA (A : Abs) (t : Nat) (L M : List Nat) (w r : Nat) : Bool := relB w (tvA A t r L) (tvA A t r M)
theorem k_cmp_L {R : Rem} {P : Pool} {A : Abs} {t k k2 w : Nat} {L M : List Nat} {x2 x3 : Int32} (hA : AOk A) (ht : t < 2) (hV : fV L) (hV2 : fV M) (hw : w ≤ 2) : ∀ (d r n : Nat) (I : Mem), r + d = A.1 t → d < n → CSt I R P 1 A → FObj I R P k L → FObj I R P k2 M →
    ∃ I', f_X8_compare_L59 (nI t) x2 x3 (nI w) P k k2 R n (nI (cntb (cmpA A t L M w) r)) (nI r) I = some (nI (cntb (cmpA A t L M w) (A.1 t)), I') ∧ Eqx [10, 12, 13, 14, 15] I I'
  | 0, r, n, I, hr, hn, hS, hF, hF2 => by
    obtain ⟨n, rfl⟩ : ∃ m, n = m + 1 := ⟨n - 1, by omega⟩
    have e : r = A.1 t := by omega
    subst e
    have := hA.1 t ht
    refine ⟨I, ?_, Eqx.rf⟩
    unfold f_X8_compare_L59
    rw [k_cnt hS ht]
    simp only [Option.bind_some]
    rw [if_pos (nI_le (Nat.le_refl _) (by omega))]
  | d + 1, r, n, I, hr, hn, hS, hF, hF2 => by
    obtain ⟨n, rfl⟩ : ∃ m, n = m + 1 := ⟨n - 1, by omega⟩
    have hn16 := hA.1 t ht
    obtain ⟨I1, e1, e2⟩ := k_truthFor hS hA ht (show r < A.1 t by omega) hF hV
    obtain ⟨I2, g1, g2⟩ := k_truthFor (hS.eqx e2 (by decide) (by decide) (by decide) (by decide)) hA ht (show r < A.1 t by omega) (hF2.eqx e2 (by decide)) hV2
    have e3 := e2.tr g2
    obtain ⟨I3, f1, f2⟩ := k_cmp_L (x2 := x2) (x3 := x3) hA ht hV hV2 hw d (r + 1) n I2 (by omega) (by omega) (hS.eqx e3 (by decide) (by decide) (by decide) (by decide)) (hF.eqx e3 (by decide)) (hF2.eqx e3 (by decide))
    refine ⟨I3, ?_, e3.tr f2⟩
    rw [cntb_s (cmpA A t L M w) r] at f1
    unfold f_X8_compare_L59
    rw [k_cnt hS ht]
    simp only [Option.bind_some]
    rw [if_neg (nI_ge (by omega) (by omega)), e1]
    simp only [Option.bind_some]
    rw [g1]
    simp only [Option.bind_some]
    rw [k_related hw]
    simp only [Option.bind_some]
    rw [nI_1 r]
    by_cases e : cmpA A t L M w r = true
    · rw [if_pos e] at f1
      rw [if_pos (show relB w (tvA A t r L) (tvA A t r M) = true from e), if_neg (show ¬ (1 : Int32) = 0 by decide), nI_1]
      exact f1
    · rw [if_neg e] at f1
      rw [if_neg (show ¬ relB w (tvA A t r L) (tvA A t r M) = true from e), if_pos (show (0 : Int32) = 0 from rfl)]
      exact f1
theorem k_countRows {I : Mem} {R : Rem} {P : Pool} {A : Abs} {t k : Nat} {L : List Nat} {v : Int32} (hS : CSt I R P 1 A) (hA : AOk A) (ht : t < 2) (hF : FObj I R P k L) (hV : fV L) : ∃ I', f_X8_countRows (nI t) (some k) v P R I = some (nI (cntb (fun r => decide (tvA A t r L = v)) (A.1 t)), I') ∧ Eqx [10, 12, 13, 14, 15] I I' := by
  obtain ⟨I', e1, e2⟩ := k_rowsWith (v := v) hS hA ht hF hV
  refine ⟨I', ?_, e2⟩
  unfold f_X8_countRows
  rw [oq_s, e1]
  simp only [Option.bind_some]
  unfold tmask
  rw [k_bitsM (hA.1 t ht)]
  rfl
theorem k_filled_L {R : Rem} {P : Pool} {A : Abs} {I : Mem} (hS : CSt I R P 1 A) (hA : AOk A) : ∀ (d s n : Nat), s + d = 6 → d < n → f_X8_filledSlots_L4 P R n (nI (cntb (fun s => !decide (A.2.2.1 s = [])) s)) (nI s) = some (nI (cntb (fun s => !decide (A.2.2.1 s = [])) 6))
  | 0, s, n, hs, hn => by
    obtain ⟨n, rfl⟩ : ∃ m, n = m + 1 := ⟨n - 1, by omega⟩
    have e : s = 6 := by omega
    subst e
    unfold f_X8_filledSlots_L4
    rw [if_pos (show (6 : Int32) ≤ nI 6 by decide)]
  | d + 1, s, n, hs, hn => by
    obtain ⟨n, rfl⟩ : ∃ m, n = m + 1 := ⟨n - 1, by omega⟩
    have ih := k_filled_L hS hA d (s + 1) n (by omega) (by omega)
    rw [show cntb (fun s => !decide (A.2.2.1 s = [])) (s + 1) = cntb (fun s => !decide (A.2.2.1 s = [])) s + (if (!decide (A.2.2.1 s = [])) = true then 1 else 0) from rfl] at ih
    unfold f_X8_filledSlots_L4
    rw [if_neg (show ¬ (6 : Int32) ≤ nI s from nI_ge (b := 6) (by omega) (by decide)), nI_1]
    rcases s_slot hS hA (show s < 6 by omega) with ⟨o1, o2⟩ | ⟨k, o1, o2, hF, hV⟩
    · rw [o1]
      simp only [Option.bind_some, oq_n]
      rw [o2] at ih
      exact ih
    · rw [o1]
      simp only [Option.bind_some, oq_s]
      rw [if_pos (show (!decide (A.2.2.1 s = [])) = true by simp [fV_ne hV])] at ih
      rw [nI_1]
      exact ih
theorem fp_tab : ∀ n, n < 17 → ∀ k, k < 17 → k ≤ n → 0 < n → (FP.ddiv (FP.i2d (nI k)) (FP.i2d (nI n)) &&& 0x7fffffffffffffff ≤ 0x7ff0000000000000) ∧ Op.cmpValue (FP.dcmp (FP.ddiv (FP.i2d (nI k)) (FP.i2d (nI n))) (FP.ddiv (FP.i2d (nI k)) (FP.i2d (nI n)))) .l = 0 := by decide +kernel
theorem fp_zero : ∀ n, n < 17 → (Op.cmpValue (FP.dcmp (FP.i2d (nI n)) FP.dconst0) .l = 0 ↔ n = 0) := by decide +kernel
theorem fp_00 : Op.cmpValue (FP.dcmp FP.dconst0 FP.dconst0) .l = 0 := by decide +kernel
theorem fp_i0 : FP.i2d (nI 0) = FP.dconst0 := by decide +kernel
theorem upD0 (f : Nat → UInt64) (x : UInt64) : vf_upd f 0 x 0 = x := by simp [vf_upd]
end MB8
