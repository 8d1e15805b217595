/-! PURE PART 20: column. -/
section MB19
def kn (A : Abs) (t c r : Nat) : Bool := !decide (A.2.1 t r c = -1)
def sumb (b : Nat → Bool) (A : Abs) (t c : Nat) : Nat → Nat
  | 0 => 0
  | r + 1 => sumb b A t c r + if (b r && kn A t c r) = true then vl (A.2.1 t r c) else 0
theorem sumb_s (b : Nat → Bool) (A : Abs) (t c r : Nat) : sumb b A t c (r + 1) = sumb b A t c r + if (b r && kn A t c r) = true then vl (A.2.1 t r c) else 0 := rfl
theorem sumb_cg {b b2 : Nat → Bool} {A : Abs} {t c : Nat} : ∀ {n : Nat}, (∀ r, r < n → b r = b2 r) → sumb b A t c n = sumb b2 A t c n
  | 0, _ => rfl
  | n + 1, h => by rw [sumb_s, sumb_s, h n (by omega), sumb_cg (fun r hr => h r (by omega))]
def lsN (A : Abs) (t c : Nat) : Nat → Int32
  | 0 => -2
  | r + 1 => if A.2.1 t r c = -1 then lsN A t c r else if cntb (kn A t c) r = 0 then A.2.1 t r c else jmin (lsN A t c r) (A.2.1 t r c)
def gtN (A : Abs) (t c : Nat) : Nat → Int32
  | 0 => -2
  | r + 1 => if A.2.1 t r c = -1 then gtN A t c r else jmax (gtN A t c r) (A.2.1 t r c)
theorem lsN_s (A : Abs) (t c r : Nat) : lsN A t c (r + 1) = if A.2.1 t r c = -1 then lsN A t c r else if cntb (kn A t c) r = 0 then A.2.1 t r c else jmin (lsN A t c r) (A.2.1 t r c) := rfl
theorem gtN_s (A : Abs) (t c r : Nat) : gtN A t c (r + 1) = if A.2.1 t r c = -1 then gtN A t c r else jmax (gtN A t c r) (A.2.1 t r c) := rfl
theorem kn_t {A : Abs} {t c r : Nat} (h : ¬ A.2.1 t r c = -1) : kn A t c r = true := by unfold kn; simp [h]
theorem kn_f {A : Abs} {t c r : Nat} (h : A.2.1 t r c = -1) : kn A t c r = false := by unfold kn; simp [h]
theorem nI_z (n : Nat) : nI n + 0 = nI n := by rw [show (0 : Int32) = nI 0 from rfl, nI_add, Nat.add_zero]
theorem k_col_L {I : Mem} {R : Rem} {P : Pool} {A : Abs} {t c : Nat} {x3 : Int32} (hS : CSt I R P 1 A) (hA : AOk A) (ht : t < 2) (hc : c < 4) : ∀ (d r n : Nat), r + d = A.1 t → d < n → f_X8_column_L42 (nI t) (nI c) x3 (nI (A.1 t)) I n (nI (cntb (kn A t c) r)) (nI (sumb (fun _ => true) A t c r)) (lsN A t c r) (gtN A t c r) (nI r) = some (nI (cntb (kn A t c) (A.1 t)), nI (sumb (fun _ => true) A t c (A.1 t)), lsN A t c (A.1 t), gtN A t c (A.1 t))
  | 0, r, n, hr, hn => by
    obtain ⟨n, rfl⟩ : ∃ m, n = m + 1 := ⟨n - 1, by omega⟩
    have e : r = A.1 t := by omega
    subst e
    have := hA.1 t ht
    unfold f_X8_column_L42
    rw [if_pos (nI_le (Nat.le_refl _) (by omega))]
  | d + 1, r, n, hr, hn => by
    obtain ⟨n, rfl⟩ : ∃ m, n = m + 1 := ⟨n - 1, by omega⟩
    have h16 := hA.1 t ht
    have ih := k_col_L (x3 := x3) hS hA ht hc d (r + 1) n (by omega) (by omega)
    have hcn := cntb_le (kn A t c) r
    rw [cntb_s, sumb_s, lsN_s, gtN_s, Bool.true_and] at ih
    unfold f_X8_column_L42
    rw [if_neg (nI_ge (by omega) (by omega)), bs_b (k_place t r c), bs_b (k_cell hS hA ht (show r < A.1 t by omega) hc), nI_1 r]
    by_cases e : A.2.1 t r c = -1
    · rw [kn_f e, if_neg (show ¬ false = true by decide), if_neg (show ¬ false = true by decide), if_pos e, if_pos e] at ih
      rw [if_pos e]; exact ih
    · have hv := cok_vl (hA.2.1 t r c ht (by omega) hc) e
      have h3 : nI (sumb (fun _ => true) A t c r) + A.2.1 t r c = nI (sumb (fun _ => true) A t c r + vl (A.2.1 t r c)) := by
        rw [← nI_add]; exact congrArg (fun z => nI (sumb (fun _ => true) A t c r) + z) hv.2
      rw [kn_t e, if_pos (show true = true from rfl), if_pos (show true = true from rfl), if_neg e, if_neg e] at ih
      rw [if_neg e, nI_1, h3]
      by_cases e2 : cntb (kn A t c) r = 0
      · rw [if_pos e2] at ih
        rw [if_pos (show nI (cntb (kn A t c) r) = 0 by rw [e2]; rfl)]
        exact ih
      · rw [if_neg e2] at ih
        rw [if_neg (nI_ne0 (by omega) (by omega))]
        exact ih
/-! least and greatest -/
theorem cntb_zf {b : Nat → Bool} : ∀ {n : Nat}, cntb b n = 0 → ∀ i, i < n → b i = false
  | 0, _, i, hi => by omega
  | n + 1, h, i, hi => by
    rw [cntb_s] at h
    have h1 : cntb b n = 0 := by omega
    by_cases e : i = n
    · rw [e]
      cases hb : b n with
      | false => rfl
      | true => rw [hb] at h; simp at h
    · exact cntb_zf h1 i (by omega)
theorem cntb_nz {b : Nat → Bool} : ∀ {n : Nat}, ¬ cntb b n = 0 → ∃ i, i < n ∧ b i = true
  | 0, h => absurd rfl h
  | n + 1, h => by
    by_cases e : b n = true
    · exact ⟨n, by omega, e⟩
    · rw [cntb_s, if_neg e, Nat.add_zero] at h
      obtain ⟨i, h1, h2⟩ := cntb_nz h
      exact ⟨i, by omega, h2⟩
theorem fst_uq {h : Nat → Bool} {a : Nat} {z z2 : Int32} (h1 : isFst h a z) (h2 : isFst h a z2) : z = z2 := by
  rcases h1 with ⟨w, a1, a2, a3, a4, rfl⟩ | ⟨a1, rfl⟩
  · rcases h2 with ⟨v, b1, b2, b3, b4, rfl⟩ | ⟨b1, rfl⟩
    · rcases Nat.lt_trichotomy w v with e | e | e
      · rw [b4 w a1 e] at a3; exact absurd a3 (by decide)
      · rw [e]
      · rw [a4 v b1 e] at b3; exact absurd b3 (by decide)
    · rw [b1 w a1 a2] at a3; exact absurd a3 (by decide)
  · rcases h2 with ⟨v, b1, b2, b3, b4, rfl⟩ | ⟨b1, rfl⟩
    · rw [a1 v b1 b2] at b3; exact absurd b3 (by decide)
    · rfl
theorem lst_uq {h : Nat → Bool} {z z2 : Int32} (h1 : isLst h z) (h2 : isLst h z2) : z = z2 := by
  rcases h1 with ⟨w, a2, a3, a4, rfl⟩ | ⟨a1, rfl⟩
  · rcases h2 with ⟨v, b2, b3, b4, rfl⟩ | ⟨b1, rfl⟩
    · rcases Nat.lt_trichotomy w v with e | e | e
      · rw [a4 v e b2] at b3; exact absurd b3 (by decide)
      · rw [e]
      · rw [b4 w e a2] at a3; exact absurd a3 (by decide)
    · rw [b1 w a2] at a3; exact absurd a3 (by decide)
  · rcases h2 with ⟨v, b2, b3, b4, rfl⟩ | ⟨b1, rfl⟩
    · rw [a1 v b2] at b3; exact absurd b3 (by decide)
    · rfl
def hasr (A : Abs) (t c r w : Nat) : Bool := anyb (fun i => decide (A.2.1 t i c = nI w)) r
theorem hasr_s (A : Abs) (t c r w : Nat) : hasr A t c (r + 1) w = (hasr A t c r w || decide (A.2.1 t r c = nI w)) := rfl
theorem jmin_n {a b : Nat} (ha : a < 2147483648) (hb : b < 2147483648) : jmin (nI a) (nI b) = nI (if b < a then b else a) := by
  unfold jmin
  by_cases e : b < a
  · rw [if_pos e, if_pos (nI_lt e ha)]
  · rw [if_neg e, if_neg (nI_nlt (by omega) (by omega))]
theorem jmax_n {a b : Nat} (ha : a < 2147483648) (hb : b < 2147483648) : jmax (nI a) (nI b) = nI (if a < b then b else a) := by
  unfold jmax
  by_cases e : a < b
  · rw [if_pos e, if_pos (nI_lt e hb)]
  · rw [if_neg e, if_neg (nI_nlt (by omega) (by omega))]
theorem ls_fst {A : Abs} {t c : Nat} (hA : AOk A) (ht : t < 2) (hc : c < 4) : ∀ r, r ≤ A.1 t → isFst (hasr A t c r) 0 (lsN A t c r)
  | 0, _ => Or.inr ⟨fun _ _ _ => rfl, rfl⟩
  | r + 1, hr => by
    have ih := ls_fst hA ht hc r (by omega)
    rw [lsN_s]
    by_cases e : A.2.1 t r c = -1
    · have hs : ∀ w, w < 100 → hasr A t c (r + 1) w = hasr A t c r w := fun w hw => by
        rw [hasr_s, e, decide_eq_false (fun h => nI_pos (show w < 2 ^ 31 by omega) (by rw [← h]; decide)), Bool.or_false]
      rw [if_pos e]
      rcases ih with ⟨w, a1, a2, a3, a4, a5⟩ | ⟨a1, a2⟩
      · exact Or.inl ⟨w, a1, a2, by rw [hs w a2]; exact a3, fun j h1 h2 => by rw [hs j (by omega)]; exact a4 j h1 h2, a5⟩
      · exact Or.inr ⟨fun j h1 h2 => by rw [hs j h2]; exact a1 j h1 h2, a2⟩
    · obtain ⟨hv1, hv2⟩ := cok_vl (hA.2.1 t r c ht (by omega) hc) e
      have hs : ∀ w, w < 100 → hasr A t c (r + 1) w = (hasr A t c r w || decide (vl (A.2.1 t r c) = w)) := fun w hw => by
        rw [hasr_s]
        congr 1
        by_cases e2 : vl (A.2.1 t r c) = w
        · rw [decide_eq_true e2, decide_eq_true (show A.2.1 t r c = nI w by rw [← e2]; exact hv2)]
        · rw [decide_eq_false e2, decide_eq_false (fun h => e2 (by rw [h, vl_n (by omega)]))]
      rw [if_neg e]
      by_cases e3 : cntb (kn A t c) r = 0
      · rw [if_pos e3]
        have hn : ∀ w, w < 100 → hasr A t c r w = false := fun w hw => by
          cases hq : hasr A t c r w with
          | false => rfl
          | true =>
            obtain ⟨i, h1, h2⟩ := (anyb_iff _ _).mp hq
            have h3 := cntb_zf e3 i h1
            have h2 : A.2.1 t i c = nI w := of_decide_eq_true h2
            rw [kn_t (by rw [h2]; exact fun h => nI_pos (show w < 2 ^ 31 by omega) (by rw [h]; decide))] at h3
            exact absurd h3 (by decide)
        refine Or.inl ⟨vl (A.2.1 t r c), Nat.zero_le _, hv1, by rw [hs _ hv1, decide_eq_true rfl, Bool.or_true], fun j h1 h2 => ?_, hv2⟩
        rw [hs j (by omega), hn j (by omega), decide_eq_false (by omega)]; rfl
      · rw [if_neg e3]
        obtain ⟨i, h1, h2⟩ := cntb_nz e3
        have hi : ¬ A.2.1 t i c = -1 := fun h => by rw [kn_f h] at h2; exact absurd h2 (by decide)
        obtain ⟨hi1, hi2⟩ := cok_vl (hA.2.1 t i c ht (by omega) hc) hi
        have hh : hasr A t c r (vl (A.2.1 t i c)) = true := (anyb_iff _ _).mpr ⟨i, h1, decide_eq_true hi2⟩
        rcases ih with ⟨w, a1, a2, a3, a4, a5⟩ | ⟨a1, a2⟩
        · have hj : jmin (lsN A t c r) (A.2.1 t r c) = nI (if vl (A.2.1 t r c) < w then vl (A.2.1 t r c) else w) := by
            rw [a5]
            have := jmin_n (a := w) (b := vl (A.2.1 t r c)) (by omega) (by omega)
            rw [← hv2] at this
            exact this
          refine Or.inl ⟨_, Nat.zero_le _, ?_, ?_, fun j h3 h4 => ?_, hj⟩
          · split <;> omega
          · split
            · rw [hs _ hv1, decide_eq_true rfl, Bool.or_true]
            · rw [hs w a2, a3]; rfl
          · have h5 : j < vl (A.2.1 t r c) ∧ j < w := by
              split at h4 <;> omega
            rw [hs j (by omega), a4 j h3 h5.2, decide_eq_false (by omega)]; rfl
        · rw [a1 _ (Nat.zero_le _) hi1] at hh; exact absurd hh (by decide)
theorem m2_lt {v : Nat} (hv : v < 2147483648) : (-2 : Int32) < nI v := by
  rw [fa_lt, nI_toInt (by omega)]
  have : (-2 : Int32).toInt = -2 := rfl
  omega
theorem gt_lst {A : Abs} {t c : Nat} (hA : AOk A) (ht : t < 2) (hc : c < 4) : ∀ r, r ≤ A.1 t → isLst (hasr A t c r) (gtN A t c r)
  | 0, _ => Or.inr ⟨fun _ _ => rfl, rfl⟩
  | r + 1, hr => by
    have ih := gt_lst hA ht hc r (by omega)
    rw [gtN_s]
    by_cases e : A.2.1 t r c = -1
    · have hs : ∀ w, w < 100 → hasr A t c (r + 1) w = hasr A t c r w := fun w hw => by
        rw [hasr_s, e, decide_eq_false (fun h => nI_pos (show w < 2 ^ 31 by omega) (by rw [← h]; decide)), Bool.or_false]
      rw [if_pos e]
      rcases ih with ⟨w, a2, a3, a4, a5⟩ | ⟨a1, a2⟩
      · exact Or.inl ⟨w, a2, by rw [hs w a2]; exact a3, fun j h1 h2 => by rw [hs j h2]; exact a4 j h1 h2, a5⟩
      · exact Or.inr ⟨fun j h2 => by rw [hs j h2]; exact a1 j h2, a2⟩
    · obtain ⟨hv1, hv2⟩ := cok_vl (hA.2.1 t r c ht (by omega) hc) e
      have hs : ∀ w, w < 100 → hasr A t c (r + 1) w = (hasr A t c r w || decide (vl (A.2.1 t r c) = w)) := fun w hw => by
        rw [hasr_s]
        congr 1
        by_cases e2 : vl (A.2.1 t r c) = w
        · rw [decide_eq_true e2, decide_eq_true (show A.2.1 t r c = nI w by rw [← e2]; exact hv2)]
        · rw [decide_eq_false e2, decide_eq_false (fun h => e2 (by rw [h, vl_n (by omega)]))]
      rw [if_neg e]
      rcases ih with ⟨w, a2, a3, a4, a5⟩ | ⟨a1, a2⟩
      · have hj : jmax (gtN A t c r) (A.2.1 t r c) = nI (if w < vl (A.2.1 t r c) then vl (A.2.1 t r c) else w) := by
          rw [a5]
          have := jmax_n (a := w) (b := vl (A.2.1 t r c)) (by omega) (by omega)
          rw [← hv2] at this
          exact this
        refine Or.inl ⟨_, ?_, ?_, fun j h3 h4 => ?_, hj⟩
        · split <;> omega
        · split
          · rw [hs _ hv1, decide_eq_true rfl, Bool.or_true]
          · rw [hs w a2, a3]; rfl
        · have h5 : vl (A.2.1 t r c) < j ∧ w < j := by
            split at h3 <;> omega
          rw [hs j h4, a4 j h5.2 h4, decide_eq_false (by omega)]; rfl
      · have hj : jmax (gtN A t c r) (A.2.1 t r c) = A.2.1 t r c := by
          unfold jmax
          rw [a2, if_pos]
          rw [hv2]; exact m2_lt (by omega)
        rw [hj]
        refine Or.inl ⟨_, hv1, by rw [hs _ hv1, decide_eq_true rfl, Bool.or_true], fun j h3 h4 => ?_, hv2⟩
        rw [hs j h4, a1 j h4, decide_eq_false (by omega)]; rfl
/-! the reference's sums -/
theorem hb_m1 {r : Nat} (h : r < 32) : hb (-1) r = true := by rw [hb_bt _ h]; exact b_m1 r h
def colV (A : Abs) (t c : Nat) (x3 : Int32) : Int32 :=
  if x3 = 0 then nI (cntb (kn A t c) (A.1 t)) else if x3 = 1 then nI (A.1 t) - nI (cntb (kn A t c) (A.1 t)) else if x3 = 2 then nI (sumb (fun _ => true) A t c (A.1 t)) else if x3 = 3 then lsN A t c (A.1 t) else if x3 = 4 then gtN A t c (A.1 t) else if x3 = 5 then nI (cntb (hasv A t c) 100) else if nI (cntb (kn A t c) (A.1 t)) = 0 then -2 else nI (sumb (fun _ => true) A t c (A.1 t)) / nI (cntb (kn A t c) (A.1 t))
theorem k_column {I : Mem} {R : Rem} {P : Pool} {A : Abs} {t c : Nat} {x3 : Int32} (hS : CSt I R P 1 A) (hA : AOk A) (ht : t < 2) (hc : c < 4) (e0 : f_X8_requireTable (nI t) = some (.inl ())) (e1 : f_X8_requireColumn (nI c) = some (.inl ())) (e2 : f_X8_requireRange x3 6 = some (.inl ())) : f_X8_column (nI t) (nI c) x3 I = some (.inl (colV A t c x3)) := by
  have := hA.1 t ht
  unfold f_X8_column
  rw [bs_l e0, bs_l e1, bs_l e2, bs_b (k_cnt hS ht), bs_b (show f_X8_column_L42 (nI t) (nI c) x3 (nI (A.1 t)) I fuel 0 0 (-2) (-2) 0 = _ from k_col_L hS hA ht hc (A.1 t) 0 fuel (by omega) (by unfold fuel; omega))]
  unfold colV
  by_cases h0 : x3 = 0
  · rw [if_pos h0, if_pos h0]
  rw [if_neg h0, if_neg h0]
  by_cases h1 : x3 = 1
  · rw [if_pos h1, if_pos h1]
  rw [if_neg h1, if_neg h1]
  by_cases h2 : x3 = 2
  · rw [if_pos h2, if_pos h2]
  rw [if_neg h2, if_neg h2]
  by_cases h3 : x3 = 3
  · rw [if_pos h3, if_pos h3]
  rw [if_neg h3, if_neg h3]
  by_cases h4 : x3 = 4
  · rw [if_pos h4, if_pos h4]
  rw [if_neg h4, if_neg h4]
  by_cases h5 : x3 = 5
  · rw [if_pos h5, if_pos h5, bs_b (k_diff hS hA ht hc)]
  rw [if_neg h5, if_neg h5]
  by_cases h6 : nI (cntb (kn A t c) (A.1 t)) = 0
  · rw [if_pos h6, if_pos h6]
  · rw [if_neg h6, if_neg h6, if_neg h6]
end MB19
