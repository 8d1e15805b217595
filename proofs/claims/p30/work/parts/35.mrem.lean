/-! PURE PART 16: drop, remove. -/
section MB15
/-- the rows that stay -/
def kp (b : Nat → Bool) (n : Nat) : List Nat := (List.range n).filter (fun i => !b i)
theorem kp_s (b : Nat → Bool) (n : Nat) : kp b (n + 1) = kp b n ++ if b n = true then [] else [n] := by
  unfold kp
  rw [List.range_succ, List.filter_append]
  cases h : b n <;> simp [h]
theorem kp_le (b : Nat → Bool) (n : Nat) : (kp b n).length ≤ n := by
  have := List.length_filter_le (fun i => !b i) (List.range n)
  rw [List.length_range] at this
  exact this
theorem kp_lt {b : Nat → Bool} {n x : Nat} (h : x ∈ kp b n) : x < n := List.mem_range.mp (List.mem_filter.mp h).1
def srcA (A : Abs) (t : Nat) (l : List Nat) : Abs := ((fun t' => if t' = t then l.length else A.1 t'), (fun t' r' c' => if t' = t then A.2.1 t (l[r']?.getD 0) c' else A.2.1 t' r' c'), A.2.2)
theorem k_row_L {I0 : Mem} {t l r : Nat} {x2 : Int32} (ht : t < 2) (hl : l ≤ r) (hr : r < 16) : ∀ (d c n : Nat) (I : Mem), c + d = 4 → d < n → Eqx [2] I0 I → (∀ j, j < c → I 2 ((t * 16 + l) * 4 + j) = I0 2 ((t * 16 + r) * 4 + j)) → (∀ k, k < (t * 16 + l) * 4 ∨ (t * 16 + l) * 4 + c ≤ k → I 2 k = I0 2 k) →
    ∃ I', f_X8_removeRows_L31 (nI t) x2 (nI l) (nI r) n (nI c) I = some I' ∧ Eqx [2] I0 I' ∧ (∀ j, j < 4 → I' 2 ((t * 16 + l) * 4 + j) = I0 2 ((t * 16 + r) * 4 + j)) ∧ (∀ k, k < (t * 16 + l) * 4 ∨ (t * 16 + l) * 4 + 4 ≤ k → I' 2 k = I0 2 k)
  | 0, c, n, I, hc, hn, hE, h1, h2 => by
    obtain ⟨n, rfl⟩ : ∃ m, n = m + 1 := ⟨n - 1, by omega⟩
    have e : c = 4 := by omega
    subst e
    refine ⟨I, ?_, hE, h1, h2⟩
    unfold f_X8_removeRows_L31
    rw [if_pos (show (4 : Int32) ≤ nI 4 by decide)]
  | d + 1, c, n, I, hc, hn, hE, h1, h2 => by
    obtain ⟨n, rfl⟩ : ∃ m, n = m + 1 := ⟨n - 1, by omega⟩
    have hv : I 2 ((t * 16 + r) * 4 + c) = I0 2 ((t * 16 + r) * 4 + c) := h2 _ (by omega)
    unfold f_X8_removeRows_L31
    rw [if_neg (show ¬ (4 : Int32) ≤ nI c from nI_ge (b := 4) (by omega) (by decide)), bs_b (k_place t l c), bs_b (k_place t r c), bs_b (rd_e ((t * 16 + r) * 4 + c) rfl (by omega) (by decide)), bs_b (wr_e ((t * 16 + l) * 4 + c) rfl (by omega) (by decide)), nI_1, hv]
    refine k_row_L ht hl hr d (c + 1) n _ (by omega) (by omega) (hE.tr (Eqx.up (by decide))) (fun j hj => ?_) (fun k hk => ?_)
    · by_cases e : j = c
      · subst e; rw [up_eq]
      · rw [up_nk _ _ (by omega)]; exact h1 j (by omega)
    · rw [up_nk _ _ (by omega)]; exact h2 k (by omega)
theorem k_rem_L {I0 : Mem} {A : Abs} {R : Rem} {P : Pool} {t : Nat} {x2 : Int32} (hS : CSt I0 R P 1 A) (hA : AOk A) (ht : t < 2) : ∀ (d r n : Nat) (I : Mem), r + d = A.1 t → d < n → Eqx [2] I0 I → (∀ i x c, (kp (hb x2) r)[i]? = some x → c < 4 → I 2 ((t * 16 + i) * 4 + c) = A.2.1 t x c) → (∀ k, k < t * 16 * 4 ∨ (t * 16 + r) * 4 ≤ k → I 2 k = I0 2 k) →
    ∃ I', f_X8_removeRows_L5 (nI t) x2 n (nI (kp (hb x2) r).length) (nI r) I = some (nI (kp (hb x2) (A.1 t)).length, I') ∧ Eqx [2] I0 I' ∧ (∀ i x c, (kp (hb x2) (A.1 t))[i]? = some x → c < 4 → I' 2 ((t * 16 + i) * 4 + c) = A.2.1 t x c) ∧ (∀ k, k < t * 16 * 4 ∨ (t * 16 + A.1 t) * 4 ≤ k → I' 2 k = I0 2 k)
  | 0, r, n, I, hr, hn, hE, h1, h2 => by
    obtain ⟨n, rfl⟩ : ∃ m, n = m + 1 := ⟨n - 1, by omega⟩
    have e : r = A.1 t := by omega
    subst e
    have := hA.1 t ht
    refine ⟨I, ?_, hE, h1, h2⟩
    unfold f_X8_removeRows_L5
    rw [bs_b (show rd I 3 2 (nI t) = some (nI (A.1 t)) by rw [rd_e t rfl ht (by decide), hE 3 (by decide), hS.1 t ht]), if_pos (nI_le (Nat.le_refl _) (by omega))]
  | d + 1, r, n, I, hr, hn, hE, h1, h2 => by
    obtain ⟨n, rfl⟩ : ∃ m, n = m + 1 := ⟨n - 1, by omega⟩
    have h16 := hA.1 t ht
    have hkl := kp_le (hb x2) r
    have ks := kp_s (hb x2) r
    unfold f_X8_removeRows_L5
    rw [bs_b (show rd I 3 2 (nI t) = some (nI (A.1 t)) by rw [rd_e t rfl ht (by decide), hE 3 (by decide), hS.1 t ht]), if_neg (nI_ge (by omega) (by omega)), bs_b (k_hasBit x2 r), nI_1 r]
    by_cases e : hb x2 r = true
    · rw [if_pos e, List.append_nil] at ks
      rw [if_pos e, if_neg (show ¬ (1 : Int32) = 0 by decide), ← ks]
      exact k_rem_L hS hA ht d (r + 1) n I (by omega) (by omega) hE (by rw [ks]; exact h1) (fun k hk => h2 k (by omega))
    · rw [if_neg e] at ks
      rw [if_neg e, if_pos (show (0 : Int32) = 0 from rfl)]
      obtain ⟨I1, p1, p2, p3, p4⟩ := k_row_L (I0 := I) (x2 := x2) ht hkl (show r < 16 by omega) 4 0 fuel I rfl (by unfold fuel; omega) Eqx.rf (fun j hj => absurd hj (by omega)) (fun _ _ => rfl)
      have hlen : (kp (hb x2) (r + 1)).length = (kp (hb x2) r).length + 1 := by rw [ks]; simp
      rw [bs_b (show f_X8_removeRows_L31 (nI t) x2 (nI (kp (hb x2) r).length) (nI r) fuel 0 I = some I1 from p1), nI_1, ← hlen]
      refine k_rem_L hS hA ht d (r + 1) n I1 (by omega) (by omega) (hE.tr p2) (fun i x c hi hc => ?_) (fun k hk => ?_)
      · have hi2 := (List.getElem?_eq_some_iff.mp hi).1
        rw [hlen] at hi2
        rw [ks] at hi
        by_cases e2 : i < (kp (hb x2) r).length
        · rw [List.getElem?_append_left e2] at hi
          rw [p4 _ (by omega)]
          exact h1 i x c hi hc
        · have e3 : i = (kp (hb x2) r).length := by omega
          rw [e3, List.getElem?_append_right (Nat.le_refl _), Nat.sub_self] at hi
          have e4 : r = x := Option.some.inj hi
          rw [e3, p3 c hc, h2 _ (by omega), ← e4]
          exact hS.2.1 t r c ht (by omega) hc
      · rw [p4 k (by omega)]; exact h2 k (by omega)
theorem k_remRows {I : Mem} {A : Abs} {R : Rem} {P : Pool} {t : Nat} {x2 : Int32} (hS : CSt I R P 1 A) (hA : AOk A) (ht : t < 2) : ∃ I', f_X8_removeRows (nI t) x2 I = some I' ∧ Eqx [2, 3] I I' ∧ CSt I' R P 1 (srcA A t (kp (hb x2) (A.1 t))) := by
  have h16 := hA.1 t ht
  obtain ⟨I1, p1, p2, p3, p4⟩ := k_rem_L (x2 := x2) hS hA ht (A.1 t) 0 fuel I (by omega) (by unfold fuel; omega) Eqx.rf (fun i x c hi hc => by simp [kp] at hi) (fun _ _ => rfl)
  have hkl := kp_le (hb x2) (A.1 t)
  refine ⟨up I1 3 t (nI (kp (hb x2) (A.1 t)).length), ?_, (p2.mono (by decide)).tr (Eqx.up (by decide)), ?_⟩
  · unfold f_X8_removeRows
    rw [bs_b (show f_X8_removeRows_L5 (nI t) x2 fuel 0 0 I = some (nI (kp (hb x2) (A.1 t)).length, I1) from p1), bs_b (wr_e t rfl ht (by decide))]
  · refine hS.set (fun a ha => by rw [up_ne _ _ _ (by omega), p2 a (by simp; omega)]) (fun t' ht' => ?_) (fun t' r' c' ht' hr' hc' => ?_) rfl (by rw [up_ne _ _ _ (by decide), p2 1 (by decide)]; exact hS.2.2.2.2)
    · show up I1 3 t (nI (kp (hb x2) (A.1 t)).length) 3 t' = nI (if t' = t then (kp (hb x2) (A.1 t)).length else A.1 t')
      by_cases e : t' = t
      · rw [if_pos e, e, up_eq]
      · rw [if_neg e, up_nk _ _ e, p2 3 (by decide)]; exact hS.1 t' ht'
    · have hr' : r' < (if t' = t then (kp (hb x2) (A.1 t)).length else A.1 t') := hr'
      show up I1 3 t (nI (kp (hb x2) (A.1 t)).length) 2 ((t' * 16 + r') * 4 + c') = (if t' = t then A.2.1 t ((kp (hb x2) (A.1 t))[r']?.getD 0) c' else A.2.1 t' r' c')
      rw [up_ne _ _ _ (by decide)]
      by_cases e : t' = t
      · rw [if_pos e] at hr' ⊢
        rw [e, p3 r' _ c' (List.getElem?_eq_getElem hr') hc', List.getElem?_eq_getElem hr']
        rfl
      · rw [if_neg e] at hr' ⊢
        have := hA.1 t' ht'
        rw [p4 _ (by omega)]
        exact hS.2.1 t' r' c' ht' hr' hc'
/-! the reference drops a row -/
theorem srcA_ok {A : Abs} {t : Nat} {l : List Nat} (hA : AOk A) (ht : t < 2) (hl : l.length ≤ 16) (hm : ∀ x ∈ l, x < A.1 t) : AOk (srcA A t l) := by
  refine ⟨fun t' h1 => ?_, fun t' r' c' h1 h2 h3 => ?_, hA.2.2⟩
  · show (if t' = t then l.length else A.1 t') ≤ 16
    split
    · exact hl
    · exact hA.1 t' h1
  · have h2 : r' < (if t' = t then l.length else A.1 t') := h2
    show cok (if t' = t then A.2.1 t (l[r']?.getD 0) c' else A.2.1 t' r' c')
    split
    · rename_i e
      rw [if_pos e] at h2
      rw [List.getElem?_eq_getElem h2]
      exact hA.2.1 t _ c' ht (hm _ (List.getElem_mem h2)) h3
    · rename_i e
      rw [if_neg e] at h2
      exact hA.2.1 t' r' c' h1 h2 h3
/-- the rows left when the rows with numbers m and more have been looked at -/
def lft (b : Nat → Bool) (N m : Nat) : List Nat := List.range (min m N) ++ (List.range' m (N - m)).filter (fun i => !b i)
theorem lft_0 (b : Nat → Bool) (N : Nat) : lft b N 0 = kp b N := by
  unfold lft kp
  rw [Nat.zero_min, List.range_eq_range' (n := N)]
  rfl
theorem lft_len (b : Nat → Bool) (N m : Nat) : (lft b N m).length ≤ N ∧ (m < N → m < (lft b N m).length ∨ (lft b N m).length = m) := by
  unfold lft
  have := List.length_filter_le (fun i => !b i) (List.range' m (N - m))
  rw [List.length_range'] at this
  rw [List.length_append, List.length_range]
  omega
theorem lft_16 (b : Nat → Bool) {N m : Nat} (h : N ≤ m) : lft b N m = List.range N := by
  unfold lft
  rw [Nat.min_eq_right h, Nat.sub_eq_zero_of_le h]
  simp
theorem lft_s1 {b : Nat → Bool} {N j : Nat} (hj : j < N) (h : b j = true) : j < (lft b N (j + 1)).length ∧ (lft b N (j + 1)).eraseIdx j = lft b N j := by
  unfold lft
  rw [Nat.min_eq_left (show j + 1 ≤ N by omega), Nat.min_eq_left (show j ≤ N by omega), show N - j = (N - (j + 1)) + 1 by omega, List.range'_succ, List.range_succ]
  refine ⟨by simp, ?_⟩
  rw [List.filter_cons_of_neg (by simp [h]), List.append_assoc, List.eraseIdx_append_of_length_le (by simp)]
  simp
theorem lft_s2 {b : Nat → Bool} {N j : Nat} (h : b j = false ∨ N ≤ j) : lft b N (j + 1) = lft b N j := by
  by_cases hj : N ≤ j
  · rw [lft_16 b hj, lft_16 b (show N ≤ j + 1 by omega)]
  · have hb : b j = false := h.resolve_right hj
    unfold lft
    rw [Nat.min_eq_left (show j + 1 ≤ N by omega), Nat.min_eq_left (show j ≤ N by omega), show N - j = (N - (j + 1)) + 1 by omega, List.range'_succ, List.range_succ, List.filter_cons_of_pos (by simp [hb]), List.append_assoc]
    rfl
end MB15
