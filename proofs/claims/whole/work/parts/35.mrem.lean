/-! PURE PART 16: drop, remove. -/
section MB15
/-- the rows that stay -/
def kp (b : Nat → Bool) (n : Nat) : List Nat := (List.range n).filter (fun i => !b i)
theorem kp_s (b : Nat → Bool) (n : Nat) : kp b (n + 1) = kp b n ++ if b n = true then [] else [n] := by
  unfold kp
  rw [List.range_succ, List.filter_append]
  cases h : b n <;> simp [h]
theorem kp_le (b : Nat → Bool) (n : Nat) : (kp b n).length ≤ n := by
  have := List.length_filter_le (fun i => !b i) (List.range n)
  rw [List.length_range] at this
  exact this
theorem kp_lt {b : Nat → Bool} {n x : Nat} (h : x ∈ kp b n) : x < n := List.mem_range.mp (List.mem_filter.mp h).1
def srcA (A : Abs) (t : Nat) (l : List Nat) : Abs := ((fun t' => if t' = t then l.length else A.1 t'), (fun t' r' c' => if t' = t then A.2.1 t (l[r']?.getD 0) c' else A.2.1 t' r' c'), A.2.2)
theorem k_row_L {I0 : Mem} {t l r : Nat} {x2 : Int32} (ht : t < 2) (hl : l ≤ r) (hr : r < 16) : ∀ (d c n : Nat) (I : Mem), c + d = 4 → d < n → Eqx [2] I0 I → (∀ j, j < c → I 2 ((t * 16 + l) * 4 + j) = I0 2 ((t * 16 + r) * 4 + j)) → (∀ k, k < (t * 16 + l) * 4 ∨ (t * 16 + l) * 4 + c ≤ k → I 2 k = I0 2 k) →
    ∃ I', f_X8_removeRows_L31 (nI t) x2 (nI l) (nI r) n (nI c) I = some I' ∧ Eqx [2] I0 I' ∧ (∀ j, j < 4 → I' 2 ((t * 16 + l) * 4 + j) = I0 2 ((t * 16 + r) * 4 + j)) ∧ (∀ k, k < (t * 16 + l) * 4 ∨ (t * 16 + l) * 4 + 4 ≤ k → I' 2 k = I0 2 k)
  | 0, c, n, I, hc, hn, hE, h1, h2 => by
    obtain ⟨n, rfl⟩ : ∃ m, n = m + 1 := ⟨n - 1, by omega⟩
    have e : c = 4 := by omega
    subst e
    refine ⟨I, ?_, hE, h1, h2⟩
    unfold f_X8_removeRows_L31
    rw [if_pos (show (4 : Int32) ≤ nI 4 by decide)]
  | d + 1, c, n, I, hc, hn, hE, h1, h2 => by
    obtain ⟨n, rfl⟩ : ∃ m, n = m + 1 := ⟨n - 1, by omega⟩
    have hv : I 2 ((t * 16 + r) * 4 + c) = I0 2 ((t * 16 + r) * 4 + c) := h2 _ (by omega)
    unfold f_X8_removeRows_L31
    rw [if_neg (show ¬ (4 : Int32) ≤ nI c from nI_ge (b := 4) (by omega) (by decide)), bs_b (k_place t l c), bs_b (k_place t r c), bs_b (rd_e ((t * 16 + r) * 4 + c) rfl (by omega) (by decide)), bs_b (wr_e ((t * 16 + l) * 4 + c) rfl (by omega) (by decide)), nI_1, hv]
    refine k_row_L ht hl hr d (c + 1) n _ (by omega) (by omega) (hE.tr (Eqx.up (by decide))) (fun j hj => ?_) (fun k hk => ?_)
    · by_cases e : j = c
      · subst e; rw [up_eq]
      · rw [up_nk _ _ (by omega)]; exact h1 j (by omega)
    · rw [up_nk _ _ (by omega)]; exact h2 k (by omega)
theorem k_rem_L {I0 : Mem} {A : Abs} {R : Rem} {P : Pool} {t : Nat} {x2 : Int32} (hS : CSt I0 R P 1 A) (hA : AOk A) (ht : t < 2) : ∀ (d r n : Nat) (I : Mem), r + d = A.1 t → d < n → Eqx [2] I0 I → (∀ i x c, (kp (hb x2) r)[i]? = some x → c < 4 → I 2 ((t * 16 + i) * 4 + c) = A.2.1 t x c) → (∀ k, k < t * 16 * 4 ∨ (t * 16 + r) * 4 ≤ k → I 2 k = I0 2 k) →
    ∃ I', f_X8_removeRows_L5 (nI t) x2 n (nI (kp (hb x2) r).length) (nI r) I = some (nI (kp (hb x2) (A.1 t)).length, I') ∧ Eqx [2] I0 I' ∧ (∀ i x c, (kp (hb x2) (A.1 t))[i]? = some x → c < 4 → I' 2 ((t * 16 + i) * 4 + c) = A.2.1 t x c) ∧ (∀ k, k < t * 16 * 4 ∨ (t * 16 + A.1 t) * 4 ≤ k → I' 2 k = I0 2 k)
  | 0, r, n, I, hr, hn, hE, h1, h2 => by
    obtain ⟨n, rfl⟩ : ∃ m, n = m + 1 := ⟨n - 1, by omega⟩
    have e : r = A.1 t := by omega
    subst e
    have := hA.1 t ht
    refine ⟨I, ?_, hE, h1, h2⟩
    unfold f_X8_removeRows_L5
    rw [bs_b (show rd I 3 2 (nI t) = some (nI (A.1 t)) by rw [rd_e t rfl ht (by decide), hE 3 (by decide), hS.1 t ht]), if_pos (nI_le (Nat.le_refl _) (by omega))]
  | d + 1, r, n, I, hr, hn, hE, h1, h2 => by
    obtain ⟨n, rfl⟩ : ∃ m, n = m + 1 := ⟨n - 1, by omega⟩
    have h16 := hA.1 t ht
    have hkl := kp_le (hb x2) r
    have ks := kp_s (hb x2) r
    unfold f_X8_removeRows_L5
    rw [bs_b (show rd I 3 2 (nI t) = some (nI (A.1 t)) by rw [rd_e t rfl ht (by decide), hE 3 (by decide), hS.1 t ht]), if_neg (nI_ge (by omega) (by omega)), bs_b (k_hasBit x2 r), nI_1 r]
    by_cases e : hb x2 r = true
    · rw [if_pos e, List.append_nil] at ks
      rw [if_pos e, if_neg (show ¬ (1 : Int32) = 0 by decide), ← ks]
      exact k_rem_L hS hA ht d (r + 1) n I (by omega) (by omega) hE (by rw [ks]; exact h1) (fun k hk => h2 k (by omega))
    · rw [if_neg e] at ks
      rw [if_neg e, if_pos (show (0 : Int32) = 0 from rfl)]
      obtain ⟨I1, p1, p2, p3, p4⟩ := k_row_L (I0 := I) (x2 := x2) ht hkl (show r < 16 by omega) 4 0 fuel I rfl (by unfold fuel; omega) Eqx.rf (fun j hj => absurd hj (by omega)) (fun _ _ => rfl)
      have hlen : (kp (hb x2) (r + 1)).length = (kp (hb x2) r).length + 1 := by rw [ks]; simp
      rw [bs_b (show f_X8_removeRows_L31 (nI t) x2 (nI (kp (hb x2) r).length) (nI r) fuel 0 I = some I1 from p1), nI_1, ← hlen]
      refine k_rem_L hS hA ht d (r + 1) n I1 (by omega) (by omega) (hE.tr p2) (fun i x c hi hc => ?_) (fun k hk => ?_)
      · have hi2 := (List.getElem?_eq_some_iff.mp hi).1
        rw [hlen] at hi2
        rw [ks] at hi
        by_cases e2 : i < (kp (hb x2) r).length
        · rw [List.getElem?_append_left e2] at hi
          rw [p4 _ (by omega)]
          exact h1 i x c hi hc
        · have e3 : i = (kp (hb x2) r).length := by omega
          rw [e3, List.getElem?_append_right (Nat.le_refl _), Nat.sub_self] at hi
          have e4 : r = x := Option.some.inj hi
          rw [e3, p3 c hc, h2 _ (by omega), ← e4]
          exact hS.2.1 t r c ht (by omega) hc
      · rw [p4 k (by omega)]; exact h2 k (by omega)
theorem k_remRows {I : Mem} {A : Abs} {R : Rem} {P : Pool} {t : Nat} {x2 : Int32} (hS : CSt I R P 1 A) (hA : AOk A) (ht : t < 2) : ∃ I', f_X8_removeRows (nI t) x2 I = some I' ∧ Eqx [2, 3] I I' ∧ CSt I' R P 1 (srcA A t (kp (hb x2) (A.1 t))) := by
  have h16 := hA.1 t ht
  obtain ⟨I1, p1, p2, p3, p4⟩ := k_rem_L (x2 := x2) hS hA ht (A.1 t) 0 fuel I (by omega) (by unfold fuel; omega) Eqx.rf (fun i x c hi hc => by simp [kp] at hi) (fun _ _ => rfl)
  have hkl := kp_le (hb x2) (A.1 t)
  refine ⟨up I1 3 t (nI (kp (hb x2) (A.1 t)).length), ?_, (p2.mono (by decide)).tr (Eqx.up (by decide)), ?_⟩
  · unfold f_X8_removeRows
    rw [bs_b (show f_X8_removeRows_L5 (nI t) x2 fuel 0 0 I = some (nI (kp (hb x2) (A.1 t)).length, I1) from p1), bs_b (wr_e t rfl ht (by decide))]
  · refine hS.set (fun a ha => by rw [up_ne _ _ _ (by omega), p2 a (by simp; omega)]) (fun t' ht' => ?_) (fun t' r' c' ht' hr' hc' => ?_) rfl (by rw [up_ne _ _ _ (by decide), p2 1 (by decide)]; exact hS.2.2.2.2)
    · show up I1 3 t (nI (kp (hb x2) (A.1 t)).length) 3 t' = nI (if t' = t then (kp (hb x2) (A.1 t)).length else A.1 t')
      by_cases e : t' = t
      · rw [if_pos e, e, up_eq]
      · rw [if_neg e, up_nk _ _ e, p2 3 (by decide)]; exact hS.1 t' ht'
    · have hr' : r' < (if t' = t then (kp (hb x2) (A.1 t)).length else A.1 t') := hr'
      show up I1 3 t (nI (kp (hb x2) (A.1 t)).length) 2 ((t' * 16 + r') * 4 + c') = (if t' = t then A.2.1 t ((kp (hb x2) (A.1 t))[r']?.getD 0) c' else A.2.1 t' r' c')
      rw [up_ne _ _ _ (by decide)]
      by_cases e : t' = t
      · rw [if_pos e] at hr' ⊢
        rw [e, p3 r' _ c' (List.getElem?_eq_getElem hr') hc', List.getElem?_eq_getElem hr']
        rfl
      · rw [if_neg e] at hr' ⊢
        have := hA.1 t' ht'
        rw [p4 _ (by omega)]
        exact hS.2.1 t' r' c' ht' hr' hc'
/-! the reference drops a row -/
theorem r_at0 (t r : Nat) : f_X9_at (nI t) (nI r) 0 = some (nI (2 + 4 * (16 * t + r))) := r_at t r 0
theorem r_drops_L {I0 : Mem} {t m s : Nat} {x2 : Int32} (ht : t < 2) (hm : m < 16) (hc : I0 71 t = nI m) (hs : 2 ≤ s) : ∀ (d w n : Nat) (I : Mem), w + d = 2 + 4 * (16 * t + m) → s ≤ w → d < n → Eqx [71] I0 I → (∀ k, s ≤ k → k < w → I 71 k = I0 71 (k + 4)) → (∀ k, k < s ∨ w ≤ k → I 71 k = I0 71 k) →
    ∃ I', f_X9_drops_L19 (nI t) x2 n (nI w) I = some I' ∧ Eqx [71] I0 I' ∧ (∀ k, s ≤ k → k < 2 + 4 * (16 * t + m) → I' 71 k = I0 71 (k + 4)) ∧ (∀ k, k < s ∨ 2 + 4 * (16 * t + m) ≤ k → I' 71 k = I0 71 k)
  | 0, w, n, I, hw, hsw, hn, hE, h1, h2 => by
    obtain ⟨n, rfl⟩ : ∃ m, n = m + 1 := ⟨n - 1, by omega⟩
    have e : w = 2 + 4 * (16 * t + m) := by omega
    subst e
    refine ⟨I, ?_, hE, h1, h2⟩
    unfold f_X9_drops_L19
    rw [bs_b (show f_X9_many (nI t) I = some (nI m) by unfold f_X9_many; rw [bs_b (rd_e t (by rw [show (0 : Int32) = nI 0 from rfl, nI_add, Nat.zero_add]) (by omega) (by decide)), h2 t (by omega), hc]), bs_b (r_at0 t m), if_pos (nI_le (Nat.le_refl _) (by omega))]
  | d + 1, w, n, I, hw, hsw, hn, hE, h1, h2 => by
    obtain ⟨n, rfl⟩ : ∃ m, n = m + 1 := ⟨n - 1, by omega⟩
    unfold f_X9_drops_L19
    rw [bs_b (show f_X9_many (nI t) I = some (nI m) by unfold f_X9_many; rw [bs_b (rd_e t (by rw [show (0 : Int32) = nI 0 from rfl, nI_add, Nat.zero_add]) (by omega) (by decide)), h2 t (by omega), hc]), bs_b (r_at0 t m), if_neg (nI_ge (by omega) (by omega)), bs_b (rd_e (w + 4) (show nI w + 4 = nI (w + 4) from nI_add w 4) (by omega) (by decide)), bs_b (wr_e w rfl (by omega) (by decide)), nI_1, h2 (w + 4) (by omega)]
    refine r_drops_L ht hm hc hs d (w + 1) n _ (by omega) (by omega) (by omega) (hE.tr (Eqx.up (by decide))) (fun k h3 h4 => ?_) (fun k hk => ?_)
    · by_cases e : k = w
      · subst e; rw [up_eq]
      · rw [up_nk _ _ e]; exact h1 k h3 (by omega)
    · rw [up_nk _ _ (by omega)]; exact h2 k (by omega)
theorem r_drops {I : Mem} {A : Abs} {t x : Nat} {l : List Nat} (h : RSt (I 71) (srcA A t l)) (hA : AOk A) (ht : t < 2) (hx : x < l.length) (hl : l.length ≤ 16) : ∃ I', f_X9_drops (nI t) (nI x) I = some I' ∧ Eqx [71] I I' ∧ RSt (I' 71) (srcA A t (l.eraseIdx x)) := by
  obtain ⟨m, hm⟩ : ∃ m, l.length = m + 1 := ⟨l.length - 1, by omega⟩
  have hle : (l.eraseIdx x).length = m := by rw [List.length_eraseIdx, if_pos hx]; omega
  have hct : I 71 t = nI (m + 1) := by
    have := h.1 t ht
    rw [show (srcA A t l).1 t = l.length from if_pos rfl, hm] at this
    exact this
  obtain ⟨I1, hI1⟩ : ∃ I1, I1 = up I 71 t (nI m) := ⟨_, rfl⟩
  obtain ⟨I2, p1, p2, p3, p4⟩ := r_drops_L (I0 := I1) (s := 2 + 4 * (16 * t + x)) (x2 := nI x) ht (show m < 16 by omega) (by rw [hI1, up_eq]) (by omega) (4 * (m - x)) (2 + 4 * (16 * t + x)) fuel I1 (by omega) (Nat.le_refl _) (by unfold fuel; omega) Eqx.rf (fun k h1 h2 => absurd h1 (by omega)) (fun _ _ => rfl)
  have u1 : ∀ k, k ≠ t → I1 71 k = I 71 k := fun k hk => by rw [hI1, up_nk _ _ hk]
  refine ⟨I2, ?_, ?_, ?_⟩
  · unfold f_X9_drops
    rw [bs_b (rd_e t (by rw [show (0 : Int32) = nI 0 from rfl, nI_add, Nat.zero_add]) (by omega) (by decide)), hct, nI_pred, bs_b (wr_e t (by rw [show (0 : Int32) = nI 0 from rfl, nI_add, Nat.zero_add]) (by omega) (by decide)), ← hI1, bs_b (r_at0 t x), bs_b p1]
  · have : Eqx [71] I I1 := by rw [hI1]; exact Eqx.up (by decide)
    exact this.tr p2
  · refine ⟨fun t' ht' => ?_, fun t' r' c' ht' hr' hc' => ?_, fun s hs => ?_, by rw [p4 618 (by omega), u1 618 (by omega)]; exact h.2.2.2⟩
    · show I2 71 t' = nI (if t' = t then (l.eraseIdx x).length else A.1 t')
      rw [p4 t' (by omega)]
      by_cases e : t' = t
      · rw [if_pos e, e, hI1, up_eq, hle]
      · rw [if_neg e, u1 t' e]
        have := h.1 t' ht'
        rw [show (srcA A t l).1 t' = A.1 t' from if_neg e] at this
        exact this
    · have hr' : r' < (if t' = t then (l.eraseIdx x).length else A.1 t') := hr'
      show I2 71 (2 + 4 * (16 * t' + r') + c') = (if t' = t then A.2.1 t ((l.eraseIdx x)[r']?.getD 0) c' else A.2.1 t' r' c')
      by_cases e : t' = t
      · rw [if_pos e, hle] at hr'
        rw [if_pos e, e, List.getElem?_eraseIdx]
        by_cases e2 : r' < x
        · rw [if_pos e2, p4 _ (by omega), u1 _ (by omega)]
          have := h.2.1 t r' c' ht (by rw [show (srcA A t l).1 t = l.length from if_pos rfl]; omega) hc'
          rw [this]
          exact if_pos rfl
        · rw [if_neg e2, p3 _ (by omega) (by omega), u1 _ (by omega), show 2 + 4 * (16 * t + r') + c' + 4 = 2 + 4 * (16 * t + (r' + 1)) + c' by omega]
          have := h.2.1 t (r' + 1) c' ht (by rw [show (srcA A t l).1 t = l.length from if_pos rfl]; omega) hc'
          rw [this]
          exact if_pos rfl
      · rw [if_neg e] at hr' ⊢
        have h16 := hA.1 t' ht'
        have := h.2.1 t' r' c' ht' (by rw [show (srcA A t l).1 t' = A.1 t' from if_neg e]; exact hr') hc'
        rw [show (srcA A t l).2.1 t' r' c' = A.2.1 t' r' c' from if_neg e] at this
        rw [p4 _ (by omega), u1 _ (by omega)]
        exact this
    · show FRf (I2 71) s (A.2.2.1 s)
      have hF : FRf (I 71) s (A.2.2.1 s) := h.2.2.1 s hs
      have hln := hA.len hs
      refine ⟨by rw [p4 _ (by omega), u1 _ (by omega)]; exact hF.1, fun j y hj => ?_⟩
      have := (List.getElem?_eq_some_iff.mp hj).1
      rw [p4 _ (by omega), u1 _ (by omega)]
      exact hF.2 j y hj
theorem srcA_ok {A : Abs} {t : Nat} {l : List Nat} (hA : AOk A) (ht : t < 2) (hl : l.length ≤ 16) (hm : ∀ x ∈ l, x < A.1 t) : AOk (srcA A t l) := by
  refine ⟨fun t' h1 => ?_, fun t' r' c' h1 h2 h3 => ?_, hA.2.2⟩
  · show (if t' = t then l.length else A.1 t') ≤ 16
    split
    · exact hl
    · exact hA.1 t' h1
  · have h2 : r' < (if t' = t then l.length else A.1 t') := h2
    show cok (if t' = t then A.2.1 t (l[r']?.getD 0) c' else A.2.1 t' r' c')
    split
    · rename_i e
      rw [if_pos e] at h2
      rw [List.getElem?_eq_getElem h2]
      exact hA.2.1 t _ c' ht (hm _ (List.getElem_mem h2)) h3
    · rename_i e
      rw [if_neg e] at h2
      exact hA.2.1 t' r' c' h1 h2 h3
theorem srcA_0 {f : Nat → Int32} {A : Abs} {t : Nat} (h : RSt f A) (ht : t < 2) : RSt f (srcA A t (List.range (A.1 t))) := by
  refine ⟨fun t' ht' => ?_, fun t' r' c' ht' hr' hc' => ?_, h.2.2⟩
  · show f t' = nI (if t' = t then (List.range (A.1 t)).length else A.1 t')
    split
    · rename_i e; rw [e, List.length_range]; exact h.1 t ht
    · exact h.1 t' ht'
  · have hr' : r' < (if t' = t then (List.range (A.1 t)).length else A.1 t') := hr'
    show f (2 + 4 * (16 * t' + r') + c') = (if t' = t then A.2.1 t ((List.range (A.1 t))[r']?.getD 0) c' else A.2.1 t' r' c')
    split
    · rename_i e
      rw [if_pos e, List.length_range] at hr'
      rw [List.getElem?_range hr', e]
      exact h.2.1 t r' c' ht hr' hc'
    · rename_i e
      rw [if_neg e] at hr'
      exact h.2.1 t' r' c' ht' hr' hc'
/-- the rows left when the rows with numbers m and more have been looked at -/
def lft (b : Nat → Bool) (N m : Nat) : List Nat := List.range (min m N) ++ (List.range' m (N - m)).filter (fun i => !b i)
theorem lft_0 (b : Nat → Bool) (N : Nat) : lft b N 0 = kp b N := by
  unfold lft kp
  rw [Nat.zero_min, List.range_eq_range' (n := N)]
  rfl
theorem lft_len (b : Nat → Bool) (N m : Nat) : (lft b N m).length ≤ N ∧ (m < N → m < (lft b N m).length ∨ (lft b N m).length = m) := by
  unfold lft
  have := List.length_filter_le (fun i => !b i) (List.range' m (N - m))
  rw [List.length_range'] at this
  rw [List.length_append, List.length_range]
  omega
theorem lft_16 (b : Nat → Bool) {N m : Nat} (h : N ≤ m) : lft b N m = List.range N := by
  unfold lft
  rw [Nat.min_eq_right h, Nat.sub_eq_zero_of_le h]
  simp
theorem lft_s1 {b : Nat → Bool} {N j : Nat} (hj : j < N) (h : b j = true) : j < (lft b N (j + 1)).length ∧ (lft b N (j + 1)).eraseIdx j = lft b N j := by
  unfold lft
  rw [Nat.min_eq_left (show j + 1 ≤ N by omega), Nat.min_eq_left (show j ≤ N by omega), show N - j = (N - (j + 1)) + 1 by omega, List.range'_succ, List.range_succ]
  refine ⟨by simp, ?_⟩
  rw [List.filter_cons_of_neg (by simp [h]), List.append_assoc, List.eraseIdx_append_of_length_le (by simp)]
  simp
theorem lft_s2 {b : Nat → Bool} {N j : Nat} (h : b j = false ∨ N ≤ j) : lft b N (j + 1) = lft b N j := by
  by_cases hj : N ≤ j
  · rw [lft_16 b hj, lft_16 b (show N ≤ j + 1 by omega)]
  · have hb : b j = false := h.resolve_right hj
    unfold lft
    rw [Nat.min_eq_left (show j + 1 ≤ N by omega), Nat.min_eq_left (show j ≤ N by omega), show N - j = (N - (j + 1)) + 1 by omega, List.range'_succ, List.range_succ, List.filter_cons_of_pos (by simp [hb]), List.append_assoc]
    rfl
theorem r_rem_L {A : Abs} {t : Nat} {x2 y : Int32} {P : Pool} (hA : AOk A) (ht : t < 2) (hy : ∀ k, k < 16 → A.1 t ≤ k → hb y k = false) : ∀ (m n : Nat) (I : Mem), m ≤ 16 → m < n → RSt (I 71) (srcA A t (lft (hb y) (A.1 t) m)) →
    ∃ I', f_X9_remove_L55 (nI t) x2 P y n (nI m - 1) I = some I' ∧ Eqx [71] I I' ∧ RSt (I' 71) (srcA A t (kp (hb y) (A.1 t)))
  | 0, n, I, hm, hn, h => by
    obtain ⟨n, rfl⟩ : ∃ m, n = m + 1 := ⟨n - 1, by omega⟩
    refine ⟨I, ?_, Eqx.rf, by rw [← lft_0]; exact h⟩
    unfold f_X9_remove_L55
    rw [if_pos (show nI 0 - 1 < 0 by decide)]
  | j + 1, n, I, hm, hn, h => by
    obtain ⟨n, rfl⟩ : ∃ m, n = m + 1 := ⟨n - 1, by omega⟩
    have h16 := hA.1 t ht
    have hb01 : (((y >>> (nI j &&& 31)) &&& 1) = 1) ↔ hb y j = true := by unfold hb; simp
    unfold f_X9_remove_L55
    rw [nI_pred, if_neg (nI_pos (show j < 2 ^ 31 by omega)), show nI j + (-1) = nI j - 1 from (Int32.sub_eq_add_neg _ _).symm]
    by_cases e : hb y j = true
    · have hj : j < A.1 t := by
        rcases Nat.lt_or_ge j (A.1 t) with h1 | h1
        · exact h1
        · rw [hy j (by omega) h1] at e; exact absurd e (by decide)
      obtain ⟨s1, s2⟩ := lft_s1 hj e
      obtain ⟨I1, p1, p2, p3⟩ := r_drops h hA ht s1 (Nat.le_trans (lft_len _ _ _).1 h16)
      rw [s2] at p3
      obtain ⟨I2, q1, q2, q3⟩ := r_rem_L (x2 := x2) (P := P) hA ht hy j n I1 (by omega) (by omega) p3
      exact ⟨I2, by rw [if_pos (hb01.mpr e), bs_b p1]; exact q1, p2.tr q2, q3⟩
    · have e2 : hb y j = false := by simpa using e
      rw [lft_s2 (Or.inl e2)] at h
      obtain ⟨I2, q1, q2, q3⟩ := r_rem_L (x2 := x2) (P := P) hA ht hy j n I (by omega) (by omega) h
      exact ⟨I2, by rw [if_neg (fun h => e (hb01.mp h))]; exact q1, q2, q3⟩
end MB15
