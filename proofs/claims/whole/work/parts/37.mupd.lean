/-! PURE PART 18: update. -/
section MB17
def anyb (b : Nat → Bool) : Nat → Bool
  | 0 => false
  | n + 1 => anyb b n || b n
theorem anyb_s (b : Nat → Bool) (n : Nat) : anyb b (n + 1) = (anyb b n || b n) := rfl
theorem anyb_mono {b : Nat → Bool} {r : Nat} (h : anyb b r = true) : ∀ d, anyb b (r + d) = true
  | 0 => h
  | d + 1 => by rw [← Nat.add_assoc, anyb_s, anyb_mono h d]; rfl
def vrA (A : Abs) (t c : Nat) (x y : Int32) (r : Nat) : Bool := hb y r && vioA A t (rowC A t r c x)
theorem k_upd1_L {R : Rem} {P : Pool} {A : Abs} {t c : Nat} {x2 x y : Int32} (hA : AOk A) (ht : t < 2) (hc : c < 4) : ∀ (d r n : Nat) (I : Mem), r + d = A.1 t → d < n → CSt I R P 1 A → anyb (vrA A t c x y) r = false →
    ∃ I', Eqx [10, 12, 13, 14, 15] I I' ∧ ((anyb (vrA A t c x y) (A.1 t) = true ∧ f_X8_update_L41 (nI t) x2 (nI c) x P y R n (nI r) I = some (.inl (.inl (-2), up I' 1 4 (I' 1 4 + 1), R))) ∨ (anyb (vrA A t c x y) (A.1 t) = false ∧ f_X8_update_L41 (nI t) x2 (nI c) x P y R n (nI r) I = some (.inr I')))
  | 0, r, n, I, hr, hn, hS, hb0 => by
    obtain ⟨n, rfl⟩ : ∃ m, n = m + 1 := ⟨n - 1, by omega⟩
    have e : r = A.1 t := by omega
    subst e
    have := hA.1 t ht
    refine ⟨I, Eqx.rf, Or.inr ⟨hb0, ?_⟩⟩
    unfold f_X8_update_L41
    rw [bs_b (k_cnt hS ht), if_pos (nI_le (Nat.le_refl _) (by omega))]
  | d + 1, r, n, I, hr, hn, hS, hb0 => by
    obtain ⟨n, rfl⟩ : ∃ m, n = m + 1 := ⟨n - 1, by omega⟩
    have h16 := hA.1 t ht
    have ha := anyb_s (vrA A t c x y) r
    rw [hb0, Bool.false_or] at ha
    unfold f_X8_update_L41
    rw [bs_b (k_cnt hS ht), if_neg (nI_ge (by omega) (by omega)), bs_b (k_hasBit y r), nI_1]
    by_cases e : hb y r = true
    · rw [if_pos e, if_neg (show ¬ (1 : Int32) = 0 by decide)]
      obtain ⟨I1, v1, v2⟩ := k_would (x := x) hS hA ht (show r < A.1 t by omega) hc
      have v1 : f_X8_wouldViolate (nI t) (nI r) (nI c) x P R I = some (if vioA A t (rowC A t r c x) = true then 1 else 0, I1) := v1
      have hv : vrA A t c x y r = vioA A t (rowC A t r c x) := by unfold vrA; rw [e, Bool.true_and]
      rw [bs_b v1]
      by_cases e2 : vioA A t (rowC A t r c x) = true
      · rw [hv, e2] at ha
        refine ⟨I1, v2, Or.inl ⟨?_, ?_⟩⟩
        · have := anyb_mono ha d
          rw [show r + 1 + d = A.1 t by omega] at this
          exact this
        · rw [if_pos e2, if_neg (show ¬ (1 : Int32) = 0 by decide)]
          rfl
      · have e3 : vioA A t (rowC A t r c x) = false := by simpa using e2
        rw [hv, e3] at ha
        obtain ⟨I2, q1, q2⟩ := k_upd1_L (x2 := x2) (x := x) (y := y) (R := R) (P := P) hA ht hc d (r + 1) n I1 (by omega) (by omega) (hS.eqx v2 (by decide) (by decide) (by decide) (by decide)) ha
        rw [if_neg e2, if_pos (show (0 : Int32) = 0 from rfl)]
        exact ⟨I2, v2.tr q1, q2⟩
    · have e1 : hb y r = false := by simpa using e
      have hv : vrA A t c x y r = false := by unfold vrA; rw [e1, Bool.false_and]
      rw [hv] at ha
      rw [if_neg e, if_pos (show (0 : Int32) = 0 from rfl)]
      exact k_upd1_L hA ht hc d (r + 1) n I (by omega) (by omega) hS ha
theorem k_upd2_L {R : Rem} {P : Pool} {A : Abs} {I0 : Mem} {t c : Nat} {x2 x y : Int32} (hA : AOk A) (ht : t < 2) (hc : c < 4) (hS : CSt I0 R P 1 A) : ∀ (d r n : Nat) (I : Mem), r + d = A.1 t → d < n → Eqx [2] I0 I → (∀ t' r' c', t' < 2 → r' < 16 → c' < 4 → I 2 ((t' * 16 + r') * 4 + c') = if t' = t ∧ c' = c ∧ hb y r' = true ∧ r' < r then x else I0 2 ((t' * 16 + r') * 4 + c')) →
    ∃ I', f_X8_update_L92 (nI t) x2 (nI c) x P y R n (nI r) I = some I' ∧ Eqx [2] I0 I' ∧ (∀ t' r' c', t' < 2 → r' < 16 → c' < 4 → I' 2 ((t' * 16 + r') * 4 + c') = if t' = t ∧ c' = c ∧ hb y r' = true ∧ r' < A.1 t then x else I0 2 ((t' * 16 + r') * 4 + c'))
  | 0, r, n, I, hr, hn, hE, h1 => by
    obtain ⟨n, rfl⟩ : ∃ m, n = m + 1 := ⟨n - 1, by omega⟩
    have e : r = A.1 t := by omega
    subst e
    have := hA.1 t ht
    refine ⟨I, ?_, hE, h1⟩
    unfold f_X8_update_L92
    rw [bs_b (show rd I 3 2 (nI t) = some (nI (A.1 t)) by rw [rd_e t rfl ht (by decide), hE 3 (by decide), hS.1 t ht]), if_pos (nI_le (Nat.le_refl _) (by omega))]
  | d + 1, r, n, I, hr, hn, hE, h1 => by
    obtain ⟨n, rfl⟩ : ∃ m, n = m + 1 := ⟨n - 1, by omega⟩
    have h16 := hA.1 t ht
    unfold f_X8_update_L92
    rw [bs_b (show rd I 3 2 (nI t) = some (nI (A.1 t)) by rw [rd_e t rfl ht (by decide), hE 3 (by decide), hS.1 t ht]), if_neg (nI_ge (by omega) (by omega)), bs_b (k_hasBit y r), nI_1]
    by_cases e : hb y r = true
    · rw [if_pos e, if_neg (show ¬ (1 : Int32) = 0 by decide), bs_b (k_place t r c), bs_b (wr_e ((t * 16 + r) * 4 + c) rfl (by omega) (by decide))]
      refine k_upd2_L hA ht hc hS d (r + 1) n _ (by omega) (by omega) (hE.tr (Eqx.up (by decide))) (fun t' r' c' a1 a2 a3 => ?_)
      by_cases e2 : t' = t ∧ c' = c ∧ r' = r
      · rw [if_pos ⟨e2.1, e2.2.1, by rw [e2.2.2]; exact e, by omega⟩, e2.1, e2.2.1, e2.2.2, up_eq]
      · rw [up_nk _ _ (by omega), h1 t' r' c' a1 a2 a3]
        by_cases e3 : t' = t ∧ c' = c ∧ hb y r' = true ∧ r' < r
        · rw [if_pos e3, if_pos ⟨e3.1, e3.2.1, e3.2.2.1, by omega⟩]
        · rw [if_neg e3, if_neg (fun h => e3 ⟨h.1, h.2.1, h.2.2.1, by
            have : ¬ r' = r := fun h4 => e2 ⟨h.1, h.2.1, h4⟩
            have := h.2.2.2
            omega⟩)]
    · rw [if_neg e, if_pos (show (0 : Int32) = 0 from rfl)]
      refine k_upd2_L hA ht hc hS d (r + 1) n I (by omega) (by omega) hE (fun t' r' c' a1 a2 a3 => ?_)
      rw [h1 t' r' c' a1 a2 a3]
      by_cases e3 : t' = t ∧ c' = c ∧ hb y r' = true ∧ r' < r
      · rw [if_pos e3, if_pos ⟨e3.1, e3.2.1, e3.2.2.1, by omega⟩]
      · rw [if_neg e3, if_neg (fun h => e3 ⟨h.1, h.2.1, h.2.2.1, by
          have h3 := h.2.2.1
          have : ¬ r' = r := fun h4 => e (by rw [← h4]; exact h3)
          have := h.2.2.2
          omega⟩)]
def updA (A : Abs) (t c : Nat) (x : Int32) (b : Nat → Bool) : Abs := (A.1, (fun t' r' c' => if t' = t ∧ c' = c ∧ b r' = true then x else A.2.1 t' r' c'), A.2.2)
theorem AOk.upd {A : Abs} {t c : Nat} {x : Int32} {b : Nat → Bool} (h : AOk A) (hx : cok x) : AOk (updA A t c x b) := by
  refine ⟨h.1, fun t' r' c' h1 h2 h3 => ?_, h.2.2⟩
  show cok (if t' = t ∧ c' = c ∧ b r' = true then x else A.2.1 t' r' c')
  split
  · exact hx
  · exact h.2.1 t' r' c' h1 h2 h3
def chs (A : Abs) (t s : Nat) : Int32 := tmask A t (A.2.2.1 s) 2 (A.1 t)
def upfA (A : Abs) (t s c : Nat) (x : Int32) : Abs := if anyb (vrA A t c x (chs A t s)) (A.1 t) = true then refA A else updA A t c x (hb (chs A t s))
def upfV (A : Abs) (t s c : Nat) (x : Int32) : Int32 := if anyb (vrA A t c x (chs A t s)) (A.1 t) = true then -2 else remV A t s
theorem upfA_ok {A : Abs} {t s c : Nat} {x : Int32} (hA : AOk A) (hx : cok x) : AOk (upfA A t s c x) := by
  unfold upfA
  split
  · exact hA.ref
  · exact hA.upd hx
theorem k_update {I : Mem} {R : Rem} {P : Pool} {N : Abs} {S : List Abs} {X : (Nat → Option Abs) × List Nat} {t s c k : Nat} {x : Int32} (hC : CI I R P (N, S, X)) (hA : AOk N) (ht : t < 2) (hs : s < 6) (hc : c < 4) (e0 : f_X8_requireTable (nI t) = some (.inl ())) (e1 : f_X8_requireSlot (nI s) = some (.inl ())) (e2 : f_X8_requireColumn (nI c) = some (.inl ())) (e3 : f_X8_requireCellValue x = some (.inl ())) (e4 : f_X8_filledSlot (nI s) P R = some (.inl (some k))) (hF : FObj I R P k (N.2.2.1 s)) (hV : fV (N.2.2.1 s)) :
    ∃ I' R', f_X8_update (nI t) (nI s) (nI c) x P R I = some (.inl (upfV N t s c x), I', R') ∧ CI I' R' P (upfA N t s c x, svd S N, X) ∧ (∀ a, 70 ≤ a → a < 85 → I' a = I a) := by
  obtain ⟨I1, R1, g1, g2, g3, g4, g5⟩ := k_save hC hA
  have g2 : CI I1 R1 P (N, svd S N, X) := g2
  have h16 := hA.1 t ht
  have hF1 := hF.pk (PK.sv g3 g5)
  obtain ⟨I2, v1, v2⟩ := k_rowsWith (v := 2) g2.1 hA ht hF1 hV
  have v1 : f_X8_rowsWith (nI t) (some k) 2 P R1 I1 = some (chs N t s, I2) := v1
  have hC2 : CI I2 R1 P (N, svd S N, X) := g2.sc (v2.mono (by decide))
  have vb : f_J6_bitCount_0f7a4 (chs N t s) = some (remV N t s) := k_bitsM (hA.1 t ht)
  obtain ⟨I3, w1, w2⟩ := k_upd1_L (x2 := nI s) (x := x) (y := chs N t s) hA ht hc (N.1 t) 0 fuel I2 (by omega) (by unfold fuel; omega) hC2.1 rfl
  have hC3 : CI I3 R1 P (N, svd S N, X) := hC2.sc (w1.mono (by decide))
  have h70 : ∀ a, 70 ≤ a → a < 85 → I3 a = I a := fun a h1 h2 => by rw [w1 a (by simp; omega), v2 a (by simp; omega), g3 a (by omega) (by omega)]
  have head : f_X8_update (nI t) (nI s) (nI c) x P R I = ((f_X8_update_L41 (nI t) (nI s) (nI c) x P (chs N t s) R1 fuel 0 I2).bind fun q22 => sm q22 (fun r => some r) fun q23 => (f_X8_update_L92 (nI t) (nI s) (nI c) x P (chs N t s) R1 fuel 0 q23).bind fun q28 => (f_J6_bitCount_0f7a4 (chs N t s)).bind fun q29 => some (.inl q29, q28, R1)) := by
    unfold f_X8_update
    rw [bs_l e0, bs_l e1, bs_l e2, bs_l e3, bs_l e4, bs_b g1, bs_b v1]
  rcases w2 with ⟨b1, b2⟩ | ⟨b1, b2⟩
  · refine ⟨up I3 1 4 (I3 1 4 + 1), R1, ?_, ?_, fun a h1 h2 => by rw [up_ne _ _ _ (by omega)]; exact h70 a h1 h2⟩
    · unfold upfV
      rw [if_pos b1, head, bs_l (show f_X8_update_L41 (nI t) (nI s) (nI c) x P (chs N t s) R1 fuel 0 I2 = _ from b2)]
    · unfold upfA
      rw [if_pos b1]
      exact hC3.now (σ := (N, svd S N, X)) (fun a h1 _ _ _ => up_ne _ _ _ h1) (fun _ _ _ => rfl) (hC3.1.ref (fun a h1 => up_ne _ _ _ h1) (up_eq _ _ _ _))
  · have b3 : ¬ anyb (vrA N t c x (chs N t s)) (N.1 t) = true := by rw [b1]; decide
    obtain ⟨I4, p1, p2, p3⟩ := k_upd2_L (x2 := nI s) (x := x) (y := chs N t s) (R := R1) (P := P) hA ht hc hC3.1 (N.1 t) 0 fuel I3 (by omega) (by unfold fuel; omega) Eqx.rf (fun t' r' c' _ _ _ => (if_neg (fun h => absurd h.2.2.2 (Nat.not_lt_zero _))).symm)
    refine ⟨I4, R1, ?_, ?_, fun a h1 h2 => by rw [p2 a (by simp; omega)]; exact h70 a h1 h2⟩
    · unfold upfV
      rw [if_neg b3, head, bs_r (show f_X8_update_L41 (nI t) (nI s) (nI c) x P (chs N t s) R1 fuel 0 I2 = _ from b2), bs_b (show f_X8_update_L92 (nI t) (nI s) (nI c) x P (chs N t s) R1 fuel 0 I3 = some I4 from p1), bs_b vb]
    · unfold upfA
      rw [if_neg b3]
      refine hC3.now (σ := (N, svd S N, X)) (fun a _ h1 h2 _ => p2 a (by simp; omega)) (fun _ _ _ => rfl) (hC3.1.set (fun a h1 => p2 a (by simp; omega)) (fun t' ht' => by rw [p2 3 (by decide)]; exact hC3.1.1 t' ht') (fun t' r' c' ht' hr' hc' => ?_) rfl (by rw [p2 1 (by decide)]; exact hC3.1.2.2.2.2))
      have hr' : r' < N.1 t' := hr'
      have h17 := hA.1 t' ht'
      show I4 2 ((t' * 16 + r') * 4 + c') = if t' = t ∧ c' = c ∧ hb (chs N t s) r' = true then x else N.2.1 t' r' c'
      rw [p3 t' r' c' ht' (by omega) hc']
      by_cases e : t' = t ∧ c' = c ∧ hb (chs N t s) r' = true
      · rw [if_pos e, if_pos ⟨e.1, e.2.1, e.2.2, by rw [← e.1]; exact hr'⟩]
      · rw [if_neg e, if_neg (fun h => e ⟨h.1, h.2.1, h.2.2.1⟩)]
        exact hC3.1.2.1 t' r' c' ht' hr' hc'
/-! the reference -/
theorem hb_iff {y : Int32} {r : Nat} : (((y >>> (nI r &&& 31)) &&& 1) = 1) ↔ hb y r = true := by unfold hb; simp
theorem r_upd1_L {P : Pool} {A : Abs} {t c : Nat} {x2 x y : Int32} (hA : AOk A) (ht : t < 2) (hc : c < 4) : ∀ (d r n : Nat) (I : Mem), r + d = A.1 t → d < n → RSt (I 71) A →
    ∃ I', f_X9_update_L79 (nI t) x2 (nI c) x P y n (if anyb (vrA A t c x y) r = true then 1 else 0) (nI r) I = some (if anyb (vrA A t c x y) (A.1 t) = true then 1 else 0, I') ∧ Eqx [70, 76, 77, 78] I I' ∧ K11 I I'
  | 0, r, n, I, hr, hn, hS => by
    obtain ⟨n, rfl⟩ : ∃ m, n = m + 1 := ⟨n - 1, by omega⟩
    have e : r = A.1 t := by omega
    subst e
    have := hA.1 t ht
    refine ⟨I, ?_, Eqx.rf, fun _ _ => rfl⟩
    unfold f_X9_update_L79
    rw [bs_b (r_many hS ht), if_pos (nI_le (Nat.le_refl _) (by omega))]
  | d + 1, r, n, I, hr, hn, hS => by
    obtain ⟨n, rfl⟩ : ∃ m, n = m + 1 := ⟨n - 1, by omega⟩
    have h16 := hA.1 t ht
    have ha := anyb_s (vrA A t c x y) r
    unfold f_X9_update_L79
    rw [bs_b (r_many hS ht), if_neg (nI_ge (by omega) (by omega)), nI_1]
    by_cases e0 : anyb (vrA A t c x y) r = true
    · rw [e0, Bool.true_or] at ha
      obtain ⟨I2, q1, q2, q3⟩ := r_upd1_L (x2 := x2) (P := P) (x := x) (y := y) hA ht hc d (r + 1) n I (by omega) (by omega) hS
      rw [if_pos ha] at q1
      rw [if_pos e0, if_neg (show ¬ (1 : Int32) = 0 by decide)]
      exact ⟨I2, q1, q2, q3⟩
    · have e0' : anyb (vrA A t c x y) r = false := by simpa using e0
      rw [e0', Bool.false_or] at ha
      rw [if_neg e0, if_pos (show (0 : Int32) = 0 from rfl)]
      by_cases e : hb y r = true
      · rw [if_pos (hb_iff.mpr e)]
        obtain ⟨I1, v1, v2, v3⟩ := r_would (x := x) hS hA ht (show r < A.1 t by omega) hc
        have v1 : f_X9_wouldViolate (nI t) (nI r) (nI c) x I = some (if vioA A t (rowC A t r c x) = true then 1 else 0, I1) := v1
        have hv : vrA A t c x y r = vioA A t (rowC A t r c x) := by unfold vrA; rw [e, Bool.true_and]
        obtain ⟨I2, q1, q2, q3⟩ := r_upd1_L (x2 := x2) (P := P) (x := x) (y := y) hA ht hc d (r + 1) n I1 (by omega) (by omega) (by rw [v2 71 (by decide)]; exact hS)
        rw [bs_b v1]
        rw [ha, hv] at q1
        refine ⟨I2, ?_, v2.tr q2, fun j hj => (q3 j hj).trans (v3 j hj)⟩
        by_cases e2 : vioA A t (rowC A t r c x) = true
        · rw [if_pos e2] at q1
          rw [if_pos e2, if_neg (show ¬ (1 : Int32) = 0 by decide)]
          exact q1
        · rw [if_neg e2] at q1
          rw [if_neg e2, if_pos (show (0 : Int32) = 0 from rfl)]
          exact q1
      · have e1 : hb y r = false := by simpa using e
        have hv : vrA A t c x y r = false := by unfold vrA; rw [e1, Bool.false_and]
        obtain ⟨I2, q1, q2, q3⟩ := r_upd1_L (x2 := x2) (P := P) (x := x) (y := y) hA ht hc d (r + 1) n I (by omega) (by omega) hS
        rw [ha, hv, if_neg (show ¬ false = true by decide)] at q1
        rw [if_neg (fun h => e (hb_iff.mp h))]
        exact ⟨I2, q1, q2, q3⟩
theorem r_upd2_L {P : Pool} {A : Abs} {I0 : Mem} {t c : Nat} {x2 x y : Int32} (hA : AOk A) (ht : t < 2) (hc : c < 4) (hS : RSt (I0 71) A) : ∀ (d r n : Nat) (I : Mem), r + d = A.1 t → d < n → Eqx [71] I0 I → (∀ t' r' c', t' < 2 → r' < 16 → c' < 4 → I 71 (2 + 4 * (16 * t' + r') + c') = if t' = t ∧ c' = c ∧ hb y r' = true ∧ r' < r then x else I0 71 (2 + 4 * (16 * t' + r') + c')) → (∀ k, k < 2 ∨ 130 ≤ k → I 71 k = I0 71 k) →
    ∃ I', f_X9_update_L154 (nI t) x2 (nI c) x P y n (nI r) I = some I' ∧ Eqx [71] I0 I' ∧ (∀ t' r' c', t' < 2 → r' < 16 → c' < 4 → I' 71 (2 + 4 * (16 * t' + r') + c') = if t' = t ∧ c' = c ∧ hb y r' = true ∧ r' < A.1 t then x else I0 71 (2 + 4 * (16 * t' + r') + c')) ∧ (∀ k, k < 2 ∨ 130 ≤ k → I' 71 k = I0 71 k)
  | 0, r, n, I, hr, hn, hE, h1, h2 => by
    obtain ⟨n, rfl⟩ : ∃ m, n = m + 1 := ⟨n - 1, by omega⟩
    have e : r = A.1 t := by omega
    subst e
    have := hA.1 t ht
    refine ⟨I, ?_, hE, h1, h2⟩
    unfold f_X9_update_L154
    rw [bs_b (show f_X9_many (nI t) I = some (nI (A.1 t)) by unfold f_X9_many; rw [bs_b (rd_e t (by rw [show (0 : Int32) = nI 0 from rfl, nI_add, Nat.zero_add]) (by omega) (by decide)), h2 t (by omega), hS.1 t ht]), if_pos (nI_le (Nat.le_refl _) (by omega))]
  | d + 1, r, n, I, hr, hn, hE, h1, h2 => by
    obtain ⟨n, rfl⟩ : ∃ m, n = m + 1 := ⟨n - 1, by omega⟩
    have h16 := hA.1 t ht
    have hi : 2 + 4 * (16 * t + r) + c < 619 := by omega
    unfold f_X9_update_L154
    rw [bs_b (show f_X9_many (nI t) I = some (nI (A.1 t)) by unfold f_X9_many; rw [bs_b (rd_e t (by rw [show (0 : Int32) = nI 0 from rfl, nI_add, Nat.zero_add]) (by omega) (by decide)), h2 t (by omega), hS.1 t ht]), if_neg (nI_ge (by omega) (by omega)), bs_b (r_at t r c), nI_1]
    have step : ∀ (z : Int32), z = (if hb y r = true then x else I 71 (2 + 4 * (16 * t + r) + c)) → (∀ t' r' c', t' < 2 → r' < 16 → c' < 4 → up I 71 (2 + 4 * (16 * t + r) + c) z 71 (2 + 4 * (16 * t' + r') + c') = if t' = t ∧ c' = c ∧ hb y r' = true ∧ r' < r + 1 then x else I0 71 (2 + 4 * (16 * t' + r') + c')) := by
      intro z hz t' r' c' a1 a2 a3
      by_cases e2 : t' = t ∧ c' = c ∧ r' = r
      · rw [e2.1, e2.2.1, e2.2.2, up_eq, hz]
        by_cases e : hb y r = true
        · rw [if_pos e, if_pos ⟨rfl, rfl, e, by omega⟩]
        · rw [if_neg e, if_neg (fun h => e h.2.2.1), h1 t r c ht (by omega) hc, if_neg (fun h => e h.2.2.1)]
      · rw [up_nk _ _ (by omega), h1 t' r' c' a1 a2 a3]
        by_cases e3 : t' = t ∧ c' = c ∧ hb y r' = true ∧ r' < r
        · rw [if_pos e3, if_pos ⟨e3.1, e3.2.1, e3.2.2.1, by omega⟩]
        · rw [if_neg e3, if_neg (fun h => e3 ⟨h.1, h.2.1, h.2.2.1, by
            have : ¬ r' = r := fun h4 => e2 ⟨h.1, h.2.1, h4⟩
            have := h.2.2.2
            omega⟩)]
    by_cases e : hb y r = true
    · rw [if_pos (hb_iff.mpr e), bs_b (wr_e (2 + 4 * (16 * t + r) + c) rfl hi (by decide))]
      exact r_upd2_L hA ht hc hS d (r + 1) n _ (by omega) (by omega) (hE.tr (Eqx.up (by decide))) (step x (by rw [if_pos e])) (fun k hk => by rw [up_nk _ _ (by omega)]; exact h2 k hk)
    · rw [if_neg (fun h => e (hb_iff.mp h)), bs_b (show f_X9_of (nI t) (nI r) (nI c) I = some (I 71 (2 + 4 * (16 * t + r) + c)) by unfold f_X9_of; rw [bs_b (r_at t r c), bs_b (rd_e (2 + 4 * (16 * t + r) + c) rfl hi (by decide))]), bs_b (wr_e (2 + 4 * (16 * t + r) + c) rfl hi (by decide))]
      exact r_upd2_L hA ht hc hS d (r + 1) n _ (by omega) (by omega) (hE.tr (Eqx.up (by decide))) (step _ (by rw [if_neg e])) (fun k hk => by rw [up_nk _ _ (by omega)]; exact h2 k hk)
theorem r_update {I : Mem} {P : Pool} {N : Abs} {S : List Abs} {X : (Nat → Option Abs) × List Nat} {t s c : Nat} {x : Int32} (hM : MI (up I 70 7 0) (N, S, X)) (hO : GOk (N, S, X)) (h6 : S.length ≤ 6) (ht : t < 2) (hs : s < 6) (hc : c < 4) (hV : fV (N.2.2.1 s)) (e0 : f_X9_isTable (nI t) = some 1) (e1 : f_X9_isSlot (nI s) = some 1) (e2 : f_X9_isColumn (nI c) = some 1) (e3 : f_X9_isValue x = some 1) :
    ∃ I', f_X9_update (nI t) (nI s) (nI c) x P I = some (upfV N t s c x, I') ∧ MI I' (upfA N t s c x, svd S N, X) ∧ I' 70 7 = 0 ∧ (∀ a, a < 70 ∨ 85 ≤ a → I' a = I a) := by
  have hA : AOk N := hO.1
  have h16 := hA.1 t ht
  obtain ⟨I1, g1, g2, g3, g4⟩ := r_save (P := P) hM hO h6
  have g2 : MI I1 (N, svd S N, X) := g2
  obtain ⟨I2, v1, v2, v3⟩ := r_rowsOf (v := 2) g2.1 hA ht (show s < 8 by omega) (g2.1.2.2.1 s (by omega)) hV
  have v1 : f_X9_rowsOf (nI t) (nI s) 2 I1 = some (chs N t s, I2) := v1
  have hS2 : RSt (I2 71) N := by rw [v2 71 (by decide)]; exact g2.1
  obtain ⟨I3, w1, w2, w3⟩ := r_upd1_L (x2 := nI s) (P := P) (x := x) (y := chs N t s) hA ht hc (N.1 t) 0 fuel I2 (by omega) (by unfold fuel; omega) hS2
  have w1 : f_X9_update_L79 (nI t) (nI s) (nI c) x P (chs N t s) fuel 0 0 I2 = some (if anyb (vrA N t c x (chs N t s)) (N.1 t) = true then 1 else 0, I3) := w1
  have hS3 : RSt (I3 71) N := by rw [w2 71 (by decide)]; exact hS2
  have h7x : ∀ a, 72 ≤ a → a ≤ 75 → I3 a = I1 a := fun a h1 h2 => by rw [w2 a (by simp; omega), v2 a (by simp; omega)]
  have hM3 : MI I3 (N, svd S N, X) := g2.now (σ := (N, svd S N, X)) (by rw [w3 2 (by decide), v3 2 (by decide)]) (by rw [w3 6 (by decide), v3 6 (by decide)]) h7x hS3
  have h707 : I3 70 7 = 0 := by rw [w3 7 (by decide), v3 7 (by decide), g4 7 (by decide), up_eq]
  have hothers : ∀ a, a < 70 ∨ 85 ≤ a → I3 a = I a := fun a h => by rw [w2 a (by simp; omega), v2 a (by simp; omega), g3 a (by omega) (by omega), up_ne _ _ _ (by omega)]
  have vb : f_X9_bits (chs N t s) = some (remV N t s) := r_bitsM h16
  have head : f_X9_update (nI t) (nI s) (nI c) x P I = (if (if anyb (vrA N t c x (chs N t s)) (N.1 t) = true then 1 else 0 : Int32) = 0 then ((f_X9_update_L154 (nI t) (nI s) (nI c) x P (chs N t s) fuel 0 I3).bind fun q18 => (f_X9_bits (chs N t s)).bind fun q19 => some (q19, q18)) else ((rd I3 71 619 618).bind fun v20 => (wr I3 71 619 618 (v20 + 1)).bind fun I21 => some ((-2), I21))) := by
    unfold f_X9_update
    rw [bz_1 e0, bz_1 e1, bz_1 e2, bz_1 e3, bs_b (r_partsN hM.1 (show s < 8 by omega)), if_neg (fV_len hV).2.2, bs_b g1, bs_b v1, bs_b w1]
  by_cases b1 : anyb (vrA N t c x (chs N t s)) (N.1 t) = true
  · refine ⟨up I3 71 618 (I3 71 618 + 1), ?_, ?_, by rw [up_ne _ _ _ (by decide)]; exact h707, fun a h => by rw [up_ne _ _ _ (by omega)]; exact hothers a h⟩
    · unfold upfV
      rw [head, if_pos b1, if_pos b1, if_neg (show ¬ (1 : Int32) = 0 by decide), bs_b (rd_e 618 (show (618 : Int32) = nI 618 from rfl) (by decide) (by decide)), bs_b (wr_e 618 (show (618 : Int32) = nI 618 from rfl) (by decide) (by decide))]
    · unfold upfA
      rw [if_pos b1]
      refine hM3.now (σ := (N, svd S N, X)) (by rw [up_ne _ _ _ (by decide)]) (by rw [up_ne _ _ _ (by decide)]) (fun a h1 h2 => by rw [up_ne _ _ _ (by omega)]) ?_
      exact hS3.ref hA (fun k hk => ⟨fun _ _ _ _ _ _ _ => up_nk _ _ (by omega), fun _ => up_nk _ _ (by omega), fun _ => up_nk _ _ (by omega)⟩) (up_eq _ _ _ _)
  · obtain ⟨I4, p1, p2, p3, p4⟩ := r_upd2_L (x2 := nI s) (P := P) (x := x) (y := chs N t s) hA ht hc hS3 (N.1 t) 0 fuel I3 (by omega) (by unfold fuel; omega) Eqx.rf (fun t' r' c' _ _ _ => (if_neg (fun h => absurd h.2.2.2 (Nat.not_lt_zero _))).symm) (fun _ _ => rfl)
    refine ⟨I4, ?_, ?_, by rw [p2 70 (by decide)]; exact h707, fun a h => by rw [p2 a (by simp; omega)]; exact hothers a h⟩
    · unfold upfV
      rw [head, if_neg b1, if_neg b1, if_pos (show (0 : Int32) = 0 from rfl), bs_b (show f_X9_update_L154 (nI t) (nI s) (nI c) x P (chs N t s) fuel 0 I3 = some I4 from p1), bs_b vb]
    · unfold upfA
      rw [if_neg b1]
      refine hM3.now (σ := (N, svd S N, X)) (by rw [p2 70 (by decide)]) (by rw [p2 70 (by decide)]) (fun a h1 h2 => p2 a (by simp; omega)) ?_
      refine hS3.set hA (fun k h1 h2 => p4 k (by omega)) (fun t' ht' => by rw [p4 t' (by omega)]; exact hS3.1 t' ht') (fun t' r' c' ht' hr' hc' => ?_) rfl (by rw [p4 618 (by omega)]; exact hS3.2.2.2)
      have hr' : r' < N.1 t' := hr'
      have h17 := hA.1 t' ht'
      show I4 71 (2 + 4 * (16 * t' + r') + c') = if t' = t ∧ c' = c ∧ hb (chs N t s) r' = true then x else N.2.1 t' r' c'
      rw [p3 t' r' c' ht' (by omega) hc']
      by_cases e : t' = t ∧ c' = c ∧ hb (chs N t s) r' = true
      · rw [if_pos e, if_pos ⟨e.1, e.2.1, e.2.2, by rw [← e.1]; exact hr'⟩]
      · rw [if_neg e, if_neg (fun h => e ⟨h.1, h.2.1, h.2.2.1⟩)]
        exact hS3.2.1 t' r' c' ht' hr' hc'
theorem st_update : ST_update INV := by
  intro I R P Z nx x1 x2 x3 x4 hI hF0 hF1
  obtain ⟨σ, hC, hM, hO⟩ := hI
  have hA := hO.1
  have hM0 := hM.t0 (x := 0)
  rcases a_tab x1 with ⟨t, ht, rfl, e0, f0⟩ | ⟨e0, f0⟩
  rotate_left
  · exact ⟨(1, I, R, P, Z), (0, up (up I 70 7 0) 70 7 1), by unfold f_L_update f_X8_update; rw [bs_r e0]; rfl, by unfold f_X9_update; rw [bz_0 f0]; rfl, (show up (up I 70 7 0) 70 7 1 70 7 = 1 from up_eq _ _ _ _), fun h => absurd (show (1 : Int32) = 0 from h) (by decide), INV.ex hC hM hO⟩
  rcases a_slot x2 with ⟨s, hs, rfl, e1, f1⟩ | ⟨e1, f1⟩
  rotate_left
  · exact ⟨(1, I, R, P, Z), (0, up (up I 70 7 0) 70 7 1), by unfold f_L_update f_X8_update; rw [bs_l e0, bs_r e1]; rfl, by unfold f_X9_update; rw [bz_1 f0, bz_0 f1]; rfl, (show up (up I 70 7 0) 70 7 1 70 7 = 1 from up_eq _ _ _ _), fun h => absurd (show (1 : Int32) = 0 from h) (by decide), INV.ex hC hM hO⟩
  rcases a_col x3 with ⟨c, hc, rfl, e2, f2⟩ | ⟨e2, f2⟩
  rotate_left
  · exact ⟨(1, I, R, P, Z), (0, up (up I 70 7 0) 70 7 1), by unfold f_L_update f_X8_update; rw [bs_l e0, bs_l e1, bs_r e2]; rfl, by unfold f_X9_update; rw [bz_1 f0, bz_1 f1, bz_0 f2]; rfl, (show up (up I 70 7 0) 70 7 1 70 7 = 1 from up_eq _ _ _ _), fun h => absurd (show (1 : Int32) = 0 from h) (by decide), INV.ex hC hM hO⟩
  rcases a_val x4 with ⟨hv, e3, f3⟩ | ⟨e3, f3⟩
  rotate_left
  · exact ⟨(2, I, R, P, Z), (0, up (up I 70 7 0) 70 7 2), by unfold f_L_update f_X8_update; rw [bs_l e0, bs_l e1, bs_l e2, bs_r e3]; rfl, by unfold f_X9_update; rw [bz_1 f0, bz_1 f1, bz_1 f2, bz_0 f3]; rfl, (show up (up I 70 7 0) 70 7 2 70 7 = 2 from up_eq _ _ _ _), fun h => absurd (show (2 : Int32) = 0 from h) (by decide), INV.ex hC hM hO⟩
  obtain ⟨N, S, X⟩ := σ
  have hA : AOk N := hA
  rcases k_filled hC.1 hA hs with ⟨e4, hL⟩ | ⟨k, e4, hF, hV⟩
  · exact ⟨(3, I, R, P, Z), (0, up (up I 70 7 0) 70 7 3), by unfold f_L_update f_X8_update; rw [bs_l e0, bs_l e1, bs_l e2, bs_l e3, bs_r e4]; rfl, by unfold f_X9_update; rw [bz_1 f0, bz_1 f1, bz_1 f2, bz_1 f3, bz_0 (r_parts0 hM0.1 (show s < 8 by omega) hL)]; rfl, (show up (up I 70 7 0) 70 7 3 70 7 = 3 from up_eq _ _ _ _), fun h => absurd (show (3 : Int32) = 0 from h) (by decide), INV.ex hC hM hO⟩
  · obtain ⟨I1, R1, g1, g2, g3⟩ := k_update hC hA ht hs hc e0 e1 e2 e3 e4 hF hV
    obtain ⟨I2, q1, q2, q3, q4⟩ := r_update (P := P) ((hM.cf g3).t0 (x := 0)) hO hC.2.1.2.1 ht hs hc hV f0 f1 f2 f3
    have hO2 : GOk (upfA N t s c x4, svd S N, X) := (GOk.save hO).now (upfA_ok hA hv)
    exact ⟨(0, I1, R1, P, (vp_updL Z.1 0 (upfV N t s c x4).toInt64, Z.2)), (upfV N t s c x4, I2), by unfold f_L_update; rw [g1]; rfl, q1, (show I2 70 7 = 0 from q3), fun _ => upL0 Z.1 _, ⟨_, g2.e70 q4, q2, hO2⟩⟩
end MB17
