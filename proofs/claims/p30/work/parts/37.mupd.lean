/-! PURE PART 18: update. -/
section MB17
def anyb (b : Nat → Bool) : Nat → Bool
  | 0 => false
  | n + 1 => anyb b n || b n
theorem anyb_s (b : Nat → Bool) (n : Nat) : anyb b (n + 1) = (anyb b n || b n) := rfl
theorem anyb_mono {b : Nat → Bool} {r : Nat} (h : anyb b r = true) : ∀ d, anyb b (r + d) = true
  | 0 => h
  | d + 1 => by rw [← Nat.add_assoc, anyb_s, anyb_mono h d]; rfl
def vrA (A : Abs) (t c : Nat) (x y : Int32) (r : Nat) : Bool := hb y r && vioA A t (rowC A t r c x)
theorem k_upd1_L {R : Rem} {P : Pool} {A : Abs} {t c : Nat} {x2 x y : Int32} (hA : AOk A) (ht : t < 2) (hc : c < 4) : ∀ (d r n : Nat) (I : Mem), r + d = A.1 t → d < n → CSt I R P 1 A → anyb (vrA A t c x y) r = false →
    ∃ I', Eqx [10, 12, 13, 14, 15] I I' ∧ ((anyb (vrA A t c x y) (A.1 t) = true ∧ f_X8_update_L41 (nI t) x2 (nI c) x P y R n (nI r) I = some (.inl (.inl (-2), up I' 1 4 (I' 1 4 + 1), R))) ∨ (anyb (vrA A t c x y) (A.1 t) = false ∧ f_X8_update_L41 (nI t) x2 (nI c) x P y R n (nI r) I = some (.inr I')))
  | 0, r, n, I, hr, hn, hS, hb0 => by
    obtain ⟨n, rfl⟩ : ∃ m, n = m + 1 := ⟨n - 1, by omega⟩
    have e : r = A.1 t := by omega
    subst e
    have := hA.1 t ht
    refine ⟨I, Eqx.rf, Or.inr ⟨hb0, ?_⟩⟩
    unfold f_X8_update_L41
    rw [bs_b (k_cnt hS ht), if_pos (nI_le (Nat.le_refl _) (by omega))]
  | d + 1, r, n, I, hr, hn, hS, hb0 => by
    obtain ⟨n, rfl⟩ : ∃ m, n = m + 1 := ⟨n - 1, by omega⟩
    have h16 := hA.1 t ht
    have ha := anyb_s (vrA A t c x y) r
    rw [hb0, Bool.false_or] at ha
    unfold f_X8_update_L41
    rw [bs_b (k_cnt hS ht), if_neg (nI_ge (by omega) (by omega)), bs_b (k_hasBit y r), nI_1]
    by_cases e : hb y r = true
    · rw [if_pos e, if_neg (show ¬ (1 : Int32) = 0 by decide)]
      obtain ⟨I1, v1, v2⟩ := k_would (x := x) hS hA ht (show r < A.1 t by omega) hc
      have v1 : f_X8_wouldViolate (nI t) (nI r) (nI c) x P R I = some (if vioA A t (rowC A t r c x) = true then 1 else 0, I1) := v1
      have hv : vrA A t c x y r = vioA A t (rowC A t r c x) := by unfold vrA; rw [e, Bool.true_and]
      rw [bs_b v1]
      by_cases e2 : vioA A t (rowC A t r c x) = true
      · rw [hv, e2] at ha
        refine ⟨I1, v2, Or.inl ⟨?_, ?_⟩⟩
        · have := anyb_mono ha d
          rw [show r + 1 + d = A.1 t by omega] at this
          exact this
        · rw [if_pos e2, if_neg (show ¬ (1 : Int32) = 0 by decide)]
          rfl
      · have e3 : vioA A t (rowC A t r c x) = false := by simpa using e2
        rw [hv, e3] at ha
        obtain ⟨I2, q1, q2⟩ := k_upd1_L (x2 := x2) (x := x) (y := y) (R := R) (P := P) hA ht hc d (r + 1) n I1 (by omega) (by omega) (hS.eqx v2 (by decide) (by decide) (by decide) (by decide)) ha
        rw [if_neg e2, if_pos (show (0 : Int32) = 0 from rfl)]
        exact ⟨I2, v2.tr q1, q2⟩
    · have e1 : hb y r = false := by simpa using e
      have hv : vrA A t c x y r = false := by unfold vrA; rw [e1, Bool.false_and]
      rw [hv] at ha
      rw [if_neg e, if_pos (show (0 : Int32) = 0 from rfl)]
      exact k_upd1_L hA ht hc d (r + 1) n I (by omega) (by omega) hS ha
theorem k_upd2_L {R : Rem} {P : Pool} {A : Abs} {I0 : Mem} {t c : Nat} {x2 x y : Int32} (hA : AOk A) (ht : t < 2) (hc : c < 4) (hS : CSt I0 R P 1 A) : ∀ (d r n : Nat) (I : Mem), r + d = A.1 t → d < n → Eqx [2] I0 I → (∀ t' r' c', t' < 2 → r' < 16 → c' < 4 → I 2 ((t' * 16 + r') * 4 + c') = if t' = t ∧ c' = c ∧ hb y r' = true ∧ r' < r then x else I0 2 ((t' * 16 + r') * 4 + c')) →
    ∃ I', f_X8_update_L92 (nI t) x2 (nI c) x P y R n (nI r) I = some I' ∧ Eqx [2] I0 I' ∧ (∀ t' r' c', t' < 2 → r' < 16 → c' < 4 → I' 2 ((t' * 16 + r') * 4 + c') = if t' = t ∧ c' = c ∧ hb y r' = true ∧ r' < A.1 t then x else I0 2 ((t' * 16 + r') * 4 + c'))
  | 0, r, n, I, hr, hn, hE, h1 => by
    obtain ⟨n, rfl⟩ : ∃ m, n = m + 1 := ⟨n - 1, by omega⟩
    have e : r = A.1 t := by omega
    subst e
    have := hA.1 t ht
    refine ⟨I, ?_, hE, h1⟩
    unfold f_X8_update_L92
    rw [bs_b (show rd I 3 2 (nI t) = some (nI (A.1 t)) by rw [rd_e t rfl ht (by decide), hE 3 (by decide), hS.1 t ht]), if_pos (nI_le (Nat.le_refl _) (by omega))]
  | d + 1, r, n, I, hr, hn, hE, h1 => by
    obtain ⟨n, rfl⟩ : ∃ m, n = m + 1 := ⟨n - 1, by omega⟩
    have h16 := hA.1 t ht
    unfold f_X8_update_L92
    rw [bs_b (show rd I 3 2 (nI t) = some (nI (A.1 t)) by rw [rd_e t rfl ht (by decide), hE 3 (by decide), hS.1 t ht]), if_neg (nI_ge (by omega) (by omega)), bs_b (k_hasBit y r), nI_1]
    by_cases e : hb y r = true
    · rw [if_pos e, if_neg (show ¬ (1 : Int32) = 0 by decide), bs_b (k_place t r c), bs_b (wr_e ((t * 16 + r) * 4 + c) rfl (by omega) (by decide))]
      refine k_upd2_L hA ht hc hS d (r + 1) n _ (by omega) (by omega) (hE.tr (Eqx.up (by decide))) (fun t' r' c' a1 a2 a3 => ?_)
      by_cases e2 : t' = t ∧ c' = c ∧ r' = r
      · rw [if_pos ⟨e2.1, e2.2.1, by rw [e2.2.2]; exact e, by omega⟩, e2.1, e2.2.1, e2.2.2, up_eq]
      · rw [up_nk _ _ (by omega), h1 t' r' c' a1 a2 a3]
        by_cases e3 : t' = t ∧ c' = c ∧ hb y r' = true ∧ r' < r
        · rw [if_pos e3, if_pos ⟨e3.1, e3.2.1, e3.2.2.1, by omega⟩]
        · rw [if_neg e3, if_neg (fun h => e3 ⟨h.1, h.2.1, h.2.2.1, by
            have : ¬ r' = r := fun h4 => e2 ⟨h.1, h.2.1, h4⟩
            have := h.2.2.2
            omega⟩)]
    · rw [if_neg e, if_pos (show (0 : Int32) = 0 from rfl)]
      refine k_upd2_L hA ht hc hS d (r + 1) n I (by omega) (by omega) hE (fun t' r' c' a1 a2 a3 => ?_)
      rw [h1 t' r' c' a1 a2 a3]
      by_cases e3 : t' = t ∧ c' = c ∧ hb y r' = true ∧ r' < r
      · rw [if_pos e3, if_pos ⟨e3.1, e3.2.1, e3.2.2.1, by omega⟩]
      · rw [if_neg e3, if_neg (fun h => e3 ⟨h.1, h.2.1, h.2.2.1, by
          have h3 := h.2.2.1
          have : ¬ r' = r := fun h4 => e (by rw [← h4]; exact h3)
          have := h.2.2.2
          omega⟩)]
def updA (A : Abs) (t c : Nat) (x : Int32) (b : Nat → Bool) : Abs := (A.1, (fun t' r' c' => if t' = t ∧ c' = c ∧ b r' = true then x else A.2.1 t' r' c'), A.2.2)
theorem AOk.upd {A : Abs} {t c : Nat} {x : Int32} {b : Nat → Bool} (h : AOk A) (hx : cok x) : AOk (updA A t c x b) := by
  refine ⟨h.1, fun t' r' c' h1 h2 h3 => ?_, h.2.2⟩
  show cok (if t' = t ∧ c' = c ∧ b r' = true then x else A.2.1 t' r' c')
  split
  · exact hx
  · exact h.2.1 t' r' c' h1 h2 h3
def chs (A : Abs) (t s : Nat) : Int32 := tmask A t (A.2.2.1 s) 2 (A.1 t)
def upfA (A : Abs) (t s c : Nat) (x : Int32) : Abs := if anyb (vrA A t c x (chs A t s)) (A.1 t) = true then refA A else updA A t c x (hb (chs A t s))
def upfV (A : Abs) (t s c : Nat) (x : Int32) : Int32 := if anyb (vrA A t c x (chs A t s)) (A.1 t) = true then -2 else remV A t s
theorem upfA_ok {A : Abs} {t s c : Nat} {x : Int32} (hA : AOk A) (hx : cok x) : AOk (upfA A t s c x) := by
  unfold upfA
  split
  · exact hA.ref
  · exact hA.upd hx
theorem k_update {I : Mem} {R : Rem} {P : Pool} {N : Abs} {S : List Abs} {X : (Nat → Option Abs) × List Nat} {t s c k : Nat} {x : Int32} (hC : CI I R P (N, S, X)) (hA : AOk N) (ht : t < 2) (hs : s < 6) (hc : c < 4) (e0 : f_X8_requireTable (nI t) = some (.inl ())) (e1 : f_X8_requireSlot (nI s) = some (.inl ())) (e2 : f_X8_requireColumn (nI c) = some (.inl ())) (e3 : f_X8_requireCellValue x = some (.inl ())) (e4 : f_X8_filledSlot (nI s) P R = some (.inl (some k))) (hF : FObj I R P k (N.2.2.1 s)) (hV : fV (N.2.2.1 s)) :
    ∃ I' R', f_X8_update (nI t) (nI s) (nI c) x P R I = some (.inl (upfV N t s c x), I', R') ∧ CI I' R' P (upfA N t s c x, svd S N, X) ∧ (∀ a, 70 ≤ a → a < 70 → I' a = I a) := by
  obtain ⟨I1, R1, g1, g2, g3, g4, g5⟩ := k_save hC hA
  have g2 : CI I1 R1 P (N, svd S N, X) := g2
  have h16 := hA.1 t ht
  have hF1 := hF.pk (PK.sv g3 g5)
  obtain ⟨I2, v1, v2⟩ := k_rowsWith (v := 2) g2.1 hA ht hF1 hV
  have v1 : f_X8_rowsWith (nI t) (some k) 2 P R1 I1 = some (chs N t s, I2) := v1
  have hC2 : CI I2 R1 P (N, svd S N, X) := g2.sc (v2.mono (by decide))
  have vb : f_J6_bitCount_0f7a4 (chs N t s) = some (remV N t s) := k_bitsM (hA.1 t ht)
  obtain ⟨I3, w1, w2⟩ := k_upd1_L (x2 := nI s) (x := x) (y := chs N t s) hA ht hc (N.1 t) 0 fuel I2 (by omega) (by unfold fuel; omega) hC2.1 rfl
  have hC3 : CI I3 R1 P (N, svd S N, X) := hC2.sc (w1.mono (by decide))
  have h70 : ∀ a, 70 ≤ a → a < 70 → I3 a = I a := fun a h1 h2 => by rw [w1 a (by simp; omega), v2 a (by simp; omega), g3 a (by omega) (by omega)]
  have head : f_X8_update (nI t) (nI s) (nI c) x P R I = ((f_X8_update_L41 (nI t) (nI s) (nI c) x P (chs N t s) R1 fuel 0 I2).bind fun q22 => sm q22 (fun r => some r) fun q23 => (f_X8_update_L92 (nI t) (nI s) (nI c) x P (chs N t s) R1 fuel 0 q23).bind fun q28 => (f_J6_bitCount_0f7a4 (chs N t s)).bind fun q29 => some (.inl q29, q28, R1)) := by
    unfold f_X8_update
    rw [bs_l e0, bs_l e1, bs_l e2, bs_l e3, bs_l e4, bs_b g1, bs_b v1]
  rcases w2 with ⟨b1, b2⟩ | ⟨b1, b2⟩
  · refine ⟨up I3 1 4 (I3 1 4 + 1), R1, ?_, ?_, fun a h1 h2 => by rw [up_ne _ _ _ (by omega)]; exact h70 a h1 h2⟩
    · unfold upfV
      rw [if_pos b1, head, bs_l (show f_X8_update_L41 (nI t) (nI s) (nI c) x P (chs N t s) R1 fuel 0 I2 = _ from b2)]
    · unfold upfA
      rw [if_pos b1]
      exact hC3.now (σ := (N, svd S N, X)) (fun a h1 _ _ _ => up_ne _ _ _ h1) (fun _ _ _ => rfl) (hC3.1.ref (fun a h1 => up_ne _ _ _ h1) (up_eq _ _ _ _))
  · have b3 : ¬ anyb (vrA N t c x (chs N t s)) (N.1 t) = true := by rw [b1]; decide
    obtain ⟨I4, p1, p2, p3⟩ := k_upd2_L (x2 := nI s) (x := x) (y := chs N t s) (R := R1) (P := P) hA ht hc hC3.1 (N.1 t) 0 fuel I3 (by omega) (by unfold fuel; omega) Eqx.rf (fun t' r' c' _ _ _ => (if_neg (fun h => absurd h.2.2.2 (Nat.not_lt_zero _))).symm)
    refine ⟨I4, R1, ?_, ?_, fun a h1 h2 => by rw [p2 a (by simp; omega)]; exact h70 a h1 h2⟩
    · unfold upfV
      rw [if_neg b3, head, bs_r (show f_X8_update_L41 (nI t) (nI s) (nI c) x P (chs N t s) R1 fuel 0 I2 = _ from b2), bs_b (show f_X8_update_L92 (nI t) (nI s) (nI c) x P (chs N t s) R1 fuel 0 I3 = some I4 from p1), bs_b vb]
    · unfold upfA
      rw [if_neg b3]
      refine hC3.now (σ := (N, svd S N, X)) (fun a _ h1 h2 _ => p2 a (by simp; omega)) (fun _ _ _ => rfl) (hC3.1.set (fun a h1 => p2 a (by simp; omega)) (fun t' ht' => by rw [p2 3 (by decide)]; exact hC3.1.1 t' ht') (fun t' r' c' ht' hr' hc' => ?_) rfl (by rw [p2 1 (by decide)]; exact hC3.1.2.2.2.2))
      have hr' : r' < N.1 t' := hr'
      have h17 := hA.1 t' ht'
      show I4 2 ((t' * 16 + r') * 4 + c') = if t' = t ∧ c' = c ∧ hb (chs N t s) r' = true then x else N.2.1 t' r' c'
      rw [p3 t' r' c' ht' (by omega) hc']
      by_cases e : t' = t ∧ c' = c ∧ hb (chs N t s) r' = true
      · rw [if_pos e, if_pos ⟨e.1, e.2.1, e.2.2, by rw [← e.1]; exact hr'⟩]
      · rw [if_neg e, if_neg (fun h => e ⟨h.1, h.2.1, h.2.2.1⟩)]
        exact hC3.1.2.1 t' r' c' ht' hr' hc'
/-! the reference -/
theorem hb_iff {y : Int32} {r : Nat} : (((y >>> (nI r &&& 31)) &&& 1) = 1) ↔ hb y r = true := by unfold hb; simp
end MB17
