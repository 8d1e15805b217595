/-! PURE PART 10: states copied and saved. -/
section MB9
theorem kd_st {P : Pool} : ∀ i, i < 8 → Kd P (30 + 5 * i) = 6 := by
  intro i hi
  unfold Kd
  rw [if_pos (by omega)]
  have key : ∀ i, i < 8 → kdL.getD (30 + 5 * i) 99 = 6 := by decide +kernel
  exact key i hi
theorem k_take20 {I0 : Mem} {R0 : Rem} {P : Pool} {p k : Nat} (hs : p + 5 ≤ k ∨ k + 5 ≤ p) (hk : ∀ j, j < 2 → ∀ q, R0 (k + 4) j = some q → Kd P q = 2) : ∀ (d c n : Nat) (I : Mem) (R : Rem), c + d = 2 → d < n → (∀ a, a ≠ p + 2 → I a = I0 a) → (∀ a, a ≠ p + 4 → R a = R0 a) → (∀ j, j < c → I (p + 2) j = I0 (k + 2) j) → (∀ j, j < c → R (p + 4) j = R0 (k + 4) j) →
    ∃ I' R', f_X6_takeOver_L20 p (some k) P n (nI c) I R = some (I', R') ∧ (∀ a, a ≠ p + 2 → I' a = I0 a) ∧ (∀ a, a ≠ p + 4 → R' a = R0 a) ∧ (∀ j, j < 2 → I' (p + 2) j = I0 (k + 2) j) ∧ (∀ j, j < 2 → R' (p + 4) j = R0 (k + 4) j)
  | 0, c, n, I, R, hc, hn, h1, h2, h3, h4 => by
    obtain ⟨n, rfl⟩ : ∃ m, n = m + 1 := ⟨n - 1, by omega⟩
    have e : c = 2 := by omega
    subst e
    refine ⟨I, R, ?_, h1, h2, h3, h4⟩
    unfold f_X6_takeOver_L20
    rw [if_pos (show (2 : Int32) ≤ nI 2 by decide)]
  | d + 1, c, n, I, R, hc, hn, h1, h2, h3, h4 => by
    obtain ⟨n, rfl⟩ : ∃ m, n = m + 1 := ⟨n - 1, by omega⟩
    unfold f_X6_takeOver_L20
    rw [if_neg (show ¬ (2 : Int32) ≤ nI c from nI_ge (b := 2) (by omega) (by decide))]
    simp only [Option.bind_some]
    rw [rd_e c rfl (by omega) (by decide)]
    simp only [Option.bind_some]
    rw [wr_e c rfl (by omega) (by decide)]
    simp only [Option.bind_some]
    have hR : R (k + 4) c = R0 (k + 4) c := by rw [h2 (k + 4) (by omega)]
    rw [rdq_o c rfl (by omega) (by decide) hR (hk c (by omega))]
    simp only [Option.bind_some]
    rw [wrq_e c rfl (by omega) (by decide)]
    simp only [Option.bind_some]
    rw [nI_1]
    refine k_take20 hs hk d (c + 1) n _ _ (by omega) (by omega) (fun a ha => by rw [up_ne _ _ _ ha]; exact h1 a ha) (fun a ha => by rw [upR_ne _ _ _ ha]; exact h2 a ha) (fun j hj => ?_) (fun j hj => ?_)
    · by_cases e : j = c
      · subst e; rw [up_eq, h1 (k + 2) (by omega)]
      · rw [up_nk _ _ e]; exact h3 j (by omega)
    · by_cases e : j = c
      · subst e; rw [upR_eq]
      · rw [upR_nk _ _ e]; exact h4 j (by omega)
theorem k_take57 {R0 : Rem} {I : Mem} {P : Pool} {p k : Nat} (hs : p + 5 ≤ k ∨ k + 5 ≤ p) (hk : ∀ j, j < 6 → ∀ q, R0 (k + 3) j = some q → Kd P q = 2) : ∀ (d c n : Nat) (R : Rem), c + d = 6 → d < n → (∀ a, a ≠ p + 3 → R a = R0 a) → (∀ j, j < c → R (p + 3) j = R0 (k + 3) j) →
    ∃ R', f_X6_takeOver_L57 p (some k) P I n (nI c) R = some R' ∧ (∀ a, a ≠ p + 3 → R' a = R0 a) ∧ (∀ j, j < 6 → R' (p + 3) j = R0 (k + 3) j)
  | 0, c, n, R, hc, hn, h2, h4 => by
    obtain ⟨n, rfl⟩ : ∃ m, n = m + 1 := ⟨n - 1, by omega⟩
    have e : c = 6 := by omega
    subst e
    refine ⟨R, ?_, h2, h4⟩
    unfold f_X6_takeOver_L57
    rw [if_pos (show (6 : Int32) ≤ nI 6 by decide)]
  | d + 1, c, n, R, hc, hn, h2, h4 => by
    obtain ⟨n, rfl⟩ : ∃ m, n = m + 1 := ⟨n - 1, by omega⟩
    unfold f_X6_takeOver_L57
    rw [if_neg (show ¬ (6 : Int32) ≤ nI c from nI_ge (b := 6) (by omega) (by decide))]
    simp only [Option.bind_some]
    have hR : R (k + 3) c = R0 (k + 3) c := by rw [h2 (k + 3) (by omega)]
    rw [rdq_o c rfl (by omega) (by decide) hR (hk c (by omega))]
    simp only [Option.bind_some]
    rw [wrq_e c rfl (by omega) (by decide)]
    simp only [Option.bind_some]
    rw [nI_1]
    refine k_take57 hs hk d (c + 1) n _ (by omega) (by omega) (fun a ha => by rw [upR_ne _ _ _ ha]; exact h2 a ha) (fun j hj => ?_)
    by_cases e : j = c
    · subst e; rw [upR_eq]
    · rw [upR_nk _ _ e]; exact h4 j (by omega)
theorem FOp.pkR {I I' : Mem} {R R' : Rem} {P : Pool} {o : Option Nat} {L : List Nat} (h : FOp I R P o L) (h1 : ∀ a, 70 ≤ a → I' a = I a) (h2 : ∀ a, 70 ≤ a → R' a = R a) : FOp I' R' P o L := h.pk (fun a ha _ => ⟨h1 a ha, h2 a ha, rfl, rfl⟩)
/-- a state takes over another one -/
theorem k_take {I : Mem} {R : Rem} {P : Pool} {p k : Nat} {A : Abs} (h : CSt I R P k A) (hA : AOk A) (hs : p + 5 ≤ k ∨ k + 5 ≤ p) (hp : p + 5 ≤ 70) (hk : k + 5 ≤ 70) : ∃ I' R', f_X8_copyState (some k) (some p) P R I = some (I', R') ∧ CSt I' R' P p A ∧ (∀ a, (a < p ∨ p + 3 ≤ a) → I' a = I a) ∧ (∀ a, a ≠ p + 3 → a ≠ p + 4 → R' a = R a) := by
  have kq3 : ∀ j, j < 6 → ∀ q, R (k + 3) j = some q → Kd P q = 2 := fun j hj q hq => (h.2.2.1 j hj).kd q hq
  have kq4 : ∀ j, j < 2 → ∀ q, R (k + 4) j = some q → Kd P q = 2 := fun j hj q hq => (h.2.2.2.1 j hj).kd q hq
  obtain ⟨J, hJ⟩ : ∃ J : Mem, J = fun b => if b = p + 1 then va_cpy (I (k + 1)) (I (p + 1)) 0 0 128 else I b := ⟨_, rfl⟩
  have hJ1 : J (p + 1) = va_cpy (I (k + 1)) (I (p + 1)) 0 0 128 := by rw [hJ]; simp
  have hJ2 : ∀ b, b ≠ p + 1 → J b = I b := fun b hb => by rw [hJ]; simp [hb]
  obtain ⟨I1, R1, e1, e2, e3, e4, e5⟩ := k_take20 (I0 := J) (R0 := R) (P := P) hs kq4 2 0 fuel J R rfl (by unfold fuel; omega) (fun _ _ => rfl) (fun _ _ => rfl) (fun j hj => absurd hj (by omega)) (fun j hj => absurd hj (by omega))
  obtain ⟨R2, f1, f2, f3⟩ := k_take57 (R0 := R1) (I := I1) (P := P) (p := p) (k := k) hs (fun j hj q hq => kq3 j hj q (by rw [← e3 (k + 3) (by omega)]; exact hq)) 6 0 fuel R1 rfl (by unfold fuel; omega) (fun _ _ => rfl) (fun j hj => absurd hj (by omega))
  have hI : ∀ a, (a < p ∨ p + 3 ≤ a) → up I1 p 4 (I1 k 4) a = I a := fun a ha => by rw [up_ne _ _ _ (by omega), e2 a (by omega), hJ2 a (by omega)]
  have hR : ∀ a, a ≠ p + 3 → a ≠ p + 4 → R2 a = R a := fun a h1 h2 => by rw [f2 a h1, e3 a h2]
  refine ⟨up I1 p 4 (I1 k 4), R2, ?_, ⟨fun t ht => ?_, fun t r c ht hr hc => ?_, fun s hs2 => ?_, fun t ht => ?_, ?_⟩, hI, hR⟩
  · unfold f_X8_copyState
    rw [oq_s, oq_s]
    unfold f_X6_takeOver
    simp only [Option.bind_some]
    rw [cpy_e (n0 := 128) (n1 := 128) 0 0 128 (show (0 : Int32) = nI 0 from rfl) (show (0 : Int32) = nI 0 from rfl) (show (128 : Int32) = nI 128 from rfl) (by decide) (by decide) (by decide) (by decide)]
    simp only [Option.bind_some]
    rw [← hJ, show f_X6_takeOver_L20 p (some k) P fuel 0 J R = some (I1, R1) from e1]
    simp only [Option.bind_some]
    rw [show f_X6_takeOver_L57 p (some k) P I1 fuel 0 R1 = some R2 from f1]
    rfl
  · rw [up_ne _ _ _ (by omega), e4 t ht, hJ2 _ (by omega)]; exact h.1 t ht
  · have := hA.1 t ht
    rw [up_ne _ _ _ (by omega), e2 _ (by omega), hJ1]
    unfold va_cpy
    rw [if_pos (by omega), show 0 + ((t * 16 + r) * 4 + c - 0) = (t * 16 + r) * 4 + c by omega]
    exact h.2.1 t r c ht hr hc
  · rw [f3 s hs2, e3 _ (by omega)]
    exact (h.2.2.1 s hs2).pkR (fun a ha => hI a (by omega)) (fun a ha => hR a (by omega) (by omega))
  · rw [f2 _ (by omega), e5 t ht]
    exact (h.2.2.2.1 t ht).pkR (fun a ha => hI a (by omega)) (fun a ha => hR a (by omega) (by omega))
  · rw [up_eq, e2 k (by omega), hJ2 k (by omega)]; exact h.2.2.2.2
def svd (S : List Abs) (A : Abs) : List Abs := (if S.length = 6 then S.tail else S) ++ [A]
theorem svd_len {S : List Abs} {A : Abs} (h : S.length ≤ 6) : (svd S A).length = (if S.length = 6 then 6 else S.length + 1) ∧ (svd S A).length ≤ 6 := by
  unfold svd
  by_cases e : S.length = 6
  · simp [e]
  · simp [e]; omega
theorem k_shift {P : Pool} {y1 : Option Nat} {I : Mem} {R0 : Rem} (hk : ∀ j, j < 6 → ∀ q, R0 6 j = some q → Kd P q = 6) : ∀ (d c n : Nat) (R : Rem), c + d = 6 → 1 ≤ c → d < n → (∀ a, a ≠ 6 → R a = R0 a) → (∀ j, j + 1 < c → R 6 j = R0 6 (j + 1)) → (∀ j, c ≤ j + 1 → R 6 j = R0 6 j) →
    ∃ R', f_X8_save_L18 P y1 I n (nI c) R = some R' ∧ (∀ a, a ≠ 6 → R' a = R0 a) ∧ (∀ j, j < 5 → R' 6 j = R0 6 (j + 1)) ∧ R' 6 5 = R0 6 5
  | 0, c, n, R, hc, h1, hn, h2, h3, h4 => by
    obtain ⟨n, rfl⟩ : ∃ m, n = m + 1 := ⟨n - 1, by omega⟩
    have e : c = 6 := by omega
    subst e
    refine ⟨R, ?_, h2, fun j hj => h3 j (by omega), h4 5 (by omega)⟩
    unfold f_X8_save_L18
    rw [if_pos (show (6 : Int32) ≤ nI 6 by decide)]
  | d + 1, c, n, R, hc, h1, hn, h2, h3, h4 => by
    obtain ⟨n, rfl⟩ : ∃ m, n = m + 1 := ⟨n - 1, by omega⟩
    unfold f_X8_save_L18
    rw [if_neg (show ¬ (6 : Int32) ≤ nI c from nI_ge (b := 6) (by omega) (by decide)), rdq_o c rfl (by omega) (by decide) (h4 c (by omega)) (hk c (by omega))]
    simp only [Option.bind_some]
    rw [wrq_e (c - 1) (show nI c - 1 = nI (c - 1) from pk_sub (b := 1) h1) (by omega) (by decide)]
    simp only [Option.bind_some]
    rw [nI_1]
    refine k_shift hk d (c + 1) n _ (by omega) (by omega) (by omega) (fun a ha => by rw [upR_ne _ _ _ ha]; exact h2 a ha) (fun j hj => ?_) (fun j hj => ?_)
    · by_cases e : j = c - 1
      · subst e; rw [upR_eq, show c - 1 + 1 = c by omega]
      · rw [upR_nk _ _ e]; exact h3 j (by omega)
    · rw [upR_nk _ _ (by omega)]; exact h4 j (by omega)
/-- the class saves -/
theorem k_save {I : Mem} {R : Rem} {P : Pool} {σ : Gst} (hC : CI I R P σ) (hA : AOk σ.1) : ∃ I' R', f_X8_save P R I = some (I', R') ∧ CI I' R' P (σ.1, svd σ.2.1 σ.1, σ.2.2) ∧ (∀ a, a ≠ 0 → (a < 30 ∨ 60 ≤ a) → I' a = I a) ∧ (∀ j, j ≠ 2 → I' 0 j = I 0 j) ∧ (∀ a, a ≠ 6 → (a < 30 ∨ 60 ≤ a) → R' a = R a) := by
  obtain ⟨hN, ⟨hc, hc6, π, hπ, hinj, hst⟩, hsn, hbf⟩ := hC
  have hk6 : ∀ j, j < 6 → ∀ q, R 6 j = some q → Kd P q = 6 := fun j hj q hq => by
    rw [(hπ j hj).2] at hq; cases hq; exact kd_st _ (by have := (hπ j hj).1; omega)
  have hlen := svd_len (A := σ.1) hc6
  by_cases h6 : σ.2.1.length = 6
  · -- full
    have h0 := hπ 0 (by decide)
    obtain ⟨R1, e1, e2, e3, e4⟩ := k_shift (y1 := some (30 + 5 * π 0)) (I := I) hk6 5 1 fuel R rfl (by decide) (by unfold fuel; omega) (fun _ _ => rfl) (fun j hj => absurd hj (by omega)) (fun j _ => rfl)
    obtain ⟨R2, hR2⟩ : ∃ R2, R2 = upR R1 6 5 (some (30 + 5 * π 0)) := ⟨_, rfl⟩
    have g1 : ∀ a, a ≠ 6 → R2 a = R a := fun a ha => by rw [hR2, upR_ne _ _ _ ha]; exact e2 a ha
    have g2 : ∀ j, j < 5 → R2 6 j = R 6 (j + 1) := fun j hj => by rw [hR2, upR_nk _ _ (by omega)]; exact e3 j hj
    have g3 : R2 6 5 = some (30 + 5 * π 0) := by rw [hR2, upR_eq]
    have hN2 : CSt (up I 0 2 5) R2 P 1 σ.1 := hN.pk (fun a ha _ => ⟨up_ne _ _ _ (by omega), g1 a (by omega), rfl, rfl⟩) (up_ne _ _ _ (by decide)) (up_ne _ _ _ (by decide)) (up_ne _ _ _ (by decide)) (g1 4 (by decide)) (g1 5 (by decide))
    obtain ⟨I3, R3, f1, f2, f3, f4⟩ := k_take (p := 30 + 5 * π 0) hN2 hA (by omega) (by omega) (by omega)
    have i0 : ∀ a, a ≠ 0 → (a < 30 + 5 * π 0 ∨ 33 + 5 * π 0 ≤ a) → up I3 0 2 (I3 0 2 + 1) a = I a := fun a h1 h2 => by rw [up_ne _ _ _ h1, f3 a (by omega), up_ne _ _ _ h1]
    have i1 : ∀ j, j ≠ 2 → up I3 0 2 (I3 0 2 + 1) 0 j = I 0 j := fun j hj => by rw [up_nk _ _ hj, f3 0 (by omega), up_nk _ _ hj]
    have i2 : I3 0 2 = 5 := by rw [f3 0 (by omega), up_eq]
    have r0 : ∀ a, a ≠ 6 → a ≠ 33 + 5 * π 0 → a ≠ 34 + 5 * π 0 → R3 a = R a := fun a h1 h2 h3 => by rw [f4 a (by omega) (by omega), g1 a h1]
    have r6 : ∀ j, R3 6 j = R2 6 j := fun j => by rw [f4 6 (by omega) (by omega)]
    have hK : PK I R P (up I3 0 2 (I3 0 2 + 1)) R3 P := fun a ha _ => ⟨i0 a (by omega) (by omega), r0 a (by omega) (by omega) (by omega), rfl, rfl⟩
    refine ⟨up I3 0 2 (I3 0 2 + 1), R3, ?_, ⟨?_, ⟨?_, hlen.2, (fun j => if j < 5 then π (j + 1) else π 0), ?_, ?_, ?_⟩, ?_, ?_⟩, fun a h1 h2 => i0 a h1 (by omega), i1, fun a h1 h2 => r0 a h1 (by omega) (by omega)⟩
    · unfold f_X8_save
      rw [hc, h6, if_neg (show ¬ nI 6 < 6 by decide), rdq_s 0 (show (0 : Int32) = nI 0 from rfl) (by decide) (by decide) h0.2 (kd_st _ (by omega))]
      simp only [Option.bind_some]
      rw [show f_X8_save_L18 P (some (30 + 5 * π 0)) I fuel 1 R = some R1 from e1]
      simp only [Option.bind_some]
      rw [wrq_e 5 (show (5 : Int32) = nI 5 from rfl) (by decide) (by decide)]
      simp only [Option.bind_some]
      rw [← hR2, up_eq, rdq_s 5 (show (5 : Int32) = nI 5 from rfl) (by decide) (by decide) g3 (kd_st _ (by omega))]
      simp only [Option.bind_some]
      rw [f1]
      rfl
    · exact hN.pk hK (i0 1 (by decide) (by omega)) (i0 2 (by decide) (by omega)) (i0 3 (by decide) (by omega)) (r0 4 (by decide) (by omega) (by omega)) (r0 5 (by decide) (by omega) (by omega))
    · show up I3 0 2 (I3 0 2 + 1) 0 2 = nI (svd σ.2.1 σ.1).length
      rw [up_eq, i2, hlen.1, if_pos h6]; rfl
    · intro j hj
      show (if j < 5 then π (j + 1) else π 0) < 6 ∧ R3 6 j = some (30 + 5 * (if j < 5 then π (j + 1) else π 0))
      rw [r6]
      by_cases h5 : j < 5
      · rw [if_pos h5, g2 j h5]; exact hπ (j + 1) (by omega)
      · rw [if_neg h5, show j = 5 by omega, g3]; exact ⟨h0.1, rfl⟩
    · intro i j hi hj hij
      have hij : (if i < 5 then π (i + 1) else π 0) = (if j < 5 then π (j + 1) else π 0) := hij
      by_cases h5 : i < 5 <;> by_cases h7 : j < 5
      · rw [if_pos h5, if_pos h7] at hij; have := hinj (i + 1) (j + 1) (by omega) (by omega) hij; omega
      · rw [if_pos h5, if_neg h7] at hij; have := hinj (i + 1) 0 (by omega) (by omega) hij; omega
      · rw [if_neg h5, if_pos h7] at hij; have := hinj 0 (j + 1) (by omega) (by omega) hij; omega
      · omega
    · intro j A hj
      show CSt _ R3 P (30 + 5 * (if j < 5 then π (j + 1) else π 0)) A
      have hj : (svd σ.2.1 σ.1)[j]? = some A := hj
      have hl := (List.getElem?_eq_some_iff.mp hj).1
      unfold svd at hj
      rw [if_pos h6] at hj
      by_cases h5 : j < 5
      · rw [if_pos h5]
        rw [List.getElem?_append_left (by simp [h6]; omega), List.getElem?_tail] at hj
        have hp := hπ (j + 1) (by omega)
        have hne : π (j + 1) ≠ π 0 := fun e => by have := hinj (j + 1) 0 (by omega) (by omega) e; omega
        exact (hst (j + 1) A hj).pk hK (i0 _ (by omega) (by omega)) (i0 _ (by omega) (by omega)) (i0 _ (by omega) (by omega)) (r0 _ (by omega) (by omega) (by omega)) (r0 _ (by omega) (by omega) (by omega))
      · rw [if_neg h5]
        rw [List.getElem?_append_right (by simp [h6]; omega)] at hj
        have e : A = σ.1 := by
          have hz : j - σ.2.1.tail.length = 0 := by simp [h6]; omega
          rw [hz] at hj
          exact (Option.some.inj hj).symm
        rw [e]
        exact f2.pk (fun a ha _ => ⟨up_ne _ _ _ (by omega), rfl, rfl, rfl⟩) (up_ne _ _ _ (by omega)) (up_ne _ _ _ (by omega)) (up_ne _ _ _ (by omega)) rfl rfl
    · intro j hj
      exact ⟨by rw [r0 7 (by decide) (by omega) (by omega)]; exact (hsn j hj).1, (hsn j hj).2.pk hK (i0 8 (by decide) (by omega)) (fun i hi => i0 _ (by omega) (by omega)) (fun i hi => r0 _ (by omega) (by omega) (by omega))⟩
    · unfold bfC
      rw [i1 6 (by decide), i0 9 (by decide) (by omega)]
      exact hbf
  · -- room left
    have hl6 : σ.2.1.length < 6 := by omega
    have hq := hπ σ.2.1.length hl6
    obtain ⟨I3, R3, f1, f2, f3, f4⟩ := k_take (p := 30 + 5 * π σ.2.1.length) hN hA (by omega) (by omega) (by omega)
    have i0 : ∀ a, a ≠ 0 → (a < 30 + 5 * π σ.2.1.length ∨ 33 + 5 * π σ.2.1.length ≤ a) → up I3 0 2 (I3 0 2 + 1) a = I a := fun a h1 h2 => by rw [up_ne _ _ _ h1, f3 a (by omega)]
    have i1 : ∀ j, j ≠ 2 → up I3 0 2 (I3 0 2 + 1) 0 j = I 0 j := fun j hj => by rw [up_nk _ _ hj, f3 0 (by omega)]
    have i2 : I3 0 2 = nI σ.2.1.length := by rw [f3 0 (by omega), hc]
    have r0 : ∀ a, a ≠ 33 + 5 * π σ.2.1.length → a ≠ 34 + 5 * π σ.2.1.length → R3 a = R a := fun a h2 h3 => f4 a (by omega) (by omega)
    have hK : PK I R P (up I3 0 2 (I3 0 2 + 1)) R3 P := fun a ha _ => ⟨i0 a (by omega) (by omega), r0 a (by omega) (by omega), rfl, rfl⟩
    refine ⟨up I3 0 2 (I3 0 2 + 1), R3, ?_, ⟨?_, ⟨?_, hlen.2, π, fun j hj => ⟨(hπ j hj).1, by rw [r0 6 (by omega) (by omega)]; exact (hπ j hj).2⟩, hinj, ?_⟩, ?_, ?_⟩, fun a h1 h2 => i0 a h1 (by omega), i1, fun a h1 h2 => r0 a (by omega) (by omega)⟩
    · unfold f_X8_save
      rw [hc, if_pos (show nI σ.2.1.length < 6 from nI_lt (b := 6) hl6 (by decide)), rdq_s σ.2.1.length rfl hl6 (by decide) hq.2 (kd_st _ (by omega))]
      simp only [Option.bind_some]
      rw [f1]
      rfl
    · exact hN.pk hK (i0 1 (by decide) (by omega)) (i0 2 (by decide) (by omega)) (i0 3 (by decide) (by omega)) (r0 4 (by omega) (by omega)) (r0 5 (by omega) (by omega))
    · show up I3 0 2 (I3 0 2 + 1) 0 2 = nI (svd σ.2.1 σ.1).length
      rw [up_eq, i2, hlen.1, if_neg h6, nI_1]
    · intro j A hj
      have hj : (svd σ.2.1 σ.1)[j]? = some A := hj
      unfold svd at hj
      rw [if_neg h6] at hj
      by_cases h5 : j < σ.2.1.length
      · rw [List.getElem?_append_left h5] at hj
        have hp := hπ j (by omega)
        have hne : π j ≠ π σ.2.1.length := fun e => by have := hinj j _ (by omega) hl6 e; omega
        exact (hst j A hj).pk hK (i0 _ (by omega) (by omega)) (i0 _ (by omega) (by omega)) (i0 _ (by omega) (by omega)) (r0 _ (by omega) (by omega)) (r0 _ (by omega) (by omega))
      · rw [List.getElem?_append_right (by omega)] at hj
        have hz : j - σ.2.1.length = 0 := by
          have := (List.getElem?_eq_some_iff.mp hj).1
          simp at this; omega
        rw [hz] at hj
        have e : A = σ.1 := (Option.some.inj hj).symm
        have ej : j = σ.2.1.length := by omega
        subst e
        rw [ej]
        exact f2.pk (fun a ha _ => ⟨up_ne _ _ _ (by omega), rfl, rfl, rfl⟩) (up_ne _ _ _ (by omega)) (up_ne _ _ _ (by omega)) (up_ne _ _ _ (by omega)) rfl rfl
    · intro j hj
      exact ⟨by rw [r0 7 (by omega) (by omega)]; exact (hsn j hj).1, (hsn j hj).2.pk hK (i0 8 (by decide) (by omega)) (fun i hi => i0 _ (by omega) (by omega)) (fun i hi => r0 _ (by omega) (by omega))⟩
    · unfold bfC
      rw [i1 6 (by decide), i0 9 (by decide) (by omega)]
      exact hbf
/-! the reference -/
theorem AOk.len {A : Abs} (h : AOk A) {s : Nat} (hs : s < 8) : (A.2.2.1 s).length ≤ 59 := by
  rcases h.2.2 s hs with e | e
  · rw [e]; decide
  · exact e.2.2.1
theorem GOk.save {σ : Gst} (h : GOk σ) : GOk (σ.1, svd σ.2.1 σ.1, σ.2.2) := by
  refine ⟨h.1, fun A hm => ?_, h.2.2.1, h.2.2.2⟩
  have hm : A ∈ svd σ.2.1 σ.1 := hm
  unfold svd at hm
  rcases List.mem_append.mp hm with h1 | h1
  · split at h1
    · exact h.2.1 A (List.mem_of_mem_tail h1)
    · exact h.2.1 A h1
  · rw [List.mem_singleton.mp h1]; exact h.1
end MB9
