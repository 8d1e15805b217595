/-! PURE PART 5: states, their two pictures, rows, truth values for rows. -/
section MB4
/-- counts, cells, filters (0 to 5: slots, 6 and 7: checks), refusals -/
abbrev Abs : Type := (Nat → Nat) × (Nat → Nat → Nat → Int32) × (Nat → List Nat) × Int32
def FOp (I : Mem) (R : Rem) (P : Pool) (o : Option Nat) (L : List Nat) : Prop := match o with
  | none => L = []
  | some k => L ≠ [] ∧ FObj I R P k L
def CSt (I : Mem) (R : Rem) (P : Pool) (p : Nat) (A : Abs) : Prop :=
  (∀ t, t < 2 → I (p + 2) t = nI (A.1 t)) ∧ (∀ t r c, t < 2 → r < A.1 t → c < 4 → I (p + 1) ((t * 16 + r) * 4 + c) = A.2.1 t r c) ∧ (∀ s, s < 6 → FOp I R P (R (p + 3) s) (A.2.2.1 s)) ∧ (∀ t, t < 2 → FOp I R P (R (p + 4) t) (A.2.2.1 (6 + t))) ∧ I p 4 = A.2.2.2
def cok (x : Int32) : Prop := x = -1 ∨ ∃ v, v < 100 ∧ x = nI v
def AOk (A : Abs) : Prop := (∀ t, t < 2 → A.1 t ≤ 16) ∧ (∀ t r c, t < 2 → r < A.1 t → c < 4 → cok (A.2.1 t r c)) ∧ (∀ s, s < 8 → A.2.2.1 s = [] ∨ fV (A.2.2.1 s))
/-- the pool's objects are as they were -/
def PK (I : Mem) (R : Rem) (P : Pool) (I' : Mem) (R' : Rem) (P' : Pool) : Prop := ∀ a, 70 ≤ a → Kd P a ≠ 99 → I' a = I a ∧ R' a = R a ∧ Kd P' a = Kd P a ∧ Ln P' a = Ln P a
theorem FObj.pk {I I' : Mem} {R R' : Rem} {P P' : Pool} {k : Nat} {L : List Nat} (h : FObj I R P k L) (hK : PK I R P I' R' P') : FObj I' R' P' k L := by
  obtain ⟨h1, h2, a, h3, h4, h5, h6, h7⟩ := h
  obtain ⟨k1, k2, k3, k4⟩ := hK k h1 (by rw [h2]; decide)
  obtain ⟨a1, a2, a3, a4⟩ := hK a h4 (by rw [h5]; decide)
  exact ⟨h1, by rw [k3]; exact h2, a, by rw [k2]; exact h3, h4, by rw [a3]; exact h5, by rw [a4]; exact h6, fun j x hj => by rw [a1]; exact h7 j x hj⟩
theorem FOp.pk {I I' : Mem} {R R' : Rem} {P P' : Pool} {o : Option Nat} {L : List Nat} (h : FOp I R P o L) (hK : PK I R P I' R' P') : FOp I' R' P' o L := by
  cases o with
  | none => exact h
  | some k => exact ⟨h.1, h.2.pk hK⟩
theorem CSt.pk {I I' : Mem} {R R' : Rem} {P P' : Pool} {p : Nat} {A : Abs} (h : CSt I R P p A) (hK : PK I R P I' R' P') (h0 : I' p = I p) (h1 : I' (p + 1) = I (p + 1)) (h2 : I' (p + 2) = I (p + 2)) (h3 : R' (p + 3) = R (p + 3)) (h4 : R' (p + 4) = R (p + 4)) : CSt I' R' P' p A := by
  obtain ⟨a, b, c, d, e⟩ := h
  exact ⟨fun t ht => by rw [h2]; exact a t ht, fun t r x ht hr hx => by rw [h1]; exact b t r x ht hr hx, fun s hs => by rw [h3]; exact (c s hs).pk hK, fun t ht => by rw [h4]; exact (d t ht).pk hK, by rw [h0]; exact e⟩
theorem PK.eqx {S : List Nat} {I I' : Mem} {R : Rem} {P : Pool} (hE : Eqx S I I') (hS : ∀ a ∈ S, a < 70) : PK I R P I' R P := fun a ha _ => ⟨hE a (fun hm => by have := hS a hm; omega), rfl, rfl, rfl⟩
theorem CSt.eqx {S : List Nat} {I I' : Mem} {R : Rem} {P : Pool} {p : Nat} {A : Abs} (h : CSt I R P p A) (hE : Eqx S I I') (hS : ∀ a ∈ S, a < 70) (h0 : p ∉ S) (h1 : p + 1 ∉ S) (h2 : p + 2 ∉ S) : CSt I' R P p A :=
  h.pk (PK.eqx hE hS) (hE _ h0) (hE _ h1) (hE _ h2) rfl rfl
theorem FOp.kd {I : Mem} {R : Rem} {P : Pool} {o : Option Nat} {L : List Nat} (h : FOp I R P o L) : ∀ k, o = some k → Kd P k = 2 := by
  intro k hk
  subst hk
  exact h.2.2.1
/-! the class's rows -/
theorem k_place (t r c : Nat) : f_X8_place (nI t) (nI r) (nI c) = some (nI ((t * 16 + r) * 4 + c)) := by
  unfold f_X8_place
  rw [show (16 : Int32) = nI 16 from rfl, show (4 : Int32) = nI 4 from rfl, pk_mul, nI_add, pk_mul, nI_add]
theorem k_cnt {I : Mem} {R : Rem} {P : Pool} {A : Abs} {t : Nat} (h : CSt I R P 1 A) (ht : t < 2) : rd I 3 2 (nI t) = some (nI (A.1 t)) := by
  rw [rd_e t rfl ht (by decide), h.1 t ht]
theorem k_cell {I : Mem} {R : Rem} {P : Pool} {A : Abs} {t r c : Nat} (h : CSt I R P 1 A) (hA : AOk A) (ht : t < 2) (hr : r < A.1 t) (hc : c < 4) : rd I 2 128 (nI ((t * 16 + r) * 4 + c)) = some (A.2.1 t r c) := by
  have := hA.1 t ht
  rw [rd_e ((t * 16 + r) * 4 + c) rfl (by omega) (by decide), h.2.1 t r c ht hr hc]
theorem k_loadRow_L {I0 : Mem} {R : Rem} {P : Pool} {A : Abs} {t r : Nat} (hA : AOk A) (ht : t < 2) (hr : r < A.1 t) : ∀ (d c n : Nat) (I : Mem), c + d = 4 → d < n → CSt I R P 1 A → Eqx [10] I0 I → (∀ j, j < c → I 10 j = A.2.1 t r j) →
    ∃ I', f_X8_loadRow_L2 (nI t) (nI r) n (nI c) I = some I' ∧ Eqx [10] I0 I' ∧ ∀ j, j < 4 → I' 10 j = A.2.1 t r j
  | 0, c, n, I, hc, hn, hS, hE, hj => by
    obtain ⟨n, rfl⟩ : ∃ m, n = m + 1 := ⟨n - 1, by omega⟩
    have e : c = 4 := by omega
    subst e
    refine ⟨I, ?_, hE, hj⟩
    unfold f_X8_loadRow_L2
    rw [if_pos (show (4 : Int32) ≤ nI 4 by decide)]
  | d + 1, c, n, I, hc, hn, hS, hE, hj => by
    obtain ⟨n, rfl⟩ : ∃ m, n = m + 1 := ⟨n - 1, by omega⟩
    unfold f_X8_loadRow_L2
    rw [if_neg (show ¬ (4 : Int32) ≤ nI c from nI_ge (b := 4) (by omega) (by decide)), k_place]
    simp only [Option.bind_some]
    rw [k_cell hS hA ht hr (by omega)]
    simp only [Option.bind_some]
    rw [wr_e c rfl (by omega) (by decide)]
    simp only [Option.bind_some]
    rw [nI_1]
    have hE2 : Eqx [10] I (up I 10 c (A.2.1 t r c)) := Eqx.up (by decide)
    refine k_loadRow_L hA ht hr d (c + 1) n _ (by omega) (by omega) (hS.eqx hE2 (by decide) (by decide) (by decide) (by decide)) (hE.tr hE2) (fun j hj2 => ?_)
    by_cases e : j = c
    · subst e; rw [up_eq]
    · rw [up_nk _ _ e]; exact hj j (by omega)
theorem k_loadRow {I : Mem} {R : Rem} {P : Pool} {A : Abs} {t r : Nat} (hS : CSt I R P 1 A) (hA : AOk A) (ht : t < 2) (hr : r < A.1 t) : ∃ I', f_X8_loadRow (nI t) (nI r) I = some I' ∧ Eqx [10] I I' ∧ ∀ j, j < 4 → I' 10 j = A.2.1 t r j := by
  obtain ⟨I', e1, e2, e3⟩ := k_loadRow_L hA ht hr 4 0 fuel I rfl (by unfold fuel; omega) hS Eqx.rf (fun j hj => absurd hj (by omega))
  refine ⟨I', ?_, e2, e3⟩
  unfold f_X8_loadRow
  rw [show f_X8_loadRow_L2 (nI t) (nI r) fuel 0 I = some I' from e1]
  rfl
theorem k_unk_L {a : Nat} {P : Pool} {I : Mem} (ha : Ln P a = 4) : ∀ (d c n : Nat), c + d = 4 → d < n → f_X8_unknownsOf_L4 a P I n (msk (fun j => decide (I a j = -1)) c) (nI c) = some (msk (fun j => decide (I a j = -1)) 4)
  | 0, c, n, hc, hn => by
    obtain ⟨n, rfl⟩ : ∃ m, n = m + 1 := ⟨n - 1, by omega⟩
    have e : c = 4 := by omega
    subst e
    unfold f_X8_unknownsOf_L4
    rw [ha, if_pos (show Int32.ofNat 4 ≤ nI 4 by decide)]
  | d + 1, c, n, hc, hn => by
    obtain ⟨n, rfl⟩ : ∃ m, n = m + 1 := ⟨n - 1, by omega⟩
    have ih := k_unk_L (I := I) ha d (c + 1) n (by omega) (by omega)
    rw [show msk (fun j => decide (I a j = -1)) (c + 1) = if decide (I a c = -1) = true then msk (fun j => decide (I a j = -1)) c ||| ((1 : Int32) <<< (nI c &&& 31)) else msk (fun j => decide (I a j = -1)) c from rfl] at ih
    unfold f_X8_unknownsOf_L4
    rw [ha, if_neg (show ¬ Int32.ofNat 4 ≤ nI c from nI_ge (b := 4) (by omega) (by decide)), rd_e c rfl (by omega) (by decide)]
    simp only [Option.bind_some]
    rw [nI_1]
    by_cases e : I a c = -1
    · rw [if_pos (show decide (I a c = -1) = true from decide_eq_true e)] at ih
      rw [if_pos e]; exact ih
    · rw [if_neg (show ¬ decide (I a c = -1) = true by simp [e])] at ih
      rw [if_neg e]; exact ih
theorem k_unk {a : Nat} {P : Pool} {I : Mem} (ha : Ln P a = 4) : f_X8_unknownsOf a P I = some (msk (fun j => decide (I a j = -1)) 4) := by
  unfold f_X8_unknownsOf
  rw [show f_X8_unknownsOf_L4 a P I fuel 0 0 = _ from k_unk_L ha 4 0 fuel rfl (by unfold fuel; omega)]
  rfl
/-- a filter's truth value for a row of cells -/
def tvr (row : Nat → Int32) (L : List Nat) : Int32 := tv row (fun c => decide (row c = -1)) L
def tvA (A : Abs) (t r : Nat) (L : List Nat) : Int32 := tvr (A.2.1 t r) L
theorem tv_cg {row row2 : Nat → Int32} {unk unk2 : Nat → Bool} {L : List Nat} (hv : ∀ t ∈ L, vC t) (h1 : ∀ c, c < 4 → row c = row2 c) (h2 : ∀ c, c < 4 → unk c = unk2 c) : tv row unk L = tv row2 unk2 L := by
  unfold tv tvS
  rw [rsG_cg L [] (fun t ht h3 => tst_cg (vC_t (hv t ht) h3) h1 h2)]
theorem hb_m4 {b : Nat → Bool} {c : Nat} (hc : c < 4) : hb (msk b 4) c = b c := by
  rw [hb_msk (by decide) (by omega)]; simp [hc]
/-- the row on trial -/
theorem k_tried {R : Rem} {P : Pool} {k : Nat} {I : Mem} {L : List Nat} {row : Nat → Int32} (hF : FObj I R P k L) (hV : fV L) (hrow : ∀ j, j < 4 → I 10 j = row j) : ∃ I', ((f_X8_unknownsOf 10 P I).bind fun q2 => f_X1_truthOf (some k) 10 q2 P R I) = some (tvr row L, I') ∧ Eqx [12, 13, 14, 15] I I' := by
  obtain ⟨I', e1, e2⟩ := k_truth (x := msk (fun j => decide (I 10 j = -1)) 4) (ln10 (P := P)) (by decide) hF hV
  refine ⟨I', ?_, e2⟩
  rw [k_unk ln10]
  simp only [Option.bind_some]
  rw [e1]
  refine congrArg (fun z => some (z, I')) ?_
  exact tv_cg hV.1 hrow (fun c hc => by rw [hb_m4 hc, hrow c hc])
theorem k_truthFor {I : Mem} {R : Rem} {P : Pool} {A : Abs} {t r k : Nat} {L : List Nat} (hS : CSt I R P 1 A) (hA : AOk A) (ht : t < 2) (hr : r < A.1 t) (hF : FObj I R P k L) (hV : fV L) : ∃ I', f_X8_truthFor (nI t) (nI r) (some k) P R I = some (tvA A t r L, I') ∧ Eqx [10, 12, 13, 14, 15] I I' := by
  obtain ⟨I1, e1, e2, e3⟩ := k_loadRow hS hA ht hr
  obtain ⟨I2, f1, f2⟩ := k_tried (row := A.2.1 t r) (hF.eqx e2 (by decide)) hV e3
  refine ⟨I2, ?_, (e2.mono (by decide)).tr (f2.mono (by decide))⟩
  unfold f_X8_truthFor
  rw [e1]
  simp only [Option.bind_some]
  rw [k_unk ln10] at f1 ⊢
  simp only [Option.bind_some] at f1 ⊢
  rw [f1]
  rfl
def tmask (A : Abs) (t : Nat) (L : List Nat) (v : Int32) (n : Nat) : Int32 := msk (fun r => decide (tvA A t r L = v)) n
theorem k_rowsWith_L {R : Rem} {P : Pool} {A : Abs} {t k : Nat} {L : List Nat} {v : Int32} (hA : AOk A) (ht : t < 2) (hV : fV L) : ∀ (d r n : Nat) (I : Mem), r + d = A.1 t → d < n → CSt I R P 1 A → FObj I R P k L →
    ∃ I', f_X8_rowsWith_L6 (nI t) (some k) v P R n (tmask A t L v r) (nI r) I = some (tmask A t L v (A.1 t), I') ∧ Eqx [10, 12, 13, 14, 15] I I'
  | 0, r, n, I, hr, hn, hS, hF => by
    obtain ⟨n, rfl⟩ : ∃ m, n = m + 1 := ⟨n - 1, by omega⟩
    have e : r = A.1 t := by omega
    subst e
    have := hA.1 t ht
    refine ⟨I, ?_, Eqx.rf⟩
    unfold f_X8_rowsWith_L6
    rw [k_cnt hS ht]
    simp only [Option.bind_some]
    rw [if_pos (nI_le (Nat.le_refl _) (by omega))]
  | d + 1, r, n, I, hr, hn, hS, hF => by
    obtain ⟨n, rfl⟩ : ∃ m, n = m + 1 := ⟨n - 1, by omega⟩
    have hn16 := hA.1 t ht
    obtain ⟨I1, e1, e2⟩ := k_truthFor hS hA ht (show r < A.1 t by omega) hF hV
    obtain ⟨I2, f1, f2⟩ := k_rowsWith_L (v := v) hA ht hV d (r + 1) n I1 (by omega) (by omega) (hS.eqx e2 (by decide) (by decide) (by decide) (by decide)) (hF.eqx e2 (by decide))
    refine ⟨I2, ?_, e2.tr f2⟩
    rw [show tmask A t L v (r + 1) = if decide (tvA A t r L = v) = true then tmask A t L v r ||| ((1 : Int32) <<< (nI r &&& 31)) else tmask A t L v r from rfl] at f1
    unfold f_X8_rowsWith_L6
    rw [k_cnt hS ht]
    simp only [Option.bind_some]
    rw [if_neg (nI_ge (by omega) (by omega)), e1]
    simp only [Option.bind_some]
    rw [nI_1]
    by_cases e : tvA A t r L = v
    · rw [if_pos (show decide (tvA A t r L = v) = true from decide_eq_true e)] at f1
      rw [if_pos e]; exact f1
    · rw [if_neg (show ¬ decide (tvA A t r L = v) = true by simp [e])] at f1
      rw [if_neg e]; exact f1
theorem k_rowsWith {I : Mem} {R : Rem} {P : Pool} {A : Abs} {t k : Nat} {L : List Nat} {v : Int32} (hS : CSt I R P 1 A) (hA : AOk A) (ht : t < 2) (hF : FObj I R P k L) (hV : fV L) : ∃ I', f_X8_rowsWith (nI t) (some k) v P R I = some (tmask A t L v (A.1 t), I') ∧ Eqx [10, 12, 13, 14, 15] I I' := by
  have := hA.1 t ht
  obtain ⟨I', e1, e2⟩ := k_rowsWith_L (R := R) (P := P) (k := k) (v := v) hA ht hV (A.1 t) 0 fuel I (by omega) (by unfold fuel; omega) hS hF
  refine ⟨I', ?_, e2⟩
  unfold f_X8_rowsWith
  rw [show f_X8_rowsWith_L6 (nI t) (some k) v P R fuel 0 0 I = _ from e1]
  rfl
/-! the reference's rows -/
end MB4
