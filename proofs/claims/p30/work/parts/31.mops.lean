/-! PURE PART 12: what the calls that change tables do, on both sides. -/
section MB11
def refA (A : Abs) : Abs := (A.1, A.2.1, A.2.2.1, A.2.2.2 + 1)
def putA (A : Abs) (t r : Nat) (row : Nat → Int32) : Abs := (A.1, (fun t' r' c' => if t' = t ∧ r' = r then row c' else A.2.1 t' r' c'), A.2.2)
def incA (A : Abs) (t : Nat) : Abs := ((fun t' => if t' = t then A.1 t + 1 else A.1 t'), A.2)
def setF (A : Abs) (s : Nat) (L : List Nat) : Abs := (A.1, A.2.1, (fun s' => if s' = s then L else A.2.2.1 s'), A.2.2.2)
theorem CSt.set {I I' : Mem} {R : Rem} {P : Pool} {A A' : Abs} (h : CSt I R P 1 A) (hK : ∀ a, 70 ≤ a → I' a = I a) (h1 : ∀ t, t < 2 → I' 3 t = nI (A'.1 t)) (h2 : ∀ t r c, t < 2 → r < A'.1 t → c < 4 → I' 2 ((t * 16 + r) * 4 + c) = A'.2.1 t r c) (h3 : A'.2.2.1 = A.2.2.1) (h4 : I' 1 4 = A'.2.2.2) : CSt I' R P 1 A' :=
  ⟨h1, h2, fun s hs => by rw [h3]; exact (h.2.2.1 s hs).pk (fun a ha _ => ⟨hK a ha, rfl, rfl, rfl⟩), fun t ht => by rw [h3]; exact (h.2.2.2.1 t ht).pk (fun a ha _ => ⟨hK a ha, rfl, rfl, rfl⟩), h4⟩
theorem AOk.ref {A : Abs} (h : AOk A) : AOk (refA A) := h
theorem AOk.put {A : Abs} {t r : Nat} {row : Nat → Int32} (h : AOk A) (hr : ∀ c, c < 4 → cok (row c)) : AOk (putA A t r row) := by
  refine ⟨h.1, fun t' r' c' h1 h2 h3 => ?_, h.2.2⟩
  show cok (if t' = t ∧ r' = r then row c' else A.2.1 t' r' c')
  split
  · exact hr c' h3
  · exact h.2.1 t' r' c' h1 h2 h3
theorem AOk.add {A : Abs} {t : Nat} {row : Nat → Int32} (h : AOk A) (hr : ∀ c, c < 4 → cok (row c)) (hn : A.1 t < 16) : AOk (incA (putA A t (A.1 t) row) t) := by
  refine ⟨fun t' h1 => ?_, fun t' r' c' h1 h2 h3 => ?_, h.2.2⟩
  · show (if t' = t then A.1 t + 1 else A.1 t') ≤ 16
    split
    · omega
    · exact h.1 t' h1
  · have h2 : r' < (if t' = t then A.1 t + 1 else A.1 t') := h2
    show cok (if t' = t ∧ r' = A.1 t then row c' else A.2.1 t' r' c')
    split
    · exact hr c' h3
    · rename_i hne
      refine h.2.1 t' r' c' h1 ?_ h3
      split at h2
      · rename_i e
        subst e
        omega
      · exact h2
theorem AOk.setF {A : Abs} {s : Nat} {L : List Nat} (h : AOk A) (hL : L = [] ∨ fV L) : AOk (setF A s L) := by
  refine ⟨h.1, h.2.1, fun s' hs => ?_⟩
  show (if s' = s then L else A.2.2.1 s') = [] ∨ fV (if s' = s then L else A.2.2.1 s')
  split
  · exact hL
  · exact h.2.2 s' hs
/-! a check that a row breaks -/
def vioA (A : Abs) (t : Nat) (row : Nat → Int32) : Bool := !decide (A.2.2.1 (6 + t) = []) && decide (tvr row (A.2.2.1 (6 + t)) = 0)
theorem k_vio {I : Mem} {R : Rem} {P : Pool} {A : Abs} {t : Nat} {row : Nat → Int32} (hS : CSt I R P 1 A) (hA : AOk A) (ht : t < 2) (hrow : ∀ j, j < 4 → I 10 j = row j) : ∃ o I', rdq R P 5 2 2 (nI t) = some o ∧ f_X8_rowViolates o P R I = some (if vioA A t row then 1 else 0, I') ∧ Eqx [12, 13, 14, 15] I I' := by
  rcases s_check hS hA ht with ⟨o1, o2⟩ | ⟨k, o1, o2, hF, hV⟩
  · refine ⟨none, I, o1, ?_, Eqx.rf⟩
    unfold f_X8_rowViolates vioA
    rw [o2]
    simp [oq_n]
  · obtain ⟨I', e1, e2⟩ := k_tried hF hV hrow
    refine ⟨some k, I', o1, ?_, e2⟩
    have hne := fV_ne hV
    unfold f_X8_rowViolates vioA
    rw [k_unk ln10] at e1 ⊢
    simp only [Option.bind_some, oq_s] at e1 ⊢
    rw [e1]
    simp only [Option.bind_some]
    by_cases h : tvr row (A.2.2.1 (6 + t)) = 0 <;> simp [h, hne]
theorem k_would {I : Mem} {R : Rem} {P : Pool} {A : Abs} {t r c : Nat} {x : Int32} (hS : CSt I R P 1 A) (hA : AOk A) (ht : t < 2) (hr : r < A.1 t) (hc : c < 4) : ∃ I', f_X8_wouldViolate (nI t) (nI r) (nI c) x P R I = some (if vioA A t (fun j => if j = c then x else A.2.1 t r j) then 1 else 0, I') ∧ Eqx [10, 12, 13, 14, 15] I I' := by
  obtain ⟨I1, e1, e2, e3⟩ := k_loadRow hS hA ht hr
  have hE : Eqx [10] I (up I1 10 c x) := e2.tr (Eqx.up (by decide))
  obtain ⟨o, I2, f1, f2, f3⟩ := k_vio (row := fun j => if j = c then x else A.2.1 t r j) (hS.eqx hE (by decide) (by decide) (by decide) (by decide)) hA ht (fun j hj => by
    by_cases e : j = c
    · subst e; rw [up_eq, if_pos rfl]
    · rw [up_nk _ _ e, if_neg e]; exact e3 j hj)
  refine ⟨I2, ?_, (hE.mono (by decide)).tr (f3.mono (by decide))⟩
  unfold f_X8_wouldViolate
  rw [e1]
  simp only [Option.bind_some]
  rw [wr_e c rfl hc (by decide)]
  simp only [Option.bind_some]
  rw [f1]
  simp only [Option.bind_some]
  rw [f2]
  simp only [Option.bind_some]
  by_cases h : vioA A t (fun j => if j = c then x else A.2.1 t r j) = true
  · simp only [h, if_true]
    exact if_pos rfl
  · simp only [h]
    exact if_pos rfl
end MB11
