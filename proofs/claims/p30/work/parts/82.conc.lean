/-! STATES WRITTEN OUT, and when two states are the same. -/
section CNC
def mkA (t0 t1 : List (List Int32)) (fs : List (List Nat)) (r : Int32) : Abs := ((fun t => if t = 0 then t0.length else t1.length), (fun t r c => ((if t = 0 then t0 else t1).getD r []).getD c 0), (fun s => fs.getD s []), r)
def kpO (a b : Option Abs) : Nat → Option Abs := fun i => if i = 0 then a else b
def alN (f : Nat → Bool) : Nat → Bool
  | 0 => true
  | n + 1 => alN f n && f n
theorem alN_iff {f : Nat → Bool} : ∀ {n : Nat}, alN f n = true → ∀ k, k < n → f k = true
  | 0, _, k, hk => absurd hk (Nat.not_lt_zero _)
  | n + 1, h, k, hk => by
    have h : (alN f n && f n) = true := h
    rw [Bool.and_eq_true] at h
    rcases Nat.lt_succ_iff_lt_or_eq.mp hk with h1 | h1
    · exact alN_iff h.1 k h1
    · rw [h1]; exact h.2
def eqA (A B : Abs) : Bool := decide (A.1 0 = B.1 0) && decide (A.1 1 = B.1 1) && alN (fun r => alN (fun c => decide (A.2.1 0 r c = B.2.1 0 r c)) 4) (B.1 0) && alN (fun r => alN (fun c => decide (A.2.1 1 r c = B.2.1 1 r c)) 4) (B.1 1) && alN (fun s => decide (A.2.2.1 s = B.2.2.1 s)) 8 && decide (A.2.2.2 = B.2.2.2)
theorem eqA_s {A B : Abs} (h : eqA A B = true) : (∀ t, t < 2 → A.1 t = B.1 t) ∧ (∀ t r c, t < 2 → r < B.1 t → c < 4 → A.2.1 t r c = B.2.1 t r c) ∧ (∀ s, s < 8 → A.2.2.1 s = B.2.2.1 s) ∧ A.2.2.2 = B.2.2.2 := by
  unfold eqA at h
  simp only [Bool.and_eq_true] at h
  obtain ⟨⟨⟨⟨⟨h0, h1⟩, h2⟩, h3⟩, h4⟩, h5⟩ := h
  refine ⟨fun t ht => ?_, fun t r c ht hr hc => ?_, fun s hs => of_decide_eq_true (alN_iff h4 s hs), of_decide_eq_true h5⟩
  · rcases (show t = 0 ∨ t = 1 by omega) with rfl | rfl
    · exact of_decide_eq_true h0
    · exact of_decide_eq_true h1
  · rcases (show t = 0 ∨ t = 1 by omega) with rfl | rfl
    · exact of_decide_eq_true (alN_iff (alN_iff h2 r hr) c hc)
    · exact of_decide_eq_true (alN_iff (alN_iff h3 r hr) c hc)
theorem eqA_C {A B : Abs} (h : eqA A B = true) {I : Mem} {R : Rem} {P : Pool} {p : Nat} (hS : CSt I R P p A) : CSt I R P p B := by
  obtain ⟨h1, h2, h3, h4⟩ := eqA_s h
  obtain ⟨a, b, c, d, e⟩ := hS
  refine ⟨fun t ht => by rw [← h1 t ht]; exact a t ht, fun t r c ht hr hc => by rw [← h2 t r c ht hr hc]; exact b t r c ht (by rw [h1 t ht]; exact hr) hc, fun s hs => by rw [← h3 s (by omega)]; exact c s hs, fun t ht => by rw [← h3 (6 + t) (by omega)]; exact d t ht, by rw [← h4]; exact e⟩
theorem eqA_O {A B : Abs} (h : eqA A B = true) (hA : AOk A) : AOk B := by
  obtain ⟨h1, h2, h3, h4⟩ := eqA_s h
  refine ⟨fun t ht => by rw [← h1 t ht]; exact hA.1 t ht, fun t r c ht hr hc => by rw [← h2 t r c ht hr hc]; exact hA.2.1 t r c ht (by rw [h1 t ht]; exact hr) hc, fun s hs => by rw [← h3 s hs]; exact hA.2.2 s hs⟩
def eqL : List Abs → List Abs → Bool
  | [], [] => true
  | A :: S, B :: T => eqA A B && eqL S T
  | _, _ => false
theorem eqL_s : ∀ {S T : List Abs}, eqL S T = true → S.length = T.length ∧ (∀ (j : Nat) (B : Abs), T[j]? = some B → ∃ A, S[j]? = some A ∧ eqA A B = true) ∧ ∀ B ∈ T, ∃ A ∈ S, eqA A B = true
  | [], [], _ => ⟨rfl, fun j B h => by simp at h, fun B h => by simp at h⟩
  | [], B :: T, h => Bool.noConfusion h
  | A :: S, [], h => Bool.noConfusion h
  | A :: S, B :: T, h => by
    have h : (eqA A B && eqL S T) = true := h
    rw [Bool.and_eq_true] at h
    obtain ⟨i1, i2, i3⟩ := eqL_s h.2
    refine ⟨by rw [List.length_cons, List.length_cons, i1], fun j C hj => ?_, fun C hC => ?_⟩
    · cases j with
      | zero =>
        have hj : some B = some C := hj
        rw [← Option.some.inj hj]
        exact ⟨A, rfl, h.1⟩
      | succ j => exact i2 j C hj
    · rcases List.mem_cons.mp hC with e | e
      · rw [e]; exact ⟨A, List.mem_cons_self, h.1⟩
      · obtain ⟨A', ha, hb⟩ := i3 C e
        exact ⟨A', List.mem_cons_of_mem _ ha, hb⟩
def eqO : Option Abs → Option Abs → Bool
  | none, none => true
  | some A, some B => eqA A B
  | _, _ => false
def eqG (σ τ : Gst) : Bool := eqA σ.1 τ.1 && eqL σ.2.1 τ.2.1 && eqO (σ.2.2.1 0) (τ.2.2.1 0) && eqO (σ.2.2.1 1) (τ.2.2.1 1) && decide (σ.2.2.2 = τ.2.2.2)
theorem eqO_C {a b : Option Abs} (h : eqO a b = true) {I : Mem} {R : Rem} {P : Pool} {j : Nat} (hS : snC I R P j a) : snC I R P j b := by
  cases a with
  | none => cases b with
    | none => exact hS
    | some B => exact Bool.noConfusion h
  | some A => cases b with
    | none => exact Bool.noConfusion h
    | some B => exact ⟨hS.1, eqA_C h hS.2⟩
theorem To_eq {σ τ : Gst} (h : eqG σ τ = true) : To σ τ := by
  unfold eqG at h
  simp only [Bool.and_eq_true] at h
  obtain ⟨⟨⟨⟨h1, h2⟩, h3⟩, h4⟩, h5⟩ := h
  have h5 : σ.2.2.2 = τ.2.2.2 := of_decide_eq_true h5
  obtain ⟨l1, l2, l3⟩ := eqL_s h2
  refine ⟨fun I R P hC => ⟨eqA_C h1 hC.1, ?_, fun j hj => ⟨(hC.2.2.1 j hj).1, ?_⟩, ?_⟩, fun hO => ⟨eqA_O h1 hO.1, fun B hB => ?_, fun j B hj hB => ?_, by rw [← h5]; exact hO.2.2.2⟩⟩
  · obtain ⟨a, b, π, c1, c2, c3⟩ := hC.2.1
    refine ⟨by rw [← l1]; exact a, by rw [← l1]; exact b, π, c1, c2, fun j B hj => ?_⟩
    obtain ⟨A, e1, e2⟩ := l2 j B hj
    exact eqA_C e2 (c3 j A e1)
  · rcases (show j = 0 ∨ j = 1 by omega) with rfl | rfl
    · exact eqO_C h3 (hC.2.2.1 0 (by decide)).2
    · exact eqO_C h4 (hC.2.2.1 1 (by decide)).2
  · have := hC.2.2.2
    unfold bfC at this ⊢
    rw [← h5]; exact this
  · obtain ⟨A, e1, e2⟩ := l3 B hB
    exact eqA_O e2 (hO.2.1 A e1)
  · have hj2 : j = 0 ∨ j = 1 := by omega
    have key : eqO (σ.2.2.1 j) (τ.2.2.1 j) = true := by rcases hj2 with rfl | rfl <;> assumption
    rw [hB] at key
    cases hq : σ.2.2.1 j with
    | none => rw [hq] at key; exact Bool.noConfusion key
    | some A => rw [hq] at key; exact eqA_O key (hO.2.2.1 j A hj hq)
end CNC
