/-! PURE PART 6: the invariant of both sides; arguments. -/
section MB5
/-- now, the saved states (the oldest first), the snapshots, the buffer -/
abbrev Gst : Type := Abs × List Abs × (Nat → Option Abs) × List Nat
def snC (I : Mem) (R : Rem) (P : Pool) (j : Nat) (o : Option Abs) : Prop := match o with
  | none => I 8 j = 0
  | some A => I 8 j = 1 ∧ CSt I R P (60 + 5 * j) A
/-- the saved states, in the class -/
def svC (I : Mem) (R : Rem) (P : Pool) (S : List Abs) : Prop := I 0 2 = nI S.length ∧ S.length ≤ 6 ∧ ∃ π : Nat → Nat, (∀ j, j < 6 → π j < 6 ∧ R 6 j = some (30 + 5 * π j)) ∧ (∀ i j, i < 6 → j < 6 → π i = π j → i = j) ∧ ∀ j A, S[j]? = some A → CSt I R P (30 + 5 * π j) A
def bfC (I : Mem) (B : List Nat) : Prop := I 0 6 = nI B.length ∧ B.length ≤ 60 ∧ ∀ j x, B[j]? = some x → I 9 j = nI x
def CI (I : Mem) (R : Rem) (P : Pool) (σ : Gst) : Prop := CSt I R P 1 σ.1 ∧ svC I R P σ.2.1 ∧ (∀ j, j < 2 → R 7 j = some (60 + 5 * j) ∧ snC I R P j (σ.2.2.1 j)) ∧ bfC I σ.2.2.2
def GOk (σ : Gst) : Prop := AOk σ.1 ∧ (∀ A ∈ σ.2.1, AOk A) ∧ (∀ j A, j < 2 → σ.2.2.1 j = some A → AOk A) ∧ ∀ x ∈ σ.2.2.2, 33 ≤ x ∧ x ≤ 126
/-- scratch of the class, of the reference -/
abbrev SC : List Nat := [10, 12, 13, 14, 15, 16, 17, 18, 19, 20, 21, 22, 23, 24, 25, 26, 27, 28, 29]
theorem snC.pk {I I' : Mem} {R R' : Rem} {P P' : Pool} {j : Nat} {o : Option Abs} (h : snC I R P j o) (hK : PK I R P I' R' P') (h8 : I' 8 = I 8) (h0 : ∀ i, i < 5 → I' (60 + 5 * j + i) = I (60 + 5 * j + i)) (h1 : ∀ i, i < 5 → R' (60 + 5 * j + i) = R (60 + 5 * j + i)) : snC I' R' P' j o := by
  cases o with
  | none => show I' 8 j = 0; rw [h8]; exact h
  | some A => exact ⟨by rw [h8]; exact h.1, h.2.pk hK (h0 0 (by decide)) (h0 1 (by decide)) (h0 2 (by decide)) (h1 3 (by decide)) (h1 4 (by decide))⟩
theorem svC.pk {I I' : Mem} {R R' : Rem} {P P' : Pool} {S : List Abs} (h : svC I R P S) (hK : PK I R P I' R' P') (h0 : I' 0 2 = I 0 2) (hr : ∀ j, j < 6 → R' 6 j = R 6 j) (h1 : ∀ a, 30 ≤ a → a < 60 → I' a = I a) (h2 : ∀ a, 30 ≤ a → a < 60 → R' a = R a) : svC I' R' P' S := by
  obtain ⟨a, b, π, c, d, e⟩ := h
  refine ⟨by rw [h0]; exact a, b, π, fun j hj => ⟨(c j hj).1, by rw [hr j hj]; exact (c j hj).2⟩, d, fun j A hj => ?_⟩
  have hl : j < 6 := Nat.lt_of_lt_of_le (List.getElem?_eq_some_iff.mp hj).1 b
  have hp := (c j hl).1
  exact (e j A hj).pk hK (h1 _ (by omega) (by omega)) (h1 _ (by omega) (by omega)) (h1 _ (by omega) (by omega)) (h2 _ (by omega) (by omega)) (h2 _ (by omega) (by omega))
/-- the class's part where only scratch, the reference's objects and the pool have changed -/
theorem CI.fr {I I' : Mem} {R : Rem} {P : Pool} {σ : Gst} (h : CI I R P σ) (hE : ∀ a, a < 10 ∨ (30 ≤ a ∧ a < 70) ∨ 70 ≤ a → I' a = I a) : CI I' R P σ := by
  obtain ⟨a, b, c, d⟩ := h
  have hK : PK I R P I' R P := fun a ha _ => ⟨hE a (by omega), rfl, rfl, rfl⟩
  refine ⟨a.pk hK (hE _ (by omega)) (hE _ (by omega)) (hE _ (by omega)) rfl rfl, b.pk hK (by rw [hE 0 (by omega)]) (fun _ _ => rfl) (fun a h1 h2 => hE a (by omega)) (fun _ _ _ => rfl), fun j hj => ⟨(c j hj).1, (c j hj).2.pk hK (hE 8 (by omega)) (fun i hi => hE _ (by omega)) (fun i hi => rfl)⟩, ?_⟩
  unfold bfC
  rw [hE 0 (by omega), hE 9 (by omega)]
  exact d
theorem not_mem_SC {a : Nat} (h : a < 10 ∨ 30 ≤ a) : a ∉ SC := by
  intro hm
  simp only [SC, List.mem_cons, List.not_mem_nil, or_false] at hm
  omega
theorem CI.sc {I I' : Mem} {R : Rem} {P : Pool} {σ : Gst} (h : CI I R P σ) (hE : Eqx SC I I') : CI I' R P σ := h.fr (fun a ha => hE a (not_mem_SC (by omega)))
/-! arguments -/
theorem x_req {x : Int32} {n : Nat} (hn : n < 1073741824) {z : Nat} : (x < 0 → (if x < 0 then some (.inr z) else if x < nI n then some (.inl ()) else some (.inr z) : Option (Unit ⊕ Nat)) = some (.inr z)) ∧ (nI n ≤ x → (if x < 0 then some (.inr z) else if x < nI n then some (.inl ()) else some (.inr z) : Option (Unit ⊕ Nat)) = some (.inr z)) ∧ ∀ j, j < n → x = nI j → (if x < 0 then some (.inr z) else if x < nI n then some (.inl ()) else some (.inr z) : Option (Unit ⊕ Nat)) = some (.inl ()) := by
  refine ⟨fun h => if_pos h, fun h => ?_, fun j hj h => ?_⟩
  · by_cases h0 : x < 0
    · rw [if_pos h0]
    · rw [if_neg h0, if_neg (by rw [Int32.le_iff_toInt_le] at h; rw [fa_lt]; omega)]
  · subst h
    rw [if_neg (nI_pos (by omega)), if_pos (nI_lt hj (by omega))]
end MB5
