/-! PURE PART 6: the invariant of both sides; arguments. -/
section MB5
/-- now, the saved states (the oldest first), the snapshots, the buffer -/
abbrev Gst : Type := Abs × List Abs × (Nat → Option Abs) × List Nat
def snC (I : Mem) (R : Rem) (P : Pool) (j : Nat) (o : Option Abs) : Prop := match o with
  | none => I 8 j = 0
  | some A => I 8 j = 1 ∧ CSt I R P (60 + 5 * j) A
def snR (I : Mem) (j : Nat) (o : Option Abs) : Prop := match o with
  | none => I 74 j = 0
  | some A => I 74 j = 1 ∧ RSt (fun k => I 73 (619 * j + k)) A
/-- the saved states, in the class -/
def svC (I : Mem) (R : Rem) (P : Pool) (S : List Abs) : Prop := I 0 2 = nI S.length ∧ S.length ≤ 6 ∧ ∃ π : Nat → Nat, (∀ j, j < 6 → π j < 6 ∧ R 6 j = some (30 + 5 * π j)) ∧ (∀ i j, i < 6 → j < 6 → π i = π j → i = j) ∧ ∀ j A, S[j]? = some A → CSt I R P (30 + 5 * π j) A
def bfC (I : Mem) (B : List Nat) : Prop := I 0 6 = nI B.length ∧ B.length ≤ 60 ∧ ∀ j x, B[j]? = some x → I 9 j = nI x
def CI (I : Mem) (R : Rem) (P : Pool) (σ : Gst) : Prop := CSt I R P 1 σ.1 ∧ svC I R P σ.2.1 ∧ (∀ j, j < 2 → R 7 j = some (60 + 5 * j) ∧ snC I R P j (σ.2.2.1 j)) ∧ bfC I σ.2.2.2
def svR (I : Mem) (S : List Abs) : Prop := I 70 2 = nI S.length ∧ ∀ j A, S[j]? = some A → RSt (fun k => I 72 (619 * j + k)) A
def bfR (I : Mem) (B : List Nat) : Prop := I 70 6 = nI B.length ∧ ∀ j x, B[j]? = some x → I 75 j = nI x
def MI (I : Mem) (σ : Gst) : Prop := RSt (I 71) σ.1 ∧ svR I σ.2.1 ∧ (∀ j, j < 2 → snR I j (σ.2.2.1 j)) ∧ bfR I σ.2.2.2
def GOk (σ : Gst) : Prop := AOk σ.1 ∧ (∀ A ∈ σ.2.1, AOk A) ∧ (∀ j A, j < 2 → σ.2.2.1 j = some A → AOk A) ∧ ∀ x ∈ σ.2.2.2, 33 ≤ x ∧ x ≤ 126
def INV (I : Mem) (R : Rem) (P : Pool) : Prop := ∃ σ, CI I R P σ ∧ MI I σ ∧ GOk σ
/-- scratch of the class, of the reference -/
abbrev SC : List Nat := [10, 12, 13, 14, 15, 16, 17, 18, 19, 20, 21, 22, 23, 24, 25, 26, 27, 28, 29]
abbrev SM : List Nat := [70, 76, 77, 78, 79, 80, 81, 82]
abbrev SR : List Nat := [70, 71, 72, 73, 74, 75, 76, 77, 78, 79, 80, 81, 82]
theorem snC.pk {I I' : Mem} {R R' : Rem} {P P' : Pool} {j : Nat} {o : Option Abs} (h : snC I R P j o) (hK : PK I R P I' R' P') (h8 : I' 8 = I 8) (h0 : ∀ i, i < 5 → I' (60 + 5 * j + i) = I (60 + 5 * j + i)) (h1 : ∀ i, i < 5 → R' (60 + 5 * j + i) = R (60 + 5 * j + i)) : snC I' R' P' j o := by
  cases o with
  | none => show I' 8 j = 0; rw [h8]; exact h
  | some A => exact ⟨by rw [h8]; exact h.1, h.2.pk hK (h0 0 (by decide)) (h0 1 (by decide)) (h0 2 (by decide)) (h1 3 (by decide)) (h1 4 (by decide))⟩
theorem svC.pk {I I' : Mem} {R R' : Rem} {P P' : Pool} {S : List Abs} (h : svC I R P S) (hK : PK I R P I' R' P') (h0 : I' 0 2 = I 0 2) (hr : ∀ j, j < 6 → R' 6 j = R 6 j) (h1 : ∀ a, 30 ≤ a → a < 60 → I' a = I a) (h2 : ∀ a, 30 ≤ a → a < 60 → R' a = R a) : svC I' R' P' S := by
  obtain ⟨a, b, π, c, d, e⟩ := h
  refine ⟨by rw [h0]; exact a, b, π, fun j hj => ⟨(c j hj).1, by rw [hr j hj]; exact (c j hj).2⟩, d, fun j A hj => ?_⟩
  have hl : j < 6 := Nat.lt_of_lt_of_le (List.getElem?_eq_some_iff.mp hj).1 b
  have hp := (c j hl).1
  exact (e j A hj).pk hK (h1 _ (by omega) (by omega)) (h1 _ (by omega) (by omega)) (h1 _ (by omega) (by omega)) (h2 _ (by omega) (by omega)) (h2 _ (by omega) (by omega))
/-- the class's part where only scratch, the reference's objects and the pool have changed -/
theorem CI.fr {I I' : Mem} {R : Rem} {P : Pool} {σ : Gst} (h : CI I R P σ) (hE : ∀ a, a < 10 ∨ (30 ≤ a ∧ a < 70) ∨ 85 ≤ a → I' a = I a) : CI I' R P σ := by
  obtain ⟨a, b, c, d⟩ := h
  have hK : PK I R P I' R P := fun a ha _ => ⟨hE a (by omega), rfl, rfl, rfl⟩
  refine ⟨a.pk hK (hE _ (by omega)) (hE _ (by omega)) (hE _ (by omega)) rfl rfl, b.pk hK (by rw [hE 0 (by omega)]) (fun _ _ => rfl) (fun a h1 h2 => hE a (by omega)) (fun _ _ _ => rfl), fun j hj => ⟨(c j hj).1, (c j hj).2.pk hK (hE 8 (by omega)) (fun i hi => hE _ (by omega)) (fun i hi => rfl)⟩, ?_⟩
  unfold bfC
  rw [hE 0 (by omega), hE 9 (by omega)]
  exact d
theorem not_mem_SC {a : Nat} (h : a < 10 ∨ 30 ≤ a) : a ∉ SC := by
  intro hm
  simp only [SC, List.mem_cons, List.not_mem_nil, or_false] at hm
  omega
theorem not_mem_SR {a : Nat} (h : a < 70 ∨ 85 ≤ a) : a ∉ SR := by
  intro hm
  simp only [SR, List.mem_cons, List.not_mem_nil, or_false] at hm
  omega
theorem CI.sc {I I' : Mem} {R : Rem} {P : Pool} {σ : Gst} (h : CI I R P σ) (hE : Eqx SC I I') : CI I' R P σ := h.fr (fun a ha => hE a (not_mem_SC (by omega)))
theorem CI.sr {I I' : Mem} {R : Rem} {P : Pool} {σ : Gst} (h : CI I R P σ) (hE : Eqx SR I I') : CI I' R P σ := h.fr (fun a ha => hE a (not_mem_SR (by omega)))
theorem MI.fr {I I' : Mem} {σ : Gst} (h : MI I σ) (h0 : I' 70 2 = I 70 2) (h1 : I' 70 6 = I 70 6) (hE : ∀ a, 71 ≤ a → a ≤ 75 → I' a = I a) : MI I' σ := by
  obtain ⟨a, b, c, d⟩ := h
  unfold MI svR bfR
  rw [h0, h1, hE 71 (by omega) (by omega), hE 72 (by omega) (by omega), hE 75 (by omega) (by omega)]
  refine ⟨a, b, fun j hj => ?_, d⟩
  have c := c j hj
  unfold snR at c ⊢
  rw [hE 73 (by omega) (by omega), hE 74 (by omega) (by omega)]
  exact c
/-- what the class changes leaves the reference's part -/
theorem MI.cf {I I' : Mem} {σ : Gst} (h : MI I σ) (hE : ∀ a, 70 ≤ a → a < 85 → I' a = I a) : MI I' σ := h.fr (by rw [hE 70 (by omega) (by omega)]) (by rw [hE 70 (by omega) (by omega)]) (fun a h1 h2 => hE a (by omega) (by omega))
theorem MI.sc {I I' : Mem} {σ : Gst} (h : MI I σ) (hE : Eqx SC I I') : MI I' σ := h.cf (fun a h1 h2 => hE a (not_mem_SC (by omega)))
def KM (I I' : Mem) : Prop := I' 70 2 = I 70 2 ∧ I' 70 6 = I 70 6
theorem MI.sm {I I' : Mem} {σ : Gst} (h : MI I σ) (hE : Eqx SM I I') (hK : KM I I') : MI I' σ := h.fr hK.1 hK.2 (fun a h1 h2 => hE a (by simp only [List.mem_cons, List.not_mem_nil, or_false]; omega))
theorem KM.rf {I : Mem} : KM I I := ⟨rfl, rfl⟩
theorem KM.tr {I I1 I2 : Mem} (h : KM I I1) (h2 : KM I1 I2) : KM I I2 := ⟨h2.1.trans h.1, h2.2.trans h.2⟩
theorem K11.km {I I1 : Mem} (h : K11 I I1) : KM I I1 := ⟨h 2 (by decide), h 6 (by decide)⟩
theorem KM.thr {I : Mem} {x : Int32} : KM I (up I 70 7 x) := ⟨up_nk _ _ (by decide), up_nk _ _ (by decide)⟩
theorem KM.ne {I I' : Mem} (h : I' 70 = I 70) : KM I I' := ⟨by rw [h], by rw [h]⟩
/-- a query: scratch on both sides -/
theorem INV.q {I I1 I2 : Mem} {R : Rem} {P : Pool} {σ : Gst} (hC : CI I R P σ) (hM : MI I σ) (hO : GOk σ) (h1 : Eqx SC I I1) (h2 : Eqx SM I1 I2) (h3 : KM I1 I2) : INV I2 R P :=
  ⟨σ, (hC.sc h1).sr (h2.mono (by decide)), (hM.sc h1).sm h2 h3, hO⟩
theorem MI.t0 {I : Mem} {σ : Gst} {x : Int32} (h : MI I σ) : MI (up I 70 7 x) σ := h.sm (Eqx.up (by decide)) KM.thr
/-! arguments -/
theorem r_in {x : Int32} {n : Nat} (hn : n < 1073741824) : (x < 0 → f_X9_in x 0 (nI n) = some 0) ∧ (nI (n + 1) ≤ x → f_X9_in x 0 (nI n) = some 0) ∧ ∀ j, j ≤ n → x = nI j → f_X9_in x 0 (nI n) = some 1 := by
  refine ⟨fun h => ?_, fun h => ?_, fun j hj h => ?_⟩
  · unfold f_X9_in; rw [if_pos h]
  · unfold f_X9_in
    by_cases h0 : x < 0
    · rw [if_pos h0]
    · rw [if_neg h0, if_pos (by rw [Int32.le_iff_toInt_le, nI_toInt (by omega)] at h; rw [fa_lt, nI_toInt (by omega)]; omega)]
  · subst h
    unfold f_X9_in
    rw [if_neg (nI_pos (by omega)), if_neg (nI_nlt hj (by omega))]
theorem x_req {x : Int32} {n : Nat} (hn : n < 1073741824) {z : Nat} : (x < 0 → (if x < 0 then some (.inr z) else if x < nI n then some (.inl ()) else some (.inr z) : Option (Unit ⊕ Nat)) = some (.inr z)) ∧ (nI n ≤ x → (if x < 0 then some (.inr z) else if x < nI n then some (.inl ()) else some (.inr z) : Option (Unit ⊕ Nat)) = some (.inr z)) ∧ ∀ j, j < n → x = nI j → (if x < 0 then some (.inr z) else if x < nI n then some (.inl ()) else some (.inr z) : Option (Unit ⊕ Nat)) = some (.inl ()) := by
  refine ⟨fun h => if_pos h, fun h => ?_, fun j hj h => ?_⟩
  · by_cases h0 : x < 0
    · rw [if_pos h0]
    · rw [if_neg h0, if_neg (by rw [Int32.le_iff_toInt_le] at h; rw [fa_lt]; omega)]
  · subst h
    rw [if_neg (nI_pos (by omega)), if_pos (nI_lt hj (by omega))]
theorem a_tab (x : Int32) : (∃ t, t < 2 ∧ x = nI t ∧ f_X8_requireTable x = some (.inl ()) ∧ f_X9_isTable x = some 1) ∨ (f_X8_requireTable x = some (.inr 0) ∧ f_X9_isTable x = some 0) := by
  have hq := x_req (x := x) (n := 2) (z := 0) (by decide)
  have hr := r_in (x := x) (n := 1) (by decide)
  unfold f_X8_requireTable f_X9_isTable
  rcases pk_ix x (n := 2) (by decide) with h | h | ⟨j, hj, h⟩
  · exact Or.inr ⟨hq.1 h, by rw [show f_X9_in x 0 1 = some 0 from hr.1 h]; rfl⟩
  · exact Or.inr ⟨hq.2.1 h, by rw [show f_X9_in x 0 1 = some 0 from hr.2.1 h]; rfl⟩
  · exact Or.inl ⟨j, hj, h, hq.2.2 j hj h, by rw [show f_X9_in x 0 1 = some 1 from hr.2.2 j (by omega) h]; rfl⟩
theorem a_col (x : Int32) : (∃ c, c < 4 ∧ x = nI c ∧ f_X8_requireColumn x = some (.inl ()) ∧ f_X9_isColumn x = some 1) ∨ (f_X8_requireColumn x = some (.inr 0) ∧ f_X9_isColumn x = some 0) := by
  have hq := x_req (x := x) (n := 4) (z := 0) (by decide)
  have hr := r_in (x := x) (n := 3) (by decide)
  unfold f_X8_requireColumn f_X9_isColumn
  rcases pk_ix x (n := 4) (by decide) with h | h | ⟨j, hj, h⟩
  · exact Or.inr ⟨hq.1 h, by rw [show f_X9_in x 0 3 = some 0 from hr.1 h]; rfl⟩
  · exact Or.inr ⟨hq.2.1 h, by rw [show f_X9_in x 0 3 = some 0 from hr.2.1 h]; rfl⟩
  · exact Or.inl ⟨j, hj, h, hq.2.2 j hj h, by rw [show f_X9_in x 0 3 = some 1 from hr.2.2 j (by omega) h]; rfl⟩
theorem a_slot (x : Int32) : (∃ s, s < 6 ∧ x = nI s ∧ f_X8_requireSlot x = some (.inl ()) ∧ f_X9_isSlot x = some 1) ∨ (f_X8_requireSlot x = some (.inr 0) ∧ f_X9_isSlot x = some 0) := by
  have hq := x_req (x := x) (n := 6) (z := 0) (by decide)
  have hr := r_in (x := x) (n := 5) (by decide)
  unfold f_X8_requireSlot f_X9_isSlot
  rcases pk_ix x (n := 6) (by decide) with h | h | ⟨j, hj, h⟩
  · exact Or.inr ⟨hq.1 h, by rw [show f_X9_in x 0 5 = some 0 from hr.1 h]; rfl⟩
  · exact Or.inr ⟨hq.2.1 h, by rw [show f_X9_in x 0 5 = some 0 from hr.2.1 h]; rfl⟩
  · exact Or.inl ⟨j, hj, h, hq.2.2 j hj h, by rw [show f_X9_in x 0 5 = some 1 from hr.2.2 j (by omega) h]; rfl⟩
theorem a_rng (x : Int32) {n : Nat} (hn : n < 1000) : (∃ j, j ≤ n ∧ x = nI j ∧ f_X8_requireRange x (nI n) = some (.inl ()) ∧ f_X9_in x 0 (nI n) = some 1) ∨ (f_X8_requireRange x (nI n) = some (.inr 1) ∧ f_X9_in x 0 (nI n) = some 0) := by
  have hr := r_in (x := x) (n := n) (by omega)
  unfold f_X8_requireRange
  rcases pk_ix x (n := n + 1) (by omega) with h | h | ⟨j, hj, h⟩
  · exact Or.inr ⟨if_pos h, hr.1 h⟩
  · refine Or.inr ⟨?_, hr.2.1 h⟩
    by_cases h0 : x < 0
    · rw [if_pos h0]
    · rw [if_neg h0, if_neg (by rw [Int32.le_iff_toInt_le, nI_toInt (by omega)] at h ⊢; omega)]
  · refine Or.inl ⟨j, by omega, h, ?_, hr.2.2 j (by omega) h⟩
    subst h
    rw [if_neg (nI_pos (by omega)), if_pos (nI_le (by omega) (by omega))]
theorem a_val (x : Int32) : (cok x ∧ f_X8_requireCellValue x = some (.inl ()) ∧ f_X9_isValue x = some 1) ∨ (f_X8_requireCellValue x = some (.inr 1) ∧ f_X9_isValue x = some 0) := by
  have m1 : (-1 : Int32).toInt = -1 := rfl
  have m99 : (99 : Int32).toInt = 99 := rfl
  have m100 : (100 : Int32).toInt = 100 := rfl
  have m0 : (0 : Int32).toInt = 0 := rfl
  unfold f_X8_requireCellValue f_X9_isValue f_X9_in
  by_cases e : x = -1
  · subst e
    exact Or.inl ⟨Or.inl rfl, rfl, rfl⟩
  · have hne : x.toInt ≠ -1 := fun h => e (Int32.toInt_inj.mp (h.trans m1.symm))
    rw [if_neg e]
    by_cases h0 : x < 0
    · refine Or.inr ⟨if_pos h0, ?_⟩
      rw [if_pos (show x < -1 by rw [fa_lt] at h0 ⊢; rw [m1]; rw [m0] at h0; omega)]
      rfl
    · rw [if_neg h0, if_neg (show ¬ x < -1 by rw [fa_lt] at h0 ⊢; rw [m1]; rw [m0] at h0; omega)]
      by_cases h1 : x < 100
      · refine Or.inl ⟨?_, if_pos h1, ?_⟩
        · obtain ⟨j, hj, rfl⟩ := nI_of h0
          exact Or.inr ⟨j, by rw [show (100 : Int32) = nI 100 from rfl, nI_ltI hj (by decide)] at h1; exact h1, rfl⟩
        · rw [if_neg (show ¬ (99 : Int32) < x by rw [fa_lt] at h1 ⊢; rw [m100] at h1; rw [m99]; omega)]
          rfl
      · refine Or.inr ⟨if_neg h1, ?_⟩
        rw [if_pos (show (99 : Int32) < x by rw [fa_lt] at h1 ⊢; rw [m100] at h1; rw [m99]; omega)]
        rfl
theorem a_row (x1 x2 : Int32) {I : Mem} {R : Rem} {P : Pool} {A : Abs} (hS : CSt I R P 1 A) (hA : AOk A) : (∃ t r, t < 2 ∧ r < A.1 t ∧ x1 = nI t ∧ x2 = nI r ∧ f_X8_requireRow x1 x2 I = some (.inl ()) ∧ ∀ I', RSt (I' 71) A → f_X9_isRow x1 x2 I' = some 1) ∨ (f_X8_requireRow x1 x2 I = some (.inr 0) ∧ ∀ I', RSt (I' 71) A → f_X9_isRow x1 x2 I' = some 0) := by
  unfold f_X8_requireRow f_X9_isRow
  rcases a_tab x1 with ⟨t, ht, rfl, e1, e2⟩ | ⟨e1, e2⟩
  · have h16 := hA.1 t ht
    rw [e1]
    simp only [Option.bind_some, sm_l, e2]
    rw [k_cnt hS ht]
    simp only [Option.bind_some]
    rcases pk_ix x2 (n := A.1 t) (by omega) with h | h | ⟨j, hj, h⟩
    · refine Or.inr ⟨if_pos h, fun I' hR => ?_⟩
      rw [if_neg (by decide), r_many hR ht]
      simp only [Option.bind_some]
      unfold f_X9_in
      rw [if_pos h]
      rfl
    · refine Or.inr ⟨?_, fun I' hR => ?_⟩
      · by_cases h0 : x2 < 0
        · rw [if_pos h0]
        · rw [if_neg h0, if_neg (by rw [Int32.le_iff_toInt_le] at h; rw [fa_lt]; omega)]
      · rw [if_neg (by decide), r_many hR ht]
        simp only [Option.bind_some]
        have : f_X9_in x2 0 (nI (A.1 t) - 1) = some 0 := by
          unfold f_X9_in
          by_cases h0 : x2 < 0
          · rw [if_pos h0]
          · rw [if_neg h0]
            rcases Nat.eq_zero_or_pos (A.1 t) with z | z
            · rw [z, if_pos (show nI 0 - 1 < x2 by rw [fa_lt] at h0 ⊢; have : (nI 0 - 1 : Int32).toInt = -1 := rfl; have m0 : (0 : Int32).toInt = 0 := rfl; rw [m0] at h0; omega)]
            · rw [show nI (A.1 t) - 1 = nI (A.1 t - 1) from pk_sub (b := 1) z, if_pos (by rw [Int32.le_iff_toInt_le, nI_toInt (by omega)] at h; rw [fa_lt, nI_toInt (by omega)]; omega)]
        rw [this]
        rfl
    · refine Or.inl ⟨t, j, ht, hj, rfl, h, ?_, fun I' hR => ?_⟩
      · subst h
        rw [if_neg (nI_pos (by omega)), if_pos (nI_lt hj (by omega))]
      · rw [if_neg (by decide), r_many hR ht]
        simp only [Option.bind_some]
        rw [show nI (A.1 t) - 1 = nI (A.1 t - 1) from pk_sub (b := 1) (by omega), (r_in (n := A.1 t - 1) (by omega)).2.2 j (by omega) h]
        rfl
  · exact Or.inr ⟨by rw [e1]; rfl, fun I' hR => by rw [e2]; rfl⟩
end MB5
