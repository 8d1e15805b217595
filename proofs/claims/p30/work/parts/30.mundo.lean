/-! PURE PART 11: undo, keep, goBack, append, clearBuffer. -/
section MB10
theorem CI.nowP {I I' : Mem} {R R' : Rem} {P P' : Pool} {σ : Gst} {A' : Abs} (h : CI I R P σ) (hK : PK I R P I' R' P') (hI : ∀ a, a ≠ 1 → a ≠ 2 → a ≠ 3 → (a < 10 ∨ (30 ≤ a ∧ a < 70)) → I' a = I a) (hR : ∀ a, a ≠ 4 → a ≠ 5 → a < 70 → R' a = R a) (hN : CSt I' R' P' 1 A') : CI I' R' P' (A', σ.2) := by
  obtain ⟨a, b, c, d⟩ := h
  refine ⟨hN, b.pk hK (by rw [hI 0 (by decide) (by decide) (by decide) (by decide)]) (fun j hj => by rw [hR 6 (by decide) (by decide) (by decide)]) (fun a h1 h2 => hI a (by omega) (by omega) (by omega) (by omega)) (fun a h1 h2 => hR a (by omega) (by omega) (by omega)), fun j hj => ⟨by rw [hR 7 (by decide) (by decide) (by decide)]; exact (c j hj).1, (c j hj).2.pk hK (hI 8 (by decide) (by decide) (by decide) (by decide)) (fun i hi => hI _ (by omega) (by omega) (by omega) (by omega)) (fun i hi => hR _ (by omega) (by omega) (by omega))⟩, ?_⟩
  unfold bfC
  rw [hI 0 (by decide) (by decide) (by decide) (by decide), hI 9 (by decide) (by decide) (by decide) (by decide)]
  exact d
theorem CI.now {I I' : Mem} {R R' : Rem} {P : Pool} {σ : Gst} {A' : Abs} (h : CI I R P σ) (hI : ∀ a, a ≠ 1 → a ≠ 2 → a ≠ 3 → (a < 10 ∨ (30 ≤ a ∧ a < 70) ∨ 70 ≤ a) → I' a = I a) (hR : ∀ a, a ≠ 4 → a ≠ 5 → R' a = R a) (hN : CSt I' R' P 1 A') : CI I' R' P (A', σ.2) :=
  h.nowP (fun a ha _ => ⟨hI a (by omega) (by omega) (by omega) (by omega), hR a (by omega) (by omega), rfl, rfl⟩) (fun a h1 h2 h3 h4 => hI a h1 h2 h3 (by omega)) (fun a h1 h2 _ => hR a h1 h2) hN
theorem GOk.now {σ : Gst} {A' : Abs} (h : GOk σ) (hA : AOk A') : GOk (A', σ.2) := ⟨hA, h.2.1, h.2.2.1, h.2.2.2⟩
theorem CI.pop {I : Mem} {R : Rem} {P : Pool} {N A : Abs} {S : List Abs} {x : (Nat → Option Abs) × List Nat} (h : CI I R P (N, S ++ [A], x)) : CI (up I 0 2 (nI S.length)) R P (N, S, x) := by
  obtain ⟨a, ⟨b1, b2, π, b3, b4, b5⟩, c, d⟩ := h
  have hu : ∀ a, a ≠ 0 → up I 0 2 (nI S.length) a = I a := fun a ha => up_ne _ _ _ ha
  have hK : PK I R P (up I 0 2 (nI S.length)) R P := fun a ha _ => ⟨hu a (by omega), rfl, rfl, rfl⟩
  have b2' : (S ++ [A]).length ≤ 6 := b2
  have b2 : S.length ≤ 6 := by simp at b2'; omega
  refine ⟨a.pk hK (hu _ (by decide)) (hu _ (by decide)) (hu _ (by decide)) rfl rfl, ⟨up_eq _ _ _ _, b2, π, b3, b4, fun j B hj => ?_⟩, fun j hj => ⟨(c j hj).1, (c j hj).2.pk hK (hu 8 (by decide)) (fun i hi => hu _ (by omega)) (fun i hi => rfl)⟩, ?_⟩
  · have hj : S[j]? = some B := hj
    have hl := (List.getElem?_eq_some_iff.mp hj).1
    have hj2 : (S ++ [A])[j]? = some B := by rw [List.getElem?_append_left hl]; exact hj
    exact (b5 j B hj2).pk hK (hu _ (by omega)) (hu _ (by omega)) (hu _ (by omega)) rfl rfl
  · unfold bfC
    rw [up_nk _ _ (show 6 ≠ 2 by decide), hu 9 (by decide)]
    exact d
theorem k_allRows {I : Mem} {R : Rem} {P : Pool} {A : Abs} (h : CSt I R P 1 A) : f_X8_allRows I = some (nI (A.1 0 + A.1 1)) := by
  unfold f_X8_allRows
  rw [show rd I 3 2 0 = some (nI (A.1 0)) from k_cnt h (show 0 < 2 by decide), show rd I 3 2 1 = some (nI (A.1 1)) from k_cnt h (show 1 < 2 by decide)]
  simp only [Option.bind_some]
  rw [nI_add]
theorem CI.keep {I I' : Mem} {R R' : Rem} {P : Pool} {N A : Abs} {S : List Abs} {K : Nat → Option Abs} {B : List Nat} {j : Nat} (hj : j < 2) (h : CI I R P (N, S, K, B)) (hI : ∀ a, a < 60 + 5 * j ∨ 63 + 5 * j ≤ a → a ≠ 8 → I' a = I a) (h8 : ∀ i, i ≠ j → I' 8 i = I 8 i) (h81 : I' 8 j = 1) (hR : ∀ a, a ≠ 63 + 5 * j → a ≠ 64 + 5 * j → R' a = R a) (hN : CSt I' R' P (60 + 5 * j) A) : CI I' R' P (N, S, fun i => if i = j then some A else K i, B) := by
  obtain ⟨a, b, c, d⟩ := h
  have hK : PK I R P I' R' P := fun a ha _ => ⟨hI a (by omega) (by omega), hR a (by omega) (by omega), rfl, rfl⟩
  refine ⟨a.pk hK (hI _ (by omega) (by omega)) (hI _ (by omega) (by omega)) (hI _ (by omega) (by omega)) (hR _ (by omega) (by omega)) (hR _ (by omega) (by omega)), b.pk hK (by rw [hI 0 (by omega) (by omega)]) (fun i hi => by rw [hR 6 (by omega) (by omega)]) (fun a h1 h2 => hI a (by omega) (by omega)) (fun a h1 h2 => hR a (by omega) (by omega)), fun i hi => ⟨by rw [hR 7 (by omega) (by omega)]; exact (c i hi).1, ?_⟩, ?_⟩
  · show snC I' R' P i (if i = j then some A else K i)
    by_cases e : i = j
    · subst e
      rw [if_pos rfl]
      exact ⟨h81, hN⟩
    · rw [if_neg e]
      have c2 := (c i hi).2
      have c2 : snC I R P i (K i) := c2
      cases hq : K i with
      | none => rw [hq] at c2; show I' 8 i = 0; rw [h8 i e]; exact c2
      | some X =>
        rw [hq] at c2
        exact ⟨by rw [h8 i e]; exact c2.1, c2.2.pk hK (hI _ (by omega) (by omega)) (hI _ (by omega) (by omega)) (hI _ (by omega) (by omega)) (hR _ (by omega) (by omega)) (hR _ (by omega) (by omega))⟩
  · unfold bfC
    rw [hI 0 (by omega) (by omega), hI 9 (by omega) (by omega)]
    exact d
theorem kd_sn {P : Pool} {j : Nat} (hj : j < 2) : Kd P (60 + 5 * j) = 6 := by
  have h := kd_st (P := P) (6 + j) (by omega)
  rw [show 30 + 5 * (6 + j) = 60 + 5 * j by omega] at h
  exact h
end MB10
