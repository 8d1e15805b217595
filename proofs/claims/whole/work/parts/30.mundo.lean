/-! PURE PART 11: undo, keep, goBack, append, clearBuffer. -/
section MB10
theorem CI.nowP {I I' : Mem} {R R' : Rem} {P P' : Pool} {σ : Gst} {A' : Abs} (h : CI I R P σ) (hK : PK I R P I' R' P') (hI : ∀ a, a ≠ 1 → a ≠ 2 → a ≠ 3 → (a < 10 ∨ (30 ≤ a ∧ a < 70)) → I' a = I a) (hR : ∀ a, a ≠ 4 → a ≠ 5 → a < 85 → R' a = R a) (hN : CSt I' R' P' 1 A') : CI I' R' P' (A', σ.2) := by
  obtain ⟨a, b, c, d⟩ := h
  refine ⟨hN, b.pk hK (by rw [hI 0 (by decide) (by decide) (by decide) (by decide)]) (fun j hj => by rw [hR 6 (by decide) (by decide) (by decide)]) (fun a h1 h2 => hI a (by omega) (by omega) (by omega) (by omega)) (fun a h1 h2 => hR a (by omega) (by omega) (by omega)), fun j hj => ⟨by rw [hR 7 (by decide) (by decide) (by decide)]; exact (c j hj).1, (c j hj).2.pk hK (hI 8 (by decide) (by decide) (by decide) (by decide)) (fun i hi => hI _ (by omega) (by omega) (by omega) (by omega)) (fun i hi => hR _ (by omega) (by omega) (by omega))⟩, ?_⟩
  unfold bfC
  rw [hI 0 (by decide) (by decide) (by decide) (by decide), hI 9 (by decide) (by decide) (by decide) (by decide)]
  exact d
theorem CI.now {I I' : Mem} {R R' : Rem} {P : Pool} {σ : Gst} {A' : Abs} (h : CI I R P σ) (hI : ∀ a, a ≠ 1 → a ≠ 2 → a ≠ 3 → (a < 10 ∨ (30 ≤ a ∧ a < 70) ∨ 85 ≤ a) → I' a = I a) (hR : ∀ a, a ≠ 4 → a ≠ 5 → R' a = R a) (hN : CSt I' R' P 1 A') : CI I' R' P (A', σ.2) :=
  h.nowP (fun a ha _ => ⟨hI a (by omega) (by omega) (by omega) (by omega), hR a (by omega) (by omega), rfl, rfl⟩) (fun a h1 h2 h3 h4 => hI a h1 h2 h3 (by omega)) (fun a h1 h2 _ => hR a h1 h2) hN
theorem MI.now {I I' : Mem} {σ : Gst} {A' : Abs} (h : MI I σ) (h0 : I' 70 2 = I 70 2) (h1 : I' 70 6 = I 70 6) (hE : ∀ a, 72 ≤ a → a ≤ 75 → I' a = I a) (hN : RSt (I' 71) A') : MI I' (A', σ.2) := by
  obtain ⟨a, b, c, d⟩ := h
  refine ⟨hN, ?_, fun j hj => ?_, ?_⟩
  · unfold svR; rw [h0, hE 72 (by omega) (by omega)]; exact b
  · have c := c j hj
    unfold snR at c ⊢
    rw [hE 73 (by omega) (by omega), hE 74 (by omega) (by omega)]
    exact c
  · unfold bfR; rw [h1, hE 75 (by omega) (by omega)]; exact d
theorem GOk.now {σ : Gst} {A' : Abs} (h : GOk σ) (hA : AOk A') : GOk (A', σ.2) := ⟨hA, h.2.1, h.2.2.1, h.2.2.2⟩
theorem CI.pop {I : Mem} {R : Rem} {P : Pool} {N A : Abs} {S : List Abs} {x : (Nat → Option Abs) × List Nat} (h : CI I R P (N, S ++ [A], x)) : CI (up I 0 2 (nI S.length)) R P (N, S, x) := by
  obtain ⟨a, ⟨b1, b2, π, b3, b4, b5⟩, c, d⟩ := h
  have hu : ∀ a, a ≠ 0 → up I 0 2 (nI S.length) a = I a := fun a ha => up_ne _ _ _ ha
  have hK : PK I R P (up I 0 2 (nI S.length)) R P := fun a ha _ => ⟨hu a (by omega), rfl, rfl, rfl⟩
  have b2' : (S ++ [A]).length ≤ 6 := b2
  have b2 : S.length ≤ 6 := by simp at b2'; omega
  refine ⟨a.pk hK (hu _ (by decide)) (hu _ (by decide)) (hu _ (by decide)) rfl rfl, ⟨up_eq _ _ _ _, b2, π, b3, b4, fun j B hj => ?_⟩, fun j hj => ⟨(c j hj).1, (c j hj).2.pk hK (hu 8 (by decide)) (fun i hi => hu _ (by omega)) (fun i hi => rfl)⟩, ?_⟩
  · have hj : S[j]? = some B := hj
    have hl := (List.getElem?_eq_some_iff.mp hj).1
    have hj2 : (S ++ [A])[j]? = some B := by rw [List.getElem?_append_left hl]; exact hj
    exact (b5 j B hj2).pk hK (hu _ (by omega)) (hu _ (by omega)) (hu _ (by omega)) rfl rfl
  · unfold bfC
    rw [up_nk _ _ (show 6 ≠ 2 by decide), hu 9 (by decide)]
    exact d
theorem k_allRows {I : Mem} {R : Rem} {P : Pool} {A : Abs} (h : CSt I R P 1 A) : f_X8_allRows I = some (nI (A.1 0 + A.1 1)) := by
  unfold f_X8_allRows
  rw [show rd I 3 2 0 = some (nI (A.1 0)) from k_cnt h (show 0 < 2 by decide), show rd I 3 2 1 = some (nI (A.1 1)) from k_cnt h (show 1 < 2 by decide)]
  simp only [Option.bind_some]
  rw [nI_add]
theorem r_allRows {I : Mem} {A : Abs} (h : RSt (I 71) A) : f_X9_allRows I = some (nI (A.1 0 + A.1 1)) := by
  unfold f_X9_allRows
  rw [show f_X9_many 0 I = some (nI (A.1 0)) from r_many h (show 0 < 2 by decide), show f_X9_many 1 I = some (nI (A.1 1)) from r_many h (show 1 < 2 by decide)]
  simp only [Option.bind_some]
  rw [nI_add]
theorem st_undo : ST_undo INV := by
  intro I R P Z nx hI hF0 hF1
  obtain ⟨⟨N, S, K, B⟩, hC, hM, hO⟩ := hI
  have hA := hO.1
  have hM0 := hM.t0 (x := 0)
  rcases List.eq_nil_or_concat S with rfl | ⟨S, A, rfl⟩
  · have c1 : I 0 2 = 0 := hC.2.1.1
    have c2 : up I 70 7 0 70 2 = 0 := hM0.2.1.1
    exact ⟨(1, I, R, P, Z), (0, up (up I 70 7 0) 70 7 1), by unfold f_L_undo f_X8_undo; simp [c1, sm_r], by unfold f_X9_undo; simp [c2, f_X9_refuses], (show up (up I 70 7 0) 70 7 1 70 7 = 1 from up_eq _ _ _ _), fun h => absurd (show (1 : Int32) = 0 from h) (by decide), INV.ex hC hM hO⟩
  · rw [List.concat_eq_append] at hC hM hO hM0
    have c1 : I 0 2 = nI (S.length + 1) := by have := hC.2.1.1; simpa using this
    have hl6 : S.length + 1 ≤ 6 := by have := hC.2.1.2.1; simpa using this
    have c2 : up I 70 7 0 70 2 = nI (S.length + 1) := by have := hM0.2.1.1; simpa using this
    obtain ⟨π, b3, b4, b5⟩ := hC.2.1.2.2
    have hgA : (S ++ [A])[S.length]? = some A := by simp
    have hAA : AOk A := hO.2.1 A (by simp)
    have hO2 : GOk (A, S, K, B) := ⟨hAA, fun X hX => hO.2.1 X (by simp [hX]), hO.2.2.1, hO.2.2.2⟩
    have hp := b3 S.length (by omega)
    have hC2 := hC.pop
    have hS : CSt (up I 0 2 (nI S.length)) R P (30 + 5 * π S.length) A := (b5 S.length A hgA).eqx (S := [0]) (Eqx.up (by decide)) (by decide) (by simp) (by simp) (by simp)
    obtain ⟨I2, R2, e1, e2, e3, e4⟩ := k_take (p := 1) hS hAA (by omega) (by decide) (by omega)
    have hC3 : CI I2 R2 P (A, S, K, B) := hC2.now (σ := (N, S, K, B)) (fun a h1 h2 h3 _ => e3 a (by omega)) (fun a h1 h2 => e4 a (by omega) (by omega)) e2
    have i02 : I2 0 2 = nI S.length := by rw [e3 0 (by decide), up_eq]
    have h70 : ∀ a, 70 ≤ a → a < 85 → I2 a = I a := fun a h1 h2 => by rw [e3 a (by omega), up_ne _ _ _ (by omega)]
    have hM2 := (hM.cf h70).t0 (x := 0)
    have m2 : up I2 70 7 0 70 2 = nI (S.length + 1) := by have := hM2.2.1.1; simpa using this
    obtain ⟨I3, f1, f2, f3, f4⟩ := r_lays (I := up (up I2 70 7 0) 70 2 (nI S.length)) (P := P) (a0 := 72) (a2 := 71) (s := 619 * S.length) (t := 0) (by decide) (by rw [ln72]; omega) (by rw [ln71]; decide) (by rw [ln72]; decide) (by rw [ln71]; decide)
    have m3 : I3 70 2 = nI S.length := by rw [f2 70 (by decide), up_eq]
    have hM3 : MI I3 (A, S, K, B) := by
      refine ⟨?_, ⟨m3, fun j X hj => ?_⟩, fun j hj => ?_, ?_⟩
      · refine (hM.2.1.2 S.length A hgA).cg hAA (fun k hk => ?_)
        have h7 := f3 k hk
        rw [Nat.zero_add] at h7
        rw [h7, up_ne _ _ _ (by decide), up_ne _ _ _ (by decide), h70 72 (by decide) (by decide)]
      · have hl := (List.getElem?_eq_some_iff.mp hj).1
        have hj2 : (S ++ [A])[j]? = some X := by rw [List.getElem?_append_left hl]; exact hj
        rw [f2 72 (by decide), up_ne _ _ _ (by decide), up_ne _ _ _ (by decide), h70 72 (by decide) (by decide)]
        exact hM.2.1.2 j X hj2
      · have c := hM.2.2.1 j hj
        unfold snR at c ⊢
        rw [f2 73 (by decide), up_ne _ _ _ (by decide), up_ne _ _ _ (by decide), h70 73 (by decide) (by decide), f2 74 (by decide), up_ne _ _ _ (by decide), up_ne _ _ _ (by decide), h70 74 (by decide) (by decide)]
        exact c
      · unfold bfR
        rw [f2 70 (by decide), up_nk _ _ (by decide), up_nk _ _ (by decide), h70 70 (by decide) (by decide), f2 75 (by decide), up_ne _ _ _ (by decide), up_ne _ _ _ (by decide), h70 75 (by decide) (by decide)]
        exact hM.2.2.2
    have hC4 : CI I3 R2 P (A, S, K, B) := hC3.fr (fun a ha => by rw [f2 a (by omega), up_ne _ _ _ (by omega), up_ne _ _ _ (by omega)])
    exact ⟨(0, I2, R2, P, (vp_updL Z.1 0 (nI S.length).toInt64, Z.2)), (nI S.length, I3), by unfold f_L_undo f_X8_undo; rw [c1, if_pos (show (0 : Int32) < nI (S.length + 1) from nI_lt (a := 0) (by omega) (by omega)), nI_pred, up_eq, rdq_s S.length rfl (by omega) (by decide) hp.2 (kd_st _ (by omega))]; simp only [Option.bind_some]; rw [e1]; simp only [Option.bind_some]; rw [i02]; rfl, by unfold f_X9_undo; rw [m2, if_neg (nI_ne0 (by omega) (by omega)), nI_pred, up_eq, show (619 : Int32) * nI S.length = nI (619 * S.length) from pk_mul 619 _, show (0 : Int32) = nI 0 from rfl]; dsimp only; rw [show (up (up I2 70 7 (nI 0)) 70 2 (nI S.length)) = up (up I2 70 7 0) 70 2 (nI S.length) from rfl, f1]; simp only [Option.bind_some]; rw [m3], (show I3 70 7 = 0 by rw [f2 70 (by decide), up_nk _ _ (by decide), up_eq]), fun _ => upL0 Z.1 _, ⟨(A, S, K, B), hC4, hM3, hO2⟩⟩
theorem CI.keep {I I' : Mem} {R R' : Rem} {P : Pool} {N A : Abs} {S : List Abs} {K : Nat → Option Abs} {B : List Nat} {j : Nat} (hj : j < 2) (h : CI I R P (N, S, K, B)) (hI : ∀ a, a < 60 + 5 * j ∨ 63 + 5 * j ≤ a → a ≠ 8 → I' a = I a) (h8 : ∀ i, i ≠ j → I' 8 i = I 8 i) (h81 : I' 8 j = 1) (hR : ∀ a, a ≠ 63 + 5 * j → a ≠ 64 + 5 * j → R' a = R a) (hN : CSt I' R' P (60 + 5 * j) A) : CI I' R' P (N, S, fun i => if i = j then some A else K i, B) := by
  obtain ⟨a, b, c, d⟩ := h
  have hK : PK I R P I' R' P := fun a ha _ => ⟨hI a (by omega) (by omega), hR a (by omega) (by omega), rfl, rfl⟩
  refine ⟨a.pk hK (hI _ (by omega) (by omega)) (hI _ (by omega) (by omega)) (hI _ (by omega) (by omega)) (hR _ (by omega) (by omega)) (hR _ (by omega) (by omega)), b.pk hK (by rw [hI 0 (by omega) (by omega)]) (fun i hi => by rw [hR 6 (by omega) (by omega)]) (fun a h1 h2 => hI a (by omega) (by omega)) (fun a h1 h2 => hR a (by omega) (by omega)), fun i hi => ⟨by rw [hR 7 (by omega) (by omega)]; exact (c i hi).1, ?_⟩, ?_⟩
  · show snC I' R' P i (if i = j then some A else K i)
    by_cases e : i = j
    · subst e
      rw [if_pos rfl]
      exact ⟨h81, hN⟩
    · rw [if_neg e]
      have c2 := (c i hi).2
      have c2 : snC I R P i (K i) := c2
      cases hq : K i with
      | none => rw [hq] at c2; show I' 8 i = 0; rw [h8 i e]; exact c2
      | some X =>
        rw [hq] at c2
        exact ⟨by rw [h8 i e]; exact c2.1, c2.2.pk hK (hI _ (by omega) (by omega)) (hI _ (by omega) (by omega)) (hI _ (by omega) (by omega)) (hR _ (by omega) (by omega)) (hR _ (by omega) (by omega))⟩
  · unfold bfC
    rw [hI 0 (by omega) (by omega), hI 9 (by omega) (by omega)]
    exact d
theorem kd_sn {P : Pool} {j : Nat} (hj : j < 2) : Kd P (60 + 5 * j) = 6 := by
  have h := kd_st (P := P) (6 + j) (by omega)
  rw [show 30 + 5 * (6 + j) = 60 + 5 * j by omega] at h
  exact h
theorem st_keep : ST_keep INV := by
  intro I R P Z nx x1 hI hF0 hF1
  obtain ⟨σ, hC, hM, hO⟩ := hI
  have hA := hO.1
  have hM0 := hM.t0 (x := 0)
  rcases a_rng x1 (n := 1) (by decide) with ⟨j, hj, rfl, e0, f0⟩ | ⟨e0, f0⟩
  rotate_left
  · have e0 : f_X8_requireRange x1 (1 : Int32) = some (.inr 1) := e0
    have f0 : f_X9_in x1 0 (1 : Int32) = some 0 := f0
    exact ⟨(1, I, R, P, Z), (0, up (up I 70 7 0) 70 7 1), by unfold f_L_keep f_X8_keep; simp [e0, sm_l, sm_r], by unfold f_X9_keep; simp [f0, f_X9_refuses], (show up (up I 70 7 0) 70 7 1 70 7 = 1 from up_eq _ _ _ _), fun h => absurd (show (1 : Int32) = 0 from h) (by decide), INV.ex hC hM hO⟩
  have e0 : f_X8_requireRange (nI j) (1 : Int32) = some (.inl ()) := e0
  have f0 : f_X9_in (nI j) 0 (1 : Int32) = some 1 := f0
  obtain ⟨N, S, K, B⟩ := σ
  have hj2 : j < 2 := by omega
  obtain ⟨I1, R1, g1, g2, g3, g4⟩ := k_take (p := 60 + 5 * j) hC.1 hA (by omega) (by omega) (by omega)
  have i0 : ∀ a, a < 60 + 5 * j ∨ 63 + 5 * j ≤ a → a ≠ 8 → up I1 8 j 1 a = I a := fun a h1 h2 => by rw [up_ne _ _ _ h2, g3 a (by omega)]
  have hC2 : CI (up I1 8 j 1) R1 P (N, S, fun i => if i = j then some N else K i, B) := hC.keep hj2 i0 (fun i hi => by rw [up_nk _ _ hi, g3 8 (by omega)]) (up_eq _ _ _ _) (fun a h1 h2 => g4 a (by omega) (by omega)) (g2.eqx (S := [8]) (Eqx.up (by decide)) (by decide) (by simp; omega) (by simp; omega) (by simp; omega))
  have h70 : ∀ a, 70 ≤ a → a < 85 → up I1 8 j 1 a = I a := fun a h1 h2 => i0 a (by omega) (by omega)
  have hM2 := (hM.cf h70).t0 (x := 0)
  have ar := k_allRows hC2.1
  obtain ⟨I3, f1, f2, f3, f4⟩ := r_lays (I := up (up I1 8 j 1) 70 7 0) (P := P) (a0 := 71) (a2 := 73) (s := 0) (t := 619 * j) (by decide) (by rw [ln71]; decide) (by rw [ln73]; omega) (by rw [ln71]; decide) (by rw [ln73]; decide)
  obtain ⟨I4, hI4⟩ : ∃ I4, I4 = up I3 74 j 1 := ⟨_, rfl⟩
  have k0 : ∀ a, a ≠ 73 → a ≠ 74 → I4 a = up (up I1 8 j 1) 70 7 0 a := fun a h1 h2 => by rw [hI4, up_ne _ _ _ h2, f2 a h1]
  have hM4 : MI I4 (N, S, fun i => if i = j then some N else K i, B) := by
    refine ⟨by rw [k0 71 (by decide) (by decide)]; exact hM2.1, ?_, fun i hi => ?_, ?_⟩
    · unfold svR; rw [k0 70 (by decide) (by decide), k0 72 (by decide) (by decide)]; exact hM2.2.1
    · show snR I4 i (if i = j then some N else K i)
      by_cases e : i = j
      · subst e
        rw [if_pos rfl]
        refine ⟨by rw [hI4, up_eq], hM2.1.cg hA (fun k hk => ?_)⟩
        have h7 := f3 k hk
        rw [hI4, up_ne _ _ _ (by decide), h7, Nat.zero_add]
      · rw [if_neg e]
        have c2 : snR (up (up I1 8 j 1) 70 7 0) i (K i) := hM2.2.2.1 i hi
        unfold snR at c2 ⊢
        cases hq : K i with
        | none =>
          rw [hq] at c2
          show I4 74 i = 0
          rw [hI4, up_nk _ _ e, f2 74 (by decide)]; exact c2
        | some X =>
          rw [hq] at c2
          refine ⟨by rw [hI4, up_nk _ _ e, f2 74 (by decide)]; exact c2.1, c2.2.cg (hO.2.2.1 i X hi hq) (fun k hk => ?_)⟩
          rw [hI4, up_ne _ _ _ (by decide), f4 _ (by omega)]
    · unfold bfR; rw [k0 70 (by decide) (by decide), k0 75 (by decide) (by decide)]; exact hM2.2.2.2
  have hO4 : GOk (N, S, fun i => if i = j then some N else K i, B) := ⟨hA, hO.2.1, fun i X hi hX => by
    have hX : (if i = j then some N else K i) = some X := hX
    by_cases e : i = j
    · rw [if_pos e] at hX; rw [← Option.some.inj hX]; exact hA
    · rw [if_neg e] at hX; exact hO.2.2.1 i X hi hX, hO.2.2.2⟩
  have hC4 : CI I4 R1 P (N, S, fun i => if i = j then some N else K i, B) := hC2.fr (fun a ha => by rw [k0 a (by omega) (by omega), up_ne _ _ _ (by omega)])
  have br := r_allRows hM4.1
  exact ⟨(0, up I1 8 j 1, R1, P, (vp_updL Z.1 0 (nI (N.1 0 + N.1 1)).toInt64, Z.2)), (nI (N.1 0 + N.1 1), I4), by unfold f_L_keep f_X8_keep; rw [e0]; simp only [Option.bind_some, sm_l]; rw [rdq_s j rfl hj2 (by decide) (hC.2.2.1 j hj2).1 (kd_sn hj2)]; simp only [Option.bind_some]; rw [g1]; simp only [Option.bind_some]; rw [wr_e j rfl hj2 (by decide)]; simp only [Option.bind_some]; rw [show vp_nar .boolean 1 = 1 from rfl, ar]; rfl, by unfold f_X9_keep; rw [f0]; simp only [Option.bind_some]; rw [if_neg (show ¬ (1 : Int32) = 0 by decide), show (619 : Int32) * nI j = nI (619 * j) from pk_mul 619 _, show f_X9_lays 71 0 73 (nI (619 * j)) P (up (up I1 8 j 1) 70 7 0) = some I3 from f1]; simp only [Option.bind_some]; rw [wr_e j rfl hj2 (by decide)]; simp only [Option.bind_some]; rw [show vp_nar .boolean 1 = 1 from rfl, ← hI4, br]; rfl, (show I4 70 7 = 0 by rw [k0 70 (by decide) (by decide), up_eq]), fun _ => upL0 Z.1 _, ⟨_, hC4, hM4, hO4⟩⟩
theorem st_goBack : ST_goBack INV := by
  intro I R P Z nx x1 hI hF0 hF1
  obtain ⟨σ, hC, hM, hO⟩ := hI
  have hA := hO.1
  have hM0 := hM.t0 (x := 0)
  rcases a_rng x1 (n := 1) (by decide) with ⟨j, hj, rfl, e0, f0⟩ | ⟨e0, f0⟩
  rotate_left
  · have e0 : f_X8_requireRange x1 (1 : Int32) = some (.inr 1) := e0
    have f0 : f_X9_in x1 0 (1 : Int32) = some 0 := f0
    exact ⟨(1, I, R, P, Z), (0, up (up I 70 7 0) 70 7 1), by unfold f_L_goBack f_X8_goBack; simp [e0, sm_l, sm_r], by unfold f_X9_goBack; simp [f0, f_X9_refuses], (show up (up I 70 7 0) 70 7 1 70 7 = 1 from up_eq _ _ _ _), fun h => absurd (show (1 : Int32) = 0 from h) (by decide), INV.ex hC hM hO⟩
  have e0 : f_X8_requireRange (nI j) (1 : Int32) = some (.inl ()) := e0
  have f0 : f_X9_in (nI j) 0 (1 : Int32) = some 1 := f0
  obtain ⟨N, S, K, B⟩ := σ
  have hj2 : j < 2 := by omega
  have hsnC : snC I R P j (K j) := (hC.2.2.1 j hj2).2
  have hsnR : snR (up I 70 7 0) j (K j) := hM0.2.2.1 j hj2
  cases hq : K j with
  | none =>
    rw [hq] at hsnC hsnR
    have c1 : rd I 8 2 (nI j) = some 0 := by rw [rd_e j rfl hj2 (by decide)]; exact congrArg some hsnC
    have c2 : rd (up I 70 7 0) 74 2 (nI j) = some 0 := by rw [rd_e j rfl hj2 (by decide)]; exact congrArg some hsnR
    exact ⟨(2, I, R, P, Z), (0, up (up I 70 7 0) 70 7 2), by unfold f_L_goBack f_X8_goBack; simp [e0, c1, sm_l, sm_r], by unfold f_X9_goBack; simp [f0, c2, f_X9_refuses], (show up (up I 70 7 0) 70 7 2 70 7 = 2 from up_eq _ _ _ _), fun h => absurd (show (2 : Int32) = 0 from h) (by decide), INV.ex hC hM hO⟩
  | some A =>
    rw [hq] at hsnC hsnR
    have c1 : rd I 8 2 (nI j) = some 1 := by rw [rd_e j rfl hj2 (by decide)]; exact congrArg some hsnC.1
    have hAA : AOk A := hO.2.2.1 j A hj2 hq
    obtain ⟨I1, R1, g1, g2, g3, g4, g5⟩ := k_save hC hA
    have hC1 : CI I1 R1 P (N, svd S N, K, B) := g2
    have hs1 : snC I1 R1 P j (K j) := (hC1.2.2.1 j hj2).2
    rw [hq] at hs1
    obtain ⟨I2, R2, t1, t2, t3, t4⟩ := k_take (p := 1) hs1.2 hAA (by omega) (by decide) (by omega)
    have hC2 : CI I2 R2 P (A, svd S N, K, B) := hC1.now (σ := (N, svd S N, K, B)) (fun a h1 h2 h3 _ => t3 a (by omega)) (fun a h1 h2 => t4 a (by omega) (by omega)) t2
    have h70 : ∀ a, 70 ≤ a → a < 85 → I2 a = I a := fun a h1 h2 => by rw [t3 a (by omega), g3 a (by omega) (by omega)]
    have hM2 := (hM.cf h70).t0 (x := 0)
    have hl6 : S.length ≤ 6 := hC.2.1.2.1
    obtain ⟨I3, s1, s2, s3, s4⟩ := r_save (P := P) hM2 hO hl6
    have s2 : MI I3 (N, svd S N, K, B) := s2
    have c2 : rd (up I2 70 7 0) 74 2 (nI j) = some 1 := by
      have h9 : snR (up I2 70 7 0) j (K j) := hM2.2.2.1 j hj2
      rw [hq] at h9
      rw [rd_e j rfl hj2 (by decide)]; exact congrArg some h9.1
    have h9 : snR I3 j (K j) := s2.2.2.1 j hj2
    rw [hq] at h9
    obtain ⟨I4, f1, f2, f3, f4⟩ := r_lays (I := I3) (P := P) (a0 := 73) (a2 := 71) (s := 619 * j) (t := 0) (by decide) (by rw [ln73]; omega) (by rw [ln71]; decide) (by rw [ln73]; decide) (by rw [ln71]; decide)
    have hN4 : RSt (I4 71) A := h9.2.cg hAA (fun k hk => by
      have h7 := f3 k hk
      rw [Nat.zero_add] at h7
      exact h7)
    have hM4 : MI I4 (A, svd S N, K, B) := s2.now (σ := (N, svd S N, K, B)) (by rw [f2 70 (by decide)]) (by rw [f2 70 (by decide)]) (fun a h1 h2 => f2 a (by omega)) hN4
    have hC4 : CI I4 R2 P (A, svd S N, K, B) := hC2.fr (fun a ha => by rw [f2 a (by omega), s3 a (by omega) (by omega), up_ne _ _ _ (by omega)])
    have hO4 : GOk (A, svd S N, K, B) := (hO.save).now hAA
    have ar := k_allRows hC2.1
    have br := r_allRows hM4.1
    exact ⟨(0, I2, R2, P, (vp_updL Z.1 0 (nI (A.1 0 + A.1 1)).toInt64, Z.2)), (nI (A.1 0 + A.1 1), I4), by unfold f_L_goBack f_X8_goBack; rw [e0]; simp only [Option.bind_some, sm_l]; rw [c1]; simp only [Option.bind_some]; rw [if_neg (show ¬ (1 : Int32) = 0 by decide), g1]; simp only [Option.bind_some]; rw [rdq_s j rfl hj2 (by decide) (hC1.2.2.1 j hj2).1 (kd_sn hj2)]; simp only [Option.bind_some]; rw [t1]; simp only [Option.bind_some]; rw [ar]; rfl, by unfold f_X9_goBack; rw [f0]; simp only [Option.bind_some]; rw [if_neg (show ¬ (1 : Int32) = 0 by decide), c2]; simp only [Option.bind_some]; rw [if_neg (show ¬ (1 : Int32) = 0 by decide), s1]; simp only [Option.bind_some]; rw [show (619 : Int32) * nI j = nI (619 * j) from pk_mul 619 _, show f_X9_lays 73 (nI (619 * j)) 71 0 P I3 = some I4 from f1]; simp only [Option.bind_some]; rw [br]; rfl, (show I4 70 7 = 0 by rw [f2 70 (by decide), s4 7 (by decide), up_eq]), fun _ => upL0 Z.1 _, ⟨_, hC4, hM4, hO4⟩⟩
theorem a_code (x : Int32) : (∃ j, 33 ≤ j ∧ j ≤ 126 ∧ x = nI j ∧ ¬ x < 33 ∧ x ≤ 126 ∧ f_X9_in x 33 126 = some 1) ∨ ((x < 33 ∨ ¬ x ≤ 126) ∧ f_X9_in x 33 126 = some 0) := by
  by_cases h1 : x < 33
  · exact Or.inr ⟨Or.inl h1, by unfold f_X9_in; rw [if_pos h1]⟩
  · by_cases h2 : x ≤ 126
    · obtain ⟨j, hj, rfl⟩ := nI_of (x := x) (fun h => h1 (by rw [fa_lt] at h ⊢; have m0 : (0 : Int32).toInt = 0 := rfl; have m33 : (33 : Int32).toInt = 33 := rfl; rw [m0] at h; rw [m33]; omega))
      have l1 : ¬ j < 33 := fun h => h1 (nI_lt (b := 33) h (by decide))
      have l2 : j ≤ 126 := by rw [show (126 : Int32) = nI 126 from rfl, nI_leI hj (by decide)] at h2; exact h2
      refine Or.inl ⟨j, by omega, l2, rfl, h1, h2, ?_⟩
      unfold f_X9_in
      rw [if_neg h1, if_neg (show ¬ (126 : Int32) < nI j from nI_nlt (a := 126) l2 (by decide))]
    · refine Or.inr ⟨Or.inr h2, ?_⟩
      unfold f_X9_in
      rw [if_neg h1, if_pos (show (126 : Int32) < x by rw [Int32.le_iff_toInt_le] at h2; rw [fa_lt]; omega)]
theorem st_append : ST_append INV := by
  intro I R P Z nx x1 hI hF0 hF1
  obtain ⟨⟨N, S, K, B⟩, hC, hM, hO⟩ := hI
  have hA := hO.1
  have hM0 := hM.t0 (x := 0)
  have b1 : I 0 6 = nI B.length := hC.2.2.2.1
  have b2 : B.length ≤ 60 := hC.2.2.2.2.1
  have b3 : up I 70 7 0 70 6 = nI B.length := hM0.2.2.2.1
  rcases a_code x1 with ⟨j, hj1, hj2, rfl, n1, n2, n3⟩ | ⟨n1, n3⟩
  rotate_left
  · have hcl : f_X8_append x1 I = some (.inr 1, I) := by
      unfold f_X8_append
      by_cases h : x1 < 33
      · rw [if_pos h]
      · rw [if_neg h, if_neg (n1.resolve_left h)]
    exact ⟨(1, I, R, P, Z), (0, up (up I 70 7 0) 70 7 1), by unfold f_L_append; simp [hcl, sm_r], by unfold f_X9_append; simp [n3, f_X9_refuses], (show up (up I 70 7 0) 70 7 1 70 7 = 1 from up_eq _ _ _ _), fun h => absurd (show (1 : Int32) = 0 from h) (by decide), INV.ex hC hM hO⟩
  · by_cases h60 : B.length = 60
    · have hcl : f_X8_append (nI j) I = some (.inr 2, I) := by
        unfold f_X8_append
        rw [if_neg n1, if_pos n2, b1, h60, if_neg (show ¬ nI 60 < 60 by decide)]
      exact ⟨(2, I, R, P, Z), (0, up (up I 70 7 0) 70 7 2), by unfold f_L_append; simp [hcl, sm_r], by unfold f_X9_append; rw [n3]; simp only [Option.bind_some]; rw [if_neg (show ¬ (1 : Int32) = 0 by decide), b3, h60, if_pos (show nI 60 = 60 from rfl)]; rfl, (show up (up I 70 7 0) 70 7 2 70 7 = 2 from up_eq _ _ _ _), fun h => absurd (show (2 : Int32) = 0 from h) (by decide), INV.ex hC hM hO⟩
    · have hl : B.length < 60 := by omega
      have e1 : vp_nar .char (((nI j).toUInt32 % 65536).toInt32) = nI j := by rw [chr_n (by omega)]; unfold vp_nar; rw [(pk_charN (show j < 65536 by omega)).1]
      obtain ⟨I1, hI1⟩ : ∃ I1, I1 = up (up I 9 B.length (nI j)) 0 6 (nI (B.length + 1)) := ⟨_, rfl⟩
      have hcl : f_X8_append (nI j) I = some (.inl (nI (B.length + 1)), I1) := by
        unfold f_X8_append
        rw [if_neg n1, if_pos n2, b1, if_pos (show nI B.length < 60 from nI_lt (b := 60) hl (by decide)), wr_e B.length rfl hl (by decide), e1]
        simp only [Option.bind_some]
        rw [up_ne _ _ _ (show 0 ≠ 9 by decide), b1, nI_1, up_eq, ← hI1]
      have hget : ∀ i x, (B ++ [j])[i]? = some x → (i < B.length ∧ B[i]? = some x) ∨ (i = B.length ∧ x = j) := fun i x hi => by
        by_cases hb : i < B.length
        · rw [List.getElem?_append_left hb] at hi; exact Or.inl ⟨hb, hi⟩
        · have hz := (List.getElem?_eq_some_iff.mp hi).1
          have : i = B.length := by simp at hz; omega
          subst this
          simp at hi
          exact Or.inr ⟨rfl, hi.symm⟩
      have hC1 : CI I1 R P (N, S, K, B ++ [j]) := by
        have hu : ∀ a, a ≠ 0 → a ≠ 9 → I1 a = I a := fun a h1 h2 => by rw [hI1, up_ne _ _ _ h1, up_ne _ _ _ h2]
        have hu0 : ∀ k, k ≠ 6 → I1 0 k = I 0 k := fun k hk => by rw [hI1, up_nk _ _ hk, up_ne _ _ _ (by decide)]
        obtain ⟨a, b, c, d⟩ := hC
        have hK : PK I R P I1 R P := fun a ha _ => ⟨hu a (by omega) (by omega), rfl, rfl, rfl⟩
        refine ⟨a.pk hK (hu _ (by decide) (by decide)) (hu _ (by decide) (by decide)) (hu _ (by decide) (by decide)) rfl rfl, b.pk hK (hu0 2 (by decide)) (fun _ _ => rfl) (fun a h1 h2 => hu a (by omega) (by omega)) (fun _ _ _ => rfl), fun i hi => ⟨(c i hi).1, (c i hi).2.pk hK (hu 8 (by decide) (by decide)) (fun k hk => hu _ (by omega) (by omega)) (fun k hk => rfl)⟩, ?_, ?_, fun i x hi => ?_⟩
        · rw [hI1, up_eq]; simp
        · show (B ++ [j]).length ≤ 60
          simp; omega
        · rw [hI1, up_ne _ _ _ (by decide)]
          rcases hget i x hi with ⟨h1, h2⟩ | ⟨h1, h2⟩
          · rw [up_nk _ _ (by omega)]; exact d.2.2 i x h2
          · rw [h1, h2, up_eq]
      have h70 : ∀ a, 70 ≤ a → a < 85 → I1 a = I a := fun a h1 h2 => by rw [hI1, up_ne _ _ _ (by omega), up_ne _ _ _ (by omega)]
      have hM1 := (hM.cf h70).t0 (x := 0)
      have b4 : up I1 70 7 0 70 6 = nI B.length := hM1.2.2.2.1
      obtain ⟨I2, hI2⟩ : ∃ I2, I2 = up (up (up I1 70 7 0) 75 B.length (nI j)) 70 6 (nI (B.length + 1)) := ⟨_, rfl⟩
      have hM2 : MI I2 (N, S, K, B ++ [j]) := by
        obtain ⟨a, b, c, d⟩ := hM1
        have hu : ∀ a, a ≠ 70 → a ≠ 75 → I2 a = up I1 70 7 0 a := fun a h1 h2 => by rw [hI2, up_ne _ _ _ h1, up_ne _ _ _ h2]
        refine ⟨by rw [hu 71 (by decide) (by decide)]; exact a, ?_, fun i hi => ?_, ?_, fun i x hi => ?_⟩
        · unfold svR; rw [hu 72 (by decide) (by decide), hI2, up_nk _ _ (by decide), up_ne _ _ _ (by decide)]; exact b
        · have c := c i hi
          unfold snR at c ⊢
          rw [hu 73 (by decide) (by decide), hu 74 (by decide) (by decide)]; exact c
        · rw [hI2, up_eq]; simp
        · rw [hI2, up_ne _ _ _ (by decide)]
          rcases hget i x hi with ⟨h1, h2⟩ | ⟨h1, h2⟩
          · rw [up_nk _ _ (by omega)]; exact d.2 i x h2
          · rw [h1, h2, up_eq]
      have hO2 : GOk (N, S, K, B ++ [j]) := ⟨hA, hO.2.1, hO.2.2.1, fun x hx => by
        rcases List.mem_append.mp hx with h | h
        · exact hO.2.2.2 x h
        · rw [List.mem_singleton.mp h]; exact ⟨hj1, hj2⟩⟩
      have hC2 : CI I2 R P (N, S, K, B ++ [j]) := hC1.fr (fun a ha => by rw [hI2, up_ne _ _ _ (by omega), up_ne _ _ _ (by omega), up_ne _ _ _ (by omega)])
      exact ⟨(0, I1, R, P, (vp_updL Z.1 0 (nI (B.length + 1)).toInt64, Z.2)), (nI (B.length + 1), I2), by unfold f_L_append; rw [hcl]; rfl, by unfold f_X9_append; rw [n3]; simp only [Option.bind_some]; rw [if_neg (show ¬ (1 : Int32) = 0 by decide), b4, if_neg (show ¬ nI B.length = 60 from fun h => by rw [show (60 : Int32) = nI 60 from rfl, nI_eq (by omega) (by decide)] at h; exact h60 h), wr_e B.length rfl hl (by decide)]; simp only [Option.bind_some]; rw [up_ne _ _ _ (show 70 ≠ 75 by decide), b4, nI_1, up_eq, ← hI2], (show I2 70 7 = 0 by rw [hI2, up_nk _ _ (by decide), up_ne _ _ _ (by decide), up_eq]), fun _ => upL0 Z.1 _, ⟨_, hC2, hM2, hO2⟩⟩
theorem st_clearBuffer : ST_clearBuffer INV := by
  intro I R P Z nx hI hF0 hF1
  obtain ⟨⟨N, S, K, B⟩, hC, hM, hO⟩ := hI
  have b1 : I 0 6 = nI B.length := hC.2.2.2.1
  have hC1 : CI (up I 0 6 0) R P (N, S, K, []) := by
    have hu : ∀ a, a ≠ 0 → up I 0 6 0 a = I a := fun a h1 => up_ne _ _ _ h1
    obtain ⟨a, b, c, d⟩ := hC
    have hK : PK I R P (up I 0 6 0) R P := fun a ha _ => ⟨hu a (by omega), rfl, rfl, rfl⟩
    exact ⟨a.pk hK (hu _ (by decide)) (hu _ (by decide)) (hu _ (by decide)) rfl rfl, b.pk hK (up_nk _ _ (by decide)) (fun _ _ => rfl) (fun a h1 h2 => hu a (by omega)) (fun _ _ _ => rfl), fun i hi => ⟨(c i hi).1, (c i hi).2.pk hK (hu 8 (by decide)) (fun k hk => hu _ (by omega)) (fun k hk => rfl)⟩, up_eq _ _ _ _, Nat.zero_le _, fun i x hi => by simp at hi⟩
  have h70 : ∀ a, 70 ≤ a → a < 85 → up I 0 6 0 a = I a := fun a h1 h2 => up_ne _ _ _ (by omega)
  have hM1 := (hM.cf h70).t0 (x := 0)
  have b4 : up (up I 0 6 0) 70 7 0 70 6 = nI B.length := hM1.2.2.2.1
  have hM2 : MI (up (up (up I 0 6 0) 70 7 0) 70 6 0) (N, S, K, []) := by
    obtain ⟨a, b, c, d⟩ := hM1
    have hu : ∀ a, a ≠ 70 → up (up (up I 0 6 0) 70 7 0) 70 6 0 a = up (up I 0 6 0) 70 7 0 a := fun a h1 => up_ne _ _ _ h1
    refine ⟨by rw [hu 71 (by decide)]; exact a, ?_, fun i hi => ?_, up_eq _ _ _ _, fun i x hi => by simp at hi⟩
    · unfold svR; rw [hu 72 (by decide), up_nk _ _ (by decide)]; exact b
    · have c := c i hi
      unfold snR at c ⊢
      rw [hu 73 (by decide), hu 74 (by decide)]; exact c
  have hC2 : CI (up (up (up I 0 6 0) 70 7 0) 70 6 0) R P (N, S, K, []) := hC1.fr (fun a ha => by rw [up_ne _ _ _ (by omega), up_ne _ _ _ (by omega)])
  refine ⟨(nI B.length, up I 0 6 0), (nI B.length, up (up (up I 0 6 0) 70 7 0) 70 6 0), by unfold f_X8_clearBuffer; rw [b1], ?_, rfl, ⟨(N, S, K, []), hC2, hM2, hO.1, hO.2.1, hO.2.2.1, fun x hx => absurd hx (by simp)⟩⟩
  unfold f_X9_clearBuffer
  rw [b4]
end MB10
