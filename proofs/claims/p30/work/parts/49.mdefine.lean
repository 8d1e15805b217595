/-! PURE PART 30: firstError, define. -/
section MB29
theorem PI_rev {f : Nat → Int32} : ∀ {L : List Int32}, PI f L → ∀ j x, L.reverse[j]? = some x → f j = x
  | [], _, j, x, h => by simp at h
  | y :: L, hP, j, x, h => by
    rw [List.reverse_cons] at h
    by_cases e : j < L.reverse.length
    · rw [List.getElem?_append_left e] at h
      exact PI_rev hP.2 j x h
    · have hl : L.reverse.length = L.length := List.length_reverse
      rw [List.getElem?_append_right (by omega)] at h
      have h0 := (List.getElem?_eq_some_iff.mp h).1
      have hz : j - L.reverse.length = 0 := by simp at h0; omega
      rw [hz] at h
      have hj : j = L.length := by omega
      rw [hj, hP.1]
      exact Option.some.inj h
theorem PI_revm {f : Nat → Int32} {g : Nat → Int32} {M : List Nat} (hP : PI f (M.map g)) (j x : Nat) (h : M.reverse[j]? = some x) : f j = g x :=
  PI_rev hP j (g x) (by rw [← List.map_reverse, List.getElem?_map, h]; rfl)
theorem CI.clr {I : Mem} {R : Rem} {P : Pool} {N : Abs} {S : List Abs} {K : Nat → Option Abs} {B : List Nat} (hC : CI I R P (N, S, K, B)) : CI (up I 0 6 0) R P (N, S, K, []) := by
  have hu : ∀ a, a ≠ 0 → up I 0 6 0 a = I a := fun a h1 => up_ne _ _ _ h1
  obtain ⟨a, b, c, d⟩ := hC
  have hK : PK I R P (up I 0 6 0) R P := fun a ha _ => ⟨hu a (by omega), rfl, rfl, rfl⟩
  exact ⟨a.pk hK (hu _ (by decide)) (hu _ (by decide)) (hu _ (by decide)) rfl rfl, b.pk hK (up_nk _ _ (by decide)) (fun _ _ => rfl) (fun a h1 h2 => hu a (by omega)) (fun _ _ _ => rfl), fun i hi => ⟨(c i hi).1, (c i hi).2.pk hK (hu 8 (by decide)) (fun k hk => hu _ (by omega)) (fun k hk => rfl)⟩, up_eq _ _ _ _, Nat.zero_le _, fun i x hi => by simp at hi⟩
theorem k_defn {I : Mem} {R : Rem} {P : Pool} {N : Abs} {S : List Abs} {X : Nat → Option Abs} {B : List Nat} {s n : Nat} {M : List Nat} (hC : CI I R P (N, S, X, B)) (hA : AOk N) (hs : s < 6) (hn : FR P n) (hf : FR P (n + 1)) (hM : PL I 20 (M.map enc)) (hl : M.length ≤ 60) (hne : M ≠ []) :
    ∃ I' R' P', ((f_X8_save P R I).bind fun q6 => (f_X4_steps (addP P n 2 0) q6.1 (n + 1)).bind fun q7 => q7.1.bind fun k8 => (f_X2_init n k8 q7.2.2 (nwR q6.2 n)).bind fun q9 => (wrq q9 4 6 (nI s) (some n)).bind fun R10 => (f_X2_size n q7.2.2 R10).bind fun q11 => some (.inl q11, up q7.2.1 0 6 0, R10, q7.2.2) : Option ((Int32 ⊕ Nat) × Mem × Rem × Pool)) = some (.inl (nI M.length), I', R', P') ∧ CI I' R' P' (setF N s M.reverse, svd S N, X, []) ∧ (∀ a, 70 ≤ a → a < 70 → I' a = I a) := by
  obtain ⟨I1, R1, g1, g2, g3, g4, g5⟩ := k_save hC hA
  have g2 : CI I1 R1 P (N, svd S N, X, B) := g2
  have hn85 := hn.1
  obtain ⟨m1, m2⟩ := hM
  rw [List.length_map] at m1
  have h20 : I1 20 1 = nI M.length := by rw [g3 20 (by decide) (by decide)]; exact m1
  have h21 : I1 21 = I 21 := g3 21 (by decide) (by decide)
  obtain ⟨J, hJ⟩ : ∃ J : Mem, J = fun b => if b = n + 1 then va_cpy (nwI I1 (n + 1) 21) (nwI I1 (n + 1) (n + 1)) 0 0 M.length else nwI I1 (n + 1) b := ⟨_, rfl⟩
  have n20 : nwI I1 (n + 1) 20 = I1 20 := by unfold nwI; rw [if_neg (by omega)]
  have n21 : nwI I1 (n + 1) 21 = I 21 := by unfold nwI; rw [if_neg (by omega), h21]
  have hroom := k_room (show M.length ≤ 64 by omega)
  have hst : f_X4_steps (addP P n 2 0) I1 (n + 1) = some (some (n + 1), J, addP (addP P n 2 0) (n + 1) 10 M.length) := by
    have ht : f_X3_toArray 20 (addP P n 2 0) I1 (n + 1) = some (some (n + 1), J, addP (addP P n 2 0) (n + 1) 10 M.length) := by
      unfold f_X3_toArray
      rw [h20, n20, h20, if_pos hroom.1, hroom.2, bs_b (cpy_e 0 0 M.length (show (0 : Int32) = nI 0 from rfl) (show (0 : Int32) = nI 0 from rfl) rfl (by omega) (by omega) (by decide) (by omega)), hJ]
    unfold f_X4_steps
    rw [bs_b ht]
  have hI : ∀ a, a ≠ n + 1 → J a = I1 a := fun a ha => by rw [hJ]; show (if a = n + 1 then _ else nwI I1 (n + 1) a) = _; rw [if_neg ha]; unfold nwI; rw [if_neg ha]
  have hMM : ∀ j x, M.reverse[j]? = some x → J (n + 1) j = enc x := fun j x hj => by
    have hlt : j < M.length := by have := (List.getElem?_eq_some_iff.mp hj).1; rw [List.length_reverse] at this; exact this
    rw [hJ]
    show (if n + 1 = n + 1 then va_cpy (nwI I1 (n + 1) 21) (nwI I1 (n + 1) (n + 1)) 0 0 M.length else nwI I1 (n + 1) (n + 1)) j = enc x
    rw [if_pos rfl]
    unfold va_cpy
    rw [if_pos (by omega), show 0 + (j - 0) = j by omega, n21]
    exact PI_revm m2 j x hj
  obtain ⟨c1, c2⟩ := k_newf2 (n := n + 1) (f := n) (M := M.reverse) g2 hf hn (by omega) hI hMM
  rw [List.length_reverse] at c1 c2
  obtain ⟨P2, hP2⟩ : ∃ P2, P2 = addP (addP P n 2 0) (n + 1) 10 M.length := ⟨_, rfl⟩
  rw [← hP2] at c1 c2 hst
  obtain ⟨R3, hR3⟩ : ∃ R3, R3 = R2 R1 n (n + 1) := ⟨_, rfl⟩
  rw [← hR3] at c1 c2
  have hK : PK J R3 P2 J (upR R3 4 s (some n)) P2 := fun a ha _ => ⟨rfl, upR_ne _ _ _ (by omega), rfl, rfl⟩
  have hsz := k_size (c2.pk hK)
  rw [List.length_reverse] at hsz
  have hnr : M.reverse ≠ [] := fun e => hne (by rw [← List.reverse_reverse M, e]; rfl)
  have hCI : CI J (upR R3 4 s (some n)) P2 (setF N s M.reverse, svd S N, X, B) := c1.now (σ := (N, svd S N, X, B)) (fun _ _ _ _ _ => rfl) (fun a h4 _ => upR_ne _ _ _ h4) (c1.1.set4 hs ⟨hnr, c2⟩)
  refine ⟨up J 0 6 0, upR R3 4 s (some n), P2, ?_, hCI.clr, fun a h1 h2 => by rw [up_ne _ _ _ (by omega), hI a (by omega), g3 a (by omega) (by omega)]⟩
  rw [bs_b g1, bs_b hst, bs_b rfl, bs_b (show f_X2_init n (n + 1) P2 (nwR R1 n) = some R3 by rw [hR3]; rfl), bs_b (wrq_e s rfl hs (by decide)), bs_b hsz]
/-- what a good text leaves -/
theorem p_good {p : PS} {i : Nat} (hP : PV p i) (hi : i ≤ 60) (h1 : (stl p).1 = 4) (h2 : (stl p).2.1 = 0) : fV (rel 1 (stl p).2.2.1 (stl p).2.2.2.1).2.reverse ∧ (rel 1 (stl p).2.2.1 (stl p).2.2.2.1).2.length ≤ 59 ∧ (rel 1 (stl p).2.2.1 (stl p).2.2.2.1).2 ≠ [] := by
  have hP2 := PV_stl hP
  rcases hq : stl p with ⟨m, op, W, M, c, s, v⟩
  rw [hq] at hP2 h1 h2
  have h1 : m = 4 := h1
  have h2 : op = 0 := h2
  subst h1; subst h2
  obtain ⟨a1, a2, a3, a4, a5, a6, a7, a8, a9, a10⟩ := hP2
  have a2 : 0 = n4 W := a2
  have a3 : okS 2 W := a3
  have a4 : wnr M (nbW W + if 4 = 4 then 1 else 0) := a4
  rw [if_pos rfl] at a4
  have a5 : ∀ t ∈ M, vC t := a5
  have a9 : M.length + W.length + 1 ≤ i := a9
  have a10 : fW M + wtW W + 1 ≤ 2 * i + 1 := a10
  show fV (rel 1 W M).2.reverse ∧ (rel 1 W M).2.length ≤ 59 ∧ (rel 1 W M).2 ≠ []
  have b1 := rel_len 1 W M
  have b2 := rel_wt (Nat.le_refl 1) W M
  have b3 := rel_n4 (Nat.le_refl 1) W M
  have b4 := rel_wnr (Nat.le_refl 1) W M a4
  have b5 := rel_vC (l := 1) W M a5
  have hnil : (rel 1 W M).1 = [] := by
    rcases rel1_sh W M a3 with b | ⟨W', b, -⟩
    · exact b
    · rw [b, n4_c, if_pos rfl] at b3
      omega
  rw [hnil] at b1 b2 b4
  have b1 : 0 + (rel 1 W M).2.length = W.length + M.length := b1
  have b2 : fW (rel 1 W M).2 + 0 = fW M + wtW W := b2
  have b4 : wnr (rel 1 W M).2 1 := b4
  refine ⟨⟨fun t ht => b5 t (List.mem_reverse.mp ht), ?_, by rw [List.length_reverse]; omega, by rw [fW_rev]; omega⟩, by omega, fun e => ?_⟩
  · have := wnr_wd (rel 1 W M).2 1 [] b4 rfl
    rw [List.append_nil] at this
    exact this
  · rw [e] at b4
    exact absurd (show (1 : Nat) = 0 from b4) (by decide)
theorem g_bk {σ : Gst} {I : Mem} (hb : bfC I σ.2.2.2) (hO : GOk σ) : BK σ.2.2.2 := ⟨hb.2.1, fun x hx => by have := hO.2.2.2 x hx; omega⟩
end MB29
