/-! PURE PART 23: new filters on both sides. -/
section MB22
theorem wd_app : ∀ (L1 : List Nat) (d k : Nat) (L2 : List Nat), wd L1 d → wd L2 (1 + k) → wd (L1 ++ L2) (d + k)
  | [], d, k, L2, h1, h2 => by
    have h1 : d = 1 := h1
    rw [h1]; exact h2
  | t :: L, d, k, L2, h1, h2 => by
    show wd (t :: (L ++ L2)) (d + k)
    unfold wd at h1 ⊢
    by_cases e0 : t = 0
    · rw [if_pos e0] at h1 ⊢
      exact ⟨by omega, wd_app L d k L2 h1.2 h2⟩
    · rw [if_neg e0] at h1 ⊢
      by_cases e1 : t < 3
      · rw [if_pos e1] at h1 ⊢
        have := wd_app L (d - 1) k L2 h1.2 h2
        rw [show d - 1 + k = d + k - 1 by omega] at this
        exact ⟨by omega, this⟩
      · rw [if_neg e1] at h1 ⊢
        have := wd_app L (d + 1) k L2 h1 h2
        rw [show d + 1 + k = d + k + 1 by omega] at this
        exact this
theorem tl_4 (t : Nat) : tl t ≤ 4 := by unfold tl; split <;> (try split) <;> (try split) <;> omega
theorem fW_wd : ∀ (L : List Nat) (d : Nat), wd L d → 2 * fW L + d ≤ 7 * L.length + 1
  | [], d, h => by
    have h : d = 1 := h
    rw [h]; decide
  | t :: L, d, h => by
    have h4 := tl_4 t
    show 2 * ((if t = 0 then 1 else if t < 3 then 3 else tl t) + fW L) + d ≤ 7 * (L.length + 1) + 1
    unfold wd at h
    by_cases e0 : t = 0
    · rw [if_pos e0] at h ⊢
      have := fW_wd L d h.2
      omega
    · rw [if_neg e0] at h ⊢
      by_cases e1 : t < 3
      · rw [if_pos e1] at h ⊢
        have := fW_wd L (d - 1) h.2
        omega
      · rw [if_neg e1] at h ⊢
        have := fW_wd L (d + 1) h
        omega
theorem fV_small {L : List Nat} (hc : ∀ t ∈ L, vC t) (hw : wd L 0) (hl : L.length ≤ 40) : fV L := ⟨hc, hw, by omega, by have := fW_wd L 0 hw; omega⟩
theorem fV_neg {L : List Nat} (h : fV L) (hl : L.length + 1 ≤ 40) : fV (L ++ [0]) := by
  refine fV_small (fun t ht => ?_) (wd_app L 0 0 [0] h.2.1 (show 1 ≤ 1 + 0 ∧ 1 + 0 = 1 from ⟨by decide, by decide⟩)) (by simp; omega)
  rcases List.mem_append.mp ht with h1 | h1
  · exact h.1 t h1
  · rw [List.mem_singleton.mp h1]; exact Or.inl (by decide)
theorem fV_join {L M : List Nat} {j : Nat} (h : fV L) (h2 : fV M) (hj : j = 1 ∨ j = 2) (hl : L.length + M.length + 1 ≤ 40) : fV (L ++ (M ++ [j])) := by
  refine fV_small (fun t ht => ?_) (wd_app L 0 0 (M ++ [j]) h.2.1 (wd_app M 0 1 [j] h2.2.1 ?_)) (by simp; omega)
  · rcases List.mem_append.mp ht with h1 | h1
    · exact h.1 t h1
    · rcases List.mem_append.mp h1 with h3 | h3
      · exact h2.1 t h3
      · rw [List.mem_singleton.mp h3]; exact Or.inl (by omega)
  · rcases hj with rfl | rfl
    · exact (show 2 ≤ 1 + 1 ∧ 1 + 1 - 1 = 1 from ⟨by decide, by decide⟩)
    · exact (show 2 ≤ 1 + 1 ∧ 1 + 1 - 1 = 1 from ⟨by decide, by decide⟩)
/-! the class: new objects -/
theorem CI.pool {I I' : Mem} {R R' : Rem} {P P' : Pool} {σ : Gst} (h : CI I R P σ) (hK : PK I R P I' R' P') (hI : ∀ a, a < 70 → I' a = I a) (hR : ∀ a, a < 70 → R' a = R a) : CI I' R' P' σ :=
  h.nowP hK (fun a _ _ _ h => hI a (by omega)) (fun a _ _ h => hR a h) (h.1.pk hK (hI _ (by decide)) (hI _ (by decide)) (hI _ (by decide)) (hR _ (by decide)) (hR _ (by decide)))
theorem PK.ad {I I' : Mem} {R : Rem} {P : Pool} {n q len : Nat} (hf : FR P n) (hI : ∀ a, a ≠ n → I' a = I a) : PK I R P I' R (addP P n q len) := fun a ha hk => by
  have hne : a ≠ n := fun e => hk (by rw [e]; exact kd_fr hf)
  exact ⟨hI a hne, rfl, kd_ad hk hf rfl, ln_ad hf rfl hk⟩
def R2 (R : Rem) (n a : Nat) : Rem := upR (nwR R n) n 0 (some a)
theorem R2_ne {R : Rem} {n a b : Nat} (h : b ≠ n) : R2 R n a b = R b := by unfold R2 nwR; rw [upR_ne _ _ _ h]; simp [h]
theorem R2_eq {R : Rem} {n a : Nat} : R2 R n a n 0 = some a := by unfold R2; rw [upR_eq]
/-- a new row of ints at n with the codes of M, and a new filter f over it -/
theorem k_newf {I I' : Mem} {R : Rem} {P : Pool} {σ : Gst} {n f : Nat} {M : List Nat} (hC : CI I R P σ) (hn : FR P n) (hf : FR P f) (hnf : f ≠ n) (hI : ∀ a, a ≠ n → I' a = I a) (hM : ∀ j x, M[j]? = some x → I' n j = enc x) :
    CI I' (R2 R f n) (addP (addP P n 10 M.length) f 2 0) σ ∧ FObj I' (R2 R f n) (addP (addP P n 10 M.length) f 2 0) f M := by
  have hf1 : FR (addP P n 10 M.length) f := fr_ad hf hnf
  have hK : PK I R P I' (R2 R f n) (addP (addP P n 10 M.length) f 2 0) := fun a ha hk => by
    have hne : a ≠ n := fun e => hk (by rw [e]; exact kd_fr hn)
    have hne2 : a ≠ f := fun e => hk (by rw [e]; exact kd_fr hf)
    have k1 : Kd (addP P n 10 M.length) a = Kd P a := kd_ad hk hn rfl
    exact ⟨hI a hne, R2_ne hne2, kd_ad hk hf1 k1, by rw [ln_ad hf1 k1 hk, ln_ad hn rfl hk]⟩
  have hn85 := hn.1
  have hf85 := hf.1
  have k10 : Kd (addP P n 10 M.length) n = 10 := kd_nw hn
  refine ⟨hC.pool hK (fun a ha => hI a (by omega)) (fun a ha => R2_ne (by omega)), hf85, kd_nw hf1, n, R2_eq, hn85, kd_ad (by decide) hf1 k10, by rw [ln_ad hf1 k10 (by decide), ln_nw hn], hM⟩
theorem k_newf2 {I I' : Mem} {R : Rem} {P : Pool} {σ : Gst} {n f : Nat} {M : List Nat} (hC : CI I R P σ) (hn : FR P n) (hf : FR P f) (hnf : n ≠ f) (hI : ∀ a, a ≠ n → I' a = I a) (hM : ∀ j x, M[j]? = some x → I' n j = enc x) :
    CI I' (R2 R f n) (addP (addP P f 2 0) n 10 M.length) σ ∧ FObj I' (R2 R f n) (addP (addP P f 2 0) n 10 M.length) f M := by
  have hn1 : FR (addP P f 2 0) n := fr_ad hn hnf
  have hK : PK I R P I' (R2 R f n) (addP (addP P f 2 0) n 10 M.length) := fun a ha hk => by
    have hne : a ≠ n := fun e => hk (by rw [e]; exact kd_fr hn)
    have hne2 : a ≠ f := fun e => hk (by rw [e]; exact kd_fr hf)
    have k1 : Kd (addP P f 2 0) a = Kd P a := kd_ad hk hf rfl
    exact ⟨hI a hne, R2_ne hne2, kd_ad hk hn1 k1, by rw [ln_ad hn1 k1 hk, ln_ad hf rfl hk]⟩
  have hn85 := hn.1
  have hf85 := hf.1
  have k2 : Kd (addP P f 2 0) f = 2 := kd_nw hf
  refine ⟨hC.pool hK (fun a ha => hI a (by omega)) (fun a ha => R2_ne (by omega)), hf85, kd_ad (by decide) hn1 k2, n, R2_eq, hn85, kd_nw hn1, ln_nw hn1, hM⟩
theorem k_copy {I : Mem} {R : Rem} {P : Pool} {k n a s : Nat} {L : List Nat} (hR : R k 0 = some a) (hK : Kd P a = 10) (hLn : Ln P a = L.length) (hs : s + L.length ≤ Ln P n) (h64 : Ln P n ≤ 64) : ∃ I', f_X2_copySteps k n (nI s) P R I = some I' ∧ (∀ b, b ≠ n → I' b = I b) ∧ (∀ j, j < L.length → I' n (s + j) = I a j) ∧ (∀ j, j < s → I' n j = I n j) := by
  refine ⟨fun b => if b = n then va_cpy (I a) (I n) 0 s L.length else I b, ?_, fun b hb => if_neg hb, fun j hj => ?_, fun j hj => ?_⟩
  · unfold f_X2_copySteps
    rw [if_neg (nI_pos (show s < 2 ^ 31 by omega)), bs_b (rdn_e hR hK), if_neg (show ¬ Int32.ofNat (Ln P n) < nI s + Int32.ofNat (Ln P a) from by rw [hLn, show nI s + Int32.ofNat L.length = nI (s + L.length) from nI_add s _]; exact nI_nlt hs (by omega)), bs_b (rdn_e hR hK), bs_b (rdn_e hR hK), bs_b (cpy_e 0 s L.length (show (0 : Int32) = nI 0 from rfl) rfl (by rw [hLn]; rfl) (by omega) (by omega) (by omega) (by omega))]
  · show (if n = n then va_cpy (I a) (I n) 0 s L.length else I n) (s + j) = I a j
    rw [if_pos rfl]
    unfold va_cpy
    rw [if_pos (by omega), show 0 + (s + j - s) = j by omega]
  · show (if n = n then va_cpy (I a) (I n) 0 s L.length else I n) j = I n j
    rw [if_pos rfl]
    unfold va_cpy
    rw [if_neg (by omega)]
theorem k_room {n : Nat} (hn : n ≤ 64) : (¬ nI n < 0 ∧ (nI n).toNatClampNeg ≤ 64) ∧ (nI n).toNatClampNeg = n := by
  rw [nI_clamp (by omega)]
  exact ⟨⟨nI_pos (by omega), hn⟩, rfl⟩
theorem k_req40 {n : Nat} (hn : n < 1000) : f_X8_requireCombinedSize (nI n) = if n ≤ 40 then some (.inl ()) else some (.inr 2) := by
  unfold f_X8_requireCombinedSize
  by_cases h : n ≤ 40
  · rw [if_pos h, if_pos (show nI n ≤ 40 from nI_le (b := 40) h (by decide))]
  · rw [if_neg h, if_neg (show ¬ nI n ≤ 40 from nI_ge (a := 40) (by omega) (by omega))]
theorem get_app1 {L : List Nat} {z j x : Nat} (h : (L ++ [z])[j]? = some x) : (j < L.length ∧ L[j]? = some x) ∨ (j = L.length ∧ x = z) := by
  by_cases e : j < L.length
  · rw [List.getElem?_append_left e] at h; exact Or.inl ⟨e, h⟩
  · rw [List.getElem?_append_right (by omega)] at h
    have h0 := (List.getElem?_eq_some_iff.mp h).1
    have hz : j - L.length = 0 := by simp at h0; omega
    rw [hz] at h
    exact Or.inr ⟨by omega, (Option.some.inj h).symm⟩
theorem k_neg {I : Mem} {R : Rem} {P : Pool} {σ : Gst} {n k : Nat} {L : List Nat} (hC : CI I R P σ) (hF : FObj I R P k L) (hl : L.length + 1 ≤ 40) (hn : FR P n) (hf : FR P (n + 1)) :
    ∃ I' R' P', f_X8_negationOf (some k) P R I n = some (.inl (some (n + 1)), I', R', P') ∧ CI I' R' P' σ ∧ FObj I' R' P' (n + 1) (L ++ [0]) ∧ (∀ a, a < 70 → I' a = I a) := by
  obtain ⟨a, h3, h4, h5, h6, h7⟩ := hF.2.2
  have hsz := k_size hF
  have hane : a ≠ n := fun e => by rw [e, kd_fr hn] at h5; exact absurd h5 (by decide)
  have hn85 := hn.1
  obtain ⟨I2, c1, c2, c3, c4⟩ := k_copy (I := nwI I n) (R := R) (P := addP P n 10 (L.length + 1)) (k := k) (n := n) (a := a) (s := 0) (L := L) h3 (kd_ad (by decide) hn h5) (by rw [ln_ad hn h5 (by decide)]; exact h6) (by rw [ln_nw hn]; omega) (by rw [ln_nw hn]; omega)
  obtain ⟨I3, hI3⟩ : ∃ I3, I3 = up I2 n L.length 33 := ⟨_, rfl⟩
  have hI : ∀ b, b ≠ n → I3 b = I b := fun b hb => by rw [hI3, up_ne _ _ _ hb, c2 b hb]; unfold nwI; rw [if_neg hb]
  have hM : ∀ j x, (L ++ [0])[j]? = some x → I3 n j = enc x := fun j x hj => by
    rcases get_app1 hj with ⟨e1, e2⟩ | ⟨e1, e2⟩
    · rw [hI3, up_nk _ _ (by omega)]
      have := c3 j e1
      rw [Nat.zero_add] at this
      rw [this]; unfold nwI; rw [if_neg hane]; exact h7 j x e2
    · rw [e1, e2, hI3, up_eq]; rfl
  obtain ⟨g1, g2⟩ := k_newf hC hn hf (by omega) hI hM
  have hlen : (L ++ [0]).length = L.length + 1 := by simp
  rw [hlen] at g1 g2
  refine ⟨I3, _, _, ?_, g1, g2, fun b hb => hI b (by omega)⟩
  have hroom := k_room (show L.length + 1 ≤ 64 by omega)
  unfold f_X8_negationOf
  rw [bs_b rfl, bs_b hsz, nI_1, bs_l (show f_X8_requireCombinedSize (nI (L.length + 1)) = some (.inl ()) by rw [k_req40 (by omega), if_pos hl]), if_pos hroom.1, hroom.2, bs_b rfl, bs_b (show f_X2_copySteps k n 0 (addP P n 10 (L.length + 1)) R (nwI I n) = some I2 from c1), bs_b (show f_X7_joint 33 = some 33 from rfl), nI_pred, bs_b (wr_e L.length rfl (by omega) (by omega)), ← hI3, bs_b (show f_X2_init (n + 1) n _ (nwR R (n + 1)) = some (R2 R (n + 1) n) from rfl)]
theorem k_neg0 {I : Mem} {R : Rem} {P : Pool} {n k : Nat} {L : List Nat} (hF : FObj I R P k L) (hV : fV L) (hl : ¬ L.length + 1 ≤ 40) : f_X8_negationOf (some k) P R I n = some (.inr 2, I, R, P) := by
  have hsz := k_size hF
  have := hV.2.2.1
  unfold f_X8_negationOf
  rw [bs_b rfl, bs_b hsz, nI_1, bs_r (show f_X8_requireCombinedSize (nI (L.length + 1)) = some (.inr 2) by rw [k_req40 (by omega), if_neg hl])]
theorem k_join {I : Mem} {R : Rem} {P : Pool} {σ : Gst} {n k k2 j : Nat} {x : Int32} {L M : List Nat} (hC : CI I R P σ) (hF : FObj I R P k L) (hF2 : FObj I R P k2 M) (hl : L.length + M.length + 1 ≤ 40) (hn : FR P n) (hf : FR P (n + 1)) (hx : x = enc j) :
    ∃ I' R' P', f_X8_joinOf (some k) (some k2) x P R I n = some (.inl (some (n + 1)), I', R', P') ∧ CI I' R' P' σ ∧ FObj I' R' P' (n + 1) (L ++ (M ++ [j])) ∧ (∀ a, a < 70 → I' a = I a) := by
  obtain ⟨a, h3, h4, h5, h6, h7⟩ := hF.2.2
  obtain ⟨b, i3, i4, i5, i6, i7⟩ := hF2.2.2
  have hsz := k_size hF
  have hsz2 := k_size hF2
  have hane : a ≠ n := fun e => by rw [e, kd_fr hn] at h5; exact absurd h5 (by decide)
  have hbne : b ≠ n := fun e => by rw [e, kd_fr hn] at i5; exact absurd i5 (by decide)
  have hn85 := hn.1
  obtain ⟨I2, c1, c2, c3, c4⟩ := k_copy (I := nwI I n) (R := R) (P := addP P n 10 (L.length + M.length + 1)) (k := k) (n := n) (a := a) (s := 0) (L := L) h3 (kd_ad (by decide) hn h5) (by rw [ln_ad hn h5 (by decide)]; exact h6) (by rw [ln_nw hn]; omega) (by rw [ln_nw hn]; omega)
  obtain ⟨I4, d1, d2, d3, d4⟩ := k_copy (I := I2) (R := R) (P := addP P n 10 (L.length + M.length + 1)) (k := k2) (n := n) (a := b) (s := L.length) (L := M) i3 (kd_ad (by decide) hn i5) (by rw [ln_ad hn i5 (by decide)]; exact i6) (by rw [ln_nw hn]; omega) (by rw [ln_nw hn]; omega)
  obtain ⟨I3, hI3⟩ : ∃ I3, I3 = up I4 n (L.length + M.length) x := ⟨_, rfl⟩
  have hI : ∀ b, b ≠ n → I3 b = I b := fun b hb => by rw [hI3, up_ne _ _ _ hb, d2 b hb, c2 b hb]; unfold nwI; rw [if_neg hb]
  have hM : ∀ i z, (L ++ (M ++ [j]))[i]? = some z → I3 n i = enc z := fun i z hi => by
    by_cases e : i < L.length
    · rw [List.getElem?_append_left e] at hi
      rw [hI3, up_nk _ _ (by omega), d4 i e]
      have := c3 i e
      rw [Nat.zero_add] at this
      rw [this]; unfold nwI; rw [if_neg hane]; exact h7 i z hi
    · rw [List.getElem?_append_right (by omega)] at hi
      rcases get_app1 hi with ⟨e1, e2⟩ | ⟨e1, e2⟩
      · rw [hI3, up_nk _ _ (by omega)]
        have := d3 (i - L.length) e1
        rw [show L.length + (i - L.length) = i by omega] at this
        rw [this, c2 b hbne]; unfold nwI; rw [if_neg hbne]; exact i7 _ z e2
      · rw [show i = L.length + M.length by omega, e2, hI3, up_eq, hx]
  obtain ⟨g1, g2⟩ := k_newf hC hn hf (by omega) hI hM
  have hlen : (L ++ (M ++ [j])).length = L.length + M.length + 1 := by simp; omega
  rw [hlen] at g1 g2
  refine ⟨I3, _, _, ?_, g1, g2, fun b hb => hI b (by omega)⟩
  have hroom := k_room (show L.length + M.length + 1 ≤ 64 by omega)
  have hK1 : PK I R P (nwI I n) R (addP P n 10 (L.length + M.length + 1)) := PK.ad hn (fun b hb => by unfold nwI; rw [if_neg hb])
  unfold f_X8_joinOf
  rw [bs_b rfl, bs_b hsz, bs_b rfl, bs_b hsz2, nI_add, nI_1, bs_l (show f_X8_requireCombinedSize (nI (L.length + M.length + 1)) = some (.inl ()) by rw [k_req40 (by omega), if_pos hl]), if_pos hroom.1, hroom.2, bs_b rfl, bs_b (show f_X2_copySteps k n 0 (addP P n 10 (L.length + M.length + 1)) R (nwI I n) = some I2 from c1), bs_b rfl, bs_b (k_size (hF.pk hK1)), bs_b rfl, bs_b d1, bs_b (show f_X7_joint x = some x from rfl), nI_pred, bs_b (wr_e (L.length + M.length) rfl (by omega) (by omega)), ← hI3, bs_b (show f_X2_init (n + 1) n _ (nwR R (n + 1)) = some (R2 R (n + 1) n) from rfl)]
theorem k_join0 {I : Mem} {R : Rem} {P : Pool} {n k k2 : Nat} {x : Int32} {L M : List Nat} (hF : FObj I R P k L) (hV : fV L) (hF2 : FObj I R P k2 M) (hV2 : fV M) (hl : ¬ L.length + M.length + 1 ≤ 40) : f_X8_joinOf (some k) (some k2) x P R I n = some (.inr 2, I, R, P) := by
  have hsz := k_size hF
  have hsz2 := k_size hF2
  have := hV.2.2.1
  have := hV2.2.2.1
  unfold f_X8_joinOf
  rw [bs_b rfl, bs_b hsz, bs_b rfl, bs_b hsz2, nI_add, nI_1, bs_r (show f_X8_requireCombinedSize (nI (L.length + M.length + 1)) = some (.inr 2) by rw [k_req40 (by omega), if_neg hl])]
theorem CSt.set4 {I : Mem} {R : Rem} {P : Pool} {A : Abs} {s : Nat} {ob : Option Nat} {L : List Nat} (h : CSt I R P 1 A) (hs : s < 6) (hF : FOp I R P ob L) : CSt I (upR R 4 s ob) P 1 (setF A s L) := by
  have hK : PK I R P I (upR R 4 s ob) P := fun a ha _ => ⟨rfl, upR_ne _ _ _ (by omega), rfl, rfl⟩
  refine ⟨h.1, h.2.1, fun s' hs' => ?_, fun t' ht' => ?_, h.2.2.2.2⟩
  · show FOp I (upR R 4 s ob) P (upR R 4 s ob 4 s') (if s' = s then L else A.2.2.1 s')
    by_cases e : s' = s
    · rw [if_pos e, e, upR_eq]
      exact hF.pk hK
    · rw [if_neg e, upR_nk _ _ e]
      exact (h.2.2.1 s' hs').pk hK
  · show FOp I (upR R 4 s ob) P (upR R 4 s ob 5 t') (if 6 + t' = s then L else A.2.2.1 (6 + t'))
    rw [if_neg (by omega), upR_ne _ _ _ (show 5 ≠ 4 by decide)]
    exact (h.2.2.2.1 t' ht').pk hK
/-! the reference: what has been made -/
def MK (I : Mem) (M : List Nat) : Prop := I 70 13 = nI M.length ∧ ∀ j x, M[j]? = some x → I 79 j = nI x
def K13 (I I' : Mem) : Prop := ∀ j, j ≠ 13 → I' 70 j = I 70 j
theorem K13.tr {I I1 I2 : Mem} (h : K13 I I1) (h2 : K13 I1 I2) : K13 I I2 := fun j hj => (h2 j hj).trans (h j hj)
end MB22
