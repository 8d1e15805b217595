/-! PURE PART 17: drop, remove, the calls. -/
section MB16
theorem lft_c {b : Nat → Bool} {N m : Nat} : ∀ d, (∀ k, m ≤ k → k < m + d → b k = false) → lft b N (m + d) = lft b N m
  | 0, _ => rfl
  | d + 1, h => by rw [← lft_c d (fun k h1 h2 => h k h1 (by omega))]; exact lft_s2 (Or.inl (h (m + d) (by omega) (by omega)))
def b1 (r : Nat) : Int32 := (1 : Int32) <<< (nI r &&& 31)
theorem kp_one {N r : Nat} (hN : N ≤ 16) (hr : r < N) : kp (hb (b1 r)) N = (List.range N).eraseIdx r := by
  have hbk : ∀ k, k < 32 → hb (b1 r) k = decide (k = r) := fun k hk => hb_one (by omega) hk
  have h1 := lft_c (b := hb (b1 r)) (N := N) (m := 0) r (fun k _ h2 => by rw [hbk k (by omega)]; exact decide_eq_false (by omega))
  have h2 := lft_c (b := hb (b1 r)) (N := N) (m := r + 1) (15 - r) (fun k h2 h3 => by rw [hbk k (by omega)]; exact decide_eq_false (by omega))
  obtain ⟨s1, s2⟩ := lft_s1 (b := hb (b1 r)) hr (by rw [hbk r (by omega)]; exact decide_eq_true rfl)
  rw [lft_16 _ (show N ≤ r + 1 + (15 - r) by omega)] at h2
  rw [Nat.zero_add] at h1
  rw [← lft_0, ← h1, ← s2, ← h2]
def dropA (A : Abs) (t r : Nat) : Abs := srcA A t (kp (hb (b1 r)) (A.1 t))
def dropV (A : Abs) (t r : Nat) : Int32 := nI (kp (hb (b1 r)) (A.1 t)).length
theorem srcA_n (A : Abs) (t : Nat) (l : List Nat) : (srcA A t l).1 t = l.length := if_pos rfl
theorem kp_ok {A : Abs} {t : Nat} (hA : AOk A) (ht : t < 2) (b : Nat → Bool) : AOk (srcA A t (kp b (A.1 t))) := srcA_ok hA ht (Nat.le_trans (kp_le _ _) (hA.1 t ht)) (fun x hx => kp_lt hx)
theorem k_drop {I : Mem} {R : Rem} {P : Pool} {N : Abs} {S : List Abs} {X : (Nat → Option Abs) × List Nat} {t r : Nat} (hC : CI I R P (N, S, X)) (hA : AOk N) (ht : t < 2) (e0 : f_X8_requireRow (nI t) (nI r) I = some (.inl ())) :
    ∃ I' R', f_X8_drop (nI t) (nI r) P R I = some (.inl (dropV N t r), I', R') ∧ CI I' R' P (dropA N t r, svd S N, X) ∧ (∀ a, 70 ≤ a → a < 85 → I' a = I a) := by
  obtain ⟨I1, R1, g1, g2, g3, g4, g5⟩ := k_save hC hA
  have g2 : CI I1 R1 P (N, svd S N, X) := g2
  obtain ⟨I2, v1, v2, v3⟩ := k_remRows (x2 := b1 r) g2.1 hA ht
  refine ⟨I2, R1, ?_, g2.now (σ := (N, svd S N, X)) (fun a h1 h2 h3 _ => v2 a (by simp; omega)) (fun _ _ _ => rfl) v3, fun a h1 h2 => by rw [v2 a (by simp; omega), g3 a (by omega) (by omega)]⟩
  unfold f_X8_drop
  rw [bs_l e0, bs_b g1, bs_b (show f_X8_removeRows (nI t) (1 <<< (nI r &&& 31)) I1 = some I2 from v1), bs_b (k_cnt v3 ht), srcA_n]
  rfl
theorem r_drop {I : Mem} {P : Pool} {N : Abs} {S : List Abs} {X : (Nat → Option Abs) × List Nat} {t r : Nat} (hM : MI (up I 70 7 0) (N, S, X)) (hO : GOk (N, S, X)) (h6 : S.length ≤ 6) (ht : t < 2) (hr : r < N.1 t) (e0 : f_X9_isRow (nI t) (nI r) (up I 70 7 0) = some 1) :
    ∃ I', f_X9_drop (nI t) (nI r) P I = some (dropV N t r, I') ∧ MI I' (dropA N t r, svd S N, X) ∧ I' 70 7 = 0 ∧ (∀ a, a < 70 ∨ 85 ≤ a → I' a = I a) := by
  have hA : AOk N := hO.1
  have h16 := hA.1 t ht
  obtain ⟨I1, g1, g2, g3, g4⟩ := r_save (P := P) hM hO h6
  have g2 : MI I1 (N, svd S N, X) := g2
  obtain ⟨I2, v1, v2, v3⟩ := r_drops (x := r) (srcA_0 g2.1 ht) hA ht (by rw [List.length_range]; exact hr) (by rw [List.length_range]; exact h16)
  rw [← kp_one h16 hr] at v3
  refine ⟨I2, ?_, g2.now (σ := (N, svd S N, X)) (by rw [v2 70 (by decide)]) (by rw [v2 70 (by decide)]) (fun a h1 h2 => v2 a (by simp; omega)) v3, by rw [v2 70 (by decide), g4 7 (by decide), up_eq], fun a h => by rw [v2 a (by simp; omega), g3 a (by omega) (by omega), up_ne _ _ _ (by omega)]⟩
  unfold f_X9_drop
  rw [bz_1 e0, bs_b g1, bs_b v1, bs_b (r_many v3 ht), srcA_n]
  rfl
def remA (A : Abs) (t s : Nat) : Abs := srcA A t (kp (hb (tmask A t (A.2.2.1 s) 2 (A.1 t))) (A.1 t))
def remV (A : Abs) (t s : Nat) : Int32 := nI (cntb (fun r => decide (tvA A t r (A.2.2.1 s) = 2)) (A.1 t))
theorem k_remove {I : Mem} {R : Rem} {P : Pool} {N : Abs} {S : List Abs} {X : (Nat → Option Abs) × List Nat} {t s k : Nat} (hC : CI I R P (N, S, X)) (hA : AOk N) (ht : t < 2) (hs : s < 6) (e0 : f_X8_requireTable (nI t) = some (.inl ())) (e1 : f_X8_requireSlot (nI s) = some (.inl ())) (e2 : f_X8_filledSlot (nI s) P R = some (.inl (some k))) (hF : FObj I R P k (N.2.2.1 s)) (hV : fV (N.2.2.1 s)) :
    ∃ I' R', f_X8_remove (nI t) (nI s) P R I = some (.inl (remV N t s), I', R') ∧ CI I' R' P (remA N t s, svd S N, X) ∧ (∀ a, 70 ≤ a → a < 85 → I' a = I a) := by
  obtain ⟨I1, R1, g1, g2, g3, g4, g5⟩ := k_save hC hA
  have g2 : CI I1 R1 P (N, svd S N, X) := g2
  have hF1 := hF.pk (PK.sv g3 g5)
  obtain ⟨I2, v1, v2⟩ := k_rowsWith (v := 2) g2.1 hA ht hF1 hV
  have hC2 : CI I2 R1 P (N, svd S N, X) := g2.sc (v2.mono (by decide))
  obtain ⟨I3, w1, w2, w3⟩ := k_remRows (x2 := tmask N t (N.2.2.1 s) 2 (N.1 t)) hC2.1 hA ht
  have vb : f_J6_bitCount_0f7a4 (tmask N t (N.2.2.1 s) 2 (N.1 t)) = some (remV N t s) := k_bitsM (hA.1 t ht)
  refine ⟨I3, R1, ?_, hC2.now (σ := (N, svd S N, X)) (fun a h1 h2 h3 _ => w2 a (by simp; omega)) (fun _ _ _ => rfl) w3, fun a h1 h2 => by rw [w2 a (by simp; omega), v2 a (by simp; omega), g3 a (by omega) (by omega)]⟩
  unfold f_X8_remove
  rw [bs_l e0, bs_l e1, bs_l e2, bs_b g1, bs_b v1, bs_b w1, bs_b vb]
theorem r_remove {I : Mem} {P : Pool} {N : Abs} {S : List Abs} {X : (Nat → Option Abs) × List Nat} {t s : Nat} (hM : MI (up I 70 7 0) (N, S, X)) (hO : GOk (N, S, X)) (h6 : S.length ≤ 6) (ht : t < 2) (hs : s < 6) (hV : fV (N.2.2.1 s)) (e0 : f_X9_isTable (nI t) = some 1) (e1 : f_X9_isSlot (nI s) = some 1) :
    ∃ I', f_X9_remove (nI t) (nI s) P I = some (remV N t s, I') ∧ MI I' (remA N t s, svd S N, X) ∧ I' 70 7 = 0 ∧ (∀ a, a < 70 ∨ 85 ≤ a → I' a = I a) := by
  have hA : AOk N := hO.1
  have h16 := hA.1 t ht
  obtain ⟨I1, g1, g2, g3, g4⟩ := r_save (P := P) hM hO h6
  have g2 : MI I1 (N, svd S N, X) := g2
  obtain ⟨I2, v1, v2, v3⟩ := r_rowsOf (v := 2) g2.1 hA ht (show s < 8 by omega) (g2.1.2.2.1 s (by omega)) hV
  have hS2 : RSt (I2 71) N := by rw [v2 71 (by decide)]; exact g2.1
  have h7x : ∀ a, 72 ≤ a → a ≤ 75 → I2 a = I1 a := fun a h1 h2 => by rw [v2 a (by simp; omega)]
  have hM2 : MI I2 (N, svd S N, X) := g2.now (σ := (N, svd S N, X)) (v3 2 (by decide)) (v3 6 (by decide)) h7x hS2
  obtain ⟨I3, w1, w2, w3⟩ := r_rem_L (x2 := nI s) (P := P) (y := tmask N t (N.2.2.1 s) 2 (N.1 t)) hA ht (fun k hk h => by unfold tmask; rw [hb_msk (by omega) (by omega), decide_eq_false (show ¬ k < N.1 t by omega)]; rfl) 16 fuel I2 (Nat.le_refl _) (by unfold fuel; omega) (by rw [lft_16 _ h16]; exact srcA_0 hS2 ht)
  have vb : f_X9_bits (tmask N t (N.2.2.1 s) 2 (N.1 t)) = some (remV N t s) := r_bitsM h16
  refine ⟨I3, ?_, hM2.now (σ := (N, svd S N, X)) (by rw [w2 70 (by decide)]) (by rw [w2 70 (by decide)]) (fun a h1 h2 => w2 a (by simp; omega)) w3, by rw [w2 70 (by decide), v3 7 (by decide), g4 7 (by decide), up_eq], fun a h => by rw [w2 a (by simp; omega), v2 a (by simp; omega), g3 a (by omega) (by omega), up_ne _ _ _ (by omega)]⟩
  unfold f_X9_remove
  rw [bz_1 e0, bz_1 e1, bs_b (r_partsN hM.1 (show s < 8 by omega)), if_neg (fV_len hV).2.2, bs_b g1, bs_b v1, bs_b (show f_X9_remove_L55 (nI t) (nI s) P (tmask N t (N.2.2.1 s) 2 (N.1 t)) fuel 15 I2 = some I3 from w1), bs_b vb]
theorem st_drop : ST_drop INV := by
  intro I R P Z nx x1 x2 hI hF0 hF1
  obtain ⟨σ, hC, hM, hO⟩ := hI
  have hA := hO.1
  have hM0 := hM.t0 (x := 0)
  rcases a_row x1 x2 hC.1 hA with ⟨t, r, ht, hr, rfl, rfl, e0, f0⟩ | ⟨e0, f0⟩
  rotate_left
  · exact ⟨(1, I, R, P, Z), (0, up (up I 70 7 0) 70 7 1), by unfold f_L_drop f_X8_drop; rw [bs_r e0]; rfl, by unfold f_X9_drop; rw [bz_0 (f0 _ hM0.1)]; rfl, (show up (up I 70 7 0) 70 7 1 70 7 = 1 from up_eq _ _ _ _), fun h => absurd (show (1 : Int32) = 0 from h) (by decide), INV.ex hC hM hO⟩
  obtain ⟨N, S, X⟩ := σ
  have hA : AOk N := hA
  obtain ⟨I1, R1, g1, g2, g3⟩ := k_drop hC hA ht e0
  have hM1 := (hM.cf g3).t0 (x := 0)
  obtain ⟨I2, q1, q2, q3, q4⟩ := r_drop (P := P) hM1 hO hC.2.1.2.1 ht hr (f0 _ hM1.1)
  have hO2 : GOk (dropA N t r, svd S N, X) := (GOk.save hO).now (kp_ok hA ht _)
  exact ⟨(0, I1, R1, P, (vp_updL Z.1 0 (dropV N t r).toInt64, Z.2)), (dropV N t r, I2), by unfold f_L_drop; rw [g1]; rfl, q1, (show I2 70 7 = 0 from q3), fun _ => upL0 Z.1 _, ⟨_, g2.e70 q4, q2, hO2⟩⟩
theorem st_remove : ST_remove INV := by
  intro I R P Z nx x1 x2 hI hF0 hF1
  obtain ⟨σ, hC, hM, hO⟩ := hI
  have hA := hO.1
  have hM0 := hM.t0 (x := 0)
  rcases a_tab x1 with ⟨t, ht, rfl, e0, f0⟩ | ⟨e0, f0⟩
  rotate_left
  · exact ⟨(1, I, R, P, Z), (0, up (up I 70 7 0) 70 7 1), by unfold f_L_remove f_X8_remove; rw [bs_r e0]; rfl, by unfold f_X9_remove; rw [bz_0 f0]; rfl, (show up (up I 70 7 0) 70 7 1 70 7 = 1 from up_eq _ _ _ _), fun h => absurd (show (1 : Int32) = 0 from h) (by decide), INV.ex hC hM hO⟩
  rcases a_slot x2 with ⟨s, hs, rfl, e1, f1⟩ | ⟨e1, f1⟩
  rotate_left
  · exact ⟨(1, I, R, P, Z), (0, up (up I 70 7 0) 70 7 1), by unfold f_L_remove f_X8_remove; rw [bs_l e0, bs_r e1]; rfl, by unfold f_X9_remove; rw [bz_1 f0, bz_0 f1]; rfl, (show up (up I 70 7 0) 70 7 1 70 7 = 1 from up_eq _ _ _ _), fun h => absurd (show (1 : Int32) = 0 from h) (by decide), INV.ex hC hM hO⟩
  obtain ⟨N, S, X⟩ := σ
  have hA : AOk N := hA
  rcases k_filled hC.1 hA hs with ⟨e2, hL⟩ | ⟨k, e2, hF, hV⟩
  · exact ⟨(2, I, R, P, Z), (0, up (up I 70 7 0) 70 7 2), by unfold f_L_remove f_X8_remove; rw [bs_l e0, bs_l e1, bs_r e2]; rfl, by unfold f_X9_remove; rw [bz_1 f0, bz_1 f1, bz_0 (r_parts0 hM0.1 (show s < 8 by omega) hL)]; rfl, (show up (up I 70 7 0) 70 7 2 70 7 = 2 from up_eq _ _ _ _), fun h => absurd (show (2 : Int32) = 0 from h) (by decide), INV.ex hC hM hO⟩
  · obtain ⟨I1, R1, g1, g2, g3⟩ := k_remove hC hA ht hs e0 e1 e2 hF hV
    obtain ⟨I2, q1, q2, q3, q4⟩ := r_remove (P := P) ((hM.cf g3).t0 (x := 0)) hO hC.2.1.2.1 ht hs hV f0 f1
    have hO2 : GOk (remA N t s, svd S N, X) := (GOk.save hO).now (kp_ok hA ht _)
    exact ⟨(0, I1, R1, P, (vp_updL Z.1 0 (remV N t s).toInt64, Z.2)), (remV N t s, I2), by unfold f_L_remove; rw [g1]; rfl, q1, (show I2 70 7 = 0 from q3), fun _ => upL0 Z.1 _, ⟨_, g2.e70 q4, q2, hO2⟩⟩
end MB16
