/-! PURE PART 17: drop, remove, the calls. -/
section MB16
theorem lft_c {b : Nat → Bool} {N m : Nat} : ∀ d, (∀ k, m ≤ k → k < m + d → b k = false) → lft b N (m + d) = lft b N m
  | 0, _ => rfl
  | d + 1, h => by rw [← lft_c d (fun k h1 h2 => h k h1 (by omega))]; exact lft_s2 (Or.inl (h (m + d) (by omega) (by omega)))
def b1 (r : Nat) : Int32 := (1 : Int32) <<< (nI r &&& 31)
theorem kp_one {N r : Nat} (hN : N ≤ 16) (hr : r < N) : kp (hb (b1 r)) N = (List.range N).eraseIdx r := by
  have hbk : ∀ k, k < 32 → hb (b1 r) k = decide (k = r) := fun k hk => hb_one (by omega) hk
  have h1 := lft_c (b := hb (b1 r)) (N := N) (m := 0) r (fun k _ h2 => by rw [hbk k (by omega)]; exact decide_eq_false (by omega))
  have h2 := lft_c (b := hb (b1 r)) (N := N) (m := r + 1) (15 - r) (fun k h2 h3 => by rw [hbk k (by omega)]; exact decide_eq_false (by omega))
  obtain ⟨s1, s2⟩ := lft_s1 (b := hb (b1 r)) hr (by rw [hbk r (by omega)]; exact decide_eq_true rfl)
  rw [lft_16 _ (show N ≤ r + 1 + (15 - r) by omega)] at h2
  rw [Nat.zero_add] at h1
  rw [← lft_0, ← h1, ← s2, ← h2]
def dropA (A : Abs) (t r : Nat) : Abs := srcA A t (kp (hb (b1 r)) (A.1 t))
def dropV (A : Abs) (t r : Nat) : Int32 := nI (kp (hb (b1 r)) (A.1 t)).length
theorem srcA_n (A : Abs) (t : Nat) (l : List Nat) : (srcA A t l).1 t = l.length := if_pos rfl
theorem kp_ok {A : Abs} {t : Nat} (hA : AOk A) (ht : t < 2) (b : Nat → Bool) : AOk (srcA A t (kp b (A.1 t))) := srcA_ok hA ht (Nat.le_trans (kp_le _ _) (hA.1 t ht)) (fun x hx => kp_lt hx)
theorem k_drop {I : Mem} {R : Rem} {P : Pool} {N : Abs} {S : List Abs} {X : (Nat → Option Abs) × List Nat} {t r : Nat} (hC : CI I R P (N, S, X)) (hA : AOk N) (ht : t < 2) (e0 : f_X8_requireRow (nI t) (nI r) I = some (.inl ())) :
    ∃ I' R', f_X8_drop (nI t) (nI r) P R I = some (.inl (dropV N t r), I', R') ∧ CI I' R' P (dropA N t r, svd S N, X) ∧ (∀ a, 70 ≤ a → a < 70 → I' a = I a) := by
  obtain ⟨I1, R1, g1, g2, g3, g4, g5⟩ := k_save hC hA
  have g2 : CI I1 R1 P (N, svd S N, X) := g2
  obtain ⟨I2, v1, v2, v3⟩ := k_remRows (x2 := b1 r) g2.1 hA ht
  refine ⟨I2, R1, ?_, g2.now (σ := (N, svd S N, X)) (fun a h1 h2 h3 _ => v2 a (by simp; omega)) (fun _ _ _ => rfl) v3, fun a h1 h2 => by rw [v2 a (by simp; omega), g3 a (by omega) (by omega)]⟩
  unfold f_X8_drop
  rw [bs_l e0, bs_b g1, bs_b (show f_X8_removeRows (nI t) (1 <<< (nI r &&& 31)) I1 = some I2 from v1), bs_b (k_cnt v3 ht), srcA_n]
  rfl
def remA (A : Abs) (t s : Nat) : Abs := srcA A t (kp (hb (tmask A t (A.2.2.1 s) 2 (A.1 t))) (A.1 t))
def remV (A : Abs) (t s : Nat) : Int32 := nI (cntb (fun r => decide (tvA A t r (A.2.2.1 s) = 2)) (A.1 t))
theorem k_remove {I : Mem} {R : Rem} {P : Pool} {N : Abs} {S : List Abs} {X : (Nat → Option Abs) × List Nat} {t s k : Nat} (hC : CI I R P (N, S, X)) (hA : AOk N) (ht : t < 2) (hs : s < 6) (e0 : f_X8_requireTable (nI t) = some (.inl ())) (e1 : f_X8_requireSlot (nI s) = some (.inl ())) (e2 : f_X8_filledSlot (nI s) P R = some (.inl (some k))) (hF : FObj I R P k (N.2.2.1 s)) (hV : fV (N.2.2.1 s)) :
    ∃ I' R', f_X8_remove (nI t) (nI s) P R I = some (.inl (remV N t s), I', R') ∧ CI I' R' P (remA N t s, svd S N, X) ∧ (∀ a, 70 ≤ a → a < 70 → I' a = I a) := by
  obtain ⟨I1, R1, g1, g2, g3, g4, g5⟩ := k_save hC hA
  have g2 : CI I1 R1 P (N, svd S N, X) := g2
  have hF1 := hF.pk (PK.sv g3 g5)
  obtain ⟨I2, v1, v2⟩ := k_rowsWith (v := 2) g2.1 hA ht hF1 hV
  have hC2 : CI I2 R1 P (N, svd S N, X) := g2.sc (v2.mono (by decide))
  obtain ⟨I3, w1, w2, w3⟩ := k_remRows (x2 := tmask N t (N.2.2.1 s) 2 (N.1 t)) hC2.1 hA ht
  have vb : f_J6_bitCount_0f7a4 (tmask N t (N.2.2.1 s) 2 (N.1 t)) = some (remV N t s) := k_bitsM (hA.1 t ht)
  refine ⟨I3, R1, ?_, hC2.now (σ := (N, svd S N, X)) (fun a h1 h2 h3 _ => w2 a (by simp; omega)) (fun _ _ _ => rfl) w3, fun a h1 h2 => by rw [w2 a (by simp; omega), v2 a (by simp; omega), g3 a (by omega) (by omega)]⟩
  unfold f_X8_remove
  rw [bs_l e0, bs_l e1, bs_l e2, bs_b g1, bs_b v1, bs_b w1, bs_b vb]
end MB16
