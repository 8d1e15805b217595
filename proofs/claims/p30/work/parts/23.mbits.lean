/-! PURE PART 4: bits and masks (the first family out of kit/laws/BITS.to-paste). -/
section MB3
/-! ===== Int32 by its bits: bt x i ===== -/
def bt (x : Int32) (i : Nat) : Bool := x.toBitVec.getLsbD i
theorem b_ext {x y : Int32} (h : ∀ i, i < 32 → bt x i = bt y i) : x = y := Int32.toBitVec_inj.mp (BitVec.eq_of_getLsbD_eq (fun i hi => h i hi))
theorem b_or (x y : Int32) (i : Nat) : bt (x ||| y) i = (bt x i || bt y i) := by unfold bt; rw [Int32.toBitVec_or, BitVec.getLsbD_or]
theorem b_and (x y : Int32) (i : Nat) : bt (x &&& y) i = (bt x i && bt y i) := by unfold bt; rw [Int32.toBitVec_and, BitVec.getLsbD_and]
theorem b_xor (x y : Int32) (i : Nat) : bt (x ^^^ y) i = (bt x i ^^ bt y i) := by unfold bt; rw [Int32.toBitVec_xor, BitVec.getLsbD_xor]
theorem b_big {x : Int32} {i : Nat} (h : 32 ≤ i) : bt x i = false := BitVec.getLsbD_of_ge _ _ h
theorem b_255 (i : Nat) : bt 255 i = decide (i < 8) := by
  rcases Nat.lt_or_ge i 32 with h | h
  · exact (by decide +kernel : ∀ i, i < 32 → bt 255 i = decide (i < 8)) i h
  · rw [b_big h, decide_eq_false (by omega)]
theorem b_65535 (i : Nat) : bt 65535 i = decide (i < 16) := by
  rcases Nat.lt_or_ge i 32 with h | h
  · exact (by decide +kernel : ∀ i, i < 32 → bt 65535 i = decide (i < 16)) i h
  · rw [b_big h, decide_eq_false (by omega)]
theorem b_m1 : ∀ i, i < 32 → bt (-1) i = true := by decide +kernel
theorem b_0 (i : Nat) : bt 0 i = false := BitVec.getLsbD_zero
theorem s_l : ∀ n, n < 32 → ((nI n &&& 31).toBitVec.smod 32).toNat = n := by decide +kernel
theorem s_u : ∀ n, n < 32 → (((nI n).toUInt32 &&& Int32.toUInt32 31).toBitVec % 32).toNat = n := by decide +kernel
theorem b_shl (n : Nat) (hn : n < 32) (x : Int32) {i : Nat} (hi : i < 32) : bt (x <<< (nI n &&& 31)) i = (decide (n ≤ i) && bt x (i - n)) := by
  unfold bt
  rw [Int32.toBitVec_shiftLeft]
  show (x.toBitVec <<< ((nI n &&& 31).toBitVec.smod 32).toNat).getLsbD i = _
  rw [s_l n hn, BitVec.getLsbD_shiftLeft]
  rcases Nat.lt_or_ge i n with h | h
  · simp [h, Nat.not_le.mpr h]
  · simp [hi, h, Nat.not_lt.mpr h]
theorem b_ushr (n : Nat) (hn : n < 32) (x : Int32) (i : Nat) : bt ((x.toUInt32 >>> ((nI n).toUInt32 &&& Int32.toUInt32 31)).toInt32) i = bt x (n + i) := by
  show (x.toUInt32 >>> ((nI n).toUInt32 &&& Int32.toUInt32 31)).toBitVec.getLsbD i = x.toUInt32.toBitVec.getLsbD (n + i)
  rw [UInt32.toBitVec_shiftRight]
  show (x.toUInt32.toBitVec >>> (((nI n).toUInt32 &&& Int32.toUInt32 31).toBitVec % 32).toNat).getLsbD i = _
  rw [s_u n hn, BitVec.getLsbD_ushiftRight]
theorem b_sshr (n : Nat) (hn : n < 32) (x : Int32) {i : Nat} (hi : i < 32) : bt (x >>> (nI n &&& 31)) i = if n + i < 32 then bt x (n + i) else bt x 31 := by
  unfold bt
  rw [Int32.toBitVec_shiftRight]
  show (x.toBitVec.sshiftRight ((nI n &&& 31).toBitVec.smod 32).toNat).getLsbD i = _
  rw [s_l n hn, BitVec.getLsbD_sshiftRight, BitVec.msb_eq_getLsbD_last]
  simp [hi]
theorem b_shl8 (x : Int32) {i : Nat} (hi : i < 32) : bt (x <<< ((8 : Int32) &&& 31)) i = (decide (8 ≤ i) && bt x (i - 8)) := b_shl 8 (by omega) x hi
theorem b_shl16 (x : Int32) {i : Nat} (hi : i < 32) : bt (x <<< ((16 : Int32) &&& 31)) i = (decide (16 ≤ i) && bt x (i - 16)) := b_shl 16 (by omega) x hi
theorem b_shl24 (x : Int32) {i : Nat} (hi : i < 32) : bt (x <<< ((24 : Int32) &&& 31)) i = (decide (24 ≤ i) && bt x (i - 24)) := b_shl 24 (by omega) x hi
theorem b_sshr8 (x : Int32) {i : Nat} (hi : i < 32) : bt (x >>> ((8 : Int32) &&& 31)) i = if 8 + i < 32 then bt x (8 + i) else bt x 31 := b_sshr 8 (by omega) x hi
theorem nx_and' (a b : Nat) : nI a &&& nI b = nI (a &&& b) := by
  apply Int32.toBitVec_inj.mp
  rw [Int32.toBitVec_and]
  show BitVec.ofNat 32 a &&& BitVec.ofNat 32 b = BitVec.ofNat 32 (a &&& b)
  rw [BitVec.ofNat_and]
theorem nx_or' (a b : Nat) : nI a ||| nI b = nI (a ||| b) := by
  apply Int32.toBitVec_inj.mp
  rw [Int32.toBitVec_or]
  show BitVec.ofNat 32 a ||| BitVec.ofNat 32 b = BitVec.ofNat 32 (a ||| b)
  rw [BitVec.ofNat_or]
theorem fa_or_sum' {a k b : Nat} (h : a < 2 ^ k) : 2 ^ k * b ||| a = 2 ^ k * b + a := by rw [Nat.two_pow_add_eq_or_of_lt h]
theorem bt_one : ∀ i, i < 32 → bt 1 i = decide (i = 0) := by decide +kernel
theorem and1 (y : Int32) : (y &&& 1 = 1) ↔ bt y 0 = true := by
  constructor
  · intro h
    have h2 := congrArg (fun z => bt z 0) h
    simp only [b_and] at h2
    rw [bt_one 0 (by decide)] at h2
    simpa using h2
  · intro h
    apply b_ext
    intro i hi
    rw [b_and, bt_one i hi]
    by_cases e : i = 0
    · subst e; simp [h]
    · simp [e]
theorem hb_bt (x : Int32) {k : Nat} (hk : k < 32) : hb x k = bt x k := by
  unfold hb
  have h := b_sshr k hk x (i := 0) (by decide)
  rw [if_pos (by omega), Nat.add_zero] at h
  have h2 := and1 (x >>> (nI k &&& 31))
  rw [h] at h2
  by_cases e : bt x k = true
  · rw [e]; exact decide_eq_true (h2.mpr e)
  · rw [Bool.not_eq_true] at e
    rw [e]; exact decide_eq_false (fun h3 => by rw [h2.mp h3] at e; cases e)
theorem hb_or (x y : Int32) {k : Nat} (hk : k < 32) : hb (x ||| y) k = (hb x k || hb y k) := by rw [hb_bt _ hk, hb_bt _ hk, hb_bt _ hk, b_or]
theorem hb_and (x y : Int32) {k : Nat} (hk : k < 32) : hb (x &&& y) k = (hb x k && hb y k) := by rw [hb_bt _ hk, hb_bt _ hk, hb_bt _ hk, b_and]
theorem hb_one {n k : Nat} (hn : n < 32) (hk : k < 32) : hb ((1 : Int32) <<< (nI n &&& 31)) k = decide (k = n) := by
  rw [hb_bt _ hk, b_shl n hn 1 hk]
  by_cases h : n ≤ k
  · rw [bt_one (k - n) (by omega)]
    by_cases e : k = n
    · subst e; simp
    · simp [e, h]; omega
  · rw [decide_eq_false h, decide_eq_false (show ¬ k = n by omega)]; rfl
theorem hb_0 {k : Nat} (hk : k < 32) : hb 0 k = false := by rw [hb_bt _ hk, b_0]
theorem bit01 (x : Int32) (k : Nat) : ((x >>> (nI k &&& 31)) &&& 1) = if hb x k then 1 else 0 := by
  unfold hb
  obtain ⟨j, hj, e⟩ := pk_andE (x >>> (nI k &&& 31)) (m := 1) 1 (by decide)
  rw [e]
  rcases (show j = 0 ∨ j = 1 by omega) with rfl | rfl
  · rfl
  · rfl
def msk (b : Nat → Bool) : Nat → Int32
  | 0 => 0
  | n + 1 => if b n then msk b n ||| ((1 : Int32) <<< (nI n &&& 31)) else msk b n
theorem msk_cg {b b2 : Nat → Bool} : ∀ {n : Nat}, (∀ k, k < n → b k = b2 k) → msk b n = msk b2 n
  | 0, _ => rfl
  | n + 1, h => by
    unfold msk
    rw [h n (by omega), msk_cg (fun k hk => h k (by omega))]
theorem hb_msk {b : Nat → Bool} : ∀ {n k : Nat}, n ≤ 32 → k < 32 → hb (msk b n) k = (decide (k < n) && b k)
  | 0, k, _, hk => by unfold msk; rw [hb_0 hk]; rfl
  | n + 1, k, hn, hk => by
    unfold msk
    by_cases hb1 : b n = true
    · rw [if_pos hb1, hb_or _ _ hk, hb_msk (by omega) hk, hb_one (by omega) hk]
      by_cases e : k = n
      · subst e; simp [hb1]
      · by_cases h2 : k < n
        · simp [e, h2, show k < n + 1 by omega]
        · simp [e, h2, show ¬ k < n + 1 by omega]
    · rw [if_neg hb1, hb_msk (by omega) hk]
      by_cases e : k = n
      · subst e; simp at hb1; simp [hb1]
      · by_cases h2 : k < n
        · simp [h2, show k < n + 1 by omega]
        · simp [h2, show ¬ k < n + 1 by omega]
theorem or_z (x : Int32) : x ||| 0 = x := by
  apply b_ext; intro i hi; rw [b_or, b_0]; simp
def cntb (b : Nat → Bool) : Nat → Nat
  | 0 => 0
  | n + 1 => cntb b n + (if b n then 1 else 0)
theorem cntb_le (b : Nat → Bool) : ∀ n, cntb b n ≤ n
  | 0 => Nat.le_refl _
  | n + 1 => by unfold cntb; have := cntb_le b n; split <;> omega
theorem cntb_cg {b b2 : Nat → Bool} : ∀ {n : Nat}, (∀ k, k < n → b k = b2 k) → cntb b n = cntb b2 n
  | 0, _ => rfl
  | n + 1, h => by unfold cntb; rw [h n (by omega), cntb_cg (fun k hk => h k (by omega))]
theorem cntb_ext {b : Nat → Bool} {n : Nat} : ∀ {m : Nat}, n ≤ m → cntb (fun k => decide (k < n) && b k) m = cntb b n := by
  intro m
  induction m with
  | zero => intro h; rw [show n = 0 by omega]; rfl
  | succ m ih =>
    intro h
    rcases Nat.lt_or_ge m n with h2 | h2
    · rw [show n = m + 1 by omega]
      exact cntb_cg (fun k hk => by simp [hk])
    · show cntb _ m + _ = _
      rw [ih h2]
      simp [show ¬ m < n by omega]
/-! the JDK's count -/
def bc1 (m : Nat) : Nat := m - ((m / 2) &&& 1431655765)
def bc2 (m : Nat) : Nat := (m &&& 858993459) + ((m / 4) &&& 858993459)
def bc3 (m : Nat) : Nat := (m + m / 16) &&& 252645135
def bc4 (m : Nat) : Nat := m + m / 256
def bc5 (m : Nat) : Nat := m + m / 65536
def bcN (m : Nat) : Nat := bc5 (bc4 (bc3 (bc2 (bc1 m)))) &&& 63
def pcN (m : Nat) : Nat := m / 1 % 2 + m / 2 % 2 + m / 4 % 2 + m / 8 % 2 + m / 16 % 2 + m / 32 % 2 + m / 64 % 2 + m / 128 % 2 + m / 256 % 2 + m / 512 % 2 + m / 1024 % 2 + m / 2048 % 2 + m / 4096 % 2 + m / 8192 % 2 + m / 16384 % 2 + m / 32768 % 2
def pc8 (m : Nat) : Nat := m / 1 % 2 + m / 2 % 2 + m / 4 % 2 + m / 8 % 2 + m / 16 % 2 + m / 32 % 2 + m / 64 % 2 + m / 128 % 2
theorem and_split {x y p q : Nat} (hy : y < 256) (hq : q < 256) : (256 * x + y) &&& (256 * p + q) = 256 * (x &&& p) + (y &&& q) := by
  have h8 : y &&& q < 2 ^ 8 := Nat.lt_of_le_of_lt Nat.and_le_left hy
  apply Nat.eq_of_testBit_eq
  intro j
  rw [Nat.testBit_and, show 256 * x + y = 2 ^ 8 * x + y from rfl, show 256 * p + q = 2 ^ 8 * p + q from rfl, show 256 * (x &&& p) + (y &&& q) = 2 ^ 8 * (x &&& p) + (y &&& q) from rfl,
    Nat.testBit_two_pow_mul_add _ hy, Nat.testBit_two_pow_mul_add _ hq, Nat.testBit_two_pow_mul_add _ h8]
  by_cases h : j < 8
  · simp only [if_pos h, Nat.testBit_and]
  · simp only [if_neg h, Nat.testBit_and]
theorem and_low {y p q : Nat} (hy : y < 256) (hq : q < 256) : y &&& (256 * p + q) = y &&& q := by
  have h := and_split (x := 0) (p := p) hy hq
  simpa using h
theorem tb1 : ∀ c, c < 2 → ∀ b, b < 128 → (128 * c + b) &&& 85 = b &&& 85 := by decide +kernel
theorem tb2 : ∀ c, c < 4 → ∀ b, b < 64 → (64 * c + b) &&& 51 = b &&& 51 := by decide +kernel
theorem tb3 : ∀ z, z < 256 → z &&& 15 = z % 16 := by decide +kernel
theorem tb4 : ∀ a, a < 256 → bc2 (bc1 a) % 16 ≤ 4 ∧ bc2 (bc1 a) / 16 ≤ 4 ∧ bc2 (bc1 a) % 16 + bc2 (bc1 a) / 16 = pc8 a ∧ bc1 a < 256 := by decide +kernel
theorem bc_s1 {a b : Nat} (ha : a < 256) (hb : b < 256) : bc1 (256 * a + b) = 256 * bc1 a + bc1 b := by
  have e1 : (256 * a + b) / 2 = 256 * (a / 2) + (128 * (a % 2) + b / 2) := by omega
  have e2 := tb1 (a % 2) (by omega) (b / 2) (by omega)
  have e3 : (a / 2) &&& 1431655765 = (a / 2) &&& 85 := and_low (p := 5592405) (q := 85) (by omega) (by decide)
  have e3' : (a / 2) &&& 5592405 = (a / 2) &&& 85 := and_low (p := 21845) (q := 85) (by omega) (by decide)
  have e4 : (b / 2) &&& 1431655765 = (b / 2) &&& 85 := and_low (p := 5592405) (q := 85) (by omega) (by decide)
  have e5 : (256 * (a / 2) + (128 * (a % 2) + b / 2)) &&& 1431655765 = 256 * ((a / 2) &&& 5592405) + ((128 * (a % 2) + b / 2) &&& 85) := and_split (p := 5592405) (q := 85) (by omega) (by decide)
  have h1 : (a / 2) &&& 85 ≤ a / 2 := Nat.and_le_left
  have h2 : (b / 2) &&& 85 ≤ b / 2 := Nat.and_le_left
  unfold bc1
  rw [e1, e5, e2, e3, e3', e4]
  omega
theorem bc_s2 {a b : Nat} (ha : a < 256) (hb : b < 256) : bc2 (256 * a + b) = 256 * bc2 a + bc2 b := by
  have e1 : (256 * a + b) / 4 = 256 * (a / 4) + (64 * (a % 4) + b / 4) := by omega
  have e2 := tb2 (a % 4) (by omega) (b / 4) (by omega)
  have e3 : (a / 4) &&& 858993459 = (a / 4) &&& 51 := and_low (p := 3355443) (q := 51) (by omega) (by decide)
  have e3' : (a / 4) &&& 3355443 = (a / 4) &&& 51 := and_low (p := 13107) (q := 51) (by omega) (by decide)
  have e4 : (b / 4) &&& 858993459 = (b / 4) &&& 51 := and_low (p := 3355443) (q := 51) (by omega) (by decide)
  have e5 : (256 * (a / 4) + (64 * (a % 4) + b / 4)) &&& 858993459 = 256 * ((a / 4) &&& 3355443) + ((64 * (a % 4) + b / 4) &&& 51) := and_split (p := 3355443) (q := 51) (by omega) (by decide)
  have f3 : a &&& 858993459 = a &&& 51 := and_low (p := 3355443) (q := 51) ha (by decide)
  have f3' : a &&& 3355443 = a &&& 51 := and_low (p := 13107) (q := 51) ha (by decide)
  have f4 : b &&& 858993459 = b &&& 51 := and_low (p := 3355443) (q := 51) hb (by decide)
  have f5 : (256 * a + b) &&& 858993459 = 256 * (a &&& 3355443) + (b &&& 51) := and_split (p := 3355443) (q := 51) hb (by decide)
  unfold bc2
  rw [e1, e5, f5, e2, e3, e3', e4, f3, f3', f4]
  omega
theorem nib1 {X : Nat} (h1 : X % 16 ≤ 4) (h2 : X / 16 ≤ 4) : (X + X / 16) % 16 = X % 16 + X / 16 ∧ X ≤ 68 := by omega
theorem nib2 {x Y : Nat} (h1 : Y % 16 ≤ 4) (h2 : Y / 16 ≤ 4) : (16 * x + Y + Y / 16) % 16 = Y % 16 + Y / 16 := by omega
theorem nib3 {X Y : Nat} : (256 * X + Y) / 16 = 16 * X + Y / 16 := by omega
theorem nib4 {X Y : Nat} : 256 * X + Y + (16 * X + Y / 16) = 256 * (X + X / 16) + (16 * (X % 16) + Y + Y / 16) := by omega
theorem bc_s3 {X Y : Nat} (h1 : X % 16 ≤ 4) (h2 : X / 16 ≤ 4) (h3 : Y % 16 ≤ 4) (h4 : Y / 16 ≤ 4) : bc3 (256 * X + Y) = 256 * (X % 16 + X / 16) + (Y % 16 + Y / 16) := by
  obtain ⟨n1, n2⟩ := nib1 h1 h2
  obtain ⟨-, n4⟩ := nib1 h3 h4
  have n3 := nib2 (x := X % 16) h3 h4
  have l1 : X + X / 16 < 256 := by omega
  have l2 : 16 * (X % 16) + Y + Y / 16 < 256 := by omega
  unfold bc3
  have g2 : (256 * (X + X / 16) + (16 * (X % 16) + Y + Y / 16)) &&& 252645135 = 256 * ((X + X / 16) &&& 986895) + ((16 * (X % 16) + Y + Y / 16) &&& 15) := and_split (p := 986895) (q := 15) l2 (by decide)
  have g3 : (X + X / 16) &&& 986895 = (X + X / 16) &&& 15 := and_low (p := 3855) (q := 15) l1 (by decide)
  rw [nib3, nib4, g2, g3, tb3 _ l1, tb3 _ l2, n1, n3]
theorem pl0 {a b : Nat} (hb : b < 256) : (256 * a + b) / 1 % 2 = b / 1 % 2 := by omega
theorem ph0 {a b : Nat} (hb : b < 256) : (256 * a + b) / 256 % 2 = a / 1 % 2 := by omega
theorem pl1 {a b : Nat} (hb : b < 256) : (256 * a + b) / 2 % 2 = b / 2 % 2 := by omega
theorem ph1 {a b : Nat} (hb : b < 256) : (256 * a + b) / 512 % 2 = a / 2 % 2 := by omega
theorem pl2 {a b : Nat} (hb : b < 256) : (256 * a + b) / 4 % 2 = b / 4 % 2 := by omega
theorem ph2 {a b : Nat} (hb : b < 256) : (256 * a + b) / 1024 % 2 = a / 4 % 2 := by omega
theorem pl3 {a b : Nat} (hb : b < 256) : (256 * a + b) / 8 % 2 = b / 8 % 2 := by omega
theorem ph3 {a b : Nat} (hb : b < 256) : (256 * a + b) / 2048 % 2 = a / 8 % 2 := by omega
theorem pl4 {a b : Nat} (hb : b < 256) : (256 * a + b) / 16 % 2 = b / 16 % 2 := by omega
theorem ph4 {a b : Nat} (hb : b < 256) : (256 * a + b) / 4096 % 2 = a / 16 % 2 := by omega
theorem pl5 {a b : Nat} (hb : b < 256) : (256 * a + b) / 32 % 2 = b / 32 % 2 := by omega
theorem ph5 {a b : Nat} (hb : b < 256) : (256 * a + b) / 8192 % 2 = a / 32 % 2 := by omega
theorem pl6 {a b : Nat} (hb : b < 256) : (256 * a + b) / 64 % 2 = b / 64 % 2 := by omega
theorem ph6 {a b : Nat} (hb : b < 256) : (256 * a + b) / 16384 % 2 = a / 64 % 2 := by omega
theorem pl7 {a b : Nat} (hb : b < 256) : (256 * a + b) / 128 % 2 = b / 128 % 2 := by omega
theorem ph7 {a b : Nat} (hb : b < 256) : (256 * a + b) / 32768 % 2 = a / 128 % 2 := by omega
theorem pc_sp {a b : Nat} (hb : b < 256) : pcN (256 * a + b) = pc8 a + pc8 b := by
  unfold pcN pc8
  rw [pl0 hb, ph0 hb, pl1 hb, ph1 hb, pl2 hb, ph2 hb, pl3 hb, ph3 hb, pl4 hb, ph4 hb, pl5 hb, ph5 hb, pl6 hb, ph6 hb, pl7 hb, ph7 hb]
  omega
theorem bc_pc {m : Nat} (hm : m < 65536) : bcN m = pcN m := by
  obtain ⟨a, b, ha, hb, rfl⟩ : ∃ a b, a < 256 ∧ b < 256 ∧ m = 256 * a + b := ⟨m / 256, m % 256, by omega, by omega, by omega⟩
  obtain ⟨a1, a2, a3, a4⟩ := tb4 a ha
  obtain ⟨b1, b2, b3, b4⟩ := tb4 b hb
  have e : bc2 (bc1 (256 * a + b)) = 256 * bc2 (bc1 a) + bc2 (bc1 b) := by rw [bc_s1 ha hb, bc_s2 a4 b4]
  unfold bcN
  rw [e, bc_s3 a1 a2 b1 b2, a3, b3, pc_sp hb]
  have e4 : bc5 (bc4 (256 * pc8 a + pc8 b)) = 257 * pc8 a + pc8 b := by unfold bc5 bc4; omega
  rw [e4, show (63 : Nat) = 2 ^ 6 - 1 from rfl, Nat.and_two_pow_sub_one_eq_mod]
  omega
theorem and_le_l (a b : Nat) : a &&& b ≤ a := Nat.and_le_left
theorem j6_N {m : Nat} (hm : m < 65536) : f_J6_bitCount_0f7a4 (nI m) = some (nI (bcN m)) := by
  have u : ∀ {n : Nat} (k : Nat) (s : Int32), n < 4294967296 → ((s.toUInt32 &&& Int32.toUInt32 31).toBitVec % 32).toNat = k → ((nI n).toUInt32 >>> (s.toUInt32 &&& Int32.toUInt32 31)).toInt32 = nI (n / 2 ^ k) := fun k s hn hs => pk_ushrN (by omega) s k hs
  have a1 : ∀ (x y : Nat), nI x &&& nI y = nI (x &&& y) := nx_and'
  have h1 : bc1 m < 65536 := by unfold bc1; omega
  have h2 : bc2 (bc1 m) < 131072 := by
    unfold bc2
    have := and_le_l (bc1 m) 858993459
    have := and_le_l (bc1 m / 4) 858993459
    omega
  have h3 : bc3 (bc2 (bc1 m)) < 1048576 := by
    unfold bc3
    have := and_le_l (bc2 (bc1 m) + bc2 (bc1 m) / 16) 252645135
    omega
  have h4 : bc4 (bc3 (bc2 (bc1 m))) < 2097152 := by unfold bc4; omega
  have e1 : nI m - ((((nI m).toUInt32 >>> ((1 : Int32).toUInt32 &&& Int32.toUInt32 31)).toInt32) &&& 1431655765) = nI (bc1 m) := by
    rw [u 1 1 (by omega) (by decide), show (1431655765 : Int32) = nI 1431655765 from rfl, a1, pk_sub (Nat.le_trans (and_le_l _ _) (by omega))]
    rfl
  have e2 : (nI (bc1 m) &&& 858993459) + ((((nI (bc1 m)).toUInt32 >>> ((2 : Int32).toUInt32 &&& Int32.toUInt32 31)).toInt32) &&& 858993459) = nI (bc2 (bc1 m)) := by
    rw [u 2 2 (by omega) (by decide), show (858993459 : Int32) = nI 858993459 from rfl, a1, a1, nI_add]
    rfl
  have e3 : (nI (bc2 (bc1 m)) + (((nI (bc2 (bc1 m))).toUInt32 >>> ((4 : Int32).toUInt32 &&& Int32.toUInt32 31)).toInt32)) &&& 252645135 = nI (bc3 (bc2 (bc1 m))) := by
    rw [u 4 4 (by omega) (by decide), show (252645135 : Int32) = nI 252645135 from rfl, nI_add, a1]
    rfl
  have e4 : nI (bc3 (bc2 (bc1 m))) + (((nI (bc3 (bc2 (bc1 m)))).toUInt32 >>> ((8 : Int32).toUInt32 &&& Int32.toUInt32 31)).toInt32) = nI (bc4 (bc3 (bc2 (bc1 m)))) := by
    rw [u 8 8 (by omega) (by decide), nI_add]
    rfl
  have e5 : nI (bc4 (bc3 (bc2 (bc1 m)))) + (((nI (bc4 (bc3 (bc2 (bc1 m))))).toUInt32 >>> ((16 : Int32).toUInt32 &&& Int32.toUInt32 31)).toInt32) = nI (bc5 (bc4 (bc3 (bc2 (bc1 m))))) := by
    rw [u 16 16 (by omega) (by decide), nI_add]
    rfl
  unfold f_J6_bitCount_0f7a4
  rw [e1, e2, e3, e4, e5, show (63 : Int32) = nI 63 from rfl, a1]
  rfl
theorem hb_nI {m k : Nat} (hm : m < 65536) (hk : k < 32) : hb (nI m) k = decide (m / 2 ^ k % 2 = 1) := by
  unfold hb
  rw [pk_shrN (by omega) _ k (s_l k hk), pk_andN (by have := Nat.div_le_self m (2 ^ k); omega) (m := 1) 1 (by decide)]
  rcases (show m / 2 ^ k % 2 ^ 1 = 0 ∨ m / 2 ^ k % 2 ^ 1 = 1 by omega) with h | h
  · rw [h]
    rfl
  · rw [h]
    rfl
theorem cntb16 (b : Nat → Bool) (v : Nat → Nat) (h : ∀ k, k < 16 → (if b k = true then 1 else 0) = v k) : cntb b 16 = v 0 + v 1 + v 2 + v 3 + v 4 + v 5 + v 6 + v 7 + v 8 + v 9 + v 10 + v 11 + v 12 + v 13 + v 14 + v 15 := by
  show 0 + (if b 0 = true then 1 else 0) + (if b 1 = true then 1 else 0) + (if b 2 = true then 1 else 0) + (if b 3 = true then 1 else 0) + (if b 4 = true then 1 else 0) + (if b 5 = true then 1 else 0) + (if b 6 = true then 1 else 0) + (if b 7 = true then 1 else 0) + (if b 8 = true then 1 else 0) + (if b 9 = true then 1 else 0) + (if b 10 = true then 1 else 0) + (if b 11 = true then 1 else 0) + (if b 12 = true then 1 else 0) + (if b 13 = true then 1 else 0) + (if b 14 = true then 1 else 0) + (if b 15 = true then 1 else 0) = _
  rw [h 0 (by decide), h 1 (by decide), h 2 (by decide), h 3 (by decide), h 4 (by decide), h 5 (by decide), h 6 (by decide), h 7 (by decide), h 8 (by decide), h 9 (by decide), h 10 (by decide), h 11 (by decide), h 12 (by decide), h 13 (by decide), h 14 (by decide), h 15 (by decide), Nat.zero_add]
theorem cntb_pc {m : Nat} (hm : m < 65536) : cntb (hb (nI m)) 16 = pcN m := by
  rw [cntb16 (hb (nI m)) (fun k => m / 2 ^ k % 2) (fun k hk => by
    rw [hb_nI hm (by omega)]
    rcases (show m / 2 ^ k % 2 = 0 ∨ m / 2 ^ k % 2 = 1 by omega) with h | h <;> rw [h] <;> rfl)]
  rfl
/-- the JDK's count of a row of at most sixteen bits -/
theorem k_bits {x : Int32} {m : Nat} (hx : x = nI m) (hm : m < 65536) : f_J6_bitCount_0f7a4 x = some (nI (cntb (hb x) 16)) := by
  subst hx
  rw [j6_N hm, cntb_pc hm]
  rw [bc_pc hm]
theorem msk_N (b : Nat → Bool) : ∀ n, n ≤ 16 → ∃ m, m < 2 ^ n ∧ msk b n = nI m
  | 0, _ => ⟨0, by decide, rfl⟩
  | n + 1, hn => by
    obtain ⟨m, h1, h2⟩ := msk_N b n (by omega)
    have hp : 2 ^ n ≤ 2 ^ 16 := Nat.pow_le_pow_right (by decide) (by omega)
    unfold msk
    by_cases e : b n = true
    · refine ⟨m + 2 ^ n, by rw [Nat.pow_succ]; omega, ?_⟩
      rw [if_pos e, h2, show (1 : Int32) = nI 1 from rfl, pk_shlN _ n (s_l n (by omega)) (by omega), Nat.one_mul]
      have h3 := fa_or_sum' (b := 1) h1
      rw [Nat.mul_one] at h3
      rw [nx_or', Nat.or_comm, h3, Nat.add_comm]
    · exact ⟨m, by rw [Nat.pow_succ]; omega, by rw [if_neg e, h2]⟩
theorem k_bitsM {b : Nat → Bool} {n : Nat} (hn : n ≤ 16) : f_J6_bitCount_0f7a4 (msk b n) = some (nI (cntb b n)) := by
  obtain ⟨m, h1, h2⟩ := msk_N b n hn
  have hp : 2 ^ n ≤ 2 ^ 16 := Nat.pow_le_pow_right (by decide) hn
  rw [k_bits h2 (by omega)]
  refine congrArg (fun z => some (nI z)) ?_
  rw [cntb_cg (fun k hk => hb_msk (b := b) (n := n) (by omega) (show k < 32 by omega))]
  exact cntb_ext hn
end MB3
