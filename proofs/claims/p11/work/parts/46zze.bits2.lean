/-! bitCount counts the bits -/
theorem land_split {a b p q : Nat} (ha : a < 256) (hp : p < 256) : (a + 256 * b) &&& (p + 256 * q) = (a &&& p) + 256 * (b &&& q) := by
  apply Nat.eq_of_testBit_eq
  intro i
  have e : (256 : Nat) = 2 ^ 8 := rfl
  rw [Nat.testBit_and, Nat.add_comm a, Nat.add_comm p, Nat.add_comm (a &&& p), e, Nat.testBit_two_pow_mul_add _ (by omega), Nat.testBit_two_pow_mul_add _ (by omega), Nat.testBit_two_pow_mul_add _ (Nat.lt_of_le_of_lt Nat.and_le_left (by omega))]
  by_cases h : i < 8
  · rw [if_pos h, if_pos h, if_pos h, Nat.testBit_and]
  · rw [if_neg h, if_neg h, if_neg h, Nat.testBit_and]
def bu (b : Nat) : Nat := b - (b / 2 &&& 85)
def bv (c : Nat) : Nat := (c &&& 51) + (c / 4 &&& 51)
def bw (d : Nat) : Nat := (d + d / 16) % 16
def pB (b : Nat) : Nat := bw (bv (bu b))
theorem byte1 : ∀ b, b < 256 → (b / 2 &&& 85) ≤ b ∧ ((b / 2 + 128) &&& 85) = (b / 2 &&& 85) := by decide +kernel
theorem byte2 : ∀ c, c < 256 → ((c / 4 + 64) &&& 51) = (c / 4 &&& 51) ∧ ((c / 4 + 128) &&& 51) = (c / 4 &&& 51) ∧ ((c / 4 + 192) &&& 51) = (c / 4 &&& 51) ∧ bv c < 256 := by decide +kernel
theorem byte3 : ∀ b, b < 256 → bv (bu b) % 16 ≤ 4 ∧ bv (bu b) / 16 ≤ 4 := by decide +kernel
theorem byte4 : ∀ d, d < 256 → (d &&& 15) = d % 16 := by decide +kernel
theorem s1 {b R p : Nat} (hb : b < 256) : ((b + 256 * R) / 2 &&& (85 + 256 * p)) = (b / 2 &&& 85) + 256 * (R / 2 &&& p) := by
  have h := (byte1 b hb).2
  rcases Nat.mod_two_eq_zero_or_one R with q | q
  · rw [show (b + 256 * R) / 2 = b / 2 + 256 * (R / 2) by omega, land_split (by omega) (by omega)]
  · rw [show (b + 256 * R) / 2 = (b / 2 + 128) + 256 * (R / 2) by omega, land_split (by omega) (by omega), h]
theorem s2 {c S p : Nat} (hc : c < 256) : ((c + 256 * S) / 4 &&& (51 + 256 * p)) = (c / 4 &&& 51) + 256 * (S / 4 &&& p) := by
  obtain ⟨h1, h2, h3, -⟩ := byte2 c hc
  have : S % 4 = 0 ∨ S % 4 = 1 ∨ S % 4 = 2 ∨ S % 4 = 3 := by omega
  rcases this with q | q | q | q
  · rw [show (c + 256 * S) / 4 = c / 4 + 256 * (S / 4) by omega, land_split (by omega) (by omega)]
  · rw [show (c + 256 * S) / 4 = (c / 4 + 64) + 256 * (S / 4) by omega, land_split (by omega) (by omega), h1]
  · rw [show (c + 256 * S) / 4 = (c / 4 + 128) + 256 * (S / 4) by omega, land_split (by omega) (by omega), h2]
  · rw [show (c + 256 * S) / 4 = (c / 4 + 192) + 256 * (S / 4) by omega, land_split (by omega) (by omega), h3]
theorem s3 {d T p : Nat} (hd : d % 16 ≤ 4) (hd2 : d / 16 ≤ 4) (hT : T % 16 ≤ 4) : ((d + 256 * T) + (d + 256 * T) / 16 &&& (15 + 256 * p)) = bw d + 256 * (T + T / 16 &&& p) := by
  rw [show (d + 256 * T) + (d + 256 * T) / 16 = (d + d / 16 + 16 * (T % 16)) + 256 * (T + T / 16) by omega, land_split (by omega) (by omega), byte4 _ (by omega)]
  unfold bw
  congr 1
  omega
theorem s0 {x : Nat} (h : x < 256) : x = x + 256 * 0 := by omega
/-- the sum of four bytes' counts, as the JDK computes it -/
theorem cnt32 {b0 b1 b2 b3 : Nat} (h0 : b0 < 256) (h1 : b1 < 256) (h2 : b2 < 256) (h3 : b3 < 256) :
    ∃ X1 X2 X3 : Nat, (b0 + 256 * (b1 + 256 * (b2 + 256 * b3))) - ((b0 + 256 * (b1 + 256 * (b2 + 256 * b3))) / 2 &&& 1431655765) = X1 ∧ ((b0 + 256 * (b1 + 256 * (b2 + 256 * b3))) / 2 &&& 1431655765) ≤ b0 + 256 * (b1 + 256 * (b2 + 256 * b3)) ∧ X1 < 2 ^ 32 ∧ (X1 &&& 858993459) + (X1 / 4 &&& 858993459) = X2 ∧ X2 < 2 ^ 32 ∧ X2 + X2 / 16 < 2 ^ 32 ∧ (X2 + X2 / 16 &&& 252645135) = X3 ∧ X3 = pB b0 + 256 * (pB b1 + 256 * (pB b2 + 256 * pB b3)) := by
  have hb : ∀ b, b < 256 → bu b < 256 := fun b hb => by unfold bu; omega
  have y0 := byte1 b0 h0
  have y1 := byte1 b1 h1
  have y2 := byte1 b2 h2
  have y3 := byte1 b3 h3
  have e5 : (1431655765 : Nat) = 85 + 256 * (85 + 256 * (85 + 256 * 85)) := rfl
  have e3 : (858993459 : Nat) = 51 + 256 * (51 + 256 * (51 + 256 * 51)) := rfl
  have ef : (252645135 : Nat) = 15 + 256 * (15 + 256 * (15 + 256 * 15)) := rfl
  have f1 : ((b0 + 256 * (b1 + 256 * (b2 + 256 * b3))) / 2 &&& 1431655765) = (b0 / 2 &&& 85) + 256 * ((b1 / 2 &&& 85) + 256 * ((b2 / 2 &&& 85) + 256 * (b3 / 2 &&& 85))) := by
    rw [e5, s1 h0, s1 h1, s1 h2]
  have g1 : (b0 + 256 * (b1 + 256 * (b2 + 256 * b3))) - ((b0 + 256 * (b1 + 256 * (b2 + 256 * b3))) / 2 &&& 1431655765) = bu b0 + 256 * (bu b1 + 256 * (bu b2 + 256 * bu b3)) := by
    rw [f1]
    unfold bu
    omega
  have z0 := hb b0 h0
  have z1 := hb b1 h1
  have z2 := hb b2 h2
  have z3 := hb b3 h3
  have v0 := (byte2 _ z0).2.2.2
  have v1 := (byte2 _ z1).2.2.2
  have v2 := (byte2 _ z2).2.2.2
  have v3 := (byte2 _ z3).2.2.2
  have n0 := byte3 b0 h0
  have n1 := byte3 b1 h1
  have n2 := byte3 b2 h2
  have n3 := byte3 b3 h3
  have g2 : ((bu b0 + 256 * (bu b1 + 256 * (bu b2 + 256 * bu b3))) &&& 858993459) + ((bu b0 + 256 * (bu b1 + 256 * (bu b2 + 256 * bu b3))) / 4 &&& 858993459) = bv (bu b0) + 256 * (bv (bu b1) + 256 * (bv (bu b2) + 256 * bv (bu b3))) := by
    rw [e3, s2 z0, s2 z1, s2 z2, land_split z0 (by omega), land_split z1 (by omega), land_split z2 (by omega)]
    unfold bv
    omega
  have g3 : ((bv (bu b0) + 256 * (bv (bu b1) + 256 * (bv (bu b2) + 256 * bv (bu b3)))) + (bv (bu b0) + 256 * (bv (bu b1) + 256 * (bv (bu b2) + 256 * bv (bu b3)))) / 16 &&& 252645135) = pB b0 + 256 * (pB b1 + 256 * (pB b2 + 256 * pB b3)) := by
    rw [ef, s3 n0.1 n0.2 (by omega), s3 n1.1 n1.2 (by omega), s3 n2.1 n2.2 (by omega), byte4 _ (by omega)]
    rfl
  refine ⟨_, _, _, rfl, ?_, ?_, rfl, ?_, ?_, rfl, ?_⟩
  · rw [f1]; omega
  · rw [g1]; omega
  · rw [g1, g2]; omega
  · rw [g1, g2]; omega
  · rw [g1, g2, g3]
theorem pB_8 : ∀ b, b < 256 → pB b ≤ 8 := by decide +kernel
def tbN (X : Nat) : Nat → Nat
  | 0 => 0
  | n + 1 => tbN X n + if X.testBit n then 1 else 0
theorem pB_tb : ∀ b, b < 256 → pB b = tbN b 8 := by decide +kernel
theorem tbN_lo {a R : Nat} (ha : a < 256) : ∀ n, n ≤ 8 → tbN (a + 256 * R) n = tbN a n
  | 0, _ => rfl
  | n + 1, h => by
    unfold tbN
    have e : (256 : Nat) = 2 ^ 8 := rfl
    rw [tbN_lo ha n (by omega), Nat.add_comm a, e, Nat.testBit_two_pow_mul_add _ (by omega), if_pos (show n < 8 by omega)]
theorem tbN_hi {a R : Nat} (ha : a < 256) : ∀ n, tbN (a + 256 * R) (8 + n) = tbN a 8 + tbN R n
  | 0 => by rw [Nat.add_zero, tbN_lo ha 8 (Nat.le_refl _)]; rfl
  | n + 1 => by
    have e : (256 : Nat) = 2 ^ 8 := rfl
    show tbN (a + 256 * R) (8 + n) + (if (a + 256 * R).testBit (8 + n) then 1 else 0) = tbN a 8 + (tbN R n + if R.testBit n then 1 else 0)
    rw [tbN_hi ha n, Nat.add_comm a, e, Nat.testBit_two_pow_mul_add _ (by omega), if_neg (show ¬ 8 + n < 8 by omega), show 8 + n - 8 = n by omega, Nat.add_assoc]
theorem tb_four {b0 b1 b2 b3 : Nat} (h0 : b0 < 256) (h1 : b1 < 256) (h2 : b2 < 256) (h3 : b3 < 256) : tbN (b0 + 256 * (b1 + 256 * (b2 + 256 * b3))) 32 = pB b0 + (pB b1 + (pB b2 + pB b3)) := by
  rw [show 32 = 8 + (8 + (8 + 8)) from rfl, tbN_hi h0, tbN_hi h1, tbN_hi h2, pB_tb b0 h0, pB_tb b1 h1, pB_tb b2 h2, pB_tb b3 h3]
theorem pcN_tb (x : Int32) : ∀ n, pcN x n = tbN (vN x) n
  | 0 => rfl
  | n + 1 => by
    unfold pcN tbN
    rw [pcN_tb x n]
    rfl
/-- shifts without sign, as the walk writes them -/
theorem vN_ushr {x k : Int32} {n : Nat} (hk : ((k.toUInt32 &&& Int32.toUInt32 31).toBitVec % 32).toNat = n) : vN (x.toUInt32 >>> (k.toUInt32 &&& Int32.toUInt32 31)).toInt32 = vN x / 2 ^ n := by
  unfold vN
  show (x.toUInt32 >>> (k.toUInt32 &&& Int32.toUInt32 31)).toBitVec.toNat = _
  rw [UInt32.toBitVec_shiftRight, BitVec.ushiftRight_eq', BitVec.toNat_ushiftRight, Nat.shiftRight_eq_div_pow, hk]
  rfl
theorem vN_and (x y : Int32) : vN (x &&& y) = vN x &&& vN y := by
  unfold vN
  rw [Int32.toBitVec_and, BitVec.toNat_and]
theorem vN_add {x y : Int32} (h : vN x + vN y < 2 ^ 32) : vN (x + y) = vN x + vN y := by
  unfold vN at *
  rw [Int32.toBitVec_add, BitVec.toNat_add, Nat.mod_eq_of_lt h]
theorem vN_sub {x y : Int32} (h : vN y ≤ vN x) : vN (x - y) = vN x - vN y := by
  have := vN_lt x
  unfold vN at *
  rw [Int32.toBitVec_sub, BitVec.toNat_sub]
  omega
theorem vN_inj {x : Int32} {n : Nat} (h : vN x = n) (hn : n < 2 ^ 31) : x = nI n := by
  unfold vN at h
  apply Int32.toBitVec_inj.mp
  apply BitVec.eq_of_toNat_eq
  rw [h]
  show n = (Int32.ofNat n).toBitVec.toNat
  rw [Int32.toBitVec_ofNat', BitVec.toNat_ofNat]
  omega
abbrev ush (x k : Int32) : Int32 := (x.toUInt32 >>> (k.toUInt32 &&& Int32.toUInt32 31)).toInt32
def bcF (x : Int32) : Int32 :=
  let x1 := x - (ush x 1 &&& 1431655765)
  let x2 := (x1 &&& 858993459) + (ush x1 2 &&& 858993459)
  let x3 := (x2 + ush x2 4) &&& 252645135
  let x4 := x3 + ush x3 8
  let x5 := x4 + ush x4 16
  x5 &&& 63
theorem and63 : ∀ n, n ≤ 32 → (n &&& 63) = n := by decide +kernel
theorem bcF_eq (x : Int32) : bcF x = nI (pcN x 32) := by
  obtain ⟨b0, b1, b2, b3, h0, h1, h2, h3, e⟩ : ∃ b0 b1 b2 b3, b0 < 256 ∧ b1 < 256 ∧ b2 < 256 ∧ b3 < 256 ∧ vN x = b0 + 256 * (b1 + 256 * (b2 + 256 * b3)) := by
    have := vN_lt x
    exact ⟨vN x % 256, vN x / 256 % 256, vN x / 65536 % 256, vN x / 16777216, by omega, by omega, by omega, by omega, by omega⟩
  obtain ⟨X1, X2, X3, c1, c2, c3, c4, c5, c6, c7, c8⟩ := cnt32 h0 h1 h2 h3
  have k1 : vN (1431655765 : Int32) = 1431655765 := by decide
  have k2 : vN (858993459 : Int32) = 858993459 := by decide
  have k3 : vN (252645135 : Int32) = 252645135 := by decide
  have k4 : vN (63 : Int32) = 63 := by decide
  have u1 : vN (ush x 1 &&& 1431655765) = ((b0 + 256 * (b1 + 256 * (b2 + 256 * b3))) / 2 &&& 1431655765) := by rw [vN_and, vN_ushr (n := 1) (by decide), k1, e]
  have v1 : vN (x - (ush x 1 &&& 1431655765)) = X1 := by rw [vN_sub (by rw [u1, e]; exact c2), u1, e]; exact c1
  unfold bcF
  simp only []
  generalize x - (ush x 1 &&& 1431655765) = x1 at v1 ⊢
  have u2 : vN (ush x1 2 &&& 858993459) = (X1 / 4 &&& 858993459) := by rw [vN_and, vN_ushr (n := 2) (by decide), k2, v1]
  have u2b : vN (x1 &&& 858993459) = (X1 &&& 858993459) := by rw [vN_and, k2, v1]
  have v2 : vN ((x1 &&& 858993459) + (ush x1 2 &&& 858993459)) = X2 := by rw [vN_add (by rw [u2, u2b, c4]; exact c5), u2, u2b]; exact c4
  generalize (x1 &&& 858993459) + (ush x1 2 &&& 858993459) = x2 at v2 ⊢
  have u3 : vN (ush x2 4) = X2 / 16 := by rw [vN_ushr (n := 4) (by decide), v2]
  have v3 : vN ((x2 + ush x2 4) &&& 252645135) = X3 := by rw [vN_and, vN_add (by rw [u3, v2]; exact c6), u3, v2, k3]; exact c7
  generalize (x2 + ush x2 4) &&& 252645135 = x3 at v3 ⊢
  have p0 := pB_8 b0 h0
  have p1 := pB_8 b1 h1
  have p2 := pB_8 b2 h2
  have p3 := pB_8 b3 h3
  have u4 : vN (ush x3 8) = X3 / 256 := by rw [vN_ushr (n := 8) (by decide), v3]
  have v4 : vN (x3 + ush x3 8) = X3 + X3 / 256 := by rw [vN_add (by rw [u4, v3]; omega), u4, v3]
  generalize x3 + ush x3 8 = x4 at v4 ⊢
  have u5 : vN (ush x4 16) = (X3 + X3 / 256) / 65536 := by rw [vN_ushr (n := 16) (by decide), v4]
  have v5 : vN (x4 + ush x4 16) = (X3 + X3 / 256) + (X3 + X3 / 256) / 65536 := by rw [vN_add (by rw [u5, v4]; omega), u5, v4]
  generalize x4 + ush x4 16 = x5 at v5 ⊢
  refine vN_inj ?_ ?_
  · rw [vN_and, v5, k4, pcN_tb, e, tb_four h0 h1 h2 h3]
    have d1 : X3 / 256 = pB b1 + 256 * (pB b2 + 256 * pB b3) := by omega
    have d2 : (X3 + X3 / 256) / 65536 = pB b2 + pB b3 + 256 * pB b3 := by omega
    obtain ⟨Q, hQ⟩ : ∃ Q, (X3 + X3 / 256) + (X3 + X3 / 256) / 65536 = (pB b0 + (pB b1 + (pB b2 + pB b3))) + 256 * Q := ⟨pB b1 + pB b2 + pB b3 + 256 * (pB b2 + pB b3) + 65536 * pB b3, by rw [d2, d1, c8]; omega⟩
    rw [hQ, show (63 : Nat) = 63 + 256 * 0 from rfl, land_split (by omega) (by omega), Nat.and_zero, and63 _ (by omega)]
    omega
  · have := pcN_le x 32
    omega
