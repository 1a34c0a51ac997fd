/-! Long.bitCount; the least node of a set -/
def rep (m : Nat) : Nat → Nat
  | 0 => 0
  | k + 1 => 256 * rep m k + m
def q1 (k x : Nat) : Nat := x - ((x / 2) &&& rep 85 k)
def q2 (k x : Nat) : Nat := (x &&& rep 51 k) + ((x / 4) &&& rep 51 k)
def q3 (k x : Nat) : Nat := (x + x / 16) &&& rep 15 k
theorem and_split (a c M m : Nat) (hc : c < 256) (hm : m < 256) : (256 * a + c) &&& (256 * M + m) = 256 * (a &&& M) + (c &&& m) := by
  refine Nat.eq_of_testBit_eq fun i => ?_
  have h3 : c &&& m < 2 ^ 8 := Nat.lt_of_le_of_lt Nat.and_le_left hc
  rw [show (256 : Nat) = 2 ^ 8 from rfl, Nat.testBit_and, Nat.testBit_two_pow_mul_add a hc, Nat.testBit_two_pow_mul_add M hm, Nat.testBit_two_pow_mul_add _ h3]
  split <;> simp [Nat.testBit_and]
theorem by1 : ∀ b, b < 256 → ∀ e, e < 2 → (128 * e + b / 2) &&& 85 = (b / 2) &&& 85 := by decide +kernel
theorem by2 : ∀ b, b < 256 → ∀ e, e < 4 → (64 * e + b / 4) &&& 51 = (b / 4) &&& 51 := by decide +kernel
theorem by3 : ∀ b, b < 69 → ∀ e, e < 5 → (b + (16 * e + b / 16)) &&& 15 = (b + b / 16) &&& 15 := by decide +kernel
def z1 (b : Nat) : Nat := b - ((b / 2) &&& 85)
def z2 (b : Nat) : Nat := (b &&& 51) + ((b / 4) &&& 51)
def z3 (b : Nat) : Nat := (b + b / 16) &&& 15
theorem bz : ∀ b, b < 256 → z1 b < 256 ∧ z2 (z1 b) < 69 ∧ z2 (z1 b) % 16 ≤ 4 ∧ z3 (z2 (z1 b)) = fb_ct (fun i => b.testBit i) 8 := by decide +kernel
theorem q1_s (k x b : Nat) (hb : b < 256) : q1 (k + 1) (256 * x + b) = 256 * q1 k x + z1 b := by
  have e1 : (256 * x + b) / 2 = 256 * (x / 2) + (128 * (x % 2) + b / 2) := by omega
  have h1 := by1 b hb (x % 2) (by omega)
  have h2 : (x / 2) &&& rep 85 k ≤ x / 2 := Nat.and_le_left
  have h3 : (b / 2) &&& 85 ≤ b / 2 := Nat.and_le_left
  rw [q1, q1, z1, rep, e1, and_split _ _ _ _ (by omega) (by decide), h1]
  omega
theorem q2_s (k x b : Nat) (hb : b < 256) : q2 (k + 1) (256 * x + b) = 256 * q2 k x + z2 b := by
  have e1 : (256 * x + b) / 4 = 256 * (x / 4) + (64 * (x % 4) + b / 4) := by omega
  rw [q2, q2, z2, rep, e1, and_split _ _ _ _ hb (by decide), and_split _ _ _ _ (by omega) (by decide), by2 b hb (x % 4) (by omega)]
  omega
theorem q3_s (k x b : Nat) (hb : b < 69) (hx : x % 16 ≤ 4) : q3 (k + 1) (256 * x + b) = 256 * q3 k x + z3 b := by
  have e1 : 256 * x + b + (256 * x + b) / 16 = 256 * (x + x / 16) + (b + (16 * (x % 16) + b / 16)) := by omega
  rw [q3, q3, z3, rep, e1, and_split _ _ _ _ (by omega) (by decide), by3 b hb (x % 16) (by omega)]
theorem q21_mod : ∀ k x, x < 256 ^ k → q2 k (q1 k x) % 16 ≤ 4
  | 0, x, h => by
    rw [show x = 0 by simpa using h]
    decide
  | k + 1, x, h => by
    have e : x = 256 * (x / 256) + x % 256 := by omega
    have hb := bz (x % 256) (by omega)
    rw [e, q1_s _ _ _ (by omega), q2_s _ _ _ hb.1]
    omega
/-- the counts of the bytes, a byte each -/
def dig : Nat → Nat → Nat
  | 0, _ => 0
  | k + 1, x => 256 * dig k (x / 256) + fb_ct (fun i => (x % 256).testBit i) 8
theorem q_dig : ∀ k x, x < 256 ^ k → q3 k (q2 k (q1 k x)) = dig k x
  | 0, x, h => by
    rw [show x = 0 by simpa using h]
    decide
  | k + 1, x, h => by
    have e : x = 256 * (x / 256) + x % 256 := by omega
    have hb := bz (x % 256) (by omega)
    have hx : x / 256 < 256 ^ k := by rw [Nat.pow_succ] at h; omega
    have h2 := q21_mod k (x / 256) hx
    have ih := q_dig k (x / 256) hx
    have e2 : q3 (k + 1) (q2 (k + 1) (q1 (k + 1) (256 * (x / 256) + x % 256))) = 256 * q3 k (q2 k (q1 k (x / 256))) + z3 (z2 (z1 (x % 256))) := by
      rw [q1_s _ _ _ (by omega), q2_s _ _ _ hb.1, q3_s _ _ _ hb.2.1 h2]
    rw [← e] at e2
    rw [e2, ih, hb.2.2.2, dig]
theorem ct_bytes (k x : Nat) : fb_ct (fun i => x.testBit i) (8 + k) = fb_ct (fun i => (x % 256).testBit i) 8 + fb_ct (fun i => (x / 256).testBit i) k := by
  rw [fb_ct_split]
  congr 1
  · refine fb_ct_cong (fun i hi => ?_)
    rw [show (256 : Nat) = 2 ^ 8 from rfl, Nat.testBit_mod_two_pow, decide_eq_true hi, Bool.true_and]
  · refine fb_ct_cong (fun i hi => ?_)
    rw [show (256 : Nat) = 2 ^ 8 from rfl, Nat.testBit_div_two_pow, Nat.add_comm]
theorem uN_and (a b : Int64) : uN (a &&& b) = uN a &&& uN b := rfl
theorem uN_sub (a b : Int64) (h : uN b ≤ uN a) : uN (a - b) = uN a - uN b := by
  have h1 := uN_lt a
  have h2 := uN_lt b
  have e : uN (a - b) = (2 ^ 64 - uN b + uN a) % 2 ^ 64 := BitVec.toNat_sub ..
  rw [e]; omega
theorem rep85 : rep 85 8 = 6148914691236517205 := by decide
theorem rep51 : rep 51 8 = 3689348814741910323 := by decide
theorem rep15 : rep 15 8 = 1085102592571150095 := by decide
theorem dv {x h p : Nat} (hx : x = 256 * h + p) (hp : p < 256) : x / 256 = h := by omega
theorem adv {x y a b p q : Nat} (hx : x = 256 * a + p) (hy : y = 256 * b + q) : x + y = 256 * (a + b) + (p + q) := by omega
theorem md {x h p : Nat} (hx : x = 256 * h + p) (hp : p < 128) : x % 128 = p := by omega
theorem pop_ar {p0 p1 p2 p3 p4 p5 p6 p7 h1 h2 h3 h4 h5 h6 : Nat} (hp0 : p0 ≤ 8) (hp1 : p1 ≤ 8) (hp2 : p2 ≤ 8) (hp3 : p3 ≤ 8) (hp4 : p4 ≤ 8) (hp5 : p5 ≤ 8) (hp6 : p6 ≤ 8) (hp7 : p7 ≤ 8) (g1 : h1 = 256 * h2 + p1) (g2 : h2 = 256 * h3 + p2) (g3 : h3 = 256 * h4 + p3) (g4 : h4 = 256 * h5 + p4) (g5 : h5 = 256 * h6 + p5) (g6 : h6 = 256 * p7 + p6) :
    ((256 * h1 + p0 + h1) + (256 * h1 + p0 + h1) / 65536 + ((256 * h1 + p0 + h1) + (256 * h1 + p0 + h1) / 65536) / 4294967296) % 128 = p0 + (p1 + (p2 + (p3 + (p4 + (p5 + (p6 + p7)))))) := by
  have b1 : p0 + p1 ≤ 16 := Nat.add_le_add hp0 hp1
  have b2 : p1 + p2 ≤ 16 := Nat.add_le_add hp1 hp2
  have b3 : p2 + p3 ≤ 16 := Nat.add_le_add hp2 hp3
  have b4 : p3 + p4 ≤ 16 := Nat.add_le_add hp3 hp4
  have b5 : p4 + p5 ≤ 16 := Nat.add_le_add hp4 hp5
  have b6 : p5 + p6 ≤ 16 := Nat.add_le_add hp5 hp6
  have b7 : p6 + p7 ≤ 16 := Nat.add_le_add hp6 hp7
  have w0 : 256 * h1 + p0 + h1 = 256 * (h1 + h2) + (p0 + p1) := adv rfl g1
  have w1 := adv g1 g2
  have w2 := adv g2 g3
  have w3 := adv g3 g4
  have w4 := adv g4 g5
  have w5 := adv g5 g6
  have k1 : (256 * h1 + p0 + h1) / 65536 = h2 + h3 := by
    rw [show (65536 : Nat) = 256 * 256 from rfl, ← Nat.div_div_eq_div_mul, dv w0 (Nat.lt_of_le_of_lt b1 (by decide)), dv w1 (Nat.lt_of_le_of_lt b2 (by decide))]
  rw [k1]
  have c1 : p0 + p1 + (p2 + p3) ≤ 32 := Nat.add_le_add b1 b3
  have c2 : p1 + p2 + (p3 + p4) ≤ 32 := Nat.add_le_add b2 b4
  have c3 : p2 + p3 + (p4 + p5) ≤ 32 := Nat.add_le_add b3 b5
  have c4 : p3 + p4 + (p5 + p6) ≤ 32 := Nat.add_le_add b4 b6
  have c5 : p4 + p5 + (p6 + p7) ≤ 32 := Nat.add_le_add b5 b7
  have n0 := adv w0 w2
  have n1 := adv w1 w3
  have n2 := adv w2 w4
  have n3 := adv w3 w5
  have w6 : h6 + p7 = 256 * p7 + (p6 + p7) := by rw [g6, Nat.add_assoc]
  have n4 := adv w4 w6
  have k2 : (256 * h1 + p0 + h1 + (h2 + h3)) / 4294967296 = h4 + h5 + (h6 + p7) := by
    rw [show (4294967296 : Nat) = 256 * 256 * 256 * 256 from rfl, ← Nat.div_div_eq_div_mul, ← Nat.div_div_eq_div_mul, ← Nat.div_div_eq_div_mul, dv n0 (Nat.lt_of_le_of_lt c1 (by decide)), dv n1 (Nat.lt_of_le_of_lt c2 (by decide)), dv n2 (Nat.lt_of_le_of_lt c3 (by decide)), dv n3 (Nat.lt_of_le_of_lt c4 (by decide))]
  rw [k2]
  have v := adv n0 n4
  have c6 : p0 + p1 + (p2 + p3) + (p4 + p5 + (p6 + p7)) ≤ 64 := Nat.add_le_add c1 c5
  rw [md v (Nat.lt_of_le_of_lt c6 (by decide))]
  clear v c6 k2 n4 w6 n3 n2 n1 n0 c5 c4 c3 c2 c1 k1 w5 w4 w3 w2 w1 w0 b7 b6 b5 b4 b3 b2 b1 g1 g2 g3 g4 g5 g6 hp0 hp1 hp2 hp3 hp4 hp5 hp6 hp7
  omega
theorem s_popL (a : Int64) : f_J13_bitCount_95d88 a = some (nI (fb_ct (zt a) 64)) := by
  have hA := uN_lt a
  refine zbd_eq.trans ?_
  have e1 : uN (a - (j_lushr a 1 &&& 6148914691236517205)) = q1 8 (uN a) := by
    have h : uN (j_lushr a 1 &&& 6148914691236517205) = (uN a / 2) &&& rep 85 8 := by
      rw [uN_and, show j_lushr a 1 = j_lushr a (nI 1) from rfl, uN_ushr a (by decide), rep85]; rfl
    have hle : (uN a / 2) &&& rep 85 8 ≤ uN a / 2 := Nat.and_le_left
    rw [uN_sub _ _ (by rw [h]; omega), h]; rfl
  generalize a - (j_lushr a 1 &&& 6148914691236517205) = x1 at e1 ⊢
  refine zbd_eq.trans ?_
  have b51 : ∀ y : Nat, y &&& rep 51 8 ≤ 3689348814741910323 := fun y => by rw [← rep51]; exact Nat.and_le_right
  have e2 : uN ((x1 &&& 3689348814741910323) + (j_lushr x1 2 &&& 3689348814741910323)) = q2 8 (q1 8 (uN a)) := by
    have h1 : uN (x1 &&& 3689348814741910323) = uN x1 &&& rep 51 8 := by rw [uN_and, rep51]; rfl
    have h2 : uN (j_lushr x1 2 &&& 3689348814741910323) = (uN x1 / 4) &&& rep 51 8 := by
      rw [uN_and, show j_lushr x1 2 = j_lushr x1 (nI 2) from rfl, uN_ushr x1 (by decide), rep51]; rfl
    have h3 := b51 (uN x1)
    have h4 := b51 (uN x1 / 4)
    rw [uN_add, h1, h2, Nat.mod_eq_of_lt (by omega), e1]; rfl
  generalize (x1 &&& 3689348814741910323) + (j_lushr x1 2 &&& 3689348814741910323) = x2 at e2 ⊢
  refine zbd_eq.trans ?_
  have hx2 : uN x2 ≤ 7378697629483820646 := by
    have h3 := b51 (q1 8 (uN a))
    have h4 := b51 (q1 8 (uN a) / 4)
    rw [e2, q2]; omega
  have e3 : uN ((x2 + j_lushr x2 4) &&& 1085102592571150095) = dig 8 (uN a) := by
    have h1 : uN (j_lushr x2 4) = uN x2 / 16 := by rw [show j_lushr x2 4 = j_lushr x2 (nI 4) from rfl, uN_ushr x2 (by decide)]
    rw [uN_and, uN_add, h1, Nat.mod_eq_of_lt (by omega), e2, ← q_dig 8 (uN a) hA, q3, rep15]; rfl
  generalize (x2 + j_lushr x2 4) &&& 1085102592571150095 = x3 at e3 ⊢
  -- the eight counts
  obtain ⟨p0, p1, p2, p3, p4, p5, p6, p7, h1, h2, h3, h4, h5, h6, hp0, hp1, hp2, hp3, hp4, hp5, hp6, hp7, hx3, g1, g2, g3, g4, g5, g6, hsum⟩ : ∃ p0 p1 p2 p3 p4 p5 p6 p7 h1 h2 h3 h4 h5 h6 : Nat, p0 ≤ 8 ∧ p1 ≤ 8 ∧ p2 ≤ 8 ∧ p3 ≤ 8 ∧ p4 ≤ 8 ∧ p5 ≤ 8 ∧ p6 ≤ 8 ∧ p7 ≤ 8 ∧ uN x3 = 256 * h1 + p0 ∧ h1 = 256 * h2 + p1 ∧ h2 = 256 * h3 + p2 ∧ h3 = 256 * h4 + p3 ∧ h4 = 256 * h5 + p4 ∧ h5 = 256 * h6 + p5 ∧ h6 = 256 * p7 + p6 ∧ fb_ct (zt a) 64 = p0 + (p1 + (p2 + (p3 + (p4 + (p5 + (p6 + p7)))))) := by
    refine ⟨_, _, _, _, _, _, _, _, dig 7 (uN a / 256), dig 6 (uN a / 256 / 256), dig 5 (uN a / 256 / 256 / 256), dig 4 (uN a / 256 / 256 / 256 / 256), dig 3 (uN a / 256 / 256 / 256 / 256 / 256), dig 2 (uN a / 256 / 256 / 256 / 256 / 256 / 256), ct_le (fun i => (uN a % 256).testBit i) 8, ct_le (fun i => (uN a / 256 % 256).testBit i) 8, ct_le (fun i => (uN a / 256 / 256 % 256).testBit i) 8, ct_le (fun i => (uN a / 256 / 256 / 256 % 256).testBit i) 8, ct_le (fun i => (uN a / 256 / 256 / 256 / 256 % 256).testBit i) 8, ct_le (fun i => (uN a / 256 / 256 / 256 / 256 / 256 % 256).testBit i) 8, ct_le (fun i => (uN a / 256 / 256 / 256 / 256 / 256 / 256 % 256).testBit i) 8, ct_le (fun i => (uN a / 256 / 256 / 256 / 256 / 256 / 256 / 256 % 256).testBit i) 8, e3, rfl, rfl, rfl, rfl, rfl, ?_, ?_⟩
    · show 256 * (256 * 0 + _) + _ = _
      rw [Nat.mul_zero, Nat.zero_add]
    · have e0 : fb_ct (zt a) 64 = fb_ct (fun i => (uN a).testBit i) (8 + 56) := rfl
      rw [e0, ct_bytes 56 (uN a), show (56 : Nat) = 8 + 48 from rfl, ct_bytes 48 (uN a / 256), show (48 : Nat) = 8 + 40 from rfl, ct_bytes 40, show (40 : Nat) = 8 + 32 from rfl, ct_bytes 32, show (32 : Nat) = 8 + 24 from rfl, ct_bytes 24, show (24 : Nat) = 8 + 16 from rfl, ct_bytes 16, show (16 : Nat) = 8 + 8 from rfl, ct_bytes 8, show fb_ct (fun i => (uN a / 256 / 256 / 256 / 256 / 256 / 256 / 256).testBit i) 8 = fb_ct (fun i => (uN a / 256 / 256 / 256 / 256 / 256 / 256 / 256).testBit i) (8 + 0) from rfl, ct_bytes 0 (uN a / 256 / 256 / 256 / 256 / 256 / 256 / 256)]
      rfl
  clear e3 e2 e1 hx2 b51
  refine zbd_eq.trans ?_
  have e4 : uN (x3 + j_lushr x3 8) = uN x3 + uN x3 / 256 := by
    have h1 : uN (j_lushr x3 8) = uN x3 / 256 := by rw [show j_lushr x3 8 = j_lushr x3 (nI 8) from rfl, uN_ushr x3 (by decide)]
    rw [uN_add, h1, Nat.mod_eq_of_lt (by omega)]
  generalize x3 + j_lushr x3 8 = x4 at e4 ⊢
  refine zbd_eq.trans ?_
  have e5 : uN (x4 + j_lushr x4 16) = uN x4 + uN x4 / 65536 := by
    have h1 : uN (j_lushr x4 16) = uN x4 / 65536 := by rw [show j_lushr x4 16 = j_lushr x4 (nI 16) from rfl, uN_ushr x4 (by decide)]
    rw [uN_add, h1, Nat.mod_eq_of_lt (by omega)]
  generalize x4 + j_lushr x4 16 = x5 at e5 ⊢
  refine zbd_eq.trans ?_
  have e6 : uN (x5 + j_lushr x5 32) = uN x5 + uN x5 / 4294967296 := by
    have h1 : uN (j_lushr x5 32) = uN x5 / 4294967296 := by rw [show j_lushr x5 32 = j_lushr x5 (nI 32) from rfl, uN_ushr x5 (by decide)]
    rw [uN_add, h1, Nat.mod_eq_of_lt (by omega)]
  generalize x5 + j_lushr x5 32 = x6 at e6 ⊢
  refine zbd_eq.trans ?_
  have e7 : x6.toInt32 &&& (127 : Int32) = nI (uN x6 % 128) := by
    have h := lN_uN x6
    rw [← h, lN_i, show (127 : Int32) = nI (2 ^ 7 - 1) from rfl, nx_and, Nat.and_two_pow_sub_one_eq_mod, h]
  rw [e7, hsum, e6, e5, e4, hx3, dv rfl (by omega)]
  congr 1
  exact congrArg nI (pop_ar hp0 hp1 hp2 hp3 hp4 hp5 hp6 hp7 g1 g2 g3 g4 g5 g6)
/-! the least node -/
theorem ct_lt : ∀ n i, i ≤ n → fb_ct (fun j => decide (j < i)) n = i
  | 0, i, h => by rw [show i = 0 by omega]; rfl
  | n + 1, i, h => by
    rw [fb_ct_succ]
    by_cases q : i ≤ n
    · rw [ct_lt n i q, if_neg (by simp; omega)]; rfl
    · have e : i = n + 1 := by omega
      subst e
      rw [if_pos (by simp), fb_ct_cong (q := fun j => decide (j < n)) (fun k hk => by simp; omega), ct_lt n n (Nat.le_refl n)]
theorem low_bit {n i : Nat} (hn : n < 2 ^ 64) (hi : n.testBit i = true) (h0 : ∀ j, j < i → n.testBit j = false) : n &&& (2 ^ 64 - n) = 2 ^ i := by
  have hpos : 0 < n := Nat.pos_of_ne_zero (fun e => by rw [e, Nat.zero_testBit] at hi; cases hi)
  -- n = 2^i * (2q + 1)
  have hmod : n % 2 ^ i = 0 := Nat.eq_of_testBit_eq (fun j => by
    rw [Nat.testBit_mod_two_pow, Nat.zero_testBit]
    by_cases hj : j < i
    · simp [hj, h0 j hj]
    · simp [hj])
  have hm : n = 2 ^ i * (n / 2 ^ i) + 0 := by have := Nat.div_add_mod n (2 ^ i); omega
  have hodd : (n / 2 ^ i) % 2 = 1 := by
    have := Nat.testBit_div_two_pow (n := i) n 0
    rw [Nat.zero_add, hi, Nat.testBit_zero] at this
    simpa using this
  have hp : 0 < 2 ^ i := Nat.pow_pos (by decide)
  generalize n / 2 ^ i = m at hm hodd
  obtain ⟨q, rfl⟩ : ∃ q, m = 2 * q + 1 := ⟨m / 2, by omega⟩
  have hn1 : n - 1 = 2 ^ i * (2 * q) + (2 ^ i - 1) := by rw [hm, Nat.mul_add]; omega
  refine Nat.eq_of_testBit_eq (fun j => ?_)
  have e : 2 ^ 64 - n = 2 ^ 64 - ((n - 1) + 1) := by omega
  rw [Nat.testBit_and, e, Nat.testBit_two_pow_sub_succ (by omega), Nat.testBit_two_pow]
  by_cases hj : j < i
  · rw [h0 j hj, decide_eq_false (show ¬ i = j by omega)]; rfl
  · by_cases hj2 : i = j
    · subst hj2
      have hi64 : i < 64 := by
        rcases Nat.lt_or_ge i 64 with z | z
        · exact z
        · rw [Nat.testBit_lt_two_pow (Nat.lt_of_lt_of_le hn (Nat.pow_le_pow_right (by decide) z))] at hi; cases hi
      rw [hi, hn1, Nat.testBit_two_pow_mul_add _ (show 2 ^ i - 1 < 2 ^ i by omega), if_neg (Nat.lt_irrefl i), Nat.sub_self, Nat.testBit_zero]
      simp [hi64]
    · have h1 : n.testBit j = (2 * q + 1).testBit (j - i) := by
        rw [hm, Nat.testBit_two_pow_mul_add _ (show 0 < 2 ^ i from hp), if_neg hj]
      have h2 : (n - 1).testBit j = (2 * q).testBit (j - i) := by
        rw [hn1, Nat.testBit_two_pow_mul_add _ (show 2 ^ i - 1 < 2 ^ i by omega), if_neg hj]
      obtain ⟨k, hk⟩ : ∃ k, j - i = k + 1 := ⟨j - i - 1, by omega⟩
      have e1 : (2 * q + 1) / 2 = q := by omega
      have e2 : (2 * q) / 2 = q := by omega
      rw [h1, h2, hk, Nat.testBit_succ, Nat.testBit_succ, e1, e2, decide_eq_false hj2]
      cases q.testBit k <;> simp
theorem s_leastNode (a : Int64) {i : Nat} (hi : zt a i = true) (h0 : ∀ j, j < i → zt a j = false) : f_X6_leastNode a = some (nI i) := by
  have hi64 : i < 64 := by
    rcases Nat.lt_or_ge i 64 with z | z
    · exact z
    · rw [zt_big z] at hi; cases hi
  have hA := uN_lt a
  have hpos : 0 < uN a := Nat.pos_of_ne_zero (fun e => by rw [zt, e, Nat.zero_testBit] at hi; cases hi)
  have e1 : uN (a &&& (-a)) = 2 ^ i := by
    have hneg : uN (-a) = (2 ^ 64 - uN a) % 2 ^ 64 := BitVec.toNat_neg ..
    rw [uN_and, hneg, Nat.mod_eq_of_lt (by omega)]
    exact low_bit hA hi h0
  have hp : 0 < 2 ^ i := Nat.pow_pos (by decide)
  have e2 : uN ((a &&& (-a)) - 1) = 2 ^ i - 1 := by
    rw [uN_sub _ _ (by rw [e1]; exact hp), e1]; rfl
  refine (zob_eq (s_popL _)).trans ?_
  have e3 : fb_ct (zt ((a &&& (-a)) - 1)) 64 = i := by
    rw [fb_ct_cong (q := fun j => decide (j < i)) (fun k hk => by rw [zt, e2, Nat.testBit_two_pow_sub_one])]
    exact ct_lt 64 i (by omega)
  rw [e3]
