/-! numbers: Int64 as a set of nodes, small ints as numbers -/
def bI (b : Bool) : Int32 := bif b then 1 else 0
theorem bI_0 (b : Bool) : bI b = 0 ↔ b = false := by cases b <;> decide
theorem bI_1 (b : Bool) : bI b = 1 ↔ b = true := by cases b <;> decide
theorem isb_bI (b : Bool) : isb (bI b) = true := by cases b <;> rfl
theorem inb_nI {j n : Nat} (h : j < n) (hn : n < 2 ^ 31) : inb (nI j) n = true := by
  rw [inb, nI_toInt (by omega)]
  simp
  exact h
def zt (a : Int64) (v : Nat) : Bool := (uN a).testBit v
theorem lN_uN (a : Int64) : lN (uN a) = a := uN_inj (by
  show (lN (uN a)).toBitVec.toNat = uN a
  exact wb_tn (by have := uN_lt a; omega))
theorem uN_lN {n : Nat} (h : n < 18446744073709551616) : uN (lN n) = n := wb_tn (by omega)
theorem zt_big {a : Int64} {v : Nat} (h : 64 ≤ v) : zt a v = false := by
  have h1 := uN_lt a
  exact Nat.testBit_lt_two_pow (Nat.lt_of_lt_of_le h1 (Nat.pow_le_pow_right (n := 2) (by decide) h))
theorem zt_ext {a b : Int64} (h : ∀ v, v < 64 → zt a v = zt b v) : a = b := uN_inj (Nat.eq_of_testBit_eq fun i => by
  rcases Nat.lt_or_ge i 64 with q | q
  · exact h i q
  · exact (zt_big q).trans (zt_big q).symm)
theorem zt_and (a b : Int64) (v : Nat) : zt (a &&& b) v = (zt a v && zt b v) := BitVec.getLsbD_and ..
theorem zt_or (a b : Int64) (v : Nat) : zt (a ||| b) v = (zt a v || zt b v) := BitVec.getLsbD_or ..
theorem zt_xor (a b : Int64) (v : Nat) : zt (a ^^^ b) v = (zt a v ^^ zt b v) := BitVec.getLsbD_xor ..
theorem zt_0 (v : Nat) : zt 0 v = false := by
  show (0 : Nat).testBit v = false
  exact Nat.zero_testBit v
theorem uN_ushr (a : Int64) {k : Nat} (hk : k < 64) : uN (j_lushr a (nI k)) = uN a / 2 ^ k := uN_sk a hk
theorem zt_ushr (a : Int64) {k : Nat} (hk : k < 64) (v : Nat) : zt (j_lushr a (nI k)) v = zt a (k + v) := by
  rw [zt, uN_ushr a hk, Nat.testBit_div_two_pow, zt, Nat.add_comm]
theorem uN_mod (n : Nat) : uN (lN n) = n % 18446744073709551616 := by
  rw [wb_mod]
  exact uN_lN (Nat.mod_lt _ (by decide))
theorem j_lshl_lN (a : Int64) {k : Nat} (hk : k < 64) : j_lshl a (nI k) = lN (uN a * 2 ^ k) := by
  have h := wb_shl (uN a) hk
  rw [lN_uN] at h
  exact h
theorem zt_shl (a : Int64) {k : Nat} (hk : k < 64) {v : Nat} (hv : v < 64) : zt (j_lshl a (nI k)) v = (decide (k ≤ v) && zt a (v - k)) := by
  rw [j_lshl_lN a hk, zt, uN_mod, show (18446744073709551616 : Nat) = 2 ^ 64 from rfl, Nat.testBit_mod_two_pow, Nat.testBit_mul_two_pow, zt]
  simp [hv]
theorem zt_m1 {v : Nat} (hv : v < 64) : zt (-1) v = true := by
  have h : ∀ v, v < 64 → (uN (-1)).testBit v = true := by decide +kernel
  exact h v hv
theorem zt_one (v : Nat) : zt 1 v = decide (v = 0) := by
  show (1 : Nat).testBit v = _
  cases v with
  | zero => rfl
  | succ v =>
    rw [Nat.testBit_succ]
    show Nat.testBit 0 v = _
    rw [Nat.zero_testBit]
    simp
theorem zt_bit {k : Nat} (hk : k < 64) {v : Nat} (hv : v < 64) : zt (j_lshl 1 (nI k)) v = decide (v = k) := by
  rw [zt_shl _ hk hv, zt_one]
  by_cases h : k ≤ v <;> simp [h] <;> omega
theorem s_contains (a : Int64) {v : Nat} (hv : v < 64) : f_X6_contains a (nI v) = some (bI (zt a v)) := by
  have h := wb_bit (n := uN a) (by have := uN_lt a; omega) hv
  rw [lN_uN] at h
  have h2 : j_lushr a (nI v) &&& 1 = lN (uN a / 2 ^ v % 2) := h
  have h3 : zt a v = decide (uN a / 2 ^ v % 2 = 1) := by rw [zt, Nat.testBit_eq_decide_div_mod_eq]
  rw [f_X6_contains, h2, h3]
  rcases Nat.mod_two_eq_zero_or_one (uN a / 2 ^ v) with e | e <;> rw [e] <;> decide
theorem s_hasBit : ∀ m, m < 64 → ∀ k, k < 7 → f_X6_hasBit (nI m) (nI k) = some (bI (m.testBit k)) := by decide +kernel
theorem p2_nI : ∀ k, k < 31 → (1 : Int32) <<< (nI k &&& 31) = nI (2 ^ k) := by decide +kernel
theorem nb_nI (v : Nat) {k : Nat} (hk : k < 31) : nI v ^^^ ((1 : Int32) <<< (nI k &&& 31)) = nI (v ^^^ 2 ^ k) := by rw [p2_nI k hk, nx_xor]
theorem s_neighbour (v : Nat) {k : Nat} (hk : k < 31) : f_X6_neighbour (nI v) (nI k) = some (nI (v ^^^ 2 ^ k)) := by rw [f_X6_neighbour, nb_nI v hk]
theorem s_read {n j : Nat} (f : Nat → Int32) (h : j < n) (hn : n < 2 ^ 31) : f_X6_read n (nI j) f = some (f j) := by
  rw [f_X6_read, zjp, if_neg (nI_pos (by omega)), if_neg (show ¬ Int32.ofNat n ≤ nI j from nI_ge h hn), inb_nI h hn]
  show some (f (nI j).toNatClampNeg) = _
  rw [nI_clamp (by omega)]
theorem s_write {n j : Nat} (f : Nat → Int32) (x : Int32) (h : j < n) (hn : n < 2 ^ 31) : f_X6_write n (nI j) x f = some (upd f j x) := by
  rw [f_X6_write, if_neg (nI_pos (by omega)), if_neg (show ¬ Int32.ofNat n ≤ nI j from nI_ge h hn), inb_nI h hn]
  show some (upd f (nI j).toNatClampNeg x) = _
  rw [nI_clamp (by omega)]
def pc (n : Nat) : Nat := fb_ct (fun i => n.testBit i) 6
theorem s_bitCount : ∀ m, m < 64 → f_J6_bitCount_0f7a4 (nI m) = some (nI (pc m)) := by decide +kernel
theorem xor_lt {a b : Nat} (ha : a < 64) (hb : b < 64) : a ^^^ b < 64 := Nat.xor_lt_two_pow (n := 6) ha hb