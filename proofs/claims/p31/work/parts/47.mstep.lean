/-! messages that move: the reference, and many steps -/
def UWR (d : Nat) (U : Nat → Nat) (us : Nat → Int32) : Prop := ∀ v, v < 2 ^ d → ∀ k, k < d → us (64 * v + (v ^^^ 2 ^ k)) = bI ((U v).testBit k)
def stS (d n : Nat) (a : Int64) (stp : Int32) (go : Nat → Int32) (T : (Nat → Int32) × (Nat → Int32) × (Nat → Int32) × (Nat → Int32)) : Sl := (nI d, a, stp, nI n, T.1, T.2.1, go, T.2.2.1, T.2.2.2)
def mgo (c : Nat → Int32) (i w : Nat) (t : Bool) (x : Int32) : Nat → Int32 := upd (upd (upd (upd c (68 + 5 * i) (nI w)) (70 + 5 * i) (c (70 + 5 * i) + 1)) (71 + 5 * i) (c (71 + 5 * i) + bI t)) (67 + 5 * i) x
theorem RN_go {d n i p g b : Nat} {t : Bool} {a : Int64} {stp : Int32} {go c : Nat → Int32} {S : CS} (hd : d ≤ 6) (h : RN (stS d n a stp go S.2.2) c) (hn : n ≤ 24) (hi : i < n) (hp : p < 2 ^ d) (hb : b < d) (eg : c (69 + 5 * i) = nI g) (hg : g < 2 ^ d) (h0 : c (67 + 5 * i) = 0) :
    RN (stS d n a stp go (cgo p g b i t S).2.2) (mgo c i (p ^^^ 2 ^ b) t (if p ^^^ 2 ^ b = g then 1 else 0)) := by
  obtain ⟨d', n', hd1, hd', hn', h1, h2, h3, h4, h5, h6, h7, h8⟩ := h
  have : d = d' := nI_inj (by omega) (by omega) h1
  subst this
  have : n = n' := nI_inj (by omega) (by omega) h6
  subst this
  have h64 := p2_le hd
  have ho : ∀ j, (j < 67 + 5 * i ∨ 71 + 5 * i < j) → mgo c i (p ^^^ 2 ^ b) t (if p ^^^ 2 ^ b = g then 1 else 0) j = c j := fun j hj => by
    simp only [mgo, upd]
    rw [if_neg (by omega), if_neg (by omega), if_neg (by omega), if_neg (by omega)]
  refine ⟨d, n, hd1, hd, hn, rfl, (ho 0 (by omega)).trans h2, fun v hv => by rw [ho _ (by omega)]; exact h3 v hv, h4, h5.trans (ho 1 (by omega)).symm, rfl, (ho 2 (by omega)).trans h7, fun j hj => ?_⟩
  by_cases e : j = i
  · subst e
    obtain ⟨a1, a2, a3, a4, a5, -⟩ := h8 j hj
    have k0 : mgo c j (p ^^^ 2 ^ b) t (if p ^^^ 2 ^ b = g then 1 else 0) (67 + 5 * j) = if p ^^^ 2 ^ b = g then 1 else 0 := if_pos rfl
    have k1 : mgo c j (p ^^^ 2 ^ b) t (if p ^^^ 2 ^ b = g then 1 else 0) (68 + 5 * j) = nI (p ^^^ 2 ^ b) := by
      simp only [mgo, upd]
      rw [if_neg (by omega), if_neg (by omega), if_neg (by omega)]
      exact if_pos trivial
    have k2 : mgo c j (p ^^^ 2 ^ b) t (if p ^^^ 2 ^ b = g then 1 else 0) (69 + 5 * j) = c (69 + 5 * j) := by
      simp only [mgo, upd]
      rw [if_neg (by omega), if_neg (by omega), if_neg (by omega), if_neg (by omega)]
    have k3 : mgo c j (p ^^^ 2 ^ b) t (if p ^^^ 2 ^ b = g then 1 else 0) (70 + 5 * j) = c (70 + 5 * j) + 1 := by
      simp only [mgo, upd]
      rw [if_neg (by omega), if_neg (by omega)]
      exact if_pos trivial
    have k4 : mgo c j (p ^^^ 2 ^ b) t (if p ^^^ 2 ^ b = g then 1 else 0) (71 + 5 * j) = c (71 + 5 * j) + bI t := by
      simp only [mgo, upd]
      rw [if_neg (by omega)]
      exact if_pos trivial
    unfold RM
    rw [k0, k1, k2, k3, k4]
    refine ⟨?_, if_pos rfl, a3, ?_, ?_, p ^^^ 2 ^ b, g, nb_lt hd hp hb, hg, rfl, eg⟩
    · show (if p ^^^ 2 ^ b = g then upd S.2.2.1 j 1 else S.2.2.1) j = _
      by_cases q : p ^^^ 2 ^ b = g
      · rw [if_pos q, if_pos q]; exact if_pos rfl
      · rw [if_neg q, if_neg q]; exact a1.trans h0
    · show upd S.2.2.2.2.1 j (S.2.2.2.2.1 j + 1) j = _
      rw [upd, if_pos rfl]; exact congrArg (· + 1) a4
    · show (if t = true then upd S.2.2.2.2.2 j (S.2.2.2.2.2 j + 1) else S.2.2.2.2.2) j = _
      cases t with
      | true => rw [if_pos rfl, upd, if_pos rfl]; exact congrArg (· + 1) a5
      | false => rw [if_neg (by decide)]; exact a5.trans (Int32.add_zero _).symm
  · have := h8 j hj
    unfold RM at *
    rw [ho _ (by omega), ho _ (by omega), ho _ (by omega), ho _ (by omega), ho _ (by omega)]
    obtain ⟨a1, a2, a3, a4, a5, a6⟩ := this
    refine ⟨?_, (if_neg e).trans a2, a3, (if_neg e).trans a4, ?_, a6⟩
    · show (if p ^^^ 2 ^ b = g then upd S.2.2.1 i 1 else S.2.2.1) j = _
      split
      · exact (if_neg e).trans a1
      · exact a1
    · show (if t = true then upd S.2.2.2.2.2 i (S.2.2.2.2.2 i + 1) else S.2.2.2.2.2) j = _
      split
      · exact (if_neg e).trans a5
      · exact a5
theorem xor_bit_inj {v b k : Nat} (h : v ^^^ 2 ^ b = v ^^^ 2 ^ k) : b = k := by
  have := congrArg (fun x => (v ^^^ x).testBit b) h
  simp only [← Nat.xor_assoc, Nat.xor_self, Nat.zero_xor, Nat.testBit_two_pow_self] at this
  rw [Nat.testBit_two_pow] at this
  exact (by simpa using this : k = b).symm
theorem or_tb : ∀ m, m < 64 → ∀ b, b < 6 → ∀ k, k < 6 → (m ||| 2 ^ b).testBit k = (m.testBit k || decide (k = b)) := by decide +kernel
theorem UWR_go {d p b : Nat} {U : Nat → Nat} {us : Nat → Int32} (hd : d ≤ 6) (h : UWR d U us) (hU : ∀ v, U v < 64) (hp : p < 2 ^ d) (hb : b < d) : UWR d (uN2 U p (U p ||| 2 ^ b)) (upd us (64 * p + (p ^^^ 2 ^ b)) 1) := fun v hv k hk => by
  have h6 := p2_le hd
  have h1 := nb_lt hd hp hb
  have h2 := nb_lt hd hv hk
  unfold upd uN2
  by_cases e : v = p
  · subst e
    rw [if_pos rfl, or_tb _ (hU v) b (by omega) k (by omega)]
    by_cases e2 : k = b
    · rw [e2, if_pos rfl, decide_eq_true rfl, Bool.or_true]; rfl
    · rw [if_neg (fun q => e2 (xor_bit_inj (v := v) (by omega))), decide_eq_false e2, Bool.or_false]
      exact h v hv k hk
  · rw [if_neg e, if_neg (by omega)]
    exact h v hv k hk