/-! the reference's vectors -/
theorem s_ushr31b : ∀ m, m < 128 → ∀ k, k < 7 → ((nI m) >>> (nI k &&& 31)) &&& (1 : Int32) = bI (m.testBit k) := by decide +kernel
theorem or_p2 : ∀ m, m < 128 → ∀ k, k < 7 → nI m ||| ((1 : Int32) <<< (nI k &&& 31)) = nI (m ||| 2 ^ k) := by decide +kernel
theorem or_lt : ∀ m, m < 128 → ∀ k, k < 7 → m ||| 2 ^ k < 128 := by decide +kernel
theorem two_bit : ∀ j, j < 7 → Nat.testBit 2 j = decide (j = 1) := by decide
def VB (d : Nat) (al : Nat → Bool) (c : Nat → Int32) (k w : Nat) : Prop := ∃ B, B < 128 ∧ c w = nI B ∧ ∀ j, j < 7 → B.testBit j = (decide (1 ≤ j ∧ j ≤ k) && UU d al (j - 1) w)
theorem VB_bit {d : Nat} {al : Nat → Bool} {c : Nat → Int32} {k w j : Nat} (h : VB d al c k w) (h1 : 1 ≤ j) (h2 : j ≤ k) (h3 : j < 7) : ((c w) >>> (nI j &&& 31)) &&& (1 : Int32) = bI (UU d al (j - 1) w) := by
  obtain ⟨B, hB, e, hb⟩ := h
  rw [e, s_ushr31b B hB j h3, hb j h3, decide_eq_true ⟨h1, h2⟩, Bool.true_and]
theorem VB_upd {d : Nat} {al : Nat → Bool} {c : Nat → Int32} {k w v : Nat} {x : Int32} (h : VB d al c k w) (hne : w ≠ v) : VB d al (upd c v x) k w := by
  obtain ⟨B, hB, e, hb⟩ := h
  exact ⟨B, hB, by simp [upd, hne, e], hb⟩
theorem UU_dead {d : Nat} {al : Nat → Bool} {v : Nat} (h : al v = false) : ∀ k, UU d al k v = false
  | 0 => h
  | k + 1 => by simp [UU, h]