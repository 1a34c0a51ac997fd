/-! the reference: nodes, levels -/
def MN (c : Nat → Int32) (d : Nat) (al : Nat → Bool) : Prop := 1 ≤ d ∧ d ≤ 6 ∧ c 0 = nI d ∧ ∀ v, v < 2 ^ d → c (3 + v) = bI (!al v)
theorem p2_le {d : Nat} (hd : d ≤ 6) : 2 ^ d ≤ 64 := Nat.pow_le_pow_right (n := 2) (by decide) hd
theorem p2_pos (d : Nat) : 0 < 2 ^ d := Nat.pow_pos (by decide)
theorem cnL_succ (d : Nat) (L : Nat → Nat) (v k : Nat) : cnL d L v (k + 1) = cnL d L v k + fb_ct (fun i => decide (L (v ^^^ 2 ^ i) = k)) d := by
  show fb_ct _ d = fb_ct _ d + fb_ct _ d
  generalize d = m
  induction m with
  | zero => rfl
  | succ m ih =>
    rw [fb_ct_succ, fb_ct_succ, fb_ct_succ, ih]
    by_cases h1 : L (v ^^^ 2 ^ m) < k
    · simp [h1, show L (v ^^^ 2 ^ m) < k + 1 by omega, show ¬ L (v ^^^ 2 ^ m) = k by omega]; omega
    · by_cases h2 : L (v ^^^ 2 ^ m) = k
      · simp [h2]; omega
      · simp [h1, h2, show ¬ L (v ^^^ 2 ^ m) < k + 1 by omega]
theorem cnL_0 (d : Nat) (L : Nat → Nat) (v : Nat) : cnL d L v 0 = 0 := fb_ct_zero.mpr (fun k _ => by simp)
theorem lvl_dead {d : Nat} {al : Nat → Bool} : ∀ t v, al v = false → lvl d al t v = 0
  | 0, v, h => by simp [lvl, h]
  | t + 1, v, h => by simp only [lvl, stepL, h]; exact lvl_dead t v h
theorem zor_mono {p : Nat → Bool} : ∀ {m n : Nat}, m ≤ n → (∀ k, m ≤ k → k < n → p k = false) → zor p m = zor p n
  | m, 0, h, _ => by rw [show m = 0 by omega]
  | m, n + 1, h, hp => by
    rcases Nat.lt_or_ge m (n + 1) with q | q
    · rw [zor, hp n (by omega) (by omega), Bool.or_false]
      exact zor_mono (by omega) (fun k h1 h2 => hp k h1 (by omega))
    · rw [show m = n + 1 by omega]
theorem chg_2d {d : Nat} {al : Nat → Bool} (hd : d ≤ 6) (ha : ∀ v, 2 ^ d ≤ v → al v = false) (t : Nat) : zor (fun v => decide (lvl d al (t + 1) v ≠ lvl d al t v)) (2 ^ d) = chg d al t :=
  zor_mono (p2_le hd) (fun k h1 _ => by simp [lvl_dead _ k (ha k h1)])