/-! what a path does to the masks -/
def sA (h : Nat → Nat) (m u w : Nat) : Prop := ∃ i, i < m ∧ h i = 2 * w ∧ h (i + 1) = 2 * u + 1
def kA (h : Nat → Nat) (m u w : Nat) : Prop := ∃ i, i < m ∧ h i = 2 * u + 1 ∧ h (i + 1) = 2 * w
theorem nb_sym {v w k : Nat} (h : v = w ^^^ 2 ^ k) : w = v ^^^ 2 ^ k := by rw [h, Nat.xor_assoc, Nat.xor_self, Nat.xor_zero]
theorem nb_ne (v k : Nat) : v ^^^ 2 ^ k ≠ v := fun h => by
  have := congrArg (fun x => (v ^^^ x).testBit k) h
  simp only [← Nat.xor_assoc, Nat.xor_self, Nat.zero_xor, Nat.testBit_two_pow_self, Nat.zero_testBit] at this
  cases this
section
variable {d s t m : Nat} {U : Nat → Nat} {al : Nat → Bool} {cf : Nat → Option Nat} {h : Nat → Nat}
theorem P_succX (hP : PP d U al s t cf h m) {v j : Nat} (hj : j + 1 ≤ m) (e : h (j + 1) = 2 * v + 1) : (∃ k, k < d ∧ v < 2 ^ d ∧ h j = 2 * (v ^^^ 2 ^ k) ∧ (U v).testBit k = false ∧ v ^^^ 2 ^ k ≠ s ∧ al (v ^^^ 2 ^ k) = true) ∨ (h j = 2 * v ∧ v ≠ s ∧ U v ≠ 0) := by
  rcases (hP.2.2.2.1 j hj).2.1 with ⟨u, k, a1, a2, a3, a4, a5, a6, a7⟩ | ⟨u, a1, a3, a4, a5, a6⟩ | ⟨u, a1, a3, a4, a5⟩ | ⟨u, k, a1, a2, a3, a4, a5⟩
  · have : u = v := by omega
    subst this
    exact Or.inl ⟨k, a1, a2, a4, a5, a6, a7⟩
  · have : u = v := by omega
    subst this
    exact Or.inr ⟨a4, a5, a6⟩
  · omega
  · omega
theorem P_succE (hP : PP d U al s t cf h m) {v j : Nat} (hj : j + 1 ≤ m) (e : h (j + 1) = 2 * v) : (h j = 2 * v + 1 ∧ U v = 0) ∨ ∃ k, k < d ∧ v < 2 ^ d ∧ h j = 2 * (v ^^^ 2 ^ k) + 1 ∧ (U (v ^^^ 2 ^ k)).testBit k = true := by
  rcases (hP.2.2.2.1 j hj).2.1 with ⟨u, k, a1, a2, a3, a4, a5, a6, a7⟩ | ⟨u, a1, a3, a4, a5, a6⟩ | ⟨u, a1, a3, a4, a5⟩ | ⟨u, k, a1, a2, a3, a4, a5⟩
  · omega
  · omega
  · have : u = v := by omega
    subst this
    exact Or.inl ⟨a4, a5⟩
  · have : u = v := by omega
    subst this
    exact Or.inr ⟨k, a1, a2, a4, a5⟩
theorem P_predX (hP : PP d U al s t cf h m) {v j : Nat} (hj : j < m) (e : h j = 2 * v + 1) : (h (j + 1) = 2 * v ∧ U v = 0) ∨ ∃ k, k < d ∧ v < 2 ^ d ∧ h (j + 1) = 2 * (v ^^^ 2 ^ k) ∧ (U v).testBit k = true := by
  rcases (hP.2.2.2.1 j hj).2.1 with ⟨u, k, a1, a2, a3, a4, a5, a6, a7⟩ | ⟨u, a1, a3, a4, a5, a6⟩ | ⟨u, a1, a3, a4, a5⟩ | ⟨u, k, a1, a2, a3, a4, a5⟩
  · omega
  · omega
  · have : u = v := by omega
    subst this
    exact Or.inl ⟨a3, a5⟩
  · have e2 : v = u ^^^ 2 ^ k := by omega
    have e3 := nb_sym e2
    have := hP.2.2.2.2.1 j (by omega)
    exact Or.inr ⟨k, a1, by omega, by rw [← e3]; exact a3, by rw [e2]; exact a5⟩
theorem P_predE (hP : PP d U al s t cf h m) {v j : Nat} (hj : j < m) (e : h j = 2 * v) : (∃ k, k < d ∧ v < 2 ^ d ∧ h (j + 1) = 2 * (v ^^^ 2 ^ k) + 1 ∧ (U (v ^^^ 2 ^ k)).testBit k = false ∧ v ≠ s) ∨ (h (j + 1) = 2 * v + 1 ∧ v ≠ s ∧ U v ≠ 0) := by
  rcases (hP.2.2.2.1 j hj).2.1 with ⟨u, k, a1, a2, a3, a4, a5, a6, a7⟩ | ⟨u, a1, a3, a4, a5, a6⟩ | ⟨u, a1, a3, a4, a5⟩ | ⟨u, k, a1, a2, a3, a4, a5⟩
  · have e2 : v = u ^^^ 2 ^ k := by omega
    have e3 := nb_sym e2
    have := hP.2.2.2.2.1 j (by omega)
    exact Or.inl ⟨k, a1, by omega, by rw [← e3]; exact a3, by rw [← e3]; exact a5, by rw [e2]; exact a6⟩
  · have : u = v := by omega
    subst this
    exact Or.inr ⟨a3, a5, a6⟩
  · omega
  · omega
theorem sA_one (hP : PP d U al s t cf h m) {u w w' : Nat} (h1 : sA h m u w) (h2 : sA h m u w') : w = w' := by
  obtain ⟨i, i1, i2, i3⟩ := h1
  obtain ⟨j, j1, j2, j3⟩ := h2
  have := hP.2.2.2.2.2 (i + 1) (j + 1) i1 j1 (i3.trans j3.symm)
  have : i = j := by omega
  subst this
  omega
theorem sA_one' (hP : PP d U al s t cf h m) {u u' w : Nat} (h1 : sA h m u w) (h2 : sA h m u' w) : u = u' := by
  obtain ⟨i, i1, i2, i3⟩ := h1
  obtain ⟨j, j1, j2, j3⟩ := h2
  have := hP.2.2.2.2.2 i j (by omega) (by omega) (i2.trans j2.symm)
  subst this
  omega
theorem sA_bit (hP : PP d U al s t cf h m) {u w : Nat} (h1 : sA h m u w) (hne : w ≠ u) : ∃ k, k < d ∧ u < 2 ^ d ∧ w = u ^^^ 2 ^ k ∧ (U u).testBit k = false ∧ w ≠ s ∧ al w = true := by
  obtain ⟨i, i1, i2, i3⟩ := h1
  rcases P_succX hP i1 i3 with ⟨k, a1, a2, a3, a4, a5, a6⟩ | ⟨a1, -⟩
  · have e : w = u ^^^ 2 ^ k := by omega
    exact ⟨k, a1, a2, e, a4, by rw [e]; exact a5, by rw [e]; exact a6⟩
  · omega
theorem kA_bit (hP : PP d U al s t cf h m) {u w : Nat} (h1 : kA h m u w) (hne : w ≠ u) : ∃ k, k < d ∧ u < 2 ^ d ∧ w = u ^^^ 2 ^ k ∧ (U u).testBit k = true ∧ u ≠ s := by
  obtain ⟨i, i1, i2, i3⟩ := h1
  rcases P_predX hP i1 i2 with ⟨a1, -⟩ | ⟨k, a1, a2, a3, a4⟩
  · omega
  · have e : w = u ^^^ 2 ^ k := by omega
    exact ⟨k, a1, a2, e, a4, fun q => (hP.2.2.2.1 i i1).1 (by rw [i2, q])⟩
theorem sA_succ (j u w : Nat) : sA h (j + 1) u w ↔ sA h j u w ∨ (h j = 2 * w ∧ h (j + 1) = 2 * u + 1) := by
  constructor
  · rintro ⟨i, i1, i2, i3⟩
    by_cases e : i = j
    · subst e; exact Or.inr ⟨i2, i3⟩
    · exact Or.inl ⟨i, by omega, i2, i3⟩
  · rintro (⟨i, i1, i2, i3⟩ | ⟨i2, i3⟩)
    · exact ⟨i, by omega, i2, i3⟩
    · exact ⟨j, by omega, i2, i3⟩
theorem kA_succ (j u w : Nat) : kA h (j + 1) u w ↔ kA h j u w ∨ (h j = 2 * u + 1 ∧ h (j + 1) = 2 * w) := by
  constructor
  · rintro ⟨i, i1, i2, i3⟩
    by_cases e : i = j
    · subst e; exact Or.inr ⟨i2, i3⟩
    · exact Or.inl ⟨i, by omega, i2, i3⟩
  · rintro (⟨i, i1, i2, i3⟩ | ⟨i2, i3⟩)
    · exact ⟨i, by omega, i2, i3⟩
    · exact ⟨j, by omega, i2, i3⟩
theorem sA_mono {j u w : Nat} (hj : j ≤ m) (h1 : sA h j u w) : sA h m u w := by
  obtain ⟨i, i1, i2, i3⟩ := h1
  exact ⟨i, by omega, i2, i3⟩
theorem xor_2k (u k : Nat) : u ^^^ 2 ^ k ^^^ u = 2 ^ k := by rw [Nat.xor_comm u, Nat.xor_assoc, Nat.xor_self, Nat.xor_zero]
theorem off_tb (x k0 : Nat) {k : Nat} (hk : k < 6) : (x &&& (63 ^^^ 2 ^ k0)).testBit k = (x.testBit k && !decide (k0 = k)) := by
  rw [Nat.testBit_and, Nat.testBit_xor, Nat.testBit_two_pow, show (63 : Nat) = 2 ^ 6 - 1 from rfl, Nat.testBit_two_pow_sub_one]
  simp [hk]
theorem upS_bit (hd : d ≤ 6) (hP : PP d U al s t cf h m) : ∀ j, j ≤ m → ∀ u k, k < d → ((upS h U j u).testBit k = true ↔ sA h j u (u ^^^ 2 ^ k) ∨ (¬ kA h j u (u ^^^ 2 ^ k) ∧ (U u).testBit k = true))
  | 0, _, u, k, hk => by
    constructor
    · exact fun q => Or.inr ⟨fun ⟨i, i1, _⟩ => absurd i1 (Nat.not_lt_zero i), q⟩
    · rintro (⟨i, i1, -⟩ | ⟨-, q⟩)
      · exact absurd i1 (Nat.not_lt_zero i)
      · exact q
  | j + 1, hj, u, k, hk => by
    have ih := upS_bit hd hP j (by omega) u k hk
    rw [sA_succ, kA_succ, upS]
    have hnw := nb_ne u k
    rcases (hP.2.2.2.1 j hj).2.1 with ⟨u0, k0, a1, a2, a3, a4, a5, a6, a7⟩ | ⟨u0, a1, a3, a4, a5, a6⟩ | ⟨u0, a1, a3, a4, a5⟩ | ⟨u0, k0, a1, a2, a3, a4, a5⟩
    · have hn0 := nb_ne u0 k0
      have hx := xor_2k u0 k0
      rw [if_neg (by omega), if_pos (by omega), show h (j + 1) / 2 = u0 by omega, show h j / 2 = u0 ^^^ 2 ^ k0 by omega, hx, uN2]
      have hnk : ¬ (h j = 2 * u + 1 ∧ h (j + 1) = 2 * (u ^^^ 2 ^ k)) := by omega
      by_cases eu : u = u0
      · subst eu
        rw [if_pos rfl, Nat.testBit_or, Nat.testBit_two_pow]
        by_cases ek : k0 = k
        · subst ek
          constructor
          · exact fun _ => Or.inl (Or.inr ⟨a4, a3⟩)
          · exact fun _ => by simp
        · have hns : ¬ (h j = 2 * (u ^^^ 2 ^ k) ∧ h (j + 1) = 2 * u + 1) := fun q => ek (xor_bit_inj (v := u) (by omega))
          rw [decide_eq_false ek, Bool.or_false, or_iff_left hns, or_iff_left hnk]
          exact ih
      · have hns : ¬ (h j = 2 * (u ^^^ 2 ^ k) ∧ h (j + 1) = 2 * u + 1) := fun q => eu (by omega)
        rw [if_neg eu, or_iff_left hns, or_iff_left hnk]
        exact ih
    · have hns : ¬ (h j = 2 * (u ^^^ 2 ^ k) ∧ h (j + 1) = 2 * u + 1) := by omega
      have hnk : ¬ (h j = 2 * u + 1 ∧ h (j + 1) = 2 * (u ^^^ 2 ^ k)) := by omega
      rw [if_pos (by omega), or_iff_left hns, or_iff_left hnk]
      exact ih
    · have hns : ¬ (h j = 2 * (u ^^^ 2 ^ k) ∧ h (j + 1) = 2 * u + 1) := by omega
      have hnk : ¬ (h j = 2 * u + 1 ∧ h (j + 1) = 2 * (u ^^^ 2 ^ k)) := by omega
      rw [if_pos (by omega), or_iff_left hns, or_iff_left hnk]
      exact ih
    · have hn0 := nb_ne u0 k0
      have hx : u0 ^^^ 2 ^ k0 ^^^ u0 = 2 ^ k0 := xor_2k u0 k0
      rw [if_neg (by omega), if_neg (by omega), show h (j + 1) / 2 = u0 by omega, show h j / 2 = u0 ^^^ 2 ^ k0 by omega, hx, uN2]
      have hns : ¬ (h j = 2 * (u ^^^ 2 ^ k) ∧ h (j + 1) = 2 * u + 1) := by omega
      rw [or_iff_left hns]
      by_cases eu : u = u0 ^^^ 2 ^ k0
      · have e0 := nb_sym eu
        rw [if_pos eu, off_tb _ _ (by omega), ← eu]
        by_cases ek : k0 = k
        · subst ek
          constructor
          · intro q; simp at q
          · rintro (q | ⟨q, -⟩)
            · obtain ⟨k', b1, b2, b3, b4, -⟩ := sA_bit hP (sA_mono (by omega) q) hnw
              have := xor_bit_inj b3
              subst this
              rw [← eu, b4] at a5
              cases a5
            · exact absurd (Or.inr ⟨by omega, by omega⟩) q
        · have hnk : ¬ (h j = 2 * u + 1 ∧ h (j + 1) = 2 * (u ^^^ 2 ^ k)) := fun q => ek (xor_bit_inj (v := u) (by omega))
          rw [decide_eq_false ek, or_iff_left hnk]
          simpa using ih
      · have hnk : ¬ (h j = 2 * u + 1 ∧ h (j + 1) = 2 * (u ^^^ 2 ^ k)) := fun q => eu (by omega)
        rw [if_neg eu, or_iff_left hnk]
        exact ih
end
