/-! the turns of the reference along a path -/
def T1 (h : Nat → Nat) (m j : Nat) (g0 c0 g c : Nat → Int32) : Prop :=
  (∀ u, u < 64 → ((∃ i v, j ≤ i ∧ i < m ∧ v ≠ u ∧ h i = 2 * u + 1 ∧ h (i + 1) = 2 * v) → g u = -1) ∧ ((¬ ∃ i v, j ≤ i ∧ i < m ∧ v ≠ u ∧ h i = 2 * u + 1 ∧ h (i + 1) = 2 * v) → g u = g0 u)) ∧
  ∀ v, v < 64 → ((∃ i u, j ≤ i ∧ i < m ∧ u ≠ v ∧ h i = 2 * u + 1 ∧ h (i + 1) = 2 * v) → c v = -1) ∧ ((¬ ∃ i u, j ≤ i ∧ i < m ∧ u ≠ v ∧ h i = 2 * u + 1 ∧ h (i + 1) = 2 * v) → c v = c0 v)
def T2 (h : Nat → Nat) (m s t j : Nat) (g0 c0 g c : Nat → Int32) : Prop :=
  (∀ u, u < 64 → (∀ i v, j ≤ i → i < m → v ≠ u → u ≠ s → h i = 2 * v → h (i + 1) = 2 * u + 1 → g u = nI v) ∧ ((u = s ∨ ¬ ∃ i v, j ≤ i ∧ i < m ∧ v ≠ u ∧ h i = 2 * v ∧ h (i + 1) = 2 * u + 1) → g u = g0 u)) ∧
  ∀ v, v < 64 → (∀ i u, j ≤ i → i < m → u ≠ v → v ≠ t → h i = 2 * v → h (i + 1) = 2 * u + 1 → c v = nI u) ∧ ((v = t ∨ ¬ ∃ i u, j ≤ i ∧ i < m ∧ u ≠ v ∧ h i = 2 * v ∧ h (i + 1) = 2 * u + 1) → c v = c0 v)
theorem mc_cases (x : Nat) (hx : x < 128) : (∃ v, v < 64 ∧ x = 2 * v ∧ MC x = v) ∨ ∃ v, v < 64 ∧ x = 2 * v + 1 ∧ MC x = 64 + v := by
  rcases Nat.mod_two_eq_zero_or_one x with q | q
  · exact Or.inl ⟨x / 2, by omega, by omega, by unfold MC; rw [if_pos q]⟩
  · exact Or.inr ⟨x / 2, by omega, by omega, by unfold MC; rw [if_neg (by omega)]⟩
section
variable {d s t m : Nat} {U : Nat → Nat} {al : Nat → Bool} {cf : Nat → Option Nat} {h : Nat → Nat} {C : Nat → Option Nat} {dir : Bool} {goes comes : Nat → Int32}
theorem T1_skip {j : Nat} {g0 c0 g c : Nat → Int32} (hT : T1 h m (j + 1) g0 c0 g c) (hn : ¬ ∃ u v, u ≠ v ∧ h j = 2 * u + 1 ∧ h (j + 1) = 2 * v) : T1 h m j g0 c0 g c := by
  obtain ⟨h1, h2⟩ := hT
  refine ⟨fun u hu => ⟨fun ⟨i, v, a1, a2, a3, a4, a5⟩ => (h1 u hu).1 ⟨i, v, ?_, a2, a3, a4, a5⟩, fun q => (h1 u hu).2 fun ⟨i, v, a1, a2⟩ => q ⟨i, v, by omega, a2⟩⟩, fun v hv => ⟨fun ⟨i, u, a1, a2, a3, a4, a5⟩ => (h2 v hv).1 ⟨i, u, ?_, a2, a3, a4, a5⟩, fun q => (h2 v hv).2 fun ⟨i, u, a1, a2⟩ => q ⟨i, u, by omega, a2⟩⟩⟩
  · rcases Nat.lt_or_ge j i with q | q
    · exact q
    · have : i = j := by omega
      subst this
      exact absurd ⟨u, v, a3.symm, a4, a5⟩ hn
  · rcases Nat.lt_or_ge j i with q | q
    · exact q
    · have : i = j := by omega
      subst this
      exact absurd ⟨u, v, a3, a4, a5⟩ hn
theorem T1_step {j u v : Nat} {g0 c0 g c : Nat → Int32} (hT : T1 h m (j + 1) g0 c0 g c) (hj : j < m) (hne : u ≠ v) (e1 : h j = 2 * u + 1) (e2 : h (j + 1) = 2 * v) : T1 h m j g0 c0 (upd g u (-1)) (upd c v (-1)) := by
  obtain ⟨h1, h2⟩ := hT
  refine ⟨fun u' hu => ⟨fun ⟨i, v', a1, a2, a3, a4, a5⟩ => ?_, fun q => ?_⟩, fun v' hv => ⟨fun ⟨i, u', a1, a2, a3, a4, a5⟩ => ?_, fun q => ?_⟩⟩
  · unfold upd
    by_cases e : u' = u
    · rw [if_pos e]
    · rw [if_neg e]
      refine (h1 u' hu).1 ⟨i, v', ?_, a2, a3, a4, a5⟩
      rcases Nat.lt_or_ge j i with q | q
      · exact q
      · have : i = j := by omega
        subst this
        omega
  · have : ¬ u' = u := fun z => q ⟨j, v, Nat.le_refl j, hj, by rw [z]; exact hne.symm, by rw [z]; exact e1, e2⟩
    rw [upd, if_neg this]
    exact (h1 u' hu).2 fun ⟨i, v', a1, a2⟩ => q ⟨i, v', by omega, a2⟩
  · unfold upd
    by_cases e : v' = v
    · rw [if_pos e]
    · rw [if_neg e]
      refine (h2 v' hv).1 ⟨i, u', ?_, a2, a3, a4, a5⟩
      rcases Nat.lt_or_ge j i with q | q
      · exact q
      · have : i = j := by omega
        subst this
        omega
  · have : ¬ v' = v := fun z => q ⟨j, u, Nat.le_refl j, hj, by rw [z]; exact hne, e1, by rw [z]; exact e2⟩
    rw [upd, if_neg this]
    exact (h2 v' hv).2 fun ⟨i, u', a1, a2⟩ => q ⟨i, u', by omega, a2⟩
theorem T2_skip {j : Nat} {g0 c0 g c : Nat → Int32} (hT : T2 h m s t (j + 1) g0 c0 g c) (hn : ¬ ∃ u v, u ≠ v ∧ h j = 2 * v ∧ h (j + 1) = 2 * u + 1) : T2 h m s t j g0 c0 g c := by
  obtain ⟨h1, h2⟩ := hT
  refine ⟨fun u hu => ⟨fun i v a1 a2 a3 a4 a5 a6 => (h1 u hu).1 i v ?_ a2 a3 a4 a5 a6, fun q => (h1 u hu).2 (q.imp_right fun q ⟨i, v, a1, a2⟩ => q ⟨i, v, by omega, a2⟩)⟩, fun v hv => ⟨fun i u a1 a2 a3 a4 a5 a6 => (h2 v hv).1 i u ?_ a2 a3 a4 a5 a6, fun q => (h2 v hv).2 (q.imp_right fun q ⟨i, u, a1, a2⟩ => q ⟨i, u, by omega, a2⟩)⟩⟩
  · rcases Nat.lt_or_ge j i with q | q
    · exact q
    · have : i = j := by omega
      subst this
      exact absurd ⟨u, v, a3.symm, a5, a6⟩ hn
  · rcases Nat.lt_or_ge j i with q | q
    · exact q
    · have : i = j := by omega
      subst this
      exact absurd ⟨u, v, a3, a5, a6⟩ hn
theorem T2_step {j u v : Nat} {g0 c0 g c : Nat → Int32} (hinj : ∀ i j, i ≤ m → j ≤ m → h i = h j → i = j) (hT : T2 h m s t (j + 1) g0 c0 g c) (hj : j < m) (hne : u ≠ v) (e1 : h j = 2 * v) (e2 : h (j + 1) = 2 * u + 1) :
    T2 h m s t j g0 c0 (if u = s then g else upd g u (nI v)) (if v = t then c else upd c v (nI u)) := by
  obtain ⟨h1, h2⟩ := hT
  refine ⟨fun u' hu => ⟨fun i v' a1 a2 a3 a4 a5 a6 => ?_, fun q => ?_⟩, fun v' hv => ⟨fun i u' a1 a2 a3 a4 a5 a6 => ?_, fun q => ?_⟩⟩
  · by_cases e : u' = u
    · have : i = j := by
        have := hinj (i + 1) (j + 1) a2 hj (by rw [a6, e2, e])
        omega
      subst this
      subst e
      rw [if_neg a4, upd, if_pos rfl, show v = v' by omega]
    · have : (if u = s then g else upd g u (nI v)) u' = g u' := by
        split
        · rfl
        · exact if_neg e
      rw [this]
      refine (h1 u' hu).1 i v' ?_ a2 a3 a4 a5 a6
      rcases Nat.lt_or_ge j i with q | q
      · exact q
      · have : i = j := by omega
        subst this
        omega
  · have : (if u = s then g else upd g u (nI v)) u' = g u' := by
      split
      · rfl
      · rename_i hus
        refine if_neg fun z => ?_
        rcases q with q | q
        · exact hus (z.symm.trans q)
        · exact q ⟨j, v, Nat.le_refl j, hj, by rw [z]; exact hne.symm, e1, by rw [z]; exact e2⟩
    rw [this]
    exact (h1 u' hu).2 (q.imp_right fun q ⟨i, v', a1, a2⟩ => q ⟨i, v', by omega, a2⟩)
  · by_cases e : v' = v
    · have : i = j := hinj i j (by omega) (by omega) (by rw [a5, e1, e])
      subst this
      subst e
      rw [if_neg a4, upd, if_pos rfl, show u = u' by omega]
    · have : (if v = t then c else upd c v (nI u)) v' = c v' := by
        split
        · rfl
        · exact if_neg e
      rw [this]
      refine (h2 v' hv).1 i u' ?_ a2 a3 a4 a5 a6
      rcases Nat.lt_or_ge j i with q | q
      · exact q
      · have : i = j := by omega
        subst this
        omega
  · have : (if v = t then c else upd c v (nI u)) v' = c v' := by
      split
      · rfl
      · rename_i hvt
        refine if_neg fun z => ?_
        rcases q with q | q
        · exact hvt (z.symm.trans q)
        · exact q ⟨j, u, Nat.le_refl j, hj, by rw [z]; exact hne, by rw [z]; exact e1, e2⟩
    rw [this]
    exact (h2 v' hv).2 (q.imp_right fun q ⟨i, u', a1, a2⟩ => q ⟨i, u', by omega, a2⟩)
end
