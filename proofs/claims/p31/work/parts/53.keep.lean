/-! what a path keeps -/
def FI (d s t : Nat) (U : Nat → Nat) (C : Nat → Option Nat) : Prop :=
  (∀ u, U u < 2 ^ d) ∧ (∀ u, u ≠ s → ∀ k k', k < d → k' < d → (U u).testBit k = true → (U u).testBit k' = true → k = k') ∧ U t = 0 ∧ C s = none ∧ C t = none ∧
  (∀ u k, u < 2 ^ d → k < d → u ^^^ 2 ^ k ≠ t → (C (u ^^^ 2 ^ k) = some u ↔ (U u).testBit k = true)) ∧ (∀ v u, C v = some u → ∃ k, k < d ∧ u < 2 ^ d ∧ v = u ^^^ 2 ^ k) ∧
  ∀ v, v < 2 ^ d → v ≠ s → v ≠ t → (U v = 0 ↔ C v = none)
def CN (h : Nat → Nat) (m t : Nat) (C D : Nat → Option Nat) : Prop :=
  (∀ v u, v ≠ t → u ≠ v → sA h m u v → D v = some u) ∧ (∀ v u, (v = t ∨ ∀ u, u ≠ v → ¬ sA h m u v) → u ≠ v → kA h m u v → D v = none) ∧
  ∀ v, (v = t ∨ ∀ u, u ≠ v → ¬ sA h m u v) → (∀ u, u ≠ v → ¬ kA h m u v) → D v = C v
theorem bit0 {d x : Nat} (h : x < 2 ^ d) : x = 0 ↔ ∀ k, k < d → x.testBit k = false := by
  constructor
  · intro e k _; rw [e]; exact Nat.zero_testBit k
  · intro hk
    refine Nat.eq_of_testBit_eq fun i => ?_
    rw [Nat.zero_testBit]
    rcases Nat.lt_or_ge i d with q | q
    · exact hk i q
    · exact Nat.testBit_lt_two_pow (Nat.lt_of_lt_of_le h (Nat.pow_le_pow_right (by decide) q))
theorem bit_ne0 {d x : Nat} (h : x < 2 ^ d) (hx : x ≠ 0) : ∃ k, k < d ∧ x.testBit k = true := by
  refine Classical.byContradiction fun hn => hx ((bit0 h).mpr fun k hk => ?_)
  cases e : x.testBit k with
  | false => rfl
  | true => exact absurd ⟨k, hk, e⟩ hn
section
variable {d s t m : Nat} {U : Nat → Nat} {al : Nat → Bool} {cf : Nat → Option Nat} {h : Nat → Nat} {C D : Nat → Option Nat}
theorem h_end (hP : PP d U al s t cf h m) : 0 < m := by
  rcases Nat.eq_zero_or_pos m with q | q
  · have h0 := hP.1
    have h1 := hP.2.1
    rw [q, h0] at h1
    omega
  · exact q
theorem FI_up (hd : d ≤ 6) (hst : s ≠ t) (ht : t < 2 ^ d) (hP : PP d U al s t cf h m) (hF : FI d s t U C) (hC : CN h m t C D) : FI d s t (upS h U m) D := by
  obtain ⟨f1, f2, f3, f4, f5, f6, f7, f8⟩ := hF
  obtain ⟨c1, c2, c3⟩ := hC
  have hb := upS_bit hd hP m (Nat.le_refl m)
  have hm := h_end hP
  have hlt := upS_lt hd f1 hP.2.2.2.2.1 m (Nat.le_refl m)
  have h0 := hP.1
  have hms := hP.2.1
  have hinj := hP.2.2.2.2.2
  -- where a node sends, if it sends anew
  have outS : ∀ u w, u ≠ s → w ≠ u → sA h m u w → U u = 0 ∨ ∃ k, k < d ∧ (U u).testBit k = true ∧ kA h m u (u ^^^ 2 ^ k) := fun u w hu hw hs => by
    obtain ⟨i, i1, i2, i3⟩ := hs
    have him : i + 1 < m := by
      rcases Nat.lt_or_ge (i + 1) m with q | q
      · exact q
      · have : i + 1 = m := by omega
        rw [this, hms] at i3
        omega
    rcases P_predX hP him i3 with ⟨-, q⟩ | ⟨k, k1, k2, k3, k4⟩
    · exact Or.inl q
    · exact Or.inr ⟨k, k1, k4, i + 1, him, i3, k3⟩
  -- a node with flow whose entry lies on the path gives its way back
  have inS : ∀ v u i, v ≠ t → C v = some u → i ≤ m → h i = 2 * v → kA h m u v := fun v u i hv hc hi e => by
    obtain ⟨k, k1, k2, k3⟩ := f7 v u hc
    have hv2 : v < 2 ^ d := by rw [k3]; exact nb_lt hd k2 k1
    have hvs : v ≠ s := fun q => by rw [q, f4] at hc; cases hc
    cases i with
    | zero => rw [h0] at e; omega
    | succ i =>
      rcases P_succE hP hi e with ⟨-, q⟩ | ⟨k', b1, b2, b3, b4⟩
      · rw [(f8 v hv2 hvs hv).mp q] at hc; cases hc
      · have hu1 := nb_lt hd b2 b1
        have e2 : v ^^^ 2 ^ k' ^^^ 2 ^ k' = v := by rw [Nat.xor_assoc, Nat.xor_self, Nat.xor_zero]
        have := (f6 (v ^^^ 2 ^ k') k' hu1 b1 (by rw [e2]; exact hv)).mpr b4
        rw [e2, hc] at this
        cases this
        exact ⟨i, hi, b3, e⟩
  have Cof : ∀ v u, v ≠ t → u ≠ v → kA h m u v → C v = some u := fun v u hv hu hk => by
    obtain ⟨k, k1, k2, k3, k4, -⟩ := kA_bit hP hk hu.symm
    have := (f6 u k k2 k1 (by rw [← k3]; exact hv)).mpr k4
    rwa [← k3] at this
  have kOne : ∀ v u u', v ≠ t → u ≠ v → u' ≠ v → kA h m u v → kA h m u' v → u = u' := fun v u u' hv h1 h2 k1 k2 => by
    have e1 := Cof v u hv h1 k1
    rw [Cof v u' hv h2 k2] at e1
    cases e1; rfl
  have D6 : ∀ u k, u < 2 ^ d → k < d → u ^^^ 2 ^ k ≠ t → (D (u ^^^ 2 ^ k) = some u ↔ (upS h U m u).testBit k = true) := fun u k hu hk hv => by
    rw [hb u k hk]
    have hne := nb_ne u k
    generalize hw : u ^^^ 2 ^ k = v at *
    by_cases hin : ∃ u0, u0 ≠ v ∧ sA h m u0 v
    · obtain ⟨u0, g1, g2⟩ := hin
      rw [c1 v u0 hv g1 g2]
      constructor
      · intro e; cases e; exact Or.inl g2
      · rintro (q | ⟨q1, q2⟩)
        · rw [sA_one' hP g2 q]
        · exfalso
          have hc := (f6 u k hu hk (by rw [hw]; exact hv)).mpr q2
          rw [hw] at hc
          obtain ⟨i, i1, i2, i3⟩ := g2
          exact q1 (inS v u i hv hc (by omega) i2)
    · have hno : ∀ u, u ≠ v → ¬ sA h m u v := fun u0 g1 g2 => hin ⟨u0, g1, g2⟩
      by_cases hk2 : ∃ u1, u1 ≠ v ∧ kA h m u1 v
      · obtain ⟨u1, g1, g2⟩ := hk2
        rw [c2 v u1 (Or.inr hno) g1 g2]
        constructor
        · intro e; cases e
        · rintro (q | ⟨q1, q2⟩)
          · exact absurd q (hno u hne.symm)
          · exfalso
            have hc := (f6 u k hu hk (by rw [hw]; exact hv)).mpr q2
            rw [hw, Cof v u1 hv g1 g2] at hc
            cases hc
            exact q1 g2
      · rw [c3 v (Or.inr hno) (fun u1 g1 g2 => hk2 ⟨u1, g1, g2⟩), ← hw, f6 u k hu hk (by rw [hw]; exact hv), hw]
        constructor
        · exact fun q => Or.inr ⟨fun g2 => hk2 ⟨u, hne.symm, g2⟩, q⟩
        · rintro (q | ⟨-, q2⟩)
          · exact absurd q (hno u hne.symm)
          · exact q2
  refine ⟨hlt, fun u hu k k' hk hk' b1 b2 => ?_, ?_, ?_, ?_, D6, fun v u e => ?_, fun v hv hvs hvt => ?_⟩
  · have g1 := (hb u k hk).mp b1
    have g2 := (hb u k' hk').mp b2
    have mix : ∀ k k', k < d → k' < d → sA h m u (u ^^^ 2 ^ k) → ¬ kA h m u (u ^^^ 2 ^ k') → (U u).testBit k' = true → False := fun k k' hk hk' q1 q2 q3 => by
      rcases outS u _ hu (nb_ne u k) q1 with q | ⟨k0, z1, z2, z3⟩
      · rw [q, Nat.zero_testBit] at q3; cases q3
      · rw [f2 u hu k' k0 hk' z1 q3 z2] at q2
        exact q2 z3
    rcases g1 with g1 | ⟨g1, g1'⟩
    · rcases g2 with g2 | ⟨g2, g2'⟩
      · exact xor_bit_inj (sA_one hP g1 g2)
      · exact (mix k k' hk hk' g1 g2 g2').elim
    · rcases g2 with g2 | ⟨g2, g2'⟩
      · exact (mix k' k hk' hk g2 g1 g1').elim
      · exact f2 u hu k k' hk hk' g1' g2'
  · refine (bit0 (hlt t)).mpr fun k hk => ?_
    cases e : (upS h U m t).testBit k with
    | false => rfl
    | true =>
      exfalso
      rcases (hb t k hk).mp e with q | ⟨-, q⟩
      · obtain ⟨i, i1, i2, i3⟩ := q
        have him : i + 1 < m := by
          rcases Nat.lt_or_ge (i + 1) m with q | q
          · exact q
          · have : i + 1 = m := by omega
            rw [this, hms] at i3
            omega
        rcases P_predX hP him i3 with ⟨q, -⟩ | ⟨k', k1, k2, k3, k4⟩
        · have := hinj (i + 2) 0 (by omega) (by omega) (q.trans h0.symm)
          omega
        · rw [f3, Nat.zero_testBit] at k4; cases k4
      · rw [f3, Nat.zero_testBit] at q; cases q
  · have hno : ∀ u, u ≠ s → ¬ sA h m u s := fun u hu q => by
      obtain ⟨k, -, -, -, -, q2, -⟩ := sA_bit hP q hu.symm
      exact q2 rfl
    by_cases hk2 : ∃ u1, u1 ≠ s ∧ kA h m u1 s
    · obtain ⟨u1, g1, g2⟩ := hk2
      exact c2 s u1 (Or.inr hno) g1 g2
    · rw [c3 s (Or.inr hno) (fun u1 g1 g2 => hk2 ⟨u1, g1, g2⟩)]; exact f4
  · by_cases hk2 : ∃ u1, u1 ≠ t ∧ kA h m u1 t
    · obtain ⟨u1, g1, g2⟩ := hk2
      exact c2 t u1 (Or.inl rfl) g1 g2
    · rw [c3 t (Or.inl rfl) (fun u1 g1 g2 => hk2 ⟨u1, g1, g2⟩)]; exact f5
  · by_cases hin : v ≠ t ∧ ∃ u0, u0 ≠ v ∧ sA h m u0 v
    · obtain ⟨hv, u0, g1, g2⟩ := hin
      rw [c1 v u0 hv g1 g2] at e
      cases e
      obtain ⟨k, k1, k2, k3, -⟩ := sA_bit hP g2 g1.symm
      exact ⟨k, k1, k2, k3⟩
    · have hno : v = t ∨ ∀ u, u ≠ v → ¬ sA h m u v := by
        by_cases q : v = t
        · exact Or.inl q
        · exact Or.inr fun u0 g1 g2 => hin ⟨q, u0, g1, g2⟩
      by_cases hk2 : ∃ u1, u1 ≠ v ∧ kA h m u1 v
      · obtain ⟨u1, g1, g2⟩ := hk2
        rw [c2 v u1 hno g1 g2] at e; cases e
      · rw [c3 v hno (fun u1 g1 g2 => hk2 ⟨u1, g1, g2⟩)] at e
        exact f7 v u e
  · by_cases hin : ∃ u0, u0 ≠ v ∧ sA h m u0 v
    · obtain ⟨u0, g1, g2⟩ := hin
      rw [c1 v u0 hvt g1 g2]
      refine ⟨fun q => ?_, fun q => by cases q⟩
      exfalso
      have hz := (bit0 (hlt v)).mp q
      obtain ⟨i, i1, i2, i3⟩ := g2
      -- the exit of v, if on the path, sends anew
      have outX : ∀ j, j ≤ m → h j = 2 * v + 1 → False := fun j hj e => by
        cases j with
        | zero => rw [h0] at e; omega
        | succ j =>
          rcases P_succX hP hj e with ⟨k, a1, a2, a3, -⟩ | ⟨a3, -⟩
          · have := (hb v k a1).mpr (Or.inl ⟨j, hj, a3, e⟩)
            rw [hz k a1] at this; cases this
          · have := hinj j i (by omega) (by omega) (a3.trans i2.symm)
            subst this
            omega
      cases hi0 : i with
      | zero => rw [hi0, h0] at i2; omega
      | succ i' =>
        subst hi0
        rcases P_succE hP (by omega) i2 with ⟨q2, -⟩ | ⟨k', b1, b2, b3, b4⟩
        · exact outX i' (by omega) q2
        · have hUv : U v ≠ 0 := fun q3 => by
            have hk : kA h m (v ^^^ 2 ^ k') v := ⟨i', by omega, b3, i2⟩
            have := Cof v _ hvt (nb_ne v k') hk
            rw [(f8 v hv hvs hvt).mp q3] at this
            cases this
          obtain ⟨k, k1, k2⟩ := bit_ne0 (f1 v) hUv
          have hk3 : kA h m v (v ^^^ 2 ^ k) := Classical.byContradiction fun hn => by
            have := (hb v k k1).mpr (Or.inr ⟨hn, k2⟩)
            rw [hz k k1] at this; cases this
          obtain ⟨j, j1, j2, -⟩ := hk3
          exact outX j (by omega) j2
    · have hno : ∀ u, u ≠ v → ¬ sA h m u v := fun u0 g1 g2 => hin ⟨u0, g1, g2⟩
      by_cases hk2 : ∃ u1, u1 ≠ v ∧ kA h m u1 v
      · obtain ⟨u1, g1, g2⟩ := hk2
        rw [c2 v u1 (Or.inr hno) g1 g2]
        refine ⟨fun _ => rfl, fun _ => (bit0 (hlt v)).mpr fun k hk => ?_⟩
        have hUv : U v ≠ 0 := fun q3 => by
          have := Cof v u1 hvt g1 g2
          rw [(f8 v hv hvs hvt).mp q3] at this
          cases this
        obtain ⟨i, i1, i2, i3⟩ := g2
        have him : i + 1 < m := by
          rcases Nat.lt_or_ge (i + 1) m with q | q
          · exact q
          · have : i + 1 = m := by omega
            rw [this, hms] at i3
            omega
        have hx : h (i + 2) = 2 * v + 1 := by
          rcases P_predE hP him i3 with ⟨k', a1, a2, a3, -⟩ | ⟨a3, -⟩
          · exact absurd ⟨i + 1, him, i3, a3⟩ (hno _ (nb_ne v k'))
          · exact a3
        cases e : (upS h U m v).testBit k with
        | false => rfl
        | true =>
          exfalso
          rcases (hb v k hk).mp e with q | ⟨q1, q2⟩
          · obtain ⟨j, j1, j2, j3⟩ := q
            have := hinj (j + 1) (i + 2) (by omega) (by omega) (j3.trans hx.symm)
            have : j = i + 1 := by omega
            subst this
            have := nb_ne v k
            omega
          · have him2 : i + 2 < m := by
              rcases Nat.lt_or_ge (i + 2) m with q | q
              · exact q
              · have : i + 2 = m := by omega
                rw [this, hms] at hx
                omega
            rcases P_predX hP him2 hx with ⟨-, q⟩ | ⟨k0, a1, a2, a3, a4⟩
            · exact hUv q
            · have := f2 v hvs k k0 hk a1 q2 a4
              subst this
              exact q1 ⟨i + 2, him2, hx, a3⟩
      · have hnk : ∀ u1, u1 ≠ v → ¬ kA h m u1 v := fun u1 g1 g2 => hk2 ⟨u1, g1, g2⟩
        rw [c3 v (Or.inr hno) hnk, ← f8 v hv hvs hvt]
        have stay : ∀ j, j ≤ m → h j = 2 * v → U v ≠ 0 → False := fun j hj e hU => by
          cases hc : C v with
          | none => exact hU ((f8 v hv hvs hvt).mpr hc)
          | some u1 =>
            obtain ⟨k, k1, k2, k3⟩ := f7 v u1 hc
            refine hnk u1 (fun q => ?_) (inS v u1 j hvt hc hj e)
            have := nb_ne u1 k
            rw [← k3] at this
            exact this q.symm
        constructor
        · intro q
          have hz := (bit0 (hlt v)).mp q
          refine Classical.byContradiction fun hU => ?_
          obtain ⟨k, k1, k2⟩ := bit_ne0 (f1 v) hU
          have hk3 : kA h m v (v ^^^ 2 ^ k) := Classical.byContradiction fun hn => by
            have := (hb v k k1).mpr (Or.inr ⟨hn, k2⟩)
            rw [hz k k1] at this; cases this
          obtain ⟨j, j1, j2, -⟩ := hk3
          cases j with
          | zero => rw [h0] at j2; omega
          | succ j =>
            rcases P_succX hP (by omega) j2 with ⟨k', a1, a2, a3, -⟩ | ⟨a3, -⟩
            · have := (hb v k' a1).mpr (Or.inl ⟨j, by omega, a3, j2⟩)
              rw [hz k' a1] at this; cases this
            · exact stay j (by omega) a3 hU
        · intro hU
          refine (bit0 (hlt v)).mpr fun k hk => ?_
          cases e : (upS h U m v).testBit k with
          | false => rfl
          | true =>
            exfalso
            rcases (hb v k hk).mp e with q | ⟨q1, q2⟩
            · obtain ⟨j, j1, j2, j3⟩ := q
              have him : j + 1 < m := by
                rcases Nat.lt_or_ge (j + 1) m with q | q
                · exact q
                · have : j + 1 = m := by omega
                  rw [this, hms] at j3
                  omega
              rcases P_predX hP him j3 with ⟨q, -⟩ | ⟨k', k1, k2, k3, k4⟩
              · have him2 : j + 2 < m := by
                  rcases Nat.lt_or_ge (j + 2) m with q3 | q3
                  · exact q3
                  · have : j + 2 = m := by omega
                    rw [this, hms] at q
                    omega
                rcases P_predE hP him2 q with ⟨k', a1, a2, a3, -⟩ | ⟨-, -, a3⟩
                · exact hno _ (nb_ne v k') ⟨j + 2, him2, q, a3⟩
                · exact a3 hU
              · rw [hU, Nat.zero_testBit] at k4; cases k4
            · rw [hU, Nat.zero_testBit] at q2; cases q2
end
