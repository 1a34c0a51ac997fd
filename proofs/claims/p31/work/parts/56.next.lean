/-! from path to path -/
def cfS (d : Nat) (al : Nat → Bool) (s : Nat) (U : Nat → Nat) : Nat → Option Nat := (bs d U al s 128).2.1
def fnd (d : Nat) (al : Nat → Bool) (s t : Nat) (U : Nat → Nat) : Bool := (cfS d al s U (2 * t)).isSome
def lnP (d : Nat) (al : Nat → Bool) (s t : Nat) (U : Nat → Nat) : Nat := zfst (fun i => ph (cfS d al s U) (2 * t) i == 2 * s + 1) 128
def nxU (d : Nat) (al : Nat → Bool) (s t : Nat) (U : Nat → Nat) : Nat → Nat := upS (ph (cfS d al s U) (2 * t)) U (lnP d al s t U)
theorem ph_0 (cf : Nat → Option Nat) (y : Nat) : ph cf y 0 = y := rfl
theorem bs_stop {d : Nat} {U : Nat → Nat} {al : Nat → Bool} {s i : Nat} (h : (bs d U al s i).1 ≤ i) : ∀ j, bs d U al s (i + j) = bs d U al s i
  | 0 => rfl
  | j + 1 => by
    have ih := bs_stop h j
    show bs d U al s ((i + j) + 1) = _
    rw [bs, ih, if_neg (by omega)]
theorem bs_fin {d : Nat} {U : Nat → Nat} {al : Nat → Bool} {s : Nat} (hd : d ≤ 6) (hs : s < 2 ^ d) (i : Nat) : BL (bs d U al s i) (bs d U al s 128) := by
  rcases Nat.le_total i 128 with q | q
  · have := bs_le (U := U) (al := al) hd hs i (128 - i)
    rwa [show i + (128 - i) = 128 by omega] at this
  · have h128 := BV_le (bs_ok (U := U) (al := al) hd hs 128)
    have := bs_stop h128 (i - 128)
    rw [show 128 + (i - 128) = i by omega] at this
    rw [this]
    exact BL_refl _
theorem fnd_no {d : Nat} {U : Nat → Nat} {al : Nat → Bool} {s t i : Nat} (hd : d ≤ 6) (hs : s < 2 ^ d) (h : (bs d U al s i).1 ≤ i) (hn : (bs d U al s i).2.1 (2 * t) = none) : fnd d al s t U = false := by
  have e : bs d U al s 128 = bs d U al s i := by
    have h128 := BV_le (bs_ok (U := U) (al := al) hd hs 128)
    rcases Nat.le_total i 128 with q | q
    · have := bs_stop h (128 - i)
      rwa [show i + (128 - i) = 128 by omega] at this
    · have := bs_stop h128 (i - 128)
      rw [show 128 + (i - 128) = i by omega] at this
      exact this.symm
  rw [fnd, cfS, e, hn]
  rfl
theorem upS_cong {h h' : Nat → Nat} {U : Nat → Nat} : ∀ m, (∀ i, i ≤ m → h i = h' i) → upS h U m = upS h' U m
  | 0, _ => rfl
  | m + 1, e => by rw [upS, upS, upS_cong m (fun i hi => e i (by omega)), e m (by omega), e (m + 1) (Nat.le_refl _)]
/-- a search that has found its goal: the path is the one that the whole search gives -/
theorem fnd_yes {d : Nat} {U : Nat → Nat} {al : Nat → Bool} {s t i : Nat} (hd : d ≤ 6) (hs : s < 2 ^ d) (hn : (bs d U al s i).2.1 (2 * t) ≠ none) :
    fnd d al s t U = true ∧ PP d U al s t (bs d U al s i).2.1 (ph (cfS d al s U) (2 * t)) (lnP d al s t U) := by
  have hL := bs_fin (U := U) (al := al) hd hs i
  obtain ⟨m, hP⟩ := PP_ex (t := t) (bs_ok (U := U) (al := al) hd hs i) hn
  obtain ⟨p0, pm, hm, hst, hlt, hinj⟩ := hP
  have same : ∀ k, k ≤ m → ph (cfS d al s U) (2 * t) k = ph (bs d U al s i).2.1 (2 * t) k := fun k => by
    induction k with
    | zero => exact fun _ => (ph_0 _ _).trans (ph_0 _ _).symm
    | succ k ih =>
      intro hk
      have e := (hst k (by omega)).2.2
      show (cfS d al s U (ph (cfS d al s U) (2 * t) k)).getD 0 = _
      rw [ih (by omega), show cfS d al s U (ph (bs d U al s i).2.1 (2 * t) k) = some (ph (bs d U al s i).2.1 (2 * t) (k + 1)) from hL.2.1 _ _ e]
      rfl
  have hl : lnP d al s t U = m := by
    refine zfst_eq (by omega) (fun j hj => ?_) (fun _ => ?_)
    · rw [same j (by omega)]
      simpa using (hst j hj).1
    · rw [same m (Nat.le_refl m), pm]
      simp
  rw [hl]
  refine ⟨?_, ph_0 _ _, by rw [same m (Nat.le_refl m)]; exact pm, hm, fun k hk => ?_, fun k hk => by rw [same k hk]; exact hlt k hk, fun a b ha hb e => ?_⟩
  · have := BL_some hL hn
    rw [fnd]
    cases e : cfS d al s U (2 * t) with
    | none => exact absurd e this
    | some _ => rfl
  · rw [same k (by omega), same (k + 1) (by omega)]
    exact hst k hk
  · rw [same a ha, same b hb] at e
    exact hinj a b ha hb e
theorem CN_ex (h : Nat → Nat) (m t : Nat) (C : Nat → Option Nat) (hone : ∀ v u u', sA h m u v → sA h m u' v → u = u') : ∃ D, CN h m t C D := by
  refine ⟨fun v => @dite _ (v ≠ t ∧ ∃ u, u ≠ v ∧ sA h m u v) (Classical.propDecidable _) (fun q => some (Classical.choose q.2)) (fun _ => @ite _ (∃ u, u ≠ v ∧ kA h m u v) (Classical.propDecidable _) none (C v)), fun v u hv hu hs => ?_, fun v u hv hu hk => ?_, fun v hv hk => ?_⟩
  · have q : v ≠ t ∧ ∃ u, u ≠ v ∧ sA h m u v := ⟨hv, u, hu, hs⟩
    dsimp only
    rw [dif_pos q]
    rw [hone v _ _ (Classical.choose_spec q.2).2 hs]
  · have q : ¬ (v ≠ t ∧ ∃ u, u ≠ v ∧ sA h m u v) := fun ⟨z1, u', z2, z3⟩ => by
      rcases hv with hv | hv
      · exact z1 hv
      · exact hv u' z2 z3
    dsimp only
    rw [dif_neg q, if_pos ⟨u, hu, hk⟩]
  · have q : ¬ (v ≠ t ∧ ∃ u, u ≠ v ∧ sA h m u v) := fun ⟨z1, u', z2, z3⟩ => by
      rcases hv with hv | hv
      · exact z1 hv
      · exact hv u' z2 z3
    dsimp only
    rw [dif_neg q, if_neg (fun ⟨u', z2, z3⟩ => hk u' z2 z3)]
section
variable {d s t m : Nat} {U : Nat → Nat} {al : Nat → Bool} {cf : Nat → Option Nat} {h : Nat → Nat} {C D : Nat → Option Nat} {dir : Bool} {goes comes : Nat → Int32}
theorem GR_up {g1 c1 g2 c2 : Nat → Int32} (hd : d ≤ 6) (hst : s ≠ t) (hs : s < 2 ^ d) (ht : t < 2 ^ d) (hP : PP d U al s t cf h m) (hF : FI d s t U C) (hC : CN h m t C D) (hG : GR d s t U C dir goes comes) (hT1 : T1 h m 0 goes comes g1 c1) (hT2 : T2 h m s t 0 g1 c1 g2 c2) :
    GR d s t (upS h U m) D (dir || decide (h 1 = 2 * s + 1)) g2 c2 := by
  have h6 := p2_le hd
  have hF' := FI_up hd hst ht hP hF hC
  have hb := upS_bit hd hP m (Nat.le_refl m)
  have hm0 := h_end hP
  obtain ⟨f1, f2, f3, f4, f5, f6, f7, f8⟩ := hF
  obtain ⟨r1, r2, r3, r4, r5⟩ := hG
  have nks : ∀ w, ¬ kA h m s w := fun w ⟨i, i1, i2, _⟩ => (hP.2.2.2.1 i i1).1 i2
  have sSA : ∀ u : Nat, (∃ i v', 0 ≤ i ∧ i < m ∧ v' ≠ u ∧ h i = 2 * v' ∧ h (i + 1) = 2 * u + 1) → ∃ w, w ≠ u ∧ sA h m u w ∧ ∀ g : Nat → Int32, (∀ (i v : Nat), 0 ≤ i → i < m → v ≠ u → u ≠ s → h i = 2 * v → h (i + 1) = 2 * u + 1 → g u = nI v) → u ≠ s → g u = nI w := fun u ⟨i, v', a1, a2, a3, a4, a5⟩ => ⟨v', a3, ⟨i, a2, a4, a5⟩, fun g hg hu => hg i v' a1 a2 a3 hu a4 a5⟩
  refine ⟨?_, fun u hu hus hz => ?_, fun u k hu hk hus hbk => ?_, fun v hv => ?_, fun k hk e => ?_⟩
  · rw [((hT2.1 s (by omega)).2 (Or.inl rfl)), (hT1.1 s (by omega)).2 (fun ⟨i, v, _, a2, _, a4, _⟩ => (hP.2.2.2.1 i a2).1 a4)]
    exact r1
  · have hz0 := (bit0 (hF'.1 u)).mp hz
    have hns : ¬ ∃ i v, 0 ≤ i ∧ i < m ∧ v ≠ u ∧ h i = 2 * v ∧ h (i + 1) = 2 * u + 1 := fun q => by
      obtain ⟨w, w1, w2, -⟩ := sSA u q
      obtain ⟨k, k1, k2, k3, -⟩ := sA_bit hP w2 w1
      have := (hb u k k1).mpr (Or.inl (k3 ▸ w2))
      rw [hz0 k k1] at this
      cases this
    rw [(hT2.1 u (by omega)).2 (Or.inr hns)]
    by_cases hk : ∃ i v, 0 ≤ i ∧ i < m ∧ v ≠ u ∧ h i = 2 * u + 1 ∧ h (i + 1) = 2 * v
    · exact (hT1.1 u (by omega)).1 hk
    · rw [(hT1.1 u (by omega)).2 hk]
      refine r2 u hu hus (Classical.byContradiction fun hU => ?_)
      obtain ⟨k, k1, k2⟩ := bit_ne0 (f1 u) hU
      have := (hb u k k1).mpr (Or.inr ⟨fun ⟨i, i1, i2, i3⟩ => hk ⟨i, _, Nat.zero_le i, i1, nb_ne u k, i2, i3⟩, k2⟩)
      rw [hz0 k k1] at this
      cases this
  · by_cases hsx : ∃ i v, 0 ≤ i ∧ i < m ∧ v ≠ u ∧ h i = 2 * v ∧ h (i + 1) = 2 * u + 1
    · obtain ⟨w, w1, w2, w3⟩ := sSA u hsx
      obtain ⟨k', k1, k2, k3, -⟩ := sA_bit hP w2 w1
      have hb' := (hb u k' k1).mpr (Or.inl (k3 ▸ w2))
      have := hF'.2.1 u hus k k' hk k1 hbk hb'
      rw [w3 g2 (hT2.1 u (by omega)).1 hus, k3, this]
    · rw [(hT2.1 u (by omega)).2 (Or.inr hsx)]
      have hbits : ¬ kA h m u (u ^^^ 2 ^ k) ∧ (U u).testBit k = true := by
        rcases (hb u k hk).mp hbk with ⟨i, i1, i2, i3⟩ | q
        · exact absurd ⟨i, _, Nat.zero_le i, i1, nb_ne u k, i2, i3⟩ hsx
        · exact q
      rw [(hT1.1 u (by omega)).2 (fun ⟨i, v, a1, a2, a3, a4, a5⟩ => ?_)]
      · exact r3 u k hu hk hus hbits.2
      · obtain ⟨k', k1, k2, k3, k4, -⟩ := kA_bit hP ⟨i, a2, a4, a5⟩ a3
        have := f2 u hus k k' hk k1 hbits.2 k4
        subst this
        exact hbits.1 ⟨i, a2, a4, by rw [a5, k3]⟩
  · obtain ⟨c1', c2', c3'⟩ := hC
    by_cases hsx : v ≠ t ∧ ∃ i u, 0 ≤ i ∧ i < m ∧ u ≠ v ∧ h i = 2 * v ∧ h (i + 1) = 2 * u + 1
    · obtain ⟨hvt, i, u, a1, a2, a3, a4, a5⟩ := hsx
      rw [(hT2.2 v (by omega)).1 i u a1 a2 a3 hvt a4 a5, c1' v u hvt a3 ⟨i, a2, a4, a5⟩]
      rfl
    · have hn : v = t ∨ ¬ ∃ i u, 0 ≤ i ∧ i < m ∧ u ≠ v ∧ h i = 2 * v ∧ h (i + 1) = 2 * u + 1 := by
        by_cases q : v = t
        · exact Or.inl q
        · exact Or.inr fun z => hsx ⟨q, z⟩
      have hn2 : v = t ∨ ∀ u, u ≠ v → ¬ sA h m u v := hn.imp_right fun q u hu ⟨i, i1, i2, i3⟩ => q ⟨i, u, Nat.zero_le i, i1, hu, i2, i3⟩
      rw [(hT2.2 v (by omega)).2 hn]
      by_cases hk : ∃ i u, 0 ≤ i ∧ i < m ∧ u ≠ v ∧ h i = 2 * u + 1 ∧ h (i + 1) = 2 * v
      · rw [(hT1.2 v (by omega)).1 hk]
        obtain ⟨i, u, a1, a2, a3, a4, a5⟩ := hk
        rw [c2' v u hn2 a3 ⟨i, a2, a4, a5⟩]
        rfl
      · rw [(hT1.2 v (by omega)).2 hk, c3' v hn2 (fun u hu ⟨i, i1, i2, i3⟩ => hk ⟨i, u, Nat.zero_le i, i1, hu, i2, i3⟩)]
        exact r4 v hv
  · have hx : (upS h U m s).testBit k = true ↔ (h 1 = 2 * s + 1 ∨ (U s).testBit k = true) := by
      rw [hb s k hk, e]
      constructor
      · rintro (⟨i, i1, i2, i3⟩ | ⟨-, q⟩)
        · have : i = 0 := hP.2.2.2.2.2 i 0 (by omega) (by omega) (i2.trans hP.1.symm)
          subst this
          exact Or.inl i3
        · exact Or.inr q
      · rintro (q | q)
        · exact Or.inl ⟨0, hm0, hP.1, q⟩
        · exact Or.inr ⟨nks t, q⟩
    rw [r5 k hk e]
    cases q : (upS h U m s).testBit k with
    | true =>
      rcases hx.mp q with z | z
      · simp [z]
      · simp [z]
    | false =>
      have : ¬ (h 1 = 2 * s + 1 ∨ (U s).testBit k = true) := fun z => by rw [hx.mpr z] at q; cases q
      have z1 : ¬ h 1 = 2 * s + 1 := fun z => this (Or.inl z)
      have z2 : (U s).testBit k = false := Bool.eq_false_iff.mpr (fun z => this (Or.inr z))
      simp [z1, z2]
theorem ct_up (hd : d ≤ 6) (hP : PP d U al s t cf h m) (hs : s < 2 ^ d) : fb_ct (fun k => (upS h U m s).testBit k) d = fb_ct (fun k => (U s).testBit k) d + 1 := by
  have hb := upS_bit hd hP m (Nat.le_refl m) s
  have hm0 := h_end hP
  obtain ⟨i, hi⟩ : ∃ i, m = i + 1 := ⟨m - 1, by omega⟩
  have hms : h (i + 1) = 2 * s + 1 := hi ▸ hP.2.1
  rcases P_succX hP (show i + 1 ≤ m by omega) hms with ⟨k0, a1, a2, a3, a4, a5, a6⟩ | ⟨-, a2, -⟩
  · have hct := fb_ct_upd (fun k => (U s).testBit k) true (i := k0) (n := d) a1
    rw [if_neg (by rw [a4]; decide), if_pos rfl] at hct
    rw [← hct]
    refine fb_ct_cong fun k hk => ?_
    have h1 := hb k hk
    by_cases e : k = k0
    · rw [if_pos e]
      exact h1.mpr (Or.inl ⟨i, by omega, by rw [e]; exact a3, hms⟩)
    · rw [if_neg e]
      have h2 : (upS h U m s).testBit k = true ↔ (U s).testBit k = true := by
        rw [h1]
        constructor
        · rintro (q | ⟨-, q⟩)
          · have := sA_one hP q ⟨i, by omega, a3, hms⟩
            exact absurd (xor_bit_inj this) e
          · exact q
        · exact fun q => Or.inr ⟨fun ⟨j, j1, j2, _⟩ => (hP.2.2.2.1 j j1).1 j2, q⟩
      cases q : (U s).testBit k with
      | true => exact h2.mpr q
      | false => exact Bool.eq_false_iff.mpr (fun z => by rw [h2.mp z] at q; cases q)
  · exact absurd rfl a2
end
