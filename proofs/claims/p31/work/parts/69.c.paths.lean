/-! disjoint paths: as many both ways, none just where there is no way, as many as can be -/
section
variable {d s t : Nat} {U : Nat → Nat} {C : Nat → Option Nat} {al : Nat → Bool}
theorem fOut_U0 {v : Nat} (h : U v < 2 ^ d) : fOut d (fun u k => (U u).testBit k) v = 0 ↔ U v = 0 := by
  constructor
  · intro q
    exact (bit0 h).mpr (fun k hk => fOut_0 (A := fun u k => (U u).testBit k) q hk)
  · intro q
    exact fb_sm_0 (fun k _ => by show bN ((U v).testBit k) = 0; rw [q, Nat.zero_testBit]; rfl)
theorem FI_FLW (hd : d ≤ 6) (hst : s ≠ t) (hs : s < 2 ^ d) (hF : FI d s t U C) (hal : ∀ u k, u < 2 ^ d → k < d → (U u).testBit k = true → al (u ^^^ 2 ^ k) = true) : FLW d s t al (fun u k => (U u).testBit k) := by
  obtain ⟨f1, f2, f3, f4, f5, f6, f7, f8⟩ := hF
  refine ⟨fun v hv e1 e2 => ?_, ?_, (fOut_U0 (f1 t)).mpr f3, hal⟩
  · have hin : ∀ k, k < d → (U (v ^^^ 2 ^ k)).testBit k = true → C v = some (v ^^^ 2 ^ k) := fun k hk q => by
      have := (f6 (v ^^^ 2 ^ k) k (nb_lt hd hv hk) hk (by rw [xor_2]; exact e2)).mpr q
      rw [xor_2] at this
      exact this
    by_cases h0 : U v = 0
    · have hC := (f8 v hv e1 e2).mp h0
      have o0 := (fOut_U0 (d := d) (f1 v)).mpr h0
      have i0 : fIn d (fun u k => (U u).testBit k) v = 0 := fb_sm_0 (fun k hk => by
        show bN ((U (v ^^^ 2 ^ k)).testBit k) = 0
        cases q : (U (v ^^^ 2 ^ k)).testBit k with
        | false => rfl
        | true => rw [hin k hk q] at hC; cases hC)
      rw [o0, i0]
      exact ⟨rfl, Nat.zero_le _⟩
    · obtain ⟨k0, hk0, hb0⟩ := bit_ne0 (f1 v) h0
      have o1 : fOut d (fun u k => (U u).testBit k) v = 1 := by
        have := fb_sm_one (f := fun k => bN ((U v).testBit k)) (i := k0) (n := d) hk0 (fun k hk hne => by
          cases q : (U v).testBit k with
          | false => rfl
          | true => exact absurd (f2 v e1 k k0 hk hk0 q hb0) hne)
        rw [hb0] at this
        exact this
      have hCn : C v ≠ none := fun q => h0 ((f8 v hv e1 e2).mpr q)
      cases hC : C v with
      | none => exact absurd hC hCn
      | some u =>
        obtain ⟨k1, hk1, hu, e⟩ := f7 v u hC
        have hu2 : v ^^^ 2 ^ k1 = u := by rw [e, xor_2]
        have hb1 : (U (v ^^^ 2 ^ k1)).testBit k1 = true := by
          rw [hu2]
          exact (f6 u k1 hu hk1 (by rw [← e]; exact e2)).mp (by rw [← e]; exact hC)
        have i1 : fIn d (fun u k => (U u).testBit k) v = 1 := by
          have := fb_sm_one (f := fun k => bN ((U (v ^^^ 2 ^ k)).testBit k)) (i := k1) (n := d) hk1 (fun k hk hne => by
            cases q : (U (v ^^^ 2 ^ k)).testBit k with
            | false => rfl
            | true =>
              have := hin k hk q
              rw [hC] at this
              have h2 : v ^^^ 2 ^ k = v ^^^ 2 ^ k1 := (Option.some.inj this).symm.trans hu2.symm
              exact absurd (xor_bit_inj h2) hne)
          rw [hb1] at this
          exact this
        rw [o1, i1]
        exact ⟨rfl, Nat.le_refl _⟩
  · refine fb_sm_0 (fun k hk => ?_)
    show bN ((U (s ^^^ 2 ^ k)).testBit k) = 0
    cases q : (U (s ^^^ 2 ^ k)).testBit k with
    | false => rfl
    | true =>
      have := (f6 (s ^^^ 2 ^ k) k (nb_lt hd hs hk) hk (by rw [xor_2]; exact hst)).mpr q
      rw [xor_2, f4] at this
      cases this
theorem Uk_al (hd : d ≤ 6) (hs : s < 2 ^ d) : ∀ k, (∀ j, j < k → fnd d al s t (Uk d al s t j) = true) → ∀ u b, u < 2 ^ d → b < d → (Uk d al s t k u).testBit b = true → al (u ^^^ 2 ^ b) = true
  | 0, _ => fun u b _ _ q => by
    have q' : (0 : Nat).testBit b = true := q
    rw [Nat.zero_testBit] at q'; cases q'
  | k + 1, h => fun u b hu hb q => by
    obtain ⟨-, hP⟩ := fnd_yes hd hs (fnd_ne (h k (by omega)))
    rcases (upS_bit hd hP _ (Nat.le_refl _) u b hb).mp q with z | ⟨-, z⟩
    · obtain ⟨_, _, _, _, _, _, g⟩ := sA_bit hP z (nb_ne u b)
      exact g
    · exact Uk_al hd hs k (fun j hj => h j (by omega)) u b hu hb z
theorem NP_flow (hd : d ≤ 6) (hs : s < 2 ^ d) (ht : t < 2 ^ d) (hst : s ≠ t) : FLW d s t al (fun u k => (Uk d al s t (NP d al s t) u).testBit k) ∧ fOut d (fun u k => (Uk d al s t (NP d al s t) u).testBit k) s = NP d al s t ∧ (∀ u, Uk d al s t (NP d al s t) u < 2 ^ d) := by
  obtain ⟨⟨C, hF⟩, hct⟩ := Uk_ok (al := al) hd hs ht hst (NP d al s t) (fun j hj => NP_lt hj)
  exact ⟨FI_FLW hd hst hs hF (Uk_al hd hs _ (fun j hj => NP_lt hj)), (ct_sm _ d).symm.trans hct, hF.1⟩
theorem NP_max (hd : d ≤ 6) (hs : s < 2 ^ d) (ht : t < 2 ^ d) (hst : s ≠ t) {B : Nat → Nat → Bool} (hB : FLW d s t al B) : fOut d B s ≤ NP d al s t := by
  obtain ⟨hA, hval, hlt⟩ := NP_flow (al := al) hd hs ht hst
  have hend := NP_end (al := al) hd hs ht hst
  rw [← hval]
  refine flow_max (a := fun v => RS d (Uk d al s t (NP d al s t)) al s (2 * v)) (b := fun v => RS d (Uk d al s t (NP d al s t)) al s (2 * v + 1)) hd hs (RS_start hd hs) hend hA hB (fun u k hu hk hA1 ha => ?_) (fun v hv hvs hb hpos => ?_) (fun u k hu hk hb hne hal hA0 => ?_) (fun v hv ha h0 => ?_)
  · have := RS_closed hd hs ha (y := 2 * u + 1) (Or.inr (Or.inr (Or.inr ⟨u ^^^ 2 ^ k, k, hk, nb_lt hd hu hk, rfl, by rw [xor_2], by rw [xor_2]; exact hA1⟩)))
    exact this
  · exact RS_closed hd hs hb (Or.inr (Or.inl ⟨v, hv, rfl, rfl, hvs, fun q => by have := (fOut_U0 (d := d) (hlt v)).mpr q; omega⟩))
  · exact RS_closed hd hs hb (Or.inl ⟨u, k, hk, hu, rfl, rfl, hA0, hne, hal⟩)
  · exact RS_closed hd hs ha (Or.inr (Or.inr (Or.inl ⟨v, hv, rfl, rfl, (fOut_U0 (d := d) (hlt v)).mp h0⟩)))
theorem NP_sym_le (hd : d ≤ 6) (hs : s < 2 ^ d) (ht : t < 2 ^ d) (hst : s ≠ t) (hat : al t = true) : NP d al t s ≤ NP d al s t := by
  obtain ⟨hA, hval, -⟩ := NP_flow (al := al) hd ht hs (fun q => hst q.symm)
  obtain ⟨hR, hv⟩ := FLW_rev hd (fun q => hst q.symm) ht hs hat hA
  have := NP_max hd hs ht hst hR
  rw [hv, hval] at this
  exact this
theorem NP_sym (hd : d ≤ 6) (hs : s < 2 ^ d) (ht : t < 2 ^ d) (hst : s ≠ t) (has : al s = true) (hat : al t = true) : NP d al s t = NP d al t s :=
  Nat.le_antisymm (NP_sym_le hd ht hs (fun q => hst q.symm) has) (NP_sym_le hd hs ht hst hat)
theorem NP_own (hd : d ≤ 6) (hs : s < 2 ^ d) (ht : t < 2 ^ d) (hst : s ≠ t) : NP d al s t ≤ fb_ct (fun i => al (s ^^^ 2 ^ i)) d := by
  obtain ⟨hA, hval, -⟩ := NP_flow (al := al) hd hs ht hst
  rw [← hval, show fOut d (fun u k => (Uk d al s t (NP d al s t) u).testBit k) s = fb_ct (fun k => (Uk d al s t (NP d al s t) s).testBit k) d from (ct_sm _ d).symm]
  exact fb_ct_sub (fun k hk q => hA.2.2.2 s k hs hk q)
theorem NP_0 (hd : d ≤ 6) (hs : s < 2 ^ d) (ht : t < 2 ^ d) (hst : s ≠ t) : NP d al s t = 0 ↔ ¬ shd d al s t < 64 := by
  have h0 : Uk d al s t 0 = fun _ => 0 := rfl
  constructor
  · intro q z
    have hend := NP_end (al := al) hd hs ht hst
    rw [q, h0, (fnd0_iff hd hs ht hst).mpr (let ⟨k, hk, hp⟩ := shd_PTH z; ⟨k, hp⟩)] at hend
    cases hend
  · intro q
    rcases Nat.eq_zero_or_pos (NP d al s t) with z | z
    · exact z
    · have := NP_lt (d := d) (al := al) (s := s) (t := t) z
      rw [h0] at this
      obtain ⟨k, hp⟩ := fnd0_PTH hd hs this
      exact absurd (PTH_shd hd hs ht hp) q
end
/-! where all live: as many as dimensions -/
def tb2 : List (List Nat) := [[9, 9, 9, 9], [9, 9, 0, 1], [9, 1, 9, 0], [9, 1, 0, 9]]
def tb3 : List (List Nat) := [[9, 9, 9, 9, 9, 9, 9, 9], [9, 9, 0, 1, 0, 2, 9, 9], [9, 1, 9, 0, 1, 9, 2, 9], [9, 1, 0, 9, 0, 1, 9, 2], [9, 2, 2, 9, 9, 0, 1, 9], [9, 2, 0, 2, 0, 9, 9, 1], [9, 1, 2, 2, 1, 9, 9, 0], [9, 1, 2, 2, 0, 1, 0, 9]]
def tb4 : List (List Nat) := [[9, 9, 9, 9, 9, 9, 9, 9, 9, 9, 9, 9, 9, 9, 9, 9], [9, 9, 0, 1, 0, 2, 9, 9, 0, 3, 9, 9, 9, 9, 9, 9], [9, 1, 9, 0, 1, 9, 2, 9, 1, 9, 3, 9, 9, 9, 9, 9], [9, 1, 0, 9, 0, 1, 9, 2, 0, 1, 9, 3, 9, 9, 9, 9], [9, 2, 2, 9, 9, 0, 1, 9, 2, 9, 9, 9, 3, 9, 9, 9], [9, 2, 0, 2, 0, 9, 9, 1, 0, 2, 9, 9, 9, 3, 9, 9], [9, 1, 2, 2, 1, 9, 9, 0, 1, 9, 2, 9, 9, 9, 3, 9], [9, 1, 2, 2, 0, 1, 0, 9, 0, 1, 9, 2, 9, 9, 9, 3], [9, 3, 3, 9, 3, 9, 9, 9, 9, 0, 1, 9, 2, 9, 9, 9], [9, 3, 0, 3, 0, 3, 9, 9, 0, 9, 9, 1, 9, 2, 9, 9], [9, 1, 3, 3, 1, 9, 3, 9, 1, 9, 9, 0, 9, 9, 2, 9], [9, 1, 3, 3, 0, 1, 9, 3, 0, 1, 0, 9, 9, 9, 9, 2], [9, 2, 2, 9, 3, 3, 3, 9, 2, 9, 9, 9, 9, 0, 1, 9], [9, 2, 0, 2, 3, 3, 9, 3, 0, 2, 9, 9, 0, 9, 9, 1], [9, 1, 2, 2, 3, 9, 3, 3, 1, 9, 2, 9, 1, 9, 9, 0], [9, 1, 2, 2, 3, 9, 3, 3, 0, 1, 9, 2, 0, 1, 0, 9]]
def tb5 : List (List Nat) := [[9, 9, 9, 9, 9, 9, 9, 9, 9, 9, 9, 9, 9, 9, 9, 9, 9, 9, 9, 9, 9, 9, 9, 9, 9, 9, 9, 9, 9, 9, 9, 9], [9, 9, 0, 1, 0, 2, 9, 9, 0, 3, 9, 9, 9, 9, 9, 9, 0, 4, 9, 9, 9, 9, 9, 9, 9, 9, 9, 9, 9, 9, 9, 9], [9, 1, 9, 0, 1, 9, 2, 9, 1, 9, 3, 9, 9, 9, 9, 9, 1, 9, 4, 9, 9, 9, 9, 9, 9, 9, 9, 9, 9, 9, 9, 9], [9, 1, 0, 9, 0, 1, 9, 2, 0, 1, 9, 3, 9, 9, 9, 9, 0, 1, 9, 4, 9, 9, 9, 9, 9, 9, 9, 9, 9, 9, 9, 9], [9, 2, 2, 9, 9, 0, 1, 9, 2, 9, 9, 9, 3, 9, 9, 9, 2, 9, 9, 9, 4, 9, 9, 9, 9, 9, 9, 9, 9, 9, 9, 9], [9, 2, 0, 2, 0, 9, 9, 1, 0, 2, 9, 9, 9, 3, 9, 9, 0, 2, 9, 9, 9, 4, 9, 9, 9, 9, 9, 9, 9, 9, 9, 9], [9, 1, 2, 2, 1, 9, 9, 0, 1, 9, 2, 9, 9, 9, 3, 9, 1, 9, 2, 9, 9, 9, 4, 9, 9, 9, 9, 9, 9, 9, 9, 9], [9, 1, 2, 2, 0, 1, 0, 9, 0, 1, 9, 2, 9, 9, 9, 3, 0, 1, 9, 2, 9, 9, 9, 4, 9, 9, 9, 9, 9, 9, 9, 9], [9, 3, 3, 9, 3, 9, 9, 9, 9, 0, 1, 9, 2, 9, 9, 9, 3, 9, 9, 9, 9, 9, 9, 9, 4, 9, 9, 9, 9, 9, 9, 9], [9, 3, 0, 3, 0, 3, 9, 9, 0, 9, 9, 1, 9, 2, 9, 9, 0, 3, 9, 9, 9, 9, 9, 9, 9, 4, 9, 9, 9, 9, 9, 9], [9, 1, 3, 3, 1, 9, 3, 9, 1, 9, 9, 0, 9, 9, 2, 9, 1, 9, 3, 9, 9, 9, 9, 9, 9, 9, 4, 9, 9, 9, 9, 9], [9, 1, 3, 3, 0, 1, 9, 3, 0, 1, 0, 9, 9, 9, 9, 2, 0, 1, 9, 3, 9, 9, 9, 9, 9, 9, 9, 4, 9, 9, 9, 9], [9, 2, 2, 9, 3, 3, 3, 9, 2, 9, 9, 9, 9, 0, 1, 9, 2, 9, 9, 9, 3, 9, 9, 9, 9, 9, 9, 9, 4, 9, 9, 9], [9, 2, 0, 2, 3, 3, 9, 3, 0, 2, 9, 9, 0, 9, 9, 1, 0, 2, 9, 9, 9, 3, 9, 9, 9, 9, 9, 9, 9, 4, 9, 9], [9, 1, 2, 2, 3, 9, 3, 3, 1, 9, 2, 9, 1, 9, 9, 0, 1, 9, 2, 9, 9, 9, 3, 9, 9, 9, 9, 9, 9, 9, 4, 9], [9, 1, 2, 2, 3, 9, 3, 3, 0, 1, 9, 2, 0, 1, 0, 9, 0, 1, 9, 2, 9, 9, 9, 3, 9, 9, 9, 9, 9, 9, 9, 4], [9, 4, 4, 9, 4, 9, 9, 9, 4, 9, 9, 9, 9, 9, 9, 9, 9, 0, 1, 9, 2, 9, 9, 9, 3, 9, 9, 9, 9, 9, 9, 9], [9, 4, 0, 4, 0, 4, 9, 9, 0, 4, 9, 9, 9, 9, 9, 9, 0, 9, 9, 1, 9, 2, 9, 9, 9, 3, 9, 9, 9, 9, 9, 9], [9, 1, 4, 4, 1, 9, 4, 9, 1, 9, 4, 9, 9, 9, 9, 9, 1, 9, 9, 0, 9, 9, 2, 9, 9, 9, 3, 9, 9, 9, 9, 9], [9, 1, 4, 4, 0, 1, 9, 4, 0, 1, 9, 4, 9, 9, 9, 9, 0, 1, 0, 9, 9, 9, 9, 2, 9, 9, 9, 3, 9, 9, 9, 9], [9, 2, 2, 9, 4, 4, 4, 9, 2, 9, 9, 9, 4, 9, 9, 9, 2, 9, 9, 9, 9, 0, 1, 9, 9, 9, 9, 9, 3, 9, 9, 9], [9, 2, 0, 2, 4, 4, 9, 4, 0, 2, 9, 9, 9, 4, 9, 9, 0, 2, 9, 9, 0, 9, 9, 1, 9, 9, 9, 9, 9, 3, 9, 9], [9, 1, 2, 2, 4, 9, 4, 4, 1, 9, 2, 9, 9, 9, 4, 9, 1, 9, 2, 9, 1, 9, 9, 0, 9, 9, 9, 9, 9, 9, 3, 9], [9, 1, 2, 2, 4, 9, 4, 4, 0, 1, 9, 2, 9, 9, 9, 4, 0, 1, 9, 2, 0, 1, 0, 9, 9, 9, 9, 9, 9, 9, 9, 3], [9, 3, 3, 9, 3, 9, 9, 9, 4, 4, 4, 9, 4, 9, 9, 9, 3, 9, 9, 9, 9, 9, 9, 9, 9, 0, 1, 9, 2, 9, 9, 9], [9, 3, 0, 3, 0, 3, 9, 9, 4, 4, 9, 4, 9, 4, 9, 9, 0, 3, 9, 9, 9, 9, 9, 9, 0, 9, 9, 1, 9, 2, 9, 9], [9, 1, 3, 3, 1, 9, 3, 9, 4, 9, 4, 4, 9, 9, 4, 9, 1, 9, 3, 9, 9, 9, 9, 9, 1, 9, 9, 0, 9, 9, 2, 9], [9, 1, 3, 3, 0, 1, 9, 3, 4, 9, 4, 4, 9, 9, 9, 4, 0, 1, 9, 3, 9, 9, 9, 9, 0, 1, 0, 9, 9, 9, 9, 2], [9, 2, 2, 9, 3, 3, 3, 9, 4, 9, 9, 9, 4, 4, 4, 9, 2, 9, 9, 9, 3, 9, 9, 9, 2, 9, 9, 9, 9, 0, 1, 9], [9, 2, 0, 2, 3, 3, 9, 3, 4, 9, 9, 9, 4, 4, 9, 4, 0, 2, 9, 9, 9, 3, 9, 9, 0, 2, 9, 9, 0, 9, 9, 1], [9, 1, 2, 2, 3, 9, 3, 3, 4, 9, 9, 9, 4, 9, 4, 4, 1, 9, 2, 9, 9, 9, 3, 9, 1, 9, 2, 9, 1, 9, 9, 0], [9, 1, 2, 2, 3, 9, 3, 3, 4, 9, 9, 9, 4, 9, 4, 4, 0, 1, 9, 2, 9, 9, 9, 3, 0, 1, 9, 2, 0, 1, 0, 9]]
def tbA (T : List (List Nat)) (m x k : Nat) : Bool := if x = 0 then true else ((T.getD m []).getD x 9) == k
def tbP (d : Nat) (T : List (List Nat)) (m : Nat) : Prop := (∀ v, v < 2 ^ d → v ≠ 0 → v ≠ m → fOut d (tbA T m) v = fIn d (tbA T m) v ∧ fOut d (tbA T m) v ≤ 1) ∧ fIn d (tbA T m) 0 = 0 ∧ fOut d (tbA T m) m = 0 ∧ fOut d (tbA T m) 0 = d
def tbV (d : Nat) (T : List (List Nat)) (m v : Nat) : Bool := Nat.beq v 0 || (Nat.beq v m || (Nat.beq (fOut d (tbA T m) v) (fIn d (tbA T m) v) && Nat.ble (fOut d (tbA T m) v) 1))
def tbB (d : Nat) (T : List (List Nat)) (m : Nat) : Bool := Nat.beq m 0 || (Nat.beq (fb_ct (tbV d T m) (2 ^ d)) (2 ^ d) && (Nat.beq (fIn d (tbA T m) 0) 0 && (Nat.beq (fOut d (tbA T m) m) 0 && Nat.beq (fOut d (tbA T m) 0) d)))
theorem tb_of {d : Nat} {T : List (List Nat)} (h : fb_ct (tbB d T) (2 ^ d) = 2 ^ d) {m : Nat} (hm : m < 2 ^ d) (h0 : m ≠ 0) : tbP d T m := by
  have hb : (Nat.beq m 0 || (Nat.beq (fb_ct (tbV d T m) (2 ^ d)) (2 ^ d) && (Nat.beq (fIn d (tbA T m) 0) 0 && (Nat.beq (fOut d (tbA T m) m) 0 && Nat.beq (fOut d (tbA T m) 0) d)))) = true := fb_ct_all.mp h m hm
  rw [Bool.or_eq_true, Bool.and_eq_true, Bool.and_eq_true, Bool.and_eq_true] at hb
  rcases hb with hb | ⟨b1, b2, b3, b4⟩
  · exact absurd (Nat.eq_of_beq_eq_true hb) h0
  · refine ⟨fun v hv e1 e2 => ?_, Nat.eq_of_beq_eq_true b2, Nat.eq_of_beq_eq_true b3, Nat.eq_of_beq_eq_true b4⟩
    have hc : (Nat.beq v 0 || (Nat.beq v m || (Nat.beq (fOut d (tbA T m) v) (fIn d (tbA T m) v) && Nat.ble (fOut d (tbA T m) v) 1))) = true := fb_ct_all.mp (Nat.eq_of_beq_eq_true b1) v hv
    rw [Bool.or_eq_true, Bool.or_eq_true, Bool.and_eq_true] at hc
    rcases hc with hc | hc | ⟨c1, c2⟩
    · exact absurd (Nat.eq_of_beq_eq_true hc) e1
    · exact absurd (Nat.eq_of_beq_eq_true hc) e2
    · exact ⟨Nat.eq_of_beq_eq_true c1, Nat.le_of_ble_eq_true c2⟩
theorem tb2_ok : fb_ct (tbB 2 tb2) (2 ^ 2) = 2 ^ 2 := by decide +kernel
theorem tb3_ok : fb_ct (tbB 3 tb3) (2 ^ 3) = 2 ^ 3 := by decide +kernel
theorem tb4_ok : fb_ct (tbB 4 tb4) (2 ^ 4) = 2 ^ 4 := by decide +kernel
theorem tb5_ok : fb_ct (tbB 5 tb5) (2 ^ 5) = 2 ^ 5 := by decide +kernel
theorem tb_ex {d : Nat} (h2 : 2 ≤ d) (h5 : d ≤ 5) {m : Nat} (hm : m < 2 ^ d) (h0 : m ≠ 0) : ∃ T, tbP d T m := by
  rcases (show d = 2 ∨ d = 3 ∨ d = 4 ∨ d = 5 by omega) with rfl | rfl | rfl | rfl
  · exact ⟨tb2, tb_of tb2_ok hm h0⟩
  · exact ⟨tb3, tb_of tb3_ok hm h0⟩
  · exact ⟨tb4, tb_of tb4_ok hm h0⟩
  · exact ⟨tb5, tb_of tb5_ok hm h0⟩
section
variable {d s t : Nat} {al : Nat → Bool}
theorem NP_all (h2 : 2 ≤ d) (h5 : d ≤ 5) (hs : s < 2 ^ d) (ht : t < 2 ^ d) (hst : s ≠ t) (hall : ∀ v, v < 2 ^ d → al v = true) : NP d al s t = d := by
  have hd : d ≤ 6 := by omega
  have hm : s ^^^ t < 2 ^ d := Nat.xor_lt_two_pow hs ht
  have h0 : s ^^^ t ≠ 0 := fun q => hst (xor_eq0 q)
  obtain ⟨T, t1, t2, t3, t4⟩ := tb_ex h2 h5 hm h0
  have hO : ∀ v, fOut d (fun u k => tbA T (s ^^^ t) (u ^^^ s) k) v = fOut d (tbA T (s ^^^ t)) (v ^^^ s) := fun v => rfl
  have hI : ∀ v, fIn d (fun u k => tbA T (s ^^^ t) (u ^^^ s) k) v = fIn d (tbA T (s ^^^ t)) (v ^^^ s) := fun v => fb_sm_cong (fun k _ => by
    show bN (tbA T (s ^^^ t) (v ^^^ 2 ^ k ^^^ s) k) = bN (tbA T (s ^^^ t) (v ^^^ s ^^^ 2 ^ k) k)
    rw [xor_move])
  have hfl : FLW d s t al (fun u k => tbA T (s ^^^ t) (u ^^^ s) k) := by
    refine ⟨fun v hv e1 e2 => ?_, ?_, ?_, fun u k hu hk _ => hall _ (nb_lt hd hu hk)⟩
    · rw [hO, hI]
      refine t1 (v ^^^ s) (Nat.xor_lt_two_pow hv hs) (fun q => e1 (xor_eq0 q)) (fun q => e2 ?_)
      have := congrArg (fun x => x ^^^ s) q
      simp only [Nat.xor_assoc, Nat.xor_self, Nat.xor_zero] at this
      rw [this, Nat.xor_comm t s, ← Nat.xor_assoc, Nat.xor_self, Nat.zero_xor]
    · rw [hI, Nat.xor_self]; exact t2
    · rw [hO, Nat.xor_comm t s]; exact t3
  have hge := NP_max hd hs ht hst hfl
  rw [hO, Nat.xor_self, t4] at hge
  have hle := NP_own (al := al) hd hs ht hst
  have := ct_le (fun i => al (s ^^^ 2 ^ i)) d
  omega
end
section
variable {d n : Nat} {cu : CU}
theorem p_arePaths (h : CORE d n cu) (h2 : 2 ≤ d) (h5 : d ≤ 5) {s t : Nat} (hs : s < 2 ^ d) (ht : t < 2 ^ d) (hst : s ≠ t) (as : zt cu.1.2.1 s = true) (at' : zt cu.1.2.1 t = true) : wp (f_L_arePaths (nI d) (nI s) (nI t) cu) (fun r => r.1 = 1 ∧ SAME cu r.2) := by
  obtain ⟨h1, hd, hn, -, -, ha, -⟩ := id h
  have h32 := p2_32 h5
  have hsym := NP_sym (al := zt cu.1.2.1) hd hs ht hst as at'
  have hown := NP_own (al := zt cu.1.2.1) hd hs ht hst
  have hoth := NP_own (al := zt cu.1.2.1) hd ht hs (fun q => hst q.symm)
  have hc1 := ct_le (fun i => zt cu.1.2.1 (s ^^^ 2 ^ i)) d
  have hc2 := ct_le (fun i => zt cu.1.2.1 (t ^^^ 2 ^ i)) d
  have h0 := NP_0 (al := zt cu.1.2.1) hd hs ht hst
  unfold f_L_arePaths
  refine wp_obW (e_disj h hs ht hst as at') (fun u hu => wp_bd ?_)
  have hC := h.same hu.2
  have hal1 : ∀ v, zt u.2.1.2.1 v = zt cu.1.2.1 v := fun v => by rw [hu.2.1]
  rw [hu.1]
  refine zl3_wpF d (fun j i5 i6 i7 => i5 = nI (fb_ct (fun i => zt cu.1.2.1 (s ^^^ 2 ^ i)) j) ∧ i6 = nI (fb_ct (fun i => zt cu.1.2.1 (t ^^^ 2 ^ i)) j) ∧ i7 = nI j) (by omega) (fun K j i5 i6 i7 hj hI kk => ?_) (fun K i5 i6 i7 hI => ?_) ⟨nI_0.symm, nI_0.symm, nI_0.symm⟩
  · obtain ⟨rfl, rfl, rfl⟩ := hI
    refine wp_f (nI_ge hj (by omega)) ?_
    rw [nb_nI s (show j < 31 by omega), nb_nI t (show j < 31 by omega)]
    have g1 := e_isAlive hC (nb_lt hd hs hj)
    have g2 := e_isAlive hC (nb_lt hd ht hj)
    rw [hal1] at g1 g2
    refine wp_ob g1 (wp_bd (wp_ob g2 (wp_bd (wp_bd (kk _ _ _ ⟨?_, ?_, nI_1 _⟩)))))
    · rw [fb_ct_succ]
      cases zt cu.1.2.1 (s ^^^ 2 ^ j) with
      | true => exact nI_1 _
      | false => exact Int32.add_zero _
    · rw [fb_ct_succ]
      cases zt cu.1.2.1 (t ^^^ 2 ^ j) with
      | true => exact nI_1 _
      | false => exact Int32.add_zero _
  · obtain ⟨rfl, rfl, rfl⟩ := hI
    refine wp_t (nI_le (Nat.le_refl _) (by omega)) ?_
    have hd2 := e_disj hC (s := t) (t := s) ht hs (fun q => hst q.symm) (by rw [hal1]; exact at') (by rw [hal1]; exact as)
    rw [show u.2.1.2.1 = cu.1.2.1 by rw [hu.2.1]] at hd2
    refine wp_obW hd2 (fun w hw => ?_)
    have hC2 := hC.same hw.2
    have hal2 : w.2.1.2.1 = cu.1.2.1 := by rw [hw.2.1, hu.2.1]
    have hS := SAME.trans' hu.2 hw.2
    rw [hw.1, ← hsym]
    refine wp_jp (wp_t rfl (wp_f (nI_pos (by omega)) (wp_f (nI_nlt hown (by omega)) (wp_f (nI_nlt (by rw [hsym]; exact hoth) (by omega)) (wp_jp ?_)))))
    -- the rest, with the answer of 'none'
    have hrest : ∀ x : Int32, x = (if NP d (zt cu.1.2.1) s t = 0 then 1 else 0) → wp ((fun (s0_99 : Int32) => zob (F_shortest (nI s) (nI t) w.2) (fun u4 =>
zjp (T := Int32 → Int32 → Option rt_L_arePaths) (fun (s0_114 : Int32) (s1_114 : Int32) =>
if (s0_114 : Int32) = s1_114 then (
zob (f_L_alive (nI d) w.2) (fun u5 =>
zjp (T := Option rt_L_arePaths) (
some (1, w.2)) (fun K134 =>
if (u5 : Int32) < ((1 : Int32) <<< (nI d &&& 31)) then (
K134) else (
if (nI (NP d (zt cu.1.2.1) s t) : Int32) = nI d then (
K134) else (
some (0, w.2)))))) else (
some (0, w.2))) (fun K114 =>
if (u4 : Int32) = (-1) then (
K114 s0_99 1) else (
K114 s0_99 0)))) x) (fun r => r.1 = 1 ∧ SAME cu r.2) := by
      intro x hx
      have hsh := e_short hC2 hs ht (by rw [hal2]; exact as) (by rw [hal2]; exact at')
      rw [hal2] at hsh
      refine wp_ob hsh (wp_jp ?_)
      have hlast : ∀ y : Int32, y = x → wp (if (x : Int32) = y then (zob (f_L_alive (nI d) w.2) (fun u5 => zjp (T := Option rt_L_arePaths) (some (1, w.2)) (fun K134 => if (u5 : Int32) < ((1 : Int32) <<< (nI d &&& 31)) then (K134) else (if (nI (NP d (zt cu.1.2.1) s t) : Int32) = nI d then (K134) else (some (0, w.2)))))) else (some (0, w.2))) (fun r => r.1 = 1 ∧ SAME cu r.2) := by
        intro y hy
        refine wp_t hy.symm (wp_ob (p_alive hC2 h5) (wp_jp ?_))
        rw [hal2, p2_nI d (by omega)]
        have hle := ct_le (zt cu.1.2.1) (2 ^ d)
        by_cases q : fb_ct (zt cu.1.2.1) (2 ^ d) < 2 ^ d
        · exact wp_t (nI_lt q (by omega)) (wp_some ⟨rfl, hS⟩)
        · have hall := fb_ct_all.mp (show fb_ct (zt cu.1.2.1) (2 ^ d) = 2 ^ d by omega)
          have hN := NP_all h2 h5 hs ht hst hall
          exact wp_f (nI_nlt (by omega) (by omega)) (wp_t (by rw [hN]) (wp_some ⟨rfl, hS⟩))
      by_cases q : shd d (zt cu.1.2.1) s t < 64
      · rw [shI_t q]
        refine wp_f (nI_ne_m1 (by omega)) (hlast 0 ?_)
        rw [hx, if_neg (fun z => h0.mp z q)]
      · rw [shI_f q]
        refine wp_t rfl (hlast 1 ?_)
        rw [hx, if_pos (h0.mpr q)]
    by_cases q : NP d (zt cu.1.2.1) s t = 0
    · exact wp_t (by rw [q]; rfl) (hrest 1 (by rw [if_pos q]))
    · exact wp_f (nI_ne0 (by omega) (by omega)) (hrest 0 (by rw [if_neg q]))
end
