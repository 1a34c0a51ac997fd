/-! the search leaves nothing out; what it reaches without ways -/
section
variable {d s t : Nat} {U : Nat → Nat} {al : Nat → Bool}
theorem dsc_has (x y : Nat) (B : BS) : (dsc x y B).2.1 y ≠ none := by
  unfold dsc
  by_cases h : B.2.1 y = none
  · rw [if_pos h]
    show (if y = y then some x else B.2.1 y) ≠ none
    rw [if_pos rfl]; exact fun q => by cases q
  · rw [if_neg h]; exact h
theorem dsc_keep {x y z : Nat} {B : BS} (h : B.2.1 z ≠ none) : (dsc x y B).2.1 z ≠ none := by
  unfold dsc
  by_cases hy : B.2.1 y = none
  · rw [if_pos hy]
    show (if z = y then some x else B.2.1 z) ≠ none
    rw [if_neg (fun q => by rw [q] at h; exact h hy)]; exact h
  · rw [if_neg hy]; exact h
theorem exX_keep {v z : Nat} {B : BS} (h : B.2.1 z ≠ none) : ∀ n, (exX U al s v n B).2.1 z ≠ none
  | 0 => h
  | n + 1 => by
    rw [exX]
    by_cases q : (U v).testBit n = false ∧ v ^^^ 2 ^ n ≠ s ∧ al (v ^^^ 2 ^ n) = true
    · rw [if_pos q]; exact dsc_keep (exX_keep h n)
    · rw [if_neg q]; exact exX_keep h n
theorem exX_all {v k : Nat} {B : BS} (q : (U v).testBit k = false ∧ v ^^^ 2 ^ k ≠ s ∧ al (v ^^^ 2 ^ k) = true) : ∀ n, k < n → (exX U al s v n B).2.1 (2 * (v ^^^ 2 ^ k)) ≠ none
  | 0, h => absurd h (Nat.not_lt_zero k)
  | n + 1, h => by
    rw [exX]
    by_cases e : k = n
    · subst e
      rw [if_pos q]; exact dsc_has _ _ _
    · by_cases q2 : (U v).testBit n = false ∧ v ^^^ 2 ^ n ≠ s ∧ al (v ^^^ 2 ^ n) = true
      · rw [if_pos q2]; exact dsc_keep (exX_all q n (by omega))
      · rw [if_neg q2]; exact exX_all q n (by omega)
theorem exE_keep {v z : Nat} {B : BS} (h : B.2.1 z ≠ none) : ∀ n, (exE U v n B).2.1 z ≠ none
  | 0 => h
  | n + 1 => by
    rw [exE]
    by_cases q : (U (v ^^^ 2 ^ n)).testBit n = true
    · rw [if_pos q]; exact dsc_keep (exE_keep h n)
    · rw [if_neg q]; exact exE_keep h n
theorem exE_all {v k : Nat} {B : BS} (q : (U (v ^^^ 2 ^ k)).testBit k = true) : ∀ n, k < n → (exE U v n B).2.1 (2 * (v ^^^ 2 ^ k) + 1) ≠ none
  | 0, h => absurd h (Nat.not_lt_zero k)
  | n + 1, h => by
    rw [exE]
    by_cases e : k = n
    · subst e
      rw [if_pos q]; exact dsc_has _ _ _
    · by_cases q2 : (U (v ^^^ 2 ^ n)).testBit n = true
      · rw [if_pos q2]; exact dsc_keep (exE_all q n (by omega))
      · rw [if_neg q2]; exact exE_all q n (by omega)
theorem expd_all {x y : Nat} {B : BS} (h : Ed d U al s x y) : (expd d U al s x B).2.1 y ≠ none := by
  rcases h with ⟨u, k, hk, hu, rfl, rfl, q⟩ | ⟨v, hv, rfl, rfl, q1, q2⟩ | ⟨v, hv, rfl, rfl, q⟩ | ⟨v, k, hk, hv, rfl, rfl, q⟩
  · rw [expd, if_neg (by omega), show (2 * u + 1) / 2 = u by omega, expX]
    by_cases e : u ≠ s ∧ U u ≠ 0
    · rw [if_pos e]; exact dsc_keep (exX_all q d hk)
    · rw [if_neg e]; exact exX_all q d hk
  · rw [expd, if_neg (by omega), show (2 * v + 1) / 2 = v by omega, expX, if_pos ⟨q1, q2⟩]
    exact dsc_has _ _ _
  · rw [expd, if_pos (by omega), show (2 * v) / 2 = v by omega, expE, if_pos q]
    exact exE_keep (dsc_has _ _ _) d
  · rw [expd, if_pos (by omega), show (2 * v) / 2 = v by omega, expE]
    exact exE_all q d hk
theorem bs_closed (hd : d ≤ 6) (hs : s < 2 ^ d) : ∀ i j, j < i → j < (bs d U al s i).1 → ∀ y, Ed d U al s ((bs d U al s i).2.2 j) y → (bs d U al s i).2.1 y ≠ none
  | 0, j, h, _ => absurd h (Nat.not_lt_zero j)
  | i + 1, j, h, hj => by
    intro y hy
    have hL : BL (bs d U al s i) (bs d U al s (i + 1)) := bs_le (U := U) (al := al) hd hs i 1
    by_cases q : i < (bs d U al s i).1
    · have e : bs d U al s (i + 1) = expd d U al s ((bs d U al s i).2.2 i) (bs d U al s i) := by rw [bs, if_pos q]
      by_cases ej : j = i
      · subst ej
        rw [hL.2.2 j q] at hy
        rw [e]; exact expd_all hy
      · have hji : j < (bs d U al s i).1 := by omega
        rw [hL.2.2 j hji] at hy
        exact BL_some hL (bs_closed hd hs i j (by omega) hji y hy)
    · have e : bs d U al s (i + 1) = bs d U al s i := by rw [bs, if_neg q]
      rw [e] at hj hy ⊢
      exact bs_closed hd hs i j (by omega) hj y hy
/-- where the whole search comes -/
def RS (d : Nat) (U : Nat → Nat) (al : Nat → Bool) (s x : Nat) : Bool := (cfS d al s U x).isSome
theorem RS_iff {x : Nat} : RS d U al s x = true ↔ cfS d al s U x ≠ none := by
  unfold RS
  cases cfS d al s U x with
  | none => exact ⟨fun q => (by cases q), fun q => absurd rfl q⟩
  | some y => exact ⟨fun _ q => (by cases q), fun _ => rfl⟩
theorem RS_closed (hd : d ≤ 6) (hs : s < 2 ^ d) {x y : Nat} (h : RS d U al s x = true) (he : Ed d U al s x y) : RS d U al s y = true := by
  have hB := bs_ok (U := U) (al := al) hd hs 128
  have h1 := RS_iff.mp h
  cases e : cfS d al s U x with
  | none => exact absurd e h1
  | some z =>
    obtain ⟨j, hj, hq⟩ := hB.2.2.2.2.2.2.2.1 x z e
    have hle := BV_le hB
    exact RS_iff.mpr (bs_closed hd hs 128 j (by omega) hj y (by rw [hq]; exact he))
theorem RS_start (hd : d ≤ 6) (hs : s < 2 ^ d) : RS d U al s (2 * s + 1) = true := by
  have hB := bs_ok (U := U) (al := al) hd hs 128
  refine RS_iff.mpr (fun q => ?_)
  have := hB.2.2.2.2.1
  rw [show (bs d U al s 128).2.1 (2 * s + 1) = none from q] at this
  cases this
theorem RS_entry (hd : d ≤ 6) (hs : s < 2 ^ d) : RS d U al s (2 * s) = false := by
  cases h : RS d U al s (2 * s) with
  | false => rfl
  | true =>
    have hB := bs_ok (U := U) (al := al) hd hs 128
    cases e : cfS d al s U (2 * s) with
    | none => exact absurd e (RS_iff.mp h)
    | some z =>
      obtain ⟨he, -⟩ := hB.2.2.2.2.2.2.2.2 (2 * s) z (by omega) e
      rcases he with ⟨u, k, hk, hu, -, e2, -, q, -⟩ | ⟨v, hv, -, e2, q, -⟩ | ⟨v, hv, -, e2, -⟩ | ⟨v, k, hk, hv, -, e2, -⟩
      · exact absurd (by omega) q
      · exact absurd (by omega) q
      · omega
      · omega
/-- without ways: the search comes just where a way comes -/
theorem RS_way (hd : d ≤ 6) (hs : s < 2 ^ d) : ∀ j, j < (bs d (fun _ => 0) al s 128).1 → ∃ v, v < 2 ^ d ∧ ((bs d (fun _ => 0) al s 128).2.2 j = 2 * v ∨ (bs d (fun _ => 0) al s 128).2.2 j = 2 * v + 1) ∧ ∃ k, PTH d al k s v := by
  have hB := bs_ok (U := fun _ => 0) (al := al) hd hs 128
  have key : ∀ n j, j < n → j < (bs d (fun _ => 0) al s 128).1 → ∃ v, v < 2 ^ d ∧ ((bs d (fun _ => 0) al s 128).2.2 j = 2 * v ∨ (bs d (fun _ => 0) al s 128).2.2 j = 2 * v + 1) ∧ ∃ k, PTH d al k s v := by
    intro n
    induction n with
    | zero => intro j h; exact absurd h (Nat.not_lt_zero j)
    | succ n ih =>
      intro j hj hjB
      by_cases h0 : (bs d (fun _ => 0) al s 128).2.2 j = 2 * s + 1
      · exact ⟨s, hs, Or.inr h0, 0, rfl⟩
      · have hsome := hB.2.2.1 j hjB
        cases e : (bs d (fun _ => 0) al s 128).2.1 ((bs d (fun _ => 0) al s 128).2.2 j) with
        | none => exact absurd e hsome
        | some x =>
          obtain ⟨he, i, j2, hij, hj2, hi, hj2e⟩ := hB.2.2.2.2.2.2.2.2 _ x h0 e
          have ejj : j2 = j := hB.2.2.2.1 j2 j hj2 hjB hj2e
          subst ejj
          obtain ⟨v, hv, hx, k, hp⟩ := ih i (by omega) (by omega)
          rw [hi] at hx
          rcases he with ⟨u, b, hb, hu, e1, e2, -, -, q⟩ | ⟨w, hw, -, -, -, q⟩ | ⟨w, hw, e1, e2, -⟩ | ⟨w, b, hb, hw, -, -, q⟩
          · have : u = v := by omega
            subst this
            exact ⟨u ^^^ 2 ^ b, nb_lt hd hu hb, Or.inl e2, k + 1, q, b, hb, by rw [xor_2]; exact hp⟩
          · exact absurd rfl q
          · have : w = v := by omega
            subst this
            exact ⟨w, hw, Or.inr e2, k, hp⟩
          · rw [Nat.zero_testBit] at q; cases q
  exact fun j hj => key (j + 1) j (Nat.lt_succ_self j) hj
theorem fnd0_PTH (hd : d ≤ 6) (hs : s < 2 ^ d) (h : fnd d al s t (fun _ => 0) = true) : ∃ k, PTH d al k s t := by
  have hB := bs_ok (U := fun _ => 0) (al := al) hd hs 128
  cases e : (bs d (fun _ => 0) al s 128).2.1 (2 * t) with
  | none => rw [fnd, cfS, e] at h; cases h
  | some x =>
    obtain ⟨j, hj, hq⟩ := hB.2.2.2.2.2.2.2.1 _ x e
    obtain ⟨v, hv, hx, k, hp⟩ := RS_way (al := al) hd hs j hj
    rw [hq] at hx
    have : v = t := by omega
    subst this
    exact ⟨k, hp⟩
theorem PTH_RS (hd : d ≤ 6) (hs : s < 2 ^ d) : ∀ {k v : Nat}, v < 2 ^ d → PTH d al k s v → v = s ∨ (RS d (fun _ => 0) al s (2 * v) = true ∧ RS d (fun _ => 0) al s (2 * v + 1) = true)
  | 0, v, _, h => Or.inl h
  | k + 1, v, hv, h => by
    by_cases e : v = s
    · exact Or.inl e
    · obtain ⟨ha, b, hb, hp⟩ := h
      have hu := nb_lt hd hv hb
      have hx : RS d (fun _ => 0) al s (2 * (v ^^^ 2 ^ b) + 1) = true := by
        rcases PTH_RS hd hs hu hp with q | q
        · rw [q]; exact RS_start hd hs
        · exact q.2
      have h1 : RS d (fun _ => 0) al s (2 * v) = true := RS_closed hd hs hx (Or.inl ⟨v ^^^ 2 ^ b, b, hb, hu, rfl, by rw [xor_2], Nat.zero_testBit b, by rw [xor_2]; exact e, by rw [xor_2]; exact ha⟩)
      exact Or.inr ⟨h1, RS_closed hd hs h1 (Or.inr (Or.inr (Or.inl ⟨v, hv, rfl, rfl, rfl⟩)))⟩
theorem fnd0_iff (hd : d ≤ 6) (hs : s < 2 ^ d) (ht : t < 2 ^ d) (hst : s ≠ t) : fnd d al s t (fun _ => 0) = true ↔ ∃ k, PTH d al k s t := by
  constructor
  · exact fnd0_PTH hd hs
  · rintro ⟨k, hp⟩
    rcases PTH_RS hd hs ht hp with q | q
    · exact absurd q.symm hst
    · exact q.1
/-! a way is found within 63 moves -/
theorem rr_st {n : Nat} (h : ∀ v, v < 64 → rr d al s (n + 1) v = rr d al s n v) (hd : d ≤ 6) : ∀ m v, v < 2 ^ d → rr d al s (n + m) v = true → rr d al s n v = true
  | 0, v, _, hr => hr
  | m + 1, v, hv, hr => by
    have h6 := p2_le hd
    have hr' : (rr d al s (n + m) v || (al v && zor (fun k => rr d al s (n + m) (v ^^^ 2 ^ k)) d)) = true := hr
    rw [Bool.or_eq_true, Bool.and_eq_true] at hr'
    rcases hr' with q | ⟨q1, q2⟩
    · exact rr_st h hd m v hv q
    · obtain ⟨b, hb, hz⟩ := zor_t q2
      have := rr_st h hd m _ (nb_lt hd hv hb) hz
      rw [← h v (by omega)]
      show (rr d al s n v || (al v && zor (fun k => rr d al s n (v ^^^ 2 ^ k)) d)) = true
      rw [q1, zor_of hb this, Bool.true_and, Bool.or_true]
theorem rr_grow (hd : d ≤ 6) (hs : s < 2 ^ d) : ∀ n, (∃ m, m ≤ n ∧ ∀ v, v < 64 → rr d al s (m + 1) v = rr d al s m v) ∨ n + 1 ≤ fb_ct (rr d al s n) 64
  | 0 => Or.inr (by
    have h6 := p2_le hd
    exact fb_ct_pos.mpr ⟨s, by omega, beq_iff_eq.mpr rfl⟩)
  | n + 1 => by
    rcases rr_grow hd hs n with ⟨m, hm, h⟩ | h
    · exact Or.inl ⟨m, by omega, h⟩
    · rcases Classical.em (∀ v, v < 64 → rr d al s (n + 1) v = rr d al s n v) with q | q
      · exact Or.inl ⟨n, by omega, q⟩
      · refine Or.inr ?_
        have hmono : ∀ v, rr d al s n v = true → rr d al s (n + 1) v = true := fun v hv => rr_mono (Nat.le_succ n) hv
        have hex : ∃ v, v < 64 ∧ rr d al s n v = false ∧ rr d al s (n + 1) v = true := Classical.byContradiction (fun z => q (fun v hv => by
          cases h1 : rr d al s n v with
          | true => exact hmono v h1
          | false =>
            cases h2 : rr d al s (n + 1) v with
            | false => rfl
            | true => exact absurd ⟨v, hv, h1, h2⟩ z))
        obtain ⟨w, hw, hw1, hw2⟩ := hex
        have hc := fb_ct_upd (rr d al s n) true hw
        have hsub := fb_ct_sub (p := fun k => if k = w then true else rr d al s n k) (q := rr d al s (n + 1)) (n := 64) (fun k _ hk => by
          by_cases e : k = w
          · rw [e]; exact hw2
          · rw [if_neg e] at hk; exact hmono k hk)
        rw [hw1, if_pos rfl, if_neg (by decide)] at hc
        omega
theorem PTH_shd (hd : d ≤ 6) (hs : s < 2 ^ d) (ht : t < 2 ^ d) {k : Nat} (h : PTH d al k s t) : shd d al s t < 64 := by
  have h6 := p2_le hd
  have h63 : rr d al s 63 t = true := by
    rcases rr_grow (al := al) hd hs 63 with ⟨m, hm, hst⟩ | hall
    · have : rr d al s (m + k) t = true := rr_mono (by omega) (PTH_rr h)
      exact rr_mono hm (rr_st hst hd k t ht this)
    · have e : fb_ct (rr d al s 63) 64 = 64 := Nat.le_antisymm (ct_le _ _) hall
      exact fb_ct_all.mp e t (by omega)
  exact Nat.lt_of_le_of_lt (zfst_le (p := fun n => rr d al s n t) (n := 64) h63 (by decide)) (by decide)
end
