/-! ways over nodes that live; routes -/
theorem xor_eq0 {a b : Nat} (h : a ^^^ b = 0) : a = b := by
  have := congrArg (fun x => x ^^^ b) h
  simp only [Nat.xor_assoc, Nat.xor_self, Nat.xor_zero, Nat.zero_xor] at this
  exact this
def PTH (d : Nat) (al : Nat → Bool) : Nat → Nat → Nat → Prop
  | 0, s, v => v = s
  | k + 1, s, v => al v = true ∧ ∃ b, b < d ∧ PTH d al k s (v ^^^ 2 ^ b)
theorem zor_of {p : Nat → Bool} : ∀ {n k : Nat}, k < n → p k = true → zor p n = true
  | 0, k, h, _ => absurd h (Nat.not_lt_zero k)
  | n + 1, k, h, hp => by
    cases q : zor p (n + 1) with
    | true => rfl
    | false => exact absurd hp (by rw [zor_f q k h]; decide)
section
variable {d : Nat} {al : Nat → Bool}
theorem PTH_end {k s v : Nat} (h : PTH d al k s v) (hs : al s = true) : al v = true := by
  cases k with
  | zero => rw [show v = s from h]; exact hs
  | succ k => exact h.1
theorem PTH_app {m u v : Nat} : ∀ {k s : Nat}, PTH d al k s u → PTH d al m u v → PTH d al (k + m) s v := by
  induction m generalizing v with
  | zero => intro k s h1 h2; rw [show v = u from h2]; exact h1
  | succ m ih => intro k s h1 h2; exact ⟨h2.1, h2.2.choose, h2.2.choose_spec.1, ih h1 h2.2.choose_spec.2⟩
theorem xor_2 (v b : Nat) : v ^^^ 2 ^ b ^^^ 2 ^ b = v := by rw [Nat.xor_assoc, Nat.xor_self, Nat.xor_zero]
theorem PTH_rev {k s v : Nat} (hs : al s = true) (h : PTH d al k s v) : PTH d al k v s := by
  induction k generalizing v with
  | zero => exact Eq.symm h
  | succ k ih =>
    obtain ⟨hv, b, hb, h⟩ := h
    have h1 := ih h
    have hu := PTH_end h hs
    have : PTH d al 1 v (v ^^^ 2 ^ b) := ⟨hu, b, hb, xor_2 v b⟩
    rw [Nat.add_comm]
    exact PTH_app this h1
theorem rr_PTH {s : Nat} : ∀ {n v : Nat}, rr d al s n v = true → ∃ k, k ≤ n ∧ PTH d al k s v
  | 0, v, h => ⟨0, Nat.le_refl _, beq_iff_eq.mp h⟩
  | n + 1, v, h => by
    have h' : (rr d al s n v || (al v && zor (fun k => rr d al s n (v ^^^ 2 ^ k)) d)) = true := h
    rw [Bool.or_eq_true, Bool.and_eq_true] at h'
    rcases h' with h' | ⟨h1, h2⟩
    · obtain ⟨k, hk, hp⟩ := rr_PTH h'
      exact ⟨k, by omega, hp⟩
    · obtain ⟨b, hb, hr⟩ := zor_t h2
      obtain ⟨k, hk, hp⟩ := rr_PTH hr
      exact ⟨k + 1, by omega, h1, b, hb, hp⟩
theorem PTH_rr {s : Nat} : ∀ {k v : Nat}, PTH d al k s v → rr d al s k v = true
  | 0, v, h => by rw [show v = s from h]; exact beq_iff_eq.mpr rfl
  | k + 1, v, h => by
    obtain ⟨hv, b, hb, h⟩ := h
    show (rr d al s k v || (al v && zor (fun i => rr d al s k (v ^^^ 2 ^ i)) d)) = true
    rw [hv, zor_of (p := fun i => rr d al s k (v ^^^ 2 ^ i)) hb (PTH_rr h), Bool.true_and, Bool.or_true]
theorem PTH_pc {s v : Nat} (hd : d ≤ 6) (hs : s < 2 ^ d) : ∀ {k : Nat}, v < 2 ^ d → PTH d al k s v → v < 2 ^ d ∧ ∃ j, k = pc (s ^^^ v) + 2 * j := by
  intro k
  have h6 := p2_le hd
  induction k generalizing v with
  | zero =>
    intro hv h
    rw [show v = s from h, Nat.xor_self]
    exact ⟨hs, 0, by decide⟩
  | succ k ih =>
    intro hv h
    obtain ⟨-, b, hb, h⟩ := h
    obtain ⟨hu, j, hj⟩ := ih (nb_lt hd hv hb) h
    have hx : s ^^^ v < 64 := xor_lt (by omega) (by omega)
    have hp := pc_flip (s ^^^ v) hx b (by omega)
    rw [Nat.xor_assoc] at hp
    refine ⟨hv, ?_⟩
    by_cases q : (s ^^^ v).testBit b = true
    · have hpos := pc_pos (s ^^^ v) hx b (by omega) q
      rw [if_pos q] at hp
      exact ⟨j, by omega⟩
    · rw [if_neg q] at hp
      exact ⟨j + 1, by omega⟩
theorem shd_spec (s t : Nat) : (∀ n, n < shd d al s t → rr d al s n t = false) ∧ (shd d al s t < 64 → rr d al s (shd d al s t) t = true) := ⟨(zfst_spec _ 64).2.1, (zfst_spec _ 64).2.2⟩
theorem shd_le {s t k : Nat} (hk : k < 64) (h : PTH d al k s t) : shd d al s t ≤ k := zfst_le (PTH_rr h) hk
theorem shd_le64 (s t : Nat) : shd d al s t ≤ 64 := (zfst_spec _ 64).1
theorem W_PTH {s t W : Nat} (h1 : ∀ n, n < W → rr d al s n t = false) (h2 : rr d al s W t = true) : PTH d al W s t := by
  obtain ⟨k, hk, hp⟩ := rr_PTH h2
  rcases Nat.lt_or_ge k W with q | q
  · have := h1 k q
    rw [PTH_rr hp] at this
    exact absurd this (by decide)
  · rw [Nat.le_antisymm q hk]; exact hp
theorem shd_PTH {s t : Nat} (h : shd d al s t < 64) : ∃ k, k = shd d al s t ∧ PTH d al k s t := by
  generalize hW : shd d al s t = W at h ⊢
  exact ⟨W, rfl, W_PTH (fun n hn => (shd_spec s t).1 n (hW ▸ hn)) (hW ▸ (shd_spec s t).2 (hW ▸ h))⟩
theorem shd_leW {s t W : Nat} (hs : al s = true) (hW : W < 64) (h : PTH d al W s t) : shd d al t s ≤ W := shd_le hW (PTH_rev hs h)
theorem shd_le' {s t : Nat} (hs : al s = true) : shd d al t s ≤ shd d al s t := by
  have hp : shd d al s t < 64 → _ := shd_PTH (d := d) (al := al) (s := s) (t := t)
  have h64 := shd_le64 (d := d) (al := al) t s
  generalize shd d al s t = W at hp ⊢
  rcases Nat.lt_or_ge W 64 with q | q
  · obtain ⟨k, hk, h⟩ := hp q
    subst hk
    exact shd_leW hs q h
  · exact Nat.le_trans h64 q
theorem shd_sym {s t : Nat} (hs : al s = true) (ht : al t = true) : shd d al s t = shd d al t s :=
  Nat.le_antisymm (shd_le' (s := t) (t := s) ht) (shd_le' (s := s) (t := t) hs)
/-! safe nodes find their way -/
theorem pc_d {m : Nat} (hd : d ≤ 6) (hm : m < 2 ^ d) : pc m = fb_ct (fun i => m.testBit i) d := by
  have h := fb_ct_split (fun i => m.testBit i) d (6 - d)
  rw [show d + (6 - d) = 6 by omega] at h
  have z : fb_ct (fun k => m.testBit (d + k)) (6 - d) = 0 := fb_ct_zero.mpr (fun k _ => Nat.testBit_lt_two_pow (Nat.lt_of_lt_of_le hm (Nat.pow_le_pow_right (by decide) (by omega))))
  rw [z, Nat.add_zero] at h
  exact h
theorem lev_next {v m : Nat} (hd1 : 1 ≤ d) (hd : d ≤ 6) (hv : v < 2 ^ d) (ha : al v = true) (hm : m < 2 ^ d) (h0 : 0 < pc m) (h : pc m ≤ LV d al v) : ∃ k, k < d ∧ m.testBit k = true ∧ pc m ≤ LV d al (v ^^^ 2 ^ k) + 1 := by
  have h6 := p2_le hd
  have f1 := (lev_fix hd al (v := v) (by omega) ha).1 (pc m - 1) (by omega)
  rcases Classical.em (∃ k, k < d ∧ m.testBit k = true ∧ pc m ≤ LV d al (v ^^^ 2 ^ k) + 1) with q | q
  · exact q
  · exfalso
    have hs : fb_ct (fun i => m.testBit i) d ≤ cnL d (LV d al) v (pc m - 1) := fb_ct_sub (fun k hk hb => decide_eq_true (by
      rcases Nat.lt_or_ge (LV d al (v ^^^ 2 ^ k)) (pc m - 1) with z | z
      · exact z
      · exact absurd ⟨k, hk, hb, by omega⟩ q))
    rw [← pc_d hd hm] at hs
    omega
/-- v lives, and may go on to t -/
def GO (d : Nat) (al : Nat → Bool) (t v : Nat) : Prop := v < 2 ^ d ∧ al v = true ∧ (pc (v ^^^ t) = 0 ∨ ∃ k, k < d ∧ (v ^^^ t).testBit k = true ∧ pc (v ^^^ t) ≤ LV d al (v ^^^ 2 ^ k) + 1)
theorem xor_move (v t b : Nat) : v ^^^ 2 ^ b ^^^ t = v ^^^ t ^^^ 2 ^ b := by rw [Nat.xor_assoc, Nat.xor_comm (2 ^ b), ← Nat.xor_assoc]
theorem al_of_LV (hd1 : 1 ≤ d) {w : Nat} (h : 1 ≤ LV d al w) : al w = true := by
  cases q : al w with
  | true => rfl
  | false => have := (LV_alive hd1 al w).2 q; omega
theorem GO_lev {t w : Nat} (hd1 : 1 ≤ d) (hd : d ≤ 6) (hw : w < 2 ^ d) (ht : t < 2 ^ d) (ha : al w = true) (h : pc (w ^^^ t) ≤ LV d al w) : GO d al t w := by
  rcases Nat.eq_zero_or_pos (pc (w ^^^ t)) with q | q
  · exact ⟨hw, ha, Or.inl q⟩
  · exact ⟨hw, ha, Or.inr (lev_next hd1 hd hw ha (Nat.xor_lt_two_pow hw ht) q h)⟩
theorem GO_step {t v b : Nat} (hd1 : 1 ≤ d) (hd : d ≤ 6) (ht : t < 2 ^ d) (hat : al t = true) (h : GO d al t v) (hb : bestD d (LV d al) v (v ^^^ t) = some b) : GO d al t (v ^^^ 2 ^ b) := by
  obtain ⟨hv, ha, hk⟩ := h
  have h6 := p2_le hd
  have hx : v ^^^ t < 2 ^ d := Nat.xor_lt_two_pow hv ht
  obtain ⟨hbd, hbt⟩ := bst_lt hb
  have hbt' : (v ^^^ t).testBit b = true := hbt
  have hw := nb_lt hd hv hbd
  have hpos := pc_pos (v ^^^ t) (by omega) b (by omega) hbt'
  have hp := pc_flip (v ^^^ t) (by omega) b (by omega)
  rw [if_pos hbt', ← xor_move] at hp
  rcases hk with q | ⟨k, hk, hkt, hkl⟩
  · omega
  · have hmax : LV d al (v ^^^ 2 ^ k) ≤ LV d al (v ^^^ 2 ^ b) := bst_max hb k hk hkt
    rcases Nat.eq_zero_or_pos (pc (v ^^^ 2 ^ b ^^^ t)) with z | z
    · have hx2 : v ^^^ 2 ^ b ^^^ t < 2 ^ d := Nat.xor_lt_two_pow hw ht
      have e0 := (pc_0 _ (by omega)).mp z
      have e : v ^^^ 2 ^ b = t := xor_eq0 e0
      exact ⟨hw, by rw [e]; exact hat, Or.inl z⟩
    · exact GO_lev hd1 hd hw ht (al_of_LV hd1 (by omega)) (by omega)
theorem dcs_start {s t : Nat} (hd1 : 1 ≤ d) (hd : d ≤ 6) (hs : s < 2 ^ d) (ht : t < 2 ^ d) (has : al s = true) (h2 : dcs d (LV d al) s t = 0) : GO d al t s := by
  unfold dcs at h2
  by_cases h0 : pc (s ^^^ t) = 0
  · exact ⟨hs, has, Or.inl h0⟩
  · rw [if_neg h0] at h2
    by_cases h1 : pc (s ^^^ t) ≤ LV d al s
    · exact GO_lev hd1 hd hs ht has h1
    · rw [if_neg h1] at h2
      cases hb : bestD d (LV d al) s (s ^^^ t) with
      | none => rw [hb] at h2; cases h2
      | some b =>
        rw [hb] at h2
        obtain ⟨hbd, hbt⟩ := bst_lt hb
        by_cases h3 : pc (s ^^^ t) ≤ LV d al (s ^^^ 2 ^ b) + 1
        · exact ⟨hs, has, Or.inr ⟨b, hbd, hbt, h3⟩⟩
        · simp only [if_neg h3] at h2
          cases hb2 : bestD d (LV d al) s (spr d (s ^^^ t)) with
          | none => rw [hb2] at h2; cases h2
          | some b2 =>
            rw [hb2] at h2
            simp only at h2
            split at h2 <;> cases h2
theorem dcs_detour {s t : Nat} (hd1 : 1 ≤ d) (hd : d ≤ 6) (hs : s < 2 ^ d) (ht : t < 2 ^ d) (h2 : dcs d (LV d al) s t = 1) : ∃ b, bestD d (LV d al) s (spr d (s ^^^ t)) = some b ∧ pc (s ^^^ t) + 1 ≤ LV d al (s ^^^ 2 ^ b) := by
  unfold dcs at h2
  by_cases h0 : pc (s ^^^ t) = 0
  · rw [if_pos h0] at h2; cases h2
  · rw [if_neg h0] at h2
    by_cases h1 : pc (s ^^^ t) ≤ LV d al s
    · rw [if_pos h1] at h2; cases h2
    · rw [if_neg h1] at h2
      cases hb : bestD d (LV d al) s (s ^^^ t) with
      | none => rw [hb] at h2; cases h2
      | some b =>
        rw [hb] at h2
        by_cases h3 : pc (s ^^^ t) ≤ LV d al (s ^^^ 2 ^ b) + 1
        · simp only [if_pos h3] at h2; cases h2
        · simp only [if_neg h3] at h2
          cases hb2 : bestD d (LV d al) s (spr d (s ^^^ t)) with
          | none => rw [hb2] at h2; cases h2
          | some b2 =>
            rw [hb2] at h2
            by_cases h4 : pc (s ^^^ t) + 1 ≤ LV d al (s ^^^ 2 ^ b2)
            · exact ⟨b2, rfl, h4⟩
            · simp only [if_neg h4] at h2; cases h2
/-- how long a route is -/
def RLN (d : Nat) (L : Nat → Nat) (s t : Nat) : Nat := pc (s ^^^ t) + (if dcs d L s t = 1 then 2 else 0)
theorem rno_go {s t : Nat} (hd1 : 1 ≤ d) (hd : d ≤ 6) (hs : s < 2 ^ d) (ht : t < 2 ^ d) (has : al s = true) (hat : al t = true) (h2 : dcs d (LV d al) s t ≠ 2) : ∀ i, i ≤ RLN d (LV d al) s t →
    rno d (LV d al) t (dcs d (LV d al) s t == 1) s i < 2 ^ d ∧ al (rno d (LV d al) t (dcs d (LV d al) s t == 1) s i) = true ∧ PTH d al i s (rno d (LV d al) t (dcs d (LV d al) s t == 1) s i) ∧
    (dcs d (LV d al) s t = 1 → i = 0 ∨ GO d al t (rno d (LV d al) t (dcs d (LV d al) s t == 1) s i)) ∧ (dcs d (LV d al) s t = 0 → GO d al t (rno d (LV d al) t (dcs d (LV d al) s t == 1) s i)) := by
  have h6 := p2_le hd
  intro i
  induction i with
  | zero =>
    intro _
    exact ⟨hs, has, rfl, fun _ => Or.inl rfl, fun q => dcs_start hd1 hd hs ht has q⟩
  | succ i ih =>
    intro hi
    have hok := rno_ok (L := LV d al) hd hs ht h2 i (by unfold RLN at hi; omega)
    have hle := dcs_le (L := LV d al) hd hs ht
    have h01 : dcs d (LV d al) s t ≠ 1 → dcs d (LV d al) s t = 0 := fun q => by omega
    obtain ⟨i1, i2, i3, i4, i5⟩ := ih (by omega)
    obtain ⟨b, hb, hbb⟩ := hok.2.2 (by unfold RLN at hi; omega)
    have hn : rno d (LV d al) t (dcs d (LV d al) s t == 1) s (i + 1) = rno d (LV d al) t (dcs d (LV d al) s t == 1) s i ^^^ 2 ^ b := by
      show (match bestD d (LV d al) (rno d (LV d al) t (dcs d (LV d al) s t == 1) s i) (rdim d t (dcs d (LV d al) s t == 1) (rno d (LV d al) t (dcs d (LV d al) s t == 1) s i) i) with | none => rno d (LV d al) t (dcs d (LV d al) s t == 1) s i | some b => rno d (LV d al) t (dcs d (LV d al) s t == 1) s i ^^^ 2 ^ b) = _
      rw [hbb]
    have hgo : GO d al t (rno d (LV d al) t (dcs d (LV d al) s t == 1) s i ^^^ 2 ^ b) := by
      by_cases q : dcs d (LV d al) s t = 1
      · by_cases qi : i = 0
        · subst qi
          rw [rdim, if_pos ⟨by rw [q]; rfl, rfl⟩] at hbb
          obtain ⟨b2, hb2, hl2⟩ := dcs_detour hd1 hd hs ht q
          have e : b = b2 := Option.some.inj (hbb.symm.trans hb2)
          subst e
          have hw := nb_lt hd hs hb
          have hx : s ^^^ t < 64 := xor_lt (by omega) (by omega)
          have hp := pc_flip (s ^^^ t) hx b (by omega)
          rw [← xor_move] at hp
          have : pc (s ^^^ 2 ^ b ^^^ t) ≤ pc (s ^^^ t) + 1 := by rw [hp]; split <;> omega
          show GO d al t (s ^^^ 2 ^ b)
          exact GO_lev hd1 hd hw ht (al_of_LV hd1 (by omega)) (by omega)
        · rw [rdim, if_neg (fun z => qi z.2)] at hbb
          exact GO_step hd1 hd ht hat ((i4 q).resolve_left qi) hbb
      · rw [rdim, if_neg (fun z => q (beq_iff_eq.mp z.1))] at hbb
        exact GO_step hd1 hd ht hat (i5 (h01 q)) hbb
    rw [hn]
    exact ⟨hgo.1, hgo.2.1, ⟨hgo.2.1, b, hb, by rw [xor_2]; exact i3⟩, fun _ => Or.inr hgo, fun _ => hgo⟩
theorem rno_end {s t : Nat} (hd : d ≤ 6) (hs : s < 2 ^ d) (ht : t < 2 ^ d) (L : Nat → Nat) (h2 : dcs d L s t ≠ 2) : rno d L t (dcs d L s t == 1) s (RLN d L s t) = t := by
  have h6 := p2_le hd
  obtain ⟨o1, o2, -⟩ := rno_ok (L := L) hd hs ht h2 (RLN d L s t) (Nat.le_refl _)
  have h0 : pc (rno d L t (dcs d L s t == 1) s (RLN d L s t) ^^^ t) = 0 := by
    rw [o2]
    unfold RLN
    by_cases q : dcs d L s t = 1
    · rw [if_pos q]
      by_cases z : pc (s ^^^ t) + 2 ≠ 0
      · rw [if_pos ⟨q, z⟩]; omega
      · omega
    · rw [if_neg q, if_neg (fun z => q z.1)]; omega
  exact xor_eq0 ((pc_0 _ (by have := Nat.xor_lt_two_pow o1 ht; omega)).mp h0)
end
