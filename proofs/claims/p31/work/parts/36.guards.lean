/-! guards, lengths and nodes of routes, reach, safe nodes -/
abbrev IAE : String := "java/lang/IllegalArgumentException"
abbrev ISE : String := "java/lang/IllegalStateException"
def ndBad (d : Nat) (x : Int32) : Prop := x < 0 ∨ ∃ j, j < 2 ^ 31 ∧ 2 ^ d ≤ j ∧ x = nI j
theorem nd_cases (d : Nat) (x : Int32) : (∃ v, v < 2 ^ d ∧ x = nI v) ∨ ndBad d x := by
  by_cases h : x < 0
  · exact Or.inr (Or.inl h)
  · obtain ⟨j, hj, e⟩ := nI_of h
    rcases Nat.lt_or_ge j (2 ^ d) with q | q
    · exact Or.inl ⟨j, q, e⟩
    · exact Or.inr (Or.inr ⟨j, hj, q, e⟩)
theorem s_nodeCount {d : Nat} (hd : d ≤ 6) : f_X6_nodeCount (nI d) = some (nI (2 ^ d)) := by rw [f_X6_nodeCount, p2_nI d (by omega)]
theorem s_reqN {d v : Nat} (hd : d ≤ 6) (hv : v < 2 ^ d) : f_X6_requireNode (nI v) (nI d) = some (.inr ()) := by
  have h6 := p2_le hd
  refine zjp_eq.trans ((if_neg (nI_pos (by omega))).trans ((zob_eq (s_nodeCount hd)).trans ?_))
  exact if_pos (nI_lt hv (by omega))
theorem s_reqN_bad {d : Nat} {x : Int32} (hd : d ≤ 6) (h : ndBad d x) : f_X6_requireNode x (nI d) = some (.inl IAE) := by
  refine zjp_eq.trans ?_
  rcases h with h | ⟨j, hj, h1, rfl⟩
  · exact if_pos h
  · refine (if_neg (nI_pos hj)).trans ((zob_eq (s_nodeCount hd)).trans ?_)
    exact if_neg (nI_nlt h1 hj)
theorem s_reqA (a : Int64) {v : Nat} (hv : v < 64) : f_X6_requireAlive (nI v) a = some (if zt a v then .inr () else .inl ISE) := by
  refine (zob_eq (s_contains a hv)).trans ?_
  cases zt a v <;> rfl
theorem zox_eq {A R : Type} {x : Option (String ⊕ A)} {a : A} {f : A → Option (String ⊕ R)} (h : x = some (.inr a)) : zox x f = f a := by rw [h]; rfl
theorem zox_eqE {A R : Type} {x : Option (String ⊕ A)} {E : String} {f : A → Option (String ⊕ R)} (h : x = some (.inl E)) : zox x f = some (.inl E) := by rw [h]; rfl
/-! lengths and nodes of routes -/
theorem dcs_le {d s t : Nat} {L : Nat → Nat} (hd : d ≤ 6) (hs : s < 2 ^ d) (ht : t < 2 ^ d) : dcs d L s t ≤ 2 := by
  have h6 := p2_le hd
  have hx : s ^^^ t < 2 ^ d := Nat.xor_lt_two_pow hs ht
  unfold dcs
  by_cases h0 : pc (s ^^^ t) = 0
  · rw [if_pos h0]; omega
  · rw [if_neg h0]
    by_cases h1 : pc (s ^^^ t) ≤ L s
    · rw [if_pos h1]; omega
    · rw [if_neg h1]
      obtain ⟨b, hb, -, -⟩ := best_some (v := s) (L := L) hd hx (fun q => h0 (by rw [q]; rfl))
      rw [hb]
      show (if _ then 0 else _) ≤ 2
      split
      · omega
      · split
        · omega
        · split <;> omega
def rlen (d : Nat) (L : Nat → Nat) (s t : Nat) : Int32 := if dcs d L s t = 2 then -1 else nI (pc (s ^^^ t) + (if dcs d L s t = 1 then 2 else 0))
theorem s_lengthOfRoute {d s t : Nat} {f : Nat → Int32} {L : Nat → Nat} (hd : d ≤ 6) (hs : s < 2 ^ d) (ht : t < 2 ^ d) (hf : ∀ w, w < 64 → f w = nI (L w)) (hL : ∀ w, w < 64 → L w ≤ 6) : f_X6_lengthOfRoute (nI s) (nI t) (nI d) f = some (rlen d L s t) := by
  have h6 := p2_le hd
  have h2 := dcs_le (L := L) hd hs ht
  refine (zob_eq (s_decision hd hs ht hf hL)).trans ?_
  rw [rlen, nx_xor]
  rcases (show dcs d L s t = 0 ∨ dcs d L s t = 1 ∨ dcs d L s t = 2 by omega) with e | e | e <;> rw [e]
  · exact (if_neg (by decide)).trans ((zob_eq (s_bitCount _ (xor_lt (by omega) (by omega)))).trans (if_neg (by decide)))
  · refine (if_neg (by decide)).trans ((zob_eq (s_bitCount _ (xor_lt (by omega) (by omega)))).trans ((if_pos rfl).trans ?_))
    rw [show (2 : Int32) = nI 2 from rfl, nI_add]; rfl
  · rfl
def rdim (d : Nat) (t : Nat) (dt : Bool) (v i : Nat) : Nat := if dt = true ∧ i = 0 then spr d (v ^^^ t) else v ^^^ t
def rno (d : Nat) (L : Nat → Nat) (t : Nat) (dt : Bool) (s : Nat) : Nat → Nat
  | 0 => s
  | i + 1 => match bestD d L (rno d L t dt s i) (rdim d t dt (rno d L t dt s i) i) with
    | none => rno d L t dt s i
    | some b => rno d L t dt s i ^^^ 2 ^ b
theorem spr_bit : ∀ d, d < 7 → ∀ m, m < 64 → ∀ k, k < 6 → (spr d m).testBit k = (decide (k < d) && !m.testBit k) := by decide +kernel
theorem rno_ok {d s t : Nat} {L : Nat → Nat} (hd : d ≤ 6) (hs : s < 2 ^ d) (ht : t < 2 ^ d) (h2 : dcs d L s t ≠ 2) : ∀ i, i ≤ pc (s ^^^ t) + (if dcs d L s t = 1 then 2 else 0) →
    rno d L t (dcs d L s t == 1) s i < 2 ^ d ∧ pc (rno d L t (dcs d L s t == 1) s i ^^^ t) = (if dcs d L s t = 1 ∧ i ≠ 0 then pc (s ^^^ t) + 2 - i else pc (s ^^^ t) - i) ∧
    (i < pc (s ^^^ t) + (if dcs d L s t = 1 then 2 else 0) → ∃ b, b < d ∧ bestD d L (rno d L t (dcs d L s t == 1) s i) (rdim d t (dcs d L s t == 1) (rno d L t (dcs d L s t == 1) s i) i) = some b) := by
  have h6 := p2_le hd
  have hx0 : s ^^^ t < 2 ^ d := Nat.xor_lt_two_pow hs ht
  have more : ∀ i v, v < 2 ^ d → pc (v ^^^ t) = (if dcs d L s t = 1 ∧ i ≠ 0 then pc (s ^^^ t) + 2 - i else pc (s ^^^ t) - i) → v = rno d L t (dcs d L s t == 1) s i → i < pc (s ^^^ t) + (if dcs d L s t = 1 then 2 else 0) → ∃ b, b < d ∧ bestD d L v (rdim d t (dcs d L s t == 1) v i) = some b := by
    intro i v hv hp he hi
    by_cases hq : dcs d L s t = 1 ∧ i = 0
    · obtain ⟨h1, rfl⟩ := hq
      have ev : v = s := he
      subst ev
      rw [rdim, if_pos ⟨by rw [h1]; rfl, rfl⟩]
      cases hb : bestD d L v (spr d (v ^^^ t)) with
      | some b => exact ⟨b, (bst_lt hb).1, rfl⟩
      | none =>
        exfalso
        unfold dcs at h1
        rw [hb] at h1
        split at h1
        · cases h1
        · split at h1
          · cases h1
          · split at h1
            · cases h1
            · split at h1 <;> cases h1
    · have hr : rdim d t (dcs d L s t == 1) v i = v ^^^ t := if_neg (fun q => hq ⟨by simpa using q.1, q.2⟩)
      rw [hr]
      have hpos : 0 < pc (v ^^^ t) := by
        rw [hp]
        by_cases h1 : dcs d L s t = 1
        · rw [if_pos h1] at hi
          by_cases h0 : i = 0
          · exact absurd ⟨h1, h0⟩ hq
          · rw [if_pos ⟨h1, h0⟩]; omega
        · rw [if_neg h1] at hi
          rw [if_neg (fun q => h1 q.1)]; omega
      obtain ⟨b, hb, hbd, -⟩ := best_some (v := v) (L := L) hd (Nat.xor_lt_two_pow hv ht) (fun q => by rw [q] at hpos; exact absurd hpos (by decide))
      exact ⟨b, hbd, hb⟩
  intro i
  induction i with
  | zero =>
    intro _
    have hp : pc (rno d L t (dcs d L s t == 1) s 0 ^^^ t) = (if dcs d L s t = 1 ∧ (0 : Nat) ≠ 0 then pc (s ^^^ t) + 2 - 0 else pc (s ^^^ t) - 0) := by
      rw [if_neg (fun q => q.2 rfl)]; rfl
    exact ⟨hs, hp, fun hi => more 0 _ hs hp rfl hi⟩
  | succ i ih =>
    intro hi
    obtain ⟨h1, h3, h4⟩ := ih (by omega)
    obtain ⟨b, hbd, hb⟩ := h4 (by omega)
    have e : rno d L t (dcs d L s t == 1) s (i + 1) = rno d L t (dcs d L s t == 1) s i ^^^ 2 ^ b := by
      show (match bestD d L _ _ with | none => _ | some b => _) = _
      rw [hb]
    have hv : rno d L t (dcs d L s t == 1) s (i + 1) < 2 ^ d := by rw [e]; exact nb_lt hd h1 hbd
    have hp : pc (rno d L t (dcs d L s t == 1) s (i + 1) ^^^ t) = (if dcs d L s t = 1 ∧ i + 1 ≠ 0 then pc (s ^^^ t) + 2 - (i + 1) else pc (s ^^^ t) - (i + 1)) := by
      have hm : rno d L t (dcs d L s t == 1) s i ^^^ t < 64 := xor_lt (by omega) (by omega)
      have e2 : rno d L t (dcs d L s t == 1) s (i + 1) ^^^ t = (rno d L t (dcs d L s t == 1) s i ^^^ t) ^^^ 2 ^ b := by
        rw [e, Nat.xor_assoc, Nat.xor_comm (2 ^ b) t, ← Nat.xor_assoc]
      rw [e2, pc_flip _ hm b (by omega), h3]
      have hok := (bst_lt hb).2
      by_cases hq : dcs d L s t = 1 ∧ i = 0
      · obtain ⟨q1, q2⟩ := hq
        rw [rdim, if_pos ⟨by rw [q1]; rfl, q2⟩, spr_bit d (by omega) _ hm b (by omega)] at hok
        have hok2 : (rno d L t (dcs d L s t == 1) s i ^^^ t).testBit b = false := by
          cases hz : (rno d L t (dcs d L s t == 1) s i ^^^ t).testBit b with
          | false => rfl
          | true => rw [hz] at hok; simp at hok
        rw [hok2]
        simp [q1, q2]
      · have hr : rdim d t (dcs d L s t == 1) (rno d L t (dcs d L s t == 1) s i) i = rno d L t (dcs d L s t == 1) s i ^^^ t := if_neg (fun q => hq ⟨by simpa using q.1, q.2⟩)
        rw [hr] at hok
        rw [if_pos hok]
        by_cases q1 : dcs d L s t = 1
        · have q2 : i ≠ 0 := fun z => hq ⟨q1, z⟩
          rw [if_pos ⟨q1, q2⟩, if_pos ⟨q1, by omega⟩]; omega
        · rw [if_neg (fun z => q1 z.1), if_neg (fun z => q1 z.1)]; omega
    exact ⟨hv, hp, fun hi => more (i + 1) _ hv hp rfl hi⟩
