/-! guards, lengths and nodes of routes, reach, safe nodes -/
abbrev IAE : String := "java/lang/IllegalArgumentException"
abbrev ISE : String := "java/lang/IllegalStateException"
def ndBad (d : Nat) (x : Int32) : Prop := x < 0 ∨ ∃ j, j < 2 ^ 31 ∧ 2 ^ d ≤ j ∧ x = nI j
theorem nd_cases (d : Nat) (x : Int32) : (∃ v, v < 2 ^ d ∧ x = nI v) ∨ ndBad d x := by
  by_cases h : x < 0
  · exact Or.inr (Or.inl h)
  · obtain ⟨j, hj, e⟩ := nI_of h
    rcases Nat.lt_or_ge j (2 ^ d) with q | q
    · exact Or.inl ⟨j, q, e⟩
    · exact Or.inr (Or.inr ⟨j, hj, q, e⟩)
theorem s_nodeCount {d : Nat} (hd : d ≤ 6) : f_X6_nodeCount (nI d) = some (nI (2 ^ d)) := by rw [f_X6_nodeCount, p2_nI d (by omega)]
theorem s_reqN {d v : Nat} (hd : d ≤ 6) (hv : v < 2 ^ d) : f_X6_requireNode (nI v) (nI d) = some (.inr ()) := by
  have h6 := p2_le hd
  refine zjp_eq.trans ((if_neg (nI_pos (by omega))).trans ((zob_eq (s_nodeCount hd)).trans ?_))
  exact if_pos (nI_lt hv (by omega))
theorem s_reqN_bad {d : Nat} {x : Int32} (hd : d ≤ 6) (h : ndBad d x) : f_X6_requireNode x (nI d) = some (.inl IAE) := by
  refine zjp_eq.trans ?_
  rcases h with h | ⟨j, hj, h1, rfl⟩
  · exact if_pos h
  · refine (if_neg (nI_pos hj)).trans ((zob_eq (s_nodeCount hd)).trans ?_)
    exact if_neg (nI_nlt h1 hj)
theorem m_within {x lo hi : Int32} (h1 : ¬ x < lo) (h2 : ¬ hi < x) : f_X7_within x lo hi = some 1 := zjp_eq.trans ((if_neg h1).trans (if_neg h2))
theorem m_within_bad {x lo hi : Int32} (h : x < lo ∨ hi < x) : f_X7_within x lo hi = some 0 := by
  refine zjp_eq.trans ?_
  by_cases h1 : x < lo
  · exact if_pos h1
  · exact (if_neg h1).trans (if_pos (h.resolve_left h1))
theorem m_isNode {c : Nat → Int32} {d v : Nat} {al : Nat → Bool} (h : MN c d al) (hv : v < 2 ^ d) : f_X7_isNode (nI v) c = some 1 := by
  have h6 := p2_le h.2.1
  have hp := p2_pos d
  refine (zob_eq (m_nodes h)).trans ?_
  rw [show nI (2 ^ d) - (1 : Int32) = nI (2 ^ d - 1) from nI_sub (b := 1) hp]
  refine (zob_eq (m_within (nI_pos (by omega)) (nI_nlt (by omega) (by omega)))).trans ?_
  rfl
theorem m_isNode_bad {c : Nat → Int32} {d : Nat} {x : Int32} {al : Nat → Bool} (h : MN c d al) (hx : ndBad d x) : f_X7_isNode x c = some 0 := by
  have h6 := p2_le h.2.1
  have hp := p2_pos d
  refine (zob_eq (m_nodes h)).trans ?_
  rw [show nI (2 ^ d) - (1 : Int32) = nI (2 ^ d - 1) from nI_sub (b := 1) hp]
  refine (zob_eq (m_within_bad ?_)).trans rfl
  rcases hx with hx | ⟨j, hj, h1, rfl⟩
  · exact Or.inl hx
  · exact Or.inr (nI_lt (by omega) hj)
theorem s_reqA (a : Int64) {v : Nat} (hv : v < 64) : f_X6_requireAlive (nI v) a = some (if zt a v then .inr () else .inl ISE) := by
  refine (zob_eq (s_contains a hv)).trans ?_
  cases zt a v <;> rfl
theorem zox_eq {A R : Type} {x : Option (String ⊕ A)} {a : A} {f : A → Option (String ⊕ R)} (h : x = some (.inr a)) : zox x f = f a := by rw [h]; rfl
theorem zox_eqE {A R : Type} {x : Option (String ⊕ A)} {E : String} {f : A → Option (String ⊕ R)} (h : x = some (.inl E)) : zox x f = some (.inl E) := by rw [h]; rfl
/-- a pair of nodes: both live, or what is thrown, on both sides -/
theorem pair_cases {c : Nat → Int32} {d : Nat} {a : Int64} (h : MN c d (zt a)) (x y : Int32) :
    (∃ v w, v < 2 ^ d ∧ w < 2 ^ d ∧ x = nI v ∧ y = nI w ∧ zt a v = true ∧ zt a w = true ∧ f_X6_requireLivingPair x y (nI d) a = some (.inr ()) ∧ f_X7_barOf x y c = some 0) ∨
    (f_X6_requireLivingPair x y (nI d) a = some (.inl IAE) ∧ f_X7_barOf x y c = some 1) ∨ (f_X6_requireLivingPair x y (nI d) a = some (.inl ISE) ∧ f_X7_barOf x y c = some 2) := by
  have h6 := p2_le h.2.1
  have hd := h.2.1
  rcases nd_cases d x with ⟨v, hv, rfl⟩ | hx
  · rcases nd_cases d y with ⟨w, hw, rfl⟩ | hy
    · have e1 : f_X6_requireLivingPair (nI v) (nI w) (nI d) a = zox (some (if zt a v then .inr () else .inl ISE)) (fun _ : rt0_X6_requireAlive => zox (some (if zt a w then .inr () else .inl ISE)) (fun _ : rt0_X6_requireAlive => some (.inr ()))) := by
        refine (zox_eq (s_reqN hd hv)).trans ((zox_eq (s_reqN hd hw)).trans ?_)
        rw [s_reqA a (by omega), s_reqA a (by omega)]
      have e2 : f_X7_barOf (nI v) (nI w) c = some (if zt a v then (if zt a w then 0 else 2) else 2) := by
        refine (zob_eq (m_isNode h hv)).trans (zjp_eq.trans ((if_neg (by decide)).trans ((zob_eq (m_isNode h hw)).trans ((if_neg (by decide)).trans ((zob_eq (m_lives h hv)).trans (zjp_eq.trans ?_))))))
        cases zt a v with
        | false => rfl
        | true =>
          refine (if_neg (by decide)).trans ((zob_eq (m_lives h hw)).trans ?_)
          cases zt a w <;> rfl
      rw [e1, e2]
      cases hav : zt a v with
      | false => exact Or.inr (Or.inr ⟨rfl, rfl⟩)
      | true =>
        cases haw : zt a w with
        | false => exact Or.inr (Or.inr ⟨rfl, rfl⟩)
        | true => exact Or.inl ⟨v, w, hv, hw, rfl, rfl, hav, haw, rfl, rfl⟩
    · refine Or.inr (Or.inl ⟨?_, ?_⟩)
      · exact (zox_eq (s_reqN hd hv)).trans (zox_eqE (s_reqN_bad hd hy))
      · exact (zob_eq (m_isNode h hv)).trans (zjp_eq.trans ((if_neg (by decide)).trans ((zob_eq (m_isNode_bad h hy)).trans (if_pos rfl))))
  · refine Or.inr (Or.inl ⟨?_, ?_⟩)
    · exact zox_eqE (s_reqN_bad hd hx)
    · exact (zob_eq (m_isNode_bad h hx)).trans (zjp_eq.trans (if_pos rfl))
theorem m_refused0 (r : Int32) : f_X7_refused 0 r = some (0, 0) := if_pos (by decide)
theorem m_refused1 (r : Int32) : f_X7_refused 1 r = some (1, 1) := if_neg (by decide)
theorem m_refused2 (r : Int32) : f_X7_refused 2 r = some (1, 2) := if_neg (by decide)
/-! lengths and nodes of routes -/
theorem dcs_le {d s t : Nat} {L : Nat → Nat} (hd : d ≤ 6) (hs : s < 2 ^ d) (ht : t < 2 ^ d) : dcs d L s t ≤ 2 := by
  have h6 := p2_le hd
  have hx : s ^^^ t < 2 ^ d := Nat.xor_lt_two_pow hs ht
  unfold dcs
  by_cases h0 : pc (s ^^^ t) = 0
  · rw [if_pos h0]; omega
  · rw [if_neg h0]
    by_cases h1 : pc (s ^^^ t) ≤ L s
    · rw [if_pos h1]; omega
    · rw [if_neg h1]
      obtain ⟨b, hb, -, -⟩ := best_some (v := s) (L := L) hd hx (fun q => h0 (by rw [q]; rfl))
      rw [hb]
      show (if _ then 0 else _) ≤ 2
      split
      · omega
      · split
        · omega
        · split <;> omega
def rlen (d : Nat) (L : Nat → Nat) (s t : Nat) : Int32 := if dcs d L s t = 2 then -1 else nI (pc (s ^^^ t) + (if dcs d L s t = 1 then 2 else 0))
theorem s_lengthOfRoute {d s t : Nat} {f : Nat → Int32} {L : Nat → Nat} (hd : d ≤ 6) (hs : s < 2 ^ d) (ht : t < 2 ^ d) (hf : ∀ w, w < 64 → f w = nI (L w)) (hL : ∀ w, w < 64 → L w ≤ 6) : f_X6_lengthOfRoute (nI s) (nI t) (nI d) f = some (rlen d L s t) := by
  have h6 := p2_le hd
  have h2 := dcs_le (L := L) hd hs ht
  refine (zob_eq (s_decision hd hs ht hf hL)).trans ?_
  rw [rlen, nx_xor]
  rcases (show dcs d L s t = 0 ∨ dcs d L s t = 1 ∨ dcs d L s t = 2 by omega) with e | e | e <;> rw [e]
  · exact (if_neg (by decide)).trans ((zob_eq (s_bitCount _ (xor_lt (by omega) (by omega)))).trans (if_neg (by decide)))
  · refine (if_neg (by decide)).trans ((zob_eq (s_bitCount _ (xor_lt (by omega) (by omega)))).trans ((if_pos rfl).trans ?_))
    rw [show (2 : Int32) = nI 2 from rfl, nI_add]; rfl
  · rfl
theorem m_lengthOf {c g : Nat → Int32} {d s t : Nat} {al : Nat → Bool} {L : Nat → Nat} (h : MN c d al) (hs : s < 2 ^ d) (ht : t < 2 ^ d) (hg : ∀ w, w < 2 ^ d → g w = nI (L w)) (hL : ∀ w, w < 2 ^ d → L w ≤ 6) : f_X7_lengthOf (nI s) (nI t) c g = some (rlen d L s t) := by
  have h6 := p2_le h.2.1
  have h2 := dcs_le (L := L) h.2.1 hs ht
  refine (zob_eq (m_decision h hs ht hg hL)).trans ?_
  rw [rlen]
  rcases (show dcs d L s t = 0 ∨ dcs d L s t = 1 ∨ dcs d L s t = 2 by omega) with e | e | e <;> rw [e]
  · refine (if_neg (by decide)).trans ((zob_eq (s_far (by omega) (by omega))).trans (zjp_eq.trans ((if_neg (by decide)).trans ?_)))
    show some (nI (pc (s ^^^ t)) + nI 0) = _
    rw [nI_add]; rfl
  · refine (if_neg (by decide)).trans ((zob_eq (s_far (by omega) (by omega))).trans (zjp_eq.trans ((if_pos rfl).trans ?_)))
    show some (nI (pc (s ^^^ t)) + nI 2) = _
    rw [nI_add]; rfl
  · rfl
def rdim (d : Nat) (t : Nat) (dt : Bool) (v i : Nat) : Nat := if dt = true ∧ i = 0 then spr d (v ^^^ t) else v ^^^ t
def rno (d : Nat) (L : Nat → Nat) (t : Nat) (dt : Bool) (s : Nat) : Nat → Nat
  | 0 => s
  | i + 1 => match bestD d L (rno d L t dt s i) (rdim d t dt (rno d L t dt s i) i) with
    | none => rno d L t dt s i
    | some b => rno d L t dt s i ^^^ 2 ^ b
theorem spr_bit : ∀ d, d < 7 → ∀ m, m < 64 → ∀ k, k < 6 → (spr d m).testBit k = (decide (k < d) && !m.testBit k) := by decide +kernel
theorem rno_ok {d s t : Nat} {L : Nat → Nat} (hd : d ≤ 6) (hs : s < 2 ^ d) (ht : t < 2 ^ d) (h2 : dcs d L s t ≠ 2) : ∀ i, i ≤ pc (s ^^^ t) + (if dcs d L s t = 1 then 2 else 0) →
    rno d L t (dcs d L s t == 1) s i < 2 ^ d ∧ pc (rno d L t (dcs d L s t == 1) s i ^^^ t) = (if dcs d L s t = 1 ∧ i ≠ 0 then pc (s ^^^ t) + 2 - i else pc (s ^^^ t) - i) ∧
    (i < pc (s ^^^ t) + (if dcs d L s t = 1 then 2 else 0) → ∃ b, b < d ∧ bestD d L (rno d L t (dcs d L s t == 1) s i) (rdim d t (dcs d L s t == 1) (rno d L t (dcs d L s t == 1) s i) i) = some b) := by
  have h6 := p2_le hd
  have hx0 : s ^^^ t < 2 ^ d := Nat.xor_lt_two_pow hs ht
  have more : ∀ i v, v < 2 ^ d → pc (v ^^^ t) = (if dcs d L s t = 1 ∧ i ≠ 0 then pc (s ^^^ t) + 2 - i else pc (s ^^^ t) - i) → v = rno d L t (dcs d L s t == 1) s i → i < pc (s ^^^ t) + (if dcs d L s t = 1 then 2 else 0) → ∃ b, b < d ∧ bestD d L v (rdim d t (dcs d L s t == 1) v i) = some b := by
    intro i v hv hp he hi
    by_cases hq : dcs d L s t = 1 ∧ i = 0
    · obtain ⟨h1, rfl⟩ := hq
      have ev : v = s := he
      subst ev
      rw [rdim, if_pos ⟨by rw [h1]; rfl, rfl⟩]
      cases hb : bestD d L v (spr d (v ^^^ t)) with
      | some b => exact ⟨b, (bst_lt hb).1, rfl⟩
      | none =>
        exfalso
        unfold dcs at h1
        rw [hb] at h1
        split at h1
        · cases h1
        · split at h1
          · cases h1
          · split at h1
            · cases h1
            · split at h1 <;> cases h1
    · have hr : rdim d t (dcs d L s t == 1) v i = v ^^^ t := if_neg (fun q => hq ⟨by simpa using q.1, q.2⟩)
      rw [hr]
      have hpos : 0 < pc (v ^^^ t) := by
        rw [hp]
        by_cases h1 : dcs d L s t = 1
        · rw [if_pos h1] at hi
          by_cases h0 : i = 0
          · exact absurd ⟨h1, h0⟩ hq
          · rw [if_pos ⟨h1, h0⟩]; omega
        · rw [if_neg h1] at hi
          rw [if_neg (fun q => h1 q.1)]; omega
      obtain ⟨b, hb, hbd, -⟩ := best_some (v := v) (L := L) hd (Nat.xor_lt_two_pow hv ht) (fun q => by rw [q] at hpos; exact absurd hpos (by decide))
      exact ⟨b, hbd, hb⟩
  intro i
  induction i with
  | zero =>
    intro _
    have hp : pc (rno d L t (dcs d L s t == 1) s 0 ^^^ t) = (if dcs d L s t = 1 ∧ (0 : Nat) ≠ 0 then pc (s ^^^ t) + 2 - 0 else pc (s ^^^ t) - 0) := by
      rw [if_neg (fun q => q.2 rfl)]; rfl
    exact ⟨hs, hp, fun hi => more 0 _ hs hp rfl hi⟩
  | succ i ih =>
    intro hi
    obtain ⟨h1, h3, h4⟩ := ih (by omega)
    obtain ⟨b, hbd, hb⟩ := h4 (by omega)
    have e : rno d L t (dcs d L s t == 1) s (i + 1) = rno d L t (dcs d L s t == 1) s i ^^^ 2 ^ b := by
      show (match bestD d L _ _ with | none => _ | some b => _) = _
      rw [hb]
    have hv : rno d L t (dcs d L s t == 1) s (i + 1) < 2 ^ d := by rw [e]; exact nb_lt hd h1 hbd
    have hp : pc (rno d L t (dcs d L s t == 1) s (i + 1) ^^^ t) = (if dcs d L s t = 1 ∧ i + 1 ≠ 0 then pc (s ^^^ t) + 2 - (i + 1) else pc (s ^^^ t) - (i + 1)) := by
      have hm : rno d L t (dcs d L s t == 1) s i ^^^ t < 64 := xor_lt (by omega) (by omega)
      have e2 : rno d L t (dcs d L s t == 1) s (i + 1) ^^^ t = (rno d L t (dcs d L s t == 1) s i ^^^ t) ^^^ 2 ^ b := by
        rw [e, Nat.xor_assoc, Nat.xor_comm (2 ^ b) t, ← Nat.xor_assoc]
      rw [e2, pc_flip _ hm b (by omega), h3]
      have hok := (bst_lt hb).2
      by_cases hq : dcs d L s t = 1 ∧ i = 0
      · obtain ⟨q1, q2⟩ := hq
        rw [rdim, if_pos ⟨by rw [q1]; rfl, q2⟩, spr_bit d (by omega) _ hm b (by omega)] at hok
        have hok2 : (rno d L t (dcs d L s t == 1) s i ^^^ t).testBit b = false := by
          cases hz : (rno d L t (dcs d L s t == 1) s i ^^^ t).testBit b with
          | false => rfl
          | true => rw [hz] at hok; simp at hok
        rw [hok2]
        simp [q1, q2]
      · have hr : rdim d t (dcs d L s t == 1) (rno d L t (dcs d L s t == 1) s i) i = rno d L t (dcs d L s t == 1) s i ^^^ t := if_neg (fun q => hq ⟨by simpa using q.1, q.2⟩)
        rw [hr] at hok
        rw [if_pos hok]
        by_cases q1 : dcs d L s t = 1
        · have q2 : i ≠ 0 := fun z => hq ⟨q1, z⟩
          rw [if_pos ⟨q1, q2⟩, if_pos ⟨q1, by omega⟩]; omega
        · rw [if_neg (fun z => q1 z.1), if_neg (fun z => q1 z.1)]; omega
    exact ⟨hv, hp, fun hi => more (i + 1) _ hv hp rfl hi⟩
