theorem s_nodeOfRoute {d s t n : Nat} {f : Nat → Int32} {L : Nat → Nat} (hd : d ≤ 6) (hs : s < 2 ^ d) (ht : t < 2 ^ d) (h2 : dcs d L s t ≠ 2) (hn : n ≤ pc (s ^^^ t) + (if dcs d L s t = 1 then 2 else 0)) (hf : ∀ w, w < 64 → f w = nI (L w)) (hL : ∀ w, w < 64 → L w ≤ 6) :
    f_X6_nodeOfRoute (nI s) (nI t) (nI n) (nI d) f = some (nI (rno d L t (dcs d L s t == 1) s n)) := by
  have h6 := p2_le hd
  have hp := pc_le (s ^^^ t)
  have hn8 : n ≤ 8 := by split at hn <;> omega
  have hl := dcs_le (L := L) hd hs ht
  have ok := rno_ok (L := L) hd hs ht h2
  refine (zob_eq (s_decision hd hs ht hf hL)).trans (zjp_eq.trans ?_)
  have main : ∀ s0 : Int32, s0 = bI (dcs d L s t == 1) → zl2 (R := rt_X6_nodeOfRoute) (fun k23 (i5_23 : Int32) (i6_23 : Int32) =>
      if nI n ≤ i6_23 then some i5_23 else zbd (i5_23 ^^^ nI t) (fun x2 => zjp (T := Int32 → Option rt_X6_nodeOfRoute) (fun (s0_59 : Int32) =>
        zob (f_X2_bestDimension i5_23 s0_59 (nI d) f) (fun u3 => zob (f_X6_neighbour i5_23 u3) (fun u4 => zbd (i6_23 + 1) (fun x5 => k23 u4 x5)))) (fun K59 =>
        zjp (T := Option rt_X6_nodeOfRoute) (K59 x2) (fun K57 => if s0 = 0 then K57 else (if i6_23 = 0 then zob (f_X2_spareOf x2 (nI d)) (fun u6 => K59 u6) else K57))))) zfu (nI s) 0 = some (nI (rno d L t (dcs d L s t == 1) s n)) := by
    intro s0 hs0
    refine zl2_iter n (fun i => nI (rno d L t (dcs d L s t == 1) s i)) (fun i => nI i) (by omega) (fun K i hi => ?_) (fun K => if_pos (nI_le (Nat.le_refl n) (by omega))) rfl nI_0
    obtain ⟨hv, -, hb⟩ := ok i (by omega)
    obtain ⟨b, hbd, hb⟩ := hb (by omega)
    have e : rno d L t (dcs d L s t == 1) s (i + 1) = rno d L t (dcs d L s t == 1) s i ^^^ 2 ^ b := by
      show (match bestD d L _ _ with | none => _ | some b => _) = _
      rw [hb]
    rw [e]
    generalize rno d L t (dcs d L s t == 1) s i = v at hv hb ⊢
    have hm : v ^^^ t < 64 := xor_lt (by omega) (by omega)
    refine (if_neg (nI_ge hi (by omega))).trans (zbd_eq.trans ?_)
    rw [nx_xor]
    refine zjp_eq.trans (zjp_eq.trans ?_)
    have fin : ∀ m, m < 64 → m = rdim d t (dcs d L s t == 1) v i → (zob (f_X2_bestDimension (nI v) (nI m) (nI d) f) (fun u3 => zob (f_X6_neighbour (nI v) u3) (fun u4 => zbd (nI i + 1) (fun x5 => K u4 x5)))) = K (nI (v ^^^ 2 ^ b)) (nI (i + 1)) := fun m hm2 he => by
      refine (zob_eq (s_bestDimension hd (by omega) hm2 hf hL)).trans ?_
      rw [he, hb]
      refine (zob_eq (s_neighbour v (by omega))).trans (zbd_eq.trans ?_)
      rw [nI_1]
    by_cases hq : dcs d L s t = 1
    · refine (if_neg (by rw [hs0, hq]; decide)).trans ?_
      by_cases h0 : i = 0
      · subst h0
        refine (if_pos rfl).trans ((zob_eq (s_spareOf hd hm)).trans ?_)
        exact fin _ (spr_lt hd) (by rw [rdim, if_pos ⟨by rw [hq]; rfl, rfl⟩])
      · refine (if_neg (nI_ne0 (by omega) (by omega))).trans ?_
        exact fin _ hm (by rw [rdim, if_neg (fun z => h0 z.2)])
    · have hz : (dcs d L s t == 1) = false := by simpa using hq
      refine (if_pos (by rw [hs0, hz]; rfl)).trans ?_
      exact fin _ hm (by rw [rdim, if_neg (fun z => by rw [hz] at z; exact absurd z.1 (by decide))])
  by_cases hq : dcs d L s t = 1
  · refine (if_pos (by rw [hq]; rfl)).trans ?_
    exact main 1 (by rw [hq]; rfl)
  · refine (if_neg (fun z => hq ((nI_eq (b := 1) (by omega) (by omega)).mp z))).trans ?_
    exact main 0 (by rw [show (dcs d L s t == 1) = false from by simpa using hq]; rfl)
/-! how many nodes a decision reaches; how many are safe -/
def rch (d : Nat) (L : Nat → Nat) (al : Nat → Bool) (s x : Nat) (n : Nat) : Nat := fb_ct (fun t => !(t == s) && (al t && (dcs d L s t == x))) n
theorem s_reach {d s x : Nat} {f : Nat → Int32} {L : Nat → Nat} {a : Int64} (hd : d ≤ 6) (hs : s < 2 ^ d) (hx : x ≤ 2) (hf : ∀ w, w < 64 → f w = nI (L w)) (hL : ∀ w, w < 64 → L w ≤ 6) (ha : zt a s = true) :
    f_X6_reach (nI s) (nI x) (nI d) a (nI d) f = some (.inr (nI (rch d L (zt a) s x (2 ^ d)))) := by
  have h6 := p2_le hd
  refine (zox_eq (s_reqN hd hs)).trans (zjp_eq.trans ((if_neg (nI_pos (by omega))).trans ((if_pos (nI_le hx (by omega))).trans ?_)))
  refine (zox_eq (by rw [s_reqA a (by omega), ha]; rfl)).trans ?_
  refine zl2_iter (2 ^ d) (fun j => nI (rch d L (zt a) s x j)) (fun j => nI j) (by omega) (fun K j hj => ?_) (fun K => (zob_eq (s_nodeCount hd)).trans (if_pos (nI_le (Nat.le_refl _) (by omega)))) rfl nI_0
  refine (zob_eq (s_nodeCount hd)).trans ((if_neg (nI_ge hj (by omega))).trans (zjp_eq.trans ?_))
  have e : rch d L (zt a) s x (j + 1) = rch d L (zt a) s x j + (if (!(j == s) && (zt a j && (dcs d L s j == x))) = true then 1 else 0) := fb_ct_succ _ j
  have no : (!(j == s) && (zt a j && (dcs d L s j == x))) = false → (zbd (nI j + 1) fun x4 => K (nI (rch d L (zt a) s x j)) x4) = K (nI (rch d L (zt a) s x (j + 1))) (nI (j + 1)) := fun hh => by
    refine zbd_eq.trans ?_
    rw [e, hh, nI_1]; rfl
  by_cases h1 : j = s
  · refine (if_pos (by rw [h1])).trans (no (by simp [h1]))
  · refine (if_neg (fun z => h1 ((nI_eq (by omega) (by omega)).mp z))).trans ?_
    refine (zob_eq (s_contains a (by omega))).trans ?_
    cases hal : zt a j with
    | false => exact (if_pos rfl).trans (no (by simp [hal]))
    | true =>
      refine (if_neg (by decide)).trans ((zob_eq (s_decision hd hs hj hf hL)).trans ?_)
      have hl := dcs_le (L := L) hd hs hj
      by_cases h3 : dcs d L s j = x
      · refine (if_pos (by rw [h3])).trans (zbd_eq.trans (zbd_eq.trans ?_))
        rw [e, nI_1, nI_1, if_pos (by simp [h1, hal, h3])]
      · exact (if_neg (fun z => h3 ((nI_eq (by omega) (by omega)).mp z))).trans (no (by simp [h3]))
def sfe (d : Nat) (L : Nat → Nat) (n : Nat) : Nat := fb_ct (fun v => L v == d) n
theorem s_safeNodes {d : Nat} {f : Nat → Int32} {L : Nat → Nat} (hd : d ≤ 6) (hf : ∀ w, w < 64 → f w = nI (L w)) (hL : ∀ w, w < 64 → L w ≤ 6) : f_X6_safeNodes (nI d) f = some (nI (sfe d L (2 ^ d))) := by
  have h6 := p2_le hd
  refine zl2_iter (2 ^ d) (fun j => nI (sfe d L j)) (fun j => nI j) (by omega) (fun K j hj => ?_) (fun K => (zob_eq (s_nodeCount hd)).trans (if_pos (nI_le (Nat.le_refl _) (by omega)))) rfl nI_0
  refine (zob_eq (s_nodeCount hd)).trans ((if_neg (nI_ge hj (by omega))).trans ((zob_eq (s_levelOf (by omega) hf)).trans (zjp_eq.trans ?_)))
  have e : sfe d L (j + 1) = sfe d L j + (if (L j == d) = true then 1 else 0) := fb_ct_succ _ j
  by_cases h1 : L j = d
  · refine (if_pos (by rw [h1])).trans (zbd_eq.trans (zbd_eq.trans ?_))
    rw [e, nI_1, nI_1, if_pos (by simp [h1])]
  · refine (if_neg (fun z => h1 ((nI_eq (by have := hL j (by omega); omega) (by omega)).mp z))).trans (zbd_eq.trans ?_)
    rw [e, nI_1, if_neg (by simp [h1])]; rfl