theorem s_nodeOfRoute {d s t n : Nat} {f : Nat → Int32} {L : Nat → Nat} (hd : d ≤ 6) (hs : s < 2 ^ d) (ht : t < 2 ^ d) (h2 : dcs d L s t ≠ 2) (hn : n ≤ pc (s ^^^ t) + (if dcs d L s t = 1 then 2 else 0)) (hf : ∀ w, w < 64 → f w = nI (L w)) (hL : ∀ w, w < 64 → L w ≤ 6) :
    f_X6_nodeOfRoute (nI s) (nI t) (nI n) (nI d) f = some (nI (rno d L t (dcs d L s t == 1) s n)) := by
  have h6 := p2_le hd
  have hp := pc_le (s ^^^ t)
  have hn8 : n ≤ 8 := by split at hn <;> omega
  have hl := dcs_le (L := L) hd hs ht
  have ok := rno_ok (L := L) hd hs ht h2
  refine (zob_eq (s_decision hd hs ht hf hL)).trans (zjp_eq.trans ?_)
  have main : ∀ s0 : Int32, s0 = bI (dcs d L s t == 1) → zl2 (R := rt_X6_nodeOfRoute) (fun k23 (i5_23 : Int32) (i6_23 : Int32) =>
      if nI n ≤ i6_23 then some i5_23 else zbd (i5_23 ^^^ nI t) (fun x2 => zjp (T := Int32 → Option rt_X6_nodeOfRoute) (fun (s0_59 : Int32) =>
        zob (f_X2_bestDimension i5_23 s0_59 (nI d) f) (fun u3 => zob (f_X6_neighbour i5_23 u3) (fun u4 => zbd (i6_23 + 1) (fun x5 => k23 u4 x5)))) (fun K59 =>
        zjp (T := Option rt_X6_nodeOfRoute) (K59 x2) (fun K57 => if s0 = 0 then K57 else (if i6_23 = 0 then zob (f_X2_spareOf x2 (nI d)) (fun u6 => K59 u6) else K57))))) zfu (nI s) 0 = some (nI (rno d L t (dcs d L s t == 1) s n)) := by
    intro s0 hs0
    refine zl2_iter n (fun i => nI (rno d L t (dcs d L s t == 1) s i)) (fun i => nI i) (by omega) (fun K i hi => ?_) (fun K => if_pos (nI_le (Nat.le_refl n) (by omega))) rfl nI_0
    obtain ⟨hv, -, hb⟩ := ok i (by omega)
    obtain ⟨b, hbd, hb⟩ := hb (by omega)
    have e : rno d L t (dcs d L s t == 1) s (i + 1) = rno d L t (dcs d L s t == 1) s i ^^^ 2 ^ b := by
      show (match bestD d L _ _ with | none => _ | some b => _) = _
      rw [hb]
    rw [e]
    generalize rno d L t (dcs d L s t == 1) s i = v at hv hb ⊢
    have hm : v ^^^ t < 64 := xor_lt (by omega) (by omega)
    refine (if_neg (nI_ge hi (by omega))).trans (zbd_eq.trans ?_)
    rw [nx_xor]
    refine zjp_eq.trans (zjp_eq.trans ?_)
    have fin : ∀ m, m < 64 → m = rdim d t (dcs d L s t == 1) v i → (zob (f_X2_bestDimension (nI v) (nI m) (nI d) f) (fun u3 => zob (f_X6_neighbour (nI v) u3) (fun u4 => zbd (nI i + 1) (fun x5 => K u4 x5)))) = K (nI (v ^^^ 2 ^ b)) (nI (i + 1)) := fun m hm2 he => by
      refine (zob_eq (s_bestDimension hd (by omega) hm2 hf hL)).trans ?_
      rw [he, hb]
      refine (zob_eq (s_neighbour v (by omega))).trans (zbd_eq.trans ?_)
      rw [nI_1]
    by_cases hq : dcs d L s t = 1
    · refine (if_neg (by rw [hs0, hq]; decide)).trans ?_
      by_cases h0 : i = 0
      · subst h0
        refine (if_pos rfl).trans ((zob_eq (s_spareOf hd hm)).trans ?_)
        exact fin _ (spr_lt hd) (by rw [rdim, if_pos ⟨by rw [hq]; rfl, rfl⟩])
      · refine (if_neg (nI_ne0 (by omega) (by omega))).trans ?_
        exact fin _ hm (by rw [rdim, if_neg (fun z => h0 z.2)])
    · have hz : (dcs d L s t == 1) = false := by simpa using hq
      refine (if_pos (by rw [hs0, hz]; rfl)).trans ?_
      exact fin _ hm (by rw [rdim, if_neg (fun z => by rw [hz] at z; exact absurd z.1 (by decide))])
  by_cases hq : dcs d L s t = 1
  · refine (if_pos (by rw [hq]; rfl)).trans ?_
    exact main 1 (by rw [hq]; rfl)
  · refine (if_neg (fun z => hq ((nI_eq (b := 1) (by omega) (by omega)).mp z))).trans ?_
    exact main 0 (by rw [show (dcs d L s t == 1) = false from by simpa using hq]; rfl)
/-- the reference's walk -/
theorem m_walk {c g : Nat → Int32} {d s t n : Nat} {al : Nat → Bool} {L : Nat → Nat} {R : Type} (X : Int32 → Option R) (h : MN c d al) (hs : s < 2 ^ d) (ht : t < 2 ^ d) (h2 : dcs d L s t ≠ 2) (hn : n ≤ pc (s ^^^ t) + (if dcs d L s t = 1 then 2 else 0)) (hg : ∀ w, w < 2 ^ d → g w = nI (L w)) (hL : ∀ w, w < 2 ^ d → L w ≤ 6) :
    zl2 (R := R) (fun k50 (i5_50 : Int32) (i6_50 : Int32) => if nI n ≤ i6_50 then X i5_50 else
      zjp (T := Int32 → Option R) (fun (s0_76 : Int32) => zjp (T := Int32 → Int32 → Option R) (fun (s1_100 : Int32) (s2_100 : Int32) =>
        zob (f_X7_best s1_100 s2_100 0 c g) (fun u4 => zbd (i6_50 + 1) (fun x5 => k50 u4 x5))) (fun K100 => if s0_76 = 0 then K100 i5_50 (i5_50 ^^^ nI t) else zob (f_X7_spare i5_50 (nI t) c) (fun u6 => K100 i5_50 u6))) (fun K76 =>
      zjp (T := Option R) (K76 0) (fun K75 => if i6_50 = 0 then zob (f_X7_far (nI s) (nI t)) (fun u7 => if rlen d L s t ≤ u7 then K75 else K76 1) else K75))) zfu (nI s) 0 = X (nI (rno d L t (dcs d L s t == 1) s n)) := by
  have hd := h.2.1
  have h6 := p2_le hd
  have hp := pc_le (s ^^^ t)
  have hn8 : n ≤ 8 := by split at hn <;> omega
  have ok := rno_ok (L := L) hd hs ht h2
  refine zl2_iter n (fun i => nI (rno d L t (dcs d L s t == 1) s i)) (fun i => nI i) (by omega) (fun K i hi => ?_) (fun K => if_pos (nI_le (Nat.le_refl n) (by omega))) rfl nI_0
  obtain ⟨hv, -, hb⟩ := ok i (by omega)
  obtain ⟨b, hbd, hb⟩ := hb (by omega)
  have e : rno d L t (dcs d L s t == 1) s (i + 1) = rno d L t (dcs d L s t == 1) s i ^^^ 2 ^ b := by
    show (match bestD d L _ _ with | none => _ | some b => _) = _
    rw [hb]
  rw [e]
  generalize rno d L t (dcs d L s t == 1) s i = v at hv hb ⊢
  have hm : v ^^^ t < 64 := xor_lt (by omega) (by omega)
  refine (if_neg (nI_ge hi (by omega))).trans (zjp_eq.trans (zjp_eq.trans ?_))
  have fin : ∀ m, m < 64 → m = rdim d t (dcs d L s t == 1) v i → (zob (f_X7_best (nI v) (nI m) 0 c g) (fun u4 => zbd (nI i + 1) (fun x5 => K u4 x5))) = K (nI (v ^^^ 2 ^ b)) (nI (i + 1)) := fun m hm2 he => by
    refine (zob_eq (m_best0 h hv hm2 hg hL)).trans (zbd_eq.trans ?_)
    rw [he, hb, nI_1]; rfl
  have pref : rdim d t (dcs d L s t == 1) v i = v ^^^ t → (zjp (T := Int32 → Int32 → Option R) (fun (s1_100 : Int32) (s2_100 : Int32) =>
        zob (f_X7_best s1_100 s2_100 0 c g) (fun u4 => zbd (nI i + 1) (fun x5 => K u4 x5))) (fun K100 => if (0 : Int32) = 0 then K100 (nI v) (nI v ^^^ nI t) else zob (f_X7_spare (nI v) (nI t) c) (fun u6 => K100 (nI v) u6))) = K (nI (v ^^^ 2 ^ b)) (nI (i + 1)) := fun he => by
    refine zjp_eq.trans ((if_pos rfl).trans ?_)
    rw [nx_xor]
    exact fin _ hm he.symm
  have hlen : rlen d L s t = nI (pc (s ^^^ t) + (if dcs d L s t = 1 then 2 else 0)) := if_neg h2
  by_cases h0 : i = 0
  · subst h0
    refine (if_pos rfl).trans ((zob_eq (s_far (by omega) (by omega))).trans ?_)
    rw [hlen]
    by_cases hq : dcs d L s t = 1
    · rw [if_pos hq]
      refine (if_neg (nI_ge (by omega) (by omega))).trans (zjp_eq.trans ((if_neg (by decide)).trans ((zob_eq (m_spare h hv ht)).trans ?_)))
      exact fin _ (spr_lt hd) (by rw [rdim, if_pos ⟨by rw [hq]; rfl, rfl⟩])
    · rw [if_neg hq]
      refine (if_pos (nI_le (by omega) (by omega))).trans ?_
      exact pref (if_neg (fun z => hq (by simpa using z.1)))
  · refine (if_neg (nI_ne0 (by omega) (by omega))).trans ?_
    exact pref (if_neg (fun z => h0 z.2))
/-! how many nodes a decision reaches; how many are safe -/
def rch (d : Nat) (L : Nat → Nat) (al : Nat → Bool) (s x : Nat) (n : Nat) : Nat := fb_ct (fun t => !(t == s) && (al t && (dcs d L s t == x))) n
theorem s_reach {d s x : Nat} {f : Nat → Int32} {L : Nat → Nat} {a : Int64} (hd : d ≤ 6) (hs : s < 2 ^ d) (hx : x ≤ 2) (hf : ∀ w, w < 64 → f w = nI (L w)) (hL : ∀ w, w < 64 → L w ≤ 6) (ha : zt a s = true) :
    f_X6_reach (nI s) (nI x) (nI d) a (nI d) f = some (.inr (nI (rch d L (zt a) s x (2 ^ d)))) := by
  have h6 := p2_le hd
  refine (zox_eq (s_reqN hd hs)).trans (zjp_eq.trans ((if_neg (nI_pos (by omega))).trans ((if_pos (nI_le hx (by omega))).trans ?_)))
  refine (zox_eq (by rw [s_reqA a (by omega), ha]; rfl)).trans ?_
  refine zl2_iter (2 ^ d) (fun j => nI (rch d L (zt a) s x j)) (fun j => nI j) (by omega) (fun K j hj => ?_) (fun K => (zob_eq (s_nodeCount hd)).trans (if_pos (nI_le (Nat.le_refl _) (by omega)))) rfl nI_0
  refine (zob_eq (s_nodeCount hd)).trans ((if_neg (nI_ge hj (by omega))).trans (zjp_eq.trans ?_))
  have e : rch d L (zt a) s x (j + 1) = rch d L (zt a) s x j + (if (!(j == s) && (zt a j && (dcs d L s j == x))) = true then 1 else 0) := fb_ct_succ _ j
  have no : (!(j == s) && (zt a j && (dcs d L s j == x))) = false → (zbd (nI j + 1) fun x4 => K (nI (rch d L (zt a) s x j)) x4) = K (nI (rch d L (zt a) s x (j + 1))) (nI (j + 1)) := fun hh => by
    refine zbd_eq.trans ?_
    rw [e, hh, nI_1]; rfl
  by_cases h1 : j = s
  · refine (if_pos (by rw [h1])).trans (no (by simp [h1]))
  · refine (if_neg (fun z => h1 ((nI_eq (by omega) (by omega)).mp z))).trans ?_
    refine (zob_eq (s_contains a (by omega))).trans ?_
    cases hal : zt a j with
    | false => exact (if_pos rfl).trans (no (by simp [hal]))
    | true =>
      refine (if_neg (by decide)).trans ((zob_eq (s_decision hd hs hj hf hL)).trans ?_)
      have hl := dcs_le (L := L) hd hs hj
      by_cases h3 : dcs d L s j = x
      · refine (if_pos (by rw [h3])).trans (zbd_eq.trans (zbd_eq.trans ?_))
        rw [e, nI_1, nI_1, if_pos (by simp [h1, hal, h3])]
      · exact (if_neg (fun z => h3 ((nI_eq (by omega) (by omega)).mp z))).trans (no (by simp [h3]))
theorem m_reachL {c g : Nat → Int32} {d s x : Nat} {al : Nat → Bool} {L : Nat → Nat} {R : Type} (X : Int32 → Option R) (h : MN c d al) (hs : s < 2 ^ d) (hx : x ≤ 2) (hg : ∀ w, w < 2 ^ d → g w = nI (L w)) (hL : ∀ w, w < 2 ^ d → L w ≤ 6) :
    zl2 (R := R) (fun k53 (i3_53 : Int32) (i4_53 : Int32) => zob (f_X7_nodes c) (fun u4 => if u4 ≤ i4_53 then X i3_53 else
      zjp (T := Int32 → Int32 → Option R) (fun (s0_94 : Int32) (s1_94 : Int32) => zbd (s0_94 + s1_94) (fun x5 => zbd (i4_53 + 1) (fun x6 => k53 x5 x6))) (fun K94 =>
      zjp (T := Int32 → Option R) (fun (s0_93 : Int32) => K94 s0_93 0) (fun K93 => if i4_53 = nI s then K93 i3_53 else zob (f_X7_lives i4_53 c) (fun u7 => if u7 = 0 then K93 i3_53 else zob (f_X7_decision (nI s) i4_53 c g) (fun u8 => if u8 = nI x then K94 i3_53 1 else K93 i3_53)))))) zfu 0 0 = X (nI (rch d L al s x (2 ^ d))) := by
  have hd := h.2.1
  have h6 := p2_le hd
  refine zl2_iter (2 ^ d) (fun j => nI (rch d L al s x j)) (fun j => nI j) (by omega) (fun K j hj => ?_) (fun K => (zob_eq (m_nodes h)).trans (if_pos (nI_le (Nat.le_refl _) (by omega)))) rfl nI_0
  refine (zob_eq (m_nodes h)).trans ((if_neg (nI_ge hj (by omega))).trans (zjp_eq.trans (zjp_eq.trans ?_)))
  have e : rch d L al s x (j + 1) = rch d L al s x j + (if (!(j == s) && (al j && (dcs d L s j == x))) = true then 1 else 0) := fb_ct_succ _ j
  have no : (!(j == s) && (al j && (dcs d L s j == x))) = false → (zbd (nI (rch d L al s x j) + 0) fun x5 => zbd (nI j + 1) fun x6 => K x5 x6) = K (nI (rch d L al s x (j + 1))) (nI (j + 1)) := fun hh => by
    refine zbd_eq.trans (zbd_eq.trans ?_)
    rw [e, hh, nI_1, Int32.add_zero]; rfl
  by_cases h1 : j = s
  · exact (if_pos (by rw [h1])).trans (no (by simp [h1]))
  · refine (if_neg (fun z => h1 ((nI_eq (by omega) (by omega)).mp z))).trans ?_
    refine (zob_eq (m_lives h hj)).trans ?_
    cases hal : al j with
    | false => exact (if_pos rfl).trans (no (by simp [hal]))
    | true =>
      refine (if_neg (by decide)).trans ((zob_eq (m_decision h hs hj hg hL)).trans ?_)
      have hl := dcs_le (L := L) hd hs hj
      by_cases h3 : dcs d L s j = x
      · refine (if_pos (by rw [h3])).trans (zbd_eq.trans (zbd_eq.trans ?_))
        rw [e, nI_1, nI_1, if_pos (by simp [h1, hal, h3])]
      · exact (if_neg (fun z => h3 ((nI_eq (by omega) (by omega)).mp z))).trans (no (by simp [h3]))
def sfe (d : Nat) (L : Nat → Nat) (n : Nat) : Nat := fb_ct (fun v => L v == d) n
theorem s_safeNodes {d : Nat} {f : Nat → Int32} {L : Nat → Nat} (hd : d ≤ 6) (hf : ∀ w, w < 64 → f w = nI (L w)) (hL : ∀ w, w < 64 → L w ≤ 6) : f_X6_safeNodes (nI d) f = some (nI (sfe d L (2 ^ d))) := by
  have h6 := p2_le hd
  refine zl2_iter (2 ^ d) (fun j => nI (sfe d L j)) (fun j => nI j) (by omega) (fun K j hj => ?_) (fun K => (zob_eq (s_nodeCount hd)).trans (if_pos (nI_le (Nat.le_refl _) (by omega)))) rfl nI_0
  refine (zob_eq (s_nodeCount hd)).trans ((if_neg (nI_ge hj (by omega))).trans ((zob_eq (s_levelOf (by omega) hf)).trans (zjp_eq.trans ?_)))
  have e : sfe d L (j + 1) = sfe d L j + (if (L j == d) = true then 1 else 0) := fb_ct_succ _ j
  by_cases h1 : L j = d
  · refine (if_pos (by rw [h1])).trans (zbd_eq.trans (zbd_eq.trans ?_))
    rw [e, nI_1, nI_1, if_pos (by simp [h1])]
  · refine (if_neg (fun z => h1 ((nI_eq (by have := hL j (by omega); omega) (by omega)).mp z))).trans (zbd_eq.trans ?_)
    rw [e, nI_1, if_neg (by simp [h1])]; rfl
theorem m_safeOnes {c lv nw hm : Nat → Int32} {d : Nat} {al : Nat → Bool} (h : MN c d al) (ha : ∀ v, 2 ^ d ≤ v → al v = false) : wp (f_X7_safeOnes c lv nw hm) (fun r => r.1 = nI (sfe d (LV d al) (2 ^ d)) ∧ ∀ w, w < 2 ^ d → r.2.1 w = nI (LV d al w)) := by
  have hd := h.2.1
  have h6 := p2_le hd
  refine wp_obW (m_findLevels h ha) (fun u hu => ?_)
  refine wp_of_eq (zl2_iter (X := some (nI (sfe d (LV d al) (2 ^ d)), u.2.1, u.2.2.1, u.2.2.2)) (2 ^ d) (fun j => nI (sfe d (LV d al) j)) (fun j => nI j) (by omega) (fun K j hj => ?_) (fun K => (zob_eq (m_nodes h)).trans (if_pos (nI_le (Nat.le_refl _) (by omega)))) rfl nI_0) (wp_some ⟨rfl, hu.2⟩)
  refine (zob_eq (m_nodes h)).trans ((if_neg (nI_ge hj (by omega))).trans ((zgd_eq (inb_nI (by omega) (by decide))).trans ((zgd_eq rfl).trans (zjp_eq.trans ?_))))
  have e : sfe d (LV d al) (j + 1) = sfe d (LV d al) j + (if (LV d al j == d) = true then 1 else 0) := fb_ct_succ _ j
  rw [nI_clamp (show j < 2 ^ 31 by omega), hu.2 j hj, show c (0 : Int32).toNatClampNeg = nI d from h.2.2.1]
  have hl : LV d al j ≤ d := lvl_le d al _ j
  by_cases h1 : LV d al j = d
  · refine (if_pos (by rw [h1])).trans (zbd_eq.trans (zbd_eq.trans ?_))
    rw [e, nI_1, nI_1, if_pos (by simp [h1])]
  · refine (if_neg (fun z => h1 ((nI_eq (by omega) (by omega)).mp z))).trans (zbd_eq.trans (zbd_eq.trans ?_))
    rw [e, nI_1, if_neg (by simp [h1]), Int32.add_zero]; rfl
