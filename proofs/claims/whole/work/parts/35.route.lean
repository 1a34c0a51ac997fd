/-! decisions and routes, both sides -/
theorem s_ushr31 : ∀ m, m < 64 → ∀ k, k < 7 → ((nI m) >>> (nI k &&& 31)) &&& (1 : Int32) = bI (m.testBit k) := by decide +kernel
theorem pc_flip : ∀ m, m < 64 → ∀ k, k < 6 → pc (m ^^^ 2 ^ k) = if m.testBit k then pc m - 1 else pc m + 1 := by decide +kernel
theorem pc_pos : ∀ m, m < 64 → ∀ k, k < 6 → m.testBit k = true → 0 < pc m := by decide +kernel
theorem pc_le (m : Nat) : pc m ≤ 6 := fb_ct_le _ 6
theorem pc_0 : ∀ m, m < 64 → (pc m = 0 ↔ m = 0) := by decide +kernel
theorem bit_ex : ∀ d, d < 7 → ∀ m, m < 2 ^ d → m ≠ 0 → (List.range d).any (fun k => m.testBit k) = true := by decide +kernel
theorem bit_some {d m : Nat} (hd : d ≤ 6) (hm : m < 2 ^ d) (h0 : m ≠ 0) : ∃ k, k < d ∧ m.testBit k = true := by
  have h := bit_ex d (by omega) m hm h0
  rw [List.any_eq_true] at h
  obtain ⟨k, hk, h2⟩ := h
  exact ⟨k, List.mem_range.mp hk, h2⟩
theorem best_some {d v m : Nat} {L : Nat → Nat} (hd : d ≤ 6) (hm : m < 2 ^ d) (h0 : m ≠ 0) : ∃ b, bestD d L v m = some b ∧ b < d ∧ m.testBit b = true := by
  cases hb : bestD d L v m with
  | some b => exact ⟨b, rfl, bst_lt hb⟩
  | none =>
    obtain ⟨k, hk, h2⟩ := bit_some hd hm h0
    have := bst_none.mp hb k hk
    rw [h2] at this; cases this
def bW (v : Nat) (o : Option Nat) : Int32 := match o with | none => -1 | some b => nI (v ^^^ 2 ^ b)
theorem nI_ne_m1 {n : Nat} (h : n < 2 ^ 31) : ¬ nI n = -1 := by
  intro q
  have := congrArg Int32.toInt q
  rw [nI_toInt h, show ((-1 : Int32)).toInt = -1 from by decide] at this
  omega
theorem m_best {c g : Nat → Int32} {d v m : Nat} {al : Nat → Bool} {L : Nat → Nat} (fl : Bool) (h : MN c d al) (hv : v < 2 ^ d) (hm : m < 64) (hg : ∀ w, w < 2 ^ d → g w = nI (L w)) (hL : ∀ w, w < 2 ^ d → L w ≤ 6) :
    f_X7_best (nI v) (nI m) (bI fl) c g = some (bW v (bst (fun k => m.testBit k && (!fl || al (v ^^^ 2 ^ k))) (fun k => L (v ^^^ 2 ^ k)) d)) := by
  obtain ⟨hd1, hd, hc0, hc⟩ := id h
  have h6 := p2_le hd
  refine zbd_eq.trans ?_
  refine zl2_iter d (fun j => bW v (bst (fun k => m.testBit k && (!fl || al (v ^^^ 2 ^ k))) (fun k => L (v ^^^ 2 ^ k)) j)) (fun j => nI j) (by omega) (fun K j hj => ?_) (fun K => (zgd_eq rfl).trans (if_pos (by rw [show c (0 : Int32).toNatClampNeg = nI d from hc0]; exact nI_le (Nat.le_refl d) (by omega)))) rfl nI_0
  have hw := nb_lt hd hv hj
  refine (zgd_eq rfl).trans ?_
  refine (if_neg (by rw [show c (0 : Int32).toNatClampNeg = nI d from hc0]; exact nI_ge hj (by omega))).trans (zbd_eq.trans ?_)
  rw [nb_nI v (show j < 31 by omega), s_ushr31 m hm j (by omega)]
  refine zjp_eq.trans (zjp_eq.trans ?_)
  have e := bst_succ (fun k => m.testBit k && (!fl || al (v ^^^ 2 ^ k))) (fun k => L (v ^^^ 2 ^ k)) j
  have no : (m.testBit j && (!fl || al (v ^^^ 2 ^ j))) = false → bst (fun k => m.testBit k && (!fl || al (v ^^^ 2 ^ k))) (fun k => L (v ^^^ 2 ^ k)) (j + 1) = bst (fun k => m.testBit k && (!fl || al (v ^^^ 2 ^ k))) (fun k => L (v ^^^ 2 ^ k)) j := fun hh => by
    rw [e]
    simp only [hh, Bool.false_and]
    exact if_neg (by decide)
  -- what happens with the flag 'may'
  have yes : (m.testBit j && (!fl || al (v ^^^ 2 ^ j))) = true → ∀ (K90 : Int32 → Option rt_X7_best), (if bW v (bst (fun k => m.testBit k && (!fl || al (v ^^^ 2 ^ k))) (fun k => L (v ^^^ 2 ^ k)) j) = -1 then K90 (nI (v ^^^ 2 ^ j)) else zgd (inb (nI (v ^^^ 2 ^ j)) 64) (zgd (inb (bW v (bst (fun k => m.testBit k && (!fl || al (v ^^^ 2 ^ k))) (fun k => L (v ^^^ 2 ^ k)) j)) 64) (if g (nI (v ^^^ 2 ^ j)).toNatClampNeg ≤ g (bW v (bst (fun k => m.testBit k && (!fl || al (v ^^^ 2 ^ k))) (fun k => L (v ^^^ 2 ^ k)) j)).toNatClampNeg then K90 (bW v (bst (fun k => m.testBit k && (!fl || al (v ^^^ 2 ^ k))) (fun k => L (v ^^^ 2 ^ k)) j)) else K90 (nI (v ^^^ 2 ^ j))))) = K90 (bW v (bst (fun k => m.testBit k && (!fl || al (v ^^^ 2 ^ k))) (fun k => L (v ^^^ 2 ^ k)) (j + 1))) := fun hh K90 => by
    rw [e]
    simp only [hh, Bool.true_and]
    cases hb : bst (fun k => m.testBit k && (!fl || al (v ^^^ 2 ^ k))) (fun k => L (v ^^^ 2 ^ k)) j with
    | none => exact if_pos rfl
    | some b =>
      have hb1 := (bst_lt hb).1
      have hbw := nb_lt hd hv (show b < d by omega)
      refine (if_neg (nI_ne_m1 (by omega))).trans ?_
      refine (zgd_eq (inb_nI (by omega) (by decide))).trans ?_
      refine (zgd_eq (inb_nI (by omega) (by decide))).trans ?_
      show (if g (nI (v ^^^ 2 ^ j)).toNatClampNeg ≤ g (nI (v ^^^ 2 ^ b)).toNatClampNeg then _ else _) = _
      rw [nI_clamp (by omega), nI_clamp (by omega), hg _ hw, hg _ hbw]
      have h1 := hL _ hw
      have h2 := hL _ hbw
      by_cases hq : L (v ^^^ 2 ^ b) < L (v ^^^ 2 ^ j)
      · refine (if_neg (nI_ge hq (by omega))).trans ?_
        rw [if_pos (by simp [bcmp, hq])]
        rfl
      · refine (if_pos (nI_le (by omega) (by omega))).trans ?_
        rw [if_neg (by simp [bcmp, hq])]
  cases hb : m.testBit j with
  | false =>
    refine (if_neg (by decide)).trans ?_
    dsimp only
    refine (zjp_eq.trans (zjp_eq.trans (if_pos rfl))).trans ?_
    dsimp only
    refine zbd_eq.trans ?_
    rw [nI_1, no (by rw [hb]; rfl)]
  | true =>
    refine (if_pos rfl).trans (zjp_eq.trans ?_)
    cases fl with
    | false =>
      refine (if_pos rfl).trans ?_
      dsimp only
      refine (zjp_eq.trans (zjp_eq.trans ((if_neg (by decide)).trans zjp_eq))).trans ?_
      refine (yes (by rw [hb]; rfl) (fun s0 => zbd (nI j + 1) fun x4 => K s0 x4)).trans (zbd_eq.trans ?_)
      rw [nI_1]
    | true =>
      refine (if_neg (by decide)).trans ?_
      refine (zob_eq (m_lives h hw)).trans ?_
      cases ha : al (v ^^^ 2 ^ j) with
      | false =>
        refine (if_pos rfl).trans ?_
        dsimp only
        refine (zjp_eq.trans (zjp_eq.trans (if_pos rfl))).trans ?_
        dsimp only
        refine zbd_eq.trans ?_
        rw [nI_1, no (by rw [hb, ha]; rfl)]
      | true =>
        refine (if_neg (by decide)).trans ?_
        dsimp only
        refine (zjp_eq.trans (zjp_eq.trans ((if_neg (by decide)).trans zjp_eq))).trans ?_
        refine (yes (by rw [hb, ha]; rfl) (fun s0 => zbd (nI j + 1) fun x4 => K s0 x4)).trans (zbd_eq.trans ?_)
        rw [nI_1]
theorem m_best0 {c g : Nat → Int32} {d v m : Nat} {al : Nat → Bool} {L : Nat → Nat} (h : MN c d al) (hv : v < 2 ^ d) (hm : m < 64) (hg : ∀ w, w < 2 ^ d → g w = nI (L w)) (hL : ∀ w, w < 2 ^ d → L w ≤ 6) : f_X7_best (nI v) (nI m) 0 c g = some (bW v (bestD d L v m)) := by
  have := m_best false h hv hm hg hL
  rw [show bI false = 0 from rfl] at this
  rw [this]
  congr 3
  funext k
  simp
theorem spr0 : ∀ d, d < 7 → ∀ m, m < 64 → (nI (2 ^ d) - (1 : Int32)) &&& (nI m ^^^ (-1)) = nI (spr d m) := by decide +kernel
theorem m_spare {c : Nat → Int32} {d : Nat} {al : Nat → Bool} (h : MN c d al) {v t : Nat} (hv : v < 2 ^ d) (ht : t < 2 ^ d) : f_X7_spare (nI v) (nI t) c = some (nI (spr d (v ^^^ t))) := by
  have h6 := p2_le h.2.1
  refine (zob_eq (m_nodes h)).trans ?_
  rw [nx_xor, spr0 d (by have := h.2.1; omega) _ (xor_lt (by omega) (by omega))]
/-- the decision -/
def dcs (d : Nat) (L : Nat → Nat) (s t : Nat) : Nat :=
  if pc (s ^^^ t) = 0 then 0 else if pc (s ^^^ t) ≤ L s then 0 else
    match bestD d L s (s ^^^ t) with
    | none => 3
    | some b => if pc (s ^^^ t) ≤ L (s ^^^ 2 ^ b) + 1 then 0 else
      match bestD d L s (spr d (s ^^^ t)) with
      | none => 2
      | some b2 => if pc (s ^^^ t) + 1 ≤ L (s ^^^ 2 ^ b2) then 1 else 2
theorem nI_sub {a b : Nat} (h : b ≤ a) : nI a - nI b = nI (a - b) := by
  have e : nI (a - b) + nI b = nI a := by rw [nI_add]; congr 1; omega
  rw [← e]; exact Int32.add_sub_cancel _ _
theorem s_decision {d s t : Nat} {f : Nat → Int32} {L : Nat → Nat} (hd : d ≤ 6) (hs : s < 2 ^ d) (ht : t < 2 ^ d) (hf : ∀ w, w < 64 → f w = nI (L w)) (hL : ∀ w, w < 64 → L w ≤ 6) : f_X6_decision (nI s) (nI t) (nI d) f = some (nI (dcs d L s t)) := by
  have h6 := p2_le hd
  have hx : s ^^^ t < 2 ^ d := Nat.xor_lt_two_pow hs ht
  have hp := pc_le (s ^^^ t)
  refine zbd_eq.trans ?_
  rw [nx_xor]
  refine (zob_eq (s_bitCount _ (by omega))).trans ?_
  unfold dcs
  by_cases h0 : pc (s ^^^ t) = 0
  · rw [h0]; rfl
  · rw [if_neg h0]
    refine (if_neg (nI_ne0 (by omega) (by omega))).trans ?_
    refine (zob_eq (s_levelOf (by omega) hf)).trans ?_
    have hLs := hL s (by omega)
    by_cases h1 : pc (s ^^^ t) ≤ L s
    · rw [if_pos h1]; exact if_pos (nI_le h1 (by omega))
    · rw [if_neg h1]
      refine (if_neg (nI_ge (by omega) (by omega))).trans ?_
      refine (zob_eq (s_bestLevel hd (by omega) (by omega) hf hL)).trans ?_
      obtain ⟨b, hb, hbd, -⟩ := best_some (v := s) (L := L) hd hx (fun q => h0 (by rw [q]; rfl))
      have hLb := hL _ (nb_64 (v := s) (k := b) (by omega) (by omega))
      rw [bestV, hb]
      show (if nI (L (s ^^^ 2 ^ b)) < nI (pc (s ^^^ t)) - nI 1 then _ else _) = _
      rw [nI_sub (by omega)]
      by_cases h2 : pc (s ^^^ t) ≤ L (s ^^^ 2 ^ b) + 1
      · refine (if_neg (nI_nlt (by omega) (by omega))).trans ?_
        simp only [if_pos h2]
        rfl
      · refine (if_pos (nI_lt (by omega) (by omega))).trans ?_
        simp only [if_neg h2]
        refine (zob_eq (s_spareOf hd (by omega))).trans ?_
        refine (zob_eq (s_bestLevel hd (by omega) (spr_lt hd) hf hL)).trans ?_
        show (if bestV d L s (spr d (s ^^^ t)) < nI (pc (s ^^^ t)) + 1 then _ else _) = _
        rw [nI_1]
        cases hb2 : bestD d L s (spr d (s ^^^ t)) with
        | none =>
          refine (if_pos ?_).trans rfl
          rw [bestV, hb2]
          show (-1 : Int32) < nI (pc (s ^^^ t) + 1)
          rw [Int32.lt_iff_toInt_lt, nI_toInt (by omega), show ((-1 : Int32)).toInt = -1 from by decide]
          omega
        | some b2 =>
          have hb3 := (bst_lt hb2).1
          have hLb2 := hL _ (nb_64 (v := s) (k := b2) (by omega) (by omega))
          rw [bestV, hb2]
          show (if nI (L (s ^^^ 2 ^ b2)) < nI (pc (s ^^^ t) + 1) then _ else _) = _
          by_cases h3 : pc (s ^^^ t) + 1 ≤ L (s ^^^ 2 ^ b2)
          · simp only [if_pos h3]; exact if_neg (nI_nlt h3 (by omega))
          · simp only [if_neg h3]; exact if_pos (nI_lt (by omega) (by omega))
theorem m_decision {c g : Nat → Int32} {d s t : Nat} {al : Nat → Bool} {L : Nat → Nat} (h : MN c d al) (hs : s < 2 ^ d) (ht : t < 2 ^ d) (hg : ∀ w, w < 2 ^ d → g w = nI (L w)) (hL : ∀ w, w < 2 ^ d → L w ≤ 6) : f_X7_decision (nI s) (nI t) c g = some (nI (dcs d L s t)) := by
  obtain ⟨hd1, hd, hc0, hc⟩ := id h
  have h6 := p2_le hd
  have hx : s ^^^ t < 2 ^ d := Nat.xor_lt_two_pow hs ht
  have hp := pc_le (s ^^^ t)
  refine (zob_eq (s_far (by omega) (by omega))).trans ?_
  unfold dcs
  by_cases h0 : pc (s ^^^ t) = 0
  · rw [h0]; rfl
  · rw [if_neg h0]
    refine (if_neg (nI_ne0 (by omega) (by omega))).trans ?_
    refine (zgd_eq (inb_nI (by omega) (by decide))).trans ?_
    rw [nI_clamp (by omega), hg s hs]
    have hLs := hL s hs
    by_cases h1 : pc (s ^^^ t) ≤ L s
    · rw [if_pos h1]; exact if_pos (nI_le h1 (by omega))
    · rw [if_neg h1]
      refine (if_neg (nI_ge (by omega) (by omega))).trans ?_
      rw [nx_xor]
      refine (zob_eq (m_best0 h hs (by omega) hg hL)).trans ?_
      obtain ⟨b, hb, hbd, -⟩ := best_some (v := s) (L := L) hd hx (fun q => h0 (by rw [q]; rfl))
      have hbw := nb_lt hd hs hbd
      have hLb := hL _ hbw
      rw [hb]
      refine (zgd_eq (inb_nI (by omega) (by decide))).trans ?_
      show (if g (nI (s ^^^ 2 ^ b)).toNatClampNeg < nI (pc (s ^^^ t)) - nI 1 then _ else _) = _
      rw [nI_clamp (by omega), hg _ hbw, nI_sub (by omega)]
      by_cases h2 : pc (s ^^^ t) ≤ L (s ^^^ 2 ^ b) + 1
      · refine (if_neg (nI_nlt (by omega) (by omega))).trans ?_
        simp only [if_pos h2]
        rfl
      · refine (if_pos (nI_lt (by omega) (by omega))).trans ?_
        simp only [if_neg h2]
        refine (zob_eq (m_spare h hs ht)).trans ?_
        refine (zob_eq (m_best0 h hs (spr_lt hd) hg hL)).trans (zjp_eq.trans ?_)
        cases hb2 : bestD d L s (spr d (s ^^^ t)) with
        | none => exact if_pos rfl
        | some b2 =>
          have hb3 := (bst_lt hb2).1
          have hbw2 := nb_lt hd hs hb3
          have hLb2 := hL _ hbw2
          refine (if_neg (nI_ne_m1 (by omega))).trans ?_
          refine (zgd_eq (inb_nI (by omega) (by decide))).trans ?_
          show (if g (nI (s ^^^ 2 ^ b2)).toNatClampNeg < nI (pc (s ^^^ t)) + 1 then _ else _) = _
          rw [nI_clamp (by omega), hg _ hbw2, nI_1]
          by_cases h3 : pc (s ^^^ t) + 1 ≤ L (s ^^^ 2 ^ b2)
          · simp only [if_pos h3]; exact if_neg (nI_nlt h3 (by omega))
          · simp only [if_neg h3]; exact if_pos (nI_lt (by omega) (by omega))
