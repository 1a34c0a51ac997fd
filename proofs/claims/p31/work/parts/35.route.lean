/-! decisions and routes, both sides -/
theorem s_ushr31 : ∀ m, m < 64 → ∀ k, k < 7 → ((nI m) >>> (nI k &&& 31)) &&& (1 : Int32) = bI (m.testBit k) := by decide +kernel
theorem pc_flip : ∀ m, m < 64 → ∀ k, k < 6 → pc (m ^^^ 2 ^ k) = if m.testBit k then pc m - 1 else pc m + 1 := by decide +kernel
theorem pc_pos : ∀ m, m < 64 → ∀ k, k < 6 → m.testBit k = true → 0 < pc m := by decide +kernel
theorem pc_le (m : Nat) : pc m ≤ 6 := fb_ct_le _ 6
theorem pc_0 : ∀ m, m < 64 → (pc m = 0 ↔ m = 0) := by decide +kernel
theorem bit_ex : ∀ d, d < 7 → ∀ m, m < 2 ^ d → m ≠ 0 → (List.range d).any (fun k => m.testBit k) = true := by decide +kernel
theorem bit_some {d m : Nat} (hd : d ≤ 6) (hm : m < 2 ^ d) (h0 : m ≠ 0) : ∃ k, k < d ∧ m.testBit k = true := by
  have h := bit_ex d (by omega) m hm h0
  rw [List.any_eq_true] at h
  obtain ⟨k, hk, h2⟩ := h
  exact ⟨k, List.mem_range.mp hk, h2⟩
theorem best_some {d v m : Nat} {L : Nat → Nat} (hd : d ≤ 6) (hm : m < 2 ^ d) (h0 : m ≠ 0) : ∃ b, bestD d L v m = some b ∧ b < d ∧ m.testBit b = true := by
  cases hb : bestD d L v m with
  | some b => exact ⟨b, rfl, bst_lt hb⟩
  | none =>
    obtain ⟨k, hk, h2⟩ := bit_some hd hm h0
    have := bst_none.mp hb k hk
    rw [h2] at this; cases this
def bW (v : Nat) (o : Option Nat) : Int32 := match o with | none => -1 | some b => nI (v ^^^ 2 ^ b)
theorem nI_ne_m1 {n : Nat} (h : n < 2 ^ 31) : ¬ nI n = -1 := by
  intro q
  have := congrArg Int32.toInt q
  rw [nI_toInt h, show ((-1 : Int32)).toInt = -1 from by decide] at this
  omega
theorem spr0 : ∀ d, d < 7 → ∀ m, m < 64 → (nI (2 ^ d) - (1 : Int32)) &&& (nI m ^^^ (-1)) = nI (spr d m) := by decide +kernel
/-- the decision -/
def dcs (d : Nat) (L : Nat → Nat) (s t : Nat) : Nat :=
  if pc (s ^^^ t) = 0 then 0 else if pc (s ^^^ t) ≤ L s then 0 else
    match bestD d L s (s ^^^ t) with
    | none => 3
    | some b => if pc (s ^^^ t) ≤ L (s ^^^ 2 ^ b) + 1 then 0 else
      match bestD d L s (spr d (s ^^^ t)) with
      | none => 2
      | some b2 => if pc (s ^^^ t) + 1 ≤ L (s ^^^ 2 ^ b2) then 1 else 2
theorem nI_sub {a b : Nat} (h : b ≤ a) : nI a - nI b = nI (a - b) := by
  have e : nI (a - b) + nI b = nI a := by rw [nI_add]; congr 1; omega
  rw [← e]; exact Int32.add_sub_cancel _ _
theorem s_decision {d s t : Nat} {f : Nat → Int32} {L : Nat → Nat} (hd : d ≤ 6) (hs : s < 2 ^ d) (ht : t < 2 ^ d) (hf : ∀ w, w < 64 → f w = nI (L w)) (hL : ∀ w, w < 64 → L w ≤ 6) : f_X6_decision (nI s) (nI t) (nI d) f = some (nI (dcs d L s t)) := by
  have h6 := p2_le hd
  have hx : s ^^^ t < 2 ^ d := Nat.xor_lt_two_pow hs ht
  have hp := pc_le (s ^^^ t)
  refine zbd_eq.trans ?_
  rw [nx_xor]
  refine (zob_eq (s_bitCount _ (by omega))).trans ?_
  unfold dcs
  by_cases h0 : pc (s ^^^ t) = 0
  · rw [h0]; rfl
  · rw [if_neg h0]
    refine (if_neg (nI_ne0 (by omega) (by omega))).trans ?_
    refine (zob_eq (s_levelOf (by omega) hf)).trans ?_
    have hLs := hL s (by omega)
    by_cases h1 : pc (s ^^^ t) ≤ L s
    · rw [if_pos h1]; exact if_pos (nI_le h1 (by omega))
    · rw [if_neg h1]
      refine (if_neg (nI_ge (by omega) (by omega))).trans ?_
      refine (zob_eq (s_bestLevel hd (by omega) (by omega) hf hL)).trans ?_
      obtain ⟨b, hb, hbd, -⟩ := best_some (v := s) (L := L) hd hx (fun q => h0 (by rw [q]; rfl))
      have hLb := hL _ (nb_64 (v := s) (k := b) (by omega) (by omega))
      rw [bestV, hb]
      show (if nI (L (s ^^^ 2 ^ b)) < nI (pc (s ^^^ t)) - nI 1 then _ else _) = _
      rw [nI_sub (by omega)]
      by_cases h2 : pc (s ^^^ t) ≤ L (s ^^^ 2 ^ b) + 1
      · refine (if_neg (nI_nlt (by omega) (by omega))).trans ?_
        simp only [if_pos h2]
        rfl
      · refine (if_pos (nI_lt (by omega) (by omega))).trans ?_
        simp only [if_neg h2]
        refine (zob_eq (s_spareOf hd (by omega))).trans ?_
        refine (zob_eq (s_bestLevel hd (by omega) (spr_lt hd) hf hL)).trans ?_
        show (if bestV d L s (spr d (s ^^^ t)) < nI (pc (s ^^^ t)) + 1 then _ else _) = _
        rw [nI_1]
        cases hb2 : bestD d L s (spr d (s ^^^ t)) with
        | none =>
          refine (if_pos ?_).trans rfl
          rw [bestV, hb2]
          show (-1 : Int32) < nI (pc (s ^^^ t) + 1)
          rw [Int32.lt_iff_toInt_lt, nI_toInt (by omega), show ((-1 : Int32)).toInt = -1 from by decide]
          omega
        | some b2 =>
          have hb3 := (bst_lt hb2).1
          have hLb2 := hL _ (nb_64 (v := s) (k := b2) (by omega) (by omega))
          rw [bestV, hb2]
          show (if nI (L (s ^^^ 2 ^ b2)) < nI (pc (s ^^^ t) + 1) then _ else _) = _
          by_cases h3 : pc (s ^^^ t) + 1 ≤ L (s ^^^ 2 ^ b2)
          · simp only [if_pos h3]; exact if_neg (nI_nlt h3 (by omega))
          · simp only [if_neg h3]; exact if_pos (nI_lt (by omega) (by omega))