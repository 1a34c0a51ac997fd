/-! free subcubes -/
theorem s_lowNodes {k : Nat} (hk : k < 6) : f_X6_lowNodes (nI k) = some (lowN k) := by
  refine zjp_eq.trans ((if_neg (nI_pos (by omega))).trans ((if_neg (nI_ge hk (by decide))).trans ((zgd_eq (inb_nI hk (by decide))).trans ?_)))
  rw [nI_clamp (by omega)]
theorem zt_low : ∀ k, k < 6 → ∀ v, v < 64 → zt (lowN k) v = !v.testBit k := by decide +kernel
theorem up_bit : ∀ v, v < 64 → ∀ j, j < 6 → v.testBit j = false → 2 ^ j + v = v ^^^ 2 ^ j ∧ v ^^^ 2 ^ j < 64 := by decide +kernel
def fbs (a : Int64) (m : Nat) : Nat → Int64
  | 0 => a
  | j + 1 => if m.testBit j = true then fbs a m j &&& (j_lushr (fbs a m j) ((1 : Int32) <<< (nI j &&& 31)) &&& lowN j) else fbs a m j
theorem s_freeBases {d m : Nat} (a : Int64) (hd : d ≤ 6) (hm : m < 64) : f_X6_freeBases (nI m) (nI d) a = some (fbs a m d) := by
  refine zl2_iter d (fun j => fbs a m j) (fun j => nI j) (by omega) (fun K j hj => ?_) (fun K => if_pos (nI_le (Nat.le_refl d) (by omega))) rfl nI_0
  refine (if_neg (nI_ge hj (by omega))).trans ((zob_eq (s_hasBit m hm j (by omega))).trans (zjp_eq.trans ?_))
  cases hb : m.testBit j with
  | false =>
    refine (if_pos rfl).trans (zbd_eq.trans ?_)
    rw [nI_1]
    simp only [fbs, hb]
    rfl
  | true =>
    refine (if_neg (by decide)).trans ((zob_eq (s_lowNodes (by omega))).trans (zbd_eq.trans (zbd_eq.trans ?_)))
    rw [nI_1]
    simp only [fbs, hb]
    rfl
/-- all nodes that agree with v outside of the mask's dimensions below j live; v has none of these -/
def FP (al : Nat → Bool) (m j v : Nat) : Prop := (∀ i, i < j → m.testBit i = true → v.testBit i = false) ∧ ∀ u, u < 64 → (∀ i, i < 6 → ¬ (i < j ∧ m.testBit i = true) → u.testBit i = v.testBit i) → al u = true
theorem bit6_ext {u v : Nat} (hu : u < 64) (hv : v < 64) (h : ∀ i, i < 6 → u.testBit i = v.testBit i) : u = v := Nat.eq_of_testBit_eq (fun i => by
  rcases Nat.lt_or_ge i 6 with q | q
  · exact h i q
  · rw [Nat.testBit_lt_two_pow (Nat.lt_of_lt_of_le hu (Nat.pow_le_pow_right (n := 2) (by decide) q)), Nat.testBit_lt_two_pow (Nat.lt_of_lt_of_le hv (Nat.pow_le_pow_right (n := 2) (by decide) q))])
theorem fbs_FP (a : Int64) (m : Nat) : ∀ j, j ≤ 6 → ∀ v, v < 64 → (zt (fbs a m j) v = true ↔ FP (zt a) m j v)
  | 0, _, v, hv => by
    constructor
    · intro h
      refine ⟨fun i hi => by omega, fun u hu hag => ?_⟩
      rw [bit6_ext hu hv (fun i hi => hag i hi (by omega))]; exact h
    · intro h
      exact h.2 v hv (fun i _ _ => rfl)
  | j + 1, hj, v, hv => by
    have ih := fbs_FP a m j (by omega)
    cases hb : m.testBit j with
    | false =>
      have e : fbs a m (j + 1) = fbs a m j := by simp [fbs, hb]
      rw [e, ih v hv]
      have hiff : ∀ i, (i < j ∧ m.testBit i = true) ↔ (i < j + 1 ∧ m.testBit i = true) := fun i => ⟨fun h => ⟨by omega, h.2⟩, fun h => by
        by_cases hij : i = j
        · rw [hij, hb] at h; exact absurd h.2 (by decide)
        · exact ⟨by omega, h.2⟩⟩
      constructor
      · intro h
        exact ⟨fun i hi hm => h.1 i (((hiff i).mpr ⟨hi, hm⟩).1) hm, fun u hu hag => h.2 u hu (fun i hi hn => hag i hi (fun q => hn ((hiff i).mpr q)))⟩
      · intro h
        exact ⟨fun i hi hm => h.1 i (by omega) hm, fun u hu hag => h.2 u hu (fun i hi hn => hag i hi (fun q => hn ((hiff i).mp q)))⟩
    | true =>
      have e : fbs a m (j + 1) = fbs a m j &&& (j_lushr (fbs a m j) ((1 : Int32) <<< (nI j &&& 31)) &&& lowN j) := by simp [fbs, hb]
      have hp : 2 ^ j < 64 := Nat.pow_lt_pow_right (n := 6) (by decide) (by omega)
      rw [e, zt_and, zt_and, p2_nI j (by omega), zt_ushr _ hp, zt_low j (by omega) v hv]
      cases hvj : v.testBit j with
      | true =>
        simp only [Bool.not_true, Bool.and_false, Bool.false_eq_true, false_iff]
        intro h
        have := h.1 j (by omega) hb
        rw [hvj] at this; cases this
      | false =>
        obtain ⟨e2, h64⟩ := up_bit v hv j (by omega) hvj
        have hx : ∀ i, (v ^^^ 2 ^ j).testBit i = if i = j then true else v.testBit i := fun i => by
          rw [Nat.testBit_xor, Nat.testBit_two_pow]
          by_cases hij : i = j
          · subst hij; simp [hvj]
          · simp [hij, show ¬ j = i from fun z => hij z.symm]
        rw [e2]
        simp only [Bool.not_false, Bool.and_true, Bool.and_eq_true, ih v hv, ih _ h64]
        constructor
        · intro ⟨h1, h2⟩
          refine ⟨fun i hi hm => ?_, fun u hu hag => ?_⟩
          · by_cases hij : i = j
            · rw [hij]; exact hvj
            · exact h1.1 i (by omega) hm
          · cases huj : u.testBit j with
            | false =>
              refine h1.2 u hu (fun i hi hn => ?_)
              by_cases hij : i = j
              · rw [hij, huj, hvj]
              · exact hag i hi (fun q => hn ⟨by omega, q.2⟩)
            | true =>
              refine h2.2 u hu (fun i hi hn => ?_)
              rw [hx]
              by_cases hij : i = j
              · rw [if_pos hij, hij, huj]
              · rw [if_neg hij]; exact hag i hi (fun q => hn ⟨by omega, q.2⟩)
        · intro h
          refine ⟨⟨fun i hi hm => h.1 i (by omega) hm, fun u hu hag => h.2 u hu (fun i hi hn => hag i hi (fun q => hn ⟨by omega, q.2⟩))⟩, fun i hi hm => ?_, fun u hu hag => h.2 u hu (fun i hi hn => ?_)⟩
          · rw [hx, if_neg (by omega)]; exact h.1 i (by omega) hm
          · have hij : i ≠ j := fun z => hn ⟨by omega, by rw [z]; exact hb⟩
            rw [hag i hi (fun q => hn ⟨by omega, q.2⟩), hx, if_neg hij]
theorem fbs_al {a : Int64} {m d v : Nat} (hd : d ≤ 6) (hv : v < 64) (h : zt (fbs a m d) v = true) : zt a v = true := ((fbs_FP a m d hd v hv).mp h).2 v hv (fun i _ _ => rfl)
/-! the reference's isFree -/
def zall (p : Nat → Bool) : Nat → Bool
  | 0 => true
  | n + 1 => zall p n && p n
theorem zall_t {p : Nat → Bool} : ∀ {n : Nat}, zall p n = true ↔ ∀ k, k < n → p k = true
  | 0 => ⟨fun _ k hk => by omega, fun _ => rfl⟩
  | n + 1 => by
    rw [zall, Bool.and_eq_true, zall_t]
    exact ⟨fun h k hk => by
      rcases Nat.lt_or_ge k n with q | q
      · exact h.1 k q
      · rw [show k = n by omega]; exact h.2, fun h => ⟨fun k hk => h k (by omega), h n (by omega)⟩⟩
theorem off_nI : ∀ v, v < 64 → ∀ m, m < 64 → nI v &&& (nI m ^^^ (-1 : Int32)) = nI (v &&& (63 ^^^ m)) := by decide +kernel
theorem off_bit : ∀ m, m < 64 → ∀ i, i < 6 → (63 ^^^ m).testBit i = !m.testBit i := by decide +kernel
theorem ct_cut {p : Nat → Bool} : ∀ {m n : Nat}, m ≤ n → (∀ k, m ≤ k → k < n → p k = false) → fb_ct p m = fb_ct p n
  | m, 0, h, _ => by rw [show m = 0 by omega]
  | m, n + 1, h, hp => by
    rcases Nat.lt_or_ge m (n + 1) with q | q
    · rw [fb_ct_succ, hp n (by omega) (by omega), ct_cut (show m ≤ n by omega) (fun k h1 h2 => hp k h1 (by omega))]; rfl
    · rw [show m = n + 1 by omega]
theorem fbs_cut {a : Int64} {d : Nat} (hd : d ≤ 6) (ha : ∀ v, 2 ^ d ≤ v → zt a v = false) (m : Nat) : fb_ct (zt (fbs a m d)) 64 = fb_ct (zt (fbs a m d)) (2 ^ d) :=
  (ct_cut (p2_le hd) (fun k h1 h2 => by
    cases h : zt (fbs a m d) k with
    | false => rfl
    | true =>
      have := fbs_al hd h2 h
      rw [ha k h1] at this; cases this)).symm
/-! their number -/
def fsn (a : Int64) (d k : Nat) (n : Nat) : Nat := fb_sm (fun m => if pc m = k then fb_ct (zt (fbs a m d)) (2 ^ d) else 0) n
theorem fsn_le {a : Int64} {d k n : Nat} (hd : d ≤ 6) (hn : n ≤ 64) : fsn a d k n ≤ 4096 := by
  have h6 := p2_le hd
  have h := fb_sm_le (f := fun m => if pc m = k then fb_ct (zt (fbs a m d)) (2 ^ d) else 0) (g := fun _ => 64) (n := n) (fun m _ => by
    show (if pc m = k then _ else 0) ≤ 64
    have := ct_le (zt (fbs a m d)) (2 ^ d)
    split <;> omega)
  rw [fb_sm_const] at h
  have : n * 64 ≤ 64 * 64 := Nat.mul_le_mul_right 64 hn
  exact Nat.le_trans h this
theorem s_freeL {d k : Nat} {a : Int64} (hd : d ≤ 6) (hk : k ≤ 6) (ha : ∀ v, 2 ^ d ≤ v → zt a v = false) : zl2 (R := rt_X6_freeSubcubes) (fun k29 (i2_29 : Int32) (i3_29 : Int32) =>
    zob (f_X6_nodeCount (nI d)) (fun u1 => if u1 ≤ i3_29 then some (.inr i2_29) else zob (f_J6_bitCount_0f7a4 i3_29) (fun u2 => zjp (T := Int32 → Option rt_X6_freeSubcubes) (fun (i2_56 : Int32) => zbd (i3_29 + 1) (fun x3 => k29 i2_56 x3)) (fun K56 => if u2 = nI k then zob (f_X6_freeBases i3_29 (nI d) a) (fun u4 => zob (f_J13_bitCount_95d88 u4) (fun u5 => zbd (i2_29 + u5) (fun x6 => K56 x6))) else K56 i2_29)))) zfu 0 0 = some (.inr (nI (fsn a d k (2 ^ d)))) := by
  have h6 := p2_le hd
  refine zl2_iter (2 ^ d) (fun j => nI (fsn a d k j)) (fun j => nI j) (by omega) (fun K j hj => ?_) (fun K => (zob_eq (s_nodeCount hd)).trans (if_pos (nI_le (Nat.le_refl _) (by omega)))) rfl nI_0
  refine (zob_eq (s_nodeCount hd)).trans ((if_neg (nI_ge hj (by omega))).trans ((zob_eq (s_bitCount j (by omega))).trans (zjp_eq.trans ?_)))
  have e : fsn a d k (j + 1) = fsn a d k j + (if pc j = k then fb_ct (zt (fbs a j d)) (2 ^ d) else 0) := fb_sm_succ _ j
  have hp := pc_le j
  by_cases hq : pc j = k
  · refine (if_pos (by rw [hq])).trans ((zob_eq (s_freeBases a hd (by omega))).trans ((zob_eq (s_popL _)).trans (zbd_eq.trans (zbd_eq.trans ?_))))
    rw [fbs_cut hd ha, nI_add, nI_1, e, if_pos hq]
  · refine (if_neg (fun z => hq ((nI_eq (by omega) (by omega)).mp z))).trans (zbd_eq.trans ?_)
    rw [nI_1, e, if_neg hq]; rfl
/-! the largest -/
def mI (o : Nat) : Int32 := if o = 0 then -1 else nI (o - 1)
theorem mI_le {q o : Nat} (hq : q < 2 ^ 31) (ho : o < 2 ^ 31) : nI q ≤ mI o ↔ q + 1 ≤ o := by
  rw [mI]
  by_cases h : o = 0
  · rw [if_pos h, Int32.le_iff_toInt_le, nI_toInt hq, show ((-1 : Int32)).toInt = -1 from by decide]
    omega
  · rw [if_neg h, nI_leI hq (by omega)]
    omega
def fbb (a : Int64) (d m : Nat) : Nat := zfst (fun v => zt (fbs a m d) v) (2 ^ d)
/-- found, and one more than its dimension (0: none) -/
def lgs (a : Int64) (d : Nat) : Nat → Int32 × Nat
  | 0 => (-1, 0)
  | m + 1 => if fbb a d m < 2 ^ d ∧ (lgs a d m).2 < pc m + 1 then (nI (64 * m + fbb a d m), pc m + 1) else lgs a d m
theorem lgs_le (a : Int64) (d : Nat) : ∀ m, (lgs a d m).2 ≤ 7
  | 0 => by simp [lgs]
  | m + 1 => by
    rw [lgs]
    split
    · have := pc_le m; show pc m + 1 ≤ 7; omega
    · exact lgs_le a d m
theorem lg_cmp0 (x y : Int64) : lg_cmp x y = 0 ↔ x = y := by
  unfold lg_cmp
  by_cases h : x > y
  · rw [if_pos h]
    constructor
    · intro q; exact absurd q (by decide)
    · intro q; subst q; exact (Int64.lt_irrefl h).elim
  · rw [if_neg h]
    by_cases h2 : x = y
    · simp [h2]
    · rw [if_neg h2]
      constructor
      · intro q; exact absurd q (by decide)
      · intro q; exact absurd q h2
theorem fbs_none {a : Int64} {d m : Nat} (hd : d ≤ 6) (ha : ∀ v, 2 ^ d ≤ v → zt a v = false) : fbs a m d = 0 ↔ ¬ fbb a d m < 2 ^ d := by
  obtain ⟨h1, h2, h3⟩ := zfst_spec (fun v => zt (fbs a m d) v) (2 ^ d)
  constructor
  · intro e q
    have := h3 q
    rw [e] at this
    simp [zt_0] at this
  · intro q
    have e : fbb a d m = 2 ^ d := Nat.le_antisymm h1 (by omega)
    refine zt_ext (fun v hv => ?_)
    rw [zt_0]
    rcases Nat.lt_or_ge v (2 ^ d) with z | z
    · exact h2 v (by rw [show zfst _ _ = 2 ^ d from e]; exact z)
    · cases h : zt (fbs a m d) v with
      | false => rfl
      | true => have := fbs_al hd hv h; rw [ha v z] at this; cases this
theorem s_largest {d : Nat} {a : Int64} (hd : d ≤ 6) (ha : ∀ v, 2 ^ d ≤ v → zt a v = false) : f_X6_largestSubcube (nI d) a = some (lgs a d (2 ^ d)).1 := by
  have h6 := p2_le hd
  refine zbd_eq.trans (zbd_eq.trans ?_)
  refine zl3_iter (2 ^ d) (fun j => (lgs a d j).1) (fun j => mI (lgs a d j).2) (fun j => nI j) (by omega) (fun K j hj => ?_) (fun K => (zob_eq (s_nodeCount hd)).trans (if_pos (nI_le (Nat.le_refl _) (by omega)))) rfl rfl nI_0
  have hle := lgs_le a d j
  have hp := pc_le j
  refine (zob_eq (s_nodeCount hd)).trans ((if_neg (nI_ge hj (by omega))).trans ((zob_eq (s_freeBases a hd (by omega))).trans (zjp_eq.trans ?_)))
  have e : lgs a d (j + 1) = if fbb a d j < 2 ^ d ∧ (lgs a d j).2 < pc j + 1 then (nI (64 * j + fbb a d j), pc j + 1) else lgs a d j := rfl
  by_cases h1 : fbb a d j < 2 ^ d
  · refine (if_neg (fun z => (fbs_none hd ha).mp ((lg_cmp0 _ _).mp z) h1)).trans ((zob_eq (s_bitCount j (by omega))).trans ?_)
    by_cases h2 : (lgs a d j).2 < pc j + 1
    · refine (if_neg (fun z => by have := (mI_le (by omega) (by omega)).mp z; omega)).trans ?_
      have hs := zfst_spec (fun v => zt (fbs a j d) v) (2 ^ d)
      refine (zob_eq (s_bitCount j (by omega))).trans ((zob_eq (s_leastNode _ (hs.2.2 h1) hs.2.1)).trans (zbd_eq.trans (zbd_eq.trans ?_)))
      rw [e, if_pos ⟨h1, h2⟩, nI_1]
      show K (nI 64 * nI j + nI (fbb a d j)) (nI (pc j)) _ = K (nI (64 * j + fbb a d j)) (mI (pc j + 1)) _
      rw [show nI 64 * nI j = nI (64 * j) from (Int32.ofNat_mul 64 j).symm, nI_add, mI, if_neg (by omega), Nat.add_sub_cancel]
    · refine (if_pos ((mI_le (by omega) (by omega)).mpr (by omega))).trans (zbd_eq.trans ?_)
      rw [e, if_neg (fun z => h2 z.2), nI_1]
  · refine (if_pos ((lg_cmp0 _ _).mpr ((fbs_none hd ha).mpr h1))).trans (zbd_eq.trans ?_)
    rw [e, if_neg (fun z => h1 z.1), nI_1]