/-! free subcubes -/
theorem s_lowNodes {k : Nat} (hk : k < 6) : f_X6_lowNodes (nI k) = some (lowN k) := by
  refine zjp_eq.trans ((if_neg (nI_pos (by omega))).trans ((if_neg (nI_ge hk (by decide))).trans ((zgd_eq (inb_nI hk (by decide))).trans ?_)))
  rw [nI_clamp (by omega)]
theorem zt_low : ∀ k, k < 6 → ∀ v, v < 64 → zt (lowN k) v = !v.testBit k := by decide +kernel
theorem up_bit : ∀ v, v < 64 → ∀ j, j < 6 → v.testBit j = false → 2 ^ j + v = v ^^^ 2 ^ j ∧ v ^^^ 2 ^ j < 64 := by decide +kernel
def fbs (a : Int64) (m : Nat) : Nat → Int64
  | 0 => a
  | j + 1 => if m.testBit j = true then fbs a m j &&& (j_lushr (fbs a m j) ((1 : Int32) <<< (nI j &&& 31)) &&& lowN j) else fbs a m j
theorem s_freeBases {d m : Nat} (a : Int64) (hd : d ≤ 6) (hm : m < 64) : f_X6_freeBases (nI m) (nI d) a = some (fbs a m d) := by
  refine zl2_iter d (fun j => fbs a m j) (fun j => nI j) (by omega) (fun K j hj => ?_) (fun K => if_pos (nI_le (Nat.le_refl d) (by omega))) rfl nI_0
  refine (if_neg (nI_ge hj (by omega))).trans ((zob_eq (s_hasBit m hm j (by omega))).trans (zjp_eq.trans ?_))
  cases hb : m.testBit j with
  | false =>
    refine (if_pos rfl).trans (zbd_eq.trans ?_)
    rw [nI_1]
    simp only [fbs, hb]
    rfl
  | true =>
    refine (if_neg (by decide)).trans ((zob_eq (s_lowNodes (by omega))).trans (zbd_eq.trans (zbd_eq.trans ?_)))
    rw [nI_1]
    simp only [fbs, hb]
    rfl
/-- all nodes that agree with v outside of the mask's dimensions below j live; v has none of these -/
def FP (al : Nat → Bool) (m j v : Nat) : Prop := (∀ i, i < j → m.testBit i = true → v.testBit i = false) ∧ ∀ u, u < 64 → (∀ i, i < 6 → ¬ (i < j ∧ m.testBit i = true) → u.testBit i = v.testBit i) → al u = true
theorem bit6_ext {u v : Nat} (hu : u < 64) (hv : v < 64) (h : ∀ i, i < 6 → u.testBit i = v.testBit i) : u = v := Nat.eq_of_testBit_eq (fun i => by
  rcases Nat.lt_or_ge i 6 with q | q
  · exact h i q
  · rw [Nat.testBit_lt_two_pow (Nat.lt_of_lt_of_le hu (Nat.pow_le_pow_right (n := 2) (by decide) q)), Nat.testBit_lt_two_pow (Nat.lt_of_lt_of_le hv (Nat.pow_le_pow_right (n := 2) (by decide) q))])
theorem fbs_FP (a : Int64) (m : Nat) : ∀ j, j ≤ 6 → ∀ v, v < 64 → (zt (fbs a m j) v = true ↔ FP (zt a) m j v)
  | 0, _, v, hv => by
    constructor
    · intro h
      refine ⟨fun i hi => by omega, fun u hu hag => ?_⟩
      rw [bit6_ext hu hv (fun i hi => hag i hi (by omega))]; exact h
    · intro h
      exact h.2 v hv (fun i _ _ => rfl)
  | j + 1, hj, v, hv => by
    have ih := fbs_FP a m j (by omega)
    cases hb : m.testBit j with
    | false =>
      have e : fbs a m (j + 1) = fbs a m j := by simp [fbs, hb]
      rw [e, ih v hv]
      have hiff : ∀ i, (i < j ∧ m.testBit i = true) ↔ (i < j + 1 ∧ m.testBit i = true) := fun i => ⟨fun h => ⟨by omega, h.2⟩, fun h => by
        by_cases hij : i = j
        · rw [hij, hb] at h; exact absurd h.2 (by decide)
        · exact ⟨by omega, h.2⟩⟩
      constructor
      · intro h
        exact ⟨fun i hi hm => h.1 i (((hiff i).mpr ⟨hi, hm⟩).1) hm, fun u hu hag => h.2 u hu (fun i hi hn => hag i hi (fun q => hn ((hiff i).mpr q)))⟩
      · intro h
        exact ⟨fun i hi hm => h.1 i (by omega) hm, fun u hu hag => h.2 u hu (fun i hi hn => hag i hi (fun q => hn ((hiff i).mp q)))⟩
    | true =>
      have e : fbs a m (j + 1) = fbs a m j &&& (j_lushr (fbs a m j) ((1 : Int32) <<< (nI j &&& 31)) &&& lowN j) := by simp [fbs, hb]
      have hp : 2 ^ j < 64 := Nat.pow_lt_pow_right (n := 6) (by decide) (by omega)
      rw [e, zt_and, zt_and, p2_nI j (by omega), zt_ushr _ hp, zt_low j (by omega) v hv]
      cases hvj : v.testBit j with
      | true =>
        simp only [Bool.not_true, Bool.and_false, Bool.false_eq_true, false_iff]
        intro h
        have := h.1 j (by omega) hb
        rw [hvj] at this; cases this
      | false =>
        obtain ⟨e2, h64⟩ := up_bit v hv j (by omega) hvj
        have hx : ∀ i, (v ^^^ 2 ^ j).testBit i = if i = j then true else v.testBit i := fun i => by
          rw [Nat.testBit_xor, Nat.testBit_two_pow]
          by_cases hij : i = j
          · subst hij; simp [hvj]
          · simp [hij, show ¬ j = i from fun z => hij z.symm]
        rw [e2]
        simp only [Bool.not_false, Bool.and_true, Bool.and_eq_true, ih v hv, ih _ h64]
        constructor
        · intro ⟨h1, h2⟩
          refine ⟨fun i hi hm => ?_, fun u hu hag => ?_⟩
          · by_cases hij : i = j
            · rw [hij]; exact hvj
            · exact h1.1 i (by omega) hm
          · cases huj : u.testBit j with
            | false =>
              refine h1.2 u hu (fun i hi hn => ?_)
              by_cases hij : i = j
              · rw [hij, huj, hvj]
              · exact hag i hi (fun q => hn ⟨by omega, q.2⟩)
            | true =>
              refine h2.2 u hu (fun i hi hn => ?_)
              rw [hx]
              by_cases hij : i = j
              · rw [if_pos hij, hij, huj]
              · rw [if_neg hij]; exact hag i hi (fun q => hn ⟨by omega, q.2⟩)
        · intro h
          refine ⟨⟨fun i hi hm => h.1 i (by omega) hm, fun u hu hag => h.2 u hu (fun i hi hn => hag i hi (fun q => hn ⟨by omega, q.2⟩))⟩, fun i hi hm => ?_, fun u hu hag => h.2 u hu (fun i hi hn => ?_)⟩
          · rw [hx, if_neg (by omega)]; exact h.1 i (by omega) hm
          · have hij : i ≠ j := fun z => hn ⟨by omega, by rw [z]; exact hb⟩
            rw [hag i hi (fun q => hn ⟨by omega, q.2⟩), hx, if_neg hij]
theorem fbs_al {a : Int64} {m d v : Nat} (hd : d ≤ 6) (hv : v < 64) (h : zt (fbs a m d) v = true) : zt a v = true := ((fbs_FP a m d hd v hv).mp h).2 v hv (fun i _ _ => rfl)
/-! the reference's isFree -/
def zall (p : Nat → Bool) : Nat → Bool
  | 0 => true
  | n + 1 => zall p n && p n
theorem zall_t {p : Nat → Bool} : ∀ {n : Nat}, zall p n = true ↔ ∀ k, k < n → p k = true
  | 0 => ⟨fun _ k hk => by omega, fun _ => rfl⟩
  | n + 1 => by
    rw [zall, Bool.and_eq_true, zall_t]
    exact ⟨fun h k hk => by
      rcases Nat.lt_or_ge k n with q | q
      · exact h.1 k q
      · rw [show k = n by omega]; exact h.2, fun h => ⟨fun k hk => h k (by omega), h n (by omega)⟩⟩
theorem off_nI : ∀ v, v < 64 → ∀ m, m < 64 → nI v &&& (nI m ^^^ (-1 : Int32)) = nI (v &&& (63 ^^^ m)) := by decide +kernel
theorem off_bit : ∀ m, m < 64 → ∀ i, i < 6 → (63 ^^^ m).testBit i = !m.testBit i := by decide +kernel
theorem m_isFree {c : Nat → Int32} {d m b : Nat} {a : Int64} (h : MN c d (zt a)) (ha : ∀ v, 2 ^ d ≤ v → zt a v = false) (hm : m < 2 ^ d) (hb : b < 2 ^ d) : f_X7_isFree (nI m) (nI b) c = some (bI (zt (fbs a m d) b)) := by
  have hd := h.2.1
  have h6 := p2_le hd
  refine zjp_eq.trans ?_
  rw [nx_and]
  have hbm : b &&& m < 64 := Nat.lt_of_le_of_lt Nat.and_le_left (by omega)
  have fin : ∀ s0 : Bool, s0 = decide (b &&& m = 0) → zl2 (R := rt_X7_isFree) (fun k15 (i3_15 : Int32) (i4_15 : Int32) => zob (f_X7_nodes c) (fun u1 => if u1 ≤ i4_15 then zgd (isb i3_15) (some i3_15) else (if i3_15 = 0 then zgd (isb i3_15) (some i3_15) else zjp (T := Int32 → Option rt_X7_isFree) (fun (s0_52 : Int32) => zbd (i4_15 + 1) (fun x2 => k15 s0_52 x2)) (fun K52 => zjp (T := Option rt_X7_isFree) (K52 1) (fun K47 => if (i4_15 &&& (nI m ^^^ (-1 : Int32))) = nI b then zob (f_X7_lives i4_15 c) (fun u3 => if u3 = 0 then K52 0 else K47) else K47))))) zfu (bI s0) 0 = some (bI (zt (fbs a m d) b)) := by
    intro s0 hs0
    refine wp_eq ?_
    have hfinal : (s0 && zall (fun v => !(v &&& (63 ^^^ m) == b) || zt a v) (2 ^ d)) = zt (fbs a m d) b := by
      rw [Bool.eq_iff_iff, fbs_FP a m d hd b (by omega), Bool.and_eq_true, zall_t, hs0]
      have h63 : ∀ v, v < 64 → ((v &&& (63 ^^^ m) = b) ↔ ∀ i, i < 6 → (v.testBit i && !m.testBit i) = b.testBit i) := fun v hv => by
        constructor
        · intro e i hi
          rw [← e, Nat.testBit_and, off_bit m (by omega) i hi]
        · intro e
          refine bit6_ext (Nat.lt_of_le_of_lt Nat.and_le_left hv) (by omega) (fun i hi => ?_)
          rw [Nat.testBit_and, off_bit m (by omega) i hi, e i hi]
      have hbit : ∀ i, m.testBit i = true → i < d := fun i hi => by
        rcases Nat.lt_or_ge i d with q | q
        · exact q
        · rw [Nat.testBit_lt_two_pow (Nat.lt_of_lt_of_le hm (Nat.pow_le_pow_right (by decide) q))] at hi; cases hi
      constructor
      · intro ⟨h1, h2⟩
        have h1 : b &&& m = 0 := by simpa using h1
        have hclr : ∀ i, m.testBit i = true → b.testBit i = false := fun i hi => by
          have := congrArg (fun z => Nat.testBit z i) h1
          simpa [Nat.testBit_and, hi] using this
        refine ⟨fun i _ hi => hclr i hi, fun u hu hag => ?_⟩
        have hub : u < 2 ^ d := by
          rcases Nat.lt_or_ge u (2 ^ d) with q | q
          · exact q
          · exfalso
            obtain ⟨i, hi1, hi2⟩ := Nat.exists_ge_and_testBit_of_ge_two_pow q
            have hi6 : i < 6 := by
              rcases Nat.lt_or_ge i 6 with z | z
              · exact z
              · rw [Nat.testBit_lt_two_pow (Nat.lt_of_lt_of_le hu (Nat.pow_le_pow_right (n := 2) (by decide) z))] at hi2; cases hi2
            rw [hag i hi6 (by omega), Nat.testBit_lt_two_pow (Nat.lt_of_lt_of_le hb (Nat.pow_le_pow_right (by decide) hi1))] at hi2
            cases hi2
        have h3 := h2 u hub
        rw [Bool.or_eq_true] at h3
        rcases h3 with h3 | h3
        · exfalso
          simp at h3
          refine h3 ((h63 u hu).mpr (fun i hi => ?_))
          cases hmi : m.testBit i with
          | true => rw [hclr i hmi]; simp
          | false => rw [hag i hi (by simp [hmi])]; simp
        · exact h3
      · intro h1
        refine ⟨by
          rw [decide_eq_true_eq]
          refine bit6_ext hbm (by decide) (fun i hi => ?_)
          rw [Nat.testBit_and, Nat.zero_testBit]
          cases hmi : m.testBit i with
          | false => simp
          | true => rw [h1.1 i (hbit i hmi) hmi]; rfl, fun v hv => ?_⟩
        rw [Bool.or_eq_true]
        by_cases hq : v &&& (63 ^^^ m) = b
        · refine Or.inr (h1.2 v (by omega) (fun i hi hn => ?_))
          have e := (h63 v (by omega)).mp hq i hi
          have hmi : m.testBit i = false := by
            cases hmi : m.testBit i with
            | false => rfl
            | true => exact absurd ⟨hbit i hmi, hmi⟩ hn
          rw [← e, hmi]; simp
        · exact Or.inl (by simpa using hq)
    rw [← hfinal]
    refine zl2_wp (fun i3 i4 => ∃ j, j ≤ 2 ^ d ∧ i4 = nI j ∧ i3 = bI (s0 && zall (fun v => !(v &&& (63 ^^^ m) == b) || zt a v) j)) (fun _ i4 => 64 - i4.toNatClampNeg) (fun K i3 i4 hI ih => ?_) _ 0 ⟨0, Nat.zero_le _, rfl, by simp [zall]⟩ (by decide)
    obtain ⟨j, hj, rfl, rfl⟩ := hI
    refine wp_ob (m_nodes h) ?_
    by_cases hj2 : j < 2 ^ d
    · refine wp_f (nI_ge hj2 (by omega)) ?_
      cases hz : (s0 && zall (fun v => !(v &&& (63 ^^^ m) == b) || zt a v) j) with
      | false =>
        refine wp_t rfl (wp_gd rfl (wp_some ?_))
        have : (s0 && zall (fun v => !(v &&& (63 ^^^ m) == b) || zt a v) (2 ^ d)) = false := by
          rw [Bool.and_eq_false_iff] at hz ⊢
          rcases hz with hz | hz
          · exact Or.inl hz
          · refine Or.inr (Bool.eq_false_iff.mpr (fun q => ?_))
            rw [zall_t] at q
            rw [zall_t.mpr (fun k hk => q k (by omega))] at hz
            cases hz
        rw [this]
      | true =>
        refine wp_f (by decide) (wp_jp (wp_jp ?_))
        have hz2 : s0 = true ∧ zall (fun v => !(v &&& (63 ^^^ m) == b) || zt a v) j = true := by rwa [Bool.and_eq_true] at hz
        have go : ∀ x : Bool, (!(j &&& (63 ^^^ m) == b) || zt a j) = x → wp (zbd (nI j + 1) fun x2 => K (bI x) x2) (fun z => z = bI (s0 && zall (fun v => !(v &&& (63 ^^^ m) == b) || zt a v) (2 ^ d))) := fun x hx => by
          refine wp_bd ?_
          rw [nI_1]
          refine ih _ _ ⟨j + 1, by omega, rfl, ?_⟩ (by rw [nI_clamp (by omega), nI_clamp (by omega)]; omega)
          rw [zall, hz2.1, hz2.2, hx]; rfl
        rw [off_nI j (by omega) m (by omega)]
        by_cases hq : j &&& (63 ^^^ m) = b
        · refine wp_t (by rw [hq]) (wp_ob (m_lives h hj2) ?_)
          cases hal : zt a j with
          | false => exact wp_t rfl (go false (by simp [hq, hal]))
          | true => exact wp_f (by decide) (go true (by simp [hal]))
        · refine wp_f (fun z => hq ((nI_eq (Nat.lt_of_le_of_lt Nat.and_le_left (by omega)) (by omega)).mp z)) ?_
          exact go true (by simp [hq])
    · have e : j = 2 ^ d := by omega
      subst e
      exact wp_t (nI_le (Nat.le_refl _) (by omega)) (wp_gd (isb_bI _) (wp_some rfl))
  by_cases hq : b &&& m = 0
  · exact (if_pos (by rw [hq]; rfl)).trans (fin true (by simp [hq]))
  · exact (if_neg (fun z => hq ((nI_eq (b := 0) (by omega) (by decide)).mp z))).trans (fin false (by simp [hq]))
theorem ct_cut {p : Nat → Bool} : ∀ {m n : Nat}, m ≤ n → (∀ k, m ≤ k → k < n → p k = false) → fb_ct p m = fb_ct p n
  | m, 0, h, _ => by rw [show m = 0 by omega]
  | m, n + 1, h, hp => by
    rcases Nat.lt_or_ge m (n + 1) with q | q
    · rw [fb_ct_succ, hp n (by omega) (by omega), ct_cut (show m ≤ n by omega) (fun k h1 h2 => hp k h1 (by omega))]; rfl
    · rw [show m = n + 1 by omega]
theorem fbs_cut {a : Int64} {d : Nat} (hd : d ≤ 6) (ha : ∀ v, 2 ^ d ≤ v → zt a v = false) (m : Nat) : fb_ct (zt (fbs a m d)) 64 = fb_ct (zt (fbs a m d)) (2 ^ d) :=
  (ct_cut (p2_le hd) (fun k h1 h2 => by
    cases h : zt (fbs a m d) k with
    | false => rfl
    | true =>
      have := fbs_al hd h2 h
      rw [ha k h1] at this; cases this)).symm
/-! their number -/
def fsn (a : Int64) (d k : Nat) (n : Nat) : Nat := fb_sm (fun m => if pc m = k then fb_ct (zt (fbs a m d)) (2 ^ d) else 0) n
theorem fsn_le {a : Int64} {d k n : Nat} (hd : d ≤ 6) (hn : n ≤ 64) : fsn a d k n ≤ 4096 := by
  have h6 := p2_le hd
  have h := fb_sm_le (f := fun m => if pc m = k then fb_ct (zt (fbs a m d)) (2 ^ d) else 0) (g := fun _ => 64) (n := n) (fun m _ => by
    show (if pc m = k then _ else 0) ≤ 64
    have := ct_le (zt (fbs a m d)) (2 ^ d)
    split <;> omega)
  rw [fb_sm_const] at h
  have : n * 64 ≤ 64 * 64 := Nat.mul_le_mul_right 64 hn
  exact Nat.le_trans h this
theorem s_freeL {d k : Nat} {a : Int64} (hd : d ≤ 6) (hk : k ≤ 6) (ha : ∀ v, 2 ^ d ≤ v → zt a v = false) : zl2 (R := rt_X6_freeSubcubes) (fun k29 (i2_29 : Int32) (i3_29 : Int32) =>
    zob (f_X6_nodeCount (nI d)) (fun u1 => if u1 ≤ i3_29 then some (.inr i2_29) else zob (f_J6_bitCount_0f7a4 i3_29) (fun u2 => zjp (T := Int32 → Option rt_X6_freeSubcubes) (fun (i2_56 : Int32) => zbd (i3_29 + 1) (fun x3 => k29 i2_56 x3)) (fun K56 => if u2 = nI k then zob (f_X6_freeBases i3_29 (nI d) a) (fun u4 => zob (f_J13_bitCount_95d88 u4) (fun u5 => zbd (i2_29 + u5) (fun x6 => K56 x6))) else K56 i2_29)))) zfu 0 0 = some (.inr (nI (fsn a d k (2 ^ d)))) := by
  have h6 := p2_le hd
  refine zl2_iter (2 ^ d) (fun j => nI (fsn a d k j)) (fun j => nI j) (by omega) (fun K j hj => ?_) (fun K => (zob_eq (s_nodeCount hd)).trans (if_pos (nI_le (Nat.le_refl _) (by omega)))) rfl nI_0
  refine (zob_eq (s_nodeCount hd)).trans ((if_neg (nI_ge hj (by omega))).trans ((zob_eq (s_bitCount j (by omega))).trans (zjp_eq.trans ?_)))
  have e : fsn a d k (j + 1) = fsn a d k j + (if pc j = k then fb_ct (zt (fbs a j d)) (2 ^ d) else 0) := fb_sm_succ _ j
  have hp := pc_le j
  by_cases hq : pc j = k
  · refine (if_pos (by rw [hq])).trans ((zob_eq (s_freeBases a hd (by omega))).trans ((zob_eq (s_popL _)).trans (zbd_eq.trans (zbd_eq.trans ?_))))
    rw [fbs_cut hd ha, nI_add, nI_1, e, if_pos hq]
  · refine (if_neg (fun z => hq ((nI_eq (by omega) (by omega)).mp z))).trans (zbd_eq.trans ?_)
    rw [nI_1, e, if_neg hq]; rfl
theorem m_freeL {c : Nat → Int32} {d k : Nat} {a : Int64} {R : Type} (X : Int32 → Option R) (h : MN c d (zt a)) (ha : ∀ v, 2 ^ d ≤ v → zt a v = false) (hk : k ≤ 6) : zl2 (R := R) (fun k32 (i2_32 : Int32) (i3_32 : Int32) =>
    zob (f_X7_nodes c) (fun u4 => if u4 ≤ i3_32 then X i2_32 else zl2 (R := R) (fun k43 (i2_43 : Int32) (i4_43 : Int32) => zob (f_X7_nodes c) (fun u5 => zjp (T := Option R) (zbd (i3_32 + 1) (fun x6 => k32 i2_43 x6)) (fun K84 => if u5 ≤ i4_43 then K84 else zob (f_X7_ones i3_32) (fun u7 => if u7 = nI k then zob (f_X7_isFree i3_32 i4_43 c) (fun u8 => zjp (T := Int32 → Int32 → Option R) (fun (s0_76 : Int32) (s1_76 : Int32) => zbd (s0_76 + s1_76) (fun x9 => zbd (i4_43 + 1) (fun x10 => k43 x9 x10))) (fun K76 => if u8 = 0 then K76 i2_43 0 else K76 i2_43 1)) else K84)))) zfu i2_32 0)) zfu 0 0 = X (nI (fsn a d k (2 ^ d))) := by
  have hd := h.2.1
  have h6 := p2_le hd
  refine zl2_iter (2 ^ d) (fun j => nI (fsn a d k j)) (fun j => nI j) (by omega) (fun K j hj => ?_) (fun K => (zob_eq (m_nodes h)).trans (if_pos (nI_le (Nat.le_refl _) (by omega)))) rfl nI_0
  refine (zob_eq (m_nodes h)).trans ((if_neg (nI_ge hj (by omega))).trans ?_)
  have e : fsn a d k (j + 1) = fsn a d k j + (if pc j = k then fb_ct (zt (fbs a j d)) (2 ^ d) else 0) := fb_sm_succ _ j
  have hp := pc_le j
  have hones : f_X7_ones (nI j) = some (nI (pc j)) := (zob_eq (s_far0 j (by omega))).trans rfl
  by_cases hq : pc j = k
  · refine zl2_iter (2 ^ d) (fun b => nI (fsn a d k j + fb_ct (zt (fbs a j d)) b)) (fun b => nI b) (by omega) (fun K2 b hb => ?_) (fun K2 => ?_) rfl nI_0
    · refine (zob_eq (m_nodes h)).trans (zjp_eq.trans ((if_neg (nI_ge hb (by omega))).trans ((zob_eq hones).trans ((if_pos (by rw [hq])).trans ((zob_eq (m_isFree h ha hj hb)).trans (zjp_eq.trans ?_))))))
      cases hz : zt (fbs a j d) b with
      | false =>
        refine (if_pos rfl).trans (zbd_eq.trans (zbd_eq.trans ?_))
        rw [Int32.add_zero, nI_1, fb_ct_succ, hz]; rfl
      | true =>
        refine (if_neg (by decide)).trans (zbd_eq.trans (zbd_eq.trans ?_))
        rw [nI_1, nI_1, fb_ct_succ, hz]; rfl
    · refine (zob_eq (m_nodes h)).trans (zjp_eq.trans ((if_pos (nI_le (Nat.le_refl _) (by omega))).trans (zbd_eq.trans ?_)))
      rw [nI_1, e, if_pos hq]
  · refine zl2_iter 0 (fun b => nI (fsn a d k j)) (fun b => nI b) (by omega) (fun K2 b hb => by omega) (fun K2 => ?_) rfl nI_0
    refine (zob_eq (m_nodes h)).trans (zjp_eq.trans ((if_neg (nI_ge (p2_pos d) (by omega))).trans ((zob_eq hones).trans ((if_neg (fun z => hq ((nI_eq (by omega) (by omega)).mp z))).trans (zbd_eq.trans ?_)))))
    rw [nI_1, e, if_neg hq]; rfl
/-! the largest -/
def mI (o : Nat) : Int32 := if o = 0 then -1 else nI (o - 1)
theorem mI_le {q o : Nat} (hq : q < 2 ^ 31) (ho : o < 2 ^ 31) : nI q ≤ mI o ↔ q + 1 ≤ o := by
  rw [mI]
  by_cases h : o = 0
  · rw [if_pos h, Int32.le_iff_toInt_le, nI_toInt hq, show ((-1 : Int32)).toInt = -1 from by decide]
    omega
  · rw [if_neg h, nI_leI hq (by omega)]
    omega
def fbb (a : Int64) (d m : Nat) : Nat := zfst (fun v => zt (fbs a m d) v) (2 ^ d)
/-- found, and one more than its dimension (0: none) -/
def lgs (a : Int64) (d : Nat) : Nat → Int32 × Nat
  | 0 => (-1, 0)
  | m + 1 => if fbb a d m < 2 ^ d ∧ (lgs a d m).2 < pc m + 1 then (nI (64 * m + fbb a d m), pc m + 1) else lgs a d m
theorem lgs_le (a : Int64) (d : Nat) : ∀ m, (lgs a d m).2 ≤ 7
  | 0 => by simp [lgs]
  | m + 1 => by
    rw [lgs]
    split
    · have := pc_le m; show pc m + 1 ≤ 7; omega
    · exact lgs_le a d m
theorem lg_cmp0 (x y : Int64) : lg_cmp x y = 0 ↔ x = y := by
  unfold lg_cmp
  by_cases h : x > y
  · rw [if_pos h]
    constructor
    · intro q; exact absurd q (by decide)
    · intro q; subst q; exact (Int64.lt_irrefl h).elim
  · rw [if_neg h]
    by_cases h2 : x = y
    · simp [h2]
    · rw [if_neg h2]
      constructor
      · intro q; exact absurd q (by decide)
      · intro q; exact absurd q h2
theorem fbs_none {a : Int64} {d m : Nat} (hd : d ≤ 6) (ha : ∀ v, 2 ^ d ≤ v → zt a v = false) : fbs a m d = 0 ↔ ¬ fbb a d m < 2 ^ d := by
  obtain ⟨h1, h2, h3⟩ := zfst_spec (fun v => zt (fbs a m d) v) (2 ^ d)
  constructor
  · intro e q
    have := h3 q
    rw [e] at this
    simp [zt_0] at this
  · intro q
    have e : fbb a d m = 2 ^ d := Nat.le_antisymm h1 (by omega)
    refine zt_ext (fun v hv => ?_)
    rw [zt_0]
    rcases Nat.lt_or_ge v (2 ^ d) with z | z
    · exact h2 v (by rw [show zfst _ _ = 2 ^ d from e]; exact z)
    · cases h : zt (fbs a m d) v with
      | false => rfl
      | true => have := fbs_al hd hv h; rw [ha v z] at this; cases this
theorem s_largest {d : Nat} {a : Int64} (hd : d ≤ 6) (ha : ∀ v, 2 ^ d ≤ v → zt a v = false) : f_X6_largestSubcube (nI d) a = some (lgs a d (2 ^ d)).1 := by
  have h6 := p2_le hd
  refine zbd_eq.trans (zbd_eq.trans ?_)
  refine zl3_iter (2 ^ d) (fun j => (lgs a d j).1) (fun j => mI (lgs a d j).2) (fun j => nI j) (by omega) (fun K j hj => ?_) (fun K => (zob_eq (s_nodeCount hd)).trans (if_pos (nI_le (Nat.le_refl _) (by omega)))) rfl rfl nI_0
  have hle := lgs_le a d j
  have hp := pc_le j
  refine (zob_eq (s_nodeCount hd)).trans ((if_neg (nI_ge hj (by omega))).trans ((zob_eq (s_freeBases a hd (by omega))).trans (zjp_eq.trans ?_)))
  have e : lgs a d (j + 1) = if fbb a d j < 2 ^ d ∧ (lgs a d j).2 < pc j + 1 then (nI (64 * j + fbb a d j), pc j + 1) else lgs a d j := rfl
  by_cases h1 : fbb a d j < 2 ^ d
  · refine (if_neg (fun z => (fbs_none hd ha).mp ((lg_cmp0 _ _).mp z) h1)).trans ((zob_eq (s_bitCount j (by omega))).trans ?_)
    by_cases h2 : (lgs a d j).2 < pc j + 1
    · refine (if_neg (fun z => by have := (mI_le (by omega) (by omega)).mp z; omega)).trans ?_
      have hs := zfst_spec (fun v => zt (fbs a j d) v) (2 ^ d)
      refine (zob_eq (s_bitCount j (by omega))).trans ((zob_eq (s_leastNode _ (hs.2.2 h1) hs.2.1)).trans (zbd_eq.trans (zbd_eq.trans ?_)))
      rw [e, if_pos ⟨h1, h2⟩, nI_1]
      show K (nI 64 * nI j + nI (fbb a d j)) (nI (pc j)) _ = K (nI (64 * j + fbb a d j)) (mI (pc j + 1)) _
      rw [show nI 64 * nI j = nI (64 * j) from (Int32.ofNat_mul 64 j).symm, nI_add, mI, if_neg (by omega), Nat.add_sub_cancel]
    · refine (if_pos ((mI_le (by omega) (by omega)).mpr (by omega))).trans (zbd_eq.trans ?_)
      rw [e, if_neg (fun z => h2 z.2), nI_1]
  · refine (if_pos ((lg_cmp0 _ _).mpr ((fbs_none hd ha).mpr h1))).trans (zbd_eq.trans ?_)
    rw [e, if_neg (fun z => h1 z.1), nI_1]
theorem m_largest {c : Nat → Int32} {d : Nat} {a : Int64} (h : MN c d (zt a)) (ha : ∀ v, 2 ^ d ≤ v → zt a v = false) : f_X7_largest c = some (lgs a d (2 ^ d)).1 := by
  have hd := h.2.1
  have h6 := p2_le hd
  refine zbd_eq.trans (zbd_eq.trans ?_)
  refine zl3_iter (2 ^ d) (fun j => (lgs a d j).1) (fun j => mI (lgs a d j).2) (fun j => nI j) (by omega) (fun K j hj => ?_) (fun K => (zob_eq (m_nodes h)).trans (if_pos (nI_le (Nat.le_refl _) (by omega)))) rfl rfl nI_0
  have hle := lgs_le a d j
  have hp := pc_le j
  have e : lgs a d (j + 1) = if fbb a d j < 2 ^ d ∧ (lgs a d j).2 < pc j + 1 then (nI (64 * j + fbb a d j), pc j + 1) else lgs a d j := rfl
  have hones : f_X7_ones (nI j) = some (nI (pc j)) := (zob_eq (s_far0 j (by omega))).trans rfl
  have hs := zfst_spec (fun v => zt (fbs a j d) v) (2 ^ d)
  refine (zob_eq (m_nodes h)).trans ((if_neg (nI_ge hj (by omega))).trans ?_)
  -- the inner loop goes to the first free base, or to the end
  by_cases h2 : (lgs a d j).2 < pc j + 1
  · have stay : ∀ (K2 : Int32 → Int32 → Int32 → Option rt_X7_largest) b, b < fbb a d j → b < 2 ^ d → (zob (f_X7_nodes c) (fun u4 => zjp (T := Option rt_X7_largest) (zbd (nI j + 1) (fun x5 => K (lgs a d j).1 (mI (lgs a d j).2) x5)) (fun K63 => if u4 ≤ nI b then K63 else zob (f_X7_ones (nI j)) (fun u6 => if u6 ≤ mI (lgs a d j).2 then K63 else zob (f_X7_isFree (nI j) (nI b) c) (fun u7 => zjp (T := Int32 → Int32 → Option rt_X7_largest) (fun (i1_57 : Int32) (i2_57 : Int32) => zbd (nI b + 1) (fun x8 => K2 i1_57 i2_57 x8)) (fun K57 => if u7 = 0 then K57 (lgs a d j).1 (mI (lgs a d j).2) else zob (f_X7_ones (nI j)) (fun u9 => zbd (((64 : Int32) * nI j) + nI b) (fun x10 => K57 x10 u9)))))))) = K2 (lgs a d j).1 (mI (lgs a d j).2) (nI (b + 1)) := fun K2 b hb hb2 => by
      refine (zob_eq (m_nodes h)).trans (zjp_eq.trans ((if_neg (nI_ge hb2 (by omega))).trans ((zob_eq hones).trans ((if_neg (fun z => by have := (mI_le (by omega) (by omega)).mp z; omega)).trans ((zob_eq (m_isFree h ha hj hb2)).trans (zjp_eq.trans ?_))))))
      rw [hs.2.1 b hb]
      refine (if_pos rfl).trans (zbd_eq.trans ?_)
      rw [nI_1]
    by_cases h1 : fbb a d j < 2 ^ d
    · refine zl3_iter (fbb a d j + 1) (fun b => if b ≤ fbb a d j then (lgs a d j).1 else nI (64 * j + fbb a d j)) (fun b => if b ≤ fbb a d j then mI (lgs a d j).2 else nI (pc j)) (fun b => nI b) (by omega) (fun K2 b hb => ?_) (fun K2 => ?_) rfl rfl nI_0
      · by_cases hq : b < fbb a d j
        · simp only [if_pos (show b ≤ fbb a d j by omega), if_pos (show b + 1 ≤ fbb a d j by omega)]
          exact stay K2 b hq (by omega)
        · have eb : b = fbb a d j := by omega
          simp only [if_pos (show b ≤ fbb a d j by omega), if_neg (show ¬ b + 1 ≤ fbb a d j by omega)]
          refine (zob_eq (m_nodes h)).trans (zjp_eq.trans ((if_neg (nI_ge (by omega) (by omega))).trans ((zob_eq hones).trans ((if_neg (fun z => by have := (mI_le (by omega) (by omega)).mp z; omega)).trans ((zob_eq (m_isFree h ha hj (show b < 2 ^ d by omega))).trans (zjp_eq.trans ?_))))))
          have hz : zt (fbs a j d) b = true := by rw [eb]; exact hs.2.2 h1
          rw [hz]
          refine (if_neg (by decide)).trans ((zob_eq hones).trans (zbd_eq.trans (zbd_eq.trans ?_)))
          rw [nI_1, ← eb, show (64 : Int32) * nI j = nI (64 * j) from (Int32.ofNat_mul 64 j).symm, nI_add]
      · simp only [if_neg (show ¬ fbb a d j + 1 ≤ fbb a d j by omega)]
        have hx : ∀ X Y : Option rt_X7_largest, X = Y → X = Y := fun _ _ z => z
        by_cases hq : 2 ^ d ≤ fbb a d j + 1
        · refine (zob_eq (m_nodes h)).trans (zjp_eq.trans ((if_pos (nI_le hq (by omega))).trans (zbd_eq.trans ?_)))
          rw [e, if_pos ⟨h1, h2⟩, nI_1]
          show _ = K (nI (64 * j + fbb a d j)) (mI (pc j + 1)) _
          rw [mI, if_neg (by omega), Nat.add_sub_cancel]
        · refine (zob_eq (m_nodes h)).trans (zjp_eq.trans ((if_neg (nI_ge (by omega) (by omega))).trans ((zob_eq hones).trans ((if_pos (nI_le (Nat.le_refl _) (by omega))).trans (zbd_eq.trans ?_)))))
          rw [e, if_pos ⟨h1, h2⟩, nI_1]
          show _ = K (nI (64 * j + fbb a d j)) (mI (pc j + 1)) _
          rw [mI, if_neg (by omega), Nat.add_sub_cancel]
    · have eb : fbb a d j = 2 ^ d := Nat.le_antisymm hs.1 (by omega)
      refine zl3_iter (2 ^ d) (fun b => (lgs a d j).1) (fun b => mI (lgs a d j).2) (fun b => nI b) (by omega) (fun K2 b hb => stay K2 b (by omega) hb) (fun K2 => ?_) rfl rfl nI_0
      refine (zob_eq (m_nodes h)).trans (zjp_eq.trans ((if_pos (nI_le (Nat.le_refl _) (by omega))).trans (zbd_eq.trans ?_)))
      rw [e, if_neg (fun z => h1 z.1), nI_1]
  · refine zl3_iter 0 (fun b => (lgs a d j).1) (fun b => mI (lgs a d j).2) (fun b => nI b) (by omega) (fun K2 b hb => by omega) (fun K2 => ?_) rfl rfl nI_0
    refine (zob_eq (m_nodes h)).trans (zjp_eq.trans ((if_neg (nI_ge (p2_pos d) (by omega))).trans ((zob_eq hones).trans ((if_pos ((mI_le (by omega) (by omega)).mpr (by omega))).trans (zbd_eq.trans ?_)))))
    rw [e, if_neg (fun z => h2 z.2), nI_1]
